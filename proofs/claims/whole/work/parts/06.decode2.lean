theorem dX11_does_31 : decode cX11_does 31 = .ok (.getfield 114, 3) := by decide +kernel
theorem dX11_does_34 : decode cX11_does 34 = .ok (.aload_n 3, 1) := by decide +kernel
theorem dX11_does_35 : decode cX11_does 35 = .ok (.iload_n 1, 1) := by decide +kernel
theorem dX11_does_36 : decode cX11_does 36 = .ok (.iload_n 2, 1) := by decide +kernel
theorem dX11_does_37 : decode cX11_does 37 = .ok (.iconst 1, 1) := by decide +kernel
theorem dX11_does_38 : decode cX11_does 38 = .ok (.if_icmp .ne 7, 3) := by decide +kernel
theorem dX11_does_41 : decode cX11_does 41 = .ok (.iconst 2, 1) := by decide +kernel
theorem dX11_does_42 : decode cX11_does 42 = .ok (.goto 4, 3) := by decide +kernel
theorem dX11_does_45 : decode cX11_does 45 = .ok (.iconst 1, 1) := by decide +kernel
theorem dX11_does_46 : decode cX11_does 46 = .ok (.invokevirtual 179, 3) := by decide +kernel
theorem dX11_does_49 : decode cX11_does 49 = .ok (.ireturn, 1) := by decide +kernel
set_option maxRecDepth 20000 in
theorem ggX11_undo_X0_dropLast : GoodIn wsX11_undo wsX0_dropLast := goodIn_r _ [8, 9, 27, 28, 29, 30] (by decide +kernel) (by decide +kernel)
set_option maxRecDepth 20000 in
theorem gX11_undo_X0_dropLast : GoodIn wsX11_undo (wsV RX11 184 RX0 yX0_dropLast wsX0_dropLast) := goodIn_app (goodIn_of _ (by decide +kernel)) ggX11_undo_X0_dropLast
theorem dX11_undo_0 : decode cX11_undo 0 = .ok (.aload_n 0, 1) := by decide +kernel
theorem dX11_undo_1 : decode cX11_undo 1 = .ok (.getfield 63, 3) := by decide +kernel
theorem dX11_undo_4 : decode cX11_undo 4 = .ok (.getfield 114, 3) := by decide +kernel
theorem dX11_undo_7 : decode cX11_undo 7 = .ok (.getfield 183, 3) := by decide +kernel
theorem dX11_undo_10 : decode cX11_undo 10 = .ok (.ifCond .ne 5, 3) := by decide +kernel
theorem dX11_undo_13 : decode cX11_undo 13 = .ok (.iconst (-1), 1) := by decide +kernel
theorem dX11_undo_14 : decode cX11_undo 14 = .ok (.ireturn, 1) := by decide +kernel
theorem dX11_undo_15 : decode cX11_undo 15 = .ok (.aload_n 0, 1) := by decide +kernel
theorem dX11_undo_16 : decode cX11_undo 16 = .ok (.getfield 63, 3) := by decide +kernel
theorem dX11_undo_19 : decode cX11_undo 19 = .ok (.getfield 114, 3) := by decide +kernel
theorem dX11_undo_22 : decode cX11_undo 22 = .ok (.invokevirtual 184, 3) := by decide +kernel
theorem dX11_undo_25 : decode cX11_undo 25 = .ok (.aload_n 0, 1) := by decide +kernel
theorem dX11_undo_26 : decode cX11_undo 26 = .ok (.getfield 63, 3) := by decide +kernel
theorem dX11_undo_29 : decode cX11_undo 29 = .ok (.getfield 114, 3) := by decide +kernel
theorem dX11_undo_32 : decode cX11_undo 32 = .ok (.getfield 183, 3) := by decide +kernel
theorem dX11_undo_35 : decode cX11_undo 35 = .ok (.ireturn, 1) := by decide +kernel
set_option maxRecDepth 20000 in
theorem ggX11_book_X6_readBook : GoodIn wsX11_book wsX6_readBook := goodIn_r _ [15, 16, 17, 18, 19, 20, 21, 14, 22, 23, 24, 25, 26, 27, 28, 29, 30, 31, 32, 33, 34, 35, 36, 37, 38, 39, 40, 41, 42, 43, 44, 45, 46, 47, 48, 49, 50, 51, 52, 53, 54, 55, 56, 57, 58, 59, 60, 61, 62, 63, 64, 65, 66, 67, 68, 69, 70, 71, 72, 73, 74, 75, 76, 77, 78, 79, 80, 81, 82, 83, 84, 85, 86, 87, 88, 89, 90, 91, 92, 93, 94, 95, 96, 97, 98, 99, 100, 101, 102, 103, 104, 105, 106, 107, 108, 109, 110, 111, 112, 113, 114, 115, 116, 117, 118, 119, 120, 121, 122, 123, 124, 125, 126, 127, 128, 129, 130, 131, 132, 133, 134, 135, 136, 203, 204, 205, 206, 207, 208, 209, 210, 211, 212, 213, 214, 215, 216, 217, 218, 219, 220, 221, 222, 223, 224, 225, 226, 227, 228, 229, 230, 231, 232, 233, 234, 235, 236] (by decide +kernel) (by decide +kernel)
set_option maxRecDepth 20000 in
theorem gX11_book_X6_readBook : GoodIn wsX11_book (wsV RX11 187 RX6 yX6_readBook wsX6_readBook) := goodIn_app (goodIn_of _ (by decide +kernel)) ggX11_book_X6_readBook
set_option maxRecDepth 20000 in
theorem ggX11_book_X9_cut : GoodIn wsX11_book wsX9_cut := goodIn_r _ [140, 31, 212, 213, 214, 215, 216, 217, 218, 219] (by decide +kernel) (by decide +kernel)
set_option maxRecDepth 20000 in
theorem gX11_book_X9_cut : GoodIn wsX11_book (wsV RX11 101 RX9 yX9_cut wsX9_cut) := goodIn_app (goodIn_of _ (by decide +kernel)) ggX11_book_X9_cut
set_option maxRecDepth 20000 in
theorem ggX11_book_X0_clear : GoodIn wsX11_book wsX0_clear := goodIn_r _ [145, 146, 237, 238, 239, 240] (by decide +kernel) (by decide +kernel)
set_option maxRecDepth 20000 in
theorem gX11_book_X0_clear : GoodIn wsX11_book (wsV RX11 118 RX0 yX0_clear wsX0_clear) := goodIn_app (goodIn_of _ (by decide +kernel)) ggX11_book_X0_clear
set_option maxRecDepth 20000 in
theorem ggX11_book_X0_tryDeal : GoodIn wsX11_book wsX0_tryDeal := goodIn_r _ [150, 146, 151, 152, 153, 154, 155, 156, 157, 158, 159, 144, 160, 161, 162, 163, 164, 165, 166, 167, 168, 128, 169, 170, 171, 172, 173, 174, 175, 176, 177, 178, 179, 180, 181, 182, 183, 184, 185, 237, 238, 239, 240, 220, 221, 222, 223, 224, 225, 226, 227, 228, 229, 230, 231, 232, 233, 234, 235, 236] (by decide +kernel) (by decide +kernel)
set_option maxRecDepth 20000 in
theorem gX11_book_X0_tryDeal : GoodIn wsX11_book (wsV RX11 179 RX0 yX0_tryDeal wsX0_tryDeal) := goodIn_app (goodIn_of _ (by decide +kernel)) ggX11_book_X0_tryDeal
theorem dX11_book_0 : decode cX11_book 0 = .ok (.aload_n 0, 1) := by decide +kernel
theorem dX11_book_1 : decode cX11_book 1 = .ok (.iconst 0, 1) := by decide +kernel
theorem dX11_book_2 : decode cX11_book 2 = .ok (.putfield 80, 3) := by decide +kernel
theorem dX11_book_5 : decode cX11_book 5 = .ok (.aload_n 0, 1) := by decide +kernel
theorem dX11_book_6 : decode cX11_book 6 = .ok (.getfield 21, 3) := by decide +kernel
theorem dX11_book_9 : decode cX11_book 9 = .ok (.aload_n 0, 1) := by decide +kernel
theorem dX11_book_10 : decode cX11_book 10 = .ok (.getfield 63, 3) := by decide +kernel
theorem dX11_book_13 : decode cX11_book 13 = .ok (.getfield 111, 3) := by decide +kernel
theorem dX11_book_16 : decode cX11_book 16 = .ok (.invokevirtual 187, 3) := by decide +kernel
theorem dX11_book_19 : decode cX11_book 19 = .ok (.istore_n 1, 1) := by decide +kernel
theorem dX11_book_20 : decode cX11_book 20 = .ok (.aload_n 0, 1) := by decide +kernel
theorem dX11_book_21 : decode cX11_book 21 = .ok (.getfield 12, 3) := by decide +kernel
theorem dX11_book_24 : decode cX11_book 24 = .ok (.iconst 0, 1) := by decide +kernel
theorem dX11_book_25 : decode cX11_book 25 = .ok (.invokevirtual 101, 3) := by decide +kernel
theorem dX11_book_28 : decode cX11_book 28 = .ok (.iload_n 1, 1) := by decide +kernel
theorem dX11_book_29 : decode cX11_book 29 = .ok (.ifCond .ne 14, 3) := by decide +kernel
theorem dX11_book_32 : decode cX11_book 32 = .ok (.bipush (-2), 2) := by decide +kernel
theorem dX11_book_34 : decode cX11_book 34 = .ok (.aload_n 0, 1) := by decide +kernel
theorem dX11_book_35 : decode cX11_book 35 = .ok (.getfield 21, 3) := by decide +kernel
theorem dX11_book_38 : decode cX11_book 38 = .ok (.getfield 108, 3) := by decide +kernel
theorem dX11_book_41 : decode cX11_book 41 = .ok (.isub, 1) := by decide +kernel
theorem dX11_book_42 : decode cX11_book 42 = .ok (.ireturn, 1) := by decide +kernel
theorem dX11_book_43 : decode cX11_book 43 = .ok (.aload_n 0, 1) := by decide +kernel
theorem dX11_book_44 : decode cX11_book 44 = .ok (.getfield 63, 3) := by decide +kernel
theorem dX11_book_47 : decode cX11_book 47 = .ok (.getfield 114, 3) := by decide +kernel
theorem dX11_book_50 : decode cX11_book 50 = .ok (.invokevirtual 118, 3) := by decide +kernel
theorem dX11_book_53 : decode cX11_book 53 = .ok (.iconst 0, 1) := by decide +kernel
theorem dX11_book_54 : decode cX11_book 54 = .ok (.istore_n 2, 1) := by decide +kernel
theorem dX11_book_55 : decode cX11_book 55 = .ok (.iload_n 2, 1) := by decide +kernel
theorem dX11_book_56 : decode cX11_book 56 = .ok (.aload_n 0, 1) := by decide +kernel
theorem dX11_book_57 : decode cX11_book 57 = .ok (.getfield 21, 3) := by decide +kernel
theorem dX11_book_60 : decode cX11_book 60 = .ok (.getfield 123, 3) := by decide +kernel
theorem dX11_book_63 : decode cX11_book 63 = .ok (.if_icmp .ge 57, 3) := by decide +kernel
theorem dX11_book_66 : decode cX11_book 66 = .ok (.aload_n 0, 1) := by decide +kernel
theorem dX11_book_67 : decode cX11_book 67 = .ok (.aload_n 0, 1) := by decide +kernel
theorem dX11_book_68 : decode cX11_book 68 = .ok (.getfield 63, 3) := by decide +kernel
theorem dX11_book_71 : decode cX11_book 71 = .ok (.getfield 114, 3) := by decide +kernel
theorem dX11_book_74 : decode cX11_book 74 = .ok (.aload_n 0, 1) := by decide +kernel
theorem dX11_book_75 : decode cX11_book 75 = .ok (.getfield 63, 3) := by decide +kernel
theorem dX11_book_78 : decode cX11_book 78 = .ok (.getfield 111, 3) := by decide +kernel
theorem dX11_book_81 : decode cX11_book 81 = .ok (.aload_n 0, 1) := by decide +kernel
theorem dX11_book_82 : decode cX11_book 82 = .ok (.getfield 21, 3) := by decide +kernel
theorem dX11_book_85 : decode cX11_book 85 = .ok (.getfield 190, 3) := by decide +kernel
theorem dX11_book_88 : decode cX11_book 88 = .ok (.iload_n 2, 1) := by decide +kernel
theorem dX11_book_89 : decode cX11_book 89 = .ok (.iaload, 1) := by decide +kernel
theorem dX11_book_90 : decode cX11_book 90 = .ok (.aload_n 0, 1) := by decide +kernel
theorem dX11_book_91 : decode cX11_book 91 = .ok (.getfield 21, 3) := by decide +kernel
theorem dX11_book_94 : decode cX11_book 94 = .ok (.getfield 193, 3) := by decide +kernel
theorem dX11_book_97 : decode cX11_book 97 = .ok (.iload_n 2, 1) := by decide +kernel
theorem dX11_book_98 : decode cX11_book 98 = .ok (.iaload, 1) := by decide +kernel
theorem dX11_book_99 : decode cX11_book 99 = .ok (.invokevirtual 179, 3) := by decide +kernel
theorem dX11_book_102 : decode cX11_book 102 = .ok (.putfield 80, 3) := by decide +kernel
theorem dX11_book_105 : decode cX11_book 105 = .ok (.aload_n 0, 1) := by decide +kernel
theorem dX11_book_106 : decode cX11_book 106 = .ok (.getfield 80, 3) := by decide +kernel
theorem dX11_book_109 : decode cX11_book 109 = .ok (.ifCond .eq 5, 3) := by decide +kernel
theorem dX11_book_112 : decode cX11_book 112 = .ok (.iload_n 2, 1) := by decide +kernel
theorem dX11_book_113 : decode cX11_book 113 = .ok (.ireturn, 1) := by decide +kernel
theorem dX11_book_114 : decode cX11_book 114 = .ok (.iinc 2 1, 3) := by decide +kernel
theorem dX11_book_117 : decode cX11_book 117 = .ok (.goto (-62), 3) := by decide +kernel
theorem dX11_book_120 : decode cX11_book 120 = .ok (.iconst (-1), 1) := by decide +kernel
theorem dX11_book_121 : decode cX11_book 121 = .ok (.ireturn, 1) := by decide +kernel
theorem dX11_why_0 : decode cX11_why 0 = .ok (.aload_n 0, 1) := by decide +kernel
theorem dX11_why_1 : decode cX11_why 1 = .ok (.getfield 80, 3) := by decide +kernel
theorem dX11_why_4 : decode cX11_why 4 = .ok (.ireturn, 1) := by decide +kernel
set_option maxRecDepth 20000 in
theorem ggX11_is_X10_hasPerson : GoodIn wsX11_is wsX10_hasPerson := goodIn_r _ [8, 9, 44, 45, 46, 47, 48, 49, 50, 51, 52, 53, 54, 55, 56, 57, 58, 59, 60] (by decide +kernel) (by decide +kernel)
set_option maxRecDepth 20000 in
theorem gX11_is_X10_hasPerson : GoodIn wsX11_is (wsV RX11 129 RX10 yX10_hasPerson wsX10_hasPerson) := goodIn_app (goodIn_of _ (by decide +kernel)) ggX11_is_X10_hasPerson
set_option maxRecDepth 20000 in
theorem ggX11_is_X11_isYear : GoodIn wsX11_is wsX11_isYear := goodIn_r _ [13] (by decide +kernel) (by decide +kernel)
set_option maxRecDepth 20000 in
theorem gX11_is_X11_isYear : GoodIn wsX11_is (va_wsS RX11 196 yX11_isYear wsX11_isYear) := goodIn_app (goodIn_of _ (by decide +kernel)) ggX11_is_X11_isYear
set_option maxRecDepth 20000 in
theorem ggX11_is_X0_whatIs : GoodIn wsX11_is wsX0_whatIs := goodIn_r _ [18, 19, 20, 21, 22, 23, 24, 25, 26, 61, 62, 63, 64, 44, 45, 46, 47, 48, 49, 50, 51, 52, 53, 54, 55, 56, 57, 58, 59, 60] (by decide +kernel) (by decide +kernel)
set_option maxRecDepth 20000 in
theorem gX11_is_X0_whatIs : GoodIn wsX11_is (wsV RX11 199 RX0 yX0_whatIs wsX0_whatIs) := goodIn_app (goodIn_of _ (by decide +kernel)) ggX11_is_X0_whatIs
theorem dX11_is_0 : decode cX11_is 0 = .ok (.aload_n 0, 1) := by decide +kernel
theorem dX11_is_1 : decode cX11_is 1 = .ok (.getfield 63, 3) := by decide +kernel
theorem dX11_is_4 : decode cX11_is 4 = .ok (.getfield 111, 3) := by decide +kernel
theorem dX11_is_7 : decode cX11_is 7 = .ok (.iload_n 1, 1) := by decide +kernel
theorem dX11_is_8 : decode cX11_is 8 = .ok (.invokevirtual 129, 3) := by decide +kernel
theorem dX11_is_11 : decode cX11_is 11 = .ok (.ifCond .eq 10, 3) := by decide +kernel
theorem dX11_is_14 : decode cX11_is 14 = .ok (.iload_n 2, 1) := by decide +kernel
theorem dX11_is_15 : decode cX11_is 15 = .ok (.invokestatic 196, 3) := by decide +kernel
theorem dX11_is_18 : decode cX11_is 18 = .ok (.ifCond .ne 5, 3) := by decide +kernel
theorem dX11_is_21 : decode cX11_is 21 = .ok (.iconst (-1), 1) := by decide +kernel
theorem dX11_is_22 : decode cX11_is 22 = .ok (.ireturn, 1) := by decide +kernel
theorem dX11_is_23 : decode cX11_is 23 = .ok (.aload_n 0, 1) := by decide +kernel
theorem dX11_is_24 : decode cX11_is 24 = .ok (.getfield 63, 3) := by decide +kernel
theorem dX11_is_27 : decode cX11_is 27 = .ok (.getfield 114, 3) := by decide +kernel
theorem dX11_is_30 : decode cX11_is 30 = .ok (.aload_n 0, 1) := by decide +kernel
theorem dX11_is_31 : decode cX11_is 31 = .ok (.getfield 63, 3) := by decide +kernel
theorem dX11_is_34 : decode cX11_is 34 = .ok (.getfield 111, 3) := by decide +kernel
theorem dX11_is_37 : decode cX11_is 37 = .ok (.iload_n 1, 1) := by decide +kernel
theorem dX11_is_38 : decode cX11_is 38 = .ok (.iload_n 2, 1) := by decide +kernel
theorem dX11_is_39 : decode cX11_is 39 = .ok (.invokevirtual 199, 3) := by decide +kernel
theorem dX11_is_42 : decode cX11_is 42 = .ok (.ireturn, 1) := by decide +kernel
set_option maxRecDepth 20000 in
theorem ggX11_may_X0_wrongOf : GoodIn wsX11_may wsX0_wrongOf := goodIn_r _ [9, 10, 11, 12, 13, 14, 15, 16, 17, 18, 8, 19, 20, 21, 22, 23, 24, 25, 26, 27, 28, 29, 30, 31, 32, 33, 34, 35, 36, 37, 38, 39, 40, 41, 42, 60, 61, 62, 63, 64, 65, 66, 67, 68, 69, 70, 71, 72, 73, 74, 75, 76, 77, 78, 79, 80] (by decide +kernel) (by decide +kernel)
set_option maxRecDepth 20000 in
theorem gX11_may_X0_wrongOf : GoodIn wsX11_may (wsV RX11 205 RX0 yX0_wrongOf wsX0_wrongOf) := goodIn_app (goodIn_of _ (by decide +kernel)) ggX11_may_X0_wrongOf
theorem dX11_may_0 : decode cX11_may 0 = .ok (.iload_n 1, 1) := by decide +kernel
theorem dX11_may_1 : decode cX11_may 1 = .ok (.ifCond .lt 8, 3) := by decide +kernel
theorem dX11_may_4 : decode cX11_may 4 = .ok (.iload_n 1, 1) := by decide +kernel
theorem dX11_may_5 : decode cX11_may 5 = .ok (.iconst 1, 1) := by decide +kernel
theorem dX11_may_6 : decode cX11_may 6 = .ok (.if_icmp .le 5, 3) := by decide +kernel
theorem dX11_may_9 : decode cX11_may 9 = .ok (.iconst (-1), 1) := by decide +kernel
theorem dX11_may_10 : decode cX11_may 10 = .ok (.ireturn, 1) := by decide +kernel
theorem dX11_may_11 : decode cX11_may 11 = .ok (.iload_n 1, 1) := by decide +kernel
theorem dX11_may_12 : decode cX11_may 12 = .ok (.iconst 1, 1) := by decide +kernel
theorem dX11_may_13 : decode cX11_may 13 = .ok (.if_icmp .ne 7, 3) := by decide +kernel
theorem dX11_may_16 : decode cX11_may 16 = .ok (.iconst 2, 1) := by decide +kernel
theorem dX11_may_17 : decode cX11_may 17 = .ok (.goto 4, 3) := by decide +kernel
theorem dX11_may_20 : decode cX11_may 20 = .ok (.iconst 1, 1) := by decide +kernel
theorem dX11_may_21 : decode cX11_may 21 = .ok (.istore_n 2, 1) := by decide +kernel
theorem dX11_may_22 : decode cX11_may 22 = .ok (.iconst 0, 1) := by decide +kernel
theorem dX11_may_23 : decode cX11_may 23 = .ok (.istore_n 3, 1) := by decide +kernel
theorem dX11_may_24 : decode cX11_may 24 = .ok (.iconst 0, 1) := by decide +kernel
theorem dX11_may_25 : decode cX11_may 25 = .ok (.istore 4, 2) := by decide +kernel
theorem dX11_may_27 : decode cX11_may 27 = .ok (.iload 4, 2) := by decide +kernel
theorem dX11_may_29 : decode cX11_may 29 = .ok (.aload_n 0, 1) := by decide +kernel
theorem dX11_may_30 : decode cX11_may 30 = .ok (.getfield 63, 3) := by decide +kernel
theorem dX11_may_33 : decode cX11_may 33 = .ok (.getfield 111, 3) := by decide +kernel
theorem dX11_may_36 : decode cX11_may 36 = .ok (.getfield 202, 3) := by decide +kernel
theorem dX11_may_39 : decode cX11_may 39 = .ok (.if_icmp .ge 39, 3) := by decide +kernel
theorem dX11_may_42 : decode cX11_may 42 = .ok (.aload_n 0, 1) := by decide +kernel
theorem dX11_may_43 : decode cX11_may 43 = .ok (.getfield 63, 3) := by decide +kernel
theorem dX11_may_46 : decode cX11_may 46 = .ok (.getfield 114, 3) := by decide +kernel
theorem dX11_may_49 : decode cX11_may 49 = .ok (.aload_n 0, 1) := by decide +kernel
theorem dX11_may_50 : decode cX11_may 50 = .ok (.getfield 63, 3) := by decide +kernel
theorem dX11_may_53 : decode cX11_may 53 = .ok (.getfield 111, 3) := by decide +kernel
theorem dX11_may_56 : decode cX11_may 56 = .ok (.iload 4, 2) := by decide +kernel
theorem dX11_may_58 : decode cX11_may 58 = .ok (.iload_n 2, 1) := by decide +kernel
theorem dX11_may_59 : decode cX11_may 59 = .ok (.invokevirtual 205, 3) := by decide +kernel
theorem dX11_may_62 : decode cX11_may 62 = .ok (.ifCond .ne 10, 3) := by decide +kernel
theorem dX11_may_65 : decode cX11_may 65 = .ok (.iload_n 3, 1) := by decide +kernel
theorem dX11_may_66 : decode cX11_may 66 = .ok (.iconst 1, 1) := by decide +kernel
theorem dX11_may_67 : decode cX11_may 67 = .ok (.iload 4, 2) := by decide +kernel
theorem dX11_may_69 : decode cX11_may 69 = .ok (.ishl, 1) := by decide +kernel
theorem dX11_may_70 : decode cX11_may 70 = .ok (.ior, 1) := by decide +kernel
theorem dX11_may_71 : decode cX11_may 71 = .ok (.istore_n 3, 1) := by decide +kernel
theorem dX11_may_72 : decode cX11_may 72 = .ok (.iinc 4 1, 3) := by decide +kernel
theorem dX11_may_75 : decode cX11_may 75 = .ok (.goto (-48), 3) := by decide +kernel
theorem dX11_may_78 : decode cX11_may 78 = .ok (.iload_n 3, 1) := by decide +kernel
theorem dX11_may_79 : decode cX11_may 79 = .ok (.ireturn, 1) := by decide +kernel
set_option maxRecDepth 20000 in
theorem ggX11_had_X10_hasPerson : GoodIn wsX11_had wsX10_hasPerson := goodIn_r _ [8, 9, 42, 43, 44, 45, 46, 47, 48, 49, 50, 51, 52, 53, 54, 55, 56, 57, 58] (by decide +kernel) (by decide +kernel)
set_option maxRecDepth 20000 in
theorem gX11_had_X10_hasPerson : GoodIn wsX11_had (wsV RX11 129 RX10 yX10_hasPerson wsX10_hasPerson) := goodIn_app (goodIn_of _ (by decide +kernel)) ggX11_had_X10_hasPerson
set_option maxRecDepth 20000 in
theorem ggX11_had_X0_sharesOf : GoodIn wsX11_had wsX0_sharesOf := goodIn_r _ [14, 15, 16, 17, 18, 19, 7, 20, 21, 22, 23, 24, 59, 60, 61, 62, 42, 43, 44, 45, 46, 47, 48, 49, 50, 51, 52, 53, 54, 55, 56, 57, 58] (by decide +kernel) (by decide +kernel)
set_option maxRecDepth 20000 in
theorem gX11_had_X0_sharesOf : GoodIn wsX11_had (wsV RX11 208 RX0 yX0_sharesOf wsX0_sharesOf) := goodIn_app (goodIn_of _ (by decide +kernel)) ggX11_had_X0_sharesOf
theorem dX11_had_0 : decode cX11_had 0 = .ok (.aload_n 0, 1) := by decide +kernel
theorem dX11_had_1 : decode cX11_had 1 = .ok (.getfield 63, 3) := by decide +kernel
theorem dX11_had_4 : decode cX11_had 4 = .ok (.getfield 111, 3) := by decide +kernel
theorem dX11_had_7 : decode cX11_had 7 = .ok (.iload_n 1, 1) := by decide +kernel
theorem dX11_had_8 : decode cX11_had 8 = .ok (.invokevirtual 129, 3) := by decide +kernel
theorem dX11_had_11 : decode cX11_had 11 = .ok (.ifCond .ne 5, 3) := by decide +kernel
theorem dX11_had_14 : decode cX11_had 14 = .ok (.iconst (-1), 1) := by decide +kernel
theorem dX11_had_15 : decode cX11_had 15 = .ok (.ireturn, 1) := by decide +kernel
theorem dX11_had_16 : decode cX11_had 16 = .ok (.aload_n 0, 1) := by decide +kernel
theorem dX11_had_17 : decode cX11_had 17 = .ok (.getfield 63, 3) := by decide +kernel
theorem dX11_had_20 : decode cX11_had 20 = .ok (.getfield 114, 3) := by decide +kernel
theorem dX11_had_23 : decode cX11_had 23 = .ok (.aload_n 0, 1) := by decide +kernel
theorem dX11_had_24 : decode cX11_had 24 = .ok (.getfield 63, 3) := by decide +kernel
theorem dX11_had_27 : decode cX11_had 27 = .ok (.getfield 111, 3) := by decide +kernel
theorem dX11_had_30 : decode cX11_had 30 = .ok (.iload_n 1, 1) := by decide +kernel
theorem dX11_had_31 : decode cX11_had 31 = .ok (.invokevirtual 208, 3) := by decide +kernel
theorem dX11_had_34 : decode cX11_had 34 = .ok (.ireturn, 1) := by decide +kernel
set_option maxRecDepth 20000 in
theorem ggX11_gain_X10_hasParts : GoodIn wsX11_gain wsX10_hasParts := goodIn_r _ [8, 9, 10, 11, 7, 12, 13, 112, 113, 114, 115, 116, 117, 118, 119, 120, 121, 122, 123, 124, 125, 126, 127, 128] (by decide +kernel) (by decide +kernel)
set_option maxRecDepth 20000 in
theorem gX11_gain_X10_hasParts : GoodIn wsX11_gain (wsV RX11 212 RX10 yX10_hasParts wsX10_hasParts) := goodIn_app (goodIn_of _ (by decide +kernel)) ggX11_gain_X10_hasParts
set_option maxRecDepth 20000 in
theorem ggX11_gain_X2_gainOf : GoodIn wsX11_gain wsX2_gainOf := goodIn_r _ [18, 19, 20, 21, 22, 23, 17, 24, 25, 26, 27, 28, 29, 30, 31, 32, 33, 34, 35, 36, 37, 38, 39, 40, 41, 42, 43, 44, 45, 46, 47, 48, 49, 50, 51, 52, 7, 53, 54, 55, 56, 57, 58, 59, 60, 61, 62, 63, 64, 65, 66, 67, 68, 69, 70, 71, 72, 73, 74, 75, 76, 77, 78, 79, 80, 81, 82, 83, 84, 85, 86, 87, 88, 89, 90, 91, 92, 93, 94, 112, 113, 114, 115, 116, 117, 118, 119, 120, 121, 122, 123, 124, 125, 126, 127, 128, 129, 130, 131, 132, 133, 134, 135, 136, 137, 138, 139, 140, 141, 142] (by decide +kernel) (by decide +kernel)
set_option maxRecDepth 20000 in
theorem gX11_gain_X2_gainOf : GoodIn wsX11_gain (wsV RX11 215 RX2 yX2_gainOf wsX2_gainOf) := goodIn_app (goodIn_of _ (by decide +kernel)) ggX11_gain_X2_gainOf
theorem dX11_gain_0 : decode cX11_gain 0 = .ok (.aload_n 0, 1) := by decide +kernel
theorem dX11_gain_1 : decode cX11_gain 1 = .ok (.getfield 63, 3) := by decide +kernel
theorem dX11_gain_4 : decode cX11_gain 4 = .ok (.getfield 111, 3) := by decide +kernel
theorem dX11_gain_7 : decode cX11_gain 7 = .ok (.iload_n 1, 1) := by decide +kernel
theorem dX11_gain_8 : decode cX11_gain 8 = .ok (.invokevirtual 212, 3) := by decide +kernel
theorem dX11_gain_11 : decode cX11_gain 11 = .ok (.ifCond .ne 5, 3) := by decide +kernel
theorem dX11_gain_14 : decode cX11_gain 14 = .ok (.iconst (-1), 1) := by decide +kernel
theorem dX11_gain_15 : decode cX11_gain 15 = .ok (.ireturn, 1) := by decide +kernel
theorem dX11_gain_16 : decode cX11_gain 16 = .ok (.aload_n 0, 1) := by decide +kernel
theorem dX11_gain_17 : decode cX11_gain 17 = .ok (.getfield 28, 3) := by decide +kernel
theorem dX11_gain_20 : decode cX11_gain 20 = .ok (.aload_n 0, 1) := by decide +kernel
theorem dX11_gain_21 : decode cX11_gain 21 = .ok (.getfield 63, 3) := by decide +kernel
theorem dX11_gain_24 : decode cX11_gain 24 = .ok (.getfield 111, 3) := by decide +kernel
theorem dX11_gain_27 : decode cX11_gain 27 = .ok (.iload_n 1, 1) := by decide +kernel
theorem dX11_gain_28 : decode cX11_gain 28 = .ok (.invokevirtual 215, 3) := by decide +kernel
theorem dX11_gain_31 : decode cX11_gain 31 = .ok (.ireturn, 1) := by decide +kernel
set_option maxRecDepth 20000 in
theorem ggX11_best_X11_partsOfMost : GoodIn wsX11_best wsX11_partsOfMost := goodIn_r _ [8, 2, 3, 1, 9, 10, 11, 12, 13, 14, 15, 16, 17, 18, 19, 20, 21, 22, 23, 24, 25, 26, 27, 28, 29, 30, 31, 32, 33, 34, 35, 36, 37, 38, 39, 40, 41, 42, 43, 44, 45, 46, 47, 48, 49, 50, 51, 52, 53, 54, 55, 56, 57, 58, 59, 60, 61, 62, 63, 64, 65, 66, 67, 68, 69, 70, 71, 72, 73, 74, 75, 76, 77, 78, 79, 80, 81, 82, 83, 84, 85, 86, 87, 88, 89, 90, 91, 92, 93, 94, 95, 96, 97, 98, 99, 100, 101, 102, 103, 104, 105, 106, 107, 108, 109, 110, 111, 112, 113, 114, 115, 116, 117, 118, 119, 120, 121, 122, 123, 124, 125, 126, 127, 128, 129, 130, 131, 132, 133, 134, 135, 136, 137, 138, 139, 140, 141, 142, 143] (by decide +kernel) (by decide +kernel)
set_option maxRecDepth 20000 in
theorem gX11_best_X11_partsOfMost : GoodIn wsX11_best (wsV RX11 218 RX11 yX11_partsOfMost wsX11_partsOfMost) := goodIn_app (goodIn_of _ (by decide +kernel)) ggX11_best_X11_partsOfMost
set_option maxRecDepth 20000 in
theorem ggX11_best_X2_gainOf : GoodIn wsX11_best wsX2_gainOf := goodIn_r _ [19, 20, 21, 22, 23, 24, 18, 25, 26, 27, 28, 29, 30, 31, 32, 33, 34, 35, 36, 37, 38, 39, 40, 41, 42, 43, 44, 45, 46, 47, 48, 49, 50, 51, 52, 53, 12, 54, 55, 56, 57, 58, 59, 60, 61, 62, 63, 64, 65, 66, 67, 68, 69, 70, 71, 72, 73, 74, 75, 76, 77, 78, 79, 80, 81, 82, 83, 84, 85, 86, 87, 88, 89, 90, 91, 92, 93, 94, 95, 113, 114, 115, 116, 117, 118, 119, 120, 121, 122, 123, 124, 125, 126, 127, 128, 129, 130, 131, 132, 133, 134, 135, 136, 137, 138, 139, 140, 141, 142, 143] (by decide +kernel) (by decide +kernel)
set_option maxRecDepth 20000 in
theorem gX11_best_X2_gainOf : GoodIn wsX11_best (wsV RX11 215 RX2 yX2_gainOf wsX2_gainOf) := goodIn_app (goodIn_of _ (by decide +kernel)) ggX11_best_X2_gainOf
theorem dX11_best_0 : decode cX11_best 0 = .ok (.aload_n 0, 1) := by decide +kernel
theorem dX11_best_1 : decode cX11_best 1 = .ok (.getfield 28, 3) := by decide +kernel
theorem dX11_best_4 : decode cX11_best 4 = .ok (.aload_n 0, 1) := by decide +kernel
theorem dX11_best_5 : decode cX11_best 5 = .ok (.getfield 63, 3) := by decide +kernel
theorem dX11_best_8 : decode cX11_best 8 = .ok (.getfield 111, 3) := by decide +kernel
theorem dX11_best_11 : decode cX11_best 11 = .ok (.aload_n 0, 1) := by decide +kernel
theorem dX11_best_12 : decode cX11_best 12 = .ok (.invokevirtual 218, 3) := by decide +kernel
theorem dX11_best_15 : decode cX11_best 15 = .ok (.invokevirtual 215, 3) := by decide +kernel
theorem dX11_best_18 : decode cX11_best 18 = .ok (.ireturn, 1) := by decide +kernel
set_option maxRecDepth 20000 in
theorem ggX11_bestParts_X11_partsOfMost : GoodIn wsX11_bestParts wsX11_partsOfMost := goodIn_r _ [5, 6, 7, 8, 9, 10, 11, 12, 13, 14, 15, 16, 17, 18, 19, 20, 21, 22, 23, 24, 25, 26, 27, 28, 29, 30, 31, 32, 33, 34, 35, 36, 37, 38, 39, 40, 41, 42, 43, 44, 45, 46, 47, 48, 49, 50, 51, 52, 53, 54, 55, 56, 57, 58, 59, 60, 61, 62, 63, 64, 65, 66, 67, 68, 69, 70, 71, 72, 73, 74, 75, 76, 77, 78, 79, 80, 81, 82, 83, 84, 85, 86, 87, 88, 89, 90, 91, 92, 93, 94, 95, 96, 97, 98, 99, 100, 101, 102, 103, 104, 105, 106, 107, 108, 109, 110, 111, 112, 113, 114, 115, 116, 117, 118, 119, 120, 121, 122, 123, 124, 125, 126, 127, 128, 129, 130, 131, 132, 133, 134, 135, 136, 137, 138, 139, 140, 141, 142, 143] (by decide +kernel) (by decide +kernel)
set_option maxRecDepth 20000 in
theorem gX11_bestParts_X11_partsOfMost : GoodIn wsX11_bestParts (wsV RX11 218 RX11 yX11_partsOfMost wsX11_partsOfMost) := goodIn_app (goodIn_of _ (by decide +kernel)) ggX11_bestParts_X11_partsOfMost
theorem dX11_bestParts_0 : decode cX11_bestParts 0 = .ok (.aload_n 0, 1) := by decide +kernel
theorem dX11_bestParts_1 : decode cX11_bestParts 1 = .ok (.invokevirtual 218, 3) := by decide +kernel
theorem dX11_bestParts_4 : decode cX11_bestParts 4 = .ok (.ireturn, 1) := by decide +kernel
set_option maxRecDepth 20000 in
theorem ggX11_goes_X10_hasParts : GoodIn wsX11_goes wsX10_hasParts := goodIn_r _ [8, 9, 10, 11, 7, 12, 13, 38, 39, 40, 41, 42, 43, 44, 45, 46, 47, 48, 49, 50, 51, 52, 53, 54] (by decide +kernel) (by decide +kernel)
set_option maxRecDepth 20000 in
theorem gX11_goes_X10_hasParts : GoodIn wsX11_goes (wsV RX11 212 RX10 yX10_hasParts wsX10_hasParts) := goodIn_app (goodIn_of _ (by decide +kernel)) ggX11_goes_X10_hasParts
set_option maxRecDepth 20000 in
theorem ggX11_goes_X10_goesBy : GoodIn wsX11_goes wsX10_goesBy := goodIn_r _ [17, 18, 19, 20, 38, 39, 40, 41, 42, 43, 44, 45, 46, 47, 48, 49, 50, 51, 52, 53, 54] (by decide +kernel) (by decide +kernel)
set_option maxRecDepth 20000 in
theorem gX11_goes_X10_goesBy : GoodIn wsX11_goes (wsV RX11 222 RX10 yX10_goesBy wsX10_goesBy) := goodIn_app (goodIn_of _ (by decide +kernel)) ggX11_goes_X10_goesBy
theorem dX11_goes_0 : decode cX11_goes 0 = .ok (.aload_n 0, 1) := by decide +kernel
theorem dX11_goes_1 : decode cX11_goes 1 = .ok (.getfield 63, 3) := by decide +kernel
theorem dX11_goes_4 : decode cX11_goes 4 = .ok (.getfield 111, 3) := by decide +kernel
theorem dX11_goes_7 : decode cX11_goes 7 = .ok (.iload_n 1, 1) := by decide +kernel
theorem dX11_goes_8 : decode cX11_goes 8 = .ok (.invokevirtual 212, 3) := by decide +kernel
theorem dX11_goes_11 : decode cX11_goes 11 = .ok (.ifCond .ne 5, 3) := by decide +kernel
theorem dX11_goes_14 : decode cX11_goes 14 = .ok (.iconst (-1), 1) := by decide +kernel
theorem dX11_goes_15 : decode cX11_goes 15 = .ok (.ireturn, 1) := by decide +kernel
theorem dX11_goes_16 : decode cX11_goes 16 = .ok (.iconst 0, 1) := by decide +kernel
theorem dX11_goes_17 : decode cX11_goes 17 = .ok (.istore_n 2, 1) := by decide +kernel
theorem dX11_goes_18 : decode cX11_goes 18 = .ok (.iconst 0, 1) := by decide +kernel
theorem dX11_goes_19 : decode cX11_goes 19 = .ok (.istore_n 3, 1) := by decide +kernel
theorem dX11_goes_20 : decode cX11_goes 20 = .ok (.iload_n 3, 1) := by decide +kernel
theorem dX11_goes_21 : decode cX11_goes 21 = .ok (.aload_n 0, 1) := by decide +kernel
theorem dX11_goes_22 : decode cX11_goes 22 = .ok (.getfield 63, 3) := by decide +kernel
theorem dX11_goes_25 : decode cX11_goes 25 = .ok (.getfield 111, 3) := by decide +kernel
theorem dX11_goes_28 : decode cX11_goes 28 = .ok (.getfield 202, 3) := by decide +kernel
theorem dX11_goes_31 : decode cX11_goes 31 = .ok (.if_icmp .ge 30, 3) := by decide +kernel
theorem dX11_goes_34 : decode cX11_goes 34 = .ok (.aload_n 0, 1) := by decide +kernel
theorem dX11_goes_35 : decode cX11_goes 35 = .ok (.getfield 63, 3) := by decide +kernel
theorem dX11_goes_38 : decode cX11_goes 38 = .ok (.getfield 111, 3) := by decide +kernel
theorem dX11_goes_41 : decode cX11_goes 41 = .ok (.iload_n 3, 1) := by decide +kernel
theorem dX11_goes_42 : decode cX11_goes 42 = .ok (.iload_n 1, 1) := by decide +kernel
theorem dX11_goes_43 : decode cX11_goes 43 = .ok (.invokevirtual 222, 3) := by decide +kernel
theorem dX11_goes_46 : decode cX11_goes 46 = .ok (.ifCond .eq 9, 3) := by decide +kernel
theorem dX11_goes_49 : decode cX11_goes 49 = .ok (.iload_n 2, 1) := by decide +kernel
theorem dX11_goes_50 : decode cX11_goes 50 = .ok (.iconst 1, 1) := by decide +kernel
theorem dX11_goes_51 : decode cX11_goes 51 = .ok (.iload_n 3, 1) := by decide +kernel
theorem dX11_goes_52 : decode cX11_goes 52 = .ok (.ishl, 1) := by decide +kernel
theorem dX11_goes_53 : decode cX11_goes 53 = .ok (.ior, 1) := by decide +kernel
theorem dX11_goes_54 : decode cX11_goes 54 = .ok (.istore_n 2, 1) := by decide +kernel
theorem dX11_goes_55 : decode cX11_goes 55 = .ok (.iinc 3 1, 3) := by decide +kernel
theorem dX11_goes_58 : decode cX11_goes 58 = .ok (.goto (-38), 3) := by decide +kernel
theorem dX11_goes_61 : decode cX11_goes 61 = .ok (.iload_n 2, 1) := by decide +kernel
theorem dX11_goes_62 : decode cX11_goes 62 = .ok (.ireturn, 1) := by decide +kernel
set_option maxRecDepth 20000 in
theorem ggX11_above_X10_partsCount : GoodIn wsX11_above wsX10_partsCount := goodIn_r _ [8, 9, 108, 109, 110, 111, 112, 113, 114, 115, 116, 117, 118, 119, 120, 121, 122, 123, 124] (by decide +kernel) (by decide +kernel)
set_option maxRecDepth 20000 in
theorem gX11_above_X10_partsCount : GoodIn wsX11_above (wsV RX11 226 RX10 yX10_partsCount wsX10_partsCount) := goodIn_app (goodIn_of _ (by decide +kernel)) ggX11_above_X10_partsCount
set_option maxRecDepth 20000 in
theorem ggX11_above_X2_gainOf : GoodIn wsX11_above wsX2_gainOf := goodIn_r _ [14, 15, 16, 17, 18, 19, 13, 20, 21, 22, 23, 24, 25, 26, 27, 28, 29, 30, 31, 32, 33, 34, 35, 36, 37, 38, 39, 40, 41, 42, 43, 44, 45, 46, 47, 48, 7, 49, 50, 51, 52, 53, 54, 55, 56, 57, 58, 59, 60, 61, 62, 63, 64, 65, 66, 67, 68, 69, 70, 71, 72, 73, 74, 75, 76, 77, 78, 79, 80, 81, 82, 83, 84, 85, 86, 87, 88, 89, 90, 108, 109, 110, 111, 112, 113, 114, 115, 116, 117, 118, 119, 120, 121, 122, 123, 124, 125, 126, 127, 128, 129, 130, 131, 132, 133, 134, 135, 136, 137, 138] (by decide +kernel) (by decide +kernel)
set_option maxRecDepth 20000 in
theorem gX11_above_X2_gainOf : GoodIn wsX11_above (wsV RX11 215 RX2 yX2_gainOf wsX2_gainOf) := goodIn_app (goodIn_of _ (by decide +kernel)) ggX11_above_X2_gainOf
theorem dX11_above_0 : decode cX11_above 0 = .ok (.iconst 0, 1) := by decide +kernel
theorem dX11_above_1 : decode cX11_above 1 = .ok (.istore_n 2, 1) := by decide +kernel
theorem dX11_above_2 : decode cX11_above 2 = .ok (.iconst 0, 1) := by decide +kernel
theorem dX11_above_3 : decode cX11_above 3 = .ok (.istore_n 3, 1) := by decide +kernel
theorem dX11_above_4 : decode cX11_above 4 = .ok (.iload_n 3, 1) := by decide +kernel
theorem dX11_above_5 : decode cX11_above 5 = .ok (.aload_n 0, 1) := by decide +kernel
theorem dX11_above_6 : decode cX11_above 6 = .ok (.getfield 63, 3) := by decide +kernel
theorem dX11_above_9 : decode cX11_above 9 = .ok (.getfield 111, 3) := by decide +kernel
theorem dX11_above_12 : decode cX11_above 12 = .ok (.invokevirtual 226, 3) := by decide +kernel
theorem dX11_above_15 : decode cX11_above 15 = .ok (.if_icmp .ge 31, 3) := by decide +kernel
theorem dX11_above_18 : decode cX11_above 18 = .ok (.aload_n 0, 1) := by decide +kernel
theorem dX11_above_19 : decode cX11_above 19 = .ok (.getfield 28, 3) := by decide +kernel
theorem dX11_above_22 : decode cX11_above 22 = .ok (.aload_n 0, 1) := by decide +kernel
theorem dX11_above_23 : decode cX11_above 23 = .ok (.getfield 63, 3) := by decide +kernel
theorem dX11_above_26 : decode cX11_above 26 = .ok (.getfield 111, 3) := by decide +kernel
theorem dX11_above_29 : decode cX11_above 29 = .ok (.iload_n 3, 1) := by decide +kernel
theorem dX11_above_30 : decode cX11_above 30 = .ok (.invokevirtual 215, 3) := by decide +kernel
theorem dX11_above_33 : decode cX11_above 33 = .ok (.iload_n 1, 1) := by decide +kernel
theorem dX11_above_34 : decode cX11_above 34 = .ok (.if_icmp .lt 6, 3) := by decide +kernel
theorem dX11_above_37 : decode cX11_above 37 = .ok (.iinc 2 1, 3) := by decide +kernel
theorem dX11_above_40 : decode cX11_above 40 = .ok (.iinc 3 1, 3) := by decide +kernel
theorem dX11_above_43 : decode cX11_above 43 = .ok (.goto (-39), 3) := by decide +kernel
theorem dX11_above_46 : decode cX11_above 46 = .ok (.iload_n 2, 1) := by decide +kernel
theorem dX11_above_47 : decode cX11_above 47 = .ok (.ireturn, 1) := by decide +kernel
set_option maxRecDepth 20000 in
theorem ggX11_price_X10_hasPerson : GoodIn wsX11_price wsX10_hasPerson := goodIn_r _ [9, 10, 118, 119, 120, 121, 122, 123, 124, 125, 126, 127, 128, 129, 130, 131, 132, 133, 134] (by decide +kernel) (by decide +kernel)
set_option maxRecDepth 20000 in
theorem gX11_price_X10_hasPerson : GoodIn wsX11_price (wsV RX11 129 RX10 yX10_hasPerson wsX10_hasPerson) := goodIn_app (goodIn_of _ (by decide +kernel)) ggX11_price_X10_hasPerson
set_option maxRecDepth 20000 in
theorem ggX11_price_X10_hasParts : GoodIn wsX11_price wsX10_hasParts := goodIn_r _ [14, 15, 16, 17, 8, 18, 10, 118, 119, 120, 121, 122, 123, 124, 125, 126, 127, 128, 129, 130, 131, 132, 133, 134] (by decide +kernel) (by decide +kernel)
set_option maxRecDepth 20000 in
theorem gX11_price_X10_hasParts : GoodIn wsX11_price (wsV RX11 212 RX10 yX10_hasParts wsX10_hasParts) := goodIn_app (goodIn_of _ (by decide +kernel)) ggX11_price_X10_hasParts
set_option maxRecDepth 20000 in
theorem ggX11_price_X2_gainWithLimit : GoodIn wsX11_price wsX2_gainWithLimit := goodIn_r _ [23, 24, 25, 26, 27, 28, 29, 30, 31, 32, 33, 34, 35, 36, 22, 37, 38, 39, 40, 41, 42, 43, 44, 45, 46, 47, 48, 49, 50, 51, 8, 52, 53, 54, 55, 56, 57, 58, 59, 60, 61, 62, 63, 64, 65, 66, 67, 68, 69, 70, 71, 72, 73, 74, 75, 76, 77, 78, 79, 80, 81, 82, 83, 84, 85, 86, 87, 88, 89, 90, 91, 92, 93, 118, 119, 120, 121, 122, 123, 124, 125, 126, 127, 128, 129, 130, 131, 132, 133, 134, 135, 136, 137, 138, 139, 140, 141, 142, 143] (by decide +kernel) (by decide +kernel)
set_option maxRecDepth 20000 in
theorem gX11_price_X2_gainWithLimit : GoodIn wsX11_price (wsV RX11 229 RX2 yX2_gainWithLimit wsX2_gainWithLimit) := goodIn_app (goodIn_of _ (by decide +kernel)) ggX11_price_X2_gainWithLimit
set_option maxRecDepth 20000 in
theorem ggX11_price_X2_gainOf : GoodIn wsX11_price wsX2_gainOf := goodIn_r _ [97, 98, 99, 100, 20, 21, 22, 23, 24, 25, 26, 27, 28, 29, 30, 31, 32, 33, 34, 35, 36, 37, 38, 39, 40, 41, 42, 43, 44, 45, 46, 47, 48, 49, 50, 51, 8, 52, 53, 54, 55, 56, 57, 58, 59, 60, 61, 62, 63, 64, 65, 66, 67, 68, 69, 70, 71, 72, 73, 74, 75, 76, 77, 78, 79, 80, 81, 82, 83, 84, 85, 86, 87, 88, 89, 90, 91, 92, 93, 118, 119, 120, 121, 122, 123, 124, 125, 126, 127, 128, 129, 130, 131, 132, 133, 134, 144, 145, 146, 147, 148, 135, 136, 137, 138, 139, 140, 141, 142, 143] (by decide +kernel) (by decide +kernel)
set_option maxRecDepth 20000 in
theorem gX11_price_X2_gainOf : GoodIn wsX11_price (wsV RX11 215 RX2 yX2_gainOf wsX2_gainOf) := goodIn_app (goodIn_of _ (by decide +kernel)) ggX11_price_X2_gainOf
theorem dX11_price_0 : decode cX11_price 0 = .ok (.aload_n 0, 1) := by decide +kernel
theorem dX11_price_1 : decode cX11_price 1 = .ok (.getfield 63, 3) := by decide +kernel
theorem dX11_price_4 : decode cX11_price 4 = .ok (.getfield 111, 3) := by decide +kernel
theorem dX11_price_7 : decode cX11_price 7 = .ok (.iload_n 1, 1) := by decide +kernel
theorem dX11_price_8 : decode cX11_price 8 = .ok (.invokevirtual 129, 3) := by decide +kernel
theorem dX11_price_11 : decode cX11_price 11 = .ok (.ifCond .eq 17, 3) := by decide +kernel
theorem dX11_price_14 : decode cX11_price 14 = .ok (.aload_n 0, 1) := by decide +kernel
theorem dX11_price_15 : decode cX11_price 15 = .ok (.getfield 63, 3) := by decide +kernel
theorem dX11_price_18 : decode cX11_price 18 = .ok (.getfield 111, 3) := by decide +kernel
theorem dX11_price_21 : decode cX11_price 21 = .ok (.iload_n 2, 1) := by decide +kernel
theorem dX11_price_22 : decode cX11_price 22 = .ok (.invokevirtual 212, 3) := by decide +kernel
theorem dX11_price_25 : decode cX11_price 25 = .ok (.ifCond .ne 5, 3) := by decide +kernel
theorem dX11_price_28 : decode cX11_price 28 = .ok (.iconst (-1), 1) := by decide +kernel
theorem dX11_price_29 : decode cX11_price 29 = .ok (.ireturn, 1) := by decide +kernel
theorem dX11_price_30 : decode cX11_price 30 = .ok (.aload_n 0, 1) := by decide +kernel
theorem dX11_price_31 : decode cX11_price 31 = .ok (.getfield 28, 3) := by decide +kernel
theorem dX11_price_34 : decode cX11_price 34 = .ok (.aload_n 0, 1) := by decide +kernel
theorem dX11_price_35 : decode cX11_price 35 = .ok (.getfield 63, 3) := by decide +kernel
theorem dX11_price_38 : decode cX11_price 38 = .ok (.getfield 111, 3) := by decide +kernel
theorem dX11_price_41 : decode cX11_price 41 = .ok (.iload_n 2, 1) := by decide +kernel
theorem dX11_price_42 : decode cX11_price 42 = .ok (.iload_n 1, 1) := by decide +kernel
theorem dX11_price_43 : decode cX11_price 43 = .ok (.aload_n 0, 1) := by decide +kernel
theorem dX11_price_44 : decode cX11_price 44 = .ok (.getfield 63, 3) := by decide +kernel
theorem dX11_price_47 : decode cX11_price 47 = .ok (.getfield 111, 3) := by decide +kernel
theorem dX11_price_50 : decode cX11_price 50 = .ok (.getfield 146, 3) := by decide +kernel
theorem dX11_price_53 : decode cX11_price 53 = .ok (.iload_n 1, 1) := by decide +kernel
theorem dX11_price_54 : decode cX11_price 54 = .ok (.iaload, 1) := by decide +kernel
theorem dX11_price_55 : decode cX11_price 55 = .ok (.iconst 1, 1) := by decide +kernel
theorem dX11_price_56 : decode cX11_price 56 = .ok (.iadd, 1) := by decide +kernel
theorem dX11_price_57 : decode cX11_price 57 = .ok (.invokevirtual 229, 3) := by decide +kernel
theorem dX11_price_60 : decode cX11_price 60 = .ok (.istore_n 3, 1) := by decide +kernel
theorem dX11_price_61 : decode cX11_price 61 = .ok (.iload_n 3, 1) := by decide +kernel
theorem dX11_price_62 : decode cX11_price 62 = .ok (.aload_n 0, 1) := by decide +kernel
theorem dX11_price_63 : decode cX11_price 63 = .ok (.getfield 28, 3) := by decide +kernel
theorem dX11_price_66 : decode cX11_price 66 = .ok (.aload_n 0, 1) := by decide +kernel
theorem dX11_price_67 : decode cX11_price 67 = .ok (.getfield 63, 3) := by decide +kernel
theorem dX11_price_70 : decode cX11_price 70 = .ok (.getfield 111, 3) := by decide +kernel
theorem dX11_price_73 : decode cX11_price 73 = .ok (.iload_n 2, 1) := by decide +kernel
theorem dX11_price_74 : decode cX11_price 74 = .ok (.invokevirtual 215, 3) := by decide +kernel
theorem dX11_price_77 : decode cX11_price 77 = .ok (.isub, 1) := by decide +kernel
theorem dX11_price_78 : decode cX11_price 78 = .ok (.ireturn, 1) := by decide +kernel
set_option maxRecDepth 20000 in
theorem ggX11_loss_X10_hasPerson : GoodIn wsX11_loss wsX10_hasPerson := goodIn_r _ [8, 9, 117, 118, 119, 120, 121, 122, 123, 124, 125, 126, 127, 128, 129, 130, 131, 132, 133] (by decide +kernel) (by decide +kernel)
set_option maxRecDepth 20000 in
theorem gX11_loss_X10_hasPerson : GoodIn wsX11_loss (wsV RX11 129 RX10 yX10_hasPerson wsX10_hasPerson) := goodIn_app (goodIn_of _ (by decide +kernel)) ggX11_loss_X10_hasPerson
set_option maxRecDepth 20000 in
theorem ggX11_loss_X10_hasParts : GoodIn wsX11_loss wsX10_hasParts := goodIn_r _ [13, 14, 15, 16, 7, 17, 9, 117, 118, 119, 120, 121, 122, 123, 124, 125, 126, 127, 128, 129, 130, 131, 132, 133] (by decide +kernel) (by decide +kernel)
set_option maxRecDepth 20000 in
theorem gX11_loss_X10_hasParts : GoodIn wsX11_loss (wsV RX11 212 RX10 yX10_hasParts wsX10_hasParts) := goodIn_app (goodIn_of _ (by decide +kernel)) ggX11_loss_X10_hasParts
set_option maxRecDepth 20000 in
theorem ggX11_loss_X2_gainOf : GoodIn wsX11_loss wsX2_gainOf := goodIn_r _ [22, 23, 24, 25, 26, 27, 21, 28, 29, 30, 31, 32, 33, 34, 35, 36, 37, 38, 39, 40, 41, 42, 43, 44, 45, 46, 47, 48, 49, 50, 51, 52, 53, 54, 55, 56, 7, 57, 58, 59, 60, 61, 62, 63, 64, 65, 66, 67, 68, 69, 70, 71, 72, 73, 74, 75, 76, 77, 78, 79, 80, 81, 82, 83, 84, 85, 86, 87, 88, 89, 90, 91, 92, 93, 94, 95, 96, 97, 98, 117, 118, 119, 120, 121, 122, 123, 124, 125, 126, 127, 128, 129, 130, 131, 132, 133, 134, 135, 136, 137, 138, 139, 140, 141, 142, 143, 144, 145, 146, 147] (by decide +kernel) (by decide +kernel)
set_option maxRecDepth 20000 in
theorem gX11_loss_X2_gainOf : GoodIn wsX11_loss (wsV RX11 215 RX2 yX2_gainOf wsX2_gainOf) := goodIn_app (goodIn_of _ (by decide +kernel)) ggX11_loss_X2_gainOf
set_option maxRecDepth 20000 in
theorem ggX11_loss_X2_gainWithLimit : GoodIn wsX11_loss wsX2_gainWithLimit := goodIn_r _ [28, 29, 30, 31, 32, 33, 34, 35, 36, 37, 38, 39, 40, 41, 21, 42, 43, 44, 45, 46, 47, 48, 49, 50, 51, 52, 53, 54, 55, 56, 7, 57, 58, 59, 60, 61, 62, 63, 64, 65, 66, 67, 68, 69, 70, 71, 72, 73, 74, 75, 76, 77, 78, 79, 80, 81, 82, 83, 84, 85, 86, 87, 88, 89, 90, 91, 92, 93, 94, 95, 96, 97, 98, 117, 118, 119, 120, 121, 122, 123, 124, 125, 126, 127, 128, 129, 130, 131, 132, 133, 139, 140, 141, 142, 143, 144, 145, 146, 147] (by decide +kernel) (by decide +kernel)
set_option maxRecDepth 20000 in
theorem gX11_loss_X2_gainWithLimit : GoodIn wsX11_loss (wsV RX11 229 RX2 yX2_gainWithLimit wsX2_gainWithLimit) := goodIn_app (goodIn_of _ (by decide +kernel)) ggX11_loss_X2_gainWithLimit
theorem dX11_loss_0 : decode cX11_loss 0 = .ok (.aload_n 0, 1) := by decide +kernel
theorem dX11_loss_1 : decode cX11_loss 1 = .ok (.getfield 63, 3) := by decide +kernel
theorem dX11_loss_4 : decode cX11_loss 4 = .ok (.getfield 111, 3) := by decide +kernel
theorem dX11_loss_7 : decode cX11_loss 7 = .ok (.iload_n 1, 1) := by decide +kernel
theorem dX11_loss_8 : decode cX11_loss 8 = .ok (.invokevirtual 129, 3) := by decide +kernel
theorem dX11_loss_11 : decode cX11_loss 11 = .ok (.ifCond .eq 17, 3) := by decide +kernel
theorem dX11_loss_14 : decode cX11_loss 14 = .ok (.aload_n 0, 1) := by decide +kernel
theorem dX11_loss_15 : decode cX11_loss 15 = .ok (.getfield 63, 3) := by decide +kernel
theorem dX11_loss_18 : decode cX11_loss 18 = .ok (.getfield 111, 3) := by decide +kernel
theorem dX11_loss_21 : decode cX11_loss 21 = .ok (.iload_n 2, 1) := by decide +kernel
theorem dX11_loss_22 : decode cX11_loss 22 = .ok (.invokevirtual 212, 3) := by decide +kernel
theorem dX11_loss_25 : decode cX11_loss 25 = .ok (.ifCond .ne 5, 3) := by decide +kernel
theorem dX11_loss_28 : decode cX11_loss 28 = .ok (.iconst (-1), 1) := by decide +kernel
theorem dX11_loss_29 : decode cX11_loss 29 = .ok (.ireturn, 1) := by decide +kernel
theorem dX11_loss_30 : decode cX11_loss 30 = .ok (.aload_n 0, 1) := by decide +kernel
theorem dX11_loss_31 : decode cX11_loss 31 = .ok (.getfield 28, 3) := by decide +kernel
theorem dX11_loss_34 : decode cX11_loss 34 = .ok (.aload_n 0, 1) := by decide +kernel
theorem dX11_loss_35 : decode cX11_loss 35 = .ok (.getfield 63, 3) := by decide +kernel
theorem dX11_loss_38 : decode cX11_loss 38 = .ok (.getfield 111, 3) := by decide +kernel
theorem dX11_loss_41 : decode cX11_loss 41 = .ok (.iload_n 2, 1) := by decide +kernel
theorem dX11_loss_42 : decode cX11_loss 42 = .ok (.invokevirtual 215, 3) := by decide +kernel
theorem dX11_loss_45 : decode cX11_loss 45 = .ok (.aload_n 0, 1) := by decide +kernel
theorem dX11_loss_46 : decode cX11_loss 46 = .ok (.getfield 28, 3) := by decide +kernel
theorem dX11_loss_49 : decode cX11_loss 49 = .ok (.aload_n 0, 1) := by decide +kernel
theorem dX11_loss_50 : decode cX11_loss 50 = .ok (.getfield 63, 3) := by decide +kernel
theorem dX11_loss_53 : decode cX11_loss 53 = .ok (.getfield 111, 3) := by decide +kernel
theorem dX11_loss_56 : decode cX11_loss 56 = .ok (.iload_n 2, 1) := by decide +kernel
theorem dX11_loss_57 : decode cX11_loss 57 = .ok (.iload_n 1, 1) := by decide +kernel
theorem dX11_loss_58 : decode cX11_loss 58 = .ok (.iconst 0, 1) := by decide +kernel
theorem dX11_loss_59 : decode cX11_loss 59 = .ok (.invokevirtual 229, 3) := by decide +kernel
theorem dX11_loss_62 : decode cX11_loss 62 = .ok (.isub, 1) := by decide +kernel
theorem dX11_loss_63 : decode cX11_loss 63 = .ok (.ireturn, 1) := by decide +kernel
set_option maxRecDepth 20000 in
theorem ggX11_climb_X10_hasParts : GoodIn wsX11_climb wsX10_hasParts := goodIn_r _ [8, 9, 10, 11, 7, 12, 13, 119, 120, 121, 122, 123, 124, 125, 126, 127, 128, 129, 130, 131, 132, 133, 134, 135] (by decide +kernel) (by decide +kernel)
set_option maxRecDepth 20000 in
theorem gX11_climb_X10_hasParts : GoodIn wsX11_climb (wsV RX11 212 RX10 yX10_hasParts wsX10_hasParts) := goodIn_app (goodIn_of _ (by decide +kernel)) ggX11_climb_X10_hasParts
set_option maxRecDepth 20000 in
theorem ggX11_climb_X11_firstBetter : GoodIn wsX11_climb wsX11_firstBetter := goodIn_r _ [18, 19, 1, 2, 20, 21, 22, 23, 24, 25, 26, 27, 28, 29, 30, 31, 32, 33, 34, 35, 36, 37, 38, 39, 40, 41, 42, 43, 44, 45, 46, 47, 48, 49, 50, 51, 52, 53, 54, 55, 56, 57, 58, 59, 7, 60, 61, 62, 63, 64, 65, 66, 67, 68, 69, 70, 71, 72, 73, 74, 75, 76, 77, 78, 79, 80, 81, 82, 83, 84, 85, 86, 87, 88, 89, 90, 91, 92, 93, 94, 95, 96, 97, 98, 99, 100, 101, 102, 103, 104, 105, 106, 107, 108, 109, 110, 111, 112, 113, 114, 115, 116, 117, 118, 119, 120, 121, 122, 123, 124, 125, 126, 127, 128, 129, 130, 131, 132, 133, 134, 135, 136, 137, 138, 139, 140, 141, 142, 143, 144, 145, 146, 147, 148, 149] (by decide +kernel) (by decide +kernel)
set_option maxRecDepth 20000 in
theorem gX11_climb_X11_firstBetter : GoodIn wsX11_climb (wsV RX11 233 RX11 yX11_firstBetter wsX11_firstBetter) := goodIn_app (goodIn_of _ (by decide +kernel)) ggX11_climb_X11_firstBetter
theorem dX11_climb_0 : decode cX11_climb 0 = .ok (.aload_n 0, 1) := by decide +kernel
theorem dX11_climb_1 : decode cX11_climb 1 = .ok (.getfield 63, 3) := by decide +kernel
theorem dX11_climb_4 : decode cX11_climb 4 = .ok (.getfield 111, 3) := by decide +kernel
theorem dX11_climb_7 : decode cX11_climb 7 = .ok (.iload_n 1, 1) := by decide +kernel
theorem dX11_climb_8 : decode cX11_climb 8 = .ok (.invokevirtual 212, 3) := by decide +kernel
theorem dX11_climb_11 : decode cX11_climb 11 = .ok (.ifCond .ne 5, 3) := by decide +kernel
theorem dX11_climb_14 : decode cX11_climb 14 = .ok (.iconst (-1), 1) := by decide +kernel
theorem dX11_climb_15 : decode cX11_climb 15 = .ok (.ireturn, 1) := by decide +kernel
theorem dX11_climb_16 : decode cX11_climb 16 = .ok (.aload_n 0, 1) := by decide +kernel
theorem dX11_climb_17 : decode cX11_climb 17 = .ok (.iconst 0, 1) := by decide +kernel
theorem dX11_climb_18 : decode cX11_climb 18 = .ok (.putfield 84, 3) := by decide +kernel
theorem dX11_climb_21 : decode cX11_climb 21 = .ok (.iload_n 1, 1) := by decide +kernel
theorem dX11_climb_22 : decode cX11_climb 22 = .ok (.istore_n 2, 1) := by decide +kernel
theorem dX11_climb_23 : decode cX11_climb 23 = .ok (.iconst 0, 1) := by decide +kernel
theorem dX11_climb_24 : decode cX11_climb 24 = .ok (.istore_n 3, 1) := by decide +kernel
theorem dX11_climb_25 : decode cX11_climb 25 = .ok (.iload_n 3, 1) := by decide +kernel
theorem dX11_climb_26 : decode cX11_climb 26 = .ok (.sipush 1024, 3) := by decide +kernel
theorem dX11_climb_29 : decode cX11_climb 29 = .ok (.if_icmp .ge 37, 3) := by decide +kernel
theorem dX11_climb_32 : decode cX11_climb 32 = .ok (.aload_n 0, 1) := by decide +kernel
theorem dX11_climb_33 : decode cX11_climb 33 = .ok (.iload_n 2, 1) := by decide +kernel
theorem dX11_climb_34 : decode cX11_climb 34 = .ok (.invokevirtual 233, 3) := by decide +kernel
theorem dX11_climb_37 : decode cX11_climb 37 = .ok (.istore 4, 2) := by decide +kernel
theorem dX11_climb_39 : decode cX11_climb 39 = .ok (.iload 4, 2) := by decide +kernel
theorem dX11_climb_41 : decode cX11_climb 41 = .ok (.iload_n 2, 1) := by decide +kernel
theorem dX11_climb_42 : decode cX11_climb 42 = .ok (.if_icmp .ne 5, 3) := by decide +kernel
theorem dX11_climb_45 : decode cX11_climb 45 = .ok (.iload_n 2, 1) := by decide +kernel
theorem dX11_climb_46 : decode cX11_climb 46 = .ok (.ireturn, 1) := by decide +kernel
theorem dX11_climb_47 : decode cX11_climb 47 = .ok (.iload 4, 2) := by decide +kernel
theorem dX11_climb_49 : decode cX11_climb 49 = .ok (.istore_n 2, 1) := by decide +kernel
theorem dX11_climb_50 : decode cX11_climb 50 = .ok (.aload_n 0, 1) := by decide +kernel
theorem dX11_climb_51 : decode cX11_climb 51 = .ok (.dup, 1) := by decide +kernel
theorem dX11_climb_52 : decode cX11_climb 52 = .ok (.getfield 84, 3) := by decide +kernel
theorem dX11_climb_55 : decode cX11_climb 55 = .ok (.iconst 1, 1) := by decide +kernel
theorem dX11_climb_56 : decode cX11_climb 56 = .ok (.iadd, 1) := by decide +kernel
theorem dX11_climb_57 : decode cX11_climb 57 = .ok (.putfield 84, 3) := by decide +kernel
theorem dX11_climb_60 : decode cX11_climb 60 = .ok (.iinc 3 1, 3) := by decide +kernel
theorem dX11_climb_63 : decode cX11_climb 63 = .ok (.goto (-38), 3) := by decide +kernel
theorem dX11_climb_66 : decode cX11_climb 66 = .ok (.iload_n 2, 1) := by decide +kernel
theorem dX11_climb_67 : decode cX11_climb 67 = .ok (.ireturn, 1) := by decide +kernel
theorem dX11_climbed_0 : decode cX11_climbed 0 = .ok (.aload_n 0, 1) := by decide +kernel
theorem dX11_climbed_1 : decode cX11_climbed 1 = .ok (.getfield 84, 3) := by decide +kernel
theorem dX11_climbed_4 : decode cX11_climbed 4 = .ok (.ireturn, 1) := by decide +kernel
theorem dX11_told_0 : decode cX11_told 0 = .ok (.aload_n 0, 1) := by decide +kernel
theorem dX11_told_1 : decode cX11_told 1 = .ok (.getfield 63, 3) := by decide +kernel
theorem dX11_told_4 : decode cX11_told 4 = .ok (.getfield 111, 3) := by decide +kernel
theorem dX11_told_7 : decode cX11_told 7 = .ok (.getfield 149, 3) := by decide +kernel
theorem dX11_told_10 : decode cX11_told 10 = .ok (.ireturn, 1) := by decide +kernel
set_option maxRecDepth 20000 in
theorem ggX11_own_X10_hasPerson : GoodIn wsX11_own wsX10_hasPerson := goodIn_r _ [7, 8, 56, 57, 58, 59, 60, 61, 62, 63, 64, 65, 66, 67, 68, 69, 70, 71, 72] (by decide +kernel) (by decide +kernel)
set_option maxRecDepth 20000 in
theorem gX11_own_X10_hasPerson : GoodIn wsX11_own (wsV RX11 129 RX10 yX10_hasPerson wsX10_hasPerson) := goodIn_app (goodIn_of _ (by decide +kernel)) ggX11_own_X10_hasPerson
set_option maxRecDepth 20000 in
theorem ggX11_own_X10_hasParts : GoodIn wsX11_own wsX10_hasParts := goodIn_r _ [12, 13, 14, 15, 6, 16, 8, 56, 57, 58, 59, 60, 61, 62, 63, 64, 65, 66, 67, 68, 69, 70, 71, 72] (by decide +kernel) (by decide +kernel)
set_option maxRecDepth 20000 in
theorem gX11_own_X10_hasParts : GoodIn wsX11_own (wsV RX11 212 RX10 yX10_hasParts wsX10_hasParts) := goodIn_app (goodIn_of _ (by decide +kernel)) ggX11_own_X10_hasParts
set_option maxRecDepth 20000 in
theorem ggX11_own_X10_ownOf : GoodIn wsX11_own wsX10_ownOf := goodIn_r _ [20, 21, 22, 23, 24, 6, 25, 26, 27, 28, 29, 30, 31, 32, 33, 34, 35, 36, 37, 38, 56, 57, 58, 59, 60, 61, 62, 63, 64, 65, 66, 67, 68, 69, 70, 71, 72] (by decide +kernel) (by decide +kernel)
set_option maxRecDepth 20000 in
theorem gX11_own_X10_ownOf : GoodIn wsX11_own (wsV RX11 236 RX10 yX10_ownOf wsX10_ownOf) := goodIn_app (goodIn_of _ (by decide +kernel)) ggX11_own_X10_ownOf
theorem dX11_own_0 : decode cX11_own 0 = .ok (.aload_n 0, 1) := by decide +kernel
theorem dX11_own_1 : decode cX11_own 1 = .ok (.getfield 63, 3) := by decide +kernel
theorem dX11_own_4 : decode cX11_own 4 = .ok (.getfield 111, 3) := by decide +kernel
theorem dX11_own_7 : decode cX11_own 7 = .ok (.iload_n 1, 1) := by decide +kernel
theorem dX11_own_8 : decode cX11_own 8 = .ok (.invokevirtual 129, 3) := by decide +kernel
theorem dX11_own_11 : decode cX11_own 11 = .ok (.ifCond .eq 17, 3) := by decide +kernel
theorem dX11_own_14 : decode cX11_own 14 = .ok (.aload_n 0, 1) := by decide +kernel
theorem dX11_own_15 : decode cX11_own 15 = .ok (.getfield 63, 3) := by decide +kernel
theorem dX11_own_18 : decode cX11_own 18 = .ok (.getfield 111, 3) := by decide +kernel
theorem dX11_own_21 : decode cX11_own 21 = .ok (.iload_n 2, 1) := by decide +kernel
theorem dX11_own_22 : decode cX11_own 22 = .ok (.invokevirtual 212, 3) := by decide +kernel
theorem dX11_own_25 : decode cX11_own 25 = .ok (.ifCond .ne 5, 3) := by decide +kernel
theorem dX11_own_28 : decode cX11_own 28 = .ok (.iconst (-1), 1) := by decide +kernel
theorem dX11_own_29 : decode cX11_own 29 = .ok (.ireturn, 1) := by decide +kernel
theorem dX11_own_30 : decode cX11_own 30 = .ok (.aload_n 0, 1) := by decide +kernel
theorem dX11_own_31 : decode cX11_own 31 = .ok (.getfield 63, 3) := by decide +kernel
theorem dX11_own_34 : decode cX11_own 34 = .ok (.getfield 111, 3) := by decide +kernel
theorem dX11_own_37 : decode cX11_own 37 = .ok (.iload_n 1, 1) := by decide +kernel
theorem dX11_own_38 : decode cX11_own 38 = .ok (.iload_n 2, 1) := by decide +kernel
theorem dX11_own_39 : decode cX11_own 39 = .ok (.invokevirtual 236, 3) := by decide +kernel
theorem dX11_own_42 : decode cX11_own 42 = .ok (.ireturn, 1) := by decide +kernel
set_option maxRecDepth 20000 in
theorem ggX11_rests_X11_findRests : GoodIn wsX11_rests wsX11_findRests := goodIn_r _ [9, 4, 5, 10, 11, 12, 13, 14, 15, 16, 17, 18, 19, 20, 21, 22, 23, 24, 25, 26, 27, 28, 29, 30, 31, 32, 33, 34, 35, 36, 37, 38, 39, 40, 41, 42, 43, 44, 45, 80, 81, 82, 83, 84, 63, 64, 65, 66, 67, 68, 69, 70, 71, 72, 73, 74, 75, 76, 77, 78, 79] (by decide +kernel) (by decide +kernel)
set_option maxRecDepth 20000 in
theorem gX11_rests_X11_findRests : GoodIn wsX11_rests (va_wsS RX11 249 yX11_findRests wsX11_findRests) := goodIn_app (goodIn_of _ (by decide +kernel)) ggX11_rests_X11_findRests
theorem dX11_rests_0 : decode cX11_rests 0 = .ok (.aload_n 0, 1) := by decide +kernel
theorem dX11_rests_1 : decode cX11_rests 1 = .ok (.getfield 63, 3) := by decide +kernel
theorem dX11_rests_4 : decode cX11_rests 4 = .ok (.getfield 111, 3) := by decide +kernel
theorem dX11_rests_7 : decode cX11_rests 7 = .ok (.getfield 240, 3) := by decide +kernel
theorem dX11_rests_10 : decode cX11_rests 10 = .ok (.astore_n 2, 1) := by decide +kernel
theorem dX11_rests_11 : decode cX11_rests 11 = .ok (.aload_n 2, 1) := by decide +kernel
theorem dX11_rests_12 : decode cX11_rests 12 = .ok (.getfield 244, 3) := by decide +kernel
theorem dX11_rests_15 : decode cX11_rests 15 = .ok (.iconst (-1), 1) := by decide +kernel
theorem dX11_rests_16 : decode cX11_rests 16 = .ok (.if_icmp .ne 14, 3) := by decide +kernel
theorem dX11_rests_19 : decode cX11_rests 19 = .ok (.aload_n 0, 1) := by decide +kernel
theorem dX11_rests_20 : decode cX11_rests 20 = .ok (.getfield 63, 3) := by decide +kernel
theorem dX11_rests_23 : decode cX11_rests 23 = .ok (.getfield 111, 3) := by decide +kernel
theorem dX11_rests_26 : decode cX11_rests 26 = .ok (.aload_n 2, 1) := by decide +kernel
theorem dX11_rests_27 : decode cX11_rests 27 = .ok (.invokestatic 249, 3) := by decide +kernel
theorem dX11_rests_30 : decode cX11_rests 30 = .ok (.iload_n 1, 1) := by decide +kernel
theorem dX11_rests_31 : decode cX11_rests 31 = .ok (.iconst (-1), 1) := by decide +kernel
theorem dX11_rests_32 : decode cX11_rests 32 = .ok (.if_icmp .ne 8, 3) := by decide +kernel
theorem dX11_rests_35 : decode cX11_rests 35 = .ok (.aload_n 2, 1) := by decide +kernel
theorem dX11_rests_36 : decode cX11_rests 36 = .ok (.getfield 244, 3) := by decide +kernel
theorem dX11_rests_39 : decode cX11_rests 39 = .ok (.ireturn, 1) := by decide +kernel
theorem dX11_rests_40 : decode cX11_rests 40 = .ok (.iload_n 1, 1) := by decide +kernel
theorem dX11_rests_41 : decode cX11_rests 41 = .ok (.ifCond .lt 18, 3) := by decide +kernel
theorem dX11_rests_44 : decode cX11_rests 44 = .ok (.iload_n 1, 1) := by decide +kernel
theorem dX11_rests_45 : decode cX11_rests 45 = .ok (.aload_n 2, 1) := by decide +kernel
theorem dX11_rests_46 : decode cX11_rests 46 = .ok (.getfield 244, 3) := by decide +kernel
theorem dX11_rests_49 : decode cX11_rests 49 = .ok (.if_icmp .ge 10, 3) := by decide +kernel
theorem dX11_rests_52 : decode cX11_rests 52 = .ok (.iload_n 1, 1) := by decide +kernel
theorem dX11_rests_53 : decode cX11_rests 53 = .ok (.sipush 1024, 3) := by decide +kernel
theorem dX11_rests_56 : decode cX11_rests 56 = .ok (.if_icmp .lt 5, 3) := by decide +kernel
theorem dX11_rests_59 : decode cX11_rests 59 = .ok (.iconst (-1), 1) := by decide +kernel
theorem dX11_rests_60 : decode cX11_rests 60 = .ok (.ireturn, 1) := by decide +kernel
theorem dX11_rests_61 : decode cX11_rests 61 = .ok (.aload_n 2, 1) := by decide +kernel
theorem dX11_rests_62 : decode cX11_rests 62 = .ok (.getfield 253, 3) := by decide +kernel
theorem dX11_rests_65 : decode cX11_rests 65 = .ok (.iload_n 1, 1) := by decide +kernel
theorem dX11_rests_66 : decode cX11_rests 66 = .ok (.iaload, 1) := by decide +kernel
theorem dX11_rests_67 : decode cX11_rests 67 = .ok (.ireturn, 1) := by decide +kernel
set_option maxRecDepth 20000 in
theorem ggX11_rounds_X10_hasParts : GoodIn wsX11_rounds wsX10_hasParts := goodIn_r _ [8, 9, 10, 11, 7, 12, 13, 74, 75, 76, 77, 78, 79, 80, 81, 82, 83, 84, 85, 86, 87, 88, 89, 90] (by decide +kernel) (by decide +kernel)
set_option maxRecDepth 20000 in
theorem gX11_rounds_X10_hasParts : GoodIn wsX11_rounds (wsV RX11 212 RX10 yX10_hasParts wsX10_hasParts) := goodIn_app (goodIn_of _ (by decide +kernel)) ggX11_rounds_X10_hasParts
set_option maxRecDepth 20000 in
theorem ggX11_rounds_X7_follow : GoodIn wsX11_rounds wsX7_follow := goodIn_r _ [18, 19, 20, 21, 22, 23, 24, 25, 26, 27, 28, 17, 29, 30, 31, 32, 33, 7, 34, 35, 36, 37, 38, 39, 40, 41, 42, 43, 44, 45, 46, 47, 48, 49, 50, 51, 52, 53, 54, 55, 56, 91, 92, 93, 94, 74, 75, 76, 77, 78, 79, 80, 81, 82, 83, 84, 85, 86, 87, 88, 89, 90] (by decide +kernel) (by decide +kernel)
set_option maxRecDepth 20000 in
theorem gX11_rounds_X7_follow : GoodIn wsX11_rounds (wsV RX11 256 RX7 yX7_follow wsX7_follow) := goodIn_app (goodIn_of _ (by decide +kernel)) ggX11_rounds_X7_follow
theorem dX11_rounds_0 : decode cX11_rounds 0 = .ok (.aload_n 0, 1) := by decide +kernel
theorem dX11_rounds_1 : decode cX11_rounds 1 = .ok (.getfield 63, 3) := by decide +kernel
theorem dX11_rounds_4 : decode cX11_rounds 4 = .ok (.getfield 111, 3) := by decide +kernel
theorem dX11_rounds_7 : decode cX11_rounds 7 = .ok (.iload_n 1, 1) := by decide +kernel
theorem dX11_rounds_8 : decode cX11_rounds 8 = .ok (.invokevirtual 212, 3) := by decide +kernel
theorem dX11_rounds_11 : decode cX11_rounds 11 = .ok (.ifCond .ne 5, 3) := by decide +kernel
theorem dX11_rounds_14 : decode cX11_rounds 14 = .ok (.iconst (-1), 1) := by decide +kernel
theorem dX11_rounds_15 : decode cX11_rounds 15 = .ok (.ireturn, 1) := by decide +kernel
theorem dX11_rounds_16 : decode cX11_rounds 16 = .ok (.aload_n 0, 1) := by decide +kernel
theorem dX11_rounds_17 : decode cX11_rounds 17 = .ok (.getfield 35, 3) := by decide +kernel
theorem dX11_rounds_20 : decode cX11_rounds 20 = .ok (.aload_n 0, 1) := by decide +kernel
theorem dX11_rounds_21 : decode cX11_rounds 21 = .ok (.getfield 63, 3) := by decide +kernel
theorem dX11_rounds_24 : decode cX11_rounds 24 = .ok (.getfield 111, 3) := by decide +kernel
theorem dX11_rounds_27 : decode cX11_rounds 27 = .ok (.iload_n 1, 1) := by decide +kernel
theorem dX11_rounds_28 : decode cX11_rounds 28 = .ok (.invokevirtual 256, 3) := by decide +kernel
theorem dX11_rounds_31 : decode cX11_rounds 31 = .ok (.ireturn, 1) := by decide +kernel
theorem dX11_ended_0 : decode cX11_ended 0 = .ok (.aload_n 0, 1) := by decide +kernel
theorem dX11_ended_1 : decode cX11_ended 1 = .ok (.getfield 35, 3) := by decide +kernel
theorem dX11_ended_4 : decode cX11_ended 4 = .ok (.getfield 259, 3) := by decide +kernel
theorem dX11_ended_7 : decode cX11_ended 7 = .ok (.ifCond .ne 5, 3) := by decide +kernel
theorem dX11_ended_10 : decode cX11_ended 10 = .ok (.iconst (-1), 1) := by decide +kernel
theorem dX11_ended_11 : decode cX11_ended 11 = .ok (.ireturn, 1) := by decide +kernel
theorem dX11_ended_12 : decode cX11_ended 12 = .ok (.iload_n 1, 1) := by decide +kernel
theorem dX11_ended_13 : decode cX11_ended 13 = .ok (.ifCond .ne 13, 3) := by decide +kernel
theorem dX11_ended_16 : decode cX11_ended 16 = .ok (.aload_n 0, 1) := by decide +kernel
theorem dX11_ended_17 : decode cX11_ended 17 = .ok (.getfield 35, 3) := by decide +kernel
theorem dX11_ended_20 : decode cX11_ended 20 = .ok (.getfield 263, 3) := by decide +kernel
theorem dX11_ended_23 : decode cX11_ended 23 = .ok (.goto 19, 3) := by decide +kernel
theorem dX11_ended_26 : decode cX11_ended 26 = .ok (.iload_n 1, 1) := by decide +kernel
theorem dX11_ended_27 : decode cX11_ended 27 = .ok (.iconst 1, 1) := by decide +kernel
theorem dX11_ended_28 : decode cX11_ended 28 = .ok (.if_icmp .ne 13, 3) := by decide +kernel
theorem dX11_ended_31 : decode cX11_ended 31 = .ok (.aload_n 0, 1) := by decide +kernel
theorem dX11_ended_32 : decode cX11_ended 32 = .ok (.getfield 35, 3) := by decide +kernel
theorem dX11_ended_35 : decode cX11_ended 35 = .ok (.getfield 266, 3) := by decide +kernel
theorem dX11_ended_38 : decode cX11_ended 38 = .ok (.goto 4, 3) := by decide +kernel
theorem dX11_ended_41 : decode cX11_ended 41 = .ok (.iconst (-1), 1) := by decide +kernel
theorem dX11_ended_42 : decode cX11_ended 42 = .ok (.ireturn, 1) := by decide +kernel
set_option maxRecDepth 20000 in
theorem ggX11_one_X10_hasPerson : GoodIn wsX11_one wsX10_hasPerson := goodIn_r _ [10, 11, 89, 90, 91, 92, 93, 94, 95, 96, 97, 98, 99, 100, 101, 102, 103, 104, 105] (by decide +kernel) (by decide +kernel)
set_option maxRecDepth 20000 in
theorem gX11_one_X10_hasPerson : GoodIn wsX11_one (wsV RX11 129 RX10 yX10_hasPerson wsX10_hasPerson) := goodIn_app (goodIn_of _ (by decide +kernel)) ggX11_one_X10_hasPerson
set_option maxRecDepth 20000 in
theorem ggX11_one_X10_hasParts : GoodIn wsX11_one wsX10_hasParts := goodIn_r _ [15, 16, 17, 18, 9, 19, 11, 89, 90, 91, 92, 93, 94, 95, 96, 97, 98, 99, 100, 101, 102, 103, 104, 105] (by decide +kernel) (by decide +kernel)
set_option maxRecDepth 20000 in
theorem gX11_one_X10_hasParts : GoodIn wsX11_one (wsV RX11 212 RX10 yX10_hasParts wsX10_hasParts) := goodIn_app (goodIn_of _ (by decide +kernel)) ggX11_one_X10_hasParts
set_option maxRecDepth 20000 in
theorem ggX11_one_X1_reckon : GoodIn wsX11_one wsX1_reckon := goodIn_r _ [24, 25, 26, 27, 28, 29, 30, 31, 32, 33, 34, 23, 35, 36, 37, 38, 39, 40, 41, 42, 43, 44, 9, 45, 46, 47, 48, 49, 50, 51, 52, 53, 54, 55, 56, 57, 58, 59, 60, 61, 62, 63, 64, 65, 106, 107, 108, 109, 110, 111, 89, 90, 91, 92, 93, 94, 95, 96, 97, 98, 99, 100, 101, 102, 103, 104, 105] (by decide +kernel) (by decide +kernel)
set_option maxRecDepth 20000 in
theorem gX11_one_X1_reckon : GoodIn wsX11_one (wsV RX11 272 RX1 yX1_reckon wsX1_reckon) := goodIn_app (goodIn_of _ (by decide +kernel)) ggX11_one_X1_reckon
set_option maxRecDepth 20000 in
theorem ggX11_one_X1_keepRow : GoodIn wsX11_one wsX1_keepRow := goodIn_r _ [69, 70, 26, 71, 28, 27, 55, 56, 57, 23, 58, 59, 60, 61, 62, 25, 63, 64, 31, 65, 106, 107, 108, 109, 110, 111] (by decide +kernel) (by decide +kernel)
set_option maxRecDepth 20000 in
theorem gX11_one_X1_keepRow : GoodIn wsX11_one (wsV RX11 276 RX1 yX1_keepRow wsX1_keepRow) := goodIn_app (goodIn_of _ (by decide +kernel)) ggX11_one_X1_keepRow
theorem dX11_one_0 : decode cX11_one 0 = .ok (.aload_n 0, 1) := by decide +kernel
theorem dX11_one_1 : decode cX11_one 1 = .ok (.getfield 63, 3) := by decide +kernel
theorem dX11_one_4 : decode cX11_one 4 = .ok (.getfield 111, 3) := by decide +kernel
theorem dX11_one_7 : decode cX11_one 7 = .ok (.iload_n 1, 1) := by decide +kernel
theorem dX11_one_8 : decode cX11_one 8 = .ok (.invokevirtual 129, 3) := by decide +kernel
theorem dX11_one_11 : decode cX11_one 11 = .ok (.ifCond .eq 17, 3) := by decide +kernel
theorem dX11_one_14 : decode cX11_one 14 = .ok (.aload_n 0, 1) := by decide +kernel
theorem dX11_one_15 : decode cX11_one 15 = .ok (.getfield 63, 3) := by decide +kernel
theorem dX11_one_18 : decode cX11_one 18 = .ok (.getfield 111, 3) := by decide +kernel
theorem dX11_one_21 : decode cX11_one 21 = .ok (.iload_n 2, 1) := by decide +kernel
theorem dX11_one_22 : decode cX11_one 22 = .ok (.invokevirtual 212, 3) := by decide +kernel
theorem dX11_one_25 : decode cX11_one 25 = .ok (.ifCond .ne 5, 3) := by decide +kernel
theorem dX11_one_28 : decode cX11_one 28 = .ok (.iconst (-1), 1) := by decide +kernel
theorem dX11_one_29 : decode cX11_one 29 = .ok (.ireturn, 1) := by decide +kernel
theorem dX11_one_30 : decode cX11_one 30 = .ok (.aload_n 0, 1) := by decide +kernel
theorem dX11_one_31 : decode cX11_one 31 = .ok (.getfield 42, 3) := by decide +kernel
theorem dX11_one_34 : decode cX11_one 34 = .ok (.aload_n 0, 1) := by decide +kernel
theorem dX11_one_35 : decode cX11_one 35 = .ok (.getfield 63, 3) := by decide +kernel
theorem dX11_one_38 : decode cX11_one 38 = .ok (.getfield 111, 3) := by decide +kernel
theorem dX11_one_41 : decode cX11_one 41 = .ok (.iload_n 1, 1) := by decide +kernel
theorem dX11_one_42 : decode cX11_one 42 = .ok (.iload_n 2, 1) := by decide +kernel
theorem dX11_one_43 : decode cX11_one 43 = .ok (.aload_n 0, 1) := by decide +kernel
theorem dX11_one_44 : decode cX11_one 44 = .ok (.getfield 63, 3) := by decide +kernel
theorem dX11_one_47 : decode cX11_one 47 = .ok (.getfield 111, 3) := by decide +kernel
theorem dX11_one_50 : decode cX11_one 50 = .ok (.getfield 269, 3) := by decide +kernel
theorem dX11_one_53 : decode cX11_one 53 = .ok (.invokevirtual 272, 3) := by decide +kernel
theorem dX11_one_56 : decode cX11_one 56 = .ok (.aload_n 0, 1) := by decide +kernel
theorem dX11_one_57 : decode cX11_one 57 = .ok (.getfield 42, 3) := by decide +kernel
theorem dX11_one_60 : decode cX11_one 60 = .ok (.invokevirtual 276, 3) := by decide +kernel
theorem dX11_one_63 : decode cX11_one 63 = .ok (.aload_n 0, 1) := by decide +kernel
theorem dX11_one_64 : decode cX11_one 64 = .ok (.getfield 42, 3) := by decide +kernel
theorem dX11_one_67 : decode cX11_one 67 = .ok (.getfield 279, 3) := by decide +kernel
theorem dX11_one_70 : decode cX11_one 70 = .ok (.iconst 0, 1) := by decide +kernel
theorem dX11_one_71 : decode cX11_one 71 = .ok (.iaload, 1) := by decide +kernel
theorem dX11_one_72 : decode cX11_one 72 = .ok (.ireturn, 1) := by decide +kernel
set_option maxRecDepth 20000 in
theorem ggX11_oneBy_X10_hasPerson : GoodIn wsX11_oneBy wsX10_hasPerson := goodIn_r _ [9, 10, 88, 89, 90, 91, 92, 93, 94, 95, 96, 97, 98, 99, 100, 101, 102, 103, 104] (by decide +kernel) (by decide +kernel)
set_option maxRecDepth 20000 in
theorem gX11_oneBy_X10_hasPerson : GoodIn wsX11_oneBy (wsV RX11 129 RX10 yX10_hasPerson wsX10_hasPerson) := goodIn_app (goodIn_of _ (by decide +kernel)) ggX11_oneBy_X10_hasPerson
set_option maxRecDepth 20000 in
theorem ggX11_oneBy_X10_hasParts : GoodIn wsX11_oneBy wsX10_hasParts := goodIn_r _ [14, 15, 16, 17, 8, 18, 10, 88, 89, 90, 91, 92, 93, 94, 95, 96, 97, 98, 99, 100, 101, 102, 103, 104] (by decide +kernel) (by decide +kernel)
set_option maxRecDepth 20000 in
theorem gX11_oneBy_X10_hasParts : GoodIn wsX11_oneBy (wsV RX11 212 RX10 yX10_hasParts wsX10_hasParts) := goodIn_app (goodIn_of _ (by decide +kernel)) ggX11_oneBy_X10_hasParts
set_option maxRecDepth 20000 in
theorem ggX11_oneBy_X1_reckon : GoodIn wsX11_oneBy wsX1_reckon := goodIn_r _ [23, 24, 25, 26, 27, 28, 29, 30, 31, 32, 33, 22, 34, 35, 36, 37, 38, 39, 40, 41, 42, 43, 8, 44, 45, 46, 47, 48, 49, 50, 51, 52, 53, 54, 55, 56, 57, 58, 59, 60, 61, 62, 63, 64, 82, 83, 84, 85, 86, 87, 88, 89, 90, 91, 92, 93, 94, 95, 96, 97, 98, 99, 100, 101, 102, 103, 104] (by decide +kernel) (by decide +kernel)
set_option maxRecDepth 20000 in
theorem gX11_oneBy_X1_reckon : GoodIn wsX11_oneBy (wsV RX11 272 RX1 yX1_reckon wsX1_reckon) := goodIn_app (goodIn_of _ (by decide +kernel)) ggX11_oneBy_X1_reckon
theorem dX11_oneBy_0 : decode cX11_oneBy 0 = .ok (.aload_n 0, 1) := by decide +kernel
theorem dX11_oneBy_1 : decode cX11_oneBy 1 = .ok (.getfield 63, 3) := by decide +kernel
theorem dX11_oneBy_4 : decode cX11_oneBy 4 = .ok (.getfield 111, 3) := by decide +kernel
theorem dX11_oneBy_7 : decode cX11_oneBy 7 = .ok (.iload_n 1, 1) := by decide +kernel
theorem dX11_oneBy_8 : decode cX11_oneBy 8 = .ok (.invokevirtual 129, 3) := by decide +kernel
theorem dX11_oneBy_11 : decode cX11_oneBy 11 = .ok (.ifCond .eq 27, 3) := by decide +kernel
theorem dX11_oneBy_14 : decode cX11_oneBy 14 = .ok (.aload_n 0, 1) := by decide +kernel
theorem dX11_oneBy_15 : decode cX11_oneBy 15 = .ok (.getfield 63, 3) := by decide +kernel
theorem dX11_oneBy_18 : decode cX11_oneBy 18 = .ok (.getfield 111, 3) := by decide +kernel
theorem dX11_oneBy_21 : decode cX11_oneBy 21 = .ok (.iload_n 2, 1) := by decide +kernel
theorem dX11_oneBy_22 : decode cX11_oneBy 22 = .ok (.invokevirtual 212, 3) := by decide +kernel
theorem dX11_oneBy_25 : decode cX11_oneBy 25 = .ok (.ifCond .eq 13, 3) := by decide +kernel
theorem dX11_oneBy_28 : decode cX11_oneBy 28 = .ok (.iload_n 3, 1) := by decide +kernel
theorem dX11_oneBy_29 : decode cX11_oneBy 29 = .ok (.ifCond .lt 9, 3) := by decide +kernel
theorem dX11_oneBy_32 : decode cX11_oneBy 32 = .ok (.iload_n 3, 1) := by decide +kernel
theorem dX11_oneBy_33 : decode cX11_oneBy 33 = .ok (.bipush 60, 2) := by decide +kernel
theorem dX11_oneBy_35 : decode cX11_oneBy 35 = .ok (.if_icmp .le 5, 3) := by decide +kernel
theorem dX11_oneBy_38 : decode cX11_oneBy 38 = .ok (.iconst (-1), 1) := by decide +kernel
theorem dX11_oneBy_39 : decode cX11_oneBy 39 = .ok (.ireturn, 1) := by decide +kernel
theorem dX11_oneBy_40 : decode cX11_oneBy 40 = .ok (.aload_n 0, 1) := by decide +kernel
theorem dX11_oneBy_41 : decode cX11_oneBy 41 = .ok (.getfield 42, 3) := by decide +kernel
theorem dX11_oneBy_44 : decode cX11_oneBy 44 = .ok (.aload_n 0, 1) := by decide +kernel
theorem dX11_oneBy_45 : decode cX11_oneBy 45 = .ok (.getfield 63, 3) := by decide +kernel
theorem dX11_oneBy_48 : decode cX11_oneBy 48 = .ok (.getfield 111, 3) := by decide +kernel
theorem dX11_oneBy_51 : decode cX11_oneBy 51 = .ok (.iload_n 1, 1) := by decide +kernel
theorem dX11_oneBy_52 : decode cX11_oneBy 52 = .ok (.iload_n 2, 1) := by decide +kernel
theorem dX11_oneBy_53 : decode cX11_oneBy 53 = .ok (.iload_n 3, 1) := by decide +kernel
theorem dX11_oneBy_54 : decode cX11_oneBy 54 = .ok (.invokevirtual 272, 3) := by decide +kernel
theorem dX11_oneBy_57 : decode cX11_oneBy 57 = .ok (.aload_n 0, 1) := by decide +kernel
theorem dX11_oneBy_58 : decode cX11_oneBy 58 = .ok (.getfield 42, 3) := by decide +kernel
theorem dX11_oneBy_61 : decode cX11_oneBy 61 = .ok (.getfield 279, 3) := by decide +kernel
theorem dX11_oneBy_64 : decode cX11_oneBy 64 = .ok (.iconst 0, 1) := by decide +kernel
theorem dX11_oneBy_65 : decode cX11_oneBy 65 = .ok (.iaload, 1) := by decide +kernel
theorem dX11_oneBy_66 : decode cX11_oneBy 66 = .ok (.ireturn, 1) := by decide +kernel
set_option maxRecDepth 20000 in
theorem ggX11_lawful_X3_reckon : GoodIn wsX11_lawful wsX3_reckon := goodIn_r _ [9, 10, 11, 12, 13, 14, 15, 16, 17, 18, 19, 20, 21, 22, 23, 24, 25, 26, 27, 28, 29, 30, 31, 32, 33, 34, 35, 36, 37, 38, 8, 39, 40, 41, 42, 43, 44, 45, 46, 47, 48, 49, 50, 51, 52, 53, 54, 55, 56, 57, 58, 59, 60, 61, 62, 63, 64, 65, 66, 67, 68, 69, 70, 71, 72, 73, 74, 75, 76, 77, 78, 79, 80, 81, 82, 83, 101, 102, 103, 104, 105, 106, 107, 108, 109, 110, 111, 112, 113, 114, 115, 116, 117, 118, 119, 120, 121, 122, 123, 124, 125, 126, 127, 128, 129, 130, 131] (by decide +kernel) (by decide +kernel)
set_option maxRecDepth 20000 in
theorem gX11_lawful_X3_reckon : GoodIn wsX11_lawful (wsV RX11 282 RX3 yX3_reckon wsX3_reckon) := goodIn_app (goodIn_of _ (by decide +kernel)) ggX11_lawful_X3_reckon
theorem dX11_lawful_0 : decode cX11_lawful 0 = .ok (.aload_n 0, 1) := by decide +kernel
theorem dX11_lawful_1 : decode cX11_lawful 1 = .ok (.getfield 63, 3) := by decide +kernel
theorem dX11_lawful_4 : decode cX11_lawful 4 = .ok (.getfield 111, 3) := by decide +kernel
theorem dX11_lawful_7 : decode cX11_lawful 7 = .ok (.getfield 202, 3) := by decide +kernel
theorem dX11_lawful_10 : decode cX11_lawful 10 = .ok (.bipush 12, 2) := by decide +kernel
theorem dX11_lawful_12 : decode cX11_lawful 12 = .ok (.if_icmp .le 5, 3) := by decide +kernel
theorem dX11_lawful_15 : decode cX11_lawful 15 = .ok (.iconst (-1), 1) := by decide +kernel
theorem dX11_lawful_16 : decode cX11_lawful 16 = .ok (.ireturn, 1) := by decide +kernel
theorem dX11_lawful_17 : decode cX11_lawful 17 = .ok (.aload_n 0, 1) := by decide +kernel
theorem dX11_lawful_18 : decode cX11_lawful 18 = .ok (.getfield 49, 3) := by decide +kernel
theorem dX11_lawful_21 : decode cX11_lawful 21 = .ok (.aload_n 0, 1) := by decide +kernel
theorem dX11_lawful_22 : decode cX11_lawful 22 = .ok (.getfield 63, 3) := by decide +kernel
theorem dX11_lawful_25 : decode cX11_lawful 25 = .ok (.getfield 111, 3) := by decide +kernel
theorem dX11_lawful_28 : decode cX11_lawful 28 = .ok (.invokevirtual 282, 3) := by decide +kernel
theorem dX11_lawful_31 : decode cX11_lawful 31 = .ok (.ireturn, 1) := by decide +kernel
theorem dX11_lawfulBy_0 : decode cX11_lawfulBy 0 = .ok (.iload_n 1, 1) := by decide +kernel
theorem dX11_lawfulBy_1 : decode cX11_lawfulBy 1 = .ok (.ifCond .lt 20, 3) := by decide +kernel
theorem dX11_lawfulBy_4 : decode cX11_lawfulBy 4 = .ok (.iload_n 1, 1) := by decide +kernel
theorem dX11_lawfulBy_5 : decode cX11_lawfulBy 5 = .ok (.aload_n 0, 1) := by decide +kernel
theorem dX11_lawfulBy_6 : decode cX11_lawfulBy 6 = .ok (.getfield 49, 3) := by decide +kernel
theorem dX11_lawfulBy_9 : decode cX11_lawfulBy 9 = .ok (.getfield 285, 3) := by decide +kernel
theorem dX11_lawfulBy_12 : decode cX11_lawfulBy 12 = .ok (.if_icmp .ge 9, 3) := by decide +kernel
theorem dX11_lawfulBy_15 : decode cX11_lawfulBy 15 = .ok (.iload_n 1, 1) := by decide +kernel
theorem dX11_lawfulBy_16 : decode cX11_lawfulBy 16 = .ok (.bipush 12, 2) := by decide +kernel
theorem dX11_lawfulBy_18 : decode cX11_lawfulBy 18 = .ok (.if_icmp .lt 5, 3) := by decide +kernel
theorem dX11_lawfulBy_21 : decode cX11_lawfulBy 21 = .ok (.iconst (-1), 1) := by decide +kernel
theorem dX11_lawfulBy_22 : decode cX11_lawfulBy 22 = .ok (.ireturn, 1) := by decide +kernel
theorem dX11_lawfulBy_23 : decode cX11_lawfulBy 23 = .ok (.aload_n 0, 1) := by decide +kernel
theorem dX11_lawfulBy_24 : decode cX11_lawfulBy 24 = .ok (.getfield 49, 3) := by decide +kernel
theorem dX11_lawfulBy_27 : decode cX11_lawfulBy 27 = .ok (.getfield 288, 3) := by decide +kernel
theorem dX11_lawfulBy_30 : decode cX11_lawfulBy 30 = .ok (.iload_n 1, 1) := by decide +kernel
theorem dX11_lawfulBy_31 : decode cX11_lawfulBy 31 = .ok (.iaload, 1) := by decide +kernel
theorem dX11_lawfulBy_32 : decode cX11_lawfulBy 32 = .ok (.ireturn, 1) := by decide +kernel
set_option maxRecDepth 20000 in
theorem ggX11_oneIs_X11_isYear : GoodIn wsX11_oneIs wsX11_isYear := goodIn_r _ [7] (by decide +kernel) (by decide +kernel)
set_option maxRecDepth 20000 in
theorem gX11_oneIs_X11_isYear : GoodIn wsX11_oneIs (va_wsS RX11 196 yX11_isYear wsX11_isYear) := goodIn_app (goodIn_of _ (by decide +kernel)) ggX11_oneIs_X11_isYear
theorem dX11_oneIs_0 : decode cX11_oneIs 0 = .ok (.aload_n 0, 1) := by decide +kernel
theorem dX11_oneIs_1 : decode cX11_oneIs 1 = .ok (.getfield 42, 3) := by decide +kernel
theorem dX11_oneIs_4 : decode cX11_oneIs 4 = .ok (.getfield 291, 3) := by decide +kernel
theorem dX11_oneIs_7 : decode cX11_oneIs 7 = .ok (.ifCond .eq 10, 3) := by decide +kernel
theorem dX11_oneIs_10 : decode cX11_oneIs 10 = .ok (.iload_n 1, 1) := by decide +kernel
theorem dX11_oneIs_11 : decode cX11_oneIs 11 = .ok (.invokestatic 196, 3) := by decide +kernel
theorem dX11_oneIs_14 : decode cX11_oneIs 14 = .ok (.ifCond .ne 5, 3) := by decide +kernel
theorem dX11_oneIs_17 : decode cX11_oneIs 17 = .ok (.iconst (-1), 1) := by decide +kernel
theorem dX11_oneIs_18 : decode cX11_oneIs 18 = .ok (.ireturn, 1) := by decide +kernel
theorem dX11_oneIs_19 : decode cX11_oneIs 19 = .ok (.aload_n 0, 1) := by decide +kernel
theorem dX11_oneIs_20 : decode cX11_oneIs 20 = .ok (.getfield 42, 3) := by decide +kernel
theorem dX11_oneIs_23 : decode cX11_oneIs 23 = .ok (.getfield 294, 3) := by decide +kernel
theorem dX11_oneIs_26 : decode cX11_oneIs 26 = .ok (.iload_n 1, 1) := by decide +kernel
theorem dX11_oneIs_27 : decode cX11_oneIs 27 = .ok (.iaload, 1) := by decide +kernel
theorem dX11_oneIs_28 : decode cX11_oneIs 28 = .ok (.ireturn, 1) := by decide +kernel
set_option maxRecDepth 20000 in
theorem ggX11_fewest_X10_personsWithDeals : GoodIn wsX11_fewest wsX10_personsWithDeals := goodIn_r _ [7, 8, 9, 10, 45, 46, 47, 48, 49, 50, 51, 52, 53, 54, 55, 56, 57, 58, 59, 60, 61] (by decide +kernel) (by decide +kernel)
set_option maxRecDepth 20000 in
theorem gX11_fewest_X10_personsWithDeals : GoodIn wsX11_fewest (wsV RX11 297 RX10 yX10_personsWithDeals wsX10_personsWithDeals) := goodIn_app (goodIn_of _ (by decide +kernel)) ggX11_fewest_X10_personsWithDeals
set_option maxRecDepth 20000 in
theorem ggX11_fewest_X10_partsCount : GoodIn wsX11_fewest wsX10_partsCount := goodIn_r _ [14, 15, 45, 46, 47, 48, 49, 50, 51, 52, 53, 54, 55, 56, 57, 58, 59, 60, 61] (by decide +kernel) (by decide +kernel)
set_option maxRecDepth 20000 in
theorem gX11_fewest_X10_partsCount : GoodIn wsX11_fewest (wsV RX11 226 RX10 yX10_partsCount wsX10_partsCount) := goodIn_app (goodIn_of _ (by decide +kernel)) ggX11_fewest_X10_partsCount
set_option maxRecDepth 20000 in
theorem ggX11_fewest_J6_bitCount_0f7a4 : GoodIn wsX11_fewest wsJ6_bitCount_0f7a4 := goodIn_r _ [19, 20, 21, 22] (by decide +kernel) (by decide +kernel)
set_option maxRecDepth 20000 in
theorem gX11_fewest_J6_bitCount_0f7a4 : GoodIn wsX11_fewest (va_wsS RX11 300 yJ6_bitCount_0f7a4 wsJ6_bitCount_0f7a4) := goodIn_app (goodIn_of _ (by decide +kernel)) ggX11_fewest_J6_bitCount_0f7a4
set_option maxRecDepth 20000 in
theorem ggX11_fewest_X10_allServed : GoodIn wsX11_fewest wsX10_allServed := goodIn_r _ [26, 8, 9, 10, 27, 45, 46, 47, 48, 49, 50, 51, 52, 53, 54, 55, 56, 57, 58, 59, 60, 61] (by decide +kernel) (by decide +kernel)
set_option maxRecDepth 20000 in
theorem gX11_fewest_X10_allServed : GoodIn wsX11_fewest (wsV RX11 305 RX10 yX10_allServed wsX10_allServed) := goodIn_app (goodIn_of _ (by decide +kernel)) ggX11_fewest_X10_allServed
theorem dX11_fewest_0 : decode cX11_fewest 0 = .ok (.aload_n 0, 1) := by decide +kernel
theorem dX11_fewest_1 : decode cX11_fewest 1 = .ok (.getfield 63, 3) := by decide +kernel
theorem dX11_fewest_4 : decode cX11_fewest 4 = .ok (.getfield 111, 3) := by decide +kernel
theorem dX11_fewest_7 : decode cX11_fewest 7 = .ok (.astore_n 1, 1) := by decide +kernel
theorem dX11_fewest_8 : decode cX11_fewest 8 = .ok (.aload_n 1, 1) := by decide +kernel
theorem dX11_fewest_9 : decode cX11_fewest 9 = .ok (.invokevirtual 297, 3) := by decide +kernel
theorem dX11_fewest_12 : decode cX11_fewest 12 = .ok (.istore_n 2, 1) := by decide +kernel
theorem dX11_fewest_13 : decode cX11_fewest 13 = .ok (.iload_n 2, 1) := by decide +kernel
theorem dX11_fewest_14 : decode cX11_fewest 14 = .ok (.istore_n 3, 1) := by decide +kernel
theorem dX11_fewest_15 : decode cX11_fewest 15 = .ok (.iconst 0, 1) := by decide +kernel
theorem dX11_fewest_16 : decode cX11_fewest 16 = .ok (.istore 4, 2) := by decide +kernel
theorem dX11_fewest_18 : decode cX11_fewest 18 = .ok (.iload 4, 2) := by decide +kernel
theorem dX11_fewest_20 : decode cX11_fewest 20 = .ok (.aload_n 1, 1) := by decide +kernel
theorem dX11_fewest_21 : decode cX11_fewest 21 = .ok (.invokevirtual 226, 3) := by decide +kernel
theorem dX11_fewest_24 : decode cX11_fewest 24 = .ok (.if_icmp .ge 55, 3) := by decide +kernel
theorem dX11_fewest_27 : decode cX11_fewest 27 = .ok (.iload 4, 2) := by decide +kernel
theorem dX11_fewest_29 : decode cX11_fewest 29 = .ok (.invokestatic 300, 3) := by decide +kernel
theorem dX11_fewest_32 : decode cX11_fewest 32 = .ok (.iload_n 3, 1) := by decide +kernel
theorem dX11_fewest_33 : decode cX11_fewest 33 = .ok (.invokestatic 300, 3) := by decide +kernel
theorem dX11_fewest_36 : decode cX11_fewest 36 = .ok (.if_icmp .ge 7, 3) := by decide +kernel
theorem dX11_fewest_39 : decode cX11_fewest 39 = .ok (.iconst 1, 1) := by decide +kernel
theorem dX11_fewest_40 : decode cX11_fewest 40 = .ok (.goto 4, 3) := by decide +kernel
theorem dX11_fewest_43 : decode cX11_fewest 43 = .ok (.iconst 0, 1) := by decide +kernel
theorem dX11_fewest_44 : decode cX11_fewest 44 = .ok (.istore 5, 2) := by decide +kernel
theorem dX11_fewest_46 : decode cX11_fewest 46 = .ok (.iload 5, 2) := by decide +kernel
theorem dX11_fewest_48 : decode cX11_fewest 48 = .ok (.ifCond .eq 25, 3) := by decide +kernel
theorem dX11_fewest_51 : decode cX11_fewest 51 = .ok (.iload 4, 2) := by decide +kernel
theorem dX11_fewest_53 : decode cX11_fewest 53 = .ok (.iload_n 2, 1) := by decide +kernel
theorem dX11_fewest_54 : decode cX11_fewest 54 = .ok (.iconst (-1), 1) := by decide +kernel
theorem dX11_fewest_55 : decode cX11_fewest 55 = .ok (.ixor, 1) := by decide +kernel
theorem dX11_fewest_56 : decode cX11_fewest 56 = .ok (.iand, 1) := by decide +kernel
theorem dX11_fewest_57 : decode cX11_fewest 57 = .ok (.ifCond .ne 16, 3) := by decide +kernel
theorem dX11_fewest_60 : decode cX11_fewest 60 = .ok (.aload_n 1, 1) := by decide +kernel
theorem dX11_fewest_61 : decode cX11_fewest 61 = .ok (.iload 4, 2) := by decide +kernel
theorem dX11_fewest_63 : decode cX11_fewest 63 = .ok (.iload_n 2, 1) := by decide +kernel
theorem dX11_fewest_64 : decode cX11_fewest 64 = .ok (.invokevirtual 305, 3) := by decide +kernel
theorem dX11_fewest_67 : decode cX11_fewest 67 = .ok (.ifCond .eq 6, 3) := by decide +kernel
theorem dX11_fewest_70 : decode cX11_fewest 70 = .ok (.iload 4, 2) := by decide +kernel
theorem dX11_fewest_72 : decode cX11_fewest 72 = .ok (.istore_n 3, 1) := by decide +kernel
theorem dX11_fewest_73 : decode cX11_fewest 73 = .ok (.iinc 4 1, 3) := by decide +kernel
theorem dX11_fewest_76 : decode cX11_fewest 76 = .ok (.goto (-58), 3) := by decide +kernel
theorem dX11_fewest_79 : decode cX11_fewest 79 = .ok (.iload_n 3, 1) := by decide +kernel
theorem dX11_fewest_80 : decode cX11_fewest 80 = .ok (.ireturn, 1) := by decide +kernel
set_option maxRecDepth 20000 in
theorem ggX11_meet_X4_take : GoodIn wsX11_meet wsX4_take := goodIn_r _ [10, 11, 12, 13, 14, 15, 16, 17, 18, 19, 20, 21, 22, 9, 23, 24, 25, 80, 81, 82, 83, 84, 85, 86, 87, 88, 89, 90, 91, 92, 93, 94] (by decide +kernel) (by decide +kernel)
set_option maxRecDepth 20000 in
theorem gX11_meet_X4_take : GoodIn wsX11_meet (wsV RX11 311 RX4 yX4_take wsX4_take) := goodIn_app (goodIn_of _ (by decide +kernel)) ggX11_meet_X4_take
set_option maxRecDepth 20000 in
theorem ggX11_meet_X9_cut : GoodIn wsX11_meet wsX9_cut := goodIn_r _ [30, 31, 87, 88, 89, 90, 91, 92, 93, 94] (by decide +kernel) (by decide +kernel)
set_option maxRecDepth 20000 in
theorem gX11_meet_X9_cut : GoodIn wsX11_meet (wsV RX11 101 RX9 yX9_cut wsX9_cut) := goodIn_app (goodIn_of _ (by decide +kernel)) ggX11_meet_X9_cut
set_option maxRecDepth 20000 in
theorem ggX11_meet_X4_waysToBe : GoodIn wsX11_meet wsX4_waysToBe := goodIn_r _ [35, 12, 36, 37, 38, 39, 40, 9, 41, 42, 43, 44, 45, 13, 80, 81, 82, 83, 84, 85, 86] (by decide +kernel) (by decide +kernel)
set_option maxRecDepth 20000 in
theorem gX11_meet_X4_waysToBe : GoodIn wsX11_meet (wsV RX11 315 RX4 yX4_waysToBe wsX4_waysToBe) := goodIn_app (goodIn_of _ (by decide +kernel)) ggX11_meet_X4_waysToBe
theorem dX11_meet_0 : decode cX11_meet 0 = .ok (.aload_n 0, 1) := by decide +kernel
theorem dX11_meet_1 : decode cX11_meet 1 = .ok (.getfield 56, 3) := by decide +kernel
theorem dX11_meet_4 : decode cX11_meet 4 = .ok (.aload_n 0, 1) := by decide +kernel
theorem dX11_meet_5 : decode cX11_meet 5 = .ok (.getfield 12, 3) := by decide +kernel
theorem dX11_meet_8 : decode cX11_meet 8 = .ok (.aload_n 0, 1) := by decide +kernel
theorem dX11_meet_9 : decode cX11_meet 9 = .ok (.getfield 63, 3) := by decide +kernel
theorem dX11_meet_12 : decode cX11_meet 12 = .ok (.getfield 111, 3) := by decide +kernel
theorem dX11_meet_15 : decode cX11_meet 15 = .ok (.getfield 308, 3) := by decide +kernel
theorem dX11_meet_18 : decode cX11_meet 18 = .ok (.invokevirtual 311, 3) := by decide +kernel
theorem dX11_meet_21 : decode cX11_meet 21 = .ok (.istore_n 1, 1) := by decide +kernel
theorem dX11_meet_22 : decode cX11_meet 22 = .ok (.aload_n 0, 1) := by decide +kernel
theorem dX11_meet_23 : decode cX11_meet 23 = .ok (.getfield 12, 3) := by decide +kernel
theorem dX11_meet_26 : decode cX11_meet 26 = .ok (.iconst 0, 1) := by decide +kernel
theorem dX11_meet_27 : decode cX11_meet 27 = .ok (.invokevirtual 101, 3) := by decide +kernel
theorem dX11_meet_30 : decode cX11_meet 30 = .ok (.iload_n 1, 1) := by decide +kernel
theorem dX11_meet_31 : decode cX11_meet 31 = .ok (.ifCond .eq 13, 3) := by decide +kernel
theorem dX11_meet_34 : decode cX11_meet 34 = .ok (.aload_n 0, 1) := by decide +kernel
theorem dX11_meet_35 : decode cX11_meet 35 = .ok (.getfield 56, 3) := by decide +kernel
theorem dX11_meet_38 : decode cX11_meet 38 = .ok (.invokevirtual 315, 3) := by decide +kernel
theorem dX11_meet_41 : decode cX11_meet 41 = .ok (.goto 4, 3) := by decide +kernel
theorem dX11_meet_44 : decode cX11_meet 44 = .ok (.iconst (-1), 1) := by decide +kernel
theorem dX11_meet_45 : decode cX11_meet 45 = .ok (.ireturn, 1) := by decide +kernel
set_option maxRecDepth 20000 in
theorem ggX11_must_X4_take : GoodIn wsX11_must wsX4_take := goodIn_r _ [10, 11, 12, 13, 14, 15, 16, 17, 18, 19, 20, 21, 22, 9, 23, 24, 25, 84, 85, 86, 87, 88, 89, 90, 91, 92, 93, 94, 95, 96, 97, 98] (by decide +kernel) (by decide +kernel)
set_option maxRecDepth 20000 in
theorem gX11_must_X4_take : GoodIn wsX11_must (wsV RX11 311 RX4 yX4_take wsX4_take) := goodIn_app (goodIn_of _ (by decide +kernel)) ggX11_must_X4_take
set_option maxRecDepth 20000 in
theorem ggX11_must_X9_cut : GoodIn wsX11_must wsX9_cut := goodIn_r _ [30, 31, 91, 92, 93, 94, 95, 96, 97, 98] (by decide +kernel) (by decide +kernel)
set_option maxRecDepth 20000 in
theorem gX11_must_X9_cut : GoodIn wsX11_must (wsV RX11 101 RX9 yX9_cut wsX9_cut) := goodIn_app (goodIn_of _ (by decide +kernel)) ggX11_must_X9_cut
set_option maxRecDepth 20000 in
theorem ggX11_must_X4_bound : GoodIn wsX11_must wsX4_bound := goodIn_r _ [35, 12, 36, 37, 38, 39, 40, 9, 41, 42, 43, 44, 45, 46, 47, 48, 49, 13, 84, 85, 86, 87, 88, 89, 90] (by decide +kernel) (by decide +kernel)
set_option maxRecDepth 20000 in
theorem gX11_must_X4_bound : GoodIn wsX11_must (wsV RX11 318 RX4 yX4_bound wsX4_bound) := goodIn_app (goodIn_of _ (by decide +kernel)) ggX11_must_X4_bound
theorem dX11_must_0 : decode cX11_must 0 = .ok (.aload_n 0, 1) := by decide +kernel
theorem dX11_must_1 : decode cX11_must 1 = .ok (.getfield 56, 3) := by decide +kernel
theorem dX11_must_4 : decode cX11_must 4 = .ok (.aload_n 0, 1) := by decide +kernel
theorem dX11_must_5 : decode cX11_must 5 = .ok (.getfield 12, 3) := by decide +kernel
theorem dX11_must_8 : decode cX11_must 8 = .ok (.aload_n 0, 1) := by decide +kernel
theorem dX11_must_9 : decode cX11_must 9 = .ok (.getfield 63, 3) := by decide +kernel
theorem dX11_must_12 : decode cX11_must 12 = .ok (.getfield 111, 3) := by decide +kernel
theorem dX11_must_15 : decode cX11_must 15 = .ok (.getfield 308, 3) := by decide +kernel
theorem dX11_must_18 : decode cX11_must 18 = .ok (.invokevirtual 311, 3) := by decide +kernel
theorem dX11_must_21 : decode cX11_must 21 = .ok (.istore_n 2, 1) := by decide +kernel
theorem dX11_must_22 : decode cX11_must 22 = .ok (.aload_n 0, 1) := by decide +kernel
theorem dX11_must_23 : decode cX11_must 23 = .ok (.getfield 12, 3) := by decide +kernel
theorem dX11_must_26 : decode cX11_must 26 = .ok (.iconst 0, 1) := by decide +kernel
theorem dX11_must_27 : decode cX11_must 27 = .ok (.invokevirtual 101, 3) := by decide +kernel
theorem dX11_must_30 : decode cX11_must 30 = .ok (.iload_n 2, 1) := by decide +kernel
theorem dX11_must_31 : decode cX11_must 31 = .ok (.ifCond .eq 12, 3) := by decide +kernel
theorem dX11_must_34 : decode cX11_must 34 = .ok (.iload_n 1, 1) := by decide +kernel
theorem dX11_must_35 : decode cX11_must 35 = .ok (.ifCond .lt 8, 3) := by decide +kernel
theorem dX11_must_38 : decode cX11_must 38 = .ok (.iload_n 1, 1) := by decide +kernel
theorem dX11_must_39 : decode cX11_must 39 = .ok (.iconst 1, 1) := by decide +kernel
theorem dX11_must_40 : decode cX11_must 40 = .ok (.if_icmp .le 5, 3) := by decide +kernel
theorem dX11_must_43 : decode cX11_must 43 = .ok (.iconst (-1), 1) := by decide +kernel
theorem dX11_must_44 : decode cX11_must 44 = .ok (.ireturn, 1) := by decide +kernel
theorem dX11_must_45 : decode cX11_must 45 = .ok (.aload_n 0, 1) := by decide +kernel
theorem dX11_must_46 : decode cX11_must 46 = .ok (.getfield 56, 3) := by decide +kernel
theorem dX11_must_49 : decode cX11_must 49 = .ok (.iload_n 1, 1) := by decide +kernel
theorem dX11_must_50 : decode cX11_must 50 = .ok (.ifCond .ne 7, 3) := by decide +kernel
theorem dX11_must_53 : decode cX11_must 53 = .ok (.iconst 1, 1) := by decide +kernel
theorem dX11_must_54 : decode cX11_must 54 = .ok (.goto 4, 3) := by decide +kernel
theorem dX11_must_57 : decode cX11_must 57 = .ok (.iconst 0, 1) := by decide +kernel
theorem dX11_must_58 : decode cX11_must 58 = .ok (.invokevirtual 318, 3) := by decide +kernel
theorem dX11_must_61 : decode cX11_must 61 = .ok (.ireturn, 1) := by decide +kernel
set_option maxRecDepth 20000 in
theorem ggX11_wrongly_X4_take : GoodIn wsX11_wrongly wsX4_take := goodIn_r _ [11, 12, 13, 14, 15, 16, 17, 18, 19, 20, 21, 22, 23, 10, 24, 25, 26, 88, 89, 90, 91, 92, 93, 94, 95, 96, 97, 98, 99, 100, 101, 102] (by decide +kernel) (by decide +kernel)
set_option maxRecDepth 20000 in
theorem gX11_wrongly_X4_take : GoodIn wsX11_wrongly (wsV RX11 311 RX4 yX4_take wsX4_take) := goodIn_app (goodIn_of _ (by decide +kernel)) ggX11_wrongly_X4_take
set_option maxRecDepth 20000 in
theorem ggX11_wrongly_X9_cut : GoodIn wsX11_wrongly wsX9_cut := goodIn_r _ [31, 32, 95, 96, 97, 98, 99, 100, 101, 102] (by decide +kernel) (by decide +kernel)
set_option maxRecDepth 20000 in
theorem gX11_wrongly_X9_cut : GoodIn wsX11_wrongly (wsV RX11 101 RX9 yX9_cut wsX9_cut) := goodIn_app (goodIn_of _ (by decide +kernel)) ggX11_wrongly_X9_cut
set_option maxRecDepth 20000 in
theorem ggX11_wrongly_X10_partsCount : GoodIn wsX11_wrongly wsX10_partsCount := goodIn_r _ [37, 38, 71, 72, 73, 74, 75, 76, 77, 78, 79, 80, 81, 82, 83, 84, 85, 86, 87] (by decide +kernel) (by decide +kernel)
set_option maxRecDepth 20000 in
theorem gX11_wrongly_X10_partsCount : GoodIn wsX11_wrongly (wsV RX11 226 RX10 yX10_partsCount wsX10_partsCount) := goodIn_app (goodIn_of _ (by decide +kernel)) ggX11_wrongly_X10_partsCount
set_option maxRecDepth 20000 in
theorem ggX11_wrongly_X4_fewestFalse : GoodIn wsX11_wrongly wsX4_fewestFalse := goodIn_r _ [42, 12, 43, 44, 45, 10, 46, 25, 26, 47, 48, 49, 50, 51, 52, 53, 88, 89, 90, 91, 92, 93, 94] (by decide +kernel) (by decide +kernel)
set_option maxRecDepth 20000 in
theorem gX11_wrongly_X4_fewestFalse : GoodIn wsX11_wrongly (wsV RX11 325 RX4 yX4_fewestFalse wsX4_fewestFalse) := goodIn_app (goodIn_of _ (by decide +kernel)) ggX11_wrongly_X4_fewestFalse
theorem dX11_wrongly_0 : decode cX11_wrongly 0 = .ok (.aload_n 0, 1) := by decide +kernel
theorem dX11_wrongly_1 : decode cX11_wrongly 1 = .ok (.getfield 56, 3) := by decide +kernel
theorem dX11_wrongly_4 : decode cX11_wrongly 4 = .ok (.aload_n 0, 1) := by decide +kernel
theorem dX11_wrongly_5 : decode cX11_wrongly 5 = .ok (.getfield 12, 3) := by decide +kernel
theorem dX11_wrongly_8 : decode cX11_wrongly 8 = .ok (.aload_n 0, 1) := by decide +kernel
theorem dX11_wrongly_9 : decode cX11_wrongly 9 = .ok (.getfield 63, 3) := by decide +kernel
theorem dX11_wrongly_12 : decode cX11_wrongly 12 = .ok (.getfield 111, 3) := by decide +kernel
theorem dX11_wrongly_15 : decode cX11_wrongly 15 = .ok (.getfield 308, 3) := by decide +kernel
theorem dX11_wrongly_18 : decode cX11_wrongly 18 = .ok (.invokevirtual 311, 3) := by decide +kernel
theorem dX11_wrongly_21 : decode cX11_wrongly 21 = .ok (.istore_n 1, 1) := by decide +kernel
theorem dX11_wrongly_22 : decode cX11_wrongly 22 = .ok (.aload_n 0, 1) := by decide +kernel
theorem dX11_wrongly_23 : decode cX11_wrongly 23 = .ok (.getfield 12, 3) := by decide +kernel
theorem dX11_wrongly_26 : decode cX11_wrongly 26 = .ok (.iconst 0, 1) := by decide +kernel
theorem dX11_wrongly_27 : decode cX11_wrongly 27 = .ok (.invokevirtual 101, 3) := by decide +kernel
theorem dX11_wrongly_30 : decode cX11_wrongly 30 = .ok (.iload_n 1, 1) := by decide +kernel
theorem dX11_wrongly_31 : decode cX11_wrongly 31 = .ok (.ifCond .eq 15, 3) := by decide +kernel
theorem dX11_wrongly_34 : decode cX11_wrongly 34 = .ok (.aload_n 0, 1) := by decide +kernel
theorem dX11_wrongly_35 : decode cX11_wrongly 35 = .ok (.getfield 56, 3) := by decide +kernel
theorem dX11_wrongly_38 : decode cX11_wrongly 38 = .ok (.getfield 322, 3) := by decide +kernel
theorem dX11_wrongly_41 : decode cX11_wrongly 41 = .ok (.bipush 16, 2) := by decide +kernel
theorem dX11_wrongly_43 : decode cX11_wrongly 43 = .ok (.if_icmp .le 5, 3) := by decide +kernel
theorem dX11_wrongly_46 : decode cX11_wrongly 46 = .ok (.iconst (-1), 1) := by decide +kernel
theorem dX11_wrongly_47 : decode cX11_wrongly 47 = .ok (.ireturn, 1) := by decide +kernel
theorem dX11_wrongly_48 : decode cX11_wrongly 48 = .ok (.aload_n 0, 1) := by decide +kernel
theorem dX11_wrongly_49 : decode cX11_wrongly 49 = .ok (.getfield 56, 3) := by decide +kernel
theorem dX11_wrongly_52 : decode cX11_wrongly 52 = .ok (.aload_n 0, 1) := by decide +kernel
theorem dX11_wrongly_53 : decode cX11_wrongly 53 = .ok (.getfield 63, 3) := by decide +kernel
theorem dX11_wrongly_56 : decode cX11_wrongly 56 = .ok (.getfield 111, 3) := by decide +kernel
theorem dX11_wrongly_59 : decode cX11_wrongly 59 = .ok (.invokevirtual 226, 3) := by decide +kernel
theorem dX11_wrongly_62 : decode cX11_wrongly 62 = .ok (.invokevirtual 325, 3) := by decide +kernel
theorem dX11_wrongly_65 : decode cX11_wrongly 65 = .ok (.ireturn, 1) := by decide +kernel
set_option maxRecDepth 20000 in
theorem ggX11_between_X11_isYear : GoodIn wsX11_between wsX11_isYear := goodIn_r _ [7] (by decide +kernel) (by decide +kernel)
set_option maxRecDepth 20000 in
theorem gX11_between_X11_isYear : GoodIn wsX11_between (va_wsS RX11 196 yX11_isYear wsX11_isYear) := goodIn_app (goodIn_of _ (by decide +kernel)) ggX11_between_X11_isYear
set_option maxRecDepth 20000 in
theorem ggX11_between_X11_goesBetween : GoodIn wsX11_between wsX11_goesBetween := goodIn_r _ [11, 1, 2, 12, 13, 14, 15, 16, 17, 18, 19, 20, 21, 22, 23, 24, 25, 26, 27, 28, 29, 30, 31, 32, 33, 34, 35, 36, 37, 38, 39, 40, 41, 42, 43, 44, 45, 46, 47, 48, 49, 50, 51, 52, 53, 54, 55, 56, 57, 58, 59, 60, 61, 62, 63, 64, 65, 66, 67, 68, 69, 70, 71, 72, 73, 74, 75, 76, 77, 78, 79, 80, 81, 82, 83, 84, 85, 86, 87, 88, 89, 90, 91, 92] (by decide +kernel) (by decide +kernel)
set_option maxRecDepth 20000 in
theorem gX11_between_X11_goesBetween : GoodIn wsX11_between (wsV RX11 328 RX11 yX11_goesBetween wsX11_goesBetween) := goodIn_app (goodIn_of _ (by decide +kernel)) ggX11_between_X11_goesBetween
theorem dX11_between_0 : decode cX11_between 0 = .ok (.iload_n 1, 1) := by decide +kernel
theorem dX11_between_1 : decode cX11_between 1 = .ok (.invokestatic 196, 3) := by decide +kernel
theorem dX11_between_4 : decode cX11_between 4 = .ok (.ifCond .ne 5, 3) := by decide +kernel
theorem dX11_between_7 : decode cX11_between 7 = .ok (.iconst (-1), 1) := by decide +kernel
theorem dX11_between_8 : decode cX11_between 8 = .ok (.ireturn, 1) := by decide +kernel
theorem dX11_between_9 : decode cX11_between 9 = .ok (.iconst 0, 1) := by decide +kernel
theorem dX11_between_10 : decode cX11_between 10 = .ok (.istore_n 2, 1) := by decide +kernel
theorem dX11_between_11 : decode cX11_between 11 = .ok (.iconst 0, 1) := by decide +kernel
theorem dX11_between_12 : decode cX11_between 12 = .ok (.istore_n 3, 1) := by decide +kernel
theorem dX11_between_13 : decode cX11_between 13 = .ok (.iload_n 3, 1) := by decide +kernel
theorem dX11_between_14 : decode cX11_between 14 = .ok (.aload_n 0, 1) := by decide +kernel
theorem dX11_between_15 : decode cX11_between 15 = .ok (.getfield 63, 3) := by decide +kernel
theorem dX11_between_18 : decode cX11_between 18 = .ok (.getfield 111, 3) := by decide +kernel
theorem dX11_between_21 : decode cX11_between 21 = .ok (.getfield 308, 3) := by decide +kernel
theorem dX11_between_24 : decode cX11_between 24 = .ok (.if_icmp .ge 24, 3) := by decide +kernel
theorem dX11_between_27 : decode cX11_between 27 = .ok (.aload_n 0, 1) := by decide +kernel
theorem dX11_between_28 : decode cX11_between 28 = .ok (.iload_n 3, 1) := by decide +kernel
theorem dX11_between_29 : decode cX11_between 29 = .ok (.iload_n 1, 1) := by decide +kernel
theorem dX11_between_30 : decode cX11_between 30 = .ok (.invokevirtual 328, 3) := by decide +kernel
theorem dX11_between_33 : decode cX11_between 33 = .ok (.ifCond .eq 9, 3) := by decide +kernel
theorem dX11_between_36 : decode cX11_between 36 = .ok (.iload_n 2, 1) := by decide +kernel
theorem dX11_between_37 : decode cX11_between 37 = .ok (.iconst 1, 1) := by decide +kernel
theorem dX11_between_38 : decode cX11_between 38 = .ok (.iload_n 3, 1) := by decide +kernel
theorem dX11_between_39 : decode cX11_between 39 = .ok (.ishl, 1) := by decide +kernel
theorem dX11_between_40 : decode cX11_between 40 = .ok (.ior, 1) := by decide +kernel
theorem dX11_between_41 : decode cX11_between 41 = .ok (.istore_n 2, 1) := by decide +kernel
theorem dX11_between_42 : decode cX11_between 42 = .ok (.iinc 3 1, 3) := by decide +kernel
theorem dX11_between_45 : decode cX11_between 45 = .ok (.goto (-32), 3) := by decide +kernel
theorem dX11_between_48 : decode cX11_between 48 = .ok (.iload_n 2, 1) := by decide +kernel
theorem dX11_between_49 : decode cX11_between 49 = .ok (.ireturn, 1) := by decide +kernel
set_option maxRecDepth 20000 in
theorem ggX11_run_X0_clear : GoodIn wsX11_run wsX0_clear := goodIn_r _ [14, 15, 90, 91, 92, 93] (by decide +kernel) (by decide +kernel)
set_option maxRecDepth 20000 in
theorem gX11_run_X0_clear : GoodIn wsX11_run (wsV RX11 118 RX0 yX0_clear wsX0_clear) := goodIn_app (goodIn_of _ (by decide +kernel)) ggX11_run_X0_clear
set_option maxRecDepth 20000 in
theorem ggX11_run_X0_tryDeal : GoodIn wsX11_run wsX0_tryDeal := goodIn_r _ [19, 15, 20, 21, 22, 23, 24, 25, 26, 27, 28, 13, 29, 30, 31, 32, 33, 34, 35, 36, 37, 38, 39, 40, 41, 42, 43, 44, 45, 46, 47, 48, 49, 50, 51, 52, 53, 54, 55, 90, 91, 92, 93, 73, 74, 75, 76, 77, 78, 79, 80, 81, 82, 83, 84, 85, 86, 87, 88, 89] (by decide +kernel) (by decide +kernel)
set_option maxRecDepth 20000 in
theorem gX11_run_X0_tryDeal : GoodIn wsX11_run (wsV RX11 179 RX0 yX0_tryDeal wsX0_tryDeal) := goodIn_app (goodIn_of _ (by decide +kernel)) ggX11_run_X0_tryDeal
theorem dX11_run_0 : decode cX11_run 0 = .ok (.aload_n 0, 1) := by decide +kernel
theorem dX11_run_1 : decode cX11_run 1 = .ok (.getfield 63, 3) := by decide +kernel
theorem dX11_run_4 : decode cX11_run 4 = .ok (.getfield 111, 3) := by decide +kernel
theorem dX11_run_7 : decode cX11_run 7 = .ok (.astore_n 2, 1) := by decide +kernel
theorem dX11_run_8 : decode cX11_run 8 = .ok (.aload_n 2, 1) := by decide +kernel
theorem dX11_run_9 : decode cX11_run 9 = .ok (.getfield 202, 3) := by decide +kernel
theorem dX11_run_12 : decode cX11_run 12 = .ok (.ifCond .ne 5, 3) := by decide +kernel
theorem dX11_run_15 : decode cX11_run 15 = .ok (.iconst (-1), 1) := by decide +kernel
theorem dX11_run_16 : decode cX11_run 16 = .ok (.ireturn, 1) := by decide +kernel
theorem dX11_run_17 : decode cX11_run 17 = .ok (.aload_n 0, 1) := by decide +kernel
theorem dX11_run_18 : decode cX11_run 18 = .ok (.getfield 63, 3) := by decide +kernel
theorem dX11_run_21 : decode cX11_run 21 = .ok (.getfield 114, 3) := by decide +kernel
theorem dX11_run_24 : decode cX11_run 24 = .ok (.invokevirtual 118, 3) := by decide +kernel
theorem dX11_run_27 : decode cX11_run 27 = .ok (.aload_n 0, 1) := by decide +kernel
theorem dX11_run_28 : decode cX11_run 28 = .ok (.iconst 0, 1) := by decide +kernel
theorem dX11_run_29 : decode cX11_run 29 = .ok (.putfield 87, 3) := by decide +kernel
theorem dX11_run_32 : decode cX11_run 32 = .ok (.iload_n 1, 1) := by decide +kernel
theorem dX11_run_33 : decode cX11_run 33 = .ok (.istore_n 3, 1) := by decide +kernel
theorem dX11_run_34 : decode cX11_run 34 = .ok (.iconst 0, 1) := by decide +kernel
theorem dX11_run_35 : decode cX11_run 35 = .ok (.istore 4, 2) := by decide +kernel
theorem dX11_run_37 : decode cX11_run 37 = .ok (.iload 4, 2) := by decide +kernel
theorem dX11_run_39 : decode cX11_run 39 = .ok (.aload_n 2, 1) := by decide +kernel
theorem dX11_run_40 : decode cX11_run 40 = .ok (.getfield 202, 3) := by decide +kernel
theorem dX11_run_43 : decode cX11_run 43 = .ok (.if_icmp .ge 93, 3) := by decide +kernel
theorem dX11_run_46 : decode cX11_run 46 = .ok (.aload_n 2, 1) := by decide +kernel
theorem dX11_run_47 : decode cX11_run 47 = .ok (.getfield 331, 3) := by decide +kernel
theorem dX11_run_50 : decode cX11_run 50 = .ok (.iload 4, 2) := by decide +kernel
theorem dX11_run_52 : decode cX11_run 52 = .ok (.iaload, 1) := by decide +kernel
theorem dX11_run_53 : decode cX11_run 53 = .ok (.istore 5, 2) := by decide +kernel
theorem dX11_run_55 : decode cX11_run 55 = .ok (.iload_n 3, 1) := by decide +kernel
theorem dX11_run_56 : decode cX11_run 56 = .ok (.ldc_w 334, 3) := by decide +kernel
theorem dX11_run_59 : decode cX11_run 59 = .ok (.imul, 1) := by decide +kernel
theorem dX11_run_60 : decode cX11_run 60 = .ok (.sipush 12345, 3) := by decide +kernel
theorem dX11_run_63 : decode cX11_run 63 = .ok (.iadd, 1) := by decide +kernel
theorem dX11_run_64 : decode cX11_run 64 = .ok (.istore_n 3, 1) := by decide +kernel
theorem dX11_run_65 : decode cX11_run 65 = .ok (.iload_n 3, 1) := by decide +kernel
theorem dX11_run_66 : decode cX11_run 66 = .ok (.bipush 8, 2) := by decide +kernel
theorem dX11_run_68 : decode cX11_run 68 = .ok (.iushr, 1) := by decide +kernel
theorem dX11_run_69 : decode cX11_run 69 = .ok (.iconst 4, 1) := by decide +kernel
theorem dX11_run_70 : decode cX11_run 70 = .ok (.irem, 1) := by decide +kernel
theorem dX11_run_71 : decode cX11_run 71 = .ok (.istore 6, 2) := by decide +kernel
theorem dX11_run_73 : decode cX11_run 73 = .ok (.iload 6, 2) := by decide +kernel
theorem dX11_run_75 : decode cX11_run 75 = .ok (.iconst 1, 1) := by decide +kernel
theorem dX11_run_76 : decode cX11_run 76 = .ok (.if_icmp .ne 18, 3) := by decide +kernel
theorem dX11_run_79 : decode cX11_run 79 = .ok (.aload_n 2, 1) := by decide +kernel
theorem dX11_run_80 : decode cX11_run 80 = .ok (.getfield 172, 3) := by decide +kernel
theorem dX11_run_83 : decode cX11_run 83 = .ok (.iload 5, 2) := by decide +kernel
theorem dX11_run_85 : decode cX11_run 85 = .ok (.iaload, 1) := by decide +kernel
theorem dX11_run_86 : decode cX11_run 86 = .ok (.iconst 1, 1) := by decide +kernel
theorem dX11_run_87 : decode cX11_run 87 = .ok (.if_icmp .ne 7, 3) := by decide +kernel
theorem dX11_run_90 : decode cX11_run 90 = .ok (.iconst 2, 1) := by decide +kernel
theorem dX11_run_91 : decode cX11_run 91 = .ok (.goto 4, 3) := by decide +kernel
theorem dX11_run_94 : decode cX11_run 94 = .ok (.iconst 1, 1) := by decide +kernel
theorem dX11_run_95 : decode cX11_run 95 = .ok (.istore 7, 2) := by decide +kernel
theorem dX11_run_97 : decode cX11_run 97 = .ok (.iload 6, 2) := by decide +kernel
theorem dX11_run_99 : decode cX11_run 99 = .ok (.ifCond .eq 31, 3) := by decide +kernel
theorem dX11_run_102 : decode cX11_run 102 = .ok (.aload_n 0, 1) := by decide +kernel
theorem dX11_run_103 : decode cX11_run 103 = .ok (.getfield 63, 3) := by decide +kernel
theorem dX11_run_106 : decode cX11_run 106 = .ok (.getfield 114, 3) := by decide +kernel
theorem dX11_run_109 : decode cX11_run 109 = .ok (.aload_n 2, 1) := by decide +kernel
theorem dX11_run_110 : decode cX11_run 110 = .ok (.iload 5, 2) := by decide +kernel
theorem dX11_run_112 : decode cX11_run 112 = .ok (.iload 7, 2) := by decide +kernel
theorem dX11_run_114 : decode cX11_run 114 = .ok (.invokevirtual 179, 3) := by decide +kernel
theorem dX11_run_117 : decode cX11_run 117 = .ok (.ifCond .eq 13, 3) := by decide +kernel
theorem dX11_run_120 : decode cX11_run 120 = .ok (.aload_n 0, 1) := by decide +kernel
theorem dX11_run_121 : decode cX11_run 121 = .ok (.dup, 1) := by decide +kernel
theorem dX11_run_122 : decode cX11_run 122 = .ok (.getfield 87, 3) := by decide +kernel
theorem dX11_run_125 : decode cX11_run 125 = .ok (.iconst 1, 1) := by decide +kernel
theorem dX11_run_126 : decode cX11_run 126 = .ok (.iadd, 1) := by decide +kernel
theorem dX11_run_127 : decode cX11_run 127 = .ok (.putfield 87, 3) := by decide +kernel
theorem dX11_run_130 : decode cX11_run 130 = .ok (.iinc 4 1, 3) := by decide +kernel
theorem dX11_run_133 : decode cX11_run 133 = .ok (.goto (-96), 3) := by decide +kernel
theorem dX11_run_136 : decode cX11_run 136 = .ok (.aload_n 0, 1) := by decide +kernel
theorem dX11_run_137 : decode cX11_run 137 = .ok (.getfield 63, 3) := by decide +kernel
theorem dX11_run_140 : decode cX11_run 140 = .ok (.getfield 114, 3) := by decide +kernel
theorem dX11_run_143 : decode cX11_run 143 = .ok (.getfield 183, 3) := by decide +kernel
theorem dX11_run_146 : decode cX11_run 146 = .ok (.ireturn, 1) := by decide +kernel
theorem dX11_refused_0 : decode cX11_refused 0 = .ok (.aload_n 0, 1) := by decide +kernel
theorem dX11_refused_1 : decode cX11_refused 1 = .ok (.getfield 87, 3) := by decide +kernel
theorem dX11_refused_4 : decode cX11_refused 4 = .ok (.ireturn, 1) := by decide +kernel
set_option maxRecDepth 20000 in
theorem ggX11_image_X11_imageAt : GoodIn wsX11_image wsX11_imageAt := goodIn_r _ [7, 8, 9, 64, 65, 66, 67, 68, 69, 70, 71, 72, 73, 74, 75, 76, 77] (by decide +kernel) (by decide +kernel)
set_option maxRecDepth 20000 in
theorem gX11_image_X11_imageAt : GoodIn wsX11_image (wsV RX11 335 RX11 yX11_imageAt wsX11_imageAt) := goodIn_app (goodIn_of _ (by decide +kernel)) ggX11_image_X11_imageAt
set_option maxRecDepth 20000 in
theorem ggX11_image_X8_copyFrom : GoodIn wsX11_image wsX8_copyFrom := goodIn_r _ [14, 15, 16, 17, 18, 19, 20, 21, 22, 23, 24, 25, 26, 27, 28, 29, 30, 31, 32, 33, 34, 35, 36, 37, 38, 39, 40, 41, 42, 43, 44, 45, 46, 47, 48, 49, 50, 51, 52, 53, 54, 55, 56, 57, 58, 59, 60, 61, 62, 63, 78, 79, 80, 81, 82, 83, 84, 85, 86, 87, 88, 89, 90, 91, 92, 93, 94, 95, 96, 97, 98, 99, 100, 101, 102, 103, 104, 105, 106] (by decide +kernel) (by decide +kernel)
set_option maxRecDepth 20000 in
theorem gX11_image_X8_copyFrom : GoodIn wsX11_image (wsV RX11 339 RX8 yX8_copyFrom wsX8_copyFrom) := goodIn_app (goodIn_of _ (by decide +kernel)) ggX11_image_X8_copyFrom
theorem dX11_image_0 : decode cX11_image 0 = .ok (.aload_n 0, 1) := by decide +kernel
theorem dX11_image_1 : decode cX11_image 1 = .ok (.iload_n 1, 1) := by decide +kernel
theorem dX11_image_2 : decode cX11_image 2 = .ok (.invokevirtual 335, 3) := by decide +kernel
theorem dX11_image_5 : decode cX11_image 5 = .ok (.astore_n 2, 1) := by decide +kernel
theorem dX11_image_6 : decode cX11_image 6 = .ok (.aload_n 2, 1) := by decide +kernel
theorem dX11_image_7 : decode cX11_image 7 = .ok (.ifnonnull 5, 3) := by decide +kernel
theorem dX11_image_10 : decode cX11_image 10 = .ok (.iconst 0, 1) := by decide +kernel
theorem dX11_image_11 : decode cX11_image 11 = .ok (.ireturn, 1) := by decide +kernel
theorem dX11_image_12 : decode cX11_image 12 = .ok (.aload_n 2, 1) := by decide +kernel
theorem dX11_image_13 : decode cX11_image 13 = .ok (.aload_n 0, 1) := by decide +kernel
theorem dX11_image_14 : decode cX11_image 14 = .ok (.getfield 63, 3) := by decide +kernel
theorem dX11_image_17 : decode cX11_image 17 = .ok (.invokevirtual 339, 3) := by decide +kernel
theorem dX11_image_20 : decode cX11_image 20 = .ok (.aload_n 2, 1) := by decide +kernel
theorem dX11_image_21 : decode cX11_image 21 = .ok (.iconst 1, 1) := by decide +kernel
theorem dX11_image_22 : decode cX11_image 22 = .ok (.putfield 343, 3) := by decide +kernel
theorem dX11_image_25 : decode cX11_image 25 = .ok (.iconst 1, 1) := by decide +kernel
theorem dX11_image_26 : decode cX11_image 26 = .ok (.ireturn, 1) := by decide +kernel
set_option maxRecDepth 20000 in
theorem ggX11_restore_X11_imageAt : GoodIn wsX11_restore wsX11_imageAt := goodIn_r _ [7, 8, 9, 67, 68, 69, 70, 71, 72, 73, 74, 75, 76, 77, 78, 79, 80] (by decide +kernel) (by decide +kernel)
set_option maxRecDepth 20000 in
theorem gX11_restore_X11_imageAt : GoodIn wsX11_restore (wsV RX11 335 RX11 yX11_imageAt wsX11_imageAt) := goodIn_app (goodIn_of _ (by decide +kernel)) ggX11_restore_X11_imageAt
set_option maxRecDepth 20000 in
theorem ggX11_restore_X8_copyFrom : GoodIn wsX11_restore wsX8_copyFrom := goodIn_r _ [14, 15, 16, 17, 18, 19, 20, 21, 22, 23, 24, 25, 26, 27, 28, 29, 30, 31, 32, 33, 34, 35, 36, 37, 38, 39, 40, 41, 42, 43, 44, 45, 46, 47, 48, 49, 50, 51, 52, 53, 54, 55, 56, 57, 58, 59, 60, 61, 62, 63, 64, 65, 66, 81, 82, 83, 84, 85, 86, 87, 88, 89, 90, 91, 92, 93, 94, 95, 96, 97, 98, 99, 100, 101, 102, 103, 104, 105, 106] (by decide +kernel) (by decide +kernel)
set_option maxRecDepth 20000 in
theorem gX11_restore_X8_copyFrom : GoodIn wsX11_restore (wsV RX11 339 RX8 yX8_copyFrom wsX8_copyFrom) := goodIn_app (goodIn_of _ (by decide +kernel)) ggX11_restore_X8_copyFrom
theorem dX11_restore_0 : decode cX11_restore 0 = .ok (.aload_n 0, 1) := by decide +kernel
theorem dX11_restore_1 : decode cX11_restore 1 = .ok (.iload_n 1, 1) := by decide +kernel
theorem dX11_restore_2 : decode cX11_restore 2 = .ok (.invokevirtual 335, 3) := by decide +kernel
theorem dX11_restore_5 : decode cX11_restore 5 = .ok (.astore_n 2, 1) := by decide +kernel
theorem dX11_restore_6 : decode cX11_restore 6 = .ok (.aload_n 2, 1) := by decide +kernel
theorem dX11_restore_7 : decode cX11_restore 7 = .ok (.ifnull 10, 3) := by decide +kernel
theorem dX11_restore_10 : decode cX11_restore 10 = .ok (.aload_n 2, 1) := by decide +kernel
theorem dX11_restore_11 : decode cX11_restore 11 = .ok (.getfield 343, 3) := by decide +kernel
theorem dX11_restore_14 : decode cX11_restore 14 = .ok (.ifCond .ne 5, 3) := by decide +kernel
theorem dX11_restore_17 : decode cX11_restore 17 = .ok (.iconst 0, 1) := by decide +kernel
theorem dX11_restore_18 : decode cX11_restore 18 = .ok (.ireturn, 1) := by decide +kernel
theorem dX11_restore_19 : decode cX11_restore 19 = .ok (.aload_n 0, 1) := by decide +kernel
theorem dX11_restore_20 : decode cX11_restore 20 = .ok (.getfield 63, 3) := by decide +kernel
theorem dX11_restore_23 : decode cX11_restore 23 = .ok (.aload_n 2, 1) := by decide +kernel
theorem dX11_restore_24 : decode cX11_restore 24 = .ok (.invokevirtual 339, 3) := by decide +kernel
theorem dX11_restore_27 : decode cX11_restore 27 = .ok (.iconst 1, 1) := by decide +kernel
theorem dX11_restore_28 : decode cX11_restore 28 = .ok (.ireturn, 1) := by decide +kernel
theorem dX11_count_0 : decode cX11_count 0 = .ok (.iload_n 1, 1) := by decide +kernel
theorem dX11_count_1 : decode cX11_count 1 = .ok (.tableswitch 87 0 4 #[35, 46, 57, 68, 79], 35) := by decide +kernel
theorem dX11_count_36 : decode cX11_count 36 = .ok (.aload_n 0, 1) := by decide +kernel
theorem dX11_count_37 : decode cX11_count 37 = .ok (.getfield 63, 3) := by decide +kernel
theorem dX11_count_40 : decode cX11_count 40 = .ok (.getfield 111, 3) := by decide +kernel
theorem dX11_count_43 : decode cX11_count 43 = .ok (.getfield 308, 3) := by decide +kernel
theorem dX11_count_46 : decode cX11_count 46 = .ok (.ireturn, 1) := by decide +kernel
theorem dX11_count_47 : decode cX11_count 47 = .ok (.aload_n 0, 1) := by decide +kernel
theorem dX11_count_48 : decode cX11_count 48 = .ok (.getfield 63, 3) := by decide +kernel
theorem dX11_count_51 : decode cX11_count 51 = .ok (.getfield 111, 3) := by decide +kernel
theorem dX11_count_54 : decode cX11_count 54 = .ok (.getfield 202, 3) := by decide +kernel
theorem dX11_count_57 : decode cX11_count 57 = .ok (.ireturn, 1) := by decide +kernel
theorem dX11_count_58 : decode cX11_count 58 = .ok (.aload_n 0, 1) := by decide +kernel
theorem dX11_count_59 : decode cX11_count 59 = .ok (.getfield 63, 3) := by decide +kernel
theorem dX11_count_62 : decode cX11_count 62 = .ok (.getfield 111, 3) := by decide +kernel
theorem dX11_count_65 : decode cX11_count 65 = .ok (.getfield 269, 3) := by decide +kernel
theorem dX11_count_68 : decode cX11_count 68 = .ok (.ireturn, 1) := by decide +kernel
theorem dX11_count_69 : decode cX11_count 69 = .ok (.aload_n 0, 1) := by decide +kernel
theorem dX11_count_70 : decode cX11_count 70 = .ok (.getfield 63, 3) := by decide +kernel
theorem dX11_count_73 : decode cX11_count 73 = .ok (.getfield 114, 3) := by decide +kernel
theorem dX11_count_76 : decode cX11_count 76 = .ok (.getfield 183, 3) := by decide +kernel
theorem dX11_count_79 : decode cX11_count 79 = .ok (.ireturn, 1) := by decide +kernel
theorem dX11_count_80 : decode cX11_count 80 = .ok (.aload_n 0, 1) := by decide +kernel
theorem dX11_count_81 : decode cX11_count 81 = .ok (.getfield 12, 3) := by decide +kernel
theorem dX11_count_84 : decode cX11_count 84 = .ok (.getfield 98, 3) := by decide +kernel
theorem dX11_count_87 : decode cX11_count 87 = .ok (.ireturn, 1) := by decide +kernel
theorem dX11_count_88 : decode cX11_count 88 = .ok (.iconst (-1), 1) := by decide +kernel
theorem dX11_count_89 : decode cX11_count 89 = .ok (.ireturn, 1) := by decide +kernel
theorem dX11_isYear_0 : decode cX11_isYear 0 = .ok (.iload_n 0, 1) := by decide +kernel
theorem dX11_isYear_1 : decode cX11_isYear 1 = .ok (.ifCond .lt 13, 3) := by decide +kernel
theorem dX11_isYear_4 : decode cX11_isYear 4 = .ok (.iload_n 0, 1) := by decide +kernel
theorem dX11_isYear_5 : decode cX11_isYear 5 = .ok (.bipush 60, 2) := by decide +kernel
theorem dX11_isYear_7 : decode cX11_isYear 7 = .ok (.if_icmp .ge 7, 3) := by decide +kernel
theorem dX11_isYear_10 : decode cX11_isYear 10 = .ok (.iconst 1, 1) := by decide +kernel
theorem dX11_isYear_11 : decode cX11_isYear 11 = .ok (.goto 4, 3) := by decide +kernel
theorem dX11_isYear_14 : decode cX11_isYear 14 = .ok (.iconst 0, 1) := by decide +kernel
theorem dX11_isYear_15 : decode cX11_isYear 15 = .ok (.ireturn, 1) := by decide +kernel
theorem dX11_imageAt_0 : decode cX11_imageAt 0 = .ok (.iload_n 1, 1) := by decide +kernel
theorem dX11_imageAt_1 : decode cX11_imageAt 1 = .ok (.ifCond .ne 10, 3) := by decide +kernel
theorem dX11_imageAt_4 : decode cX11_imageAt 4 = .ok (.aload_n 0, 1) := by decide +kernel
theorem dX11_imageAt_5 : decode cX11_imageAt 5 = .ok (.getfield 67, 3) := by decide +kernel
theorem dX11_imageAt_8 : decode cX11_imageAt 8 = .ok (.goto 16, 3) := by decide +kernel
theorem dX11_imageAt_11 : decode cX11_imageAt 11 = .ok (.iload_n 1, 1) := by decide +kernel
theorem dX11_imageAt_12 : decode cX11_imageAt 12 = .ok (.iconst 1, 1) := by decide +kernel
theorem dX11_imageAt_13 : decode cX11_imageAt 13 = .ok (.if_icmp .ne 10, 3) := by decide +kernel
theorem dX11_imageAt_16 : decode cX11_imageAt 16 = .ok (.aload_n 0, 1) := by decide +kernel
theorem dX11_imageAt_17 : decode cX11_imageAt 17 = .ok (.getfield 70, 3) := by decide +kernel
theorem dX11_imageAt_20 : decode cX11_imageAt 20 = .ok (.goto 4, 3) := by decide +kernel
theorem dX11_imageAt_23 : decode cX11_imageAt 23 = .ok (.aconst_null, 1) := by decide +kernel
theorem dX11_imageAt_24 : decode cX11_imageAt 24 = .ok (.areturn, 1) := by decide +kernel
set_option maxRecDepth 20000 in
theorem ggX11_partsOfMost_X10_partsCount : GoodIn wsX11_partsOfMost wsX10_partsCount := goodIn_r _ [8, 9, 108, 109, 110, 111, 112, 113, 114, 115, 116, 117, 118, 119, 120, 121, 122, 123, 124] (by decide +kernel) (by decide +kernel)
set_option maxRecDepth 20000 in
theorem gX11_partsOfMost_X10_partsCount : GoodIn wsX11_partsOfMost (wsV RX11 226 RX10 yX10_partsCount wsX10_partsCount) := goodIn_app (goodIn_of _ (by decide +kernel)) ggX11_partsOfMost_X10_partsCount
set_option maxRecDepth 20000 in
theorem ggX11_partsOfMost_X2_gainOf : GoodIn wsX11_partsOfMost wsX2_gainOf := goodIn_r _ [14, 15, 16, 17, 18, 19, 13, 20, 21, 22, 23, 24, 25, 26, 27, 28, 29, 30, 31, 32, 33, 34, 35, 36, 37, 38, 39, 40, 41, 42, 43, 44, 45, 46, 47, 48, 7, 49, 50, 51, 52, 53, 54, 55, 56, 57, 58, 59, 60, 61, 62, 63, 64, 65, 66, 67, 68, 69, 70, 71, 72, 73, 74, 75, 76, 77, 78, 79, 80, 81, 82, 83, 84, 85, 86, 87, 88, 89, 90, 108, 109, 110, 111, 112, 113, 114, 115, 116, 117, 118, 119, 120, 121, 122, 123, 124, 125, 126, 127, 128, 129, 130, 131, 132, 133, 134, 135, 136, 137, 138] (by decide +kernel) (by decide +kernel)
set_option maxRecDepth 20000 in
theorem gX11_partsOfMost_X2_gainOf : GoodIn wsX11_partsOfMost (wsV RX11 215 RX2 yX2_gainOf wsX2_gainOf) := goodIn_app (goodIn_of _ (by decide +kernel)) ggX11_partsOfMost_X2_gainOf
theorem dX11_partsOfMost_0 : decode cX11_partsOfMost 0 = .ok (.iconst 0, 1) := by decide +kernel
theorem dX11_partsOfMost_1 : decode cX11_partsOfMost 1 = .ok (.istore_n 1, 1) := by decide +kernel
theorem dX11_partsOfMost_2 : decode cX11_partsOfMost 2 = .ok (.iconst 1, 1) := by decide +kernel
theorem dX11_partsOfMost_3 : decode cX11_partsOfMost 3 = .ok (.istore_n 2, 1) := by decide +kernel
theorem dX11_partsOfMost_4 : decode cX11_partsOfMost 4 = .ok (.iload_n 2, 1) := by decide +kernel
theorem dX11_partsOfMost_5 : decode cX11_partsOfMost 5 = .ok (.aload_n 0, 1) := by decide +kernel
theorem dX11_partsOfMost_6 : decode cX11_partsOfMost 6 = .ok (.getfield 63, 3) := by decide +kernel
theorem dX11_partsOfMost_9 : decode cX11_partsOfMost 9 = .ok (.getfield 111, 3) := by decide +kernel
theorem dX11_partsOfMost_12 : decode cX11_partsOfMost 12 = .ok (.invokevirtual 226, 3) := by decide +kernel
theorem dX11_partsOfMost_15 : decode cX11_partsOfMost 15 = .ok (.if_icmp .ge 44, 3) := by decide +kernel
theorem dX11_partsOfMost_18 : decode cX11_partsOfMost 18 = .ok (.aload_n 0, 1) := by decide +kernel
theorem dX11_partsOfMost_19 : decode cX11_partsOfMost 19 = .ok (.getfield 28, 3) := by decide +kernel
theorem dX11_partsOfMost_22 : decode cX11_partsOfMost 22 = .ok (.aload_n 0, 1) := by decide +kernel
theorem dX11_partsOfMost_23 : decode cX11_partsOfMost 23 = .ok (.getfield 63, 3) := by decide +kernel
theorem dX11_partsOfMost_26 : decode cX11_partsOfMost 26 = .ok (.getfield 111, 3) := by decide +kernel
theorem dX11_partsOfMost_29 : decode cX11_partsOfMost 29 = .ok (.iload_n 2, 1) := by decide +kernel
theorem dX11_partsOfMost_30 : decode cX11_partsOfMost 30 = .ok (.invokevirtual 215, 3) := by decide +kernel
theorem dX11_partsOfMost_33 : decode cX11_partsOfMost 33 = .ok (.aload_n 0, 1) := by decide +kernel
theorem dX11_partsOfMost_34 : decode cX11_partsOfMost 34 = .ok (.getfield 28, 3) := by decide +kernel
theorem dX11_partsOfMost_37 : decode cX11_partsOfMost 37 = .ok (.aload_n 0, 1) := by decide +kernel
theorem dX11_partsOfMost_38 : decode cX11_partsOfMost 38 = .ok (.getfield 63, 3) := by decide +kernel
theorem dX11_partsOfMost_41 : decode cX11_partsOfMost 41 = .ok (.getfield 111, 3) := by decide +kernel
theorem dX11_partsOfMost_44 : decode cX11_partsOfMost 44 = .ok (.iload_n 1, 1) := by decide +kernel
theorem dX11_partsOfMost_45 : decode cX11_partsOfMost 45 = .ok (.invokevirtual 215, 3) := by decide +kernel
theorem dX11_partsOfMost_48 : decode cX11_partsOfMost 48 = .ok (.if_icmp .le 5, 3) := by decide +kernel
theorem dX11_partsOfMost_51 : decode cX11_partsOfMost 51 = .ok (.iload_n 2, 1) := by decide +kernel
theorem dX11_partsOfMost_52 : decode cX11_partsOfMost 52 = .ok (.istore_n 1, 1) := by decide +kernel
theorem dX11_partsOfMost_53 : decode cX11_partsOfMost 53 = .ok (.iinc 2 1, 3) := by decide +kernel
theorem dX11_partsOfMost_56 : decode cX11_partsOfMost 56 = .ok (.goto (-52), 3) := by decide +kernel
theorem dX11_partsOfMost_59 : decode cX11_partsOfMost 59 = .ok (.iload_n 1, 1) := by decide +kernel
theorem dX11_partsOfMost_60 : decode cX11_partsOfMost 60 = .ok (.ireturn, 1) := by decide +kernel
set_option maxRecDepth 20000 in
theorem ggX11_firstBetter_X2_gainOf : GoodIn wsX11_firstBetter wsX2_gainOf := goodIn_r _ [9, 10, 11, 12, 13, 14, 8, 15, 16, 17, 18, 19, 20, 21, 22, 23, 24, 25, 26, 27, 28, 29, 30, 31, 32, 33, 34, 35, 36, 37, 38, 39, 40, 41, 42, 43, 44, 45, 46, 47, 48, 49, 50, 51, 52, 53, 54, 55, 56, 57, 58, 59, 60, 61, 62, 63, 64, 65, 66, 67, 68, 69, 70, 71, 72, 73, 74, 75, 76, 77, 78, 79, 80, 81, 82, 83, 84, 85, 86, 104, 105, 106, 107, 108, 109, 110, 111, 112, 113, 114, 115, 116, 117, 118, 119, 120, 121, 122, 123, 124, 125, 126, 127, 128, 129, 130, 131, 132, 133, 134] (by decide +kernel) (by decide +kernel)
set_option maxRecDepth 20000 in
theorem gX11_firstBetter_X2_gainOf : GoodIn wsX11_firstBetter (wsV RX11 215 RX2 yX2_gainOf wsX2_gainOf) := goodIn_app (goodIn_of _ (by decide +kernel)) ggX11_firstBetter_X2_gainOf
theorem dX11_firstBetter_0 : decode cX11_firstBetter 0 = .ok (.aload_n 0, 1) := by decide +kernel
theorem dX11_firstBetter_1 : decode cX11_firstBetter 1 = .ok (.getfield 28, 3) := by decide +kernel
theorem dX11_firstBetter_4 : decode cX11_firstBetter 4 = .ok (.aload_n 0, 1) := by decide +kernel
theorem dX11_firstBetter_5 : decode cX11_firstBetter 5 = .ok (.getfield 63, 3) := by decide +kernel
theorem dX11_firstBetter_8 : decode cX11_firstBetter 8 = .ok (.getfield 111, 3) := by decide +kernel
theorem dX11_firstBetter_11 : decode cX11_firstBetter 11 = .ok (.iload_n 1, 1) := by decide +kernel
theorem dX11_firstBetter_12 : decode cX11_firstBetter 12 = .ok (.invokevirtual 215, 3) := by decide +kernel
theorem dX11_firstBetter_15 : decode cX11_firstBetter 15 = .ok (.istore_n 2, 1) := by decide +kernel
theorem dX11_firstBetter_16 : decode cX11_firstBetter 16 = .ok (.iconst 0, 1) := by decide +kernel
theorem dX11_firstBetter_17 : decode cX11_firstBetter 17 = .ok (.istore_n 3, 1) := by decide +kernel
theorem dX11_firstBetter_18 : decode cX11_firstBetter 18 = .ok (.iload_n 3, 1) := by decide +kernel
theorem dX11_firstBetter_19 : decode cX11_firstBetter 19 = .ok (.aload_n 0, 1) := by decide +kernel
theorem dX11_firstBetter_20 : decode cX11_firstBetter 20 = .ok (.getfield 63, 3) := by decide +kernel
theorem dX11_firstBetter_23 : decode cX11_firstBetter 23 = .ok (.getfield 111, 3) := by decide +kernel
theorem dX11_firstBetter_26 : decode cX11_firstBetter 26 = .ok (.getfield 308, 3) := by decide +kernel
theorem dX11_firstBetter_29 : decode cX11_firstBetter 29 = .ok (.if_icmp .ge 39, 3) := by decide +kernel
theorem dX11_firstBetter_32 : decode cX11_firstBetter 32 = .ok (.iload_n 1, 1) := by decide +kernel
theorem dX11_firstBetter_33 : decode cX11_firstBetter 33 = .ok (.iconst 1, 1) := by decide +kernel
theorem dX11_firstBetter_34 : decode cX11_firstBetter 34 = .ok (.iload_n 3, 1) := by decide +kernel
theorem dX11_firstBetter_35 : decode cX11_firstBetter 35 = .ok (.ishl, 1) := by decide +kernel
theorem dX11_firstBetter_36 : decode cX11_firstBetter 36 = .ok (.ixor, 1) := by decide +kernel
theorem dX11_firstBetter_37 : decode cX11_firstBetter 37 = .ok (.istore 4, 2) := by decide +kernel
theorem dX11_firstBetter_39 : decode cX11_firstBetter 39 = .ok (.aload_n 0, 1) := by decide +kernel
theorem dX11_firstBetter_40 : decode cX11_firstBetter 40 = .ok (.getfield 28, 3) := by decide +kernel
theorem dX11_firstBetter_43 : decode cX11_firstBetter 43 = .ok (.aload_n 0, 1) := by decide +kernel
theorem dX11_firstBetter_44 : decode cX11_firstBetter 44 = .ok (.getfield 63, 3) := by decide +kernel
theorem dX11_firstBetter_47 : decode cX11_firstBetter 47 = .ok (.getfield 111, 3) := by decide +kernel
theorem dX11_firstBetter_50 : decode cX11_firstBetter 50 = .ok (.iload 4, 2) := by decide +kernel
theorem dX11_firstBetter_52 : decode cX11_firstBetter 52 = .ok (.invokevirtual 215, 3) := by decide +kernel
theorem dX11_firstBetter_55 : decode cX11_firstBetter 55 = .ok (.iload_n 2, 1) := by decide +kernel
theorem dX11_firstBetter_56 : decode cX11_firstBetter 56 = .ok (.if_icmp .le 6, 3) := by decide +kernel
theorem dX11_firstBetter_59 : decode cX11_firstBetter 59 = .ok (.iload 4, 2) := by decide +kernel
theorem dX11_firstBetter_61 : decode cX11_firstBetter 61 = .ok (.ireturn, 1) := by decide +kernel
theorem dX11_firstBetter_62 : decode cX11_firstBetter 62 = .ok (.iinc 3 1, 3) := by decide +kernel
theorem dX11_firstBetter_65 : decode cX11_firstBetter 65 = .ok (.goto (-47), 3) := by decide +kernel
theorem dX11_firstBetter_68 : decode cX11_firstBetter 68 = .ok (.iload_n 1, 1) := by decide +kernel
theorem dX11_firstBetter_69 : decode cX11_firstBetter 69 = .ok (.ireturn, 1) := by decide +kernel
set_option maxRecDepth 20000 in
theorem ggX11_findRests_X10_partsCount : GoodIn wsX11_findRests wsX10_partsCount := goodIn_r _ [7, 8, 44, 45, 46, 47, 48, 49, 50, 51, 52, 53, 54, 55, 56, 57, 58, 59, 60] (by decide +kernel) (by decide +kernel)
set_option maxRecDepth 20000 in
theorem gX11_findRests_X10_partsCount : GoodIn wsX11_findRests (wsV RX11 226 RX10 yX10_partsCount wsX10_partsCount) := goodIn_app (goodIn_of _ (by decide +kernel)) ggX11_findRests_X10_partsCount
set_option maxRecDepth 20000 in
theorem ggX11_findRests_X10_isAtRest : GoodIn wsX11_findRests wsX10_isAtRest := goodIn_r _ [12, 8, 13, 14, 15, 6, 16, 17, 18, 19, 20, 21, 22, 23, 24, 25, 26, 27, 28, 29, 30, 31, 32, 33, 34, 35, 36, 37, 38, 44, 45, 46, 47, 48, 49, 50, 51, 52, 53, 54, 55, 56, 57, 58, 59, 60] (by decide +kernel) (by decide +kernel)
set_option maxRecDepth 20000 in
theorem gX11_findRests_X10_isAtRest : GoodIn wsX11_findRests (wsV RX11 344 RX10 yX10_isAtRest wsX10_isAtRest) := goodIn_app (goodIn_of _ (by decide +kernel)) ggX11_findRests_X10_isAtRest
theorem dX11_findRests_0 : decode cX11_findRests 0 = .ok (.aload_n 1, 1) := by decide +kernel
theorem dX11_findRests_1 : decode cX11_findRests 1 = .ok (.iconst 0, 1) := by decide +kernel
theorem dX11_findRests_2 : decode cX11_findRests 2 = .ok (.putfield 244, 3) := by decide +kernel
theorem dX11_findRests_5 : decode cX11_findRests 5 = .ok (.iconst 0, 1) := by decide +kernel
theorem dX11_findRests_6 : decode cX11_findRests 6 = .ok (.istore_n 2, 1) := by decide +kernel
theorem dX11_findRests_7 : decode cX11_findRests 7 = .ok (.iload_n 2, 1) := by decide +kernel
theorem dX11_findRests_8 : decode cX11_findRests 8 = .ok (.aload_n 0, 1) := by decide +kernel
theorem dX11_findRests_9 : decode cX11_findRests 9 = .ok (.invokevirtual 226, 3) := by decide +kernel
theorem dX11_findRests_12 : decode cX11_findRests 12 = .ok (.if_icmp .ge 37, 3) := by decide +kernel
theorem dX11_findRests_15 : decode cX11_findRests 15 = .ok (.aload_n 0, 1) := by decide +kernel
theorem dX11_findRests_16 : decode cX11_findRests 16 = .ok (.iload_n 2, 1) := by decide +kernel
theorem dX11_findRests_17 : decode cX11_findRests 17 = .ok (.invokevirtual 344, 3) := by decide +kernel
theorem dX11_findRests_20 : decode cX11_findRests 20 = .ok (.ifCond .eq 23, 3) := by decide +kernel
theorem dX11_findRests_23 : decode cX11_findRests 23 = .ok (.aload_n 1, 1) := by decide +kernel
theorem dX11_findRests_24 : decode cX11_findRests 24 = .ok (.getfield 253, 3) := by decide +kernel
theorem dX11_findRests_27 : decode cX11_findRests 27 = .ok (.aload_n 1, 1) := by decide +kernel
theorem dX11_findRests_28 : decode cX11_findRests 28 = .ok (.getfield 244, 3) := by decide +kernel
theorem dX11_findRests_31 : decode cX11_findRests 31 = .ok (.iload_n 2, 1) := by decide +kernel
theorem dX11_findRests_32 : decode cX11_findRests 32 = .ok (.iastore, 1) := by decide +kernel
theorem dX11_findRests_33 : decode cX11_findRests 33 = .ok (.aload_n 1, 1) := by decide +kernel
theorem dX11_findRests_34 : decode cX11_findRests 34 = .ok (.dup, 1) := by decide +kernel
theorem dX11_findRests_35 : decode cX11_findRests 35 = .ok (.getfield 244, 3) := by decide +kernel
theorem dX11_findRests_38 : decode cX11_findRests 38 = .ok (.iconst 1, 1) := by decide +kernel
theorem dX11_findRests_39 : decode cX11_findRests 39 = .ok (.iadd, 1) := by decide +kernel
theorem dX11_findRests_40 : decode cX11_findRests 40 = .ok (.putfield 244, 3) := by decide +kernel
theorem dX11_findRests_43 : decode cX11_findRests 43 = .ok (.iinc 2 1, 3) := by decide +kernel
theorem dX11_findRests_46 : decode cX11_findRests 46 = .ok (.goto (-39), 3) := by decide +kernel
theorem dX11_findRests_49 : decode cX11_findRests 49 = .ok (.return_, 1) := by decide +kernel
set_option maxRecDepth 20000 in
theorem ggX11_goesBetween_X0_whatIs : GoodIn wsX11_goesBetween wsX0_whatIs := goodIn_r _ [15, 16, 17, 18, 19, 20, 21, 22, 23, 80, 81, 82, 83, 63, 64, 65, 66, 67, 68, 69, 70, 71, 72, 73, 74, 75, 76, 77, 78, 79] (by decide +kernel) (by decide +kernel)
set_option maxRecDepth 20000 in
theorem gX11_goesBetween_X0_whatIs : GoodIn wsX11_goesBetween (wsV RX11 199 RX0 yX0_whatIs wsX0_whatIs) := goodIn_app (goodIn_of _ (by decide +kernel)) ggX11_goesBetween_X0_whatIs
set_option maxRecDepth 20000 in
theorem ggX11_goesBetween_X10_isIn : GoodIn wsX11_goesBetween wsX10_isIn := goodIn_r _ [28, 29, 30, 63, 64, 65, 66, 67, 68, 69, 70, 71, 72, 73, 74, 75, 76, 77, 78, 79] (by decide +kernel) (by decide +kernel)
set_option maxRecDepth 20000 in
theorem gX11_goesBetween_X10_isIn : GoodIn wsX11_goesBetween (wsV RX11 347 RX10 yX10_isIn wsX10_isIn) := goodIn_app (goodIn_of _ (by decide +kernel)) ggX11_goesBetween_X10_isIn
set_option maxRecDepth 20000 in
theorem ggX11_goesBetween_X0_wayDone : GoodIn wsX11_goesBetween wsX0_wayDone := goodIn_r _ [34, 16, 17, 21, 80, 81, 82, 83] (by decide +kernel) (by decide +kernel)
set_option maxRecDepth 20000 in
theorem gX11_goesBetween_X0_wayDone : GoodIn wsX11_goesBetween (wsV RX11 175 RX0 yX0_wayDone wsX0_wayDone) := goodIn_app (goodIn_of _ (by decide +kernel)) ggX11_goesBetween_X0_wayDone
set_option maxRecDepth 20000 in
theorem ggX11_goesBetween_X10_otherIn : GoodIn wsX11_goesBetween wsX10_otherIn := goodIn_r _ [38, 29, 30, 63, 64, 65, 66, 67, 68, 69, 70, 71, 72, 73, 74, 75, 76, 77, 78, 79] (by decide +kernel) (by decide +kernel)
set_option maxRecDepth 20000 in
theorem gX11_goesBetween_X10_otherIn : GoodIn wsX11_goesBetween (wsV RX11 350 RX10 yX10_otherIn wsX10_otherIn) := goodIn_app (goodIn_of _ (by decide +kernel)) ggX11_goesBetween_X10_otherIn
set_option maxRecDepth 20000 in
theorem ggX11_goesBetween_J6_bitCount_0f7a4 : GoodIn wsX11_goesBetween wsJ6_bitCount_0f7a4 := goodIn_r _ [42, 43, 44, 45] (by decide +kernel) (by decide +kernel)
set_option maxRecDepth 20000 in
theorem gX11_goesBetween_J6_bitCount_0f7a4 : GoodIn wsX11_goesBetween (va_wsS RX11 300 yJ6_bitCount_0f7a4 wsJ6_bitCount_0f7a4) := goodIn_app (goodIn_of _ (by decide +kernel)) ggX11_goesBetween_J6_bitCount_0f7a4
theorem dX11_goesBetween_0 : decode cX11_goesBetween 0 = .ok (.aload_n 0, 1) := by decide +kernel
theorem dX11_goesBetween_1 : decode cX11_goesBetween 1 = .ok (.getfield 63, 3) := by decide +kernel
theorem dX11_goesBetween_4 : decode cX11_goesBetween 4 = .ok (.getfield 111, 3) := by decide +kernel
theorem dX11_goesBetween_7 : decode cX11_goesBetween 7 = .ok (.astore_n 3, 1) := by decide +kernel
theorem dX11_goesBetween_8 : decode cX11_goesBetween 8 = .ok (.iload_n 2, 1) := by decide +kernel
theorem dX11_goesBetween_9 : decode cX11_goesBetween 9 = .ok (.aload_n 3, 1) := by decide +kernel
theorem dX11_goesBetween_10 : decode cX11_goesBetween 10 = .ok (.getfield 139, 3) := by decide +kernel
theorem dX11_goesBetween_13 : decode cX11_goesBetween 13 = .ok (.iload_n 1, 1) := by decide +kernel
theorem dX11_goesBetween_14 : decode cX11_goesBetween 14 = .ok (.iaload, 1) := by decide +kernel
theorem dX11_goesBetween_15 : decode cX11_goesBetween 15 = .ok (.if_icmp .lt 29, 3) := by decide +kernel
theorem dX11_goesBetween_18 : decode cX11_goesBetween 18 = .ok (.iload_n 2, 1) := by decide +kernel
theorem dX11_goesBetween_19 : decode cX11_goesBetween 19 = .ok (.aload_n 3, 1) := by decide +kernel
theorem dX11_goesBetween_20 : decode cX11_goesBetween 20 = .ok (.getfield 143, 3) := by decide +kernel
theorem dX11_goesBetween_23 : decode cX11_goesBetween 23 = .ok (.iload_n 1, 1) := by decide +kernel
theorem dX11_goesBetween_24 : decode cX11_goesBetween 24 = .ok (.iaload, 1) := by decide +kernel
theorem dX11_goesBetween_25 : decode cX11_goesBetween 25 = .ok (.if_icmp .gt 19, 3) := by decide +kernel
theorem dX11_goesBetween_28 : decode cX11_goesBetween 28 = .ok (.aload_n 0, 1) := by decide +kernel
theorem dX11_goesBetween_29 : decode cX11_goesBetween 29 = .ok (.getfield 63, 3) := by decide +kernel
theorem dX11_goesBetween_32 : decode cX11_goesBetween 32 = .ok (.getfield 114, 3) := by decide +kernel
theorem dX11_goesBetween_35 : decode cX11_goesBetween 35 = .ok (.aload_n 3, 1) := by decide +kernel
theorem dX11_goesBetween_36 : decode cX11_goesBetween 36 = .ok (.iload_n 1, 1) := by decide +kernel
theorem dX11_goesBetween_37 : decode cX11_goesBetween 37 = .ok (.iload_n 2, 1) := by decide +kernel
theorem dX11_goesBetween_38 : decode cX11_goesBetween 38 = .ok (.invokevirtual 199, 3) := by decide +kernel
theorem dX11_goesBetween_41 : decode cX11_goesBetween 41 = .ok (.ifCond .eq 5, 3) := by decide +kernel
theorem dX11_goesBetween_44 : decode cX11_goesBetween 44 = .ok (.iconst 0, 1) := by decide +kernel
theorem dX11_goesBetween_45 : decode cX11_goesBetween 45 = .ok (.ireturn, 1) := by decide +kernel
theorem dX11_goesBetween_46 : decode cX11_goesBetween 46 = .ok (.iconst 0, 1) := by decide +kernel
theorem dX11_goesBetween_47 : decode cX11_goesBetween 47 = .ok (.istore 4, 2) := by decide +kernel
theorem dX11_goesBetween_49 : decode cX11_goesBetween 49 = .ok (.iconst 0, 1) := by decide +kernel
theorem dX11_goesBetween_50 : decode cX11_goesBetween 50 = .ok (.istore 5, 2) := by decide +kernel
theorem dX11_goesBetween_52 : decode cX11_goesBetween 52 = .ok (.iconst 0, 1) := by decide +kernel
theorem dX11_goesBetween_53 : decode cX11_goesBetween 53 = .ok (.istore 6, 2) := by decide +kernel
theorem dX11_goesBetween_55 : decode cX11_goesBetween 55 = .ok (.iload 6, 2) := by decide +kernel
theorem dX11_goesBetween_57 : decode cX11_goesBetween 57 = .ok (.aload_n 3, 1) := by decide +kernel
theorem dX11_goesBetween_58 : decode cX11_goesBetween 58 = .ok (.getfield 202, 3) := by decide +kernel
theorem dX11_goesBetween_61 : decode cX11_goesBetween 61 = .ok (.if_icmp .ge 153, 3) := by decide +kernel
theorem dX11_goesBetween_64 : decode cX11_goesBetween 64 = .ok (.aload_n 3, 1) := by decide +kernel
theorem dX11_goesBetween_65 : decode cX11_goesBetween 65 = .ok (.getfield 163, 3) := by decide +kernel
theorem dX11_goesBetween_68 : decode cX11_goesBetween 68 = .ok (.iload 6, 2) := by decide +kernel
theorem dX11_goesBetween_70 : decode cX11_goesBetween 70 = .ok (.iaload, 1) := by decide +kernel
theorem dX11_goesBetween_71 : decode cX11_goesBetween 71 = .ok (.iload_n 2, 1) := by decide +kernel
theorem dX11_goesBetween_72 : decode cX11_goesBetween 72 = .ok (.if_icmp .ne 136, 3) := by decide +kernel
theorem dX11_goesBetween_75 : decode cX11_goesBetween 75 = .ok (.aload_n 3, 1) := by decide +kernel
theorem dX11_goesBetween_76 : decode cX11_goesBetween 76 = .ok (.iload 6, 2) := by decide +kernel
theorem dX11_goesBetween_78 : decode cX11_goesBetween 78 = .ok (.iload_n 1, 1) := by decide +kernel
theorem dX11_goesBetween_79 : decode cX11_goesBetween 79 = .ok (.invokevirtual 347, 3) := by decide +kernel
theorem dX11_goesBetween_82 : decode cX11_goesBetween 82 = .ok (.ifCond .eq 126, 3) := by decide +kernel
theorem dX11_goesBetween_85 : decode cX11_goesBetween 85 = .ok (.aload_n 0, 1) := by decide +kernel
theorem dX11_goesBetween_86 : decode cX11_goesBetween 86 = .ok (.getfield 63, 3) := by decide +kernel
theorem dX11_goesBetween_89 : decode cX11_goesBetween 89 = .ok (.getfield 114, 3) := by decide +kernel
theorem dX11_goesBetween_92 : decode cX11_goesBetween 92 = .ok (.iload 6, 2) := by decide +kernel
theorem dX11_goesBetween_94 : decode cX11_goesBetween 94 = .ok (.invokevirtual 175, 3) := by decide +kernel
theorem dX11_goesBetween_97 : decode cX11_goesBetween 97 = .ok (.ifCond .eq 6, 3) := by decide +kernel
theorem dX11_goesBetween_100 : decode cX11_goesBetween 100 = .ok (.goto 108, 3) := by decide +kernel
theorem dX11_goesBetween_103 : decode cX11_goesBetween 103 = .ok (.aload_n 3, 1) := by decide +kernel
theorem dX11_goesBetween_104 : decode cX11_goesBetween 104 = .ok (.iload 6, 2) := by decide +kernel
theorem dX11_goesBetween_106 : decode cX11_goesBetween 106 = .ok (.iload_n 1, 1) := by decide +kernel
theorem dX11_goesBetween_107 : decode cX11_goesBetween 107 = .ok (.invokevirtual 350, 3) := by decide +kernel
theorem dX11_goesBetween_110 : decode cX11_goesBetween 110 = .ok (.istore 7, 2) := by decide +kernel
theorem dX11_goesBetween_112 : decode cX11_goesBetween 112 = .ok (.aload_n 0, 1) := by decide +kernel
theorem dX11_goesBetween_113 : decode cX11_goesBetween 113 = .ok (.getfield 63, 3) := by decide +kernel
theorem dX11_goesBetween_116 : decode cX11_goesBetween 116 = .ok (.getfield 114, 3) := by decide +kernel
theorem dX11_goesBetween_119 : decode cX11_goesBetween 119 = .ok (.aload_n 3, 1) := by decide +kernel
theorem dX11_goesBetween_120 : decode cX11_goesBetween 120 = .ok (.iload 7, 2) := by decide +kernel
theorem dX11_goesBetween_122 : decode cX11_goesBetween 122 = .ok (.iload_n 2, 1) := by decide +kernel
theorem dX11_goesBetween_123 : decode cX11_goesBetween 123 = .ok (.invokevirtual 199, 3) := by decide +kernel
theorem dX11_goesBetween_126 : decode cX11_goesBetween 126 = .ok (.istore 8, 2) := by decide +kernel
theorem dX11_goesBetween_128 : decode cX11_goesBetween 128 = .ok (.aload_n 3, 1) := by decide +kernel
theorem dX11_goesBetween_129 : decode cX11_goesBetween 129 = .ok (.getfield 172, 3) := by decide +kernel
theorem dX11_goesBetween_132 : decode cX11_goesBetween 132 = .ok (.iload 6, 2) := by decide +kernel
theorem dX11_goesBetween_134 : decode cX11_goesBetween 134 = .ok (.iaload, 1) := by decide +kernel
theorem dX11_goesBetween_135 : decode cX11_goesBetween 135 = .ok (.iconst 1, 1) := by decide +kernel
theorem dX11_goesBetween_136 : decode cX11_goesBetween 136 = .ok (.if_icmp .ne 7, 3) := by decide +kernel
theorem dX11_goesBetween_139 : decode cX11_goesBetween 139 = .ok (.iconst 1, 1) := by decide +kernel
theorem dX11_goesBetween_140 : decode cX11_goesBetween 140 = .ok (.goto 4, 3) := by decide +kernel
theorem dX11_goesBetween_143 : decode cX11_goesBetween 143 = .ok (.iconst 0, 1) := by decide +kernel
theorem dX11_goesBetween_144 : decode cX11_goesBetween 144 = .ok (.istore 9, 2) := by decide +kernel
theorem dX11_goesBetween_146 : decode cX11_goesBetween 146 = .ok (.aload_n 3, 1) := by decide +kernel
theorem dX11_goesBetween_147 : decode cX11_goesBetween 147 = .ok (.getfield 160, 3) := by decide +kernel
theorem dX11_goesBetween_150 : decode cX11_goesBetween 150 = .ok (.iload 6, 2) := by decide +kernel
theorem dX11_goesBetween_152 : decode cX11_goesBetween 152 = .ok (.iaload, 1) := by decide +kernel
theorem dX11_goesBetween_153 : decode cX11_goesBetween 153 = .ok (.iload_n 1, 1) := by decide +kernel
theorem dX11_goesBetween_154 : decode cX11_goesBetween 154 = .ok (.if_icmp .eq 8, 3) := by decide +kernel
theorem dX11_goesBetween_157 : decode cX11_goesBetween 157 = .ok (.iload 9, 2) := by decide +kernel
theorem dX11_goesBetween_159 : decode cX11_goesBetween 159 = .ok (.ifCond .eq 18, 3) := by decide +kernel
theorem dX11_goesBetween_162 : decode cX11_goesBetween 162 = .ok (.iload 8, 2) := by decide +kernel
theorem dX11_goesBetween_164 : decode cX11_goesBetween 164 = .ok (.iconst 2, 1) := by decide +kernel
theorem dX11_goesBetween_165 : decode cX11_goesBetween 165 = .ok (.if_icmp .eq 12, 3) := by decide +kernel
theorem dX11_goesBetween_168 : decode cX11_goesBetween 168 = .ok (.iload 4, 2) := by decide +kernel
theorem dX11_goesBetween_170 : decode cX11_goesBetween 170 = .ok (.iconst 1, 1) := by decide +kernel
theorem dX11_goesBetween_171 : decode cX11_goesBetween 171 = .ok (.iload 7, 2) := by decide +kernel
theorem dX11_goesBetween_173 : decode cX11_goesBetween 173 = .ok (.ishl, 1) := by decide +kernel
theorem dX11_goesBetween_174 : decode cX11_goesBetween 174 = .ok (.ior, 1) := by decide +kernel
theorem dX11_goesBetween_175 : decode cX11_goesBetween 175 = .ok (.istore 4, 2) := by decide +kernel
theorem dX11_goesBetween_177 : decode cX11_goesBetween 177 = .ok (.aload_n 3, 1) := by decide +kernel
theorem dX11_goesBetween_178 : decode cX11_goesBetween 178 = .ok (.getfield 157, 3) := by decide +kernel
theorem dX11_goesBetween_181 : decode cX11_goesBetween 181 = .ok (.iload 6, 2) := by decide +kernel
theorem dX11_goesBetween_183 : decode cX11_goesBetween 183 = .ok (.iaload, 1) := by decide +kernel
theorem dX11_goesBetween_184 : decode cX11_goesBetween 184 = .ok (.iload_n 1, 1) := by decide +kernel
theorem dX11_goesBetween_185 : decode cX11_goesBetween 185 = .ok (.if_icmp .eq 8, 3) := by decide +kernel
theorem dX11_goesBetween_188 : decode cX11_goesBetween 188 = .ok (.iload 9, 2) := by decide +kernel
theorem dX11_goesBetween_190 : decode cX11_goesBetween 190 = .ok (.ifCond .eq 18, 3) := by decide +kernel
theorem dX11_goesBetween_193 : decode cX11_goesBetween 193 = .ok (.iload 8, 2) := by decide +kernel
theorem dX11_goesBetween_195 : decode cX11_goesBetween 195 = .ok (.iconst 1, 1) := by decide +kernel
theorem dX11_goesBetween_196 : decode cX11_goesBetween 196 = .ok (.if_icmp .eq 12, 3) := by decide +kernel
theorem dX11_goesBetween_199 : decode cX11_goesBetween 199 = .ok (.iload 5, 2) := by decide +kernel
theorem dX11_goesBetween_201 : decode cX11_goesBetween 201 = .ok (.iconst 1, 1) := by decide +kernel
theorem dX11_goesBetween_202 : decode cX11_goesBetween 202 = .ok (.iload 7, 2) := by decide +kernel
theorem dX11_goesBetween_204 : decode cX11_goesBetween 204 = .ok (.ishl, 1) := by decide +kernel
theorem dX11_goesBetween_205 : decode cX11_goesBetween 205 = .ok (.ior, 1) := by decide +kernel
theorem dX11_goesBetween_206 : decode cX11_goesBetween 206 = .ok (.istore 5, 2) := by decide +kernel
theorem dX11_goesBetween_208 : decode cX11_goesBetween 208 = .ok (.iinc 6 1, 3) := by decide +kernel
theorem dX11_goesBetween_211 : decode cX11_goesBetween 211 = .ok (.goto (-156), 3) := by decide +kernel
theorem dX11_goesBetween_214 : decode cX11_goesBetween 214 = .ok (.iload 4, 2) := by decide +kernel
theorem dX11_goesBetween_216 : decode cX11_goesBetween 216 = .ok (.ifCond .eq 24, 3) := by decide +kernel
theorem dX11_goesBetween_219 : decode cX11_goesBetween 219 = .ok (.iload 5, 2) := by decide +kernel
theorem dX11_goesBetween_221 : decode cX11_goesBetween 221 = .ok (.ifCond .eq 19, 3) := by decide +kernel
theorem dX11_goesBetween_224 : decode cX11_goesBetween 224 = .ok (.iload 4, 2) := by decide +kernel
theorem dX11_goesBetween_226 : decode cX11_goesBetween 226 = .ok (.iload 5, 2) := by decide +kernel
theorem dX11_goesBetween_228 : decode cX11_goesBetween 228 = .ok (.ior, 1) := by decide +kernel
theorem dX11_goesBetween_229 : decode cX11_goesBetween 229 = .ok (.invokestatic 300, 3) := by decide +kernel
theorem dX11_goesBetween_232 : decode cX11_goesBetween 232 = .ok (.iconst 1, 1) := by decide +kernel
theorem dX11_goesBetween_233 : decode cX11_goesBetween 233 = .ok (.if_icmp .le 7, 3) := by decide +kernel
theorem dX11_goesBetween_236 : decode cX11_goesBetween 236 = .ok (.iconst 1, 1) := by decide +kernel
theorem dX11_goesBetween_237 : decode cX11_goesBetween 237 = .ok (.goto 4, 3) := by decide +kernel
theorem dX11_goesBetween_240 : decode cX11_goesBetween 240 = .ok (.iconst 0, 1) := by decide +kernel
theorem dX11_goesBetween_241 : decode cX11_goesBetween 241 = .ok (.ireturn, 1) := by decide +kernel
theorem dX12_thrown_0 : decode cX12_thrown 0 = .ok (.aload_n 0, 1) := by decide +kernel
theorem dX12_thrown_1 : decode cX12_thrown 1 = .ok (.getfield 1, 3) := by decide +kernel
theorem dX12_thrown_4 : decode cX12_thrown 4 = .ok (.ireturn, 1) := by decide +kernel
theorem dX12_throwsIf_0 : decode cX12_throwsIf 0 = .ok (.aload_n 0, 1) := by decide +kernel
theorem dX12_throwsIf_1 : decode cX12_throwsIf 1 = .ok (.iload_n 1, 1) := by decide +kernel
theorem dX12_throwsIf_2 : decode cX12_throwsIf 2 = .ok (.ifCond .eq 7, 3) := by decide +kernel
theorem dX12_throwsIf_5 : decode cX12_throwsIf 5 = .ok (.iconst 1, 1) := by decide +kernel
theorem dX12_throwsIf_6 : decode cX12_throwsIf 6 = .ok (.goto 4, 3) := by decide +kernel
theorem dX12_throwsIf_9 : decode cX12_throwsIf 9 = .ok (.iconst 0, 1) := by decide +kernel
theorem dX12_throwsIf_10 : decode cX12_throwsIf 10 = .ok (.putfield 1, 3) := by decide +kernel
theorem dX12_throwsIf_13 : decode cX12_throwsIf 13 = .ok (.iload_n 1, 1) := by decide +kernel
theorem dX12_throwsIf_14 : decode cX12_throwsIf 14 = .ok (.ireturn, 1) := by decide +kernel
set_option maxRecDepth 20000 in
theorem ggX12_feed_X12_four : GoodIn wsX12_feed wsX12_four := goodIn_r _ [7, 8, 2, 9, 10, 11, 12, 13, 14, 15, 16, 17, 18, 19, 20, 21, 22, 23, 24, 25, 26, 27, 28, 29, 30, 31, 32, 33, 34, 35, 36, 37, 38, 39, 40, 41, 42, 43, 44, 45, 46, 47, 48, 49, 50, 51, 52, 53, 54, 55, 56, 57, 58, 59, 60, 61, 62, 63, 64, 65, 66] (by decide +kernel) (by decide +kernel)
set_option maxRecDepth 20000 in
theorem gX12_feed_X12_four : GoodIn wsX12_feed (wsV RX12 10 RX12 yX12_four wsX12_four) := goodIn_app (goodIn_of _ (by decide +kernel)) ggX12_feed_X12_four
theorem dX12_feed_0 : decode cX12_feed 0 = .ok (.aload_n 0, 1) := by decide +kernel
theorem dX12_feed_1 : decode cX12_feed 1 = .ok (.iconst 0, 1) := by decide +kernel
theorem dX12_feed_2 : decode cX12_feed 2 = .ok (.putfield 1, 3) := by decide +kernel
theorem dX12_feed_5 : decode cX12_feed 5 = .ok (.aload_n 0, 1) := by decide +kernel
theorem dX12_feed_6 : decode cX12_feed 6 = .ok (.getfield 7, 3) := by decide +kernel
theorem dX12_feed_9 : decode cX12_feed 9 = .ok (.bipush 20, 2) := by decide +kernel
theorem dX12_feed_11 : decode cX12_feed 11 = .ok (.iadd, 1) := by decide +kernel
theorem dX12_feed_12 : decode cX12_feed 12 = .ok (.sipush 940, 3) := by decide +kernel
theorem dX12_feed_15 : decode cX12_feed 15 = .ok (.if_icmp .le 5, 3) := by decide +kernel
theorem dX12_feed_18 : decode cX12_feed 18 = .ok (.iconst (-1), 1) := by decide +kernel
theorem dX12_feed_19 : decode cX12_feed 19 = .ok (.ireturn, 1) := by decide +kernel
theorem dX12_feed_20 : decode cX12_feed 20 = .ok (.aload_n 0, 1) := by decide +kernel
theorem dX12_feed_21 : decode cX12_feed 21 = .ok (.iload_n 1, 1) := by decide +kernel
theorem dX12_feed_22 : decode cX12_feed 22 = .ok (.invokevirtual 10, 3) := by decide +kernel
theorem dX12_feed_25 : decode cX12_feed 25 = .ok (.aload_n 0, 1) := by decide +kernel
theorem dX12_feed_26 : decode cX12_feed 26 = .ok (.iload_n 2, 1) := by decide +kernel
theorem dX12_feed_27 : decode cX12_feed 27 = .ok (.invokevirtual 10, 3) := by decide +kernel
theorem dX12_feed_30 : decode cX12_feed 30 = .ok (.aload_n 0, 1) := by decide +kernel
theorem dX12_feed_31 : decode cX12_feed 31 = .ok (.iload_n 3, 1) := by decide +kernel
theorem dX12_feed_32 : decode cX12_feed 32 = .ok (.invokevirtual 10, 3) := by decide +kernel
theorem dX12_feed_35 : decode cX12_feed 35 = .ok (.aload_n 0, 1) := by decide +kernel
theorem dX12_feed_36 : decode cX12_feed 36 = .ok (.iload 4, 2) := by decide +kernel
theorem dX12_feed_38 : decode cX12_feed 38 = .ok (.invokevirtual 10, 3) := by decide +kernel
theorem dX12_feed_41 : decode cX12_feed 41 = .ok (.aload_n 0, 1) := by decide +kernel
theorem dX12_feed_42 : decode cX12_feed 42 = .ok (.iload 5, 2) := by decide +kernel
theorem dX12_feed_44 : decode cX12_feed 44 = .ok (.invokevirtual 10, 3) := by decide +kernel
theorem dX12_feed_47 : decode cX12_feed 47 = .ok (.aload_n 0, 1) := by decide +kernel
theorem dX12_feed_48 : decode cX12_feed 48 = .ok (.getfield 7, 3) := by decide +kernel
theorem dX12_feed_51 : decode cX12_feed 51 = .ok (.ireturn, 1) := by decide +kernel
theorem dX12_four_0 : decode cX12_four 0 = .ok (.bipush 24, 2) := by decide +kernel
theorem dX12_four_2 : decode cX12_four 2 = .ok (.istore_n 2, 1) := by decide +kernel
theorem dX12_four_3 : decode cX12_four 3 = .ok (.iload_n 2, 1) := by decide +kernel
theorem dX12_four_4 : decode cX12_four 4 = .ok (.ifCond .lt 32, 3) := by decide +kernel
theorem dX12_four_7 : decode cX12_four 7 = .ok (.aload_n 0, 1) := by decide +kernel
theorem dX12_four_8 : decode cX12_four 8 = .ok (.getfield 14, 3) := by decide +kernel
theorem dX12_four_11 : decode cX12_four 11 = .ok (.aload_n 0, 1) := by decide +kernel
theorem dX12_four_12 : decode cX12_four 12 = .ok (.getfield 7, 3) := by decide +kernel
theorem dX12_four_15 : decode cX12_four 15 = .ok (.iload_n 1, 1) := by decide +kernel
theorem dX12_four_16 : decode cX12_four 16 = .ok (.iload_n 2, 1) := by decide +kernel
theorem dX12_four_17 : decode cX12_four 17 = .ok (.ishr, 1) := by decide +kernel
theorem dX12_four_18 : decode cX12_four 18 = .ok (.i2b, 1) := by decide +kernel
theorem dX12_four_19 : decode cX12_four 19 = .ok (.bastore, 1) := by decide +kernel
theorem dX12_four_20 : decode cX12_four 20 = .ok (.aload_n 0, 1) := by decide +kernel
theorem dX12_four_21 : decode cX12_four 21 = .ok (.dup, 1) := by decide +kernel
theorem dX12_four_22 : decode cX12_four 22 = .ok (.getfield 7, 3) := by decide +kernel
theorem dX12_four_25 : decode cX12_four 25 = .ok (.iconst 1, 1) := by decide +kernel
theorem dX12_four_26 : decode cX12_four 26 = .ok (.iadd, 1) := by decide +kernel
theorem dX12_four_27 : decode cX12_four 27 = .ok (.putfield 7, 3) := by decide +kernel
theorem dX12_four_30 : decode cX12_four 30 = .ok (.iinc 2 (-8), 3) := by decide +kernel
theorem dX12_four_33 : decode cX12_four 33 = .ok (.goto (-30), 3) := by decide +kernel
theorem dX12_four_36 : decode cX12_four 36 = .ok (.return_, 1) := by decide +kernel
theorem dX12_end_0 : decode cX12_end 0 = .ok (.aload_n 0, 1) := by decide +kernel
theorem dX12_end_1 : decode cX12_end 1 = .ok (.iconst 0, 1) := by decide +kernel
theorem dX12_end_2 : decode cX12_end 2 = .ok (.putfield 1, 3) := by decide +kernel
theorem dX12_end_5 : decode cX12_end 5 = .ok (.iload_n 1, 1) := by decide +kernel
theorem dX12_end_6 : decode cX12_end 6 = .ok (.ifCond .lt 11, 3) := by decide +kernel
theorem dX12_end_9 : decode cX12_end 9 = .ok (.iload_n 1, 1) := by decide +kernel
theorem dX12_end_10 : decode cX12_end 10 = .ok (.aload_n 0, 1) := by decide +kernel
theorem dX12_end_11 : decode cX12_end 11 = .ok (.getfield 7, 3) := by decide +kernel
theorem dX12_end_14 : decode cX12_end 14 = .ok (.if_icmp .le 5, 3) := by decide +kernel
theorem dX12_end_17 : decode cX12_end 17 = .ok (.iconst 0, 1) := by decide +kernel
theorem dX12_end_18 : decode cX12_end 18 = .ok (.ireturn, 1) := by decide +kernel
theorem dX12_end_19 : decode cX12_end 19 = .ok (.aload_n 0, 1) := by decide +kernel
theorem dX12_end_20 : decode cX12_end 20 = .ok (.iload_n 1, 1) := by decide +kernel
theorem dX12_end_21 : decode cX12_end 21 = .ok (.putfield 7, 3) := by decide +kernel
theorem dX12_end_24 : decode cX12_end 24 = .ok (.iconst 1, 1) := by decide +kernel
theorem dX12_end_25 : decode cX12_end 25 = .ok (.ireturn, 1) := by decide +kernel
theorem dX12_taken_0 : decode cX12_taken 0 = .ok (.aload_n 0, 1) := by decide +kernel
theorem dX12_taken_1 : decode cX12_taken 1 = .ok (.aload_n 0, 1) := by decide +kernel
theorem dX12_taken_2 : decode cX12_taken 2 = .ok (.getfield 7, 3) := by decide +kernel
theorem dX12_taken_5 : decode cX12_taken 5 = .ok (.putfield 18, 3) := by decide +kernel
theorem dX12_taken_8 : decode cX12_taken 8 = .ok (.aload_n 0, 1) := by decide +kernel
theorem dX12_taken_9 : decode cX12_taken 9 = .ok (.iconst 0, 1) := by decide +kernel
theorem dX12_taken_10 : decode cX12_taken 10 = .ok (.putfield 7, 3) := by decide +kernel
theorem dX12_taken_13 : decode cX12_taken 13 = .ok (.aload_n 0, 1) := by decide +kernel
theorem dX12_taken_14 : decode cX12_taken 14 = .ok (.iconst 0, 1) := by decide +kernel
theorem dX12_taken_15 : decode cX12_taken 15 = .ok (.putfield 21, 3) := by decide +kernel
theorem dX12_taken_18 : decode cX12_taken 18 = .ok (.aload_n 0, 1) := by decide +kernel
theorem dX12_taken_19 : decode cX12_taken 19 = .ok (.iload_n 1, 1) := by decide +kernel
theorem dX12_taken_20 : decode cX12_taken 20 = .ok (.putfield 24, 3) := by decide +kernel
theorem dX12_taken_23 : decode cX12_taken 23 = .ok (.return_, 1) := by decide +kernel
theorem dX12_isIn_0 : decode cX12_isIn 0 = .ok (.iload_n 0, 1) := by decide +kernel
theorem dX12_isIn_1 : decode cX12_isIn 1 = .ok (.iload_n 1, 1) := by decide +kernel
theorem dX12_isIn_2 : decode cX12_isIn 2 = .ok (.if_icmp .lt 12, 3) := by decide +kernel
theorem dX12_isIn_5 : decode cX12_isIn 5 = .ok (.iload_n 0, 1) := by decide +kernel
theorem dX12_isIn_6 : decode cX12_isIn 6 = .ok (.iload_n 2, 1) := by decide +kernel
theorem dX12_isIn_7 : decode cX12_isIn 7 = .ok (.if_icmp .gt 7, 3) := by decide +kernel
theorem dX12_isIn_10 : decode cX12_isIn 10 = .ok (.iconst 1, 1) := by decide +kernel
theorem dX12_isIn_11 : decode cX12_isIn 11 = .ok (.goto 4, 3) := by decide +kernel
theorem dX12_isIn_14 : decode cX12_isIn 14 = .ok (.iconst 0, 1) := by decide +kernel
theorem dX12_isIn_15 : decode cX12_isIn 15 = .ok (.ireturn, 1) := by decide +kernel
theorem dX12_has_0 : decode cX12_has 0 = .ok (.iload_n 0, 1) := by decide +kernel
theorem dX12_has_1 : decode cX12_has 1 = .ok (.iload_n 1, 1) := by decide +kernel
theorem dX12_has_2 : decode cX12_has 2 = .ok (.ishr, 1) := by decide +kernel
theorem dX12_has_3 : decode cX12_has 3 = .ok (.iconst 1, 1) := by decide +kernel
theorem dX12_has_4 : decode cX12_has 4 = .ok (.iand, 1) := by decide +kernel
theorem dX12_has_5 : decode cX12_has 5 = .ok (.iconst 1, 1) := by decide +kernel
theorem dX12_has_6 : decode cX12_has 6 = .ok (.if_icmp .ne 7, 3) := by decide +kernel
theorem dX12_has_9 : decode cX12_has 9 = .ok (.iconst 1, 1) := by decide +kernel
theorem dX12_has_10 : decode cX12_has 10 = .ok (.goto 4, 3) := by decide +kernel
theorem dX12_has_13 : decode cX12_has 13 = .ok (.iconst 0, 1) := by decide +kernel
theorem dX12_has_14 : decode cX12_has 14 = .ok (.ireturn, 1) := by decide +kernel
theorem dX12_bits_0 : decode cX12_bits 0 = .ok (.iconst 0, 1) := by decide +kernel
theorem dX12_bits_1 : decode cX12_bits 1 = .ok (.istore_n 1, 1) := by decide +kernel
theorem dX12_bits_2 : decode cX12_bits 2 = .ok (.iload_n 0, 1) := by decide +kernel
theorem dX12_bits_3 : decode cX12_bits 3 = .ok (.istore_n 2, 1) := by decide +kernel
theorem dX12_bits_4 : decode cX12_bits 4 = .ok (.iload_n 2, 1) := by decide +kernel
theorem dX12_bits_5 : decode cX12_bits 5 = .ok (.ifCond .eq 15, 3) := by decide +kernel
theorem dX12_bits_8 : decode cX12_bits 8 = .ok (.iinc 1 1, 3) := by decide +kernel
theorem dX12_bits_11 : decode cX12_bits 11 = .ok (.iload_n 2, 1) := by decide +kernel
theorem dX12_bits_12 : decode cX12_bits 12 = .ok (.iload_n 2, 1) := by decide +kernel
theorem dX12_bits_13 : decode cX12_bits 13 = .ok (.iconst 1, 1) := by decide +kernel
theorem dX12_bits_14 : decode cX12_bits 14 = .ok (.isub, 1) := by decide +kernel
theorem dX12_bits_15 : decode cX12_bits 15 = .ok (.iand, 1) := by decide +kernel
theorem dX12_bits_16 : decode cX12_bits 16 = .ok (.istore_n 2, 1) := by decide +kernel
theorem dX12_bits_17 : decode cX12_bits 17 = .ok (.goto (-13), 3) := by decide +kernel
theorem dX12_bits_20 : decode cX12_bits 20 = .ok (.iload_n 1, 1) := by decide +kernel
theorem dX12_bits_21 : decode cX12_bits 21 = .ok (.ireturn, 1) := by decide +kernel
theorem dX12_octet_0 : decode cX12_octet 0 = .ok (.aload_n 0, 1) := by decide +kernel
theorem dX12_octet_1 : decode cX12_octet 1 = .ok (.getfield 14, 3) := by decide +kernel
theorem dX12_octet_4 : decode cX12_octet 4 = .ok (.iload_n 1, 1) := by decide +kernel
theorem dX12_octet_5 : decode cX12_octet 5 = .ok (.baload, 1) := by decide +kernel
theorem dX12_octet_6 : decode cX12_octet 6 = .ok (.sipush 255, 3) := by decide +kernel
theorem dX12_octet_9 : decode cX12_octet 9 = .ok (.iand, 1) := by decide +kernel
theorem dX12_octet_10 : decode cX12_octet 10 = .ok (.ireturn, 1) := by decide +kernel
theorem dX12_init_0 : decode cX12_init 0 = .ok (.aload_n 0, 1) := by decide +kernel
theorem dX12_init_1 : decode cX12_init 1 = .ok (.invokespecial 27, 3) := by decide +kernel
theorem dX12_init_4 : decode cX12_init 4 = .ok (.aload_n 0, 1) := by decide +kernel
theorem dX12_init_5 : decode cX12_init 5 = .ok (.sipush 940, 3) := by decide +kernel
theorem dX12_init_8 : decode cX12_init 8 = .ok (.newarray .byte, 2) := by decide +kernel
theorem dX12_init_10 : decode cX12_init 10 = .ok (.putfield 14, 3) := by decide +kernel
theorem dX12_init_13 : decode cX12_init 13 = .ok (.aload_n 0, 1) := by decide +kernel
theorem dX12_init_14 : decode cX12_init 14 = .ok (.sipush 284, 3) := by decide +kernel
theorem dX12_init_17 : decode cX12_init 17 = .ok (.newarray .int, 2) := by decide +kernel
theorem dX12_init_19 : decode cX12_init 19 = .ok (.putfield 33, 3) := by decide +kernel
theorem dX12_init_22 : decode cX12_init 22 = .ok (.aload_n 0, 1) := by decide +kernel
theorem dX12_init_23 : decode cX12_init 23 = .ok (.sipush 224, 3) := by decide +kernel
theorem dX12_init_26 : decode cX12_init 26 = .ok (.newarray .int, 2) := by decide +kernel
theorem dX12_init_28 : decode cX12_init 28 = .ok (.putfield 37, 3) := by decide +kernel
theorem dX12_init_31 : decode cX12_init 31 = .ok (.aload_n 0, 1) := by decide +kernel
theorem dX12_init_32 : decode cX12_init 32 = .ok (.bipush 40, 2) := by decide +kernel
theorem dX12_init_34 : decode cX12_init 34 = .ok (.newarray .int, 2) := by decide +kernel
theorem dX12_init_36 : decode cX12_init 36 = .ok (.putfield 40, 3) := by decide +kernel
theorem dX12_init_39 : decode cX12_init 39 = .ok (.aload_n 0, 1) := by decide +kernel
theorem dX12_init_40 : decode cX12_init 40 = .ok (.bipush 40, 2) := by decide +kernel
theorem dX12_init_42 : decode cX12_init 42 = .ok (.newarray .int, 2) := by decide +kernel
theorem dX12_init_44 : decode cX12_init 44 = .ok (.putfield 43, 3) := by decide +kernel
theorem dX12_init_47 : decode cX12_init 47 = .ok (.aload_n 0, 1) := by decide +kernel
theorem dX12_init_48 : decode cX12_init 48 = .ok (.bipush 80, 2) := by decide +kernel
theorem dX12_init_50 : decode cX12_init 50 = .ok (.newarray .long, 2) := by decide +kernel
theorem dX12_init_52 : decode cX12_init 52 = .ok (.putfield 46, 3) := by decide +kernel
theorem dX12_init_55 : decode cX12_init 55 = .ok (.aload_n 0, 1) := by decide +kernel
theorem dX12_init_56 : decode cX12_init 56 = .ok (.bipush 11, 2) := by decide +kernel
theorem dX12_init_58 : decode cX12_init 58 = .ok (.newarray .long, 2) := by decide +kernel
theorem dX12_init_60 : decode cX12_init 60 = .ok (.putfield 50, 3) := by decide +kernel
theorem dX12_init_63 : decode cX12_init 63 = .ok (.aload_n 0, 1) := by decide +kernel
theorem dX12_init_64 : decode cX12_init 64 = .ok (.bipush 10, 2) := by decide +kernel
theorem dX12_init_66 : decode cX12_init 66 = .ok (.newarray .int, 2) := by decide +kernel
theorem dX12_init_68 : decode cX12_init 68 = .ok (.putfield 53, 3) := by decide +kernel
theorem dX12_init_71 : decode cX12_init 71 = .ok (.aload_n 0, 1) := by decide +kernel
theorem dX12_init_72 : decode cX12_init 72 = .ok (.bipush 10, 2) := by decide +kernel
theorem dX12_init_74 : decode cX12_init 74 = .ok (.newarray .int, 2) := by decide +kernel
theorem dX12_init_76 : decode cX12_init 76 = .ok (.putfield 56, 3) := by decide +kernel
theorem dX12_init_79 : decode cX12_init 79 = .ok (.aload_n 0, 1) := by decide +kernel
theorem dX12_init_80 : decode cX12_init 80 = .ok (.bipush 60, 2) := by decide +kernel
theorem dX12_init_82 : decode cX12_init 82 = .ok (.newarray .int, 2) := by decide +kernel
theorem dX12_init_84 : decode cX12_init 84 = .ok (.putfield 59, 3) := by decide +kernel
theorem dX12_init_87 : decode cX12_init 87 = .ok (.aload_n 0, 1) := by decide +kernel
theorem dX12_init_88 : decode cX12_init 88 = .ok (.bipush 30, 2) := by decide +kernel
theorem dX12_init_90 : decode cX12_init 90 = .ok (.newarray .int, 2) := by decide +kernel
theorem dX12_init_92 : decode cX12_init 92 = .ok (.putfield 62, 3) := by decide +kernel
theorem dX12_init_95 : decode cX12_init 95 = .ok (.aload_n 0, 1) := by decide +kernel
theorem dX12_init_96 : decode cX12_init 96 = .ok (.bipush 10, 2) := by decide +kernel
theorem dX12_init_98 : decode cX12_init 98 = .ok (.newarray .int, 2) := by decide +kernel
theorem dX12_init_100 : decode cX12_init 100 = .ok (.putfield 65, 3) := by decide +kernel
theorem dX12_init_103 : decode cX12_init 103 = .ok (.aload_n 0, 1) := by decide +kernel
theorem dX12_init_104 : decode cX12_init 104 = .ok (.bipush 10, 2) := by decide +kernel
theorem dX12_init_106 : decode cX12_init 106 = .ok (.newarray .int, 2) := by decide +kernel
theorem dX12_init_108 : decode cX12_init 108 = .ok (.putfield 68, 3) := by decide +kernel
theorem dX12_init_111 : decode cX12_init 111 = .ok (.aload_n 0, 1) := by decide +kernel
theorem dX12_init_112 : decode cX12_init 112 = .ok (.bipush 30, 2) := by decide +kernel
theorem dX12_init_114 : decode cX12_init 114 = .ok (.newarray .int, 2) := by decide +kernel
theorem dX12_init_116 : decode cX12_init 116 = .ok (.putfield 71, 3) := by decide +kernel
theorem dX12_init_119 : decode cX12_init 119 = .ok (.aload_n 0, 1) := by decide +kernel
theorem dX12_init_120 : decode cX12_init 120 = .ok (.bipush 30, 2) := by decide +kernel
theorem dX12_init_122 : decode cX12_init 122 = .ok (.newarray .int, 2) := by decide +kernel
theorem dX12_init_124 : decode cX12_init 124 = .ok (.putfield 74, 3) := by decide +kernel
theorem dX12_init_127 : decode cX12_init 127 = .ok (.aload_n 0, 1) := by decide +kernel
theorem dX12_init_128 : decode cX12_init 128 = .ok (.bipush 30, 2) := by decide +kernel
theorem dX12_init_130 : decode cX12_init 130 = .ok (.newarray .int, 2) := by decide +kernel
theorem dX12_init_132 : decode cX12_init 132 = .ok (.putfield 77, 3) := by decide +kernel
theorem dX12_init_135 : decode cX12_init 135 = .ok (.aload_n 0, 1) := by decide +kernel
theorem dX12_init_136 : decode cX12_init 136 = .ok (.bipush 30, 2) := by decide +kernel
theorem dX12_init_138 : decode cX12_init 138 = .ok (.newarray .boolean, 2) := by decide +kernel
theorem dX12_init_140 : decode cX12_init 140 = .ok (.putfield 80, 3) := by decide +kernel
theorem dX12_init_143 : decode cX12_init 143 = .ok (.aload_n 0, 1) := by decide +kernel
theorem dX12_init_144 : decode cX12_init 144 = .ok (.sipush 1024, 3) := by decide +kernel
theorem dX12_init_147 : decode cX12_init 147 = .ok (.newarray .int, 2) := by decide +kernel
theorem dX12_init_149 : decode cX12_init 149 = .ok (.putfield 84, 3) := by decide +kernel
theorem dX12_init_152 : decode cX12_init 152 = .ok (.aload_n 0, 1) := by decide +kernel
theorem dX12_init_153 : decode cX12_init 153 = .ok (.sipush 1024, 3) := by decide +kernel
theorem dX12_init_156 : decode cX12_init 156 = .ok (.newarray .int, 2) := by decide +kernel
theorem dX12_init_158 : decode cX12_init 158 = .ok (.putfield 87, 3) := by decide +kernel
theorem dX12_init_161 : decode cX12_init 161 = .ok (.aload_n 0, 1) := by decide +kernel
theorem dX12_init_162 : decode cX12_init 162 = .ok (.iconst 2, 1) := by decide +kernel
theorem dX12_init_163 : decode cX12_init 163 = .ok (.newarray .int, 2) := by decide +kernel
theorem dX12_init_165 : decode cX12_init 165 = .ok (.putfield 90, 3) := by decide +kernel
theorem dX12_init_168 : decode cX12_init 168 = .ok (.aload_n 0, 1) := by decide +kernel
theorem dX12_init_169 : decode cX12_init 169 = .ok (.bipush 120, 2) := by decide +kernel
theorem dX12_init_171 : decode cX12_init 171 = .ok (.newarray .int, 2) := by decide +kernel
theorem dX12_init_173 : decode cX12_init 173 = .ok (.putfield 93, 3) := by decide +kernel
theorem dX12_init_176 : decode cX12_init 176 = .ok (.aload_n 0, 1) := by decide +kernel
theorem dX12_init_177 : decode cX12_init 177 = .ok (.sipush 7381, 3) := by decide +kernel
theorem dX12_init_180 : decode cX12_init 180 = .ok (.newarray .int, 2) := by decide +kernel
theorem dX12_init_182 : decode cX12_init 182 = .ok (.putfield 96, 3) := by decide +kernel
theorem dX12_init_185 : decode cX12_init 185 = .ok (.aload_n 0, 1) := by decide +kernel
theorem dX12_init_186 : decode cX12_init 186 = .ok (.bipush 60, 2) := by decide +kernel
theorem dX12_init_188 : decode cX12_init 188 = .ok (.newarray .int, 2) := by decide +kernel
theorem dX12_init_190 : decode cX12_init 190 = .ok (.putfield 99, 3) := by decide +kernel
theorem dX12_init_193 : decode cX12_init 193 = .ok (.aload_n 0, 1) := by decide +kernel
theorem dX12_init_194 : decode cX12_init 194 = .ok (.bipush 30, 2) := by decide +kernel
theorem dX12_init_196 : decode cX12_init 196 = .ok (.newarray .int, 2) := by decide +kernel
theorem dX12_init_198 : decode cX12_init 198 = .ok (.putfield 102, 3) := by decide +kernel
theorem dX12_init_201 : decode cX12_init 201 = .ok (.aload_n 0, 1) := by decide +kernel
theorem dX12_init_202 : decode cX12_init 202 = .ok (.bipush 12, 2) := by decide +kernel
theorem dX12_init_204 : decode cX12_init 204 = .ok (.newarray .int, 2) := by decide +kernel
theorem dX12_init_206 : decode cX12_init 206 = .ok (.putfield 105, 3) := by decide +kernel
theorem dX12_init_209 : decode cX12_init 209 = .ok (.aload_n 0, 1) := by decide +kernel
theorem dX12_init_210 : decode cX12_init 210 = .ok (.bipush 12, 2) := by decide +kernel
theorem dX12_init_212 : decode cX12_init 212 = .ok (.newarray .int, 2) := by decide +kernel
theorem dX12_init_214 : decode cX12_init 214 = .ok (.putfield 108, 3) := by decide +kernel
theorem dX12_init_217 : decode cX12_init 217 = .ok (.aload_n 0, 1) := by decide +kernel
theorem dX12_init_218 : decode cX12_init 218 = .ok (.iconst (-1), 1) := by decide +kernel
theorem dX12_init_219 : decode cX12_init 219 = .ok (.putfield 111, 3) := by decide +kernel
theorem dX12_init_222 : decode cX12_init 222 = .ok (.aload_n 0, 1) := by decide +kernel
theorem dX12_init_223 : decode cX12_init 223 = .ok (.bipush 61, 2) := by decide +kernel
theorem dX12_init_225 : decode cX12_init 225 = .ok (.newarray .int, 2) := by decide +kernel
theorem dX12_init_227 : decode cX12_init 227 = .ok (.putfield 114, 3) := by decide +kernel
theorem dX12_init_230 : decode cX12_init 230 = .ok (.aload_n 0, 1) := by decide +kernel
theorem dX12_init_231 : decode cX12_init 231 = .ok (.iconst (-1), 1) := by decide +kernel
theorem dX12_init_232 : decode cX12_init 232 = .ok (.putfield 117, 3) := by decide +kernel
theorem dX12_init_235 : decode cX12_init 235 = .ok (.aload_n 0, 1) := by decide +kernel
theorem dX12_init_236 : decode cX12_init 236 = .ok (.sipush 568, 3) := by decide +kernel
theorem dX12_init_239 : decode cX12_init 239 = .ok (.newarray .int, 2) := by decide +kernel
theorem dX12_init_241 : decode cX12_init 241 = .ok (.putfield 120, 3) := by decide +kernel
theorem dX12_init_244 : decode cX12_init 244 = .ok (.aload_n 0, 1) := by decide +kernel
theorem dX12_init_245 : decode cX12_init 245 = .ok (.bipush 80, 2) := by decide +kernel
theorem dX12_init_247 : decode cX12_init 247 = .ok (.newarray .long, 2) := by decide +kernel
theorem dX12_init_249 : decode cX12_init 249 = .ok (.putfield 123, 3) := by decide +kernel
theorem dX12_init_252 : decode cX12_init 252 = .ok (.aload_n 0, 1) := by decide +kernel
theorem dX12_init_253 : decode cX12_init 253 = .ok (.iconst 2, 1) := by decide +kernel
theorem dX12_init_254 : decode cX12_init 254 = .ok (.newarray .boolean, 2) := by decide +kernel
theorem dX12_init_256 : decode cX12_init 256 = .ok (.putfield 126, 3) := by decide +kernel
theorem dX12_init_259 : decode cX12_init 259 = .ok (.aload_n 0, 1) := by decide +kernel
theorem dX12_init_260 : decode cX12_init 260 = .ok (.getfield 50, 3) := by decide +kernel
theorem dX12_init_263 : decode cX12_init 263 = .ok (.iconst 0, 1) := by decide +kernel
theorem dX12_init_264 : decode cX12_init 264 = .ok (.ldc2_w 129, 3) := by decide +kernel
theorem dX12_init_267 : decode cX12_init 267 = .ok (.lastore, 1) := by decide +kernel
theorem dX12_init_268 : decode cX12_init 268 = .ok (.aload_n 0, 1) := by decide +kernel
theorem dX12_init_269 : decode cX12_init 269 = .ok (.getfield 50, 3) := by decide +kernel
theorem dX12_init_272 : decode cX12_init 272 = .ok (.iconst 1, 1) := by decide +kernel
theorem dX12_init_273 : decode cX12_init 273 = .ok (.ldc2_w 131, 3) := by decide +kernel
theorem dX12_init_276 : decode cX12_init 276 = .ok (.lastore, 1) := by decide +kernel
theorem dX12_init_277 : decode cX12_init 277 = .ok (.aload_n 0, 1) := by decide +kernel
theorem dX12_init_278 : decode cX12_init 278 = .ok (.getfield 50, 3) := by decide +kernel
theorem dX12_init_281 : decode cX12_init 281 = .ok (.iconst 2, 1) := by decide +kernel
theorem dX12_init_282 : decode cX12_init 282 = .ok (.ldc2_w 133, 3) := by decide +kernel
theorem dX12_init_285 : decode cX12_init 285 = .ok (.lastore, 1) := by decide +kernel
theorem dX12_init_286 : decode cX12_init 286 = .ok (.aload_n 0, 1) := by decide +kernel
theorem dX12_init_287 : decode cX12_init 287 = .ok (.getfield 50, 3) := by decide +kernel
theorem dX12_init_290 : decode cX12_init 290 = .ok (.iconst 3, 1) := by decide +kernel
theorem dX12_init_291 : decode cX12_init 291 = .ok (.ldc2_w 135, 3) := by decide +kernel
theorem dX12_init_294 : decode cX12_init 294 = .ok (.lastore, 1) := by decide +kernel
theorem dX12_init_295 : decode cX12_init 295 = .ok (.aload_n 0, 1) := by decide +kernel
theorem dX12_init_296 : decode cX12_init 296 = .ok (.getfield 50, 3) := by decide +kernel
theorem dX12_init_299 : decode cX12_init 299 = .ok (.iconst 4, 1) := by decide +kernel
theorem dX12_init_300 : decode cX12_init 300 = .ok (.ldc2_w 137, 3) := by decide +kernel
theorem dX12_init_303 : decode cX12_init 303 = .ok (.lastore, 1) := by decide +kernel
theorem dX12_init_304 : decode cX12_init 304 = .ok (.aload_n 0, 1) := by decide +kernel
theorem dX12_init_305 : decode cX12_init 305 = .ok (.getfield 50, 3) := by decide +kernel
theorem dX12_init_308 : decode cX12_init 308 = .ok (.iconst 5, 1) := by decide +kernel
theorem dX12_init_309 : decode cX12_init 309 = .ok (.ldc2_w 139, 3) := by decide +kernel
theorem dX12_init_312 : decode cX12_init 312 = .ok (.lastore, 1) := by decide +kernel
theorem dX12_init_313 : decode cX12_init 313 = .ok (.aload_n 0, 1) := by decide +kernel
theorem dX12_init_314 : decode cX12_init 314 = .ok (.getfield 50, 3) := by decide +kernel
theorem dX12_init_317 : decode cX12_init 317 = .ok (.bipush 6, 2) := by decide +kernel
theorem dX12_init_319 : decode cX12_init 319 = .ok (.ldc2_w 141, 3) := by decide +kernel
theorem dX12_init_322 : decode cX12_init 322 = .ok (.lastore, 1) := by decide +kernel
theorem dX12_init_323 : decode cX12_init 323 = .ok (.aload_n 0, 1) := by decide +kernel
theorem dX12_init_324 : decode cX12_init 324 = .ok (.getfield 50, 3) := by decide +kernel
theorem dX12_init_327 : decode cX12_init 327 = .ok (.bipush 7, 2) := by decide +kernel
theorem dX12_init_329 : decode cX12_init 329 = .ok (.ldc2_w 143, 3) := by decide +kernel
theorem dX12_init_332 : decode cX12_init 332 = .ok (.lastore, 1) := by decide +kernel
theorem dX12_init_333 : decode cX12_init 333 = .ok (.aload_n 0, 1) := by decide +kernel
theorem dX12_init_334 : decode cX12_init 334 = .ok (.getfield 50, 3) := by decide +kernel
theorem dX12_init_337 : decode cX12_init 337 = .ok (.bipush 8, 2) := by decide +kernel
theorem dX12_init_339 : decode cX12_init 339 = .ok (.ldc2_w 145, 3) := by decide +kernel
theorem dX12_init_342 : decode cX12_init 342 = .ok (.lastore, 1) := by decide +kernel
theorem dX12_init_343 : decode cX12_init 343 = .ok (.aload_n 0, 1) := by decide +kernel
theorem dX12_init_344 : decode cX12_init 344 = .ok (.getfield 50, 3) := by decide +kernel
theorem dX12_init_347 : decode cX12_init 347 = .ok (.bipush 9, 2) := by decide +kernel
theorem dX12_init_349 : decode cX12_init 349 = .ok (.ldc2_w 147, 3) := by decide +kernel
theorem dX12_init_352 : decode cX12_init 352 = .ok (.lastore, 1) := by decide +kernel
theorem dX12_init_353 : decode cX12_init 353 = .ok (.aload_n 0, 1) := by decide +kernel
theorem dX12_init_354 : decode cX12_init 354 = .ok (.getfield 50, 3) := by decide +kernel
theorem dX12_init_357 : decode cX12_init 357 = .ok (.bipush 10, 2) := by decide +kernel
theorem dX12_init_359 : decode cX12_init 359 = .ok (.ldc2_w 149, 3) := by decide +kernel
theorem dX12_init_362 : decode cX12_init 362 = .ok (.lastore, 1) := by decide +kernel
theorem dX12_init_363 : decode cX12_init 363 = .ok (.aload_n 0, 1) := by decide +kernel
theorem dX12_init_364 : decode cX12_init 364 = .ok (.iconst 1, 1) := by decide +kernel
theorem dX12_init_365 : decode cX12_init 365 = .ok (.putfield 151, 3) := by decide +kernel
theorem dX12_init_368 : decode cX12_init 368 = .ok (.return_, 1) := by decide +kernel
theorem dX12_peek_0 : decode cX12_peek 0 = .ok (.aload_n 0, 1) := by decide +kernel
theorem dX12_peek_1 : decode cX12_peek 1 = .ok (.getfield 21, 3) := by decide +kernel
theorem dX12_peek_4 : decode cX12_peek 4 = .ok (.aload_n 0, 1) := by decide +kernel
theorem dX12_peek_5 : decode cX12_peek 5 = .ok (.getfield 18, 3) := by decide +kernel
theorem dX12_peek_8 : decode cX12_peek 8 = .ok (.if_icmp .ge 19, 3) := by decide +kernel
theorem dX12_peek_11 : decode cX12_peek 11 = .ok (.aload_n 0, 1) := by decide +kernel
theorem dX12_peek_12 : decode cX12_peek 12 = .ok (.getfield 14, 3) := by decide +kernel
theorem dX12_peek_15 : decode cX12_peek 15 = .ok (.aload_n 0, 1) := by decide +kernel
theorem dX12_peek_16 : decode cX12_peek 16 = .ok (.getfield 21, 3) := by decide +kernel
theorem dX12_peek_19 : decode cX12_peek 19 = .ok (.baload, 1) := by decide +kernel
theorem dX12_peek_20 : decode cX12_peek 20 = .ok (.sipush 255, 3) := by decide +kernel
theorem dX12_peek_23 : decode cX12_peek 23 = .ok (.iand, 1) := by decide +kernel
theorem dX12_peek_24 : decode cX12_peek 24 = .ok (.goto 4, 3) := by decide +kernel
theorem dX12_peek_27 : decode cX12_peek 27 = .ok (.iconst (-1), 1) := by decide +kernel
theorem dX12_peek_28 : decode cX12_peek 28 = .ok (.ireturn, 1) := by decide +kernel
theorem dX12_isSmall_0 : decode cX12_isSmall 0 = .ok (.iload_n 0, 1) := by decide +kernel
theorem dX12_isSmall_1 : decode cX12_isSmall 1 = .ok (.bipush 97, 2) := by decide +kernel
theorem dX12_isSmall_3 : decode cX12_isSmall 3 = .ok (.if_icmp .lt 13, 3) := by decide +kernel
theorem dX12_isSmall_6 : decode cX12_isSmall 6 = .ok (.iload_n 0, 1) := by decide +kernel
theorem dX12_isSmall_7 : decode cX12_isSmall 7 = .ok (.bipush 122, 2) := by decide +kernel
theorem dX12_isSmall_9 : decode cX12_isSmall 9 = .ok (.if_icmp .gt 7, 3) := by decide +kernel
theorem dX12_isSmall_12 : decode cX12_isSmall 12 = .ok (.iconst 1, 1) := by decide +kernel
theorem dX12_isSmall_13 : decode cX12_isSmall 13 = .ok (.goto 4, 3) := by decide +kernel
theorem dX12_isSmall_16 : decode cX12_isSmall 16 = .ok (.iconst 0, 1) := by decide +kernel
theorem dX12_isSmall_17 : decode cX12_isSmall 17 = .ok (.ireturn, 1) := by decide +kernel
theorem dX12_isDigit_0 : decode cX12_isDigit 0 = .ok (.iload_n 0, 1) := by decide +kernel
theorem dX12_isDigit_1 : decode cX12_isDigit 1 = .ok (.bipush 48, 2) := by decide +kernel
theorem dX12_isDigit_3 : decode cX12_isDigit 3 = .ok (.if_icmp .lt 13, 3) := by decide +kernel
theorem dX12_isDigit_6 : decode cX12_isDigit 6 = .ok (.iload_n 0, 1) := by decide +kernel
theorem dX12_isDigit_7 : decode cX12_isDigit 7 = .ok (.bipush 57, 2) := by decide +kernel
theorem dX12_isDigit_9 : decode cX12_isDigit 9 = .ok (.if_icmp .gt 7, 3) := by decide +kernel
theorem dX12_isDigit_12 : decode cX12_isDigit 12 = .ok (.iconst 1, 1) := by decide +kernel
theorem dX12_isDigit_13 : decode cX12_isDigit 13 = .ok (.goto 4, 3) := by decide +kernel
theorem dX12_isDigit_16 : decode cX12_isDigit 16 = .ok (.iconst 0, 1) := by decide +kernel
theorem dX12_isDigit_17 : decode cX12_isDigit 17 = .ok (.ireturn, 1) := by decide +kernel
set_option maxRecDepth 20000 in
theorem ggX12_skip_X12_peek : GoodIn wsX12_skip wsX12_peek := goodIn_r _ [13, 1, 4, 14, 21, 22, 23, 24, 25, 26, 27, 28, 29, 30, 31, 32, 33, 34, 35, 36, 37, 38, 39, 40, 41, 42, 43, 44, 45, 46, 47, 48, 49, 50, 51, 52, 53, 54, 55, 56, 57, 58, 59, 60, 61, 62, 63, 64, 65, 66, 67, 68, 69, 70, 71, 72, 73, 74, 75, 76, 77, 78] (by decide +kernel) (by decide +kernel)
set_option maxRecDepth 20000 in
theorem gX12_skip_X12_peek : GoodIn wsX12_skip (wsV RX12 155 RX12 yX12_peek wsX12_peek) := goodIn_app (goodIn_of _ (by decide +kernel)) ggX12_skip_X12_peek
set_option maxRecDepth 20000 in
theorem ggX12_skip_X12_isSmall : GoodIn wsX12_skip wsX12_isSmall := goodIn_r _ [17] (by decide +kernel) (by decide +kernel)
set_option maxRecDepth 20000 in
theorem gX12_skip_X12_isSmall : GoodIn wsX12_skip (va_wsS RX12 168 yX12_isSmall wsX12_isSmall) := goodIn_app (goodIn_of _ (by decide +kernel)) ggX12_skip_X12_isSmall
set_option maxRecDepth 20000 in
theorem ggX12_skip_X12_isDigit : GoodIn wsX12_skip wsX12_isDigit := goodIn_r _ [20] (by decide +kernel) (by decide +kernel)
set_option maxRecDepth 20000 in
theorem gX12_skip_X12_isDigit : GoodIn wsX12_skip (va_wsS RX12 172 yX12_isDigit wsX12_isDigit) := goodIn_app (goodIn_of _ (by decide +kernel)) ggX12_skip_X12_isDigit
theorem dX12_skip_0 : decode cX12_skip 0 = .ok (.aload_n 0, 1) := by decide +kernel
theorem dX12_skip_1 : decode cX12_skip 1 = .ok (.invokevirtual 155, 3) := by decide +kernel
theorem dX12_skip_4 : decode cX12_skip 4 = .ok (.bipush 32, 2) := by decide +kernel
theorem dX12_skip_6 : decode cX12_skip 6 = .ok (.if_icmp .eq 12, 3) := by decide +kernel
theorem dX12_skip_9 : decode cX12_skip 9 = .ok (.aload_n 0, 1) := by decide +kernel
theorem dX12_skip_10 : decode cX12_skip 10 = .ok (.invokevirtual 155, 3) := by decide +kernel
theorem dX12_skip_13 : decode cX12_skip 13 = .ok (.bipush 10, 2) := by decide +kernel
theorem dX12_skip_15 : decode cX12_skip 15 = .ok (.if_icmp .ne 16, 3) := by decide +kernel
theorem dX12_skip_18 : decode cX12_skip 18 = .ok (.aload_n 0, 1) := by decide +kernel
theorem dX12_skip_19 : decode cX12_skip 19 = .ok (.dup, 1) := by decide +kernel
theorem dX12_skip_20 : decode cX12_skip 20 = .ok (.getfield 21, 3) := by decide +kernel
theorem dX12_skip_23 : decode cX12_skip 23 = .ok (.iconst 1, 1) := by decide +kernel
theorem dX12_skip_24 : decode cX12_skip 24 = .ok (.iadd, 1) := by decide +kernel
theorem dX12_skip_25 : decode cX12_skip 25 = .ok (.putfield 21, 3) := by decide +kernel
theorem dX12_skip_28 : decode cX12_skip 28 = .ok (.goto (-28), 3) := by decide +kernel
theorem dX12_skip_31 : decode cX12_skip 31 = .ok (.aload_n 0, 1) := by decide +kernel
theorem dX12_skip_32 : decode cX12_skip 32 = .ok (.aload_n 0, 1) := by decide +kernel
theorem dX12_skip_33 : decode cX12_skip 33 = .ok (.getfield 21, 3) := by decide +kernel
theorem dX12_skip_36 : decode cX12_skip 36 = .ok (.putfield 159, 3) := by decide +kernel
theorem dX12_skip_39 : decode cX12_skip 39 = .ok (.aload_n 0, 1) := by decide +kernel
theorem dX12_skip_40 : decode cX12_skip 40 = .ok (.iconst 0, 1) := by decide +kernel
theorem dX12_skip_41 : decode cX12_skip 41 = .ok (.putfield 162, 3) := by decide +kernel
theorem dX12_skip_44 : decode cX12_skip 44 = .ok (.aload_n 0, 1) := by decide +kernel
theorem dX12_skip_45 : decode cX12_skip 45 = .ok (.getfield 18, 3) := by decide +kernel
theorem dX12_skip_48 : decode cX12_skip 48 = .ok (.aload_n 0, 1) := by decide +kernel
theorem dX12_skip_49 : decode cX12_skip 49 = .ok (.getfield 24, 3) := by decide +kernel
theorem dX12_skip_52 : decode cX12_skip 52 = .ok (.if_icmp .le 28, 3) := by decide +kernel
theorem dX12_skip_55 : decode cX12_skip 55 = .ok (.aload_n 0, 1) := by decide +kernel
theorem dX12_skip_56 : decode cX12_skip 56 = .ok (.getfield 21, 3) := by decide +kernel
theorem dX12_skip_59 : decode cX12_skip 59 = .ok (.aload_n 0, 1) := by decide +kernel
theorem dX12_skip_60 : decode cX12_skip 60 = .ok (.getfield 24, 3) := by decide +kernel
theorem dX12_skip_63 : decode cX12_skip 63 = .ok (.if_icmp .lt 17, 3) := by decide +kernel
theorem dX12_skip_66 : decode cX12_skip 66 = .ok (.aload_n 0, 1) := by decide +kernel
theorem dX12_skip_67 : decode cX12_skip 67 = .ok (.aload_n 0, 1) := by decide +kernel
theorem dX12_skip_68 : decode cX12_skip 68 = .ok (.getfield 24, 3) := by decide +kernel
theorem dX12_skip_71 : decode cX12_skip 71 = .ok (.putfield 159, 3) := by decide +kernel
theorem dX12_skip_74 : decode cX12_skip 74 = .ok (.aload_n 0, 1) := by decide +kernel
theorem dX12_skip_75 : decode cX12_skip 75 = .ok (.iconst 4, 1) := by decide +kernel
theorem dX12_skip_76 : decode cX12_skip 76 = .ok (.putfield 165, 3) := by decide +kernel
theorem dX12_skip_79 : decode cX12_skip 79 = .ok (.return_, 1) := by decide +kernel
theorem dX12_skip_80 : decode cX12_skip 80 = .ok (.aload_n 0, 1) := by decide +kernel
theorem dX12_skip_81 : decode cX12_skip 81 = .ok (.invokevirtual 155, 3) := by decide +kernel
theorem dX12_skip_84 : decode cX12_skip 84 = .ok (.istore_n 1, 1) := by decide +kernel
theorem dX12_skip_85 : decode cX12_skip 85 = .ok (.iload_n 1, 1) := by decide +kernel
theorem dX12_skip_86 : decode cX12_skip 86 = .ok (.ifCond .ge 9, 3) := by decide +kernel
theorem dX12_skip_89 : decode cX12_skip 89 = .ok (.aload_n 0, 1) := by decide +kernel
theorem dX12_skip_90 : decode cX12_skip 90 = .ok (.iconst 0, 1) := by decide +kernel
theorem dX12_skip_91 : decode cX12_skip 91 = .ok (.putfield 165, 3) := by decide +kernel
theorem dX12_skip_94 : decode cX12_skip 94 = .ok (.return_, 1) := by decide +kernel
theorem dX12_skip_95 : decode cX12_skip 95 = .ok (.iload_n 1, 1) := by decide +kernel
theorem dX12_skip_96 : decode cX12_skip 96 = .ok (.invokestatic 168, 3) := by decide +kernel
theorem dX12_skip_99 : decode cX12_skip 99 = .ok (.ifCond .ne 41, 3) := by decide +kernel
theorem dX12_skip_102 : decode cX12_skip 102 = .ok (.iload_n 1, 1) := by decide +kernel
theorem dX12_skip_103 : decode cX12_skip 103 = .ok (.invokestatic 172, 3) := by decide +kernel
theorem dX12_skip_106 : decode cX12_skip 106 = .ok (.ifCond .ne 34, 3) := by decide +kernel
theorem dX12_skip_109 : decode cX12_skip 109 = .ok (.aload_n 0, 1) := by decide +kernel
theorem dX12_skip_110 : decode cX12_skip 110 = .ok (.iload_n 1, 1) := by decide +kernel
theorem dX12_skip_111 : decode cX12_skip 111 = .ok (.bipush 59, 2) := by decide +kernel
theorem dX12_skip_113 : decode cX12_skip 113 = .ok (.if_icmp .ne 7, 3) := by decide +kernel
theorem dX12_skip_116 : decode cX12_skip 116 = .ok (.iconst 3, 1) := by decide +kernel
theorem dX12_skip_117 : decode cX12_skip 117 = .ok (.goto 4, 3) := by decide +kernel
theorem dX12_skip_120 : decode cX12_skip 120 = .ok (.iconst 4, 1) := by decide +kernel
theorem dX12_skip_121 : decode cX12_skip 121 = .ok (.putfield 165, 3) := by decide +kernel
theorem dX12_skip_124 : decode cX12_skip 124 = .ok (.aload_n 0, 1) := by decide +kernel
theorem dX12_skip_125 : decode cX12_skip 125 = .ok (.iload_n 1, 1) := by decide +kernel
theorem dX12_skip_126 : decode cX12_skip 126 = .ok (.putfield 175, 3) := by decide +kernel
theorem dX12_skip_129 : decode cX12_skip 129 = .ok (.aload_n 0, 1) := by decide +kernel
theorem dX12_skip_130 : decode cX12_skip 130 = .ok (.dup, 1) := by decide +kernel
theorem dX12_skip_131 : decode cX12_skip 131 = .ok (.getfield 21, 3) := by decide +kernel
theorem dX12_skip_134 : decode cX12_skip 134 = .ok (.iconst 1, 1) := by decide +kernel
theorem dX12_skip_135 : decode cX12_skip 135 = .ok (.iadd, 1) := by decide +kernel
theorem dX12_skip_136 : decode cX12_skip 136 = .ok (.putfield 21, 3) := by decide +kernel
theorem dX12_skip_139 : decode cX12_skip 139 = .ok (.return_, 1) := by decide +kernel
theorem dX12_skip_140 : decode cX12_skip 140 = .ok (.iload_n 1, 1) := by decide +kernel
theorem dX12_skip_141 : decode cX12_skip 141 = .ok (.invokestatic 168, 3) := by decide +kernel
theorem dX12_skip_144 : decode cX12_skip 144 = .ok (.istore_n 2, 1) := by decide +kernel
theorem dX12_skip_145 : decode cX12_skip 145 = .ok (.iconst 1, 1) := by decide +kernel
theorem dX12_skip_146 : decode cX12_skip 146 = .ok (.istore_n 3, 1) := by decide +kernel
theorem dX12_skip_147 : decode cX12_skip 147 = .ok (.aload_n 0, 1) := by decide +kernel
theorem dX12_skip_148 : decode cX12_skip 148 = .ok (.lconst 0, 1) := by decide +kernel
theorem dX12_skip_149 : decode cX12_skip 149 = .ok (.putfield 178, 3) := by decide +kernel
theorem dX12_skip_152 : decode cX12_skip 152 = .ok (.aload_n 0, 1) := by decide +kernel
theorem dX12_skip_153 : decode cX12_skip 153 = .ok (.iconst 0, 1) := by decide +kernel
theorem dX12_skip_154 : decode cX12_skip 154 = .ok (.putfield 175, 3) := by decide +kernel
theorem dX12_skip_157 : decode cX12_skip 157 = .ok (.aload_n 0, 1) := by decide +kernel
theorem dX12_skip_158 : decode cX12_skip 158 = .ok (.invokevirtual 155, 3) := by decide +kernel
theorem dX12_skip_161 : decode cX12_skip 161 = .ok (.invokestatic 168, 3) := by decide +kernel
theorem dX12_skip_164 : decode cX12_skip 164 = .ok (.ifCond .ne 13, 3) := by decide +kernel
theorem dX12_skip_167 : decode cX12_skip 167 = .ok (.aload_n 0, 1) := by decide +kernel
theorem dX12_skip_168 : decode cX12_skip 168 = .ok (.invokevirtual 155, 3) := by decide +kernel
theorem dX12_skip_171 : decode cX12_skip 171 = .ok (.invokestatic 172, 3) := by decide +kernel
theorem dX12_skip_174 : decode cX12_skip 174 = .ok (.ifCond .eq 100, 3) := by decide +kernel
theorem dX12_skip_177 : decode cX12_skip 177 = .ok (.iload_n 3, 1) := by decide +kernel
theorem dX12_skip_178 : decode cX12_skip 178 = .ok (.ifCond .eq 18, 3) := by decide +kernel
theorem dX12_skip_181 : decode cX12_skip 181 = .ok (.aload_n 0, 1) := by decide +kernel
theorem dX12_skip_182 : decode cX12_skip 182 = .ok (.invokevirtual 155, 3) := by decide +kernel
theorem dX12_skip_185 : decode cX12_skip 185 = .ok (.invokestatic 168, 3) := by decide +kernel
theorem dX12_skip_188 : decode cX12_skip 188 = .ok (.iload_n 2, 1) := by decide +kernel
theorem dX12_skip_189 : decode cX12_skip 189 = .ok (.if_icmp .ne 7, 3) := by decide +kernel
theorem dX12_skip_192 : decode cX12_skip 192 = .ok (.iconst 1, 1) := by decide +kernel
theorem dX12_skip_193 : decode cX12_skip 193 = .ok (.goto 4, 3) := by decide +kernel
theorem dX12_skip_196 : decode cX12_skip 196 = .ok (.iconst 0, 1) := by decide +kernel
theorem dX12_skip_197 : decode cX12_skip 197 = .ok (.istore_n 3, 1) := by decide +kernel
theorem dX12_skip_198 : decode cX12_skip 198 = .ok (.aload_n 0, 1) := by decide +kernel
theorem dX12_skip_199 : decode cX12_skip 199 = .ok (.getfield 162, 3) := by decide +kernel
theorem dX12_skip_202 : decode cX12_skip 202 = .ok (.bipush 7, 2) := by decide +kernel
theorem dX12_skip_204 : decode cX12_skip 204 = .ok (.if_icmp .ge 20, 3) := by decide +kernel
theorem dX12_skip_207 : decode cX12_skip 207 = .ok (.aload_n 0, 1) := by decide +kernel
theorem dX12_skip_208 : decode cX12_skip 208 = .ok (.aload_n 0, 1) := by decide +kernel
theorem dX12_skip_209 : decode cX12_skip 209 = .ok (.getfield 178, 3) := by decide +kernel
theorem dX12_skip_212 : decode cX12_skip 212 = .ok (.bipush 8, 2) := by decide +kernel
theorem dX12_skip_214 : decode cX12_skip 214 = .ok (.lshl, 1) := by decide +kernel
theorem dX12_skip_215 : decode cX12_skip 215 = .ok (.aload_n 0, 1) := by decide +kernel
theorem dX12_skip_216 : decode cX12_skip 216 = .ok (.invokevirtual 155, 3) := by decide +kernel
theorem dX12_skip_219 : decode cX12_skip 219 = .ok (.i2l, 1) := by decide +kernel
theorem dX12_skip_220 : decode cX12_skip 220 = .ok (.lor, 1) := by decide +kernel
theorem dX12_skip_221 : decode cX12_skip 221 = .ok (.putfield 178, 3) := by decide +kernel
theorem dX12_skip_224 : decode cX12_skip 224 = .ok (.aload_n 0, 1) := by decide +kernel
theorem dX12_skip_225 : decode cX12_skip 225 = .ok (.getfield 162, 3) := by decide +kernel
theorem dX12_skip_228 : decode cX12_skip 228 = .ok (.iconst 2, 1) := by decide +kernel
theorem dX12_skip_229 : decode cX12_skip 229 = .ok (.if_icmp .ge 22, 3) := by decide +kernel
theorem dX12_skip_232 : decode cX12_skip 232 = .ok (.aload_n 0, 1) := by decide +kernel
theorem dX12_skip_233 : decode cX12_skip 233 = .ok (.bipush 10, 2) := by decide +kernel
theorem dX12_skip_235 : decode cX12_skip 235 = .ok (.aload_n 0, 1) := by decide +kernel
theorem dX12_skip_236 : decode cX12_skip 236 = .ok (.getfield 175, 3) := by decide +kernel
theorem dX12_skip_239 : decode cX12_skip 239 = .ok (.imul, 1) := by decide +kernel
theorem dX12_skip_240 : decode cX12_skip 240 = .ok (.aload_n 0, 1) := by decide +kernel
theorem dX12_skip_241 : decode cX12_skip 241 = .ok (.invokevirtual 155, 3) := by decide +kernel
theorem dX12_skip_244 : decode cX12_skip 244 = .ok (.iadd, 1) := by decide +kernel
theorem dX12_skip_245 : decode cX12_skip 245 = .ok (.bipush 48, 2) := by decide +kernel
theorem dX12_skip_247 : decode cX12_skip 247 = .ok (.isub, 1) := by decide +kernel
theorem dX12_skip_248 : decode cX12_skip 248 = .ok (.putfield 175, 3) := by decide +kernel
theorem dX12_skip_251 : decode cX12_skip 251 = .ok (.aload_n 0, 1) := by decide +kernel
theorem dX12_skip_252 : decode cX12_skip 252 = .ok (.dup, 1) := by decide +kernel
theorem dX12_skip_253 : decode cX12_skip 253 = .ok (.getfield 162, 3) := by decide +kernel
theorem dX12_skip_256 : decode cX12_skip 256 = .ok (.iconst 1, 1) := by decide +kernel
theorem dX12_skip_257 : decode cX12_skip 257 = .ok (.iadd, 1) := by decide +kernel
theorem dX12_skip_258 : decode cX12_skip 258 = .ok (.putfield 162, 3) := by decide +kernel
theorem dX12_skip_261 : decode cX12_skip 261 = .ok (.aload_n 0, 1) := by decide +kernel
theorem dX12_skip_262 : decode cX12_skip 262 = .ok (.dup, 1) := by decide +kernel
theorem dX12_skip_263 : decode cX12_skip 263 = .ok (.getfield 21, 3) := by decide +kernel
theorem dX12_skip_266 : decode cX12_skip 266 = .ok (.iconst 1, 1) := by decide +kernel
theorem dX12_skip_267 : decode cX12_skip 267 = .ok (.iadd, 1) := by decide +kernel
theorem dX12_skip_268 : decode cX12_skip 268 = .ok (.putfield 21, 3) := by decide +kernel
theorem dX12_skip_271 : decode cX12_skip 271 = .ok (.goto (-114), 3) := by decide +kernel
theorem dX12_skip_274 : decode cX12_skip 274 = .ok (.aload_n 0, 1) := by decide +kernel
theorem dX12_skip_275 : decode cX12_skip 275 = .ok (.iload_n 3, 1) := by decide +kernel
theorem dX12_skip_276 : decode cX12_skip 276 = .ok (.ifCond .eq 20, 3) := by decide +kernel
theorem dX12_skip_279 : decode cX12_skip 279 = .ok (.aload_n 0, 1) := by decide +kernel
theorem dX12_skip_280 : decode cX12_skip 280 = .ok (.getfield 162, 3) := by decide +kernel
theorem dX12_skip_283 : decode cX12_skip 283 = .ok (.iload_n 2, 1) := by decide +kernel
theorem dX12_skip_284 : decode cX12_skip 284 = .ok (.ifCond .eq 8, 3) := by decide +kernel
theorem dX12_skip_287 : decode cX12_skip 287 = .ok (.bipush 7, 2) := by decide +kernel
theorem dX12_skip_289 : decode cX12_skip 289 = .ok (.goto 4, 3) := by decide +kernel
theorem dX12_skip_292 : decode cX12_skip 292 = .ok (.iconst 2, 1) := by decide +kernel
theorem dX12_skip_293 : decode cX12_skip 293 = .ok (.if_icmp .le 7, 3) := by decide +kernel
theorem dX12_skip_296 : decode cX12_skip 296 = .ok (.iconst 4, 1) := by decide +kernel
theorem dX12_skip_297 : decode cX12_skip 297 = .ok (.goto 12, 3) := by decide +kernel
theorem dX12_skip_300 : decode cX12_skip 300 = .ok (.iload_n 2, 1) := by decide +kernel
theorem dX12_skip_301 : decode cX12_skip 301 = .ok (.ifCond .eq 7, 3) := by decide +kernel
theorem dX12_skip_304 : decode cX12_skip 304 = .ok (.iconst 1, 1) := by decide +kernel
theorem dX12_skip_305 : decode cX12_skip 305 = .ok (.goto 4, 3) := by decide +kernel
theorem dX12_skip_308 : decode cX12_skip 308 = .ok (.iconst 2, 1) := by decide +kernel
theorem dX12_skip_309 : decode cX12_skip 309 = .ok (.putfield 165, 3) := by decide +kernel
theorem dX12_skip_312 : decode cX12_skip 312 = .ok (.return_, 1) := by decide +kernel
theorem dX12_bad_0 : decode cX12_bad 0 = .ok (.aload_n 0, 1) := by decide +kernel
theorem dX12_bad_1 : decode cX12_bad 1 = .ok (.iload_n 1, 1) := by decide +kernel
theorem dX12_bad_2 : decode cX12_bad 2 = .ok (.putfield 182, 3) := by decide +kernel
theorem dX12_bad_5 : decode cX12_bad 5 = .ok (.aload_n 0, 1) := by decide +kernel
theorem dX12_bad_6 : decode cX12_bad 6 = .ok (.aload_n 0, 1) := by decide +kernel
theorem dX12_bad_7 : decode cX12_bad 7 = .ok (.getfield 159, 3) := by decide +kernel
theorem dX12_bad_10 : decode cX12_bad 10 = .ok (.putfield 185, 3) := by decide +kernel
theorem dX12_bad_13 : decode cX12_bad 13 = .ok (.iconst 0, 1) := by decide +kernel
theorem dX12_bad_14 : decode cX12_bad 14 = .ok (.ireturn, 1) := by decide +kernel
theorem dX12_isWord_0 : decode cX12_isWord 0 = .ok (.aload_n 0, 1) := by decide +kernel
theorem dX12_isWord_1 : decode cX12_isWord 1 = .ok (.getfield 165, 3) := by decide +kernel
theorem dX12_isWord_4 : decode cX12_isWord 4 = .ok (.iconst 1, 1) := by decide +kernel
theorem dX12_isWord_5 : decode cX12_isWord 5 = .ok (.if_icmp .ne 16, 3) := by decide +kernel
theorem dX12_isWord_8 : decode cX12_isWord 8 = .ok (.aload_n 0, 1) := by decide +kernel
theorem dX12_isWord_9 : decode cX12_isWord 9 = .ok (.getfield 178, 3) := by decide +kernel
theorem dX12_isWord_12 : decode cX12_isWord 12 = .ok (.lload_n 1, 1) := by decide +kernel
theorem dX12_isWord_13 : decode cX12_isWord 13 = .ok (.lcmp, 1) := by decide +kernel
theorem dX12_isWord_14 : decode cX12_isWord 14 = .ok (.ifCond .ne 7, 3) := by decide +kernel
theorem dX12_isWord_17 : decode cX12_isWord 17 = .ok (.iconst 1, 1) := by decide +kernel
theorem dX12_isWord_18 : decode cX12_isWord 18 = .ok (.goto 4, 3) := by decide +kernel
theorem dX12_isWord_21 : decode cX12_isWord 21 = .ok (.iconst 0, 1) := by decide +kernel
theorem dX12_isWord_22 : decode cX12_isWord 22 = .ok (.ireturn, 1) := by decide +kernel
theorem dX12_isSign_0 : decode cX12_isSign 0 = .ok (.aload_n 0, 1) := by decide +kernel
theorem dX12_isSign_1 : decode cX12_isSign 1 = .ok (.getfield 165, 3) := by decide +kernel
theorem dX12_isSign_4 : decode cX12_isSign 4 = .ok (.iconst 3, 1) := by decide +kernel
theorem dX12_isSign_5 : decode cX12_isSign 5 = .ok (.if_icmp .ne 15, 3) := by decide +kernel
theorem dX12_isSign_8 : decode cX12_isSign 8 = .ok (.aload_n 0, 1) := by decide +kernel
theorem dX12_isSign_9 : decode cX12_isSign 9 = .ok (.getfield 175, 3) := by decide +kernel
theorem dX12_isSign_12 : decode cX12_isSign 12 = .ok (.iload_n 1, 1) := by decide +kernel
theorem dX12_isSign_13 : decode cX12_isSign 13 = .ok (.if_icmp .ne 7, 3) := by decide +kernel
theorem dX12_isSign_16 : decode cX12_isSign 16 = .ok (.iconst 1, 1) := by decide +kernel
theorem dX12_isSign_17 : decode cX12_isSign 17 = .ok (.goto 4, 3) := by decide +kernel
theorem dX12_isSign_20 : decode cX12_isSign 20 = .ok (.iconst 0, 1) := by decide +kernel
theorem dX12_isSign_21 : decode cX12_isSign 21 = .ok (.ireturn, 1) := by decide +kernel
set_option maxRecDepth 20000 in
theorem ggX12_sign_X12_isSign : GoodIn wsX12_sign wsX12_isSign := goodIn_r _ [5, 6, 7, 35, 36, 37, 38, 39, 40, 41, 42, 43, 44, 45, 46, 47, 48, 49, 50, 51, 52, 53, 54, 55, 56, 57, 58, 59, 60, 61, 62, 63, 64, 65, 66, 67, 68, 69, 70, 71, 72, 73, 74, 75, 76, 77, 78, 79, 80, 81, 82, 83, 84, 85, 86, 87, 88, 89, 90, 91, 92] (by decide +kernel) (by decide +kernel)
set_option maxRecDepth 20000 in
theorem gX12_sign_X12_isSign : GoodIn wsX12_sign (wsV RX12 188 RX12 yX12_isSign wsX12_isSign) := goodIn_app (goodIn_of _ (by decide +kernel)) ggX12_sign_X12_isSign
set_option maxRecDepth 20000 in
theorem ggX12_sign_X12_bad : GoodIn wsX12_sign wsX12_bad := goodIn_r _ [11, 12, 13, 14, 35, 36, 37, 38, 39, 40, 41, 42, 43, 44, 45, 46, 47, 48, 49, 50, 51, 52, 53, 54, 55, 56, 57, 58, 59, 60, 61, 62, 63, 64, 65, 66, 67, 68, 69, 70, 71, 72, 73, 74, 75, 76, 77, 78, 79, 80, 81, 82, 83, 84, 85, 86, 87, 88, 89, 90, 91, 92] (by decide +kernel) (by decide +kernel)
set_option maxRecDepth 20000 in
theorem gX12_sign_X12_bad : GoodIn wsX12_sign (wsV RX12 191 RX12 yX12_bad wsX12_bad) := goodIn_app (goodIn_of _ (by decide +kernel)) ggX12_sign_X12_bad
set_option maxRecDepth 20000 in
theorem ggX12_sign_X12_skip : GoodIn wsX12_sign wsX12_skip := goodIn_r _ [18, 19, 13, 20, 21, 22, 6, 7, 23, 24, 25, 26, 4, 27, 28, 29, 30, 31, 32, 33, 34, 35, 36, 37, 38, 39, 40, 41, 42, 43, 44, 45, 46, 47, 48, 49, 50, 51, 52, 53, 54, 55, 56, 57, 58, 59, 60, 61, 62, 63, 64, 65, 66, 67, 68, 69, 70, 71, 72, 73, 74, 75, 76, 77, 78, 79, 80, 81, 82, 83, 84, 85, 86, 87, 88, 89, 90, 91, 92] (by decide +kernel) (by decide +kernel)
set_option maxRecDepth 20000 in
theorem gX12_sign_X12_skip : GoodIn wsX12_sign (wsV RX12 194 RX12 yX12_skip wsX12_skip) := goodIn_app (goodIn_of _ (by decide +kernel)) ggX12_sign_X12_skip
theorem dX12_sign_0 : decode cX12_sign 0 = .ok (.aload_n 0, 1) := by decide +kernel
theorem dX12_sign_1 : decode cX12_sign 1 = .ok (.iload_n 1, 1) := by decide +kernel
theorem dX12_sign_2 : decode cX12_sign 2 = .ok (.invokevirtual 188, 3) := by decide +kernel
theorem dX12_sign_5 : decode cX12_sign 5 = .ok (.ifCond .ne 9, 3) := by decide +kernel
theorem dX12_sign_8 : decode cX12_sign 8 = .ok (.aload_n 0, 1) := by decide +kernel
theorem dX12_sign_9 : decode cX12_sign 9 = .ok (.iconst 1, 1) := by decide +kernel
theorem dX12_sign_10 : decode cX12_sign 10 = .ok (.invokevirtual 191, 3) := by decide +kernel
theorem dX12_sign_13 : decode cX12_sign 13 = .ok (.ireturn, 1) := by decide +kernel
theorem dX12_sign_14 : decode cX12_sign 14 = .ok (.aload_n 0, 1) := by decide +kernel
theorem dX12_sign_15 : decode cX12_sign 15 = .ok (.invokevirtual 194, 3) := by decide +kernel
theorem dX12_sign_18 : decode cX12_sign 18 = .ok (.iconst 1, 1) := by decide +kernel
theorem dX12_sign_19 : decode cX12_sign 19 = .ok (.ireturn, 1) := by decide +kernel
theorem dX12_isName_0 : decode cX12_isName 0 = .ok (.aload_n 0, 1) := by decide +kernel
theorem dX12_isName_1 : decode cX12_isName 1 = .ok (.getfield 165, 3) := by decide +kernel
theorem dX12_isName_4 : decode cX12_isName 4 = .ok (.iconst 1, 1) := by decide +kernel
theorem dX12_isName_5 : decode cX12_isName 5 = .ok (.if_icmp .ne 7, 3) := by decide +kernel
theorem dX12_isName_8 : decode cX12_isName 8 = .ok (.iconst 1, 1) := by decide +kernel
theorem dX12_isName_9 : decode cX12_isName 9 = .ok (.goto 4, 3) := by decide +kernel
theorem dX12_isName_12 : decode cX12_isName 12 = .ok (.iconst 0, 1) := by decide +kernel
theorem dX12_isName_13 : decode cX12_isName 13 = .ok (.istore_n 1, 1) := by decide +kernel
theorem dX12_isName_14 : decode cX12_isName 14 = .ok (.iconst 0, 1) := by decide +kernel
theorem dX12_isName_15 : decode cX12_isName 15 = .ok (.istore_n 2, 1) := by decide +kernel
theorem dX12_isName_16 : decode cX12_isName 16 = .ok (.iload_n 2, 1) := by decide +kernel
theorem dX12_isName_17 : decode cX12_isName 17 = .ok (.bipush 11, 2) := by decide +kernel
theorem dX12_isName_19 : decode cX12_isName 19 = .ok (.if_icmp .ge 33, 3) := by decide +kernel
theorem dX12_isName_22 : decode cX12_isName 22 = .ok (.iload_n 1, 1) := by decide +kernel
theorem dX12_isName_23 : decode cX12_isName 23 = .ok (.ifCond .eq 21, 3) := by decide +kernel
theorem dX12_isName_26 : decode cX12_isName 26 = .ok (.aload_n 0, 1) := by decide +kernel
theorem dX12_isName_27 : decode cX12_isName 27 = .ok (.getfield 178, 3) := by decide +kernel
theorem dX12_isName_30 : decode cX12_isName 30 = .ok (.aload_n 0, 1) := by decide +kernel
theorem dX12_isName_31 : decode cX12_isName 31 = .ok (.getfield 50, 3) := by decide +kernel
theorem dX12_isName_34 : decode cX12_isName 34 = .ok (.iload_n 2, 1) := by decide +kernel
theorem dX12_isName_35 : decode cX12_isName 35 = .ok (.laload, 1) := by decide +kernel
theorem dX12_isName_36 : decode cX12_isName 36 = .ok (.lcmp, 1) := by decide +kernel
theorem dX12_isName_37 : decode cX12_isName 37 = .ok (.ifCond .eq 7, 3) := by decide +kernel
theorem dX12_isName_40 : decode cX12_isName 40 = .ok (.iconst 1, 1) := by decide +kernel
theorem dX12_isName_41 : decode cX12_isName 41 = .ok (.goto 4, 3) := by decide +kernel
theorem dX12_isName_44 : decode cX12_isName 44 = .ok (.iconst 0, 1) := by decide +kernel
theorem dX12_isName_45 : decode cX12_isName 45 = .ok (.istore_n 1, 1) := by decide +kernel
theorem dX12_isName_46 : decode cX12_isName 46 = .ok (.iinc 2 1, 3) := by decide +kernel
theorem dX12_isName_49 : decode cX12_isName 49 = .ok (.goto (-33), 3) := by decide +kernel
theorem dX12_isName_52 : decode cX12_isName 52 = .ok (.iload_n 1, 1) := by decide +kernel
theorem dX12_isName_53 : decode cX12_isName 53 = .ok (.ireturn, 1) := by decide +kernel
set_option maxRecDepth 20000 in
theorem ggX12_takes_X12_bad : GoodIn wsX12_takes wsX12_bad := goodIn_r _ [8, 9, 10, 11, 35, 36, 37, 38, 39, 40, 41, 42, 43, 44, 45, 46, 47, 48, 49, 50, 51, 52, 53, 54, 55, 56, 57, 58, 59, 60, 61, 62, 63, 64, 65, 66, 67, 68, 69, 70, 71, 72, 73, 74, 75, 76, 77, 78, 79, 80, 81, 82, 83, 84, 85, 86, 87, 88, 89, 90, 91, 92] (by decide +kernel) (by decide +kernel)
set_option maxRecDepth 20000 in
theorem gX12_takes_X12_bad : GoodIn wsX12_takes (wsV RX12 191 RX12 yX12_bad wsX12_bad) := goodIn_app (goodIn_of _ (by decide +kernel)) ggX12_takes_X12_bad
set_option maxRecDepth 20000 in
theorem ggX12_takes_X12_isIn : GoodIn wsX12_takes wsX12_isIn := goodIn_r _ [14] (by decide +kernel) (by decide +kernel)
set_option maxRecDepth 20000 in
theorem gX12_takes_X12_isIn : GoodIn wsX12_takes (va_wsS RX12 197 yX12_isIn wsX12_isIn) := goodIn_app (goodIn_of _ (by decide +kernel)) ggX12_takes_X12_isIn
set_option maxRecDepth 20000 in
theorem ggX12_takes_X12_skip : GoodIn wsX12_takes wsX12_skip := goodIn_r _ [18, 19, 10, 20, 21, 22, 1, 2, 23, 24, 25, 26, 7, 27, 28, 29, 30, 31, 32, 33, 34, 35, 36, 37, 38, 39, 40, 41, 42, 43, 44, 45, 46, 47, 48, 49, 50, 51, 52, 53, 54, 55, 56, 57, 58, 59, 60, 61, 62, 63, 64, 65, 66, 67, 68, 69, 70, 71, 72, 73, 74, 75, 76, 77, 78, 79, 80, 81, 82, 83, 84, 85, 86, 87, 88, 89, 90, 91, 92] (by decide +kernel) (by decide +kernel)
set_option maxRecDepth 20000 in
theorem gX12_takes_X12_skip : GoodIn wsX12_takes (wsV RX12 194 RX12 yX12_skip wsX12_skip) := goodIn_app (goodIn_of _ (by decide +kernel)) ggX12_takes_X12_skip
theorem dX12_takes_0 : decode cX12_takes 0 = .ok (.aload_n 0, 1) := by decide +kernel
theorem dX12_takes_1 : decode cX12_takes 1 = .ok (.getfield 165, 3) := by decide +kernel
theorem dX12_takes_4 : decode cX12_takes 4 = .ok (.iconst 2, 1) := by decide +kernel
theorem dX12_takes_5 : decode cX12_takes 5 = .ok (.if_icmp .eq 9, 3) := by decide +kernel
theorem dX12_takes_8 : decode cX12_takes 8 = .ok (.aload_n 0, 1) := by decide +kernel
theorem dX12_takes_9 : decode cX12_takes 9 = .ok (.iconst 1, 1) := by decide +kernel
theorem dX12_takes_10 : decode cX12_takes 10 = .ok (.invokevirtual 191, 3) := by decide +kernel
theorem dX12_takes_13 : decode cX12_takes 13 = .ok (.ireturn, 1) := by decide +kernel
theorem dX12_takes_14 : decode cX12_takes 14 = .ok (.aload_n 0, 1) := by decide +kernel
theorem dX12_takes_15 : decode cX12_takes 15 = .ok (.getfield 175, 3) := by decide +kernel
theorem dX12_takes_18 : decode cX12_takes 18 = .ok (.iload_n 1, 1) := by decide +kernel
theorem dX12_takes_19 : decode cX12_takes 19 = .ok (.iload_n 2, 1) := by decide +kernel
theorem dX12_takes_20 : decode cX12_takes 20 = .ok (.invokestatic 197, 3) := by decide +kernel
theorem dX12_takes_23 : decode cX12_takes 23 = .ok (.ifCond .ne 9, 3) := by decide +kernel
theorem dX12_takes_26 : decode cX12_takes 26 = .ok (.aload_n 0, 1) := by decide +kernel
theorem dX12_takes_27 : decode cX12_takes 27 = .ok (.iconst 2, 1) := by decide +kernel
theorem dX12_takes_28 : decode cX12_takes 28 = .ok (.invokevirtual 191, 3) := by decide +kernel
theorem dX12_takes_31 : decode cX12_takes 31 = .ok (.ireturn, 1) := by decide +kernel
theorem dX12_takes_32 : decode cX12_takes 32 = .ok (.aload_n 0, 1) := by decide +kernel
theorem dX12_takes_33 : decode cX12_takes 33 = .ok (.aload_n 0, 1) := by decide +kernel
theorem dX12_takes_34 : decode cX12_takes 34 = .ok (.getfield 175, 3) := by decide +kernel
theorem dX12_takes_37 : decode cX12_takes 37 = .ok (.putfield 201, 3) := by decide +kernel
theorem dX12_takes_40 : decode cX12_takes 40 = .ok (.aload_n 0, 1) := by decide +kernel
theorem dX12_takes_41 : decode cX12_takes 41 = .ok (.invokevirtual 194, 3) := by decide +kernel
theorem dX12_takes_44 : decode cX12_takes 44 = .ok (.iconst 1, 1) := by decide +kernel
theorem dX12_takes_45 : decode cX12_takes 45 = .ok (.ireturn, 1) := by decide +kernel
theorem dX12_find_0 : decode cX12_find 0 = .ok (.iconst 0, 1) := by decide +kernel
theorem dX12_find_1 : decode cX12_find 1 = .ok (.istore_n 3, 1) := by decide +kernel
theorem dX12_find_2 : decode cX12_find 2 = .ok (.iload_n 3, 1) := by decide +kernel
theorem dX12_find_3 : decode cX12_find 3 = .ok (.iload_n 2, 1) := by decide +kernel
theorem dX12_find_4 : decode cX12_find 4 = .ok (.if_icmp .ge 27, 3) := by decide +kernel
theorem dX12_find_7 : decode cX12_find 7 = .ok (.aload_n 0, 1) := by decide +kernel
theorem dX12_find_8 : decode cX12_find 8 = .ok (.getfield 46, 3) := by decide +kernel
theorem dX12_find_11 : decode cX12_find 11 = .ok (.iload_n 1, 1) := by decide +kernel
theorem dX12_find_12 : decode cX12_find 12 = .ok (.iload_n 3, 1) := by decide +kernel
theorem dX12_find_13 : decode cX12_find 13 = .ok (.iadd, 1) := by decide +kernel
theorem dX12_find_14 : decode cX12_find 14 = .ok (.laload, 1) := by decide +kernel
theorem dX12_find_15 : decode cX12_find 15 = .ok (.aload_n 0, 1) := by decide +kernel
theorem dX12_find_16 : decode cX12_find 16 = .ok (.getfield 178, 3) := by decide +kernel
theorem dX12_find_19 : decode cX12_find 19 = .ok (.lcmp, 1) := by decide +kernel
theorem dX12_find_20 : decode cX12_find 20 = .ok (.ifCond .ne 5, 3) := by decide +kernel
theorem dX12_find_23 : decode cX12_find 23 = .ok (.iload_n 3, 1) := by decide +kernel
theorem dX12_find_24 : decode cX12_find 24 = .ok (.ireturn, 1) := by decide +kernel
theorem dX12_find_25 : decode cX12_find 25 = .ok (.iinc 3 1, 3) := by decide +kernel
theorem dX12_find_28 : decode cX12_find 28 = .ok (.goto (-26), 3) := by decide +kernel
theorem dX12_find_31 : decode cX12_find 31 = .ok (.iconst (-1), 1) := by decide +kernel
theorem dX12_find_32 : decode cX12_find 32 = .ok (.ireturn, 1) := by decide +kernel
set_option maxRecDepth 20000 in
theorem ggX12_fresh_X12_isName : GoodIn wsX12_fresh wsX12_isName := goodIn_r _ [8, 9, 3, 10, 42, 43, 44, 45, 46, 47, 48, 49, 50, 51, 52, 53, 54, 55, 56, 57, 58, 59, 60, 61, 62, 63, 64, 65, 66, 67, 68, 69, 70, 71, 72, 73, 74, 75, 76, 77, 78, 79, 80, 81, 82, 83, 84, 85, 86, 87, 88, 89, 90, 91, 92, 93, 94, 95, 96, 97, 98, 99] (by decide +kernel) (by decide +kernel)
set_option maxRecDepth 20000 in
theorem gX12_fresh_X12_isName : GoodIn wsX12_fresh (wsV RX12 204 RX12 yX12_isName wsX12_isName) := goodIn_app (goodIn_of _ (by decide +kernel)) ggX12_fresh_X12_isName
set_option maxRecDepth 20000 in
theorem ggX12_fresh_X12_bad : GoodIn wsX12_fresh wsX12_bad := goodIn_r _ [14, 15, 16, 17, 42, 43, 44, 45, 46, 47, 48, 49, 50, 51, 52, 53, 54, 55, 56, 57, 58, 59, 60, 61, 62, 63, 64, 65, 66, 67, 68, 69, 70, 71, 72, 73, 74, 75, 76, 77, 78, 79, 80, 81, 82, 83, 84, 85, 86, 87, 88, 89, 90, 91, 92, 93, 94, 95, 96, 97, 98, 99] (by decide +kernel) (by decide +kernel)
set_option maxRecDepth 20000 in
theorem gX12_fresh_X12_bad : GoodIn wsX12_fresh (wsV RX12 191 RX12 yX12_bad wsX12_bad) := goodIn_app (goodIn_of _ (by decide +kernel)) ggX12_fresh_X12_bad
set_option maxRecDepth 20000 in
theorem ggX12_fresh_X12_find : GoodIn wsX12_fresh wsX12_find := goodIn_r _ [21, 2, 3, 42, 43, 44, 45, 46, 47, 48, 49, 50, 51, 52, 53, 54, 55, 56, 57, 58, 59, 60, 61, 62, 63, 64, 65, 66, 67, 68, 69, 70, 71, 72, 73, 74, 75, 76, 77, 78, 79, 80, 81, 82, 83, 84, 85, 86, 87, 88, 89, 90, 91, 92, 93, 94, 95, 96, 97, 98, 99] (by decide +kernel) (by decide +kernel)
set_option maxRecDepth 20000 in
theorem gX12_fresh_X12_find : GoodIn wsX12_fresh (wsV RX12 208 RX12 yX12_find wsX12_find) := goodIn_app (goodIn_of _ (by decide +kernel)) ggX12_fresh_X12_find
set_option maxRecDepth 20000 in
theorem ggX12_fresh_X12_skip : GoodIn wsX12_fresh wsX12_skip := goodIn_r _ [25, 26, 16, 27, 28, 29, 9, 30, 3, 31, 32, 33, 7, 34, 35, 36, 37, 38, 39, 40, 41, 42, 43, 44, 45, 46, 47, 48, 49, 50, 51, 52, 53, 54, 55, 56, 57, 58, 59, 60, 61, 62, 63, 64, 65, 66, 67, 68, 69, 70, 71, 72, 73, 74, 75, 76, 77, 78, 79, 80, 81, 82, 83, 84, 85, 86, 87, 88, 89, 90, 91, 92, 93, 94, 95, 96, 97, 98, 99] (by decide +kernel) (by decide +kernel)
set_option maxRecDepth 20000 in
theorem gX12_fresh_X12_skip : GoodIn wsX12_fresh (wsV RX12 194 RX12 yX12_skip wsX12_skip) := goodIn_app (goodIn_of _ (by decide +kernel)) ggX12_fresh_X12_skip
theorem dX12_fresh_0 : decode cX12_fresh 0 = .ok (.aload_n 0, 1) := by decide +kernel
theorem dX12_fresh_1 : decode cX12_fresh 1 = .ok (.invokevirtual 204, 3) := by decide +kernel
theorem dX12_fresh_4 : decode cX12_fresh 4 = .ok (.ifCond .ne 9, 3) := by decide +kernel
theorem dX12_fresh_7 : decode cX12_fresh 7 = .ok (.aload_n 0, 1) := by decide +kernel
theorem dX12_fresh_8 : decode cX12_fresh 8 = .ok (.iconst 1, 1) := by decide +kernel
theorem dX12_fresh_9 : decode cX12_fresh 9 = .ok (.invokevirtual 191, 3) := by decide +kernel
theorem dX12_fresh_12 : decode cX12_fresh 12 = .ok (.ireturn, 1) := by decide +kernel
theorem dX12_fresh_13 : decode cX12_fresh 13 = .ok (.aload_n 0, 1) := by decide +kernel
theorem dX12_fresh_14 : decode cX12_fresh 14 = .ok (.bipush 40, 2) := by decide +kernel
theorem dX12_fresh_16 : decode cX12_fresh 16 = .ok (.aload_n 0, 1) := by decide +kernel
theorem dX12_fresh_17 : decode cX12_fresh 17 = .ok (.getfield 37, 3) := by decide +kernel
theorem dX12_fresh_20 : decode cX12_fresh 20 = .ok (.iconst 0, 1) := by decide +kernel
theorem dX12_fresh_21 : decode cX12_fresh 21 = .ok (.iaload, 1) := by decide +kernel
theorem dX12_fresh_22 : decode cX12_fresh 22 = .ok (.invokevirtual 208, 3) := by decide +kernel
theorem dX12_fresh_25 : decode cX12_fresh 25 = .ok (.ifCond .ge 18, 3) := by decide +kernel
theorem dX12_fresh_28 : decode cX12_fresh 28 = .ok (.aload_n 0, 1) := by decide +kernel
theorem dX12_fresh_29 : decode cX12_fresh 29 = .ok (.bipush 50, 2) := by decide +kernel
theorem dX12_fresh_31 : decode cX12_fresh 31 = .ok (.aload_n 0, 1) := by decide +kernel
theorem dX12_fresh_32 : decode cX12_fresh 32 = .ok (.getfield 37, 3) := by decide +kernel
theorem dX12_fresh_35 : decode cX12_fresh 35 = .ok (.iconst 1, 1) := by decide +kernel
theorem dX12_fresh_36 : decode cX12_fresh 36 = .ok (.iaload, 1) := by decide +kernel
theorem dX12_fresh_37 : decode cX12_fresh 37 = .ok (.invokevirtual 208, 3) := by decide +kernel
theorem dX12_fresh_40 : decode cX12_fresh 40 = .ok (.ifCond .lt 9, 3) := by decide +kernel
theorem dX12_fresh_43 : decode cX12_fresh 43 = .ok (.aload_n 0, 1) := by decide +kernel
theorem dX12_fresh_44 : decode cX12_fresh 44 = .ok (.iconst 3, 1) := by decide +kernel
theorem dX12_fresh_45 : decode cX12_fresh 45 = .ok (.invokevirtual 191, 3) := by decide +kernel
theorem dX12_fresh_48 : decode cX12_fresh 48 = .ok (.ireturn, 1) := by decide +kernel
theorem dX12_fresh_49 : decode cX12_fresh 49 = .ok (.aload_n 0, 1) := by decide +kernel
theorem dX12_fresh_50 : decode cX12_fresh 50 = .ok (.getfield 46, 3) := by decide +kernel
theorem dX12_fresh_53 : decode cX12_fresh 53 = .ok (.iload_n 1, 1) := by decide +kernel
theorem dX12_fresh_54 : decode cX12_fresh 54 = .ok (.aload_n 0, 1) := by decide +kernel
theorem dX12_fresh_55 : decode cX12_fresh 55 = .ok (.getfield 178, 3) := by decide +kernel
theorem dX12_fresh_58 : decode cX12_fresh 58 = .ok (.lastore, 1) := by decide +kernel
theorem dX12_fresh_59 : decode cX12_fresh 59 = .ok (.aload_n 0, 1) := by decide +kernel
theorem dX12_fresh_60 : decode cX12_fresh 60 = .ok (.invokevirtual 194, 3) := by decide +kernel
theorem dX12_fresh_63 : decode cX12_fresh 63 = .ok (.iconst 1, 1) := by decide +kernel
theorem dX12_fresh_64 : decode cX12_fresh 64 = .ok (.ireturn, 1) := by decide +kernel
set_option maxRecDepth 20000 in
theorem ggX12_takesPerson_X12_isName : GoodIn wsX12_takesPerson wsX12_isName := goodIn_r _ [7, 8, 9, 10, 43, 44, 45, 46, 47, 48, 49, 50, 51, 52, 53, 54, 55, 56, 57, 58, 59, 60, 61, 62, 63, 64, 65, 66, 67, 68, 69, 70, 71, 72, 73, 74, 75, 76, 77, 78, 79, 80, 81, 82, 83, 84, 85, 86, 87, 88, 89, 90, 91, 92, 93, 94, 95, 96, 97, 98, 99, 100] (by decide +kernel) (by decide +kernel)
set_option maxRecDepth 20000 in
theorem gX12_takesPerson_X12_isName : GoodIn wsX12_takesPerson (wsV RX12 204 RX12 yX12_isName wsX12_isName) := goodIn_app (goodIn_of _ (by decide +kernel)) ggX12_takesPerson_X12_isName
set_option maxRecDepth 20000 in
theorem ggX12_takesPerson_X12_bad : GoodIn wsX12_takesPerson wsX12_bad := goodIn_r _ [14, 15, 16, 17, 43, 44, 45, 46, 47, 48, 49, 50, 51, 52, 53, 54, 55, 56, 57, 58, 59, 60, 61, 62, 63, 64, 65, 66, 67, 68, 69, 70, 71, 72, 73, 74, 75, 76, 77, 78, 79, 80, 81, 82, 83, 84, 85, 86, 87, 88, 89, 90, 91, 92, 93, 94, 95, 96, 97, 98, 99, 100] (by decide +kernel) (by decide +kernel)
set_option maxRecDepth 20000 in
theorem gX12_takesPerson_X12_bad : GoodIn wsX12_takesPerson (wsV RX12 191 RX12 yX12_bad wsX12_bad) := goodIn_app (goodIn_of _ (by decide +kernel)) ggX12_takesPerson_X12_bad
set_option maxRecDepth 20000 in
theorem ggX12_takesPerson_X12_find : GoodIn wsX12_takesPerson wsX12_find := goodIn_r _ [21, 22, 9, 43, 44, 45, 46, 47, 48, 49, 50, 51, 52, 53, 54, 55, 56, 57, 58, 59, 60, 61, 62, 63, 64, 65, 66, 67, 68, 69, 70, 71, 72, 73, 74, 75, 76, 77, 78, 79, 80, 81, 82, 83, 84, 85, 86, 87, 88, 89, 90, 91, 92, 93, 94, 95, 96, 97, 98, 99, 100] (by decide +kernel) (by decide +kernel)
set_option maxRecDepth 20000 in
theorem gX12_takesPerson_X12_find : GoodIn wsX12_takesPerson (wsV RX12 208 RX12 yX12_find wsX12_find) := goodIn_app (goodIn_of _ (by decide +kernel)) ggX12_takesPerson_X12_find
set_option maxRecDepth 20000 in
theorem ggX12_takesPerson_X12_skip : GoodIn wsX12_takesPerson wsX12_skip := goodIn_r _ [26, 27, 16, 28, 29, 30, 8, 31, 9, 32, 33, 34, 6, 35, 36, 37, 38, 39, 40, 41, 42, 43, 44, 45, 46, 47, 48, 49, 50, 51, 52, 53, 54, 55, 56, 57, 58, 59, 60, 61, 62, 63, 64, 65, 66, 67, 68, 69, 70, 71, 72, 73, 74, 75, 76, 77, 78, 79, 80, 81, 82, 83, 84, 85, 86, 87, 88, 89, 90, 91, 92, 93, 94, 95, 96, 97, 98, 99, 100] (by decide +kernel) (by decide +kernel)
set_option maxRecDepth 20000 in
theorem gX12_takesPerson_X12_skip : GoodIn wsX12_takesPerson (wsV RX12 194 RX12 yX12_skip wsX12_skip) := goodIn_app (goodIn_of _ (by decide +kernel)) ggX12_takesPerson_X12_skip
theorem dX12_takesPerson_0 : decode cX12_takesPerson 0 = .ok (.aload_n 0, 1) := by decide +kernel
theorem dX12_takesPerson_1 : decode cX12_takesPerson 1 = .ok (.invokevirtual 204, 3) := by decide +kernel
theorem dX12_takesPerson_4 : decode cX12_takesPerson 4 = .ok (.ifCond .ne 9, 3) := by decide +kernel
theorem dX12_takesPerson_7 : decode cX12_takesPerson 7 = .ok (.aload_n 0, 1) := by decide +kernel
theorem dX12_takesPerson_8 : decode cX12_takesPerson 8 = .ok (.iconst 1, 1) := by decide +kernel
theorem dX12_takesPerson_9 : decode cX12_takesPerson 9 = .ok (.invokevirtual 191, 3) := by decide +kernel
theorem dX12_takesPerson_12 : decode cX12_takesPerson 12 = .ok (.ireturn, 1) := by decide +kernel
theorem dX12_takesPerson_13 : decode cX12_takesPerson 13 = .ok (.aload_n 0, 1) := by decide +kernel
theorem dX12_takesPerson_14 : decode cX12_takesPerson 14 = .ok (.aload_n 0, 1) := by decide +kernel
theorem dX12_takesPerson_15 : decode cX12_takesPerson 15 = .ok (.bipush 40, 2) := by decide +kernel
theorem dX12_takesPerson_17 : decode cX12_takesPerson 17 = .ok (.aload_n 0, 1) := by decide +kernel
theorem dX12_takesPerson_18 : decode cX12_takesPerson 18 = .ok (.getfield 37, 3) := by decide +kernel
theorem dX12_takesPerson_21 : decode cX12_takesPerson 21 = .ok (.iconst 0, 1) := by decide +kernel
theorem dX12_takesPerson_22 : decode cX12_takesPerson 22 = .ok (.iaload, 1) := by decide +kernel
theorem dX12_takesPerson_23 : decode cX12_takesPerson 23 = .ok (.invokevirtual 208, 3) := by decide +kernel
theorem dX12_takesPerson_26 : decode cX12_takesPerson 26 = .ok (.putfield 201, 3) := by decide +kernel
theorem dX12_takesPerson_29 : decode cX12_takesPerson 29 = .ok (.aload_n 0, 1) := by decide +kernel
theorem dX12_takesPerson_30 : decode cX12_takesPerson 30 = .ok (.getfield 201, 3) := by decide +kernel
theorem dX12_takesPerson_33 : decode cX12_takesPerson 33 = .ok (.ifCond .lt 11, 3) := by decide +kernel
theorem dX12_takesPerson_36 : decode cX12_takesPerson 36 = .ok (.aload_n 0, 1) := by decide +kernel
theorem dX12_takesPerson_37 : decode cX12_takesPerson 37 = .ok (.getfield 201, 3) := by decide +kernel
theorem dX12_takesPerson_40 : decode cX12_takesPerson 40 = .ok (.iload_n 1, 1) := by decide +kernel
theorem dX12_takesPerson_41 : decode cX12_takesPerson 41 = .ok (.if_icmp .ne 9, 3) := by decide +kernel
theorem dX12_takesPerson_44 : decode cX12_takesPerson 44 = .ok (.aload_n 0, 1) := by decide +kernel
theorem dX12_takesPerson_45 : decode cX12_takesPerson 45 = .ok (.iconst 3, 1) := by decide +kernel
theorem dX12_takesPerson_46 : decode cX12_takesPerson 46 = .ok (.invokevirtual 191, 3) := by decide +kernel
theorem dX12_takesPerson_49 : decode cX12_takesPerson 49 = .ok (.ireturn, 1) := by decide +kernel
theorem dX12_takesPerson_50 : decode cX12_takesPerson 50 = .ok (.aload_n 0, 1) := by decide +kernel
theorem dX12_takesPerson_51 : decode cX12_takesPerson 51 = .ok (.invokevirtual 194, 3) := by decide +kernel
theorem dX12_takesPerson_54 : decode cX12_takesPerson 54 = .ok (.iconst 1, 1) := by decide +kernel
theorem dX12_takesPerson_55 : decode cX12_takesPerson 55 = .ok (.ireturn, 1) := by decide +kernel
set_option maxRecDepth 20000 in
theorem ggX12_line_X12_isWord : GoodIn wsX12_line wsX12_isWord := goodIn_r _ [15, 16, 17, 89, 90, 91, 92, 93, 94, 95, 96, 97, 98, 99, 100, 101, 102, 103, 104, 105, 106, 107, 108, 109, 110, 111, 112, 113, 114, 115, 116, 117, 118, 119, 120, 121, 122, 123, 124, 125, 126, 127, 128, 129, 130, 131, 132, 133, 134, 135, 136, 137, 138, 139, 140, 141, 142, 143, 144, 145, 146] (by decide +kernel) (by decide +kernel)
set_option maxRecDepth 20000 in
theorem gX12_line_X12_isWord : GoodIn wsX12_line (wsV RX12 212 RX12 yX12_isWord wsX12_isWord) := goodIn_app (goodIn_of _ (by decide +kernel)) ggX12_line_X12_isWord
set_option maxRecDepth 20000 in
theorem ggX12_line_X12_bad : GoodIn wsX12_line wsX12_bad := goodIn_r _ [21, 22, 23, 24, 89, 90, 91, 92, 93, 94, 95, 96, 97, 98, 99, 100, 101, 102, 103, 104, 105, 106, 107, 108, 109, 110, 111, 112, 113, 114, 115, 116, 117, 118, 119, 120, 121, 122, 123, 124, 125, 126, 127, 128, 129, 130, 131, 132, 133, 134, 135, 136, 137, 138, 139, 140, 141, 142, 143, 144, 145, 146] (by decide +kernel) (by decide +kernel)
set_option maxRecDepth 20000 in
theorem gX12_line_X12_bad : GoodIn wsX12_line (wsV RX12 191 RX12 yX12_bad wsX12_bad) := goodIn_app (goodIn_of _ (by decide +kernel)) ggX12_line_X12_bad
set_option maxRecDepth 20000 in
theorem ggX12_line_X12_skip : GoodIn wsX12_line wsX12_skip := goodIn_r _ [28, 29, 23, 30, 31, 32, 16, 33, 17, 34, 35, 36, 14, 37, 38, 39, 40, 41, 42, 43, 44, 89, 90, 91, 92, 93, 94, 95, 96, 97, 98, 99, 100, 101, 102, 103, 104, 105, 106, 107, 108, 109, 110, 111, 112, 113, 114, 115, 116, 117, 118, 119, 120, 121, 122, 123, 124, 125, 126, 127, 128, 129, 130, 131, 132, 133, 134, 135, 136, 137, 138, 139, 140, 141, 142, 143, 144, 145, 146] (by decide +kernel) (by decide +kernel)
set_option maxRecDepth 20000 in
theorem gX12_line_X12_skip : GoodIn wsX12_line (wsV RX12 194 RX12 yX12_skip wsX12_skip) := goodIn_app (goodIn_of _ (by decide +kernel)) ggX12_line_X12_skip
set_option maxRecDepth 20000 in
theorem ggX12_line_X12_fresh : GoodIn wsX12_line wsX12_fresh := goodIn_r _ [48, 2, 49, 17, 50, 51, 52, 14, 53, 16, 54, 18, 19, 20, 21, 22, 23, 24, 55, 56, 57, 58, 25, 26, 27, 28, 29, 30, 31, 32, 33, 34, 35, 36, 37, 38, 39, 40, 41, 42, 43, 44, 89, 90, 91, 92, 93, 94, 95, 96, 97, 98, 99, 100, 101, 102, 103, 104, 105, 106, 107, 108, 109, 110, 111, 112, 113, 114, 115, 116, 117, 118, 119, 120, 121, 122, 123, 124, 125, 126, 127, 128, 129, 130, 131, 132, 133, 134, 135, 136, 137, 138, 139, 140, 141, 142, 143, 144, 145, 146] (by decide +kernel) (by decide +kernel)
set_option maxRecDepth 20000 in
theorem gX12_line_X12_fresh : GoodIn wsX12_line (wsV RX12 216 RX12 yX12_fresh wsX12_fresh) := goodIn_app (goodIn_of _ (by decide +kernel)) ggX12_line_X12_fresh
set_option maxRecDepth 20000 in
theorem ggX12_line_X12_takes : GoodIn wsX12_line wsX12_takes := goodIn_r _ [62, 16, 33, 3, 18, 19, 20, 14, 21, 22, 23, 24, 63, 64, 65, 25, 26, 27, 28, 29, 30, 31, 32, 17, 34, 35, 36, 37, 38, 39, 40, 41, 42, 43, 44, 89, 90, 91, 92, 93, 94, 95, 96, 97, 98, 99, 100, 101, 102, 103, 104, 105, 106, 107, 108, 109, 110, 111, 112, 113, 114, 115, 116, 117, 118, 119, 120, 121, 122, 123, 124, 125, 126, 127, 128, 129, 130, 131, 132, 133, 134, 135, 136, 137, 138, 139, 140, 141, 142, 143, 144, 145, 146] (by decide +kernel) (by decide +kernel)
set_option maxRecDepth 20000 in
theorem gX12_line_X12_takes : GoodIn wsX12_line (wsV RX12 219 RX12 yX12_takes wsX12_takes) := goodIn_app (goodIn_of _ (by decide +kernel)) ggX12_line_X12_takes
set_option maxRecDepth 20000 in
theorem ggX12_line_X12_toldOf : GoodIn wsX12_line wsX12_toldOf := goodIn_r _ [69, 2, 3, 25, 26, 27, 14, 28, 29, 23, 30, 31, 32, 16, 33, 17, 34, 35, 36, 37, 38, 39, 40, 41, 42, 43, 44, 50, 51, 52, 53, 54, 18, 19, 20, 21, 22, 24, 55, 56, 57, 58, 49, 70, 71, 72, 89, 90, 91, 92, 93, 94, 95, 96, 97, 98, 99, 100, 101, 102, 103, 104, 105, 106, 107, 108, 109, 110, 111, 112, 113, 114, 115, 116, 117, 118, 119, 120, 121, 122, 123, 124, 125, 126, 127, 128, 129, 130, 131, 132, 133, 134, 135, 136, 137, 138, 139, 140, 141, 142, 143, 144, 145, 146] (by decide +kernel) (by decide +kernel)
set_option maxRecDepth 20000 in
theorem gX12_line_X12_toldOf : GoodIn wsX12_line (wsV RX12 226 RX12 yX12_toldOf wsX12_toldOf) := goodIn_app (goodIn_of _ (by decide +kernel)) ggX12_line_X12_toldOf
set_option maxRecDepth 20000 in
theorem ggX12_line_X12_readDeal : GoodIn wsX12_line wsX12_readDeal := goodIn_r _ [76, 2, 3, 77, 18, 19, 20, 14, 21, 22, 23, 24, 25, 26, 27, 28, 29, 30, 31, 32, 16, 33, 17, 34, 35, 36, 37, 38, 39, 40, 41, 42, 43, 44, 45, 46, 47, 48, 49, 50, 51, 52, 53, 54, 55, 56, 57, 58, 78, 79, 80, 81, 59, 60, 61, 62, 63, 64, 65, 11, 12, 13, 15, 89, 90, 91, 92, 93, 94, 95, 96, 97, 98, 99, 100, 101, 102, 103, 104, 105, 106, 107, 108, 109, 110, 111, 112, 113, 114, 115, 116, 117, 118, 119, 120, 121, 122, 123, 124, 125, 126, 127, 128, 129, 130, 131, 132, 133, 134, 135, 136, 137, 138, 139, 140, 141, 142, 143, 144, 145, 146] (by decide +kernel) (by decide +kernel)
set_option maxRecDepth 20000 in
theorem gX12_line_X12_readDeal : GoodIn wsX12_line (wsV RX12 229 RX12 yX12_readDeal wsX12_readDeal) := goodIn_app (goodIn_of _ (by decide +kernel)) ggX12_line_X12_readDeal
set_option maxRecDepth 20000 in
theorem ggX12_line_X12_readLaw : GoodIn wsX12_line wsX12_readLaw := goodIn_r _ [85, 86, 87, 88, 2, 3, 18, 19, 20, 14, 21, 22, 23, 24, 25, 26, 27, 28, 29, 30, 31, 32, 16, 33, 17, 34, 35, 36, 37, 38, 39, 40, 41, 42, 43, 44, 11, 12, 13, 15, 59, 60, 61, 62, 63, 64, 65, 89, 90, 91, 92, 93, 94, 95, 96, 97, 98, 99, 100, 101, 102, 103, 104, 105, 106, 107, 108, 109, 110, 111, 112, 113, 114, 115, 116, 117, 118, 119, 120, 121, 122, 123, 124, 125, 126, 127, 128, 129, 130, 131, 132, 133, 134, 135, 136, 137, 138, 139, 140, 141, 142, 143, 144, 145, 146] (by decide +kernel) (by decide +kernel)
set_option maxRecDepth 20000 in
theorem gX12_line_X12_readLaw : GoodIn wsX12_line (wsV RX12 232 RX12 yX12_readLaw wsX12_readLaw) := goodIn_app (goodIn_of _ (by decide +kernel)) ggX12_line_X12_readLaw
theorem dX12_line_0 : decode cX12_line 0 = .ok (.aload_n 0, 1) := by decide +kernel
theorem dX12_line_1 : decode cX12_line 1 = .ok (.ldc2_w 129, 3) := by decide +kernel
theorem dX12_line_4 : decode cX12_line 4 = .ok (.invokevirtual 212, 3) := by decide +kernel
theorem dX12_line_7 : decode cX12_line 7 = .ok (.ifCond .eq 114, 3) := by decide +kernel
theorem dX12_line_10 : decode cX12_line 10 = .ok (.aload_n 0, 1) := by decide +kernel
theorem dX12_line_11 : decode cX12_line 11 = .ok (.getfield 37, 3) := by decide +kernel
theorem dX12_line_14 : decode cX12_line 14 = .ok (.iconst 0, 1) := by decide +kernel
theorem dX12_line_15 : decode cX12_line 15 = .ok (.iaload, 1) := by decide +kernel
theorem dX12_line_16 : decode cX12_line 16 = .ok (.istore_n 1, 1) := by decide +kernel
theorem dX12_line_17 : decode cX12_line 17 = .ok (.iload_n 1, 1) := by decide +kernel
theorem dX12_line_18 : decode cX12_line 18 = .ok (.bipush 10, 2) := by decide +kernel
theorem dX12_line_20 : decode cX12_line 20 = .ok (.if_icmp .ne 9, 3) := by decide +kernel
theorem dX12_line_23 : decode cX12_line 23 = .ok (.aload_n 0, 1) := by decide +kernel
theorem dX12_line_24 : decode cX12_line 24 = .ok (.iconst 4, 1) := by decide +kernel
theorem dX12_line_25 : decode cX12_line 25 = .ok (.invokevirtual 191, 3) := by decide +kernel
theorem dX12_line_28 : decode cX12_line 28 = .ok (.ireturn, 1) := by decide +kernel
theorem dX12_line_29 : decode cX12_line 29 = .ok (.aload_n 0, 1) := by decide +kernel
theorem dX12_line_30 : decode cX12_line 30 = .ok (.invokevirtual 194, 3) := by decide +kernel
theorem dX12_line_33 : decode cX12_line 33 = .ok (.aload_n 0, 1) := by decide +kernel
theorem dX12_line_34 : decode cX12_line 34 = .ok (.bipush 40, 2) := by decide +kernel
theorem dX12_line_36 : decode cX12_line 36 = .ok (.iload_n 1, 1) := by decide +kernel
theorem dX12_line_37 : decode cX12_line 37 = .ok (.iadd, 1) := by decide +kernel
theorem dX12_line_38 : decode cX12_line 38 = .ok (.invokevirtual 216, 3) := by decide +kernel
theorem dX12_line_41 : decode cX12_line 41 = .ok (.ifCond .ne 5, 3) := by decide +kernel
theorem dX12_line_44 : decode cX12_line 44 = .ok (.iconst 0, 1) := by decide +kernel
theorem dX12_line_45 : decode cX12_line 45 = .ok (.ireturn, 1) := by decide +kernel
theorem dX12_line_46 : decode cX12_line 46 = .ok (.aload_n 0, 1) := by decide +kernel
theorem dX12_line_47 : decode cX12_line 47 = .ok (.iconst 0, 1) := by decide +kernel
theorem dX12_line_48 : decode cX12_line 48 = .ok (.bipush 59, 2) := by decide +kernel
theorem dX12_line_50 : decode cX12_line 50 = .ok (.invokevirtual 219, 3) := by decide +kernel
theorem dX12_line_53 : decode cX12_line 53 = .ok (.ifCond .ne 5, 3) := by decide +kernel
theorem dX12_line_56 : decode cX12_line 56 = .ok (.iconst 0, 1) := by decide +kernel
theorem dX12_line_57 : decode cX12_line 57 = .ok (.ireturn, 1) := by decide +kernel
theorem dX12_line_58 : decode cX12_line 58 = .ok (.aload_n 0, 1) := by decide +kernel
theorem dX12_line_59 : decode cX12_line 59 = .ok (.getfield 37, 3) := by decide +kernel
theorem dX12_line_62 : decode cX12_line 62 = .ok (.iconst 4, 1) := by decide +kernel
theorem dX12_line_63 : decode cX12_line 63 = .ok (.iload_n 1, 1) := by decide +kernel
theorem dX12_line_64 : decode cX12_line 64 = .ok (.iadd, 1) := by decide +kernel
theorem dX12_line_65 : decode cX12_line 65 = .ok (.aload_n 0, 1) := by decide +kernel
theorem dX12_line_66 : decode cX12_line 66 = .ok (.getfield 201, 3) := by decide +kernel
theorem dX12_line_69 : decode cX12_line 69 = .ok (.iastore, 1) := by decide +kernel
theorem dX12_line_70 : decode cX12_line 70 = .ok (.aload_n 0, 1) := by decide +kernel
theorem dX12_line_71 : decode cX12_line 71 = .ok (.aload_n 0, 1) := by decide +kernel
theorem dX12_line_72 : decode cX12_line 72 = .ok (.getfield 201, 3) := by decide +kernel
theorem dX12_line_75 : decode cX12_line 75 = .ok (.bipush 59, 2) := by decide +kernel
theorem dX12_line_77 : decode cX12_line 77 = .ok (.invokevirtual 219, 3) := by decide +kernel
theorem dX12_line_80 : decode cX12_line 80 = .ok (.ifCond .ne 5, 3) := by decide +kernel
theorem dX12_line_83 : decode cX12_line 83 = .ok (.iconst 0, 1) := by decide +kernel
theorem dX12_line_84 : decode cX12_line 84 = .ok (.ireturn, 1) := by decide +kernel
theorem dX12_line_85 : decode cX12_line 85 = .ok (.aload_n 0, 1) := by decide +kernel
theorem dX12_line_86 : decode cX12_line 86 = .ok (.getfield 37, 3) := by decide +kernel
theorem dX12_line_89 : decode cX12_line 89 = .ok (.bipush 14, 2) := by decide +kernel
theorem dX12_line_91 : decode cX12_line 91 = .ok (.iload_n 1, 1) := by decide +kernel
theorem dX12_line_92 : decode cX12_line 92 = .ok (.iadd, 1) := by decide +kernel
theorem dX12_line_93 : decode cX12_line 93 = .ok (.aload_n 0, 1) := by decide +kernel
theorem dX12_line_94 : decode cX12_line 94 = .ok (.getfield 201, 3) := by decide +kernel
theorem dX12_line_97 : decode cX12_line 97 = .ok (.iastore, 1) := by decide +kernel
theorem dX12_line_98 : decode cX12_line 98 = .ok (.aload_n 0, 1) := by decide +kernel
theorem dX12_line_99 : decode cX12_line 99 = .ok (.getfield 37, 3) := by decide +kernel
theorem dX12_line_102 : decode cX12_line 102 = .ok (.bipush 24, 2) := by decide +kernel
theorem dX12_line_104 : decode cX12_line 104 = .ok (.iload_n 1, 1) := by decide +kernel
theorem dX12_line_105 : decode cX12_line 105 = .ok (.iadd, 1) := by decide +kernel
theorem dX12_line_106 : decode cX12_line 106 = .ok (.bipush 9, 2) := by decide +kernel
theorem dX12_line_108 : decode cX12_line 108 = .ok (.iastore, 1) := by decide +kernel
theorem dX12_line_109 : decode cX12_line 109 = .ok (.aload_n 0, 1) := by decide +kernel
theorem dX12_line_110 : decode cX12_line 110 = .ok (.getfield 37, 3) := by decide +kernel
theorem dX12_line_113 : decode cX12_line 113 = .ok (.iconst 0, 1) := by decide +kernel
theorem dX12_line_114 : decode cX12_line 114 = .ok (.dup2, 1) := by decide +kernel
theorem dX12_line_115 : decode cX12_line 115 = .ok (.iaload, 1) := by decide +kernel
theorem dX12_line_116 : decode cX12_line 116 = .ok (.iconst 1, 1) := by decide +kernel
theorem dX12_line_117 : decode cX12_line 117 = .ok (.iadd, 1) := by decide +kernel
theorem dX12_line_118 : decode cX12_line 118 = .ok (.iastore, 1) := by decide +kernel
theorem dX12_line_119 : decode cX12_line 119 = .ok (.iconst 1, 1) := by decide +kernel
theorem dX12_line_120 : decode cX12_line 120 = .ok (.ireturn, 1) := by decide +kernel
theorem dX12_line_121 : decode cX12_line 121 = .ok (.aload_n 0, 1) := by decide +kernel
theorem dX12_line_122 : decode cX12_line 122 = .ok (.ldc2_w 131, 3) := by decide +kernel
theorem dX12_line_125 : decode cX12_line 125 = .ok (.invokevirtual 212, 3) := by decide +kernel
theorem dX12_line_128 : decode cX12_line 128 = .ok (.ifCond .eq 60, 3) := by decide +kernel
theorem dX12_line_131 : decode cX12_line 131 = .ok (.aload_n 0, 1) := by decide +kernel
theorem dX12_line_132 : decode cX12_line 132 = .ok (.aload_n 0, 1) := by decide +kernel
theorem dX12_line_133 : decode cX12_line 133 = .ok (.getfield 223, 3) := by decide +kernel
theorem dX12_line_136 : decode cX12_line 136 = .ok (.invokevirtual 226, 3) := by decide +kernel
theorem dX12_line_139 : decode cX12_line 139 = .ok (.ifCond .ne 5, 3) := by decide +kernel
theorem dX12_line_142 : decode cX12_line 142 = .ok (.iconst 0, 1) := by decide +kernel
theorem dX12_line_143 : decode cX12_line 143 = .ok (.ireturn, 1) := by decide +kernel
theorem dX12_line_144 : decode cX12_line 144 = .ok (.aload_n 0, 1) := by decide +kernel
theorem dX12_line_145 : decode cX12_line 145 = .ok (.getfield 201, 3) := by decide +kernel
theorem dX12_line_148 : decode cX12_line 148 = .ok (.istore_n 1, 1) := by decide +kernel
theorem dX12_line_149 : decode cX12_line 149 = .ok (.aload_n 0, 1) := by decide +kernel
theorem dX12_line_150 : decode cX12_line 150 = .ok (.dup, 1) := by decide +kernel
theorem dX12_line_151 : decode cX12_line 151 = .ok (.getfield 223, 3) := by decide +kernel
theorem dX12_line_154 : decode cX12_line 154 = .ok (.iconst 1, 1) := by decide +kernel
theorem dX12_line_155 : decode cX12_line 155 = .ok (.iload_n 1, 1) := by decide +kernel
theorem dX12_line_156 : decode cX12_line 156 = .ok (.ishl, 1) := by decide +kernel
theorem dX12_line_157 : decode cX12_line 157 = .ok (.ior, 1) := by decide +kernel
theorem dX12_line_158 : decode cX12_line 158 = .ok (.putfield 223, 3) := by decide +kernel
theorem dX12_line_161 : decode cX12_line 161 = .ok (.aload_n 0, 1) := by decide +kernel
theorem dX12_line_162 : decode cX12_line 162 = .ok (.iconst 0, 1) := by decide +kernel
theorem dX12_line_163 : decode cX12_line 163 = .ok (.bipush 9, 2) := by decide +kernel
theorem dX12_line_165 : decode cX12_line 165 = .ok (.invokevirtual 219, 3) := by decide +kernel
theorem dX12_line_168 : decode cX12_line 168 = .ok (.ifCond .ne 5, 3) := by decide +kernel
theorem dX12_line_171 : decode cX12_line 171 = .ok (.iconst 0, 1) := by decide +kernel
theorem dX12_line_172 : decode cX12_line 172 = .ok (.ireturn, 1) := by decide +kernel
theorem dX12_line_173 : decode cX12_line 173 = .ok (.aload_n 0, 1) := by decide +kernel
theorem dX12_line_174 : decode cX12_line 174 = .ok (.getfield 37, 3) := by decide +kernel
theorem dX12_line_177 : decode cX12_line 177 = .ok (.bipush 24, 2) := by decide +kernel
theorem dX12_line_179 : decode cX12_line 179 = .ok (.iload_n 1, 1) := by decide +kernel
theorem dX12_line_180 : decode cX12_line 180 = .ok (.iadd, 1) := by decide +kernel
theorem dX12_line_181 : decode cX12_line 181 = .ok (.aload_n 0, 1) := by decide +kernel
theorem dX12_line_182 : decode cX12_line 182 = .ok (.getfield 201, 3) := by decide +kernel
theorem dX12_line_185 : decode cX12_line 185 = .ok (.iastore, 1) := by decide +kernel
theorem dX12_line_186 : decode cX12_line 186 = .ok (.iconst 1, 1) := by decide +kernel
theorem dX12_line_187 : decode cX12_line 187 = .ok (.ireturn, 1) := by decide +kernel
theorem dX12_line_188 : decode cX12_line 188 = .ok (.aload_n 0, 1) := by decide +kernel
theorem dX12_line_189 : decode cX12_line 189 = .ok (.ldc2_w 133, 3) := by decide +kernel
theorem dX12_line_192 : decode cX12_line 192 = .ok (.invokevirtual 212, 3) := by decide +kernel
theorem dX12_line_195 : decode cX12_line 195 = .ok (.ifCond .eq 8, 3) := by decide +kernel
theorem dX12_line_198 : decode cX12_line 198 = .ok (.aload_n 0, 1) := by decide +kernel
theorem dX12_line_199 : decode cX12_line 199 = .ok (.invokevirtual 229, 3) := by decide +kernel
theorem dX12_line_202 : decode cX12_line 202 = .ok (.ireturn, 1) := by decide +kernel
theorem dX12_line_203 : decode cX12_line 203 = .ok (.aload_n 0, 1) := by decide +kernel
theorem dX12_line_204 : decode cX12_line 204 = .ok (.ldc2_w 137, 3) := by decide +kernel
theorem dX12_line_207 : decode cX12_line 207 = .ok (.invokevirtual 212, 3) := by decide +kernel
theorem dX12_line_210 : decode cX12_line 210 = .ok (.ifCond .eq 8, 3) := by decide +kernel
theorem dX12_line_213 : decode cX12_line 213 = .ok (.aload_n 0, 1) := by decide +kernel
theorem dX12_line_214 : decode cX12_line 214 = .ok (.invokevirtual 232, 3) := by decide +kernel
theorem dX12_line_217 : decode cX12_line 217 = .ok (.ireturn, 1) := by decide +kernel
theorem dX12_line_218 : decode cX12_line 218 = .ok (.aload_n 0, 1) := by decide +kernel
theorem dX12_line_219 : decode cX12_line 219 = .ok (.ldc2_w 143, 3) := by decide +kernel
theorem dX12_line_222 : decode cX12_line 222 = .ok (.invokevirtual 212, 3) := by decide +kernel
theorem dX12_line_225 : decode cX12_line 225 = .ok (.ifCond .ne 9, 3) := by decide +kernel
theorem dX12_line_228 : decode cX12_line 228 = .ok (.aload_n 0, 1) := by decide +kernel
theorem dX12_line_229 : decode cX12_line 229 = .ok (.iconst 1, 1) := by decide +kernel
theorem dX12_line_230 : decode cX12_line 230 = .ok (.invokevirtual 191, 3) := by decide +kernel
theorem dX12_line_233 : decode cX12_line 233 = .ok (.ireturn, 1) := by decide +kernel
theorem dX12_line_234 : decode cX12_line 234 = .ok (.iconst 0, 1) := by decide +kernel
theorem dX12_line_235 : decode cX12_line 235 = .ok (.istore_n 1, 1) := by decide +kernel
theorem dX12_line_236 : decode cX12_line 236 = .ok (.iconst 0, 1) := by decide +kernel
theorem dX12_line_237 : decode cX12_line 237 = .ok (.istore_n 2, 1) := by decide +kernel
theorem dX12_line_238 : decode cX12_line 238 = .ok (.iload_n 2, 1) := by decide +kernel
theorem dX12_line_239 : decode cX12_line 239 = .ok (.aload_n 0, 1) := by decide +kernel
theorem dX12_line_240 : decode cX12_line 240 = .ok (.getfield 37, 3) := by decide +kernel
theorem dX12_line_243 : decode cX12_line 243 = .ok (.iconst 0, 1) := by decide +kernel
theorem dX12_line_244 : decode cX12_line 244 = .ok (.iaload, 1) := by decide +kernel
theorem dX12_line_245 : decode cX12_line 245 = .ok (.if_icmp .ge 31, 3) := by decide +kernel
theorem dX12_line_248 : decode cX12_line 248 = .ok (.iload_n 1, 1) := by decide +kernel
theorem dX12_line_249 : decode cX12_line 249 = .ok (.aload_n 0, 1) := by decide +kernel
theorem dX12_line_250 : decode cX12_line 250 = .ok (.getfield 37, 3) := by decide +kernel
theorem dX12_line_253 : decode cX12_line 253 = .ok (.bipush 34, 2) := by decide +kernel
theorem dX12_line_255 : decode cX12_line 255 = .ok (.iload_n 2, 1) := by decide +kernel
theorem dX12_line_256 : decode cX12_line 256 = .ok (.iadd, 1) := by decide +kernel
theorem dX12_line_257 : decode cX12_line 257 = .ok (.iaload, 1) := by decide +kernel
theorem dX12_line_258 : decode cX12_line 258 = .ok (.ifCond .le 9, 3) := by decide +kernel
theorem dX12_line_261 : decode cX12_line 261 = .ok (.iconst 1, 1) := by decide +kernel
theorem dX12_line_262 : decode cX12_line 262 = .ok (.iload_n 2, 1) := by decide +kernel
theorem dX12_line_263 : decode cX12_line 263 = .ok (.ishl, 1) := by decide +kernel
theorem dX12_line_264 : decode cX12_line 264 = .ok (.goto 4, 3) := by decide +kernel
theorem dX12_line_267 : decode cX12_line 267 = .ok (.iconst 0, 1) := by decide +kernel
theorem dX12_line_268 : decode cX12_line 268 = .ok (.ior, 1) := by decide +kernel
theorem dX12_line_269 : decode cX12_line 269 = .ok (.istore_n 1, 1) := by decide +kernel
theorem dX12_line_270 : decode cX12_line 270 = .ok (.iinc 2 1, 3) := by decide +kernel
theorem dX12_line_273 : decode cX12_line 273 = .ok (.goto (-35), 3) := by decide +kernel
theorem dX12_line_276 : decode cX12_line 276 = .ok (.aload_n 0, 1) := by decide +kernel
theorem dX12_line_277 : decode cX12_line 277 = .ok (.iload_n 1, 1) := by decide +kernel
theorem dX12_line_278 : decode cX12_line 278 = .ok (.invokevirtual 226, 3) := by decide +kernel
theorem dX12_line_281 : decode cX12_line 281 = .ok (.ifCond .ne 5, 3) := by decide +kernel
theorem dX12_line_284 : decode cX12_line 284 = .ok (.iconst 0, 1) := by decide +kernel
theorem dX12_line_285 : decode cX12_line 285 = .ok (.ireturn, 1) := by decide +kernel
theorem dX12_line_286 : decode cX12_line 286 = .ok (.aload_n 0, 1) := by decide +kernel
theorem dX12_line_287 : decode cX12_line 287 = .ok (.ldc2_w 145, 3) := by decide +kernel
theorem dX12_line_290 : decode cX12_line 290 = .ok (.invokevirtual 212, 3) := by decide +kernel
theorem dX12_line_293 : decode cX12_line 293 = .ok (.ifCond .ne 19, 3) := by decide +kernel
theorem dX12_line_296 : decode cX12_line 296 = .ok (.aload_n 0, 1) := by decide +kernel
theorem dX12_line_297 : decode cX12_line 297 = .ok (.ldc2_w 147, 3) := by decide +kernel
theorem dX12_line_300 : decode cX12_line 300 = .ok (.invokevirtual 212, 3) := by decide +kernel
theorem dX12_line_303 : decode cX12_line 303 = .ok (.ifCond .ne 9, 3) := by decide +kernel
theorem dX12_line_306 : decode cX12_line 306 = .ok (.aload_n 0, 1) := by decide +kernel
theorem dX12_line_307 : decode cX12_line 307 = .ok (.iconst 1, 1) := by decide +kernel
theorem dX12_line_308 : decode cX12_line 308 = .ok (.invokevirtual 191, 3) := by decide +kernel
theorem dX12_line_311 : decode cX12_line 311 = .ok (.ireturn, 1) := by decide +kernel
theorem dX12_line_312 : decode cX12_line 312 = .ok (.aload_n 0, 1) := by decide +kernel
theorem dX12_line_313 : decode cX12_line 313 = .ok (.getfield 37, 3) := by decide +kernel
theorem dX12_line_316 : decode cX12_line 316 = .ok (.bipush 34, 2) := by decide +kernel
theorem dX12_line_318 : decode cX12_line 318 = .ok (.aload_n 0, 1) := by decide +kernel
theorem dX12_line_319 : decode cX12_line 319 = .ok (.getfield 201, 3) := by decide +kernel
theorem dX12_line_322 : decode cX12_line 322 = .ok (.iadd, 1) := by decide +kernel
theorem dX12_line_323 : decode cX12_line 323 = .ok (.aload_n 0, 1) := by decide +kernel
theorem dX12_line_324 : decode cX12_line 324 = .ok (.ldc2_w 145, 3) := by decide +kernel
theorem dX12_line_327 : decode cX12_line 327 = .ok (.invokevirtual 212, 3) := by decide +kernel
theorem dX12_line_330 : decode cX12_line 330 = .ok (.ifCond .eq 7, 3) := by decide +kernel
theorem dX12_line_333 : decode cX12_line 333 = .ok (.iconst 2, 1) := by decide +kernel
theorem dX12_line_334 : decode cX12_line 334 = .ok (.goto 4, 3) := by decide +kernel
theorem dX12_line_337 : decode cX12_line 337 = .ok (.iconst 1, 1) := by decide +kernel
theorem dX12_line_338 : decode cX12_line 338 = .ok (.iastore, 1) := by decide +kernel
theorem dX12_line_339 : decode cX12_line 339 = .ok (.aload_n 0, 1) := by decide +kernel
theorem dX12_line_340 : decode cX12_line 340 = .ok (.invokevirtual 194, 3) := by decide +kernel
theorem dX12_line_343 : decode cX12_line 343 = .ok (.iconst 1, 1) := by decide +kernel
theorem dX12_line_344 : decode cX12_line 344 = .ok (.ireturn, 1) := by decide +kernel
set_option maxRecDepth 20000 in
theorem ggX12_toldOf_X12_skip : GoodIn wsX12_toldOf wsX12_skip := goodIn_r _ [7, 8, 9, 10, 11, 12, 13, 14, 15, 16, 17, 18, 6, 19, 20, 21, 22, 23, 24, 25, 26, 46, 47, 48, 49, 50, 51, 52, 53, 54, 55, 56, 57, 58, 59, 60, 61, 62, 63, 64, 65, 66, 67, 68, 69, 70, 71, 72, 73, 74, 75, 76, 77, 78, 79, 80, 81, 82, 83, 84, 85, 86, 87, 88, 89, 90, 91, 92, 93, 94, 95, 96, 97, 98, 99, 100, 101, 102, 103] (by decide +kernel) (by decide +kernel)
set_option maxRecDepth 20000 in
theorem gX12_toldOf_X12_skip : GoodIn wsX12_toldOf (wsV RX12 194 RX12 yX12_skip wsX12_skip) := goodIn_app (goodIn_of _ (by decide +kernel)) ggX12_toldOf_X12_skip
set_option maxRecDepth 20000 in
theorem ggX12_toldOf_X12_isName : GoodIn wsX12_toldOf wsX12_isName := goodIn_r _ [30, 13, 15, 31, 46, 47, 48, 49, 50, 51, 52, 53, 54, 55, 56, 57, 58, 59, 60, 61, 62, 63, 64, 65, 66, 67, 68, 69, 70, 71, 72, 73, 74, 75, 76, 77, 78, 79, 80, 81, 82, 83, 84, 85, 86, 87, 88, 89, 90, 91, 92, 93, 94, 95, 96, 97, 98, 99, 100, 101, 102, 103] (by decide +kernel) (by decide +kernel)
set_option maxRecDepth 20000 in
theorem gX12_toldOf_X12_isName : GoodIn wsX12_toldOf (wsV RX12 204 RX12 yX12_isName wsX12_isName) := goodIn_app (goodIn_of _ (by decide +kernel)) ggX12_toldOf_X12_isName
set_option maxRecDepth 20000 in
theorem ggX12_toldOf_X12_bad : GoodIn wsX12_toldOf wsX12_bad := goodIn_r _ [35, 36, 9, 37, 46, 47, 48, 49, 50, 51, 52, 53, 54, 55, 56, 57, 58, 59, 60, 61, 62, 63, 64, 65, 66, 67, 68, 69, 70, 71, 72, 73, 74, 75, 76, 77, 78, 79, 80, 81, 82, 83, 84, 85, 86, 87, 88, 89, 90, 91, 92, 93, 94, 95, 96, 97, 98, 99, 100, 101, 102, 103] (by decide +kernel) (by decide +kernel)
set_option maxRecDepth 20000 in
theorem gX12_toldOf_X12_bad : GoodIn wsX12_toldOf (wsV RX12 191 RX12 yX12_bad wsX12_bad) := goodIn_app (goodIn_of _ (by decide +kernel)) ggX12_toldOf_X12_bad
set_option maxRecDepth 20000 in
theorem ggX12_toldOf_X12_find : GoodIn wsX12_toldOf wsX12_find := goodIn_r _ [41, 42, 15, 46, 47, 48, 49, 50, 51, 52, 53, 54, 55, 56, 57, 58, 59, 60, 61, 62, 63, 64, 65, 66, 67, 68, 69, 70, 71, 72, 73, 74, 75, 76, 77, 78, 79, 80, 81, 82, 83, 84, 85, 86, 87, 88, 89, 90, 91, 92, 93, 94, 95, 96, 97, 98, 99, 100, 101, 102, 103] (by decide +kernel) (by decide +kernel)
set_option maxRecDepth 20000 in
theorem gX12_toldOf_X12_find : GoodIn wsX12_toldOf (wsV RX12 208 RX12 yX12_find wsX12_find) := goodIn_app (goodIn_of _ (by decide +kernel)) ggX12_toldOf_X12_find
set_option maxRecDepth 20000 in
theorem ggX12_toldOf_X12_has : GoodIn wsX12_toldOf wsX12_has := goodIn_r _ [45] (by decide +kernel) (by decide +kernel)
set_option maxRecDepth 20000 in
theorem gX12_toldOf_X12_has : GoodIn wsX12_toldOf (va_wsS RX12 235 yX12_has wsX12_has) := goodIn_app (goodIn_of _ (by decide +kernel)) ggX12_toldOf_X12_has
theorem dX12_toldOf_0 : decode cX12_toldOf 0 = .ok (.aload_n 0, 1) := by decide +kernel
theorem dX12_toldOf_1 : decode cX12_toldOf 1 = .ok (.invokevirtual 194, 3) := by decide +kernel
theorem dX12_toldOf_4 : decode cX12_toldOf 4 = .ok (.aload_n 0, 1) := by decide +kernel
theorem dX12_toldOf_5 : decode cX12_toldOf 5 = .ok (.invokevirtual 204, 3) := by decide +kernel
theorem dX12_toldOf_8 : decode cX12_toldOf 8 = .ok (.ifCond .ne 9, 3) := by decide +kernel
theorem dX12_toldOf_11 : decode cX12_toldOf 11 = .ok (.aload_n 0, 1) := by decide +kernel
theorem dX12_toldOf_12 : decode cX12_toldOf 12 = .ok (.iconst 1, 1) := by decide +kernel
theorem dX12_toldOf_13 : decode cX12_toldOf 13 = .ok (.invokevirtual 191, 3) := by decide +kernel
theorem dX12_toldOf_16 : decode cX12_toldOf 16 = .ok (.ireturn, 1) := by decide +kernel
theorem dX12_toldOf_17 : decode cX12_toldOf 17 = .ok (.aload_n 0, 1) := by decide +kernel
theorem dX12_toldOf_18 : decode cX12_toldOf 18 = .ok (.aload_n 0, 1) := by decide +kernel
theorem dX12_toldOf_19 : decode cX12_toldOf 19 = .ok (.bipush 40, 2) := by decide +kernel
theorem dX12_toldOf_21 : decode cX12_toldOf 21 = .ok (.aload_n 0, 1) := by decide +kernel
theorem dX12_toldOf_22 : decode cX12_toldOf 22 = .ok (.getfield 37, 3) := by decide +kernel
theorem dX12_toldOf_25 : decode cX12_toldOf 25 = .ok (.iconst 0, 1) := by decide +kernel
theorem dX12_toldOf_26 : decode cX12_toldOf 26 = .ok (.iaload, 1) := by decide +kernel
theorem dX12_toldOf_27 : decode cX12_toldOf 27 = .ok (.invokevirtual 208, 3) := by decide +kernel
theorem dX12_toldOf_30 : decode cX12_toldOf 30 = .ok (.putfield 201, 3) := by decide +kernel
theorem dX12_toldOf_33 : decode cX12_toldOf 33 = .ok (.aload_n 0, 1) := by decide +kernel
theorem dX12_toldOf_34 : decode cX12_toldOf 34 = .ok (.getfield 201, 3) := by decide +kernel
theorem dX12_toldOf_37 : decode cX12_toldOf 37 = .ok (.ifCond .lt 14, 3) := by decide +kernel
theorem dX12_toldOf_40 : decode cX12_toldOf 40 = .ok (.iload_n 1, 1) := by decide +kernel
theorem dX12_toldOf_41 : decode cX12_toldOf 41 = .ok (.aload_n 0, 1) := by decide +kernel
theorem dX12_toldOf_42 : decode cX12_toldOf 42 = .ok (.getfield 201, 3) := by decide +kernel
theorem dX12_toldOf_45 : decode cX12_toldOf 45 = .ok (.invokestatic 235, 3) := by decide +kernel
theorem dX12_toldOf_48 : decode cX12_toldOf 48 = .ok (.ifCond .eq 9, 3) := by decide +kernel
theorem dX12_toldOf_51 : decode cX12_toldOf 51 = .ok (.aload_n 0, 1) := by decide +kernel
theorem dX12_toldOf_52 : decode cX12_toldOf 52 = .ok (.iconst 3, 1) := by decide +kernel
theorem dX12_toldOf_53 : decode cX12_toldOf 53 = .ok (.invokevirtual 191, 3) := by decide +kernel
theorem dX12_toldOf_56 : decode cX12_toldOf 56 = .ok (.ireturn, 1) := by decide +kernel
theorem dX12_toldOf_57 : decode cX12_toldOf 57 = .ok (.aload_n 0, 1) := by decide +kernel
theorem dX12_toldOf_58 : decode cX12_toldOf 58 = .ok (.invokevirtual 194, 3) := by decide +kernel
theorem dX12_toldOf_61 : decode cX12_toldOf 61 = .ok (.iconst 1, 1) := by decide +kernel
theorem dX12_toldOf_62 : decode cX12_toldOf 62 = .ok (.ireturn, 1) := by decide +kernel
set_option maxRecDepth 20000 in
theorem ggX12_readLaw_X12_bad : GoodIn wsX12_readLaw wsX12_bad := goodIn_r _ [10, 11, 12, 13, 47, 48, 49, 50, 51, 52, 53, 54, 55, 56, 57, 58, 59, 60, 61, 62, 63, 64, 65, 66, 67, 68, 69, 70, 71, 72, 73, 74, 75, 76, 77, 78, 79, 80, 81, 82, 83, 84, 85, 86, 87, 88, 89, 90, 91, 92, 93, 94, 95, 96, 97, 98, 99, 100, 101, 102, 103, 104] (by decide +kernel) (by decide +kernel)
set_option maxRecDepth 20000 in
theorem gX12_readLaw_X12_bad : GoodIn wsX12_readLaw (wsV RX12 191 RX12 yX12_bad wsX12_bad) := goodIn_app (goodIn_of _ (by decide +kernel)) ggX12_readLaw_X12_bad
set_option maxRecDepth 20000 in
theorem ggX12_readLaw_X12_skip : GoodIn wsX12_readLaw wsX12_skip := goodIn_r _ [17, 18, 12, 19, 20, 21, 22, 23, 24, 25, 26, 27, 9, 28, 29, 30, 31, 32, 33, 34, 35, 47, 48, 49, 50, 51, 52, 53, 54, 55, 56, 57, 58, 59, 60, 61, 62, 63, 64, 65, 66, 67, 68, 69, 70, 71, 72, 73, 74, 75, 76, 77, 78, 79, 80, 81, 82, 83, 84, 85, 86, 87, 88, 89, 90, 91, 92, 93, 94, 95, 96, 97, 98, 99, 100, 101, 102, 103, 104] (by decide +kernel) (by decide +kernel)
set_option maxRecDepth 20000 in
theorem gX12_readLaw_X12_skip : GoodIn wsX12_readLaw (wsV RX12 194 RX12 yX12_skip wsX12_skip) := goodIn_app (goodIn_of _ (by decide +kernel)) ggX12_readLaw_X12_skip
set_option maxRecDepth 20000 in
theorem ggX12_readLaw_X12_isWord : GoodIn wsX12_readLaw wsX12_isWord := goodIn_r _ [39, 22, 24, 47, 48, 49, 50, 51, 52, 53, 54, 55, 56, 57, 58, 59, 60, 61, 62, 63, 64, 65, 66, 67, 68, 69, 70, 71, 72, 73, 74, 75, 76, 77, 78, 79, 80, 81, 82, 83, 84, 85, 86, 87, 88, 89, 90, 91, 92, 93, 94, 95, 96, 97, 98, 99, 100, 101, 102, 103, 104] (by decide +kernel) (by decide +kernel)
set_option maxRecDepth 20000 in
theorem gX12_readLaw_X12_isWord : GoodIn wsX12_readLaw (wsV RX12 212 RX12 yX12_isWord wsX12_isWord) := goodIn_app (goodIn_of _ (by decide +kernel)) ggX12_readLaw_X12_isWord
set_option maxRecDepth 20000 in
theorem ggX12_readLaw_X12_takes : GoodIn wsX12_readLaw wsX12_takes := goodIn_r _ [43, 22, 23, 5, 6, 7, 8, 9, 10, 11, 12, 13, 44, 45, 46, 14, 15, 16, 17, 18, 19, 20, 21, 24, 25, 26, 27, 28, 29, 30, 31, 32, 33, 34, 35, 47, 48, 49, 50, 51, 52, 53, 54, 55, 56, 57, 58, 59, 60, 61, 62, 63, 64, 65, 66, 67, 68, 69, 70, 71, 72, 73, 74, 75, 76, 77, 78, 79, 80, 81, 82, 83, 84, 85, 86, 87, 88, 89, 90, 91, 92, 93, 94, 95, 96, 97, 98, 99, 100, 101, 102, 103, 104] (by decide +kernel) (by decide +kernel)
set_option maxRecDepth 20000 in
theorem gX12_readLaw_X12_takes : GoodIn wsX12_readLaw (wsV RX12 219 RX12 yX12_takes wsX12_takes) := goodIn_app (goodIn_of _ (by decide +kernel)) ggX12_readLaw_X12_takes
theorem dX12_readLaw_0 : decode cX12_readLaw 0 = .ok (.aload_n 0, 1) := by decide +kernel
theorem dX12_readLaw_1 : decode cX12_readLaw 1 = .ok (.getfield 238, 3) := by decide +kernel
theorem dX12_readLaw_4 : decode cX12_readLaw 4 = .ok (.ifCond .eq 9, 3) := by decide +kernel
theorem dX12_readLaw_7 : decode cX12_readLaw 7 = .ok (.aload_n 0, 1) := by decide +kernel
theorem dX12_readLaw_8 : decode cX12_readLaw 8 = .ok (.iconst 3, 1) := by decide +kernel
theorem dX12_readLaw_9 : decode cX12_readLaw 9 = .ok (.invokevirtual 191, 3) := by decide +kernel
theorem dX12_readLaw_12 : decode cX12_readLaw 12 = .ok (.ireturn, 1) := by decide +kernel
theorem dX12_readLaw_13 : decode cX12_readLaw 13 = .ok (.aload_n 0, 1) := by decide +kernel
theorem dX12_readLaw_14 : decode cX12_readLaw 14 = .ok (.iconst 1, 1) := by decide +kernel
theorem dX12_readLaw_15 : decode cX12_readLaw 15 = .ok (.putfield 238, 3) := by decide +kernel
theorem dX12_readLaw_18 : decode cX12_readLaw 18 = .ok (.aload_n 0, 1) := by decide +kernel
theorem dX12_readLaw_19 : decode cX12_readLaw 19 = .ok (.invokevirtual 194, 3) := by decide +kernel
theorem dX12_readLaw_22 : decode cX12_readLaw 22 = .ok (.aload_n 0, 1) := by decide +kernel
theorem dX12_readLaw_23 : decode cX12_readLaw 23 = .ok (.ldc2_w 139, 3) := by decide +kernel
theorem dX12_readLaw_26 : decode cX12_readLaw 26 = .ok (.invokevirtual 212, 3) := by decide +kernel
theorem dX12_readLaw_29 : decode cX12_readLaw 29 = .ok (.ifCond .eq 9, 3) := by decide +kernel
theorem dX12_readLaw_32 : decode cX12_readLaw 32 = .ok (.aload_n 0, 1) := by decide +kernel
theorem dX12_readLaw_33 : decode cX12_readLaw 33 = .ok (.invokevirtual 194, 3) := by decide +kernel
theorem dX12_readLaw_36 : decode cX12_readLaw 36 = .ok (.iconst 1, 1) := by decide +kernel
theorem dX12_readLaw_37 : decode cX12_readLaw 37 = .ok (.ireturn, 1) := by decide +kernel
theorem dX12_readLaw_38 : decode cX12_readLaw 38 = .ok (.aload_n 0, 1) := by decide +kernel
theorem dX12_readLaw_39 : decode cX12_readLaw 39 = .ok (.ldc2_w 141, 3) := by decide +kernel
theorem dX12_readLaw_42 : decode cX12_readLaw 42 = .ok (.invokevirtual 212, 3) := by decide +kernel
theorem dX12_readLaw_45 : decode cX12_readLaw 45 = .ok (.ifCond .ne 9, 3) := by decide +kernel
theorem dX12_readLaw_48 : decode cX12_readLaw 48 = .ok (.aload_n 0, 1) := by decide +kernel
theorem dX12_readLaw_49 : decode cX12_readLaw 49 = .ok (.iconst 1, 1) := by decide +kernel
theorem dX12_readLaw_50 : decode cX12_readLaw 50 = .ok (.invokevirtual 191, 3) := by decide +kernel
theorem dX12_readLaw_53 : decode cX12_readLaw 53 = .ok (.ireturn, 1) := by decide +kernel
theorem dX12_readLaw_54 : decode cX12_readLaw 54 = .ok (.aload_n 0, 1) := by decide +kernel
theorem dX12_readLaw_55 : decode cX12_readLaw 55 = .ok (.invokevirtual 194, 3) := by decide +kernel
theorem dX12_readLaw_58 : decode cX12_readLaw 58 = .ok (.aload_n 0, 1) := by decide +kernel
theorem dX12_readLaw_59 : decode cX12_readLaw 59 = .ok (.iconst 1, 1) := by decide +kernel
theorem dX12_readLaw_60 : decode cX12_readLaw 60 = .ok (.bipush 60, 2) := by decide +kernel
theorem dX12_readLaw_62 : decode cX12_readLaw 62 = .ok (.invokevirtual 219, 3) := by decide +kernel
theorem dX12_readLaw_65 : decode cX12_readLaw 65 = .ok (.ifCond .ne 5, 3) := by decide +kernel
theorem dX12_readLaw_68 : decode cX12_readLaw 68 = .ok (.iconst 0, 1) := by decide +kernel
theorem dX12_readLaw_69 : decode cX12_readLaw 69 = .ok (.ireturn, 1) := by decide +kernel
theorem dX12_readLaw_70 : decode cX12_readLaw 70 = .ok (.aload_n 0, 1) := by decide +kernel
theorem dX12_readLaw_71 : decode cX12_readLaw 71 = .ok (.getfield 37, 3) := by decide +kernel
theorem dX12_readLaw_74 : decode cX12_readLaw 74 = .ok (.iconst 2, 1) := by decide +kernel
theorem dX12_readLaw_75 : decode cX12_readLaw 75 = .ok (.aload_n 0, 1) := by decide +kernel
theorem dX12_readLaw_76 : decode cX12_readLaw 76 = .ok (.getfield 201, 3) := by decide +kernel
theorem dX12_readLaw_79 : decode cX12_readLaw 79 = .ok (.iastore, 1) := by decide +kernel
theorem dX12_readLaw_80 : decode cX12_readLaw 80 = .ok (.iconst 1, 1) := by decide +kernel
theorem dX12_readLaw_81 : decode cX12_readLaw 81 = .ok (.ireturn, 1) := by decide +kernel
set_option maxRecDepth 20000 in
theorem ggX12_readDeal_X12_bad : GoodIn wsX12_readDeal wsX12_bad := goodIn_r _ [8, 9, 10, 11, 63, 64, 65, 66, 67, 68, 69, 70, 71, 72, 73, 74, 75, 76, 77, 78, 79, 80, 81, 82, 83, 84, 85, 86, 87, 88, 89, 90, 91, 92, 93, 94, 95, 96, 97, 98, 99, 100, 101, 102, 103, 104, 105, 106, 107, 108, 109, 110, 111, 112, 113, 114, 115, 116, 117, 118, 119, 120] (by decide +kernel) (by decide +kernel)
set_option maxRecDepth 20000 in
theorem gX12_readDeal_X12_bad : GoodIn wsX12_readDeal (wsV RX12 191 RX12 yX12_bad wsX12_bad) := goodIn_app (goodIn_of _ (by decide +kernel)) ggX12_readDeal_X12_bad
set_option maxRecDepth 20000 in
theorem ggX12_readDeal_X12_skip : GoodIn wsX12_readDeal wsX12_skip := goodIn_r _ [15, 16, 10, 17, 18, 19, 20, 21, 22, 23, 24, 25, 7, 26, 27, 28, 29, 30, 31, 32, 33, 63, 64, 65, 66, 67, 68, 69, 70, 71, 72, 73, 74, 75, 76, 77, 78, 79, 80, 81, 82, 83, 84, 85, 86, 87, 88, 89, 90, 91, 92, 93, 94, 95, 96, 97, 98, 99, 100, 101, 102, 103, 104, 105, 106, 107, 108, 109, 110, 111, 112, 113, 114, 115, 116, 117, 118, 119, 120] (by decide +kernel) (by decide +kernel)
set_option maxRecDepth 20000 in
theorem gX12_readDeal_X12_skip : GoodIn wsX12_readDeal (wsV RX12 194 RX12 yX12_skip wsX12_skip) := goodIn_app (goodIn_of _ (by decide +kernel)) ggX12_readDeal_X12_skip
set_option maxRecDepth 20000 in
theorem ggX12_readDeal_X12_fresh : GoodIn wsX12_readDeal wsX12_fresh := goodIn_r _ [37, 1, 38, 22, 39, 40, 41, 7, 42, 20, 43, 4, 5, 6, 8, 9, 10, 11, 44, 45, 46, 47, 12, 13, 14, 15, 16, 17, 18, 19, 21, 23, 24, 25, 26, 27, 28, 29, 30, 31, 32, 33, 63, 64, 65, 66, 67, 68, 69, 70, 71, 72, 73, 74, 75, 76, 77, 78, 79, 80, 81, 82, 83, 84, 85, 86, 87, 88, 89, 90, 91, 92, 93, 94, 95, 96, 97, 98, 99, 100, 101, 102, 103, 104, 105, 106, 107, 108, 109, 110, 111, 112, 113, 114, 115, 116, 117, 118, 119, 120] (by decide +kernel) (by decide +kernel)
set_option maxRecDepth 20000 in
theorem gX12_readDeal_X12_fresh : GoodIn wsX12_readDeal (wsV RX12 216 RX12 yX12_fresh wsX12_fresh) := goodIn_app (goodIn_of _ (by decide +kernel)) ggX12_readDeal_X12_fresh
set_option maxRecDepth 20000 in
theorem ggX12_readDeal_X12_takesPerson : GoodIn wsX12_readDeal wsX12_takesPerson := goodIn_r _ [51, 1, 2, 39, 40, 41, 7, 42, 20, 22, 43, 4, 5, 6, 8, 9, 10, 11, 44, 45, 46, 47, 38, 12, 13, 14, 15, 16, 17, 18, 19, 21, 23, 24, 25, 26, 27, 28, 29, 30, 31, 32, 33, 63, 64, 65, 66, 67, 68, 69, 70, 71, 72, 73, 74, 75, 76, 77, 78, 79, 80, 81, 82, 83, 84, 85, 86, 87, 88, 89, 90, 91, 92, 93, 94, 95, 96, 97, 98, 99, 100, 101, 102, 103, 104, 105, 106, 107, 108, 109, 110, 111, 112, 113, 114, 115, 116, 117, 118, 119, 120] (by decide +kernel) (by decide +kernel)
set_option maxRecDepth 20000 in
theorem gX12_readDeal_X12_takesPerson : GoodIn wsX12_readDeal (wsV RX12 241 RX12 yX12_takesPerson wsX12_takesPerson) := goodIn_app (goodIn_of _ (by decide +kernel)) ggX12_readDeal_X12_takesPerson
set_option maxRecDepth 20000 in
theorem ggX12_readDeal_X12_takes : GoodIn wsX12_readDeal wsX12_takes := goodIn_r _ [55, 20, 21, 2, 4, 5, 6, 7, 8, 9, 10, 11, 56, 57, 58, 12, 13, 14, 15, 16, 17, 18, 19, 22, 23, 24, 25, 26, 27, 28, 29, 30, 31, 32, 33, 63, 64, 65, 66, 67, 68, 69, 70, 71, 72, 73, 74, 75, 76, 77, 78, 79, 80, 81, 82, 83, 84, 85, 86, 87, 88, 89, 90, 91, 92, 93, 94, 95, 96, 97, 98, 99, 100, 101, 102, 103, 104, 105, 106, 107, 108, 109, 110, 111, 112, 113, 114, 115, 116, 117, 118, 119, 120] (by decide +kernel) (by decide +kernel)
set_option maxRecDepth 20000 in
theorem gX12_readDeal_X12_takes : GoodIn wsX12_readDeal (wsV RX12 219 RX12 yX12_takes wsX12_takes) := goodIn_app (goodIn_of _ (by decide +kernel)) ggX12_readDeal_X12_takes
set_option maxRecDepth 20000 in
theorem ggX12_readDeal_X12_isWord : GoodIn wsX12_readDeal wsX12_isWord := goodIn_r _ [62, 20, 22, 63, 64, 65, 66, 67, 68, 69, 70, 71, 72, 73, 74, 75, 76, 77, 78, 79, 80, 81, 82, 83, 84, 85, 86, 87, 88, 89, 90, 91, 92, 93, 94, 95, 96, 97, 98, 99, 100, 101, 102, 103, 104, 105, 106, 107, 108, 109, 110, 111, 112, 113, 114, 115, 116, 117, 118, 119, 120] (by decide +kernel) (by decide +kernel)
set_option maxRecDepth 20000 in
theorem gX12_readDeal_X12_isWord : GoodIn wsX12_readDeal (wsV RX12 212 RX12 yX12_isWord wsX12_isWord) := goodIn_app (goodIn_of _ (by decide +kernel)) ggX12_readDeal_X12_isWord
theorem dX12_readDeal_0 : decode cX12_readDeal 0 = .ok (.aload_n 0, 1) := by decide +kernel
theorem dX12_readDeal_1 : decode cX12_readDeal 1 = .ok (.getfield 37, 3) := by decide +kernel
theorem dX12_readDeal_4 : decode cX12_readDeal 4 = .ok (.iconst 1, 1) := by decide +kernel
theorem dX12_readDeal_5 : decode cX12_readDeal 5 = .ok (.iaload, 1) := by decide +kernel
theorem dX12_readDeal_6 : decode cX12_readDeal 6 = .ok (.istore_n 1, 1) := by decide +kernel
theorem dX12_readDeal_7 : decode cX12_readDeal 7 = .ok (.iload_n 1, 1) := by decide +kernel
theorem dX12_readDeal_8 : decode cX12_readDeal 8 = .ok (.bipush 30, 2) := by decide +kernel
theorem dX12_readDeal_10 : decode cX12_readDeal 10 = .ok (.if_icmp .ne 9, 3) := by decide +kernel
theorem dX12_readDeal_13 : decode cX12_readDeal 13 = .ok (.aload_n 0, 1) := by decide +kernel
theorem dX12_readDeal_14 : decode cX12_readDeal 14 = .ok (.iconst 4, 1) := by decide +kernel
theorem dX12_readDeal_15 : decode cX12_readDeal 15 = .ok (.invokevirtual 191, 3) := by decide +kernel
theorem dX12_readDeal_18 : decode cX12_readDeal 18 = .ok (.ireturn, 1) := by decide +kernel
theorem dX12_readDeal_19 : decode cX12_readDeal 19 = .ok (.aload_n 0, 1) := by decide +kernel
theorem dX12_readDeal_20 : decode cX12_readDeal 20 = .ok (.invokevirtual 194, 3) := by decide +kernel
theorem dX12_readDeal_23 : decode cX12_readDeal 23 = .ok (.aload_n 0, 1) := by decide +kernel
theorem dX12_readDeal_24 : decode cX12_readDeal 24 = .ok (.bipush 50, 2) := by decide +kernel
theorem dX12_readDeal_26 : decode cX12_readDeal 26 = .ok (.iload_n 1, 1) := by decide +kernel
theorem dX12_readDeal_27 : decode cX12_readDeal 27 = .ok (.iadd, 1) := by decide +kernel
theorem dX12_readDeal_28 : decode cX12_readDeal 28 = .ok (.invokevirtual 216, 3) := by decide +kernel
theorem dX12_readDeal_31 : decode cX12_readDeal 31 = .ok (.ifCond .ne 5, 3) := by decide +kernel
theorem dX12_readDeal_34 : decode cX12_readDeal 34 = .ok (.iconst 0, 1) := by decide +kernel
theorem dX12_readDeal_35 : decode cX12_readDeal 35 = .ok (.ireturn, 1) := by decide +kernel
theorem dX12_readDeal_36 : decode cX12_readDeal 36 = .ok (.bipush 44, 2) := by decide +kernel
theorem dX12_readDeal_38 : decode cX12_readDeal 38 = .ok (.bipush 6, 2) := by decide +kernel
theorem dX12_readDeal_40 : decode cX12_readDeal 40 = .ok (.iload_n 1, 1) := by decide +kernel
theorem dX12_readDeal_41 : decode cX12_readDeal 41 = .ok (.imul, 1) := by decide +kernel
theorem dX12_readDeal_42 : decode cX12_readDeal 42 = .ok (.iadd, 1) := by decide +kernel
theorem dX12_readDeal_43 : decode cX12_readDeal 43 = .ok (.istore_n 2, 1) := by decide +kernel
theorem dX12_readDeal_44 : decode cX12_readDeal 44 = .ok (.aload_n 0, 1) := by decide +kernel
theorem dX12_readDeal_45 : decode cX12_readDeal 45 = .ok (.iconst (-1), 1) := by decide +kernel
theorem dX12_readDeal_46 : decode cX12_readDeal 46 = .ok (.invokevirtual 241, 3) := by decide +kernel
theorem dX12_readDeal_49 : decode cX12_readDeal 49 = .ok (.ifCond .ne 5, 3) := by decide +kernel
theorem dX12_readDeal_52 : decode cX12_readDeal 52 = .ok (.iconst 0, 1) := by decide +kernel
theorem dX12_readDeal_53 : decode cX12_readDeal 53 = .ok (.ireturn, 1) := by decide +kernel
theorem dX12_readDeal_54 : decode cX12_readDeal 54 = .ok (.aload_n 0, 1) := by decide +kernel
theorem dX12_readDeal_55 : decode cX12_readDeal 55 = .ok (.getfield 201, 3) := by decide +kernel
theorem dX12_readDeal_58 : decode cX12_readDeal 58 = .ok (.istore_n 3, 1) := by decide +kernel
theorem dX12_readDeal_59 : decode cX12_readDeal 59 = .ok (.aload_n 0, 1) := by decide +kernel
theorem dX12_readDeal_60 : decode cX12_readDeal 60 = .ok (.iload_n 3, 1) := by decide +kernel
theorem dX12_readDeal_61 : decode cX12_readDeal 61 = .ok (.invokevirtual 241, 3) := by decide +kernel
theorem dX12_readDeal_64 : decode cX12_readDeal 64 = .ok (.ifCond .ne 5, 3) := by decide +kernel
theorem dX12_readDeal_67 : decode cX12_readDeal 67 = .ok (.iconst 0, 1) := by decide +kernel
theorem dX12_readDeal_68 : decode cX12_readDeal 68 = .ok (.ireturn, 1) := by decide +kernel
theorem dX12_readDeal_69 : decode cX12_readDeal 69 = .ok (.aload_n 0, 1) := by decide +kernel
theorem dX12_readDeal_70 : decode cX12_readDeal 70 = .ok (.getfield 201, 3) := by decide +kernel
theorem dX12_readDeal_73 : decode cX12_readDeal 73 = .ok (.istore 4, 2) := by decide +kernel
theorem dX12_readDeal_75 : decode cX12_readDeal 75 = .ok (.aload_n 0, 1) := by decide +kernel
theorem dX12_readDeal_76 : decode cX12_readDeal 76 = .ok (.getfield 37, 3) := by decide +kernel
theorem dX12_readDeal_79 : decode cX12_readDeal 79 = .ok (.iconst 4, 1) := by decide +kernel
theorem dX12_readDeal_80 : decode cX12_readDeal 80 = .ok (.iload_n 3, 1) := by decide +kernel
theorem dX12_readDeal_81 : decode cX12_readDeal 81 = .ok (.iadd, 1) := by decide +kernel
theorem dX12_readDeal_82 : decode cX12_readDeal 82 = .ok (.iaload, 1) := by decide +kernel
theorem dX12_readDeal_83 : decode cX12_readDeal 83 = .ok (.aload_n 0, 1) := by decide +kernel
theorem dX12_readDeal_84 : decode cX12_readDeal 84 = .ok (.getfield 37, 3) := by decide +kernel
theorem dX12_readDeal_87 : decode cX12_readDeal 87 = .ok (.iconst 4, 1) := by decide +kernel
theorem dX12_readDeal_88 : decode cX12_readDeal 88 = .ok (.iload 4, 2) := by decide +kernel
theorem dX12_readDeal_90 : decode cX12_readDeal 90 = .ok (.iadd, 1) := by decide +kernel
theorem dX12_readDeal_91 : decode cX12_readDeal 91 = .ok (.iaload, 1) := by decide +kernel
theorem dX12_readDeal_92 : decode cX12_readDeal 92 = .ok (.if_icmp .le 14, 3) := by decide +kernel
theorem dX12_readDeal_95 : decode cX12_readDeal 95 = .ok (.aload_n 0, 1) := by decide +kernel
theorem dX12_readDeal_96 : decode cX12_readDeal 96 = .ok (.getfield 37, 3) := by decide +kernel
theorem dX12_readDeal_99 : decode cX12_readDeal 99 = .ok (.iconst 4, 1) := by decide +kernel
theorem dX12_readDeal_100 : decode cX12_readDeal 100 = .ok (.iload_n 3, 1) := by decide +kernel
theorem dX12_readDeal_101 : decode cX12_readDeal 101 = .ok (.iadd, 1) := by decide +kernel
theorem dX12_readDeal_102 : decode cX12_readDeal 102 = .ok (.iaload, 1) := by decide +kernel
theorem dX12_readDeal_103 : decode cX12_readDeal 103 = .ok (.goto 12, 3) := by decide +kernel
theorem dX12_readDeal_106 : decode cX12_readDeal 106 = .ok (.aload_n 0, 1) := by decide +kernel
theorem dX12_readDeal_107 : decode cX12_readDeal 107 = .ok (.getfield 37, 3) := by decide +kernel
theorem dX12_readDeal_110 : decode cX12_readDeal 110 = .ok (.iconst 4, 1) := by decide +kernel
theorem dX12_readDeal_111 : decode cX12_readDeal 111 = .ok (.iload 4, 2) := by decide +kernel
theorem dX12_readDeal_113 : decode cX12_readDeal 113 = .ok (.iadd, 1) := by decide +kernel
theorem dX12_readDeal_114 : decode cX12_readDeal 114 = .ok (.iaload, 1) := by decide +kernel
theorem dX12_readDeal_115 : decode cX12_readDeal 115 = .ok (.istore 5, 2) := by decide +kernel
theorem dX12_readDeal_117 : decode cX12_readDeal 117 = .ok (.aload_n 0, 1) := by decide +kernel
theorem dX12_readDeal_118 : decode cX12_readDeal 118 = .ok (.getfield 37, 3) := by decide +kernel
theorem dX12_readDeal_121 : decode cX12_readDeal 121 = .ok (.bipush 14, 2) := by decide +kernel
theorem dX12_readDeal_123 : decode cX12_readDeal 123 = .ok (.iload_n 3, 1) := by decide +kernel
theorem dX12_readDeal_124 : decode cX12_readDeal 124 = .ok (.iadd, 1) := by decide +kernel
theorem dX12_readDeal_125 : decode cX12_readDeal 125 = .ok (.iaload, 1) := by decide +kernel
theorem dX12_readDeal_126 : decode cX12_readDeal 126 = .ok (.aload_n 0, 1) := by decide +kernel
theorem dX12_readDeal_127 : decode cX12_readDeal 127 = .ok (.getfield 37, 3) := by decide +kernel
theorem dX12_readDeal_130 : decode cX12_readDeal 130 = .ok (.bipush 14, 2) := by decide +kernel
theorem dX12_readDeal_132 : decode cX12_readDeal 132 = .ok (.iload 4, 2) := by decide +kernel
theorem dX12_readDeal_134 : decode cX12_readDeal 134 = .ok (.iadd, 1) := by decide +kernel
theorem dX12_readDeal_135 : decode cX12_readDeal 135 = .ok (.iaload, 1) := by decide +kernel
theorem dX12_readDeal_136 : decode cX12_readDeal 136 = .ok (.if_icmp .ge 15, 3) := by decide +kernel
theorem dX12_readDeal_139 : decode cX12_readDeal 139 = .ok (.aload_n 0, 1) := by decide +kernel
theorem dX12_readDeal_140 : decode cX12_readDeal 140 = .ok (.getfield 37, 3) := by decide +kernel
theorem dX12_readDeal_143 : decode cX12_readDeal 143 = .ok (.bipush 14, 2) := by decide +kernel
theorem dX12_readDeal_145 : decode cX12_readDeal 145 = .ok (.iload_n 3, 1) := by decide +kernel
theorem dX12_readDeal_146 : decode cX12_readDeal 146 = .ok (.iadd, 1) := by decide +kernel
theorem dX12_readDeal_147 : decode cX12_readDeal 147 = .ok (.iaload, 1) := by decide +kernel
theorem dX12_readDeal_148 : decode cX12_readDeal 148 = .ok (.goto 13, 3) := by decide +kernel
theorem dX12_readDeal_151 : decode cX12_readDeal 151 = .ok (.aload_n 0, 1) := by decide +kernel
theorem dX12_readDeal_152 : decode cX12_readDeal 152 = .ok (.getfield 37, 3) := by decide +kernel
theorem dX12_readDeal_155 : decode cX12_readDeal 155 = .ok (.bipush 14, 2) := by decide +kernel
theorem dX12_readDeal_157 : decode cX12_readDeal 157 = .ok (.iload 4, 2) := by decide +kernel
theorem dX12_readDeal_159 : decode cX12_readDeal 159 = .ok (.iadd, 1) := by decide +kernel
theorem dX12_readDeal_160 : decode cX12_readDeal 160 = .ok (.iaload, 1) := by decide +kernel
theorem dX12_readDeal_161 : decode cX12_readDeal 161 = .ok (.istore 6, 2) := by decide +kernel
theorem dX12_readDeal_163 : decode cX12_readDeal 163 = .ok (.aload_n 0, 1) := by decide +kernel
theorem dX12_readDeal_164 : decode cX12_readDeal 164 = .ok (.getfield 37, 3) := by decide +kernel
theorem dX12_readDeal_167 : decode cX12_readDeal 167 = .ok (.iload_n 2, 1) := by decide +kernel
theorem dX12_readDeal_168 : decode cX12_readDeal 168 = .ok (.iload_n 3, 1) := by decide +kernel
theorem dX12_readDeal_169 : decode cX12_readDeal 169 = .ok (.iastore, 1) := by decide +kernel
theorem dX12_readDeal_170 : decode cX12_readDeal 170 = .ok (.aload_n 0, 1) := by decide +kernel
theorem dX12_readDeal_171 : decode cX12_readDeal 171 = .ok (.getfield 37, 3) := by decide +kernel
theorem dX12_readDeal_174 : decode cX12_readDeal 174 = .ok (.iload_n 2, 1) := by decide +kernel
theorem dX12_readDeal_175 : decode cX12_readDeal 175 = .ok (.iconst 1, 1) := by decide +kernel
theorem dX12_readDeal_176 : decode cX12_readDeal 176 = .ok (.iadd, 1) := by decide +kernel
theorem dX12_readDeal_177 : decode cX12_readDeal 177 = .ok (.iload 4, 2) := by decide +kernel
theorem dX12_readDeal_179 : decode cX12_readDeal 179 = .ok (.iastore, 1) := by decide +kernel
theorem dX12_readDeal_180 : decode cX12_readDeal 180 = .ok (.aload_n 0, 1) := by decide +kernel
theorem dX12_readDeal_181 : decode cX12_readDeal 181 = .ok (.iload 5, 2) := by decide +kernel
theorem dX12_readDeal_183 : decode cX12_readDeal 183 = .ok (.iload 6, 2) := by decide +kernel
theorem dX12_readDeal_185 : decode cX12_readDeal 185 = .ok (.invokevirtual 219, 3) := by decide +kernel
theorem dX12_readDeal_188 : decode cX12_readDeal 188 = .ok (.ifCond .ne 5, 3) := by decide +kernel
theorem dX12_readDeal_191 : decode cX12_readDeal 191 = .ok (.iconst 0, 1) := by decide +kernel
theorem dX12_readDeal_192 : decode cX12_readDeal 192 = .ok (.ireturn, 1) := by decide +kernel
theorem dX12_readDeal_193 : decode cX12_readDeal 193 = .ok (.aload_n 0, 1) := by decide +kernel
theorem dX12_readDeal_194 : decode cX12_readDeal 194 = .ok (.getfield 37, 3) := by decide +kernel
theorem dX12_readDeal_197 : decode cX12_readDeal 197 = .ok (.iload_n 2, 1) := by decide +kernel
theorem dX12_readDeal_198 : decode cX12_readDeal 198 = .ok (.iconst 2, 1) := by decide +kernel
theorem dX12_readDeal_199 : decode cX12_readDeal 199 = .ok (.iadd, 1) := by decide +kernel
theorem dX12_readDeal_200 : decode cX12_readDeal 200 = .ok (.aload_n 0, 1) := by decide +kernel
theorem dX12_readDeal_201 : decode cX12_readDeal 201 = .ok (.getfield 201, 3) := by decide +kernel
theorem dX12_readDeal_204 : decode cX12_readDeal 204 = .ok (.iastore, 1) := by decide +kernel
theorem dX12_readDeal_205 : decode cX12_readDeal 205 = .ok (.aload_n 0, 1) := by decide +kernel
theorem dX12_readDeal_206 : decode cX12_readDeal 206 = .ok (.iconst 0, 1) := by decide +kernel
theorem dX12_readDeal_207 : decode cX12_readDeal 207 = .ok (.bipush 99, 2) := by decide +kernel
theorem dX12_readDeal_209 : decode cX12_readDeal 209 = .ok (.invokevirtual 219, 3) := by decide +kernel
theorem dX12_readDeal_212 : decode cX12_readDeal 212 = .ok (.ifCond .ne 5, 3) := by decide +kernel
theorem dX12_readDeal_215 : decode cX12_readDeal 215 = .ok (.iconst 0, 1) := by decide +kernel
theorem dX12_readDeal_216 : decode cX12_readDeal 216 = .ok (.ireturn, 1) := by decide +kernel
theorem dX12_readDeal_217 : decode cX12_readDeal 217 = .ok (.aload_n 0, 1) := by decide +kernel
theorem dX12_readDeal_218 : decode cX12_readDeal 218 = .ok (.getfield 37, 3) := by decide +kernel
theorem dX12_readDeal_221 : decode cX12_readDeal 221 = .ok (.iload_n 2, 1) := by decide +kernel
theorem dX12_readDeal_222 : decode cX12_readDeal 222 = .ok (.iconst 3, 1) := by decide +kernel
theorem dX12_readDeal_223 : decode cX12_readDeal 223 = .ok (.iadd, 1) := by decide +kernel
theorem dX12_readDeal_224 : decode cX12_readDeal 224 = .ok (.aload_n 0, 1) := by decide +kernel
theorem dX12_readDeal_225 : decode cX12_readDeal 225 = .ok (.getfield 201, 3) := by decide +kernel
theorem dX12_readDeal_228 : decode cX12_readDeal 228 = .ok (.iastore, 1) := by decide +kernel
theorem dX12_readDeal_229 : decode cX12_readDeal 229 = .ok (.aload_n 0, 1) := by decide +kernel
theorem dX12_readDeal_230 : decode cX12_readDeal 230 = .ok (.iconst 0, 1) := by decide +kernel
theorem dX12_readDeal_231 : decode cX12_readDeal 231 = .ok (.bipush 99, 2) := by decide +kernel
theorem dX12_readDeal_233 : decode cX12_readDeal 233 = .ok (.invokevirtual 219, 3) := by decide +kernel
theorem dX12_readDeal_236 : decode cX12_readDeal 236 = .ok (.ifCond .ne 5, 3) := by decide +kernel
theorem dX12_readDeal_239 : decode cX12_readDeal 239 = .ok (.iconst 0, 1) := by decide +kernel
theorem dX12_readDeal_240 : decode cX12_readDeal 240 = .ok (.ireturn, 1) := by decide +kernel
theorem dX12_readDeal_241 : decode cX12_readDeal 241 = .ok (.aload_n 0, 1) := by decide +kernel
theorem dX12_readDeal_242 : decode cX12_readDeal 242 = .ok (.getfield 37, 3) := by decide +kernel
theorem dX12_readDeal_245 : decode cX12_readDeal 245 = .ok (.iload_n 2, 1) := by decide +kernel
theorem dX12_readDeal_246 : decode cX12_readDeal 246 = .ok (.iconst 4, 1) := by decide +kernel
theorem dX12_readDeal_247 : decode cX12_readDeal 247 = .ok (.iadd, 1) := by decide +kernel
theorem dX12_readDeal_248 : decode cX12_readDeal 248 = .ok (.aload_n 0, 1) := by decide +kernel
theorem dX12_readDeal_249 : decode cX12_readDeal 249 = .ok (.getfield 201, 3) := by decide +kernel
theorem dX12_readDeal_252 : decode cX12_readDeal 252 = .ok (.iastore, 1) := by decide +kernel
theorem dX12_readDeal_253 : decode cX12_readDeal 253 = .ok (.aload_n 0, 1) := by decide +kernel
theorem dX12_readDeal_254 : decode cX12_readDeal 254 = .ok (.getfield 37, 3) := by decide +kernel
theorem dX12_readDeal_257 : decode cX12_readDeal 257 = .ok (.iload_n 2, 1) := by decide +kernel
theorem dX12_readDeal_258 : decode cX12_readDeal 258 = .ok (.iconst 5, 1) := by decide +kernel
theorem dX12_readDeal_259 : decode cX12_readDeal 259 = .ok (.iadd, 1) := by decide +kernel
theorem dX12_readDeal_260 : decode cX12_readDeal 260 = .ok (.iconst 0, 1) := by decide +kernel
theorem dX12_readDeal_261 : decode cX12_readDeal 261 = .ok (.iastore, 1) := by decide +kernel
theorem dX12_readDeal_262 : decode cX12_readDeal 262 = .ok (.aload_n 0, 1) := by decide +kernel
theorem dX12_readDeal_263 : decode cX12_readDeal 263 = .ok (.ldc2_w 135, 3) := by decide +kernel
theorem dX12_readDeal_266 : decode cX12_readDeal 266 = .ok (.invokevirtual 212, 3) := by decide +kernel
theorem dX12_readDeal_269 : decode cX12_readDeal 269 = .ok (.ifCond .eq 16, 3) := by decide +kernel
theorem dX12_readDeal_272 : decode cX12_readDeal 272 = .ok (.aload_n 0, 1) := by decide +kernel
theorem dX12_readDeal_273 : decode cX12_readDeal 273 = .ok (.getfield 37, 3) := by decide +kernel
theorem dX12_readDeal_276 : decode cX12_readDeal 276 = .ok (.iload_n 2, 1) := by decide +kernel
theorem dX12_readDeal_277 : decode cX12_readDeal 277 = .ok (.iconst 5, 1) := by decide +kernel
theorem dX12_readDeal_278 : decode cX12_readDeal 278 = .ok (.iadd, 1) := by decide +kernel
theorem dX12_readDeal_279 : decode cX12_readDeal 279 = .ok (.iconst 1, 1) := by decide +kernel
theorem dX12_readDeal_280 : decode cX12_readDeal 280 = .ok (.iastore, 1) := by decide +kernel
theorem dX12_readDeal_281 : decode cX12_readDeal 281 = .ok (.aload_n 0, 1) := by decide +kernel
theorem dX12_readDeal_282 : decode cX12_readDeal 282 = .ok (.invokevirtual 194, 3) := by decide +kernel
theorem dX12_readDeal_285 : decode cX12_readDeal 285 = .ok (.aload_n 0, 1) := by decide +kernel
theorem dX12_readDeal_286 : decode cX12_readDeal 286 = .ok (.getfield 37, 3) := by decide +kernel
theorem dX12_readDeal_289 : decode cX12_readDeal 289 = .ok (.iconst 1, 1) := by decide +kernel
theorem dX12_readDeal_290 : decode cX12_readDeal 290 = .ok (.dup2, 1) := by decide +kernel
theorem dX12_readDeal_291 : decode cX12_readDeal 291 = .ok (.iaload, 1) := by decide +kernel
theorem dX12_readDeal_292 : decode cX12_readDeal 292 = .ok (.iconst 1, 1) := by decide +kernel
theorem dX12_readDeal_293 : decode cX12_readDeal 293 = .ok (.iadd, 1) := by decide +kernel
theorem dX12_readDeal_294 : decode cX12_readDeal 294 = .ok (.iastore, 1) := by decide +kernel
theorem dX12_readDeal_295 : decode cX12_readDeal 295 = .ok (.iconst 1, 1) := by decide +kernel
theorem dX12_readDeal_296 : decode cX12_readDeal 296 = .ok (.ireturn, 1) := by decide +kernel
set_option maxRecDepth 20000 in
theorem ggX12_town_X12_taken : GoodIn wsX12_town wsX12_taken := goodIn_r _ [16, 17, 18, 19, 20, 110, 111, 112, 113, 114, 115, 116, 117, 118, 119, 120, 121, 122, 123, 124, 125, 126, 127, 128, 129, 130, 131, 132, 133, 134, 135, 136, 137, 138, 139, 140, 141, 142, 143, 144, 145, 146, 147, 148, 149, 150, 151, 152, 153, 154, 155, 156, 157, 158, 159, 160, 161, 162, 163, 164, 165, 166, 167] (by decide +kernel) (by decide +kernel)
set_option maxRecDepth 20000 in
theorem gX12_town_X12_taken : GoodIn wsX12_town (wsV RX12 244 RX12 yX12_taken wsX12_taken) := goodIn_app (goodIn_of _ (by decide +kernel)) ggX12_town_X12_taken
set_option maxRecDepth 20000 in
theorem ggX12_town_X12_skip : GoodIn wsX12_town wsX12_skip := goodIn_r _ [24, 19, 25, 26, 18, 20, 7, 27, 28, 29, 30, 31, 15, 32, 33, 34, 35, 36, 37, 38, 39, 110, 111, 112, 113, 114, 115, 116, 117, 118, 119, 120, 121, 122, 123, 124, 125, 126, 127, 128, 129, 130, 131, 132, 133, 134, 135, 136, 137, 138, 139, 140, 141, 142, 143, 144, 145, 146, 147, 148, 149, 150, 151, 152, 153, 154, 155, 156, 157, 158, 159, 160, 161, 162, 163, 164, 165, 166, 167] (by decide +kernel) (by decide +kernel)
set_option maxRecDepth 20000 in
theorem gX12_town_X12_skip : GoodIn wsX12_town (wsV RX12 194 RX12 yX12_skip wsX12_skip) := goodIn_app (goodIn_of _ (by decide +kernel)) ggX12_town_X12_skip
set_option maxRecDepth 20000 in
theorem ggX12_town_X12_line : GoodIn wsX12_town wsX12_line := goodIn_r _ [43, 44, 6, 45, 46, 4, 47, 48, 49, 50, 51, 52, 53, 54, 15, 55, 7, 28, 56, 57, 58, 59, 2, 25, 8, 21, 22, 23, 24, 19, 26, 18, 20, 27, 29, 30, 31, 32, 33, 34, 35, 36, 37, 38, 39, 60, 61, 62, 63, 10, 64, 65, 66, 67, 68, 69, 70, 71, 72, 73, 74, 75, 76, 77, 78, 79, 80, 81, 82, 83, 84, 85, 86, 87, 88, 89, 90, 91, 92, 93, 94, 95, 96, 97, 98, 99, 5, 100, 101, 110, 111, 112, 113, 114, 115, 116, 117, 118, 119, 120, 121, 122, 123, 124, 125, 126, 127, 128, 129, 130, 131, 132, 133, 134, 135, 136, 137, 138, 139, 140, 141, 142, 143, 144, 145, 146, 147, 148, 149, 150, 151, 152, 153, 154, 155, 156, 157, 158, 159, 160, 161, 162, 163, 164, 165, 166, 167] (by decide +kernel) (by decide +kernel)
set_option maxRecDepth 20000 in
theorem gX12_town_X12_line : GoodIn wsX12_town (wsV RX12 250 RX12 yX12_line wsX12_line) := goodIn_app (goodIn_of _ (by decide +kernel)) ggX12_town_X12_line
set_option maxRecDepth 20000 in
theorem ggX12_town_X12_sign : GoodIn wsX12_town wsX12_sign := goodIn_r _ [105, 106, 107, 108, 15, 109, 7, 27, 56, 57, 58, 59, 2, 25, 8, 21, 22, 23, 24, 19, 26, 18, 20, 28, 29, 30, 31, 32, 33, 34, 35, 36, 37, 38, 39, 110, 111, 112, 113, 114, 115, 116, 117, 118, 119, 120, 121, 122, 123, 124, 125, 126, 127, 128, 129, 130, 131, 132, 133, 134, 135, 136, 137, 138, 139, 140, 141, 142, 143, 144, 145, 146, 147, 148, 149, 150, 151, 152, 153, 154, 155, 156, 157, 158, 159, 160, 161, 162, 163, 164, 165, 166, 167] (by decide +kernel) (by decide +kernel)
set_option maxRecDepth 20000 in
theorem gX12_town_X12_sign : GoodIn wsX12_town (wsV RX12 253 RX12 yX12_sign wsX12_sign) := goodIn_app (goodIn_of _ (by decide +kernel)) ggX12_town_X12_sign
theorem dX12_town_0 : decode cX12_town 0 = .ok (.aload_n 0, 1) := by decide +kernel
theorem dX12_town_1 : decode cX12_town 1 = .ok (.iconst 0, 1) := by decide +kernel
theorem dX12_town_2 : decode cX12_town 2 = .ok (.putfield 1, 3) := by decide +kernel
theorem dX12_town_5 : decode cX12_town 5 = .ok (.aload_n 0, 1) := by decide +kernel
theorem dX12_town_6 : decode cX12_town 6 = .ok (.sipush 900, 3) := by decide +kernel
theorem dX12_town_9 : decode cX12_town 9 = .ok (.invokevirtual 244, 3) := by decide +kernel
theorem dX12_town_12 : decode cX12_town 12 = .ok (.aload_n 0, 1) := by decide +kernel
theorem dX12_town_13 : decode cX12_town 13 = .ok (.iconst 0, 1) := by decide +kernel
theorem dX12_town_14 : decode cX12_town 14 = .ok (.putfield 182, 3) := by decide +kernel
theorem dX12_town_17 : decode cX12_town 17 = .ok (.aload_n 0, 1) := by decide +kernel
theorem dX12_town_18 : decode cX12_town 18 = .ok (.iconst 0, 1) := by decide +kernel
theorem dX12_town_19 : decode cX12_town 19 = .ok (.putfield 247, 3) := by decide +kernel
theorem dX12_town_22 : decode cX12_town 22 = .ok (.aload_n 0, 1) := by decide +kernel
theorem dX12_town_23 : decode cX12_town 23 = .ok (.iconst 0, 1) := by decide +kernel
theorem dX12_town_24 : decode cX12_town 24 = .ok (.putfield 223, 3) := by decide +kernel
theorem dX12_town_27 : decode cX12_town 27 = .ok (.aload_n 0, 1) := by decide +kernel
theorem dX12_town_28 : decode cX12_town 28 = .ok (.iconst 0, 1) := by decide +kernel
theorem dX12_town_29 : decode cX12_town 29 = .ok (.putfield 238, 3) := by decide +kernel
theorem dX12_town_32 : decode cX12_town 32 = .ok (.iconst 0, 1) := by decide +kernel
theorem dX12_town_33 : decode cX12_town 33 = .ok (.istore_n 1, 1) := by decide +kernel
theorem dX12_town_34 : decode cX12_town 34 = .ok (.iload_n 1, 1) := by decide +kernel
theorem dX12_town_35 : decode cX12_town 35 = .ok (.sipush 224, 3) := by decide +kernel
theorem dX12_town_38 : decode cX12_town 38 = .ok (.if_icmp .ge 16, 3) := by decide +kernel
theorem dX12_town_41 : decode cX12_town 41 = .ok (.aload_n 0, 1) := by decide +kernel
theorem dX12_town_42 : decode cX12_town 42 = .ok (.getfield 37, 3) := by decide +kernel
theorem dX12_town_45 : decode cX12_town 45 = .ok (.iload_n 1, 1) := by decide +kernel
theorem dX12_town_46 : decode cX12_town 46 = .ok (.iconst 0, 1) := by decide +kernel
theorem dX12_town_47 : decode cX12_town 47 = .ok (.iastore, 1) := by decide +kernel
theorem dX12_town_48 : decode cX12_town 48 = .ok (.iinc 1 1, 3) := by decide +kernel
theorem dX12_town_51 : decode cX12_town 51 = .ok (.goto (-17), 3) := by decide +kernel
theorem dX12_town_54 : decode cX12_town 54 = .ok (.aload_n 0, 1) := by decide +kernel
theorem dX12_town_55 : decode cX12_town 55 = .ok (.invokevirtual 194, 3) := by decide +kernel
theorem dX12_town_58 : decode cX12_town 58 = .ok (.aload_n 0, 1) := by decide +kernel
theorem dX12_town_59 : decode cX12_town 59 = .ok (.getfield 165, 3) := by decide +kernel
theorem dX12_town_62 : decode cX12_town 62 = .ok (.ifCond .eq 39, 3) := by decide +kernel
theorem dX12_town_65 : decode cX12_town 65 = .ok (.aload_n 0, 1) := by decide +kernel
theorem dX12_town_66 : decode cX12_town 66 = .ok (.invokevirtual 250, 3) := by decide +kernel
theorem dX12_town_69 : decode cX12_town 69 = .ok (.ifCond .eq 12, 3) := by decide +kernel
theorem dX12_town_72 : decode cX12_town 72 = .ok (.aload_n 0, 1) := by decide +kernel
theorem dX12_town_73 : decode cX12_town 73 = .ok (.bipush 59, 2) := by decide +kernel
theorem dX12_town_75 : decode cX12_town 75 = .ok (.invokevirtual 253, 3) := by decide +kernel
theorem dX12_town_78 : decode cX12_town 78 = .ok (.ifCond .ne 10, 3) := by decide +kernel
theorem dX12_town_81 : decode cX12_town 81 = .ok (.iconst (-1), 1) := by decide +kernel
theorem dX12_town_82 : decode cX12_town 82 = .ok (.aload_n 0, 1) := by decide +kernel
theorem dX12_town_83 : decode cX12_town 83 = .ok (.getfield 185, 3) := by decide +kernel
theorem dX12_town_86 : decode cX12_town 86 = .ok (.isub, 1) := by decide +kernel
theorem dX12_town_87 : decode cX12_town 87 = .ok (.ireturn, 1) := by decide +kernel
theorem dX12_town_88 : decode cX12_town 88 = .ok (.aload_n 0, 1) := by decide +kernel
theorem dX12_town_89 : decode cX12_town 89 = .ok (.dup, 1) := by decide +kernel
theorem dX12_town_90 : decode cX12_town 90 = .ok (.getfield 247, 3) := by decide +kernel
theorem dX12_town_93 : decode cX12_town 93 = .ok (.iconst 1, 1) := by decide +kernel
theorem dX12_town_94 : decode cX12_town 94 = .ok (.iadd, 1) := by decide +kernel
theorem dX12_town_95 : decode cX12_town 95 = .ok (.putfield 247, 3) := by decide +kernel
theorem dX12_town_98 : decode cX12_town 98 = .ok (.goto (-40), 3) := by decide +kernel
theorem dX12_town_101 : decode cX12_town 101 = .ok (.iconst 0, 1) := by decide +kernel
theorem dX12_town_102 : decode cX12_town 102 = .ok (.istore_n 1, 1) := by decide +kernel
theorem dX12_town_103 : decode cX12_town 103 = .ok (.iload_n 1, 1) := by decide +kernel
theorem dX12_town_104 : decode cX12_town 104 = .ok (.sipush 284, 3) := by decide +kernel
theorem dX12_town_107 : decode cX12_town 107 = .ok (.if_icmp .ge 32, 3) := by decide +kernel
theorem dX12_town_110 : decode cX12_town 110 = .ok (.aload_n 0, 1) := by decide +kernel
theorem dX12_town_111 : decode cX12_town 111 = .ok (.getfield 33, 3) := by decide +kernel
theorem dX12_town_114 : decode cX12_town 114 = .ok (.iload_n 1, 1) := by decide +kernel
theorem dX12_town_115 : decode cX12_town 115 = .ok (.iload_n 1, 1) := by decide +kernel
theorem dX12_town_116 : decode cX12_town 116 = .ok (.sipush 224, 3) := by decide +kernel
theorem dX12_town_119 : decode cX12_town 119 = .ok (.if_icmp .ge 12, 3) := by decide +kernel
theorem dX12_town_122 : decode cX12_town 122 = .ok (.aload_n 0, 1) := by decide +kernel
theorem dX12_town_123 : decode cX12_town 123 = .ok (.getfield 37, 3) := by decide +kernel
theorem dX12_town_126 : decode cX12_town 126 = .ok (.iload_n 1, 1) := by decide +kernel
theorem dX12_town_127 : decode cX12_town 127 = .ok (.iaload, 1) := by decide +kernel
theorem dX12_town_128 : decode cX12_town 128 = .ok (.goto 4, 3) := by decide +kernel
theorem dX12_town_131 : decode cX12_town 131 = .ok (.iconst 0, 1) := by decide +kernel
theorem dX12_town_132 : decode cX12_town 132 = .ok (.iastore, 1) := by decide +kernel
theorem dX12_town_133 : decode cX12_town 133 = .ok (.iinc 1 1, 3) := by decide +kernel
theorem dX12_town_136 : decode cX12_town 136 = .ok (.goto (-33), 3) := by decide +kernel
theorem dX12_town_139 : decode cX12_town 139 = .ok (.iconst 0, 1) := by decide +kernel
theorem dX12_town_140 : decode cX12_town 140 = .ok (.istore_n 1, 1) := by decide +kernel
theorem dX12_town_141 : decode cX12_town 141 = .ok (.iload_n 1, 1) := by decide +kernel
theorem dX12_town_142 : decode cX12_town 142 = .ok (.bipush 40, 2) := by decide +kernel
theorem dX12_town_144 : decode cX12_town 144 = .ok (.if_icmp .ge 24, 3) := by decide +kernel
theorem dX12_town_147 : decode cX12_town 147 = .ok (.aload_n 0, 1) := by decide +kernel
theorem dX12_town_148 : decode cX12_town 148 = .ok (.getfield 46, 3) := by decide +kernel
theorem dX12_town_151 : decode cX12_town 151 = .ok (.iload_n 1, 1) := by decide +kernel
theorem dX12_town_152 : decode cX12_town 152 = .ok (.aload_n 0, 1) := by decide +kernel
theorem dX12_town_153 : decode cX12_town 153 = .ok (.getfield 46, 3) := by decide +kernel
theorem dX12_town_156 : decode cX12_town 156 = .ok (.bipush 40, 2) := by decide +kernel
theorem dX12_town_158 : decode cX12_town 158 = .ok (.iload_n 1, 1) := by decide +kernel
theorem dX12_town_159 : decode cX12_town 159 = .ok (.iadd, 1) := by decide +kernel
theorem dX12_town_160 : decode cX12_town 160 = .ok (.laload, 1) := by decide +kernel
theorem dX12_town_161 : decode cX12_town 161 = .ok (.lastore, 1) := by decide +kernel
theorem dX12_town_162 : decode cX12_town 162 = .ok (.iinc 1 1, 3) := by decide +kernel
theorem dX12_town_165 : decode cX12_town 165 = .ok (.goto (-24), 3) := by decide +kernel
theorem dX12_town_168 : decode cX12_town 168 = .ok (.aload_n 0, 1) := by decide +kernel
theorem dX12_town_169 : decode cX12_town 169 = .ok (.iconst 1, 1) := by decide +kernel
theorem dX12_town_170 : decode cX12_town 170 = .ok (.putfield 151, 3) := by decide +kernel
theorem dX12_town_173 : decode cX12_town 173 = .ok (.aload_n 0, 1) := by decide +kernel
theorem dX12_town_174 : decode cX12_town 174 = .ok (.getfield 247, 3) := by decide +kernel
theorem dX12_town_177 : decode cX12_town 177 = .ok (.ireturn, 1) := by decide +kernel
theorem dX12_fault_0 : decode cX12_fault 0 = .ok (.aload_n 0, 1) := by decide +kernel
theorem dX12_fault_1 : decode cX12_fault 1 = .ok (.iconst 0, 1) := by decide +kernel
theorem dX12_fault_2 : decode cX12_fault 2 = .ok (.putfield 1, 3) := by decide +kernel
theorem dX12_fault_5 : decode cX12_fault 5 = .ok (.aload_n 0, 1) := by decide +kernel
theorem dX12_fault_6 : decode cX12_fault 6 = .ok (.getfield 182, 3) := by decide +kernel
theorem dX12_fault_9 : decode cX12_fault 9 = .ok (.ireturn, 1) := by decide +kernel
set_option maxRecDepth 20000 in
theorem ggX12_isPerson_X12_isIn : GoodIn wsX12_isPerson wsX12_isIn := goodIn_r _ [5] (by decide +kernel) (by decide +kernel)
set_option maxRecDepth 20000 in
theorem gX12_isPerson_X12_isIn : GoodIn wsX12_isPerson (va_wsS RX12 197 yX12_isIn wsX12_isIn) := goodIn_app (goodIn_of _ (by decide +kernel)) ggX12_isPerson_X12_isIn
theorem dX12_isPerson_0 : decode cX12_isPerson 0 = .ok (.iload_n 1, 1) := by decide +kernel
theorem dX12_isPerson_1 : decode cX12_isPerson 1 = .ok (.iconst 0, 1) := by decide +kernel
theorem dX12_isPerson_2 : decode cX12_isPerson 2 = .ok (.aload_n 0, 1) := by decide +kernel
theorem dX12_isPerson_3 : decode cX12_isPerson 3 = .ok (.getfield 33, 3) := by decide +kernel
theorem dX12_isPerson_6 : decode cX12_isPerson 6 = .ok (.iconst 0, 1) := by decide +kernel
theorem dX12_isPerson_7 : decode cX12_isPerson 7 = .ok (.iaload, 1) := by decide +kernel
theorem dX12_isPerson_8 : decode cX12_isPerson 8 = .ok (.iconst 1, 1) := by decide +kernel
theorem dX12_isPerson_9 : decode cX12_isPerson 9 = .ok (.isub, 1) := by decide +kernel
theorem dX12_isPerson_10 : decode cX12_isPerson 10 = .ok (.invokestatic 197, 3) := by decide +kernel
theorem dX12_isPerson_13 : decode cX12_isPerson 13 = .ok (.ireturn, 1) := by decide +kernel
set_option maxRecDepth 20000 in
theorem ggX12_isDeal_X12_isIn : GoodIn wsX12_isDeal wsX12_isIn := goodIn_r _ [5] (by decide +kernel) (by decide +kernel)
set_option maxRecDepth 20000 in
theorem gX12_isDeal_X12_isIn : GoodIn wsX12_isDeal (va_wsS RX12 197 yX12_isIn wsX12_isIn) := goodIn_app (goodIn_of _ (by decide +kernel)) ggX12_isDeal_X12_isIn
theorem dX12_isDeal_0 : decode cX12_isDeal 0 = .ok (.iload_n 1, 1) := by decide +kernel
theorem dX12_isDeal_1 : decode cX12_isDeal 1 = .ok (.iconst 0, 1) := by decide +kernel
theorem dX12_isDeal_2 : decode cX12_isDeal 2 = .ok (.aload_n 0, 1) := by decide +kernel
theorem dX12_isDeal_3 : decode cX12_isDeal 3 = .ok (.getfield 33, 3) := by decide +kernel
theorem dX12_isDeal_6 : decode cX12_isDeal 6 = .ok (.iconst 1, 1) := by decide +kernel
theorem dX12_isDeal_7 : decode cX12_isDeal 7 = .ok (.iaload, 1) := by decide +kernel
theorem dX12_isDeal_8 : decode cX12_isDeal 8 = .ok (.iconst 1, 1) := by decide +kernel
theorem dX12_isDeal_9 : decode cX12_isDeal 9 = .ok (.isub, 1) := by decide +kernel
theorem dX12_isDeal_10 : decode cX12_isDeal 10 = .ok (.invokestatic 197, 3) := by decide +kernel
theorem dX12_isDeal_13 : decode cX12_isDeal 13 = .ok (.ireturn, 1) := by decide +kernel
set_option maxRecDepth 20000 in
theorem ggX12_isParts_X12_isIn : GoodIn wsX12_isParts wsX12_isIn := goodIn_r _ [5] (by decide +kernel) (by decide +kernel)
set_option maxRecDepth 20000 in
theorem gX12_isParts_X12_isIn : GoodIn wsX12_isParts (va_wsS RX12 197 yX12_isIn wsX12_isIn) := goodIn_app (goodIn_of _ (by decide +kernel)) ggX12_isParts_X12_isIn
theorem dX12_isParts_0 : decode cX12_isParts 0 = .ok (.iload_n 1, 1) := by decide +kernel
theorem dX12_isParts_1 : decode cX12_isParts 1 = .ok (.iconst 0, 1) := by decide +kernel
theorem dX12_isParts_2 : decode cX12_isParts 2 = .ok (.iconst 1, 1) := by decide +kernel
theorem dX12_isParts_3 : decode cX12_isParts 3 = .ok (.aload_n 0, 1) := by decide +kernel
theorem dX12_isParts_4 : decode cX12_isParts 4 = .ok (.getfield 33, 3) := by decide +kernel
theorem dX12_isParts_7 : decode cX12_isParts 7 = .ok (.iconst 0, 1) := by decide +kernel
theorem dX12_isParts_8 : decode cX12_isParts 8 = .ok (.iaload, 1) := by decide +kernel
theorem dX12_isParts_9 : decode cX12_isParts 9 = .ok (.ishl, 1) := by decide +kernel
theorem dX12_isParts_10 : decode cX12_isParts 10 = .ok (.iconst 1, 1) := by decide +kernel
theorem dX12_isParts_11 : decode cX12_isParts 11 = .ok (.isub, 1) := by decide +kernel
theorem dX12_isParts_12 : decode cX12_isParts 12 = .ok (.invokestatic 197, 3) := by decide +kernel
theorem dX12_isParts_15 : decode cX12_isParts 15 = .ok (.ireturn, 1) := by decide +kernel
theorem dX12_of_0 : decode cX12_of 0 = .ok (.aload_n 0, 1) := by decide +kernel
theorem dX12_of_1 : decode cX12_of 1 = .ok (.getfield 33, 3) := by decide +kernel
theorem dX12_of_4 : decode cX12_of 4 = .ok (.bipush 44, 2) := by decide +kernel
theorem dX12_of_6 : decode cX12_of 6 = .ok (.bipush 6, 2) := by decide +kernel
theorem dX12_of_8 : decode cX12_of 8 = .ok (.iload_n 1, 1) := by decide +kernel
theorem dX12_of_9 : decode cX12_of 9 = .ok (.imul, 1) := by decide +kernel
theorem dX12_of_10 : decode cX12_of 10 = .ok (.iadd, 1) := by decide +kernel
theorem dX12_of_11 : decode cX12_of 11 = .ok (.iload_n 2, 1) := by decide +kernel
theorem dX12_of_12 : decode cX12_of 12 = .ok (.iadd, 1) := by decide +kernel
theorem dX12_of_13 : decode cX12_of 13 = .ok (.iaload, 1) := by decide +kernel
theorem dX12_of_14 : decode cX12_of 14 = .ok (.ireturn, 1) := by decide +kernel
set_option maxRecDepth 20000 in
theorem ggX12_person_X12_isPerson : GoodIn wsX12_person wsX12_isPerson := goodIn_r _ [6, 1, 7, 8, 5, 9, 15, 16, 17, 18, 19, 20, 21, 22, 23, 24, 25, 26, 27, 28, 29, 30, 31, 32, 33, 34, 35, 36, 37, 38, 39, 40, 41, 42, 43, 44, 45, 46, 47, 48, 49, 50, 51, 52, 53, 54, 55, 56, 57, 58, 59, 60, 61, 62, 63, 64, 65, 66, 67, 68, 69, 70, 71, 72] (by decide +kernel) (by decide +kernel)
set_option maxRecDepth 20000 in
theorem gX12_person_X12_isPerson : GoodIn wsX12_person (wsV RX12 256 RX12 yX12_isPerson wsX12_isPerson) := goodIn_app (goodIn_of _ (by decide +kernel)) ggX12_person_X12_isPerson
set_option maxRecDepth 20000 in
theorem ggX12_person_X12_isIn : GoodIn wsX12_person wsX12_isIn := goodIn_r _ [9] (by decide +kernel) (by decide +kernel)
set_option maxRecDepth 20000 in
theorem gX12_person_X12_isIn : GoodIn wsX12_person (va_wsS RX12 197 yX12_isIn wsX12_isIn) := goodIn_app (goodIn_of _ (by decide +kernel)) ggX12_person_X12_isIn
set_option maxRecDepth 20000 in
theorem ggX12_person_X12_throwsIf : GoodIn wsX12_person wsX12_throwsIf := goodIn_r _ [13, 14, 15, 16, 17, 18, 19, 20, 21, 22, 23, 24, 25, 26, 27, 28, 29, 30, 31, 32, 33, 34, 35, 36, 37, 38, 39, 40, 41, 42, 43, 44, 45, 46, 47, 48, 49, 50, 51, 52, 53, 54, 55, 56, 57, 58, 59, 60, 61, 62, 63, 64, 65, 66, 67, 68, 69, 70, 71, 72] (by decide +kernel) (by decide +kernel)
set_option maxRecDepth 20000 in
theorem gX12_person_X12_throwsIf : GoodIn wsX12_person (wsV RX12 259 RX12 yX12_throwsIf wsX12_throwsIf) := goodIn_app (goodIn_of _ (by decide +kernel)) ggX12_person_X12_throwsIf
theorem dX12_person_0 : decode cX12_person 0 = .ok (.aload_n 0, 1) := by decide +kernel
theorem dX12_person_1 : decode cX12_person 1 = .ok (.aload_n 0, 1) := by decide +kernel
theorem dX12_person_2 : decode cX12_person 2 = .ok (.iload_n 1, 1) := by decide +kernel
theorem dX12_person_3 : decode cX12_person 3 = .ok (.invokevirtual 256, 3) := by decide +kernel
theorem dX12_person_6 : decode cX12_person 6 = .ok (.ifCond .eq 12, 3) := by decide +kernel
theorem dX12_person_9 : decode cX12_person 9 = .ok (.iload_n 2, 1) := by decide +kernel
theorem dX12_person_10 : decode cX12_person 10 = .ok (.iconst 0, 1) := by decide +kernel
theorem dX12_person_11 : decode cX12_person 11 = .ok (.iconst 3, 1) := by decide +kernel
theorem dX12_person_12 : decode cX12_person 12 = .ok (.invokestatic 197, 3) := by decide +kernel
theorem dX12_person_15 : decode cX12_person 15 = .ok (.ifCond .ne 7, 3) := by decide +kernel
theorem dX12_person_18 : decode cX12_person 18 = .ok (.iconst 1, 1) := by decide +kernel
theorem dX12_person_19 : decode cX12_person 19 = .ok (.goto 4, 3) := by decide +kernel
theorem dX12_person_22 : decode cX12_person 22 = .ok (.iconst 0, 1) := by decide +kernel
theorem dX12_person_23 : decode cX12_person 23 = .ok (.invokevirtual 259, 3) := by decide +kernel
theorem dX12_person_26 : decode cX12_person 26 = .ok (.ifCond .eq 5, 3) := by decide +kernel
theorem dX12_person_29 : decode cX12_person 29 = .ok (.iconst 0, 1) := by decide +kernel
theorem dX12_person_30 : decode cX12_person 30 = .ok (.ireturn, 1) := by decide +kernel
theorem dX12_person_31 : decode cX12_person 31 = .ok (.iload_n 2, 1) := by decide +kernel
theorem dX12_person_32 : decode cX12_person 32 = .ok (.ifCond .ne 14, 3) := by decide +kernel
theorem dX12_person_35 : decode cX12_person 35 = .ok (.aload_n 0, 1) := by decide +kernel
theorem dX12_person_36 : decode cX12_person 36 = .ok (.getfield 33, 3) := by decide +kernel
theorem dX12_person_39 : decode cX12_person 39 = .ok (.iconst 4, 1) := by decide +kernel
theorem dX12_person_40 : decode cX12_person 40 = .ok (.iload_n 1, 1) := by decide +kernel
theorem dX12_person_41 : decode cX12_person 41 = .ok (.iadd, 1) := by decide +kernel
theorem dX12_person_42 : decode cX12_person 42 = .ok (.iaload, 1) := by decide +kernel
theorem dX12_person_43 : decode cX12_person 43 = .ok (.goto 55, 3) := by decide +kernel
theorem dX12_person_46 : decode cX12_person 46 = .ok (.iload_n 2, 1) := by decide +kernel
theorem dX12_person_47 : decode cX12_person 47 = .ok (.iconst 1, 1) := by decide +kernel
theorem dX12_person_48 : decode cX12_person 48 = .ok (.if_icmp .ne 15, 3) := by decide +kernel
theorem dX12_person_51 : decode cX12_person 51 = .ok (.aload_n 0, 1) := by decide +kernel
theorem dX12_person_52 : decode cX12_person 52 = .ok (.getfield 33, 3) := by decide +kernel
theorem dX12_person_55 : decode cX12_person 55 = .ok (.bipush 14, 2) := by decide +kernel
theorem dX12_person_57 : decode cX12_person 57 = .ok (.iload_n 1, 1) := by decide +kernel
theorem dX12_person_58 : decode cX12_person 58 = .ok (.iadd, 1) := by decide +kernel
theorem dX12_person_59 : decode cX12_person 59 = .ok (.iaload, 1) := by decide +kernel
theorem dX12_person_60 : decode cX12_person 60 = .ok (.goto 38, 3) := by decide +kernel
theorem dX12_person_63 : decode cX12_person 63 = .ok (.iload_n 2, 1) := by decide +kernel
theorem dX12_person_64 : decode cX12_person 64 = .ok (.iconst 2, 1) := by decide +kernel
theorem dX12_person_65 : decode cX12_person 65 = .ok (.if_icmp .ne 15, 3) := by decide +kernel
theorem dX12_person_68 : decode cX12_person 68 = .ok (.aload_n 0, 1) := by decide +kernel
theorem dX12_person_69 : decode cX12_person 69 = .ok (.getfield 33, 3) := by decide +kernel
theorem dX12_person_72 : decode cX12_person 72 = .ok (.bipush 24, 2) := by decide +kernel
theorem dX12_person_74 : decode cX12_person 74 = .ok (.iload_n 1, 1) := by decide +kernel
theorem dX12_person_75 : decode cX12_person 75 = .ok (.iadd, 1) := by decide +kernel
theorem dX12_person_76 : decode cX12_person 76 = .ok (.iaload, 1) := by decide +kernel
theorem dX12_person_77 : decode cX12_person 77 = .ok (.goto 21, 3) := by decide +kernel
theorem dX12_person_80 : decode cX12_person 80 = .ok (.aload_n 0, 1) := by decide +kernel
theorem dX12_person_81 : decode cX12_person 81 = .ok (.getfield 33, 3) := by decide +kernel
theorem dX12_person_84 : decode cX12_person 84 = .ok (.bipush 34, 2) := by decide +kernel
theorem dX12_person_86 : decode cX12_person 86 = .ok (.iload_n 1, 1) := by decide +kernel
theorem dX12_person_87 : decode cX12_person 87 = .ok (.iadd, 1) := by decide +kernel
theorem dX12_person_88 : decode cX12_person 88 = .ok (.iaload, 1) := by decide +kernel
theorem dX12_person_89 : decode cX12_person 89 = .ok (.iconst 2, 1) := by decide +kernel
theorem dX12_person_90 : decode cX12_person 90 = .ok (.if_icmp .ne 7, 3) := by decide +kernel
theorem dX12_person_93 : decode cX12_person 93 = .ok (.iconst 1, 1) := by decide +kernel
theorem dX12_person_94 : decode cX12_person 94 = .ok (.goto 4, 3) := by decide +kernel
theorem dX12_person_97 : decode cX12_person 97 = .ok (.iconst 0, 1) := by decide +kernel
theorem dX12_person_98 : decode cX12_person 98 = .ok (.ireturn, 1) := by decide +kernel
set_option maxRecDepth 20000 in
theorem ggX12_deal_X12_isDeal : GoodIn wsX12_deal wsX12_isDeal := goodIn_r _ [5, 6, 7, 8, 4, 9, 23, 24, 25, 26, 27, 28, 29, 30, 31, 32, 33, 34, 35, 36, 37, 38, 39, 40, 41, 42, 43, 44, 45, 46, 47, 48, 49, 50, 51, 52, 53, 54, 55, 56, 57, 58, 59, 60, 61, 62, 63, 64, 65, 66, 67, 68, 69, 70, 71, 72, 73, 74, 75, 76, 77, 78, 79, 80] (by decide +kernel) (by decide +kernel)
set_option maxRecDepth 20000 in
theorem gX12_deal_X12_isDeal : GoodIn wsX12_deal (wsV RX12 263 RX12 yX12_isDeal wsX12_isDeal) := goodIn_app (goodIn_of _ (by decide +kernel)) ggX12_deal_X12_isDeal
set_option maxRecDepth 20000 in
theorem ggX12_deal_X12_isIn : GoodIn wsX12_deal wsX12_isIn := goodIn_r _ [9] (by decide +kernel) (by decide +kernel)
set_option maxRecDepth 20000 in
theorem gX12_deal_X12_isIn : GoodIn wsX12_deal (va_wsS RX12 197 yX12_isIn wsX12_isIn) := goodIn_app (goodIn_of _ (by decide +kernel)) ggX12_deal_X12_isIn
set_option maxRecDepth 20000 in
theorem ggX12_deal_X12_throwsIf : GoodIn wsX12_deal wsX12_throwsIf := goodIn_r _ [13, 14, 23, 24, 25, 26, 27, 28, 29, 30, 31, 32, 33, 34, 35, 36, 37, 38, 39, 40, 41, 42, 43, 44, 45, 46, 47, 48, 49, 50, 51, 52, 53, 54, 55, 56, 57, 58, 59, 60, 61, 62, 63, 64, 65, 66, 67, 68, 69, 70, 71, 72, 73, 74, 75, 76, 77, 78, 79, 80] (by decide +kernel) (by decide +kernel)
set_option maxRecDepth 20000 in
theorem gX12_deal_X12_throwsIf : GoodIn wsX12_deal (wsV RX12 259 RX12 yX12_throwsIf wsX12_throwsIf) := goodIn_app (goodIn_of _ (by decide +kernel)) ggX12_deal_X12_throwsIf
set_option maxRecDepth 20000 in
theorem ggX12_deal_X12_of : GoodIn wsX12_deal wsX12_of := goodIn_r _ [18, 6, 23, 24, 25, 26, 27, 28, 29, 30, 31, 32, 33, 34, 35, 36, 37, 38, 39, 40, 41, 42, 43, 44, 45, 46, 47, 48, 49, 50, 51, 52, 53, 54, 55, 56, 57, 58, 59, 60, 61, 62, 63, 64, 65, 66, 67, 68, 69, 70, 71, 72, 73, 74, 75, 76, 77, 78, 79, 80] (by decide +kernel) (by decide +kernel)
set_option maxRecDepth 20000 in
theorem gX12_deal_X12_of : GoodIn wsX12_deal (wsV RX12 266 RX12 yX12_of wsX12_of) := goodIn_app (goodIn_of _ (by decide +kernel)) ggX12_deal_X12_of
set_option maxRecDepth 20000 in
theorem ggX12_deal_X12_doneAs : GoodIn wsX12_deal wsX12_doneAs := goodIn_r _ [22, 6, 23, 24, 25, 26, 27, 28, 29, 30, 31, 32, 33, 34, 35, 36, 37, 38, 39, 40, 41, 42, 43, 44, 45, 46, 47, 48, 49, 50, 51, 52, 53, 54, 55, 56, 57, 58, 59, 60, 61, 62, 63, 64, 65, 66, 67, 68, 69, 70, 71, 72, 73, 74, 75, 76, 77, 78, 79, 80] (by decide +kernel) (by decide +kernel)
set_option maxRecDepth 20000 in
theorem gX12_deal_X12_doneAs : GoodIn wsX12_deal (wsV RX12 269 RX12 yX12_doneAs wsX12_doneAs) := goodIn_app (goodIn_of _ (by decide +kernel)) ggX12_deal_X12_doneAs
theorem dX12_deal_0 : decode cX12_deal 0 = .ok (.aload_n 0, 1) := by decide +kernel
theorem dX12_deal_1 : decode cX12_deal 1 = .ok (.aload_n 0, 1) := by decide +kernel
theorem dX12_deal_2 : decode cX12_deal 2 = .ok (.iload_n 1, 1) := by decide +kernel
theorem dX12_deal_3 : decode cX12_deal 3 = .ok (.invokevirtual 263, 3) := by decide +kernel
theorem dX12_deal_6 : decode cX12_deal 6 = .ok (.ifCond .eq 13, 3) := by decide +kernel
theorem dX12_deal_9 : decode cX12_deal 9 = .ok (.iload_n 2, 1) := by decide +kernel
theorem dX12_deal_10 : decode cX12_deal 10 = .ok (.iconst 0, 1) := by decide +kernel
theorem dX12_deal_11 : decode cX12_deal 11 = .ok (.bipush 6, 2) := by decide +kernel
theorem dX12_deal_13 : decode cX12_deal 13 = .ok (.invokestatic 197, 3) := by decide +kernel
theorem dX12_deal_16 : decode cX12_deal 16 = .ok (.ifCond .ne 7, 3) := by decide +kernel
theorem dX12_deal_19 : decode cX12_deal 19 = .ok (.iconst 1, 1) := by decide +kernel
theorem dX12_deal_20 : decode cX12_deal 20 = .ok (.goto 4, 3) := by decide +kernel
theorem dX12_deal_23 : decode cX12_deal 23 = .ok (.iconst 0, 1) := by decide +kernel
theorem dX12_deal_24 : decode cX12_deal 24 = .ok (.invokevirtual 259, 3) := by decide +kernel
theorem dX12_deal_27 : decode cX12_deal 27 = .ok (.ifCond .eq 5, 3) := by decide +kernel
theorem dX12_deal_30 : decode cX12_deal 30 = .ok (.iconst 0, 1) := by decide +kernel
theorem dX12_deal_31 : decode cX12_deal 31 = .ok (.ireturn, 1) := by decide +kernel
theorem dX12_deal_32 : decode cX12_deal 32 = .ok (.iload_n 2, 1) := by decide +kernel
theorem dX12_deal_33 : decode cX12_deal 33 = .ok (.bipush 6, 2) := by decide +kernel
theorem dX12_deal_35 : decode cX12_deal 35 = .ok (.if_icmp .ge 12, 3) := by decide +kernel
theorem dX12_deal_38 : decode cX12_deal 38 = .ok (.aload_n 0, 1) := by decide +kernel
theorem dX12_deal_39 : decode cX12_deal 39 = .ok (.iload_n 1, 1) := by decide +kernel
theorem dX12_deal_40 : decode cX12_deal 40 = .ok (.iload_n 2, 1) := by decide +kernel
theorem dX12_deal_41 : decode cX12_deal 41 = .ok (.invokevirtual 266, 3) := by decide +kernel
theorem dX12_deal_44 : decode cX12_deal 44 = .ok (.goto 8, 3) := by decide +kernel
theorem dX12_deal_47 : decode cX12_deal 47 = .ok (.aload_n 0, 1) := by decide +kernel
theorem dX12_deal_48 : decode cX12_deal 48 = .ok (.iload_n 1, 1) := by decide +kernel
theorem dX12_deal_49 : decode cX12_deal 49 = .ok (.invokevirtual 269, 3) := by decide +kernel
theorem dX12_deal_52 : decode cX12_deal 52 = .ok (.ireturn, 1) := by decide +kernel
theorem dX12_doneAs_0 : decode cX12_doneAs 0 = .ok (.iconst 0, 1) := by decide +kernel
theorem dX12_doneAs_1 : decode cX12_doneAs 1 = .ok (.istore_n 2, 1) := by decide +kernel
theorem dX12_doneAs_2 : decode cX12_doneAs 2 = .ok (.iload_n 2, 1) := by decide +kernel
theorem dX12_doneAs_3 : decode cX12_doneAs 3 = .ok (.aload_n 0, 1) := by decide +kernel
theorem dX12_doneAs_4 : decode cX12_doneAs 4 = .ok (.getfield 33, 3) := by decide +kernel
theorem dX12_doneAs_7 : decode cX12_doneAs 7 = .ok (.iconst 3, 1) := by decide +kernel
theorem dX12_doneAs_8 : decode cX12_doneAs 8 = .ok (.iaload, 1) := by decide +kernel
theorem dX12_doneAs_9 : decode cX12_doneAs 9 = .ok (.if_icmp .ge 36, 3) := by decide +kernel
theorem dX12_doneAs_12 : decode cX12_doneAs 12 = .ok (.aload_n 0, 1) := by decide +kernel
theorem dX12_doneAs_13 : decode cX12_doneAs 13 = .ok (.getfield 33, 3) := by decide +kernel
theorem dX12_doneAs_16 : decode cX12_doneAs 16 = .ok (.sipush 224, 3) := by decide +kernel
theorem dX12_doneAs_19 : decode cX12_doneAs 19 = .ok (.iload_n 2, 1) := by decide +kernel
theorem dX12_doneAs_20 : decode cX12_doneAs 20 = .ok (.iadd, 1) := by decide +kernel
theorem dX12_doneAs_21 : decode cX12_doneAs 21 = .ok (.iaload, 1) := by decide +kernel
theorem dX12_doneAs_22 : decode cX12_doneAs 22 = .ok (.iload_n 1, 1) := by decide +kernel
theorem dX12_doneAs_23 : decode cX12_doneAs 23 = .ok (.if_icmp .ne 16, 3) := by decide +kernel
theorem dX12_doneAs_26 : decode cX12_doneAs 26 = .ok (.iconst 1, 1) := by decide +kernel
theorem dX12_doneAs_27 : decode cX12_doneAs 27 = .ok (.aload_n 0, 1) := by decide +kernel
theorem dX12_doneAs_28 : decode cX12_doneAs 28 = .ok (.getfield 33, 3) := by decide +kernel
theorem dX12_doneAs_31 : decode cX12_doneAs 31 = .ok (.sipush 254, 3) := by decide +kernel
theorem dX12_doneAs_34 : decode cX12_doneAs 34 = .ok (.iload_n 2, 1) := by decide +kernel
theorem dX12_doneAs_35 : decode cX12_doneAs 35 = .ok (.iadd, 1) := by decide +kernel
theorem dX12_doneAs_36 : decode cX12_doneAs 36 = .ok (.iaload, 1) := by decide +kernel
theorem dX12_doneAs_37 : decode cX12_doneAs 37 = .ok (.iadd, 1) := by decide +kernel
theorem dX12_doneAs_38 : decode cX12_doneAs 38 = .ok (.ireturn, 1) := by decide +kernel
theorem dX12_doneAs_39 : decode cX12_doneAs 39 = .ok (.iinc 2 1, 3) := by decide +kernel
theorem dX12_doneAs_42 : decode cX12_doneAs 42 = .ok (.goto (-40), 3) := by decide +kernel
theorem dX12_doneAs_45 : decode cX12_doneAs 45 = .ok (.iconst 0, 1) := by decide +kernel
theorem dX12_doneAs_46 : decode cX12_doneAs 46 = .ok (.ireturn, 1) := by decide +kernel
set_option maxRecDepth 20000 in
theorem ggX12_lender_X12_of : GoodIn wsX12_lender wsX12_of := goodIn_r _ [5, 6, 7, 8, 9, 10, 11, 12, 13, 14, 15, 16, 17, 18, 19, 20, 21, 22, 23, 24, 25, 26, 27, 28, 29, 30, 31, 32, 33, 34, 35, 36, 37, 38, 39, 40, 41, 42, 43, 44, 45, 46, 47, 48, 49, 50, 51, 52, 53, 54, 55, 56, 57, 58, 59, 60, 61, 62, 63, 64] (by decide +kernel) (by decide +kernel)
set_option maxRecDepth 20000 in
theorem gX12_lender_X12_of : GoodIn wsX12_lender (wsV RX12 266 RX12 yX12_of wsX12_of) := goodIn_app (goodIn_of _ (by decide +kernel)) ggX12_lender_X12_of
theorem dX12_lender_0 : decode cX12_lender 0 = .ok (.aload_n 0, 1) := by decide +kernel
theorem dX12_lender_1 : decode cX12_lender 1 = .ok (.iload_n 1, 1) := by decide +kernel
theorem dX12_lender_2 : decode cX12_lender 2 = .ok (.iload_n 2, 1) := by decide +kernel
theorem dX12_lender_3 : decode cX12_lender 3 = .ok (.invokevirtual 266, 3) := by decide +kernel
theorem dX12_lender_6 : decode cX12_lender 6 = .ok (.ireturn, 1) := by decide +kernel
set_option maxRecDepth 20000 in
theorem ggX12_borrower_X12_of : GoodIn wsX12_borrower wsX12_of := goodIn_r _ [5, 6, 7, 8, 9, 10, 11, 12, 13, 14, 15, 16, 17, 18, 19, 20, 21, 22, 23, 24, 25, 26, 27, 28, 29, 30, 31, 32, 33, 34, 35, 36, 37, 38, 39, 40, 41, 42, 43, 44, 45, 46, 47, 48, 49, 50, 51, 52, 53, 54, 55, 56, 57, 58, 59, 60, 61, 62, 63, 64] (by decide +kernel) (by decide +kernel)
set_option maxRecDepth 20000 in
theorem gX12_borrower_X12_of : GoodIn wsX12_borrower (wsV RX12 266 RX12 yX12_of wsX12_of) := goodIn_app (goodIn_of _ (by decide +kernel)) ggX12_borrower_X12_of
theorem dX12_borrower_0 : decode cX12_borrower 0 = .ok (.aload_n 0, 1) := by decide +kernel
theorem dX12_borrower_1 : decode cX12_borrower 1 = .ok (.iload_n 1, 1) := by decide +kernel
theorem dX12_borrower_2 : decode cX12_borrower 2 = .ok (.iconst 1, 1) := by decide +kernel
theorem dX12_borrower_3 : decode cX12_borrower 3 = .ok (.iload_n 2, 1) := by decide +kernel
theorem dX12_borrower_4 : decode cX12_borrower 4 = .ok (.isub, 1) := by decide +kernel
theorem dX12_borrower_5 : decode cX12_borrower 5 = .ok (.invokevirtual 266, 3) := by decide +kernel
theorem dX12_borrower_8 : decode cX12_borrower 8 = .ok (.ireturn, 1) := by decide +kernel
theorem dX12_now_0 : decode cX12_now 0 = .ok (.aload_n 0, 1) := by decide +kernel
theorem dX12_now_1 : decode cX12_now 1 = .ok (.getfield 53, 3) := by decide +kernel
theorem dX12_now_4 : decode cX12_now 4 = .ok (.iload_n 1, 1) := by decide +kernel
theorem dX12_now_5 : decode cX12_now 5 = .ok (.iaload, 1) := by decide +kernel
theorem dX12_now_6 : decode cX12_now 6 = .ok (.ifCond .le 38, 3) := by decide +kernel
theorem dX12_now_9 : decode cX12_now 9 = .ok (.aload_n 0, 1) := by decide +kernel
theorem dX12_now_10 : decode cX12_now 10 = .ok (.getfield 33, 3) := by decide +kernel
theorem dX12_now_13 : decode cX12_now 13 = .ok (.iconst 2, 1) := by decide +kernel
theorem dX12_now_14 : decode cX12_now 14 = .ok (.iaload, 1) := by decide +kernel
theorem dX12_now_15 : decode cX12_now 15 = .ok (.ifCond .eq 20, 3) := by decide +kernel
theorem dX12_now_18 : decode cX12_now 18 = .ok (.iload_n 2, 1) := by decide +kernel
theorem dX12_now_19 : decode cX12_now 19 = .ok (.aload_n 0, 1) := by decide +kernel
theorem dX12_now_20 : decode cX12_now 20 = .ok (.getfield 56, 3) := by decide +kernel
theorem dX12_now_23 : decode cX12_now 23 = .ok (.iload_n 1, 1) := by decide +kernel
theorem dX12_now_24 : decode cX12_now 24 = .ok (.iaload, 1) := by decide +kernel
theorem dX12_now_25 : decode cX12_now 25 = .ok (.aload_n 0, 1) := by decide +kernel
theorem dX12_now_26 : decode cX12_now 26 = .ok (.getfield 33, 3) := by decide +kernel
theorem dX12_now_29 : decode cX12_now 29 = .ok (.iconst 2, 1) := by decide +kernel
theorem dX12_now_30 : decode cX12_now 30 = .ok (.iaload, 1) := by decide +kernel
theorem dX12_now_31 : decode cX12_now 31 = .ok (.iadd, 1) := by decide +kernel
theorem dX12_now_32 : decode cX12_now 32 = .ok (.if_icmp .ge 12, 3) := by decide +kernel
theorem dX12_now_35 : decode cX12_now 35 = .ok (.aload_n 0, 1) := by decide +kernel
theorem dX12_now_36 : decode cX12_now 36 = .ok (.getfield 53, 3) := by decide +kernel
theorem dX12_now_39 : decode cX12_now 39 = .ok (.iload_n 1, 1) := by decide +kernel
theorem dX12_now_40 : decode cX12_now 40 = .ok (.iaload, 1) := by decide +kernel
theorem dX12_now_41 : decode cX12_now 41 = .ok (.goto 4, 3) := by decide +kernel
theorem dX12_now_44 : decode cX12_now 44 = .ok (.iconst 0, 1) := by decide +kernel
theorem dX12_now_45 : decode cX12_now 45 = .ok (.ireturn, 1) := by decide +kernel
set_option maxRecDepth 20000 in
theorem ggX12_bind_X12_of : GoodIn wsX12_bind wsX12_of := goodIn_r _ [7, 2, 25, 26, 27, 28, 29, 30, 31, 32, 33, 34, 35, 36, 37, 38, 39, 40, 41, 42, 43, 44, 45, 46, 47, 48, 49, 50, 51, 52, 53, 54, 55, 56, 57, 58, 59, 60, 61, 62, 63, 64, 65, 66, 67, 68, 69, 70, 71, 72, 73, 74, 75, 76, 77, 78, 79, 80, 81, 82] (by decide +kernel) (by decide +kernel)
set_option maxRecDepth 20000 in
theorem gX12_bind_X12_of : GoodIn wsX12_bind (wsV RX12 266 RX12 yX12_of wsX12_of) := goodIn_app (goodIn_of _ (by decide +kernel)) ggX12_bind_X12_of
set_option maxRecDepth 20000 in
theorem ggX12_bind_X12_lender : GoodIn wsX12_bind wsX12_lender := goodIn_r _ [11, 3, 4, 5, 6, 7, 2, 25, 26, 27, 28, 29, 30, 31, 32, 33, 34, 35, 36, 37, 38, 39, 40, 41, 42, 43, 44, 45, 46, 47, 48, 49, 50, 51, 52, 53, 54, 55, 56, 57, 58, 59, 60, 61, 62, 63, 64, 65, 66, 67, 68, 69, 70, 71, 72, 73, 74, 75, 76, 77, 78, 79, 80, 81, 82] (by decide +kernel) (by decide +kernel)
set_option maxRecDepth 20000 in
theorem gX12_bind_X12_lender : GoodIn wsX12_bind (wsV RX12 273 RX12 yX12_lender wsX12_lender) := goodIn_app (goodIn_of _ (by decide +kernel)) ggX12_bind_X12_lender
set_option maxRecDepth 20000 in
theorem ggX12_bind_X12_bound : GoodIn wsX12_bind wsX12_bound := goodIn_r _ [15, 1, 16, 17, 18, 19, 6, 20, 2, 25, 26, 27, 28, 29, 30, 31, 32, 33, 34, 35, 36, 37, 38, 39, 40, 41, 42, 43, 44, 45, 46, 47, 48, 49, 50, 51, 52, 53, 54, 55, 56, 57, 58, 59, 60, 61, 62, 63, 64, 65, 66, 67, 68, 69, 70, 71, 72, 73, 74, 75, 76, 77, 78, 79, 80, 81, 82] (by decide +kernel) (by decide +kernel)
set_option maxRecDepth 20000 in
theorem gX12_bind_X12_bound : GoodIn wsX12_bind (wsV RX12 276 RX12 yX12_bound wsX12_bound) := goodIn_app (goodIn_of _ (by decide +kernel)) ggX12_bind_X12_bound
set_option maxRecDepth 20000 in
theorem ggX12_bind_X12_borrower : GoodIn wsX12_bind wsX12_borrower := goodIn_r _ [24, 3, 4, 5, 6, 7, 2, 25, 26, 27, 28, 29, 30, 31, 32, 33, 34, 35, 36, 37, 38, 39, 40, 41, 42, 43, 44, 45, 46, 47, 48, 49, 50, 51, 52, 53, 54, 55, 56, 57, 58, 59, 60, 61, 62, 63, 64, 65, 66, 67, 68, 69, 70, 71, 72, 73, 74, 75, 76, 77, 78, 79, 80, 81, 82] (by decide +kernel) (by decide +kernel)
set_option maxRecDepth 20000 in
theorem gX12_bind_X12_borrower : GoodIn wsX12_bind (wsV RX12 280 RX12 yX12_borrower wsX12_borrower) := goodIn_app (goodIn_of _ (by decide +kernel)) ggX12_bind_X12_borrower
theorem dX12_bind_0 : decode cX12_bind 0 = .ok (.iconst 0, 1) := by decide +kernel
theorem dX12_bind_1 : decode cX12_bind 1 = .ok (.istore_n 2, 1) := by decide +kernel
theorem dX12_bind_2 : decode cX12_bind 2 = .ok (.iload_n 2, 1) := by decide +kernel
theorem dX12_bind_3 : decode cX12_bind 3 = .ok (.bipush 10, 2) := by decide +kernel
theorem dX12_bind_5 : decode cX12_bind 5 = .ok (.if_icmp .ge 16, 3) := by decide +kernel
theorem dX12_bind_8 : decode cX12_bind 8 = .ok (.aload_n 0, 1) := by decide +kernel
theorem dX12_bind_9 : decode cX12_bind 9 = .ok (.getfield 53, 3) := by decide +kernel
theorem dX12_bind_12 : decode cX12_bind 12 = .ok (.iload_n 2, 1) := by decide +kernel
theorem dX12_bind_13 : decode cX12_bind 13 = .ok (.iconst 0, 1) := by decide +kernel
theorem dX12_bind_14 : decode cX12_bind 14 = .ok (.iastore, 1) := by decide +kernel
theorem dX12_bind_15 : decode cX12_bind 15 = .ok (.iinc 2 1, 3) := by decide +kernel
theorem dX12_bind_18 : decode cX12_bind 18 = .ok (.goto (-16), 3) := by decide +kernel
theorem dX12_bind_21 : decode cX12_bind 21 = .ok (.iconst 0, 1) := by decide +kernel
theorem dX12_bind_22 : decode cX12_bind 22 = .ok (.istore_n 2, 1) := by decide +kernel
theorem dX12_bind_23 : decode cX12_bind 23 = .ok (.iload_n 2, 1) := by decide +kernel
theorem dX12_bind_24 : decode cX12_bind 24 = .ok (.aload_n 0, 1) := by decide +kernel
theorem dX12_bind_25 : decode cX12_bind 25 = .ok (.getfield 33, 3) := by decide +kernel
theorem dX12_bind_28 : decode cX12_bind 28 = .ok (.iconst 3, 1) := by decide +kernel
theorem dX12_bind_29 : decode cX12_bind 29 = .ok (.iaload, 1) := by decide +kernel
theorem dX12_bind_30 : decode cX12_bind 30 = .ok (.if_icmp .ge 85, 3) := by decide +kernel
theorem dX12_bind_33 : decode cX12_bind 33 = .ok (.aload_n 0, 1) := by decide +kernel
theorem dX12_bind_34 : decode cX12_bind 34 = .ok (.getfield 33, 3) := by decide +kernel
theorem dX12_bind_37 : decode cX12_bind 37 = .ok (.sipush 224, 3) := by decide +kernel
theorem dX12_bind_40 : decode cX12_bind 40 = .ok (.iload_n 2, 1) := by decide +kernel
theorem dX12_bind_41 : decode cX12_bind 41 = .ok (.iadd, 1) := by decide +kernel
theorem dX12_bind_42 : decode cX12_bind 42 = .ok (.iaload, 1) := by decide +kernel
theorem dX12_bind_43 : decode cX12_bind 43 = .ok (.istore_n 3, 1) := by decide +kernel
theorem dX12_bind_44 : decode cX12_bind 44 = .ok (.aload_n 0, 1) := by decide +kernel
theorem dX12_bind_45 : decode cX12_bind 45 = .ok (.iload_n 3, 1) := by decide +kernel
theorem dX12_bind_46 : decode cX12_bind 46 = .ok (.iconst 2, 1) := by decide +kernel
theorem dX12_bind_47 : decode cX12_bind 47 = .ok (.invokevirtual 266, 3) := by decide +kernel
theorem dX12_bind_50 : decode cX12_bind 50 = .ok (.iload_n 1, 1) := by decide +kernel
theorem dX12_bind_51 : decode cX12_bind 51 = .ok (.if_icmp .le 6, 3) := by decide +kernel
theorem dX12_bind_54 : decode cX12_bind 54 = .ok (.goto 55, 3) := by decide +kernel
theorem dX12_bind_57 : decode cX12_bind 57 = .ok (.aload_n 0, 1) := by decide +kernel
theorem dX12_bind_58 : decode cX12_bind 58 = .ok (.aload_n 0, 1) := by decide +kernel
theorem dX12_bind_59 : decode cX12_bind 59 = .ok (.iload_n 3, 1) := by decide +kernel
theorem dX12_bind_60 : decode cX12_bind 60 = .ok (.aload_n 0, 1) := by decide +kernel
theorem dX12_bind_61 : decode cX12_bind 61 = .ok (.getfield 33, 3) := by decide +kernel
theorem dX12_bind_64 : decode cX12_bind 64 = .ok (.sipush 254, 3) := by decide +kernel
theorem dX12_bind_67 : decode cX12_bind 67 = .ok (.iload_n 2, 1) := by decide +kernel
theorem dX12_bind_68 : decode cX12_bind 68 = .ok (.iadd, 1) := by decide +kernel
theorem dX12_bind_69 : decode cX12_bind 69 = .ok (.iaload, 1) := by decide +kernel
theorem dX12_bind_70 : decode cX12_bind 70 = .ok (.invokevirtual 273, 3) := by decide +kernel
theorem dX12_bind_73 : decode cX12_bind 73 = .ok (.aload_n 0, 1) := by decide +kernel
theorem dX12_bind_74 : decode cX12_bind 74 = .ok (.iload_n 3, 1) := by decide +kernel
theorem dX12_bind_75 : decode cX12_bind 75 = .ok (.iconst 2, 1) := by decide +kernel
theorem dX12_bind_76 : decode cX12_bind 76 = .ok (.invokevirtual 266, 3) := by decide +kernel
theorem dX12_bind_79 : decode cX12_bind 79 = .ok (.iconst 1, 1) := by decide +kernel
theorem dX12_bind_80 : decode cX12_bind 80 = .ok (.invokevirtual 276, 3) := by decide +kernel
theorem dX12_bind_83 : decode cX12_bind 83 = .ok (.aload_n 0, 1) := by decide +kernel
theorem dX12_bind_84 : decode cX12_bind 84 = .ok (.aload_n 0, 1) := by decide +kernel
theorem dX12_bind_85 : decode cX12_bind 85 = .ok (.iload_n 3, 1) := by decide +kernel
theorem dX12_bind_86 : decode cX12_bind 86 = .ok (.aload_n 0, 1) := by decide +kernel
theorem dX12_bind_87 : decode cX12_bind 87 = .ok (.getfield 33, 3) := by decide +kernel
theorem dX12_bind_90 : decode cX12_bind 90 = .ok (.sipush 254, 3) := by decide +kernel
theorem dX12_bind_93 : decode cX12_bind 93 = .ok (.iload_n 2, 1) := by decide +kernel
theorem dX12_bind_94 : decode cX12_bind 94 = .ok (.iadd, 1) := by decide +kernel
theorem dX12_bind_95 : decode cX12_bind 95 = .ok (.iaload, 1) := by decide +kernel
theorem dX12_bind_96 : decode cX12_bind 96 = .ok (.invokevirtual 280, 3) := by decide +kernel
theorem dX12_bind_99 : decode cX12_bind 99 = .ok (.aload_n 0, 1) := by decide +kernel
theorem dX12_bind_100 : decode cX12_bind 100 = .ok (.iload_n 3, 1) := by decide +kernel
theorem dX12_bind_101 : decode cX12_bind 101 = .ok (.iconst 2, 1) := by decide +kernel
theorem dX12_bind_102 : decode cX12_bind 102 = .ok (.invokevirtual 266, 3) := by decide +kernel
theorem dX12_bind_105 : decode cX12_bind 105 = .ok (.iconst 2, 1) := by decide +kernel
theorem dX12_bind_106 : decode cX12_bind 106 = .ok (.invokevirtual 276, 3) := by decide +kernel
theorem dX12_bind_109 : decode cX12_bind 109 = .ok (.iinc 2 1, 3) := by decide +kernel
theorem dX12_bind_112 : decode cX12_bind 112 = .ok (.goto (-89), 3) := by decide +kernel
theorem dX12_bind_115 : decode cX12_bind 115 = .ok (.return_, 1) := by decide +kernel
set_option maxRecDepth 20000 in
theorem ggX12_bound_X12_now : GoodIn wsX12_bound wsX12_now := goodIn_r _ [7, 1, 8, 2, 9, 10, 11, 12, 13, 14, 15, 16, 17, 18, 19, 20, 21, 22, 23, 24, 25, 26, 27, 28, 29, 30, 31, 32, 33, 34, 35, 36, 37, 38, 39, 40, 41, 42, 43, 44, 45, 46, 47, 48, 49, 50, 51, 52, 53, 54, 55, 56, 57, 58, 59, 60, 61, 62, 63, 64, 65, 66] (by decide +kernel) (by decide +kernel)
set_option maxRecDepth 20000 in
theorem gX12_bound_X12_now : GoodIn wsX12_bound (wsV RX12 283 RX12 yX12_now wsX12_now) := goodIn_app (goodIn_of _ (by decide +kernel)) ggX12_bound_X12_now
theorem dX12_bound_0 : decode cX12_bound 0 = .ok (.aload_n 0, 1) := by decide +kernel
theorem dX12_bound_1 : decode cX12_bound 1 = .ok (.iload_n 1, 1) := by decide +kernel
theorem dX12_bound_2 : decode cX12_bound 2 = .ok (.iload_n 2, 1) := by decide +kernel
theorem dX12_bound_3 : decode cX12_bound 3 = .ok (.invokevirtual 283, 3) := by decide +kernel
theorem dX12_bound_6 : decode cX12_bound 6 = .ok (.ifCond .le 4, 3) := by decide +kernel
theorem dX12_bound_9 : decode cX12_bound 9 = .ok (.return_, 1) := by decide +kernel
theorem dX12_bound_10 : decode cX12_bound 10 = .ok (.aload_n 0, 1) := by decide +kernel
theorem dX12_bound_11 : decode cX12_bound 11 = .ok (.getfield 53, 3) := by decide +kernel
theorem dX12_bound_14 : decode cX12_bound 14 = .ok (.iload_n 1, 1) := by decide +kernel
theorem dX12_bound_15 : decode cX12_bound 15 = .ok (.iload_n 3, 1) := by decide +kernel
theorem dX12_bound_16 : decode cX12_bound 16 = .ok (.iastore, 1) := by decide +kernel
theorem dX12_bound_17 : decode cX12_bound 17 = .ok (.aload_n 0, 1) := by decide +kernel
theorem dX12_bound_18 : decode cX12_bound 18 = .ok (.getfield 56, 3) := by decide +kernel
theorem dX12_bound_21 : decode cX12_bound 21 = .ok (.iload_n 1, 1) := by decide +kernel
theorem dX12_bound_22 : decode cX12_bound 22 = .ok (.iload_n 2, 1) := by decide +kernel
theorem dX12_bound_23 : decode cX12_bound 23 = .ok (.iastore, 1) := by decide +kernel
theorem dX12_bound_24 : decode cX12_bound 24 = .ok (.return_, 1) := by decide +kernel
set_option maxRecDepth 20000 in
theorem ggX12_didIn_X12_of : GoodIn wsX12_didIn wsX12_of := goodIn_r _ [6, 1, 7, 8, 9, 10, 11, 12, 13, 14, 15, 16, 17, 18, 19, 20, 21, 22, 23, 24, 25, 26, 27, 28, 29, 30, 31, 32, 33, 34, 35, 36, 37, 38, 39, 40, 41, 42, 43, 44, 45, 46, 47, 48, 49, 50, 51, 52, 53, 54, 55, 56, 57, 58, 59, 60, 61, 62, 63, 64] (by decide +kernel) (by decide +kernel)
set_option maxRecDepth 20000 in
theorem gX12_didIn_X12_of : GoodIn wsX12_didIn (wsV RX12 266 RX12 yX12_of wsX12_of) := goodIn_app (goodIn_of _ (by decide +kernel)) ggX12_didIn_X12_of
theorem dX12_didIn_0 : decode cX12_didIn 0 = .ok (.iconst 0, 1) := by decide +kernel
theorem dX12_didIn_1 : decode cX12_didIn 1 = .ok (.istore_n 3, 1) := by decide +kernel
theorem dX12_didIn_2 : decode cX12_didIn 2 = .ok (.iconst 0, 1) := by decide +kernel
theorem dX12_didIn_3 : decode cX12_didIn 3 = .ok (.istore 4, 2) := by decide +kernel
theorem dX12_didIn_5 : decode cX12_didIn 5 = .ok (.iload 4, 2) := by decide +kernel
theorem dX12_didIn_7 : decode cX12_didIn 7 = .ok (.aload_n 0, 1) := by decide +kernel
theorem dX12_didIn_8 : decode cX12_didIn 8 = .ok (.getfield 33, 3) := by decide +kernel
theorem dX12_didIn_11 : decode cX12_didIn 11 = .ok (.iconst 3, 1) := by decide +kernel
theorem dX12_didIn_12 : decode cX12_didIn 12 = .ok (.iaload, 1) := by decide +kernel
theorem dX12_didIn_13 : decode cX12_didIn 13 = .ok (.if_icmp .ge 63, 3) := by decide +kernel
theorem dX12_didIn_16 : decode cX12_didIn 16 = .ok (.aload_n 0, 1) := by decide +kernel
theorem dX12_didIn_17 : decode cX12_didIn 17 = .ok (.getfield 33, 3) := by decide +kernel
theorem dX12_didIn_20 : decode cX12_didIn 20 = .ok (.sipush 224, 3) := by decide +kernel
theorem dX12_didIn_23 : decode cX12_didIn 23 = .ok (.iload 4, 2) := by decide +kernel
theorem dX12_didIn_25 : decode cX12_didIn 25 = .ok (.iadd, 1) := by decide +kernel
theorem dX12_didIn_26 : decode cX12_didIn 26 = .ok (.iaload, 1) := by decide +kernel
theorem dX12_didIn_27 : decode cX12_didIn 27 = .ok (.istore 5, 2) := by decide +kernel
theorem dX12_didIn_29 : decode cX12_didIn 29 = .ok (.iload_n 3, 1) := by decide +kernel
theorem dX12_didIn_30 : decode cX12_didIn 30 = .ok (.aload_n 0, 1) := by decide +kernel
theorem dX12_didIn_31 : decode cX12_didIn 31 = .ok (.iload 5, 2) := by decide +kernel
theorem dX12_didIn_33 : decode cX12_didIn 33 = .ok (.iconst 2, 1) := by decide +kernel
theorem dX12_didIn_34 : decode cX12_didIn 34 = .ok (.invokevirtual 266, 3) := by decide +kernel
theorem dX12_didIn_37 : decode cX12_didIn 37 = .ok (.iload_n 2, 1) := by decide +kernel
theorem dX12_didIn_38 : decode cX12_didIn 38 = .ok (.if_icmp .ne 29, 3) := by decide +kernel
theorem dX12_didIn_41 : decode cX12_didIn 41 = .ok (.aload_n 0, 1) := by decide +kernel
theorem dX12_didIn_42 : decode cX12_didIn 42 = .ok (.iload 5, 2) := by decide +kernel
theorem dX12_didIn_44 : decode cX12_didIn 44 = .ok (.iconst 0, 1) := by decide +kernel
theorem dX12_didIn_45 : decode cX12_didIn 45 = .ok (.invokevirtual 266, 3) := by decide +kernel
theorem dX12_didIn_48 : decode cX12_didIn 48 = .ok (.iload_n 1, 1) := by decide +kernel
theorem dX12_didIn_49 : decode cX12_didIn 49 = .ok (.if_icmp .eq 14, 3) := by decide +kernel
theorem dX12_didIn_52 : decode cX12_didIn 52 = .ok (.aload_n 0, 1) := by decide +kernel
theorem dX12_didIn_53 : decode cX12_didIn 53 = .ok (.iload 5, 2) := by decide +kernel
theorem dX12_didIn_55 : decode cX12_didIn 55 = .ok (.iconst 1, 1) := by decide +kernel
theorem dX12_didIn_56 : decode cX12_didIn 56 = .ok (.invokevirtual 266, 3) := by decide +kernel
theorem dX12_didIn_59 : decode cX12_didIn 59 = .ok (.iload_n 1, 1) := by decide +kernel
theorem dX12_didIn_60 : decode cX12_didIn 60 = .ok (.if_icmp .ne 7, 3) := by decide +kernel
theorem dX12_didIn_63 : decode cX12_didIn 63 = .ok (.iconst 1, 1) := by decide +kernel
theorem dX12_didIn_64 : decode cX12_didIn 64 = .ok (.goto 4, 3) := by decide +kernel
theorem dX12_didIn_67 : decode cX12_didIn 67 = .ok (.iconst 0, 1) := by decide +kernel
theorem dX12_didIn_68 : decode cX12_didIn 68 = .ok (.iadd, 1) := by decide +kernel
theorem dX12_didIn_69 : decode cX12_didIn 69 = .ok (.istore_n 3, 1) := by decide +kernel
theorem dX12_didIn_70 : decode cX12_didIn 70 = .ok (.iinc 4 1, 3) := by decide +kernel
theorem dX12_didIn_73 : decode cX12_didIn 73 = .ok (.goto (-68), 3) := by decide +kernel
theorem dX12_didIn_76 : decode cX12_didIn 76 = .ok (.iload_n 3, 1) := by decide +kernel
theorem dX12_didIn_77 : decode cX12_didIn 77 = .ok (.ireturn, 1) := by decide +kernel
set_option maxRecDepth 20000 in
theorem ggX12_wrong_X12_of : GoodIn wsX12_wrong wsX12_of := goodIn_r _ [6, 1, 37, 38, 39, 40, 41, 42, 43, 44, 45, 46, 47, 48, 49, 50, 51, 52, 53, 54, 55, 56, 57, 58, 59, 60, 61, 62, 63, 64, 65, 66, 67, 68, 69, 70, 71, 72, 73, 74, 75, 76, 77, 78, 79, 80, 81, 82, 83, 84, 85, 86, 87, 88, 89, 90, 91, 92, 93, 94] (by decide +kernel) (by decide +kernel)
set_option maxRecDepth 20000 in
theorem gX12_wrong_X12_of : GoodIn wsX12_wrong (wsV RX12 266 RX12 yX12_of wsX12_of) := goodIn_app (goodIn_of _ (by decide +kernel)) ggX12_wrong_X12_of
set_option maxRecDepth 20000 in
theorem ggX12_wrong_X12_doneAs : GoodIn wsX12_wrong wsX12_doneAs := goodIn_r _ [10, 1, 37, 38, 39, 40, 41, 42, 43, 44, 45, 46, 47, 48, 49, 50, 51, 52, 53, 54, 55, 56, 57, 58, 59, 60, 61, 62, 63, 64, 65, 66, 67, 68, 69, 70, 71, 72, 73, 74, 75, 76, 77, 78, 79, 80, 81, 82, 83, 84, 85, 86, 87, 88, 89, 90, 91, 92, 93, 94] (by decide +kernel) (by decide +kernel)
set_option maxRecDepth 20000 in
theorem gX12_wrong_X12_doneAs : GoodIn wsX12_wrong (wsV RX12 269 RX12 yX12_doneAs wsX12_doneAs) := goodIn_app (goodIn_of _ (by decide +kernel)) ggX12_wrong_X12_doneAs
set_option maxRecDepth 20000 in
theorem ggX12_wrong_X12_bind : GoodIn wsX12_wrong wsX12_bind := goodIn_r _ [14, 15, 1, 2, 3, 4, 5, 6, 16, 17, 18, 19, 20, 21, 22, 23, 24, 25, 26, 27, 28, 29, 30, 31, 32, 37, 38, 39, 40, 41, 42, 43, 44, 45, 46, 47, 48, 49, 50, 51, 52, 53, 54, 55, 56, 57, 58, 59, 60, 61, 62, 63, 64, 65, 66, 67, 68, 69, 70, 71, 72, 73, 74, 75, 76, 77, 78, 79, 80, 81, 82, 83, 84, 85, 86, 87, 88, 89, 90, 91, 92, 93, 94] (by decide +kernel) (by decide +kernel)
set_option maxRecDepth 20000 in
theorem gX12_wrong_X12_bind : GoodIn wsX12_wrong (wsV RX12 286 RX12 yX12_bind wsX12_bind) := goodIn_app (goodIn_of _ (by decide +kernel)) ggX12_wrong_X12_bind
set_option maxRecDepth 20000 in
theorem ggX12_wrong_X12_lender : GoodIn wsX12_wrong wsX12_lender := goodIn_r _ [19, 2, 3, 4, 5, 6, 1, 37, 38, 39, 40, 41, 42, 43, 44, 45, 46, 47, 48, 49, 50, 51, 52, 53, 54, 55, 56, 57, 58, 59, 60, 61, 62, 63, 64, 65, 66, 67, 68, 69, 70, 71, 72, 73, 74, 75, 76, 77, 78, 79, 80, 81, 82, 83, 84, 85, 86, 87, 88, 89, 90, 91, 92, 93, 94] (by decide +kernel) (by decide +kernel)
set_option maxRecDepth 20000 in
theorem gX12_wrong_X12_lender : GoodIn wsX12_wrong (wsV RX12 273 RX12 yX12_lender wsX12_lender) := goodIn_app (goodIn_of _ (by decide +kernel)) ggX12_wrong_X12_lender
set_option maxRecDepth 20000 in
theorem ggX12_wrong_X12_now : GoodIn wsX12_wrong wsX12_now := goodIn_r _ [28, 15, 1, 24, 37, 38, 39, 40, 41, 42, 43, 44, 45, 46, 47, 48, 49, 50, 51, 52, 53, 54, 55, 56, 57, 58, 59, 60, 61, 62, 63, 64, 65, 66, 67, 68, 69, 70, 71, 72, 73, 74, 75, 76, 77, 78, 79, 80, 81, 82, 83, 84, 85, 86, 87, 88, 89, 90, 91, 92, 93, 94] (by decide +kernel) (by decide +kernel)
set_option maxRecDepth 20000 in
theorem gX12_wrong_X12_now : GoodIn wsX12_wrong (wsV RX12 283 RX12 yX12_now wsX12_now) := goodIn_app (goodIn_of _ (by decide +kernel)) ggX12_wrong_X12_now
set_option maxRecDepth 20000 in
theorem ggX12_wrong_X12_borrower : GoodIn wsX12_wrong wsX12_borrower := goodIn_r _ [32, 2, 3, 4, 5, 6, 1, 37, 38, 39, 40, 41, 42, 43, 44, 45, 46, 47, 48, 49, 50, 51, 52, 53, 54, 55, 56, 57, 58, 59, 60, 61, 62, 63, 64, 65, 66, 67, 68, 69, 70, 71, 72, 73, 74, 75, 76, 77, 78, 79, 80, 81, 82, 83, 84, 85, 86, 87, 88, 89, 90, 91, 92, 93, 94] (by decide +kernel) (by decide +kernel)
set_option maxRecDepth 20000 in
theorem gX12_wrong_X12_borrower : GoodIn wsX12_wrong (wsV RX12 280 RX12 yX12_borrower wsX12_borrower) := goodIn_app (goodIn_of _ (by decide +kernel)) ggX12_wrong_X12_borrower
set_option maxRecDepth 20000 in
theorem ggX12_wrong_X12_didIn : GoodIn wsX12_wrong wsX12_didIn := goodIn_r _ [36, 1, 2, 3, 4, 5, 6, 37, 38, 39, 40, 41, 42, 43, 44, 45, 46, 47, 48, 49, 50, 51, 52, 53, 54, 55, 56, 57, 58, 59, 60, 61, 62, 63, 64, 65, 66, 67, 68, 69, 70, 71, 72, 73, 74, 75, 76, 77, 78, 79, 80, 81, 82, 83, 84, 85, 86, 87, 88, 89, 90, 91, 92, 93, 94] (by decide +kernel) (by decide +kernel)
set_option maxRecDepth 20000 in
theorem gX12_wrong_X12_didIn : GoodIn wsX12_wrong (wsV RX12 289 RX12 yX12_didIn wsX12_didIn) := goodIn_app (goodIn_of _ (by decide +kernel)) ggX12_wrong_X12_didIn
theorem dX12_wrong_0 : decode cX12_wrong 0 = .ok (.aload_n 0, 1) := by decide +kernel
theorem dX12_wrong_1 : decode cX12_wrong 1 = .ok (.iload_n 1, 1) := by decide +kernel
theorem dX12_wrong_2 : decode cX12_wrong 2 = .ok (.iconst 2, 1) := by decide +kernel
theorem dX12_wrong_3 : decode cX12_wrong 3 = .ok (.invokevirtual 266, 3) := by decide +kernel
theorem dX12_wrong_6 : decode cX12_wrong 6 = .ok (.istore_n 3, 1) := by decide +kernel
theorem dX12_wrong_7 : decode cX12_wrong 7 = .ok (.aload_n 0, 1) := by decide +kernel
theorem dX12_wrong_8 : decode cX12_wrong 8 = .ok (.iload_n 1, 1) := by decide +kernel
theorem dX12_wrong_9 : decode cX12_wrong 9 = .ok (.invokevirtual 269, 3) := by decide +kernel
theorem dX12_wrong_12 : decode cX12_wrong 12 = .ok (.ifCond .le 5, 3) := by decide +kernel
theorem dX12_wrong_15 : decode cX12_wrong 15 = .ok (.iconst 1, 1) := by decide +kernel
theorem dX12_wrong_16 : decode cX12_wrong 16 = .ok (.ireturn, 1) := by decide +kernel
theorem dX12_wrong_17 : decode cX12_wrong 17 = .ok (.iload_n 2, 1) := by decide +kernel
theorem dX12_wrong_18 : decode cX12_wrong 18 = .ok (.iconst 1, 1) := by decide +kernel
theorem dX12_wrong_19 : decode cX12_wrong 19 = .ok (.if_icmp .ne 14, 3) := by decide +kernel
theorem dX12_wrong_22 : decode cX12_wrong 22 = .ok (.aload_n 0, 1) := by decide +kernel
theorem dX12_wrong_23 : decode cX12_wrong 23 = .ok (.iload_n 1, 1) := by decide +kernel
theorem dX12_wrong_24 : decode cX12_wrong 24 = .ok (.iconst 5, 1) := by decide +kernel
theorem dX12_wrong_25 : decode cX12_wrong 25 = .ok (.invokevirtual 266, 3) := by decide +kernel
theorem dX12_wrong_28 : decode cX12_wrong 28 = .ok (.ifCond .ne 5, 3) := by decide +kernel
theorem dX12_wrong_31 : decode cX12_wrong 31 = .ok (.iconst 2, 1) := by decide +kernel
theorem dX12_wrong_32 : decode cX12_wrong 32 = .ok (.ireturn, 1) := by decide +kernel
theorem dX12_wrong_33 : decode cX12_wrong 33 = .ok (.aload_n 0, 1) := by decide +kernel
theorem dX12_wrong_34 : decode cX12_wrong 34 = .ok (.getfield 33, 3) := by decide +kernel
theorem dX12_wrong_37 : decode cX12_wrong 37 = .ok (.iconst 3, 1) := by decide +kernel
theorem dX12_wrong_38 : decode cX12_wrong 38 = .ok (.iaload, 1) := by decide +kernel
theorem dX12_wrong_39 : decode cX12_wrong 39 = .ok (.ifCond .le 31, 3) := by decide +kernel
theorem dX12_wrong_42 : decode cX12_wrong 42 = .ok (.iload_n 3, 1) := by decide +kernel
theorem dX12_wrong_43 : decode cX12_wrong 43 = .ok (.aload_n 0, 1) := by decide +kernel
theorem dX12_wrong_44 : decode cX12_wrong 44 = .ok (.aload_n 0, 1) := by decide +kernel
theorem dX12_wrong_45 : decode cX12_wrong 45 = .ok (.getfield 33, 3) := by decide +kernel
theorem dX12_wrong_48 : decode cX12_wrong 48 = .ok (.sipush 224, 3) := by decide +kernel
theorem dX12_wrong_51 : decode cX12_wrong 51 = .ok (.aload_n 0, 1) := by decide +kernel
theorem dX12_wrong_52 : decode cX12_wrong 52 = .ok (.getfield 33, 3) := by decide +kernel
theorem dX12_wrong_55 : decode cX12_wrong 55 = .ok (.iconst 3, 1) := by decide +kernel
theorem dX12_wrong_56 : decode cX12_wrong 56 = .ok (.iaload, 1) := by decide +kernel
theorem dX12_wrong_57 : decode cX12_wrong 57 = .ok (.iadd, 1) := by decide +kernel
theorem dX12_wrong_58 : decode cX12_wrong 58 = .ok (.iconst 1, 1) := by decide +kernel
theorem dX12_wrong_59 : decode cX12_wrong 59 = .ok (.isub, 1) := by decide +kernel
theorem dX12_wrong_60 : decode cX12_wrong 60 = .ok (.iaload, 1) := by decide +kernel
theorem dX12_wrong_61 : decode cX12_wrong 61 = .ok (.iconst 2, 1) := by decide +kernel
theorem dX12_wrong_62 : decode cX12_wrong 62 = .ok (.invokevirtual 266, 3) := by decide +kernel
theorem dX12_wrong_65 : decode cX12_wrong 65 = .ok (.if_icmp .ge 5, 3) := by decide +kernel
theorem dX12_wrong_68 : decode cX12_wrong 68 = .ok (.iconst 3, 1) := by decide +kernel
theorem dX12_wrong_69 : decode cX12_wrong 69 = .ok (.ireturn, 1) := by decide +kernel
theorem dX12_wrong_70 : decode cX12_wrong 70 = .ok (.aload_n 0, 1) := by decide +kernel
theorem dX12_wrong_71 : decode cX12_wrong 71 = .ok (.iload_n 3, 1) := by decide +kernel
theorem dX12_wrong_72 : decode cX12_wrong 72 = .ok (.invokevirtual 286, 3) := by decide +kernel
theorem dX12_wrong_75 : decode cX12_wrong 75 = .ok (.aload_n 0, 1) := by decide +kernel
theorem dX12_wrong_76 : decode cX12_wrong 76 = .ok (.aload_n 0, 1) := by decide +kernel
theorem dX12_wrong_77 : decode cX12_wrong 77 = .ok (.iload_n 1, 1) := by decide +kernel
theorem dX12_wrong_78 : decode cX12_wrong 78 = .ok (.iload_n 2, 1) := by decide +kernel
theorem dX12_wrong_79 : decode cX12_wrong 79 = .ok (.invokevirtual 273, 3) := by decide +kernel
theorem dX12_wrong_82 : decode cX12_wrong 82 = .ok (.iload_n 3, 1) := by decide +kernel
theorem dX12_wrong_83 : decode cX12_wrong 83 = .ok (.invokevirtual 283, 3) := by decide +kernel
theorem dX12_wrong_86 : decode cX12_wrong 86 = .ok (.iconst 2, 1) := by decide +kernel
theorem dX12_wrong_87 : decode cX12_wrong 87 = .ok (.if_icmp .ne 5, 3) := by decide +kernel
theorem dX12_wrong_90 : decode cX12_wrong 90 = .ok (.iconst 4, 1) := by decide +kernel
theorem dX12_wrong_91 : decode cX12_wrong 91 = .ok (.ireturn, 1) := by decide +kernel
theorem dX12_wrong_92 : decode cX12_wrong 92 = .ok (.aload_n 0, 1) := by decide +kernel
theorem dX12_wrong_93 : decode cX12_wrong 93 = .ok (.aload_n 0, 1) := by decide +kernel
theorem dX12_wrong_94 : decode cX12_wrong 94 = .ok (.iload_n 1, 1) := by decide +kernel
theorem dX12_wrong_95 : decode cX12_wrong 95 = .ok (.iload_n 2, 1) := by decide +kernel
theorem dX12_wrong_96 : decode cX12_wrong 96 = .ok (.invokevirtual 280, 3) := by decide +kernel
theorem dX12_wrong_99 : decode cX12_wrong 99 = .ok (.iload_n 3, 1) := by decide +kernel
theorem dX12_wrong_100 : decode cX12_wrong 100 = .ok (.invokevirtual 283, 3) := by decide +kernel
theorem dX12_wrong_103 : decode cX12_wrong 103 = .ok (.iconst 1, 1) := by decide +kernel
theorem dX12_wrong_104 : decode cX12_wrong 104 = .ok (.if_icmp .ne 5, 3) := by decide +kernel
theorem dX12_wrong_107 : decode cX12_wrong 107 = .ok (.iconst 5, 1) := by decide +kernel
theorem dX12_wrong_108 : decode cX12_wrong 108 = .ok (.ireturn, 1) := by decide +kernel
theorem dX12_wrong_109 : decode cX12_wrong 109 = .ok (.aload_n 0, 1) := by decide +kernel
theorem dX12_wrong_110 : decode cX12_wrong 110 = .ok (.aload_n 0, 1) := by decide +kernel
theorem dX12_wrong_111 : decode cX12_wrong 111 = .ok (.iload_n 1, 1) := by decide +kernel
theorem dX12_wrong_112 : decode cX12_wrong 112 = .ok (.iconst 0, 1) := by decide +kernel
theorem dX12_wrong_113 : decode cX12_wrong 113 = .ok (.invokevirtual 266, 3) := by decide +kernel
theorem dX12_wrong_116 : decode cX12_wrong 116 = .ok (.iload_n 3, 1) := by decide +kernel
theorem dX12_wrong_117 : decode cX12_wrong 117 = .ok (.invokevirtual 289, 3) := by decide +kernel
theorem dX12_wrong_120 : decode cX12_wrong 120 = .ok (.aload_n 0, 1) := by decide +kernel
theorem dX12_wrong_121 : decode cX12_wrong 121 = .ok (.getfield 33, 3) := by decide +kernel
theorem dX12_wrong_124 : decode cX12_wrong 124 = .ok (.bipush 24, 2) := by decide +kernel
theorem dX12_wrong_126 : decode cX12_wrong 126 = .ok (.aload_n 0, 1) := by decide +kernel
theorem dX12_wrong_127 : decode cX12_wrong 127 = .ok (.iload_n 1, 1) := by decide +kernel
theorem dX12_wrong_128 : decode cX12_wrong 128 = .ok (.iconst 0, 1) := by decide +kernel
theorem dX12_wrong_129 : decode cX12_wrong 129 = .ok (.invokevirtual 266, 3) := by decide +kernel
theorem dX12_wrong_132 : decode cX12_wrong 132 = .ok (.iadd, 1) := by decide +kernel
theorem dX12_wrong_133 : decode cX12_wrong 133 = .ok (.iaload, 1) := by decide +kernel
theorem dX12_wrong_134 : decode cX12_wrong 134 = .ok (.if_icmp .ge 31, 3) := by decide +kernel
theorem dX12_wrong_137 : decode cX12_wrong 137 = .ok (.aload_n 0, 1) := by decide +kernel
theorem dX12_wrong_138 : decode cX12_wrong 138 = .ok (.aload_n 0, 1) := by decide +kernel
theorem dX12_wrong_139 : decode cX12_wrong 139 = .ok (.iload_n 1, 1) := by decide +kernel
theorem dX12_wrong_140 : decode cX12_wrong 140 = .ok (.iconst 1, 1) := by decide +kernel
theorem dX12_wrong_141 : decode cX12_wrong 141 = .ok (.invokevirtual 266, 3) := by decide +kernel
theorem dX12_wrong_144 : decode cX12_wrong 144 = .ok (.iload_n 3, 1) := by decide +kernel
theorem dX12_wrong_145 : decode cX12_wrong 145 = .ok (.invokevirtual 289, 3) := by decide +kernel
theorem dX12_wrong_148 : decode cX12_wrong 148 = .ok (.aload_n 0, 1) := by decide +kernel
theorem dX12_wrong_149 : decode cX12_wrong 149 = .ok (.getfield 33, 3) := by decide +kernel
theorem dX12_wrong_152 : decode cX12_wrong 152 = .ok (.bipush 24, 2) := by decide +kernel
theorem dX12_wrong_154 : decode cX12_wrong 154 = .ok (.aload_n 0, 1) := by decide +kernel
theorem dX12_wrong_155 : decode cX12_wrong 155 = .ok (.iload_n 1, 1) := by decide +kernel
theorem dX12_wrong_156 : decode cX12_wrong 156 = .ok (.iconst 1, 1) := by decide +kernel
theorem dX12_wrong_157 : decode cX12_wrong 157 = .ok (.invokevirtual 266, 3) := by decide +kernel
theorem dX12_wrong_160 : decode cX12_wrong 160 = .ok (.iadd, 1) := by decide +kernel
theorem dX12_wrong_161 : decode cX12_wrong 161 = .ok (.iaload, 1) := by decide +kernel
theorem dX12_wrong_162 : decode cX12_wrong 162 = .ok (.if_icmp .lt 8, 3) := by decide +kernel
theorem dX12_wrong_165 : decode cX12_wrong 165 = .ok (.bipush 6, 2) := by decide +kernel
theorem dX12_wrong_167 : decode cX12_wrong 167 = .ok (.goto 4, 3) := by decide +kernel
theorem dX12_wrong_170 : decode cX12_wrong 170 = .ok (.iconst 0, 1) := by decide +kernel
theorem dX12_wrong_171 : decode cX12_wrong 171 = .ok (.ireturn, 1) := by decide +kernel
theorem dX12_put_0 : decode cX12_put 0 = .ok (.aload_n 0, 1) := by decide +kernel
theorem dX12_put_1 : decode cX12_put 1 = .ok (.getfield 33, 3) := by decide +kernel
theorem dX12_put_4 : decode cX12_put 4 = .ok (.sipush 224, 3) := by decide +kernel
theorem dX12_put_7 : decode cX12_put 7 = .ok (.aload_n 0, 1) := by decide +kernel
theorem dX12_put_8 : decode cX12_put 8 = .ok (.getfield 33, 3) := by decide +kernel
theorem dX12_put_11 : decode cX12_put 11 = .ok (.iconst 3, 1) := by decide +kernel
theorem dX12_put_12 : decode cX12_put 12 = .ok (.iaload, 1) := by decide +kernel
theorem dX12_put_13 : decode cX12_put 13 = .ok (.iadd, 1) := by decide +kernel
theorem dX12_put_14 : decode cX12_put 14 = .ok (.iload_n 1, 1) := by decide +kernel
theorem dX12_put_15 : decode cX12_put 15 = .ok (.iastore, 1) := by decide +kernel
theorem dX12_put_16 : decode cX12_put 16 = .ok (.aload_n 0, 1) := by decide +kernel
theorem dX12_put_17 : decode cX12_put 17 = .ok (.getfield 33, 3) := by decide +kernel
theorem dX12_put_20 : decode cX12_put 20 = .ok (.sipush 254, 3) := by decide +kernel
theorem dX12_put_23 : decode cX12_put 23 = .ok (.aload_n 0, 1) := by decide +kernel
theorem dX12_put_24 : decode cX12_put 24 = .ok (.getfield 33, 3) := by decide +kernel
theorem dX12_put_27 : decode cX12_put 27 = .ok (.iconst 3, 1) := by decide +kernel
theorem dX12_put_28 : decode cX12_put 28 = .ok (.iaload, 1) := by decide +kernel
theorem dX12_put_29 : decode cX12_put 29 = .ok (.iadd, 1) := by decide +kernel
theorem dX12_put_30 : decode cX12_put 30 = .ok (.iload_n 2, 1) := by decide +kernel
theorem dX12_put_31 : decode cX12_put 31 = .ok (.iastore, 1) := by decide +kernel
theorem dX12_put_32 : decode cX12_put 32 = .ok (.aload_n 0, 1) := by decide +kernel
theorem dX12_put_33 : decode cX12_put 33 = .ok (.getfield 33, 3) := by decide +kernel
theorem dX12_put_36 : decode cX12_put 36 = .ok (.iconst 3, 1) := by decide +kernel
theorem dX12_put_37 : decode cX12_put 37 = .ok (.dup2, 1) := by decide +kernel
theorem dX12_put_38 : decode cX12_put 38 = .ok (.iaload, 1) := by decide +kernel
theorem dX12_put_39 : decode cX12_put 39 = .ok (.iconst 1, 1) := by decide +kernel
theorem dX12_put_40 : decode cX12_put 40 = .ok (.iadd, 1) := by decide +kernel
theorem dX12_put_41 : decode cX12_put 41 = .ok (.iastore, 1) := by decide +kernel
theorem dX12_put_42 : decode cX12_put 42 = .ok (.return_, 1) := by decide +kernel
set_option maxRecDepth 20000 in
theorem ggX12_does_X12_isDeal : GoodIn wsX12_does wsX12_isDeal := goodIn_r _ [6, 7, 8, 9, 5, 10, 53, 54, 55, 56, 57, 58, 59, 60, 61, 62, 63, 64, 65, 66, 67, 68, 69, 70, 71, 72, 73, 74, 75, 76, 77, 78, 79, 80, 81, 82, 83, 84, 85, 86, 87, 88, 89, 90, 91, 92, 93, 94, 95, 96, 97, 98, 99, 100, 101, 102, 103, 104, 105, 106, 107, 108, 109, 110] (by decide +kernel) (by decide +kernel)
set_option maxRecDepth 20000 in
theorem gX12_does_X12_isDeal : GoodIn wsX12_does (wsV RX12 263 RX12 yX12_isDeal wsX12_isDeal) := goodIn_app (goodIn_of _ (by decide +kernel)) ggX12_does_X12_isDeal
set_option maxRecDepth 20000 in
theorem ggX12_does_X12_isIn : GoodIn wsX12_does wsX12_isIn := goodIn_r _ [10] (by decide +kernel) (by decide +kernel)
set_option maxRecDepth 20000 in
theorem gX12_does_X12_isIn : GoodIn wsX12_does (va_wsS RX12 197 yX12_isIn wsX12_isIn) := goodIn_app (goodIn_of _ (by decide +kernel)) ggX12_does_X12_isIn
set_option maxRecDepth 20000 in
theorem ggX12_does_X12_wrong : GoodIn wsX12_does wsX12_wrong := goodIn_r _ [14, 7, 15, 16, 17, 5, 18, 19, 20, 21, 22, 23, 24, 25, 26, 27, 28, 29, 30, 31, 32, 33, 34, 35, 36, 37, 38, 39, 40, 41, 42, 43, 44, 45, 46, 47, 48, 53, 54, 55, 56, 57, 58, 59, 60, 61, 62, 63, 64, 65, 66, 67, 68, 69, 70, 71, 72, 73, 74, 75, 76, 77, 78, 79, 80, 81, 82, 83, 84, 85, 86, 87, 88, 89, 90, 91, 92, 93, 94, 95, 96, 97, 98, 99, 100, 101, 102, 103, 104, 105, 106, 107, 108, 109, 110] (by decide +kernel) (by decide +kernel)
set_option maxRecDepth 20000 in
theorem gX12_does_X12_wrong : GoodIn wsX12_does (wsV RX12 292 RX12 yX12_wrong wsX12_wrong) := goodIn_app (goodIn_of _ (by decide +kernel)) ggX12_does_X12_wrong
set_option maxRecDepth 20000 in
theorem ggX12_does_X12_put : GoodIn wsX12_does wsX12_put := goodIn_r _ [52, 7, 53, 54, 55, 56, 57, 58, 59, 60, 61, 62, 63, 64, 65, 66, 67, 68, 69, 70, 71, 72, 73, 74, 75, 76, 77, 78, 79, 80, 81, 82, 83, 84, 85, 86, 87, 88, 89, 90, 91, 92, 93, 94, 95, 96, 97, 98, 99, 100, 101, 102, 103, 104, 105, 106, 107, 108, 109, 110] (by decide +kernel) (by decide +kernel)
set_option maxRecDepth 20000 in
theorem gX12_does_X12_put : GoodIn wsX12_does (wsV RX12 295 RX12 yX12_put wsX12_put) := goodIn_app (goodIn_of _ (by decide +kernel)) ggX12_does_X12_put
theorem dX12_does_0 : decode cX12_does 0 = .ok (.aload_n 0, 1) := by decide +kernel
theorem dX12_does_1 : decode cX12_does 1 = .ok (.iconst 0, 1) := by decide +kernel
theorem dX12_does_2 : decode cX12_does 2 = .ok (.putfield 1, 3) := by decide +kernel
theorem dX12_does_5 : decode cX12_does 5 = .ok (.aload_n 0, 1) := by decide +kernel
theorem dX12_does_6 : decode cX12_does 6 = .ok (.iload_n 1, 1) := by decide +kernel
theorem dX12_does_7 : decode cX12_does 7 = .ok (.invokevirtual 263, 3) := by decide +kernel
theorem dX12_does_10 : decode cX12_does 10 = .ok (.ifCond .eq 12, 3) := by decide +kernel
theorem dX12_does_13 : decode cX12_does 13 = .ok (.iload_n 2, 1) := by decide +kernel
theorem dX12_does_14 : decode cX12_does 14 = .ok (.iconst 0, 1) := by decide +kernel
theorem dX12_does_15 : decode cX12_does 15 = .ok (.iconst 1, 1) := by decide +kernel
theorem dX12_does_16 : decode cX12_does 16 = .ok (.invokestatic 197, 3) := by decide +kernel
theorem dX12_does_19 : decode cX12_does 19 = .ok (.ifCond .ne 5, 3) := by decide +kernel
theorem dX12_does_22 : decode cX12_does 22 = .ok (.iconst (-1), 1) := by decide +kernel
theorem dX12_does_23 : decode cX12_does 23 = .ok (.ireturn, 1) := by decide +kernel
theorem dX12_does_24 : decode cX12_does 24 = .ok (.aload_n 0, 1) := by decide +kernel
theorem dX12_does_25 : decode cX12_does 25 = .ok (.iload_n 1, 1) := by decide +kernel
theorem dX12_does_26 : decode cX12_does 26 = .ok (.iload_n 2, 1) := by decide +kernel
theorem dX12_does_27 : decode cX12_does 27 = .ok (.invokevirtual 292, 3) := by decide +kernel
theorem dX12_does_30 : decode cX12_does 30 = .ok (.istore_n 3, 1) := by decide +kernel
theorem dX12_does_31 : decode cX12_does 31 = .ok (.iload_n 3, 1) := by decide +kernel
theorem dX12_does_32 : decode cX12_does 32 = .ok (.ifCond .ne 9, 3) := by decide +kernel
theorem dX12_does_35 : decode cX12_does 35 = .ok (.aload_n 0, 1) := by decide +kernel
theorem dX12_does_36 : decode cX12_does 36 = .ok (.iload_n 1, 1) := by decide +kernel
theorem dX12_does_37 : decode cX12_does 37 = .ok (.iload_n 2, 1) := by decide +kernel
theorem dX12_does_38 : decode cX12_does 38 = .ok (.invokevirtual 295, 3) := by decide +kernel
theorem dX12_does_41 : decode cX12_does 41 = .ok (.iload_n 3, 1) := by decide +kernel
theorem dX12_does_42 : decode cX12_does 42 = .ok (.ireturn, 1) := by decide +kernel
theorem dX12_undo_0 : decode cX12_undo 0 = .ok (.aload_n 0, 1) := by decide +kernel
theorem dX12_undo_1 : decode cX12_undo 1 = .ok (.iconst 0, 1) := by decide +kernel
theorem dX12_undo_2 : decode cX12_undo 2 = .ok (.putfield 1, 3) := by decide +kernel
theorem dX12_undo_5 : decode cX12_undo 5 = .ok (.aload_n 0, 1) := by decide +kernel
theorem dX12_undo_6 : decode cX12_undo 6 = .ok (.getfield 33, 3) := by decide +kernel
theorem dX12_undo_9 : decode cX12_undo 9 = .ok (.iconst 3, 1) := by decide +kernel
theorem dX12_undo_10 : decode cX12_undo 10 = .ok (.iaload, 1) := by decide +kernel
theorem dX12_undo_11 : decode cX12_undo 11 = .ok (.ifCond .ne 5, 3) := by decide +kernel
theorem dX12_undo_14 : decode cX12_undo 14 = .ok (.iconst (-1), 1) := by decide +kernel
theorem dX12_undo_15 : decode cX12_undo 15 = .ok (.ireturn, 1) := by decide +kernel
theorem dX12_undo_16 : decode cX12_undo 16 = .ok (.aload_n 0, 1) := by decide +kernel
theorem dX12_undo_17 : decode cX12_undo 17 = .ok (.getfield 33, 3) := by decide +kernel
theorem dX12_undo_20 : decode cX12_undo 20 = .ok (.iconst 3, 1) := by decide +kernel
theorem dX12_undo_21 : decode cX12_undo 21 = .ok (.dup2, 1) := by decide +kernel
theorem dX12_undo_22 : decode cX12_undo 22 = .ok (.iaload, 1) := by decide +kernel
theorem dX12_undo_23 : decode cX12_undo 23 = .ok (.iconst 1, 1) := by decide +kernel
theorem dX12_undo_24 : decode cX12_undo 24 = .ok (.isub, 1) := by decide +kernel
theorem dX12_undo_25 : decode cX12_undo 25 = .ok (.iastore, 1) := by decide +kernel
theorem dX12_undo_26 : decode cX12_undo 26 = .ok (.aload_n 0, 1) := by decide +kernel
theorem dX12_undo_27 : decode cX12_undo 27 = .ok (.getfield 33, 3) := by decide +kernel
theorem dX12_undo_30 : decode cX12_undo 30 = .ok (.iconst 3, 1) := by decide +kernel
theorem dX12_undo_31 : decode cX12_undo 31 = .ok (.iaload, 1) := by decide +kernel
theorem dX12_undo_32 : decode cX12_undo 32 = .ok (.ireturn, 1) := by decide +kernel
set_option maxRecDepth 20000 in
theorem ggX12_readLine_X12_isName : GoodIn wsX12_readLine wsX12_isName := goodIn_r _ [10, 11, 12, 13, 50, 51, 52, 53, 54, 55, 56, 57, 58, 59, 60, 61, 62, 63, 64, 65, 66, 67, 68, 69, 70, 71, 72, 73, 74, 75, 76, 77, 78, 79, 80, 81, 82, 83, 84, 85, 86, 87, 88, 89, 90, 91, 92, 93, 94, 95, 96, 97, 98, 99, 100, 101, 102, 103, 104, 105, 106, 107] (by decide +kernel) (by decide +kernel)
set_option maxRecDepth 20000 in
theorem gX12_readLine_X12_isName : GoodIn wsX12_readLine (wsV RX12 204 RX12 yX12_isName wsX12_isName) := goodIn_app (goodIn_of _ (by decide +kernel)) ggX12_readLine_X12_isName
set_option maxRecDepth 20000 in
theorem ggX12_readLine_X12_bad : GoodIn wsX12_readLine wsX12_bad := goodIn_r _ [17, 18, 19, 20, 50, 51, 52, 53, 54, 55, 56, 57, 58, 59, 60, 61, 62, 63, 64, 65, 66, 67, 68, 69, 70, 71, 72, 73, 74, 75, 76, 77, 78, 79, 80, 81, 82, 83, 84, 85, 86, 87, 88, 89, 90, 91, 92, 93, 94, 95, 96, 97, 98, 99, 100, 101, 102, 103, 104, 105, 106, 107] (by decide +kernel) (by decide +kernel)
set_option maxRecDepth 20000 in
theorem gX12_readLine_X12_bad : GoodIn wsX12_readLine (wsV RX12 191 RX12 yX12_bad wsX12_bad) := goodIn_app (goodIn_of _ (by decide +kernel)) ggX12_readLine_X12_bad
set_option maxRecDepth 20000 in
theorem ggX12_readLine_X12_find : GoodIn wsX12_readLine wsX12_find := goodIn_r _ [24, 25, 12, 50, 51, 52, 53, 54, 55, 56, 57, 58, 59, 60, 61, 62, 63, 64, 65, 66, 67, 68, 69, 70, 71, 72, 73, 74, 75, 76, 77, 78, 79, 80, 81, 82, 83, 84, 85, 86, 87, 88, 89, 90, 91, 92, 93, 94, 95, 96, 97, 98, 99, 100, 101, 102, 103, 104, 105, 106, 107] (by decide +kernel) (by decide +kernel)
set_option maxRecDepth 20000 in
theorem gX12_readLine_X12_find : GoodIn wsX12_readLine (wsV RX12 208 RX12 yX12_find wsX12_find) := goodIn_app (goodIn_of _ (by decide +kernel)) ggX12_readLine_X12_find
set_option maxRecDepth 20000 in
theorem ggX12_readLine_X12_skip : GoodIn wsX12_readLine wsX12_skip := goodIn_r _ [29, 30, 19, 31, 32, 33, 11, 34, 12, 35, 36, 37, 9, 38, 39, 40, 41, 42, 43, 44, 45, 50, 51, 52, 53, 54, 55, 56, 57, 58, 59, 60, 61, 62, 63, 64, 65, 66, 67, 68, 69, 70, 71, 72, 73, 74, 75, 76, 77, 78, 79, 80, 81, 82, 83, 84, 85, 86, 87, 88, 89, 90, 91, 92, 93, 94, 95, 96, 97, 98, 99, 100, 101, 102, 103, 104, 105, 106, 107] (by decide +kernel) (by decide +kernel)
set_option maxRecDepth 20000 in
theorem gX12_readLine_X12_skip : GoodIn wsX12_readLine (wsV RX12 194 RX12 yX12_skip wsX12_skip) := goodIn_app (goodIn_of _ (by decide +kernel)) ggX12_readLine_X12_skip
set_option maxRecDepth 20000 in
theorem ggX12_readLine_X12_isWord : GoodIn wsX12_readLine wsX12_isWord := goodIn_r _ [49, 11, 12, 50, 51, 52, 53, 54, 55, 56, 57, 58, 59, 60, 61, 62, 63, 64, 65, 66, 67, 68, 69, 70, 71, 72, 73, 74, 75, 76, 77, 78, 79, 80, 81, 82, 83, 84, 85, 86, 87, 88, 89, 90, 91, 92, 93, 94, 95, 96, 97, 98, 99, 100, 101, 102, 103, 104, 105, 106, 107] (by decide +kernel) (by decide +kernel)
set_option maxRecDepth 20000 in
theorem gX12_readLine_X12_isWord : GoodIn wsX12_readLine (wsV RX12 212 RX12 yX12_isWord wsX12_isWord) := goodIn_app (goodIn_of _ (by decide +kernel)) ggX12_readLine_X12_isWord
theorem dX12_readLine_0 : decode cX12_readLine 0 = .ok (.aload_n 0, 1) := by decide +kernel
theorem dX12_readLine_1 : decode cX12_readLine 1 = .ok (.invokevirtual 204, 3) := by decide +kernel
theorem dX12_readLine_4 : decode cX12_readLine 4 = .ok (.ifCond .ne 9, 3) := by decide +kernel
theorem dX12_readLine_7 : decode cX12_readLine 7 = .ok (.aload_n 0, 1) := by decide +kernel
theorem dX12_readLine_8 : decode cX12_readLine 8 = .ok (.iconst 1, 1) := by decide +kernel
theorem dX12_readLine_9 : decode cX12_readLine 9 = .ok (.invokevirtual 191, 3) := by decide +kernel
theorem dX12_readLine_12 : decode cX12_readLine 12 = .ok (.ireturn, 1) := by decide +kernel
theorem dX12_readLine_13 : decode cX12_readLine 13 = .ok (.aload_n 0, 1) := by decide +kernel
theorem dX12_readLine_14 : decode cX12_readLine 14 = .ok (.bipush 10, 2) := by decide +kernel
theorem dX12_readLine_16 : decode cX12_readLine 16 = .ok (.aload_n 0, 1) := by decide +kernel
theorem dX12_readLine_17 : decode cX12_readLine 17 = .ok (.getfield 33, 3) := by decide +kernel
theorem dX12_readLine_20 : decode cX12_readLine 20 = .ok (.iconst 1, 1) := by decide +kernel
theorem dX12_readLine_21 : decode cX12_readLine 21 = .ok (.iaload, 1) := by decide +kernel
theorem dX12_readLine_22 : decode cX12_readLine 22 = .ok (.invokevirtual 208, 3) := by decide +kernel
theorem dX12_readLine_25 : decode cX12_readLine 25 = .ok (.istore_n 1, 1) := by decide +kernel
theorem dX12_readLine_26 : decode cX12_readLine 26 = .ok (.iload_n 1, 1) := by decide +kernel
theorem dX12_readLine_27 : decode cX12_readLine 27 = .ok (.ifCond .ge 9, 3) := by decide +kernel
theorem dX12_readLine_30 : decode cX12_readLine 30 = .ok (.aload_n 0, 1) := by decide +kernel
theorem dX12_readLine_31 : decode cX12_readLine 31 = .ok (.iconst 3, 1) := by decide +kernel
theorem dX12_readLine_32 : decode cX12_readLine 32 = .ok (.invokevirtual 191, 3) := by decide +kernel
theorem dX12_readLine_35 : decode cX12_readLine 35 = .ok (.ireturn, 1) := by decide +kernel
theorem dX12_readLine_36 : decode cX12_readLine 36 = .ok (.aload_n 0, 1) := by decide +kernel
theorem dX12_readLine_37 : decode cX12_readLine 37 = .ok (.getfield 299, 3) := by decide +kernel
theorem dX12_readLine_40 : decode cX12_readLine 40 = .ok (.bipush 40, 2) := by decide +kernel
theorem dX12_readLine_42 : decode cX12_readLine 42 = .ok (.if_icmp .ne 9, 3) := by decide +kernel
theorem dX12_readLine_45 : decode cX12_readLine 45 = .ok (.aload_n 0, 1) := by decide +kernel
theorem dX12_readLine_46 : decode cX12_readLine 46 = .ok (.iconst 4, 1) := by decide +kernel
theorem dX12_readLine_47 : decode cX12_readLine 47 = .ok (.invokevirtual 191, 3) := by decide +kernel
theorem dX12_readLine_50 : decode cX12_readLine 50 = .ok (.ireturn, 1) := by decide +kernel
theorem dX12_readLine_51 : decode cX12_readLine 51 = .ok (.aload_n 0, 1) := by decide +kernel
theorem dX12_readLine_52 : decode cX12_readLine 52 = .ok (.invokevirtual 194, 3) := by decide +kernel
theorem dX12_readLine_55 : decode cX12_readLine 55 = .ok (.aload_n 0, 1) := by decide +kernel
theorem dX12_readLine_56 : decode cX12_readLine 56 = .ok (.getfield 40, 3) := by decide +kernel
theorem dX12_readLine_59 : decode cX12_readLine 59 = .ok (.aload_n 0, 1) := by decide +kernel
theorem dX12_readLine_60 : decode cX12_readLine 60 = .ok (.getfield 299, 3) := by decide +kernel
theorem dX12_readLine_63 : decode cX12_readLine 63 = .ok (.iload_n 1, 1) := by decide +kernel
theorem dX12_readLine_64 : decode cX12_readLine 64 = .ok (.iastore, 1) := by decide +kernel
theorem dX12_readLine_65 : decode cX12_readLine 65 = .ok (.aload_n 0, 1) := by decide +kernel
theorem dX12_readLine_66 : decode cX12_readLine 66 = .ok (.getfield 43, 3) := by decide +kernel
theorem dX12_readLine_69 : decode cX12_readLine 69 = .ok (.aload_n 0, 1) := by decide +kernel
theorem dX12_readLine_70 : decode cX12_readLine 70 = .ok (.getfield 299, 3) := by decide +kernel
theorem dX12_readLine_73 : decode cX12_readLine 73 = .ok (.aload_n 0, 1) := by decide +kernel
theorem dX12_readLine_74 : decode cX12_readLine 74 = .ok (.ldc2_w 149, 3) := by decide +kernel
theorem dX12_readLine_77 : decode cX12_readLine 77 = .ok (.invokevirtual 212, 3) := by decide +kernel
theorem dX12_readLine_80 : decode cX12_readLine 80 = .ok (.ifCond .eq 7, 3) := by decide +kernel
theorem dX12_readLine_83 : decode cX12_readLine 83 = .ok (.iconst 1, 1) := by decide +kernel
theorem dX12_readLine_84 : decode cX12_readLine 84 = .ok (.goto 4, 3) := by decide +kernel
theorem dX12_readLine_87 : decode cX12_readLine 87 = .ok (.iconst 0, 1) := by decide +kernel
theorem dX12_readLine_88 : decode cX12_readLine 88 = .ok (.iastore, 1) := by decide +kernel
theorem dX12_readLine_89 : decode cX12_readLine 89 = .ok (.aload_n 0, 1) := by decide +kernel
theorem dX12_readLine_90 : decode cX12_readLine 90 = .ok (.getfield 43, 3) := by decide +kernel
theorem dX12_readLine_93 : decode cX12_readLine 93 = .ok (.aload_n 0, 1) := by decide +kernel
theorem dX12_readLine_94 : decode cX12_readLine 94 = .ok (.getfield 299, 3) := by decide +kernel
theorem dX12_readLine_97 : decode cX12_readLine 97 = .ok (.iaload, 1) := by decide +kernel
theorem dX12_readLine_98 : decode cX12_readLine 98 = .ok (.iconst 1, 1) := by decide +kernel
theorem dX12_readLine_99 : decode cX12_readLine 99 = .ok (.if_icmp .ne 7, 3) := by decide +kernel
theorem dX12_readLine_102 : decode cX12_readLine 102 = .ok (.aload_n 0, 1) := by decide +kernel
theorem dX12_readLine_103 : decode cX12_readLine 103 = .ok (.invokevirtual 194, 3) := by decide +kernel
theorem dX12_readLine_106 : decode cX12_readLine 106 = .ok (.iconst 1, 1) := by decide +kernel
theorem dX12_readLine_107 : decode cX12_readLine 107 = .ok (.ireturn, 1) := by decide +kernel
set_option maxRecDepth 20000 in
theorem ggX12_book_X12_taken : GoodIn wsX12_book wsX12_taken := goodIn_r _ [14, 15, 16, 17, 18, 111, 112, 113, 114, 115, 116, 117, 118, 119, 120, 121, 122, 123, 124, 125, 126, 127, 128, 129, 130, 131, 132, 133, 134, 135, 136, 137, 138, 139, 140, 141, 142, 143, 144, 145, 146, 147, 148, 149, 150, 151, 152, 153, 154, 155, 156, 157, 158, 159, 160, 161, 162, 163, 164, 165, 166, 167, 168] (by decide +kernel) (by decide +kernel)
set_option maxRecDepth 20000 in
theorem gX12_book_X12_taken : GoodIn wsX12_book (wsV RX12 244 RX12 yX12_taken wsX12_taken) := goodIn_app (goodIn_of _ (by decide +kernel)) ggX12_book_X12_taken
set_option maxRecDepth 20000 in
theorem ggX12_book_X12_skip : GoodIn wsX12_book wsX12_skip := goodIn_r _ [22, 17, 23, 24, 16, 18, 5, 25, 26, 27, 28, 29, 13, 30, 31, 32, 33, 34, 35, 36, 37, 111, 112, 113, 114, 115, 116, 117, 118, 119, 120, 121, 122, 123, 124, 125, 126, 127, 128, 129, 130, 131, 132, 133, 134, 135, 136, 137, 138, 139, 140, 141, 142, 143, 144, 145, 146, 147, 148, 149, 150, 151, 152, 153, 154, 155, 156, 157, 158, 159, 160, 161, 162, 163, 164, 165, 166, 167, 168] (by decide +kernel) (by decide +kernel)
set_option maxRecDepth 20000 in
theorem gX12_book_X12_skip : GoodIn wsX12_book (wsV RX12 194 RX12 yX12_skip wsX12_skip) := goodIn_app (goodIn_of _ (by decide +kernel)) ggX12_book_X12_skip
set_option maxRecDepth 20000 in
theorem ggX12_book_X12_readLine : GoodIn wsX12_book wsX12_readLine := goodIn_r _ [41, 7, 4, 8, 9, 42, 43, 44, 45, 13, 46, 5, 26, 47, 48, 49, 50, 51, 2, 23, 6, 52, 53, 54, 55, 56, 19, 20, 21, 22, 17, 24, 16, 18, 25, 27, 28, 29, 30, 31, 32, 33, 34, 35, 36, 37, 57, 58, 59, 60, 111, 112, 113, 114, 115, 116, 117, 118, 119, 120, 121, 122, 123, 124, 125, 126, 127, 128, 129, 130, 131, 132, 133, 134, 135, 136, 137, 138, 139, 140, 141, 142, 143, 144, 145, 146, 147, 148, 149, 150, 151, 152, 153, 154, 155, 156, 157, 158, 159, 160, 161, 162, 163, 164, 165, 166, 167, 168] (by decide +kernel) (by decide +kernel)
set_option maxRecDepth 20000 in
theorem gX12_book_X12_readLine : GoodIn wsX12_book (wsV RX12 305 RX12 yX12_readLine wsX12_readLine) := goodIn_app (goodIn_of _ (by decide +kernel)) ggX12_book_X12_readLine
set_option maxRecDepth 20000 in
theorem ggX12_book_X12_sign : GoodIn wsX12_book wsX12_sign := goodIn_r _ [64, 65, 66, 67, 13, 68, 5, 25, 48, 49, 50, 51, 2, 23, 6, 19, 20, 21, 22, 17, 24, 16, 18, 26, 27, 28, 29, 30, 31, 32, 33, 34, 35, 36, 37, 111, 112, 113, 114, 115, 116, 117, 118, 119, 120, 121, 122, 123, 124, 125, 126, 127, 128, 129, 130, 131, 132, 133, 134, 135, 136, 137, 138, 139, 140, 141, 142, 143, 144, 145, 146, 147, 148, 149, 150, 151, 152, 153, 154, 155, 156, 157, 158, 159, 160, 161, 162, 163, 164, 165, 166, 167, 168] (by decide +kernel) (by decide +kernel)
set_option maxRecDepth 20000 in
theorem gX12_book_X12_sign : GoodIn wsX12_book (wsV RX12 253 RX12 yX12_sign wsX12_sign) := goodIn_app (goodIn_of _ (by decide +kernel)) ggX12_book_X12_sign
set_option maxRecDepth 20000 in
theorem ggX12_book_X12_wrong : GoodIn wsX12_book wsX12_wrong := goodIn_r _ [72, 7, 73, 74, 75, 13, 76, 77, 78, 79, 80, 81, 82, 83, 84, 85, 86, 87, 88, 89, 90, 91, 92, 93, 94, 95, 96, 97, 98, 99, 100, 101, 102, 103, 104, 105, 106, 111, 112, 113, 114, 115, 116, 117, 118, 119, 120, 121, 122, 123, 124, 125, 126, 127, 128, 129, 130, 131, 132, 133, 134, 135, 136, 137, 138, 139, 140, 141, 142, 143, 144, 145, 146, 147, 148, 149, 150, 151, 152, 153, 154, 155, 156, 157, 158, 159, 160, 161, 162, 163, 164, 165, 166, 167, 168] (by decide +kernel) (by decide +kernel)
set_option maxRecDepth 20000 in
theorem gX12_book_X12_wrong : GoodIn wsX12_book (wsV RX12 292 RX12 yX12_wrong wsX12_wrong) := goodIn_app (goodIn_of _ (by decide +kernel)) ggX12_book_X12_wrong
set_option maxRecDepth 20000 in
theorem ggX12_book_X12_put : GoodIn wsX12_book wsX12_put := goodIn_r _ [110, 7, 111, 112, 113, 114, 115, 116, 117, 118, 119, 120, 121, 122, 123, 124, 125, 126, 127, 128, 129, 130, 131, 132, 133, 134, 135, 136, 137, 138, 139, 140, 141, 142, 143, 144, 145, 146, 147, 148, 149, 150, 151, 152, 153, 154, 155, 156, 157, 158, 159, 160, 161, 162, 163, 164, 165, 166, 167, 168] (by decide +kernel) (by decide +kernel)
set_option maxRecDepth 20000 in
theorem gX12_book_X12_put : GoodIn wsX12_book (wsV RX12 295 RX12 yX12_put wsX12_put) := goodIn_app (goodIn_of _ (by decide +kernel)) ggX12_book_X12_put
theorem dX12_book_0 : decode cX12_book 0 = .ok (.aload_n 0, 1) := by decide +kernel
theorem dX12_book_1 : decode cX12_book 1 = .ok (.iconst 0, 1) := by decide +kernel
theorem dX12_book_2 : decode cX12_book 2 = .ok (.putfield 1, 3) := by decide +kernel
theorem dX12_book_5 : decode cX12_book 5 = .ok (.aload_n 0, 1) := by decide +kernel
theorem dX12_book_6 : decode cX12_book 6 = .ok (.sipush 600, 3) := by decide +kernel
theorem dX12_book_9 : decode cX12_book 9 = .ok (.invokevirtual 244, 3) := by decide +kernel
theorem dX12_book_12 : decode cX12_book 12 = .ok (.aload_n 0, 1) := by decide +kernel
theorem dX12_book_13 : decode cX12_book 13 = .ok (.iconst 0, 1) := by decide +kernel
theorem dX12_book_14 : decode cX12_book 14 = .ok (.putfield 182, 3) := by decide +kernel
theorem dX12_book_17 : decode cX12_book 17 = .ok (.aload_n 0, 1) := by decide +kernel
theorem dX12_book_18 : decode cX12_book 18 = .ok (.iconst 0, 1) := by decide +kernel
theorem dX12_book_19 : decode cX12_book 19 = .ok (.putfield 302, 3) := by decide +kernel
theorem dX12_book_22 : decode cX12_book 22 = .ok (.aload_n 0, 1) := by decide +kernel
theorem dX12_book_23 : decode cX12_book 23 = .ok (.iconst 0, 1) := by decide +kernel
theorem dX12_book_24 : decode cX12_book 24 = .ok (.putfield 299, 3) := by decide +kernel
theorem dX12_book_27 : decode cX12_book 27 = .ok (.aload_n 0, 1) := by decide +kernel
theorem dX12_book_28 : decode cX12_book 28 = .ok (.invokevirtual 194, 3) := by decide +kernel
theorem dX12_book_31 : decode cX12_book 31 = .ok (.aload_n 0, 1) := by decide +kernel
theorem dX12_book_32 : decode cX12_book 32 = .ok (.getfield 165, 3) := by decide +kernel
theorem dX12_book_35 : decode cX12_book 35 = .ok (.ifCond .eq 40, 3) := by decide +kernel
theorem dX12_book_38 : decode cX12_book 38 = .ok (.aload_n 0, 1) := by decide +kernel
theorem dX12_book_39 : decode cX12_book 39 = .ok (.invokevirtual 305, 3) := by decide +kernel
theorem dX12_book_42 : decode cX12_book 42 = .ok (.ifCond .eq 12, 3) := by decide +kernel
theorem dX12_book_45 : decode cX12_book 45 = .ok (.aload_n 0, 1) := by decide +kernel
theorem dX12_book_46 : decode cX12_book 46 = .ok (.bipush 59, 2) := by decide +kernel
theorem dX12_book_48 : decode cX12_book 48 = .ok (.invokevirtual 253, 3) := by decide +kernel
theorem dX12_book_51 : decode cX12_book 51 = .ok (.ifCond .ne 11, 3) := by decide +kernel
theorem dX12_book_54 : decode cX12_book 54 = .ok (.bipush (-2), 2) := by decide +kernel
theorem dX12_book_56 : decode cX12_book 56 = .ok (.aload_n 0, 1) := by decide +kernel
theorem dX12_book_57 : decode cX12_book 57 = .ok (.getfield 185, 3) := by decide +kernel
theorem dX12_book_60 : decode cX12_book 60 = .ok (.isub, 1) := by decide +kernel
theorem dX12_book_61 : decode cX12_book 61 = .ok (.ireturn, 1) := by decide +kernel
theorem dX12_book_62 : decode cX12_book 62 = .ok (.aload_n 0, 1) := by decide +kernel
theorem dX12_book_63 : decode cX12_book 63 = .ok (.dup, 1) := by decide +kernel
theorem dX12_book_64 : decode cX12_book 64 = .ok (.getfield 299, 3) := by decide +kernel
theorem dX12_book_67 : decode cX12_book 67 = .ok (.iconst 1, 1) := by decide +kernel
theorem dX12_book_68 : decode cX12_book 68 = .ok (.iadd, 1) := by decide +kernel
theorem dX12_book_69 : decode cX12_book 69 = .ok (.putfield 299, 3) := by decide +kernel
theorem dX12_book_72 : decode cX12_book 72 = .ok (.goto (-41), 3) := by decide +kernel
theorem dX12_book_75 : decode cX12_book 75 = .ok (.aload_n 0, 1) := by decide +kernel
theorem dX12_book_76 : decode cX12_book 76 = .ok (.getfield 33, 3) := by decide +kernel
theorem dX12_book_79 : decode cX12_book 79 = .ok (.iconst 3, 1) := by decide +kernel
theorem dX12_book_80 : decode cX12_book 80 = .ok (.iconst 0, 1) := by decide +kernel
theorem dX12_book_81 : decode cX12_book 81 = .ok (.iastore, 1) := by decide +kernel
theorem dX12_book_82 : decode cX12_book 82 = .ok (.iconst 0, 1) := by decide +kernel
theorem dX12_book_83 : decode cX12_book 83 = .ok (.istore_n 1, 1) := by decide +kernel
theorem dX12_book_84 : decode cX12_book 84 = .ok (.iload_n 1, 1) := by decide +kernel
theorem dX12_book_85 : decode cX12_book 85 = .ok (.aload_n 0, 1) := by decide +kernel
theorem dX12_book_86 : decode cX12_book 86 = .ok (.getfield 299, 3) := by decide +kernel
theorem dX12_book_89 : decode cX12_book 89 = .ok (.if_icmp .ge 54, 3) := by decide +kernel
theorem dX12_book_92 : decode cX12_book 92 = .ok (.aload_n 0, 1) := by decide +kernel
theorem dX12_book_93 : decode cX12_book 93 = .ok (.aload_n 0, 1) := by decide +kernel
theorem dX12_book_94 : decode cX12_book 94 = .ok (.aload_n 0, 1) := by decide +kernel
theorem dX12_book_95 : decode cX12_book 95 = .ok (.getfield 40, 3) := by decide +kernel
theorem dX12_book_98 : decode cX12_book 98 = .ok (.iload_n 1, 1) := by decide +kernel
theorem dX12_book_99 : decode cX12_book 99 = .ok (.iaload, 1) := by decide +kernel
theorem dX12_book_100 : decode cX12_book 100 = .ok (.aload_n 0, 1) := by decide +kernel
theorem dX12_book_101 : decode cX12_book 101 = .ok (.getfield 43, 3) := by decide +kernel
theorem dX12_book_104 : decode cX12_book 104 = .ok (.iload_n 1, 1) := by decide +kernel
theorem dX12_book_105 : decode cX12_book 105 = .ok (.iaload, 1) := by decide +kernel
theorem dX12_book_106 : decode cX12_book 106 = .ok (.invokevirtual 292, 3) := by decide +kernel
theorem dX12_book_109 : decode cX12_book 109 = .ok (.putfield 302, 3) := by decide +kernel
theorem dX12_book_112 : decode cX12_book 112 = .ok (.aload_n 0, 1) := by decide +kernel
theorem dX12_book_113 : decode cX12_book 113 = .ok (.getfield 302, 3) := by decide +kernel
theorem dX12_book_116 : decode cX12_book 116 = .ok (.ifCond .le 5, 3) := by decide +kernel
theorem dX12_book_119 : decode cX12_book 119 = .ok (.iload_n 1, 1) := by decide +kernel
theorem dX12_book_120 : decode cX12_book 120 = .ok (.ireturn, 1) := by decide +kernel
theorem dX12_book_121 : decode cX12_book 121 = .ok (.aload_n 0, 1) := by decide +kernel
theorem dX12_book_122 : decode cX12_book 122 = .ok (.aload_n 0, 1) := by decide +kernel
theorem dX12_book_123 : decode cX12_book 123 = .ok (.getfield 40, 3) := by decide +kernel
theorem dX12_book_126 : decode cX12_book 126 = .ok (.iload_n 1, 1) := by decide +kernel
theorem dX12_book_127 : decode cX12_book 127 = .ok (.iaload, 1) := by decide +kernel
theorem dX12_book_128 : decode cX12_book 128 = .ok (.aload_n 0, 1) := by decide +kernel
theorem dX12_book_129 : decode cX12_book 129 = .ok (.getfield 43, 3) := by decide +kernel
theorem dX12_book_132 : decode cX12_book 132 = .ok (.iload_n 1, 1) := by decide +kernel
theorem dX12_book_133 : decode cX12_book 133 = .ok (.iaload, 1) := by decide +kernel
theorem dX12_book_134 : decode cX12_book 134 = .ok (.invokevirtual 295, 3) := by decide +kernel
theorem dX12_book_137 : decode cX12_book 137 = .ok (.iinc 1 1, 3) := by decide +kernel
theorem dX12_book_140 : decode cX12_book 140 = .ok (.goto (-56), 3) := by decide +kernel
theorem dX12_book_143 : decode cX12_book 143 = .ok (.iconst (-1), 1) := by decide +kernel
theorem dX12_book_144 : decode cX12_book 144 = .ok (.ireturn, 1) := by decide +kernel
theorem dX12_why_0 : decode cX12_why 0 = .ok (.aload_n 0, 1) := by decide +kernel
theorem dX12_why_1 : decode cX12_why 1 = .ok (.iconst 0, 1) := by decide +kernel
theorem dX12_why_2 : decode cX12_why 2 = .ok (.putfield 1, 3) := by decide +kernel
theorem dX12_why_5 : decode cX12_why 5 = .ok (.aload_n 0, 1) := by decide +kernel
theorem dX12_why_6 : decode cX12_why 6 = .ok (.getfield 302, 3) := by decide +kernel
theorem dX12_why_9 : decode cX12_why 9 = .ok (.ireturn, 1) := by decide +kernel
set_option maxRecDepth 20000 in
theorem ggX12_is_X12_isPerson : GoodIn wsX12_is wsX12_isPerson := goodIn_r _ [6, 7, 8, 9, 5, 10, 37, 38, 39, 40, 41, 42, 43, 44, 45, 46, 47, 48, 49, 50, 51, 52, 53, 54, 55, 56, 57, 58, 59, 60, 61, 62, 63, 64, 65, 66, 67, 68, 69, 70, 71, 72, 73, 74, 75, 76, 77, 78, 79, 80, 81, 82, 83, 84, 85, 86, 87, 88, 89, 90, 91, 92, 93, 94] (by decide +kernel) (by decide +kernel)
set_option maxRecDepth 20000 in
theorem gX12_is_X12_isPerson : GoodIn wsX12_is (wsV RX12 256 RX12 yX12_isPerson wsX12_isPerson) := goodIn_app (goodIn_of _ (by decide +kernel)) ggX12_is_X12_isPerson
set_option maxRecDepth 20000 in
theorem ggX12_is_X12_isIn : GoodIn wsX12_is wsX12_isIn := goodIn_r _ [10] (by decide +kernel) (by decide +kernel)
set_option maxRecDepth 20000 in
theorem gX12_is_X12_isIn : GoodIn wsX12_is (va_wsS RX12 197 yX12_isIn wsX12_isIn) := goodIn_app (goodIn_of _ (by decide +kernel)) ggX12_is_X12_isIn
set_option maxRecDepth 20000 in
theorem ggX12_is_X12_bind : GoodIn wsX12_is wsX12_bind := goodIn_r _ [14, 15, 7, 16, 17, 18, 5, 19, 20, 21, 22, 23, 24, 25, 26, 27, 28, 29, 30, 31, 32, 33, 34, 35, 36, 37, 38, 39, 40, 41, 42, 43, 44, 45, 46, 47, 48, 49, 50, 51, 52, 53, 54, 55, 56, 57, 58, 59, 60, 61, 62, 63, 64, 65, 66, 67, 68, 69, 70, 71, 72, 73, 74, 75, 76, 77, 78, 79, 80, 81, 82, 83, 84, 85, 86, 87, 88, 89, 90, 91, 92, 93, 94] (by decide +kernel) (by decide +kernel)
set_option maxRecDepth 20000 in
theorem gX12_is_X12_bind : GoodIn wsX12_is (wsV RX12 286 RX12 yX12_bind wsX12_bind) := goodIn_app (goodIn_of _ (by decide +kernel)) ggX12_is_X12_bind
set_option maxRecDepth 20000 in
theorem ggX12_is_X12_now : GoodIn wsX12_is wsX12_now := goodIn_r _ [32, 15, 7, 28, 37, 38, 39, 40, 41, 42, 43, 44, 45, 46, 47, 48, 49, 50, 51, 52, 53, 54, 55, 56, 57, 58, 59, 60, 61, 62, 63, 64, 65, 66, 67, 68, 69, 70, 71, 72, 73, 74, 75, 76, 77, 78, 79, 80, 81, 82, 83, 84, 85, 86, 87, 88, 89, 90, 91, 92, 93, 94] (by decide +kernel) (by decide +kernel)
set_option maxRecDepth 20000 in
theorem gX12_is_X12_now : GoodIn wsX12_is (wsV RX12 283 RX12 yX12_now wsX12_now) := goodIn_app (goodIn_of _ (by decide +kernel)) ggX12_is_X12_now
theorem dX12_is_0 : decode cX12_is 0 = .ok (.aload_n 0, 1) := by decide +kernel
theorem dX12_is_1 : decode cX12_is 1 = .ok (.iconst 0, 1) := by decide +kernel
theorem dX12_is_2 : decode cX12_is 2 = .ok (.putfield 1, 3) := by decide +kernel
theorem dX12_is_5 : decode cX12_is 5 = .ok (.aload_n 0, 1) := by decide +kernel
theorem dX12_is_6 : decode cX12_is 6 = .ok (.iload_n 1, 1) := by decide +kernel
theorem dX12_is_7 : decode cX12_is 7 = .ok (.invokevirtual 256, 3) := by decide +kernel
theorem dX12_is_10 : decode cX12_is 10 = .ok (.ifCond .eq 13, 3) := by decide +kernel
theorem dX12_is_13 : decode cX12_is 13 = .ok (.iload_n 2, 1) := by decide +kernel
theorem dX12_is_14 : decode cX12_is 14 = .ok (.iconst 0, 1) := by decide +kernel
theorem dX12_is_15 : decode cX12_is 15 = .ok (.bipush 59, 2) := by decide +kernel
theorem dX12_is_17 : decode cX12_is 17 = .ok (.invokestatic 197, 3) := by decide +kernel
theorem dX12_is_20 : decode cX12_is 20 = .ok (.ifCond .ne 5, 3) := by decide +kernel
theorem dX12_is_23 : decode cX12_is 23 = .ok (.iconst (-1), 1) := by decide +kernel
theorem dX12_is_24 : decode cX12_is 24 = .ok (.ireturn, 1) := by decide +kernel
theorem dX12_is_25 : decode cX12_is 25 = .ok (.aload_n 0, 1) := by decide +kernel
theorem dX12_is_26 : decode cX12_is 26 = .ok (.iload_n 2, 1) := by decide +kernel
theorem dX12_is_27 : decode cX12_is 27 = .ok (.invokevirtual 286, 3) := by decide +kernel
theorem dX12_is_30 : decode cX12_is 30 = .ok (.aload_n 0, 1) := by decide +kernel
theorem dX12_is_31 : decode cX12_is 31 = .ok (.iload_n 1, 1) := by decide +kernel
theorem dX12_is_32 : decode cX12_is 32 = .ok (.iload_n 2, 1) := by decide +kernel
theorem dX12_is_33 : decode cX12_is 33 = .ok (.invokevirtual 283, 3) := by decide +kernel
theorem dX12_is_36 : decode cX12_is 36 = .ok (.ireturn, 1) := by decide +kernel
set_option maxRecDepth 20000 in
theorem ggX12_may_X12_isIn : GoodIn wsX12_may wsX12_isIn := goodIn_r _ [6] (by decide +kernel) (by decide +kernel)
set_option maxRecDepth 20000 in
theorem gX12_may_X12_isIn : GoodIn wsX12_may (va_wsS RX12 197 yX12_isIn wsX12_isIn) := goodIn_app (goodIn_of _ (by decide +kernel)) ggX12_may_X12_isIn
set_option maxRecDepth 20000 in
theorem ggX12_may_X12_wrong : GoodIn wsX12_may wsX12_wrong := goodIn_r _ [10, 2, 11, 12, 13, 5, 14, 15, 16, 17, 18, 19, 20, 21, 22, 23, 24, 25, 26, 27, 28, 29, 30, 31, 32, 33, 34, 35, 36, 37, 38, 39, 40, 41, 42, 43, 44, 45, 46, 47, 48, 49, 50, 51, 52, 53, 54, 55, 56, 57, 58, 59, 60, 61, 62, 63, 64, 65, 66, 67, 68, 69, 70, 71, 72, 73, 74, 75, 76, 77, 78, 79, 80, 81, 82, 83, 84, 85, 86, 87, 88, 89, 90, 91, 92, 93, 94, 95, 96, 97, 98, 99, 100, 101, 102] (by decide +kernel) (by decide +kernel)
set_option maxRecDepth 20000 in
theorem gX12_may_X12_wrong : GoodIn wsX12_may (wsV RX12 292 RX12 yX12_wrong wsX12_wrong) := goodIn_app (goodIn_of _ (by decide +kernel)) ggX12_may_X12_wrong
theorem dX12_may_0 : decode cX12_may 0 = .ok (.aload_n 0, 1) := by decide +kernel
theorem dX12_may_1 : decode cX12_may 1 = .ok (.iconst 0, 1) := by decide +kernel
theorem dX12_may_2 : decode cX12_may 2 = .ok (.putfield 1, 3) := by decide +kernel
theorem dX12_may_5 : decode cX12_may 5 = .ok (.iload_n 1, 1) := by decide +kernel
theorem dX12_may_6 : decode cX12_may 6 = .ok (.iconst 0, 1) := by decide +kernel
theorem dX12_may_7 : decode cX12_may 7 = .ok (.iconst 1, 1) := by decide +kernel
theorem dX12_may_8 : decode cX12_may 8 = .ok (.invokestatic 197, 3) := by decide +kernel
theorem dX12_may_11 : decode cX12_may 11 = .ok (.ifCond .ne 5, 3) := by decide +kernel
theorem dX12_may_14 : decode cX12_may 14 = .ok (.iconst (-1), 1) := by decide +kernel
theorem dX12_may_15 : decode cX12_may 15 = .ok (.ireturn, 1) := by decide +kernel
theorem dX12_may_16 : decode cX12_may 16 = .ok (.iconst 0, 1) := by decide +kernel
theorem dX12_may_17 : decode cX12_may 17 = .ok (.istore_n 2, 1) := by decide +kernel
theorem dX12_may_18 : decode cX12_may 18 = .ok (.iconst 0, 1) := by decide +kernel
theorem dX12_may_19 : decode cX12_may 19 = .ok (.istore_n 3, 1) := by decide +kernel
theorem dX12_may_20 : decode cX12_may 20 = .ok (.iload_n 3, 1) := by decide +kernel
theorem dX12_may_21 : decode cX12_may 21 = .ok (.aload_n 0, 1) := by decide +kernel
theorem dX12_may_22 : decode cX12_may 22 = .ok (.getfield 33, 3) := by decide +kernel
theorem dX12_may_25 : decode cX12_may 25 = .ok (.iconst 1, 1) := by decide +kernel
theorem dX12_may_26 : decode cX12_may 26 = .ok (.iaload, 1) := by decide +kernel
theorem dX12_may_27 : decode cX12_may 27 = .ok (.if_icmp .ge 28, 3) := by decide +kernel
theorem dX12_may_30 : decode cX12_may 30 = .ok (.iload_n 2, 1) := by decide +kernel
theorem dX12_may_31 : decode cX12_may 31 = .ok (.aload_n 0, 1) := by decide +kernel
theorem dX12_may_32 : decode cX12_may 32 = .ok (.iload_n 3, 1) := by decide +kernel
theorem dX12_may_33 : decode cX12_may 33 = .ok (.iload_n 1, 1) := by decide +kernel
theorem dX12_may_34 : decode cX12_may 34 = .ok (.invokevirtual 292, 3) := by decide +kernel
theorem dX12_may_37 : decode cX12_may 37 = .ok (.ifCond .ne 9, 3) := by decide +kernel
theorem dX12_may_40 : decode cX12_may 40 = .ok (.iconst 1, 1) := by decide +kernel
theorem dX12_may_41 : decode cX12_may 41 = .ok (.iload_n 3, 1) := by decide +kernel
theorem dX12_may_42 : decode cX12_may 42 = .ok (.ishl, 1) := by decide +kernel
theorem dX12_may_43 : decode cX12_may 43 = .ok (.goto 4, 3) := by decide +kernel
theorem dX12_may_46 : decode cX12_may 46 = .ok (.iconst 0, 1) := by decide +kernel
theorem dX12_may_47 : decode cX12_may 47 = .ok (.ior, 1) := by decide +kernel
theorem dX12_may_48 : decode cX12_may 48 = .ok (.istore_n 2, 1) := by decide +kernel
theorem dX12_may_49 : decode cX12_may 49 = .ok (.iinc 3 1, 3) := by decide +kernel
theorem dX12_may_52 : decode cX12_may 52 = .ok (.goto (-32), 3) := by decide +kernel
theorem dX12_may_55 : decode cX12_may 55 = .ok (.iload_n 2, 1) := by decide +kernel
theorem dX12_may_56 : decode cX12_may 56 = .ok (.ireturn, 1) := by decide +kernel
set_option maxRecDepth 20000 in
theorem ggX12_had_X12_isPerson : GoodIn wsX12_had wsX12_isPerson := goodIn_r _ [7, 2, 8, 9, 6, 10, 19, 20, 21, 22, 23, 24, 25, 26, 27, 28, 29, 30, 31, 32, 33, 34, 35, 36, 37, 38, 39, 40, 41, 42, 43, 44, 45, 46, 47, 48, 49, 50, 51, 52, 53, 54, 55, 56, 57, 58, 59, 60, 61, 62, 63, 64, 65, 66, 67, 68, 69, 70, 71, 72, 73, 74, 75, 76] (by decide +kernel) (by decide +kernel)
set_option maxRecDepth 20000 in
theorem gX12_had_X12_isPerson : GoodIn wsX12_had (wsV RX12 256 RX12 yX12_isPerson wsX12_isPerson) := goodIn_app (goodIn_of _ (by decide +kernel)) ggX12_had_X12_isPerson
set_option maxRecDepth 20000 in
theorem ggX12_had_X12_gainOf : GoodIn wsX12_had wsX12_gainOf := goodIn_r _ [14, 15, 16, 17, 6, 18, 2, 19, 20, 21, 22, 23, 24, 25, 26, 27, 28, 29, 30, 31, 32, 33, 34, 35, 36, 37, 38, 39, 40, 41, 42, 43, 44, 45, 46, 47, 48, 49, 50, 51, 52, 53, 54, 55, 56, 57, 58, 59, 60, 61, 62, 63, 64, 65, 66, 67, 68, 69, 70, 71, 72, 73, 74, 75, 76] (by decide +kernel) (by decide +kernel)
set_option maxRecDepth 20000 in
theorem gX12_had_X12_gainOf : GoodIn wsX12_had (wsV RX12 308 RX12 yX12_gainOf wsX12_gainOf) := goodIn_app (goodIn_of _ (by decide +kernel)) ggX12_had_X12_gainOf
theorem dX12_had_0 : decode cX12_had 0 = .ok (.aload_n 0, 1) := by decide +kernel
theorem dX12_had_1 : decode cX12_had 1 = .ok (.iconst 0, 1) := by decide +kernel
theorem dX12_had_2 : decode cX12_had 2 = .ok (.putfield 1, 3) := by decide +kernel
theorem dX12_had_5 : decode cX12_had 5 = .ok (.aload_n 0, 1) := by decide +kernel
theorem dX12_had_6 : decode cX12_had 6 = .ok (.iload_n 1, 1) := by decide +kernel
theorem dX12_had_7 : decode cX12_had 7 = .ok (.invokevirtual 256, 3) := by decide +kernel
theorem dX12_had_10 : decode cX12_had 10 = .ok (.ifCond .ne 5, 3) := by decide +kernel
theorem dX12_had_13 : decode cX12_had 13 = .ok (.iconst (-1), 1) := by decide +kernel
theorem dX12_had_14 : decode cX12_had 14 = .ok (.ireturn, 1) := by decide +kernel
theorem dX12_had_15 : decode cX12_had 15 = .ok (.iconst 0, 1) := by decide +kernel
theorem dX12_had_16 : decode cX12_had 16 = .ok (.istore_n 2, 1) := by decide +kernel
theorem dX12_had_17 : decode cX12_had 17 = .ok (.iconst 0, 1) := by decide +kernel
theorem dX12_had_18 : decode cX12_had 18 = .ok (.istore_n 3, 1) := by decide +kernel
theorem dX12_had_19 : decode cX12_had 19 = .ok (.iload_n 3, 1) := by decide +kernel
theorem dX12_had_20 : decode cX12_had 20 = .ok (.aload_n 0, 1) := by decide +kernel
theorem dX12_had_21 : decode cX12_had 21 = .ok (.getfield 33, 3) := by decide +kernel
theorem dX12_had_24 : decode cX12_had 24 = .ok (.iconst 3, 1) := by decide +kernel
theorem dX12_had_25 : decode cX12_had 25 = .ok (.iaload, 1) := by decide +kernel
theorem dX12_had_26 : decode cX12_had 26 = .ok (.if_icmp .ge 27, 3) := by decide +kernel
theorem dX12_had_29 : decode cX12_had 29 = .ok (.iload_n 2, 1) := by decide +kernel
theorem dX12_had_30 : decode cX12_had 30 = .ok (.aload_n 0, 1) := by decide +kernel
theorem dX12_had_31 : decode cX12_had 31 = .ok (.aload_n 0, 1) := by decide +kernel
theorem dX12_had_32 : decode cX12_had 32 = .ok (.getfield 33, 3) := by decide +kernel
theorem dX12_had_35 : decode cX12_had 35 = .ok (.sipush 224, 3) := by decide +kernel
theorem dX12_had_38 : decode cX12_had 38 = .ok (.iload_n 3, 1) := by decide +kernel
theorem dX12_had_39 : decode cX12_had 39 = .ok (.iadd, 1) := by decide +kernel
theorem dX12_had_40 : decode cX12_had 40 = .ok (.iaload, 1) := by decide +kernel
theorem dX12_had_41 : decode cX12_had 41 = .ok (.iload_n 1, 1) := by decide +kernel
theorem dX12_had_42 : decode cX12_had 42 = .ok (.invokevirtual 308, 3) := by decide +kernel
theorem dX12_had_45 : decode cX12_had 45 = .ok (.iadd, 1) := by decide +kernel
theorem dX12_had_46 : decode cX12_had 46 = .ok (.istore_n 2, 1) := by decide +kernel
theorem dX12_had_47 : decode cX12_had 47 = .ok (.iinc 3 1, 3) := by decide +kernel
theorem dX12_had_50 : decode cX12_had 50 = .ok (.goto (-31), 3) := by decide +kernel
theorem dX12_had_53 : decode cX12_had 53 = .ok (.iload_n 2, 1) := by decide +kernel
theorem dX12_had_54 : decode cX12_had 54 = .ok (.ireturn, 1) := by decide +kernel
set_option maxRecDepth 20000 in
theorem ggX12_gainOf_X12_of : GoodIn wsX12_gainOf wsX12_of := goodIn_r _ [5, 6, 7, 8, 9, 10, 11, 12, 13, 14, 15, 16, 17, 18, 19, 20, 21, 22, 23, 24, 25, 26, 27, 28, 29, 30, 31, 32, 33, 34, 35, 36, 37, 38, 39, 40, 41, 42, 43, 44, 45, 46, 47, 48, 49, 50, 51, 52, 53, 54, 55, 56, 57, 58, 59, 60, 61, 62, 63, 64] (by decide +kernel) (by decide +kernel)
set_option maxRecDepth 20000 in
theorem gX12_gainOf_X12_of : GoodIn wsX12_gainOf (wsV RX12 266 RX12 yX12_of wsX12_of) := goodIn_app (goodIn_of _ (by decide +kernel)) ggX12_gainOf_X12_of
theorem dX12_gainOf_0 : decode cX12_gainOf 0 = .ok (.aload_n 0, 1) := by decide +kernel
theorem dX12_gainOf_1 : decode cX12_gainOf 1 = .ok (.iload_n 1, 1) := by decide +kernel
theorem dX12_gainOf_2 : decode cX12_gainOf 2 = .ok (.iconst 0, 1) := by decide +kernel
theorem dX12_gainOf_3 : decode cX12_gainOf 3 = .ok (.invokevirtual 266, 3) := by decide +kernel
theorem dX12_gainOf_6 : decode cX12_gainOf 6 = .ok (.iload_n 2, 1) := by decide +kernel
theorem dX12_gainOf_7 : decode cX12_gainOf 7 = .ok (.if_icmp .ne 12, 3) := by decide +kernel
theorem dX12_gainOf_10 : decode cX12_gainOf 10 = .ok (.aload_n 0, 1) := by decide +kernel
theorem dX12_gainOf_11 : decode cX12_gainOf 11 = .ok (.iload_n 1, 1) := by decide +kernel
theorem dX12_gainOf_12 : decode cX12_gainOf 12 = .ok (.iconst 3, 1) := by decide +kernel
theorem dX12_gainOf_13 : decode cX12_gainOf 13 = .ok (.invokevirtual 266, 3) := by decide +kernel
theorem dX12_gainOf_16 : decode cX12_gainOf 16 = .ok (.goto 23, 3) := by decide +kernel
theorem dX12_gainOf_19 : decode cX12_gainOf 19 = .ok (.aload_n 0, 1) := by decide +kernel
theorem dX12_gainOf_20 : decode cX12_gainOf 20 = .ok (.iload_n 1, 1) := by decide +kernel
theorem dX12_gainOf_21 : decode cX12_gainOf 21 = .ok (.iconst 1, 1) := by decide +kernel
theorem dX12_gainOf_22 : decode cX12_gainOf 22 = .ok (.invokevirtual 266, 3) := by decide +kernel
theorem dX12_gainOf_25 : decode cX12_gainOf 25 = .ok (.iload_n 2, 1) := by decide +kernel
theorem dX12_gainOf_26 : decode cX12_gainOf 26 = .ok (.if_icmp .ne 12, 3) := by decide +kernel
theorem dX12_gainOf_29 : decode cX12_gainOf 29 = .ok (.aload_n 0, 1) := by decide +kernel
theorem dX12_gainOf_30 : decode cX12_gainOf 30 = .ok (.iload_n 1, 1) := by decide +kernel
theorem dX12_gainOf_31 : decode cX12_gainOf 31 = .ok (.iconst 4, 1) := by decide +kernel
theorem dX12_gainOf_32 : decode cX12_gainOf 32 = .ok (.invokevirtual 266, 3) := by decide +kernel
theorem dX12_gainOf_35 : decode cX12_gainOf 35 = .ok (.goto 4, 3) := by decide +kernel
theorem dX12_gainOf_38 : decode cX12_gainOf 38 = .ok (.iconst 0, 1) := by decide +kernel
theorem dX12_gainOf_39 : decode cX12_gainOf 39 = .ok (.ireturn, 1) := by decide +kernel
set_option maxRecDepth 20000 in
theorem ggX12_goesAs_X12_of : GoodIn wsX12_goesAs wsX12_of := goodIn_r _ [5, 6, 10, 11, 12, 13, 14, 15, 16, 17, 18, 19, 20, 21, 22, 23, 24, 25, 26, 27, 28, 29, 30, 31, 32, 33, 34, 35, 36, 37, 38, 39, 40, 41, 42, 43, 44, 45, 46, 47, 48, 49, 50, 51, 52, 53, 54, 55, 56, 57, 58, 59, 60, 61, 62, 63, 64, 65, 66, 67] (by decide +kernel) (by decide +kernel)
set_option maxRecDepth 20000 in
theorem gX12_goesAs_X12_of : GoodIn wsX12_goesAs (wsV RX12 266 RX12 yX12_of wsX12_of) := goodIn_app (goodIn_of _ (by decide +kernel)) ggX12_goesAs_X12_of
set_option maxRecDepth 20000 in
theorem ggX12_goesAs_X12_has : GoodIn wsX12_goesAs wsX12_has := goodIn_r _ [9] (by decide +kernel) (by decide +kernel)
set_option maxRecDepth 20000 in
theorem gX12_goesAs_X12_has : GoodIn wsX12_goesAs (va_wsS RX12 235 yX12_has wsX12_has) := goodIn_app (goodIn_of _ (by decide +kernel)) ggX12_goesAs_X12_has
theorem dX12_goesAs_0 : decode cX12_goesAs 0 = .ok (.iload_n 2, 1) := by decide +kernel
theorem dX12_goesAs_1 : decode cX12_goesAs 1 = .ok (.aload_n 0, 1) := by decide +kernel
theorem dX12_goesAs_2 : decode cX12_goesAs 2 = .ok (.iload_n 1, 1) := by decide +kernel
theorem dX12_goesAs_3 : decode cX12_goesAs 3 = .ok (.iconst 0, 1) := by decide +kernel
theorem dX12_goesAs_4 : decode cX12_goesAs 4 = .ok (.invokevirtual 266, 3) := by decide +kernel
theorem dX12_goesAs_7 : decode cX12_goesAs 7 = .ok (.invokestatic 235, 3) := by decide +kernel
theorem dX12_goesAs_10 : decode cX12_goesAs 10 = .ok (.istore_n 3, 1) := by decide +kernel
theorem dX12_goesAs_11 : decode cX12_goesAs 11 = .ok (.iload_n 2, 1) := by decide +kernel
theorem dX12_goesAs_12 : decode cX12_goesAs 12 = .ok (.aload_n 0, 1) := by decide +kernel
theorem dX12_goesAs_13 : decode cX12_goesAs 13 = .ok (.iload_n 1, 1) := by decide +kernel
theorem dX12_goesAs_14 : decode cX12_goesAs 14 = .ok (.iconst 1, 1) := by decide +kernel
theorem dX12_goesAs_15 : decode cX12_goesAs 15 = .ok (.invokevirtual 266, 3) := by decide +kernel
theorem dX12_goesAs_18 : decode cX12_goesAs 18 = .ok (.invokestatic 235, 3) := by decide +kernel
theorem dX12_goesAs_21 : decode cX12_goesAs 21 = .ok (.istore 4, 2) := by decide +kernel
theorem dX12_goesAs_23 : decode cX12_goesAs 23 = .ok (.iload_n 3, 1) := by decide +kernel
theorem dX12_goesAs_24 : decode cX12_goesAs 24 = .ok (.ifCond .eq 12, 3) := by decide +kernel
theorem dX12_goesAs_27 : decode cX12_goesAs 27 = .ok (.iload 4, 2) := by decide +kernel
theorem dX12_goesAs_29 : decode cX12_goesAs 29 = .ok (.ifCond .ne 7, 3) := by decide +kernel
theorem dX12_goesAs_32 : decode cX12_goesAs 32 = .ok (.iconst 1, 1) := by decide +kernel
theorem dX12_goesAs_33 : decode cX12_goesAs 33 = .ok (.goto 27, 3) := by decide +kernel
theorem dX12_goesAs_36 : decode cX12_goesAs 36 = .ok (.iload 4, 2) := by decide +kernel
theorem dX12_goesAs_38 : decode cX12_goesAs 38 = .ok (.ifCond .eq 21, 3) := by decide +kernel
theorem dX12_goesAs_41 : decode cX12_goesAs 41 = .ok (.iload_n 3, 1) := by decide +kernel
theorem dX12_goesAs_42 : decode cX12_goesAs 42 = .ok (.ifCond .ne 17, 3) := by decide +kernel
theorem dX12_goesAs_45 : decode cX12_goesAs 45 = .ok (.aload_n 0, 1) := by decide +kernel
theorem dX12_goesAs_46 : decode cX12_goesAs 46 = .ok (.iload_n 1, 1) := by decide +kernel
theorem dX12_goesAs_47 : decode cX12_goesAs 47 = .ok (.iconst 5, 1) := by decide +kernel
theorem dX12_goesAs_48 : decode cX12_goesAs 48 = .ok (.invokevirtual 266, 3) := by decide +kernel
theorem dX12_goesAs_51 : decode cX12_goesAs 51 = .ok (.iconst 1, 1) := by decide +kernel
theorem dX12_goesAs_52 : decode cX12_goesAs 52 = .ok (.if_icmp .ne 7, 3) := by decide +kernel
theorem dX12_goesAs_55 : decode cX12_goesAs 55 = .ok (.iconst 2, 1) := by decide +kernel
theorem dX12_goesAs_56 : decode cX12_goesAs 56 = .ok (.goto 4, 3) := by decide +kernel
theorem dX12_goesAs_59 : decode cX12_goesAs 59 = .ok (.iconst 0, 1) := by decide +kernel
theorem dX12_goesAs_60 : decode cX12_goesAs 60 = .ok (.ireturn, 1) := by decide +kernel
set_option maxRecDepth 20000 in
theorem ggX12_mostOf_X12_bestRow : GoodIn wsX12_mostOf wsX12_bestRow := goodIn_r _ [11, 2, 5, 4, 3, 6, 12, 13, 14, 15, 16, 17, 10, 18, 1, 19, 20, 21, 22, 23, 24, 25, 26, 27, 28, 29, 30, 31, 32, 33, 34, 35, 36, 37, 38, 39, 40, 41, 42, 43, 44, 45, 46, 47, 48, 49, 50, 51, 52, 53, 54, 55, 56, 57, 58, 59, 60, 61, 62, 63, 64, 65, 66, 67, 68, 69, 70, 71, 72, 73, 74, 75, 76, 77] (by decide +kernel) (by decide +kernel)
set_option maxRecDepth 20000 in
theorem gX12_mostOf_X12_bestRow : GoodIn wsX12_mostOf (wsV RX12 314 RX12 yX12_bestRow wsX12_bestRow) := goodIn_app (goodIn_of _ (by decide +kernel)) ggX12_mostOf_X12_bestRow
theorem dX12_mostOf_0 : decode cX12_mostOf 0 = .ok (.iconst 0, 1) := by decide +kernel
theorem dX12_mostOf_1 : decode cX12_mostOf 1 = .ok (.istore_n 1, 1) := by decide +kernel
theorem dX12_mostOf_2 : decode cX12_mostOf 2 = .ok (.iload_n 1, 1) := by decide +kernel
theorem dX12_mostOf_3 : decode cX12_mostOf 3 = .ok (.bipush 10, 2) := by decide +kernel
theorem dX12_mostOf_5 : decode cX12_mostOf 5 = .ok (.if_icmp .ge 16, 3) := by decide +kernel
theorem dX12_mostOf_8 : decode cX12_mostOf 8 = .ok (.aload_n 0, 1) := by decide +kernel
theorem dX12_mostOf_9 : decode cX12_mostOf 9 = .ok (.getfield 65, 3) := by decide +kernel
theorem dX12_mostOf_12 : decode cX12_mostOf 12 = .ok (.iload_n 1, 1) := by decide +kernel
theorem dX12_mostOf_13 : decode cX12_mostOf 13 = .ok (.iconst 0, 1) := by decide +kernel
theorem dX12_mostOf_14 : decode cX12_mostOf 14 = .ok (.iastore, 1) := by decide +kernel
theorem dX12_mostOf_15 : decode cX12_mostOf 15 = .ok (.iinc 1 1, 3) := by decide +kernel
theorem dX12_mostOf_18 : decode cX12_mostOf 18 = .ok (.goto (-16), 3) := by decide +kernel
theorem dX12_mostOf_21 : decode cX12_mostOf 21 = .ok (.iconst 0, 1) := by decide +kernel
theorem dX12_mostOf_22 : decode cX12_mostOf 22 = .ok (.istore_n 1, 1) := by decide +kernel
theorem dX12_mostOf_23 : decode cX12_mostOf 23 = .ok (.iload_n 1, 1) := by decide +kernel
theorem dX12_mostOf_24 : decode cX12_mostOf 24 = .ok (.aload_n 0, 1) := by decide +kernel
theorem dX12_mostOf_25 : decode cX12_mostOf 25 = .ok (.getfield 311, 3) := by decide +kernel
theorem dX12_mostOf_28 : decode cX12_mostOf 28 = .ok (.if_icmp .ge 16, 3) := by decide +kernel
theorem dX12_mostOf_31 : decode cX12_mostOf 31 = .ok (.aload_n 0, 1) := by decide +kernel
theorem dX12_mostOf_32 : decode cX12_mostOf 32 = .ok (.getfield 80, 3) := by decide +kernel
theorem dX12_mostOf_35 : decode cX12_mostOf 35 = .ok (.iload_n 1, 1) := by decide +kernel
theorem dX12_mostOf_36 : decode cX12_mostOf 36 = .ok (.iconst 0, 1) := by decide +kernel
theorem dX12_mostOf_37 : decode cX12_mostOf 37 = .ok (.bastore, 1) := by decide +kernel
theorem dX12_mostOf_38 : decode cX12_mostOf 38 = .ok (.iinc 1 1, 3) := by decide +kernel
theorem dX12_mostOf_41 : decode cX12_mostOf 41 = .ok (.goto (-18), 3) := by decide +kernel
theorem dX12_mostOf_44 : decode cX12_mostOf 44 = .ok (.iconst 0, 1) := by decide +kernel
theorem dX12_mostOf_45 : decode cX12_mostOf 45 = .ok (.istore_n 1, 1) := by decide +kernel
theorem dX12_mostOf_46 : decode cX12_mostOf 46 = .ok (.aload_n 0, 1) := by decide +kernel
theorem dX12_mostOf_47 : decode cX12_mostOf 47 = .ok (.invokevirtual 314, 3) := by decide +kernel
theorem dX12_mostOf_50 : decode cX12_mostOf 50 = .ok (.istore_n 2, 1) := by decide +kernel
theorem dX12_mostOf_51 : decode cX12_mostOf 51 = .ok (.iload_n 2, 1) := by decide +kernel
theorem dX12_mostOf_52 : decode cX12_mostOf 52 = .ok (.ifCond .lt 12, 3) := by decide +kernel
theorem dX12_mostOf_55 : decode cX12_mostOf 55 = .ok (.aload_n 0, 1) := by decide +kernel
theorem dX12_mostOf_56 : decode cX12_mostOf 56 = .ok (.getfield 71, 3) := by decide +kernel
theorem dX12_mostOf_59 : decode cX12_mostOf 59 = .ok (.iload_n 2, 1) := by decide +kernel
theorem dX12_mostOf_60 : decode cX12_mostOf 60 = .ok (.iaload, 1) := by decide +kernel
theorem dX12_mostOf_61 : decode cX12_mostOf 61 = .ok (.ifCond .lt 5, 3) := by decide +kernel
theorem dX12_mostOf_64 : decode cX12_mostOf 64 = .ok (.iload_n 1, 1) := by decide +kernel
theorem dX12_mostOf_65 : decode cX12_mostOf 65 = .ok (.ireturn, 1) := by decide +kernel
theorem dX12_mostOf_66 : decode cX12_mostOf 66 = .ok (.iload_n 1, 1) := by decide +kernel
theorem dX12_mostOf_67 : decode cX12_mostOf 67 = .ok (.aload_n 0, 1) := by decide +kernel
theorem dX12_mostOf_68 : decode cX12_mostOf 68 = .ok (.getfield 71, 3) := by decide +kernel
theorem dX12_mostOf_71 : decode cX12_mostOf 71 = .ok (.iload_n 2, 1) := by decide +kernel
theorem dX12_mostOf_72 : decode cX12_mostOf 72 = .ok (.iaload, 1) := by decide +kernel
theorem dX12_mostOf_73 : decode cX12_mostOf 73 = .ok (.isub, 1) := by decide +kernel
theorem dX12_mostOf_74 : decode cX12_mostOf 74 = .ok (.istore_n 1, 1) := by decide +kernel
theorem dX12_mostOf_75 : decode cX12_mostOf 75 = .ok (.iload_n 2, 1) := by decide +kernel
theorem dX12_mostOf_76 : decode cX12_mostOf 76 = .ok (.istore_n 3, 1) := by decide +kernel
theorem dX12_mostOf_77 : decode cX12_mostOf 77 = .ok (.iload_n 3, 1) := by decide +kernel
theorem dX12_mostOf_78 : decode cX12_mostOf 78 = .ok (.ifCond .lt 33, 3) := by decide +kernel
theorem dX12_mostOf_81 : decode cX12_mostOf 81 = .ok (.aload_n 0, 1) := by decide +kernel
theorem dX12_mostOf_82 : decode cX12_mostOf 82 = .ok (.getfield 80, 3) := by decide +kernel
theorem dX12_mostOf_85 : decode cX12_mostOf 85 = .ok (.iload_n 3, 1) := by decide +kernel
theorem dX12_mostOf_86 : decode cX12_mostOf 86 = .ok (.aload_n 0, 1) := by decide +kernel
theorem dX12_mostOf_87 : decode cX12_mostOf 87 = .ok (.getfield 80, 3) := by decide +kernel
theorem dX12_mostOf_90 : decode cX12_mostOf 90 = .ok (.iload_n 3, 1) := by decide +kernel
theorem dX12_mostOf_91 : decode cX12_mostOf 91 = .ok (.baload, 1) := by decide +kernel
theorem dX12_mostOf_92 : decode cX12_mostOf 92 = .ok (.ifCond .ne 7, 3) := by decide +kernel
theorem dX12_mostOf_95 : decode cX12_mostOf 95 = .ok (.iconst 1, 1) := by decide +kernel
theorem dX12_mostOf_96 : decode cX12_mostOf 96 = .ok (.goto 4, 3) := by decide +kernel
theorem dX12_mostOf_99 : decode cX12_mostOf 99 = .ok (.iconst 0, 1) := by decide +kernel
theorem dX12_mostOf_100 : decode cX12_mostOf 100 = .ok (.bastore, 1) := by decide +kernel
theorem dX12_mostOf_101 : decode cX12_mostOf 101 = .ok (.aload_n 0, 1) := by decide +kernel
theorem dX12_mostOf_102 : decode cX12_mostOf 102 = .ok (.getfield 77, 3) := by decide +kernel
theorem dX12_mostOf_105 : decode cX12_mostOf 105 = .ok (.iload_n 3, 1) := by decide +kernel
theorem dX12_mostOf_106 : decode cX12_mostOf 106 = .ok (.iaload, 1) := by decide +kernel
theorem dX12_mostOf_107 : decode cX12_mostOf 107 = .ok (.istore_n 3, 1) := by decide +kernel
theorem dX12_mostOf_108 : decode cX12_mostOf 108 = .ok (.goto (-31), 3) := by decide +kernel
theorem dX12_mostOf_111 : decode cX12_mostOf 111 = .ok (.iconst 0, 1) := by decide +kernel
theorem dX12_mostOf_112 : decode cX12_mostOf 112 = .ok (.istore_n 3, 1) := by decide +kernel
theorem dX12_mostOf_113 : decode cX12_mostOf 113 = .ok (.iload_n 3, 1) := by decide +kernel
theorem dX12_mostOf_114 : decode cX12_mostOf 114 = .ok (.bipush 10, 2) := by decide +kernel
theorem dX12_mostOf_116 : decode cX12_mostOf 116 = .ok (.if_icmp .ge 16, 3) := by decide +kernel
theorem dX12_mostOf_119 : decode cX12_mostOf 119 = .ok (.aload_n 0, 1) := by decide +kernel
theorem dX12_mostOf_120 : decode cX12_mostOf 120 = .ok (.getfield 65, 3) := by decide +kernel
theorem dX12_mostOf_123 : decode cX12_mostOf 123 = .ok (.iload_n 3, 1) := by decide +kernel
theorem dX12_mostOf_124 : decode cX12_mostOf 124 = .ok (.iconst 0, 1) := by decide +kernel
theorem dX12_mostOf_125 : decode cX12_mostOf 125 = .ok (.iastore, 1) := by decide +kernel
theorem dX12_mostOf_126 : decode cX12_mostOf 126 = .ok (.iinc 3 1, 3) := by decide +kernel
theorem dX12_mostOf_129 : decode cX12_mostOf 129 = .ok (.goto (-16), 3) := by decide +kernel
theorem dX12_mostOf_132 : decode cX12_mostOf 132 = .ok (.iconst 0, 1) := by decide +kernel
theorem dX12_mostOf_133 : decode cX12_mostOf 133 = .ok (.istore_n 3, 1) := by decide +kernel
theorem dX12_mostOf_134 : decode cX12_mostOf 134 = .ok (.iload_n 3, 1) := by decide +kernel
theorem dX12_mostOf_135 : decode cX12_mostOf 135 = .ok (.aload_n 0, 1) := by decide +kernel
theorem dX12_mostOf_136 : decode cX12_mostOf 136 = .ok (.getfield 311, 3) := by decide +kernel
theorem dX12_mostOf_139 : decode cX12_mostOf 139 = .ok (.if_icmp .ge 57, 3) := by decide +kernel
theorem dX12_mostOf_142 : decode cX12_mostOf 142 = .ok (.aload_n 0, 1) := by decide +kernel
theorem dX12_mostOf_143 : decode cX12_mostOf 143 = .ok (.getfield 80, 3) := by decide +kernel
theorem dX12_mostOf_146 : decode cX12_mostOf 146 = .ok (.iload_n 3, 1) := by decide +kernel
theorem dX12_mostOf_147 : decode cX12_mostOf 147 = .ok (.baload, 1) := by decide +kernel
theorem dX12_mostOf_148 : decode cX12_mostOf 148 = .ok (.ifCond .ne 6, 3) := by decide +kernel
theorem dX12_mostOf_151 : decode cX12_mostOf 151 = .ok (.goto 39, 3) := by decide +kernel
theorem dX12_mostOf_154 : decode cX12_mostOf 154 = .ok (.aload_n 0, 1) := by decide +kernel
theorem dX12_mostOf_155 : decode cX12_mostOf 155 = .ok (.getfield 65, 3) := by decide +kernel
theorem dX12_mostOf_158 : decode cX12_mostOf 158 = .ok (.aload_n 0, 1) := by decide +kernel
theorem dX12_mostOf_159 : decode cX12_mostOf 159 = .ok (.getfield 59, 3) := by decide +kernel
theorem dX12_mostOf_162 : decode cX12_mostOf 162 = .ok (.iconst 2, 1) := by decide +kernel
theorem dX12_mostOf_163 : decode cX12_mostOf 163 = .ok (.iload_n 3, 1) := by decide +kernel
theorem dX12_mostOf_164 : decode cX12_mostOf 164 = .ok (.imul, 1) := by decide +kernel
theorem dX12_mostOf_165 : decode cX12_mostOf 165 = .ok (.iaload, 1) := by decide +kernel
theorem dX12_mostOf_166 : decode cX12_mostOf 166 = .ok (.dup2, 1) := by decide +kernel
theorem dX12_mostOf_167 : decode cX12_mostOf 167 = .ok (.iaload, 1) := by decide +kernel
theorem dX12_mostOf_168 : decode cX12_mostOf 168 = .ok (.iconst 1, 1) := by decide +kernel
theorem dX12_mostOf_169 : decode cX12_mostOf 169 = .ok (.iadd, 1) := by decide +kernel
theorem dX12_mostOf_170 : decode cX12_mostOf 170 = .ok (.iastore, 1) := by decide +kernel
theorem dX12_mostOf_171 : decode cX12_mostOf 171 = .ok (.aload_n 0, 1) := by decide +kernel
theorem dX12_mostOf_172 : decode cX12_mostOf 172 = .ok (.getfield 65, 3) := by decide +kernel
theorem dX12_mostOf_175 : decode cX12_mostOf 175 = .ok (.aload_n 0, 1) := by decide +kernel
theorem dX12_mostOf_176 : decode cX12_mostOf 176 = .ok (.getfield 59, 3) := by decide +kernel
theorem dX12_mostOf_179 : decode cX12_mostOf 179 = .ok (.iconst 2, 1) := by decide +kernel
theorem dX12_mostOf_180 : decode cX12_mostOf 180 = .ok (.iload_n 3, 1) := by decide +kernel
theorem dX12_mostOf_181 : decode cX12_mostOf 181 = .ok (.imul, 1) := by decide +kernel
theorem dX12_mostOf_182 : decode cX12_mostOf 182 = .ok (.iconst 1, 1) := by decide +kernel
theorem dX12_mostOf_183 : decode cX12_mostOf 183 = .ok (.iadd, 1) := by decide +kernel
theorem dX12_mostOf_184 : decode cX12_mostOf 184 = .ok (.iaload, 1) := by decide +kernel
theorem dX12_mostOf_185 : decode cX12_mostOf 185 = .ok (.dup2, 1) := by decide +kernel
theorem dX12_mostOf_186 : decode cX12_mostOf 186 = .ok (.iaload, 1) := by decide +kernel
theorem dX12_mostOf_187 : decode cX12_mostOf 187 = .ok (.iconst 1, 1) := by decide +kernel
theorem dX12_mostOf_188 : decode cX12_mostOf 188 = .ok (.iadd, 1) := by decide +kernel
theorem dX12_mostOf_189 : decode cX12_mostOf 189 = .ok (.iastore, 1) := by decide +kernel
theorem dX12_mostOf_190 : decode cX12_mostOf 190 = .ok (.iinc 3 1, 3) := by decide +kernel
theorem dX12_mostOf_193 : decode cX12_mostOf 193 = .ok (.goto (-59), 3) := by decide +kernel
theorem dX12_mostOf_196 : decode cX12_mostOf 196 = .ok (.goto (-150), 3) := by decide +kernel
theorem dX12_isRoom_0 : decode cX12_isRoom 0 = .ok (.aload_n 0, 1) := by decide +kernel
theorem dX12_isRoom_1 : decode cX12_isRoom 1 = .ok (.getfield 65, 3) := by decide +kernel
theorem dX12_isRoom_4 : decode cX12_isRoom 4 = .ok (.iload_n 1, 1) := by decide +kernel
theorem dX12_isRoom_5 : decode cX12_isRoom 5 = .ok (.iaload, 1) := by decide +kernel
theorem dX12_isRoom_6 : decode cX12_isRoom 6 = .ok (.aload_n 0, 1) := by decide +kernel
theorem dX12_isRoom_7 : decode cX12_isRoom 7 = .ok (.getfield 68, 3) := by decide +kernel
theorem dX12_isRoom_10 : decode cX12_isRoom 10 = .ok (.iload_n 1, 1) := by decide +kernel
theorem dX12_isRoom_11 : decode cX12_isRoom 11 = .ok (.iaload, 1) := by decide +kernel
theorem dX12_isRoom_12 : decode cX12_isRoom 12 = .ok (.if_icmp .ge 7, 3) := by decide +kernel
theorem dX12_isRoom_15 : decode cX12_isRoom 15 = .ok (.iconst 1, 1) := by decide +kernel
theorem dX12_isRoom_16 : decode cX12_isRoom 16 = .ok (.goto 4, 3) := by decide +kernel
theorem dX12_isRoom_19 : decode cX12_isRoom 19 = .ok (.iconst 0, 1) := by decide +kernel
theorem dX12_isRoom_20 : decode cX12_isRoom 20 = .ok (.ireturn, 1) := by decide +kernel
set_option maxRecDepth 20000 in
theorem ggX12_bestRow_X12_isRoom : GoodIn wsX12_bestRow wsX12_isRoom := goodIn_r _ [13, 14, 15, 16, 17, 18, 19, 20, 21, 22, 23, 24, 25, 26, 27, 28, 29, 30, 31, 32, 33, 34, 35, 36, 37, 38, 39, 40, 41, 42, 43, 44, 45, 46, 47, 48, 49, 50, 51, 52, 53, 54, 55, 56, 57, 58, 59, 60, 61, 62, 63, 64, 65, 66, 67, 68, 69, 70, 71, 72, 73] (by decide +kernel) (by decide +kernel)
set_option maxRecDepth 20000 in
theorem gX12_bestRow_X12_isRoom : GoodIn wsX12_bestRow (wsV RX12 317 RX12 yX12_isRoom wsX12_isRoom) := goodIn_app (goodIn_of _ (by decide +kernel)) ggX12_bestRow_X12_isRoom
theorem dX12_bestRow_0 : decode cX12_bestRow 0 = .ok (.iconst 0, 1) := by decide +kernel
theorem dX12_bestRow_1 : decode cX12_bestRow 1 = .ok (.istore_n 1, 1) := by decide +kernel
theorem dX12_bestRow_2 : decode cX12_bestRow 2 = .ok (.iload_n 1, 1) := by decide +kernel
theorem dX12_bestRow_3 : decode cX12_bestRow 3 = .ok (.aload_n 0, 1) := by decide +kernel
theorem dX12_bestRow_4 : decode cX12_bestRow 4 = .ok (.getfield 311, 3) := by decide +kernel
theorem dX12_bestRow_7 : decode cX12_bestRow 7 = .ok (.if_icmp .ge 66, 3) := by decide +kernel
theorem dX12_bestRow_10 : decode cX12_bestRow 10 = .ok (.aload_n 0, 1) := by decide +kernel
theorem dX12_bestRow_11 : decode cX12_bestRow 11 = .ok (.getfield 77, 3) := by decide +kernel
theorem dX12_bestRow_14 : decode cX12_bestRow 14 = .ok (.iload_n 1, 1) := by decide +kernel
theorem dX12_bestRow_15 : decode cX12_bestRow 15 = .ok (.iconst (-1), 1) := by decide +kernel
theorem dX12_bestRow_16 : decode cX12_bestRow 16 = .ok (.iastore, 1) := by decide +kernel
theorem dX12_bestRow_17 : decode cX12_bestRow 17 = .ok (.aload_n 0, 1) := by decide +kernel
theorem dX12_bestRow_18 : decode cX12_bestRow 18 = .ok (.getfield 71, 3) := by decide +kernel
theorem dX12_bestRow_21 : decode cX12_bestRow 21 = .ok (.iload_n 1, 1) := by decide +kernel
theorem dX12_bestRow_22 : decode cX12_bestRow 22 = .ok (.aload_n 0, 1) := by decide +kernel
theorem dX12_bestRow_23 : decode cX12_bestRow 23 = .ok (.getfield 80, 3) := by decide +kernel
theorem dX12_bestRow_26 : decode cX12_bestRow 26 = .ok (.iload_n 1, 1) := by decide +kernel
theorem dX12_bestRow_27 : decode cX12_bestRow 27 = .ok (.baload, 1) := by decide +kernel
theorem dX12_bestRow_28 : decode cX12_bestRow 28 = .ok (.ifCond .ne 28, 3) := by decide +kernel
theorem dX12_bestRow_31 : decode cX12_bestRow 31 = .ok (.aload_n 0, 1) := by decide +kernel
theorem dX12_bestRow_32 : decode cX12_bestRow 32 = .ok (.aload_n 0, 1) := by decide +kernel
theorem dX12_bestRow_33 : decode cX12_bestRow 33 = .ok (.getfield 59, 3) := by decide +kernel
theorem dX12_bestRow_36 : decode cX12_bestRow 36 = .ok (.iconst 2, 1) := by decide +kernel
theorem dX12_bestRow_37 : decode cX12_bestRow 37 = .ok (.iload_n 1, 1) := by decide +kernel
theorem dX12_bestRow_38 : decode cX12_bestRow 38 = .ok (.imul, 1) := by decide +kernel
theorem dX12_bestRow_39 : decode cX12_bestRow 39 = .ok (.iaload, 1) := by decide +kernel
theorem dX12_bestRow_40 : decode cX12_bestRow 40 = .ok (.invokevirtual 317, 3) := by decide +kernel
theorem dX12_bestRow_43 : decode cX12_bestRow 43 = .ok (.ifCond .eq 13, 3) := by decide +kernel
theorem dX12_bestRow_46 : decode cX12_bestRow 46 = .ok (.aload_n 0, 1) := by decide +kernel
theorem dX12_bestRow_47 : decode cX12_bestRow 47 = .ok (.getfield 62, 3) := by decide +kernel
theorem dX12_bestRow_50 : decode cX12_bestRow 50 = .ok (.iload_n 1, 1) := by decide +kernel
theorem dX12_bestRow_51 : decode cX12_bestRow 51 = .ok (.iaload, 1) := by decide +kernel
theorem dX12_bestRow_52 : decode cX12_bestRow 52 = .ok (.ineg, 1) := by decide +kernel
theorem dX12_bestRow_53 : decode cX12_bestRow 53 = .ok (.goto 6, 3) := by decide +kernel
theorem dX12_bestRow_56 : decode cX12_bestRow 56 = .ok (.ldc_w 320, 3) := by decide +kernel
theorem dX12_bestRow_59 : decode cX12_bestRow 59 = .ok (.iastore, 1) := by decide +kernel
theorem dX12_bestRow_60 : decode cX12_bestRow 60 = .ok (.aload_n 0, 1) := by decide +kernel
theorem dX12_bestRow_61 : decode cX12_bestRow 61 = .ok (.getfield 74, 3) := by decide +kernel
theorem dX12_bestRow_64 : decode cX12_bestRow 64 = .ok (.iload_n 1, 1) := by decide +kernel
theorem dX12_bestRow_65 : decode cX12_bestRow 65 = .ok (.iconst 0, 1) := by decide +kernel
theorem dX12_bestRow_66 : decode cX12_bestRow 66 = .ok (.iastore, 1) := by decide +kernel
theorem dX12_bestRow_67 : decode cX12_bestRow 67 = .ok (.iinc 1 1, 3) := by decide +kernel
theorem dX12_bestRow_70 : decode cX12_bestRow 70 = .ok (.goto (-68), 3) := by decide +kernel
theorem dX12_bestRow_73 : decode cX12_bestRow 73 = .ok (.iconst 1, 1) := by decide +kernel
theorem dX12_bestRow_74 : decode cX12_bestRow 74 = .ok (.istore_n 1, 1) := by decide +kernel
theorem dX12_bestRow_75 : decode cX12_bestRow 75 = .ok (.iload_n 1, 1) := by decide +kernel
theorem dX12_bestRow_76 : decode cX12_bestRow 76 = .ok (.ifCond .eq 229, 3) := by decide +kernel
theorem dX12_bestRow_79 : decode cX12_bestRow 79 = .ok (.iconst 0, 1) := by decide +kernel
theorem dX12_bestRow_80 : decode cX12_bestRow 80 = .ok (.istore_n 1, 1) := by decide +kernel
theorem dX12_bestRow_81 : decode cX12_bestRow 81 = .ok (.iconst 0, 1) := by decide +kernel
theorem dX12_bestRow_82 : decode cX12_bestRow 82 = .ok (.istore_n 2, 1) := by decide +kernel
theorem dX12_bestRow_83 : decode cX12_bestRow 83 = .ok (.iload_n 2, 1) := by decide +kernel
theorem dX12_bestRow_84 : decode cX12_bestRow 84 = .ok (.aload_n 0, 1) := by decide +kernel
theorem dX12_bestRow_85 : decode cX12_bestRow 85 = .ok (.getfield 311, 3) := by decide +kernel
theorem dX12_bestRow_88 : decode cX12_bestRow 88 = .ok (.if_icmp .ge 214, 3) := by decide +kernel
theorem dX12_bestRow_91 : decode cX12_bestRow 91 = .ok (.aload_n 0, 1) := by decide +kernel
theorem dX12_bestRow_92 : decode cX12_bestRow 92 = .ok (.getfield 71, 3) := by decide +kernel
theorem dX12_bestRow_95 : decode cX12_bestRow 95 = .ok (.iload_n 2, 1) := by decide +kernel
theorem dX12_bestRow_96 : decode cX12_bestRow 96 = .ok (.iaload, 1) := by decide +kernel
theorem dX12_bestRow_97 : decode cX12_bestRow 97 = .ok (.ldc_w 320, 3) := by decide +kernel
theorem dX12_bestRow_100 : decode cX12_bestRow 100 = .ok (.if_icmp .ne 6, 3) := by decide +kernel
theorem dX12_bestRow_103 : decode cX12_bestRow 103 = .ok (.goto 193, 3) := by decide +kernel
theorem dX12_bestRow_106 : decode cX12_bestRow 106 = .ok (.iconst 0, 1) := by decide +kernel
theorem dX12_bestRow_107 : decode cX12_bestRow 107 = .ok (.istore_n 3, 1) := by decide +kernel
theorem dX12_bestRow_108 : decode cX12_bestRow 108 = .ok (.iload_n 3, 1) := by decide +kernel
theorem dX12_bestRow_109 : decode cX12_bestRow 109 = .ok (.aload_n 0, 1) := by decide +kernel
theorem dX12_bestRow_110 : decode cX12_bestRow 110 = .ok (.getfield 311, 3) := by decide +kernel
theorem dX12_bestRow_113 : decode cX12_bestRow 113 = .ok (.if_icmp .ge 183, 3) := by decide +kernel
theorem dX12_bestRow_116 : decode cX12_bestRow 116 = .ok (.aload_n 0, 1) := by decide +kernel
theorem dX12_bestRow_117 : decode cX12_bestRow 117 = .ok (.getfield 80, 3) := by decide +kernel
theorem dX12_bestRow_120 : decode cX12_bestRow 120 = .ok (.iload_n 2, 1) := by decide +kernel
theorem dX12_bestRow_121 : decode cX12_bestRow 121 = .ok (.baload, 1) := by decide +kernel
theorem dX12_bestRow_122 : decode cX12_bestRow 122 = .ok (.aload_n 0, 1) := by decide +kernel
theorem dX12_bestRow_123 : decode cX12_bestRow 123 = .ok (.getfield 80, 3) := by decide +kernel
theorem dX12_bestRow_126 : decode cX12_bestRow 126 = .ok (.iload_n 3, 1) := by decide +kernel
theorem dX12_bestRow_127 : decode cX12_bestRow 127 = .ok (.baload, 1) := by decide +kernel
theorem dX12_bestRow_128 : decode cX12_bestRow 128 = .ok (.if_icmp .eq 162, 3) := by decide +kernel
theorem dX12_bestRow_131 : decode cX12_bestRow 131 = .ok (.aload_n 0, 1) := by decide +kernel
theorem dX12_bestRow_132 : decode cX12_bestRow 132 = .ok (.getfield 59, 3) := by decide +kernel
theorem dX12_bestRow_135 : decode cX12_bestRow 135 = .ok (.iconst 2, 1) := by decide +kernel
theorem dX12_bestRow_136 : decode cX12_bestRow 136 = .ok (.iload_n 2, 1) := by decide +kernel
theorem dX12_bestRow_137 : decode cX12_bestRow 137 = .ok (.imul, 1) := by decide +kernel
theorem dX12_bestRow_138 : decode cX12_bestRow 138 = .ok (.aload_n 0, 1) := by decide +kernel
theorem dX12_bestRow_139 : decode cX12_bestRow 139 = .ok (.getfield 80, 3) := by decide +kernel
theorem dX12_bestRow_142 : decode cX12_bestRow 142 = .ok (.iload_n 2, 1) := by decide +kernel
theorem dX12_bestRow_143 : decode cX12_bestRow 143 = .ok (.baload, 1) := by decide +kernel
theorem dX12_bestRow_144 : decode cX12_bestRow 144 = .ok (.ifCond .eq 7, 3) := by decide +kernel
theorem dX12_bestRow_147 : decode cX12_bestRow 147 = .ok (.iconst 0, 1) := by decide +kernel
theorem dX12_bestRow_148 : decode cX12_bestRow 148 = .ok (.goto 4, 3) := by decide +kernel
theorem dX12_bestRow_151 : decode cX12_bestRow 151 = .ok (.iconst 1, 1) := by decide +kernel
theorem dX12_bestRow_152 : decode cX12_bestRow 152 = .ok (.iadd, 1) := by decide +kernel
theorem dX12_bestRow_153 : decode cX12_bestRow 153 = .ok (.iaload, 1) := by decide +kernel
theorem dX12_bestRow_154 : decode cX12_bestRow 154 = .ok (.aload_n 0, 1) := by decide +kernel
theorem dX12_bestRow_155 : decode cX12_bestRow 155 = .ok (.getfield 59, 3) := by decide +kernel
theorem dX12_bestRow_158 : decode cX12_bestRow 158 = .ok (.iconst 2, 1) := by decide +kernel
theorem dX12_bestRow_159 : decode cX12_bestRow 159 = .ok (.iload_n 3, 1) := by decide +kernel
theorem dX12_bestRow_160 : decode cX12_bestRow 160 = .ok (.imul, 1) := by decide +kernel
theorem dX12_bestRow_161 : decode cX12_bestRow 161 = .ok (.aload_n 0, 1) := by decide +kernel
theorem dX12_bestRow_162 : decode cX12_bestRow 162 = .ok (.getfield 80, 3) := by decide +kernel
theorem dX12_bestRow_165 : decode cX12_bestRow 165 = .ok (.iload_n 2, 1) := by decide +kernel
theorem dX12_bestRow_166 : decode cX12_bestRow 166 = .ok (.baload, 1) := by decide +kernel
theorem dX12_bestRow_167 : decode cX12_bestRow 167 = .ok (.ifCond .eq 7, 3) := by decide +kernel
theorem dX12_bestRow_170 : decode cX12_bestRow 170 = .ok (.iconst 0, 1) := by decide +kernel
theorem dX12_bestRow_171 : decode cX12_bestRow 171 = .ok (.goto 4, 3) := by decide +kernel
theorem dX12_bestRow_174 : decode cX12_bestRow 174 = .ok (.iconst 1, 1) := by decide +kernel
theorem dX12_bestRow_175 : decode cX12_bestRow 175 = .ok (.iadd, 1) := by decide +kernel
theorem dX12_bestRow_176 : decode cX12_bestRow 176 = .ok (.iaload, 1) := by decide +kernel
theorem dX12_bestRow_177 : decode cX12_bestRow 177 = .ok (.if_icmp .eq 6, 3) := by decide +kernel
theorem dX12_bestRow_180 : decode cX12_bestRow 180 = .ok (.goto 110, 3) := by decide +kernel
theorem dX12_bestRow_183 : decode cX12_bestRow 183 = .ok (.aload_n 0, 1) := by decide +kernel
theorem dX12_bestRow_184 : decode cX12_bestRow 184 = .ok (.getfield 71, 3) := by decide +kernel
theorem dX12_bestRow_187 : decode cX12_bestRow 187 = .ok (.iload_n 2, 1) := by decide +kernel
theorem dX12_bestRow_188 : decode cX12_bestRow 188 = .ok (.iaload, 1) := by decide +kernel
theorem dX12_bestRow_189 : decode cX12_bestRow 189 = .ok (.aload_n 0, 1) := by decide +kernel
theorem dX12_bestRow_190 : decode cX12_bestRow 190 = .ok (.getfield 80, 3) := by decide +kernel
theorem dX12_bestRow_193 : decode cX12_bestRow 193 = .ok (.iload_n 3, 1) := by decide +kernel
theorem dX12_bestRow_194 : decode cX12_bestRow 194 = .ok (.baload, 1) := by decide +kernel
theorem dX12_bestRow_195 : decode cX12_bestRow 195 = .ok (.ifCond .eq 12, 3) := by decide +kernel
theorem dX12_bestRow_198 : decode cX12_bestRow 198 = .ok (.aload_n 0, 1) := by decide +kernel
theorem dX12_bestRow_199 : decode cX12_bestRow 199 = .ok (.getfield 62, 3) := by decide +kernel
theorem dX12_bestRow_202 : decode cX12_bestRow 202 = .ok (.iload_n 3, 1) := by decide +kernel
theorem dX12_bestRow_203 : decode cX12_bestRow 203 = .ok (.iaload, 1) := by decide +kernel
theorem dX12_bestRow_204 : decode cX12_bestRow 204 = .ok (.goto 10, 3) := by decide +kernel
theorem dX12_bestRow_207 : decode cX12_bestRow 207 = .ok (.aload_n 0, 1) := by decide +kernel
theorem dX12_bestRow_208 : decode cX12_bestRow 208 = .ok (.getfield 62, 3) := by decide +kernel
theorem dX12_bestRow_211 : decode cX12_bestRow 211 = .ok (.iload_n 3, 1) := by decide +kernel
theorem dX12_bestRow_212 : decode cX12_bestRow 212 = .ok (.iaload, 1) := by decide +kernel
theorem dX12_bestRow_213 : decode cX12_bestRow 213 = .ok (.ineg, 1) := by decide +kernel
theorem dX12_bestRow_214 : decode cX12_bestRow 214 = .ok (.iadd, 1) := by decide +kernel
theorem dX12_bestRow_215 : decode cX12_bestRow 215 = .ok (.istore 4, 2) := by decide +kernel
theorem dX12_bestRow_217 : decode cX12_bestRow 217 = .ok (.iload 4, 2) := by decide +kernel
theorem dX12_bestRow_219 : decode cX12_bestRow 219 = .ok (.aload_n 0, 1) := by decide +kernel
theorem dX12_bestRow_220 : decode cX12_bestRow 220 = .ok (.getfield 71, 3) := by decide +kernel
theorem dX12_bestRow_223 : decode cX12_bestRow 223 = .ok (.iload_n 3, 1) := by decide +kernel
theorem dX12_bestRow_224 : decode cX12_bestRow 224 = .ok (.iaload, 1) := by decide +kernel
theorem dX12_bestRow_225 : decode cX12_bestRow 225 = .ok (.if_icmp .gt 65, 3) := by decide +kernel
theorem dX12_bestRow_228 : decode cX12_bestRow 228 = .ok (.iload 4, 2) := by decide +kernel
theorem dX12_bestRow_230 : decode cX12_bestRow 230 = .ok (.aload_n 0, 1) := by decide +kernel
theorem dX12_bestRow_231 : decode cX12_bestRow 231 = .ok (.getfield 71, 3) := by decide +kernel
theorem dX12_bestRow_234 : decode cX12_bestRow 234 = .ok (.iload_n 3, 1) := by decide +kernel
theorem dX12_bestRow_235 : decode cX12_bestRow 235 = .ok (.iaload, 1) := by decide +kernel
theorem dX12_bestRow_236 : decode cX12_bestRow 236 = .ok (.if_icmp .ne 23, 3) := by decide +kernel
theorem dX12_bestRow_239 : decode cX12_bestRow 239 = .ok (.aload_n 0, 1) := by decide +kernel
theorem dX12_bestRow_240 : decode cX12_bestRow 240 = .ok (.getfield 74, 3) := by decide +kernel
theorem dX12_bestRow_243 : decode cX12_bestRow 243 = .ok (.iload_n 2, 1) := by decide +kernel
theorem dX12_bestRow_244 : decode cX12_bestRow 244 = .ok (.iaload, 1) := by decide +kernel
theorem dX12_bestRow_245 : decode cX12_bestRow 245 = .ok (.iconst 1, 1) := by decide +kernel
theorem dX12_bestRow_246 : decode cX12_bestRow 246 = .ok (.iadd, 1) := by decide +kernel
theorem dX12_bestRow_247 : decode cX12_bestRow 247 = .ok (.aload_n 0, 1) := by decide +kernel
theorem dX12_bestRow_248 : decode cX12_bestRow 248 = .ok (.getfield 74, 3) := by decide +kernel
theorem dX12_bestRow_251 : decode cX12_bestRow 251 = .ok (.iload_n 3, 1) := by decide +kernel
theorem dX12_bestRow_252 : decode cX12_bestRow 252 = .ok (.iaload, 1) := by decide +kernel
theorem dX12_bestRow_253 : decode cX12_bestRow 253 = .ok (.if_icmp .lt 6, 3) := by decide +kernel
theorem dX12_bestRow_256 : decode cX12_bestRow 256 = .ok (.goto 34, 3) := by decide +kernel
theorem dX12_bestRow_259 : decode cX12_bestRow 259 = .ok (.aload_n 0, 1) := by decide +kernel
theorem dX12_bestRow_260 : decode cX12_bestRow 260 = .ok (.getfield 71, 3) := by decide +kernel
theorem dX12_bestRow_263 : decode cX12_bestRow 263 = .ok (.iload_n 3, 1) := by decide +kernel
theorem dX12_bestRow_264 : decode cX12_bestRow 264 = .ok (.iload 4, 2) := by decide +kernel
theorem dX12_bestRow_266 : decode cX12_bestRow 266 = .ok (.iastore, 1) := by decide +kernel
theorem dX12_bestRow_267 : decode cX12_bestRow 267 = .ok (.aload_n 0, 1) := by decide +kernel
theorem dX12_bestRow_268 : decode cX12_bestRow 268 = .ok (.getfield 74, 3) := by decide +kernel
theorem dX12_bestRow_271 : decode cX12_bestRow 271 = .ok (.iload_n 3, 1) := by decide +kernel
theorem dX12_bestRow_272 : decode cX12_bestRow 272 = .ok (.aload_n 0, 1) := by decide +kernel
theorem dX12_bestRow_273 : decode cX12_bestRow 273 = .ok (.getfield 74, 3) := by decide +kernel
theorem dX12_bestRow_276 : decode cX12_bestRow 276 = .ok (.iload_n 2, 1) := by decide +kernel
theorem dX12_bestRow_277 : decode cX12_bestRow 277 = .ok (.iaload, 1) := by decide +kernel
theorem dX12_bestRow_278 : decode cX12_bestRow 278 = .ok (.iconst 1, 1) := by decide +kernel
theorem dX12_bestRow_279 : decode cX12_bestRow 279 = .ok (.iadd, 1) := by decide +kernel
theorem dX12_bestRow_280 : decode cX12_bestRow 280 = .ok (.iastore, 1) := by decide +kernel
theorem dX12_bestRow_281 : decode cX12_bestRow 281 = .ok (.aload_n 0, 1) := by decide +kernel
theorem dX12_bestRow_282 : decode cX12_bestRow 282 = .ok (.getfield 77, 3) := by decide +kernel
theorem dX12_bestRow_285 : decode cX12_bestRow 285 = .ok (.iload_n 3, 1) := by decide +kernel
theorem dX12_bestRow_286 : decode cX12_bestRow 286 = .ok (.iload_n 2, 1) := by decide +kernel
theorem dX12_bestRow_287 : decode cX12_bestRow 287 = .ok (.iastore, 1) := by decide +kernel
theorem dX12_bestRow_288 : decode cX12_bestRow 288 = .ok (.iconst 1, 1) := by decide +kernel
theorem dX12_bestRow_289 : decode cX12_bestRow 289 = .ok (.istore_n 1, 1) := by decide +kernel
theorem dX12_bestRow_290 : decode cX12_bestRow 290 = .ok (.iinc 3 1, 3) := by decide +kernel
theorem dX12_bestRow_293 : decode cX12_bestRow 293 = .ok (.goto (-185), 3) := by decide +kernel
theorem dX12_bestRow_296 : decode cX12_bestRow 296 = .ok (.iinc 2 1, 3) := by decide +kernel
theorem dX12_bestRow_299 : decode cX12_bestRow 299 = .ok (.goto (-216), 3) := by decide +kernel
theorem dX12_bestRow_302 : decode cX12_bestRow 302 = .ok (.goto (-227), 3) := by decide +kernel
theorem dX12_bestRow_305 : decode cX12_bestRow 305 = .ok (.iconst (-1), 1) := by decide +kernel
theorem dX12_bestRow_306 : decode cX12_bestRow 306 = .ok (.istore_n 2, 1) := by decide +kernel
theorem dX12_bestRow_307 : decode cX12_bestRow 307 = .ok (.iconst 0, 1) := by decide +kernel
theorem dX12_bestRow_308 : decode cX12_bestRow 308 = .ok (.istore_n 3, 1) := by decide +kernel
theorem dX12_bestRow_309 : decode cX12_bestRow 309 = .ok (.iload_n 3, 1) := by decide +kernel
theorem dX12_bestRow_310 : decode cX12_bestRow 310 = .ok (.aload_n 0, 1) := by decide +kernel
theorem dX12_bestRow_311 : decode cX12_bestRow 311 = .ok (.getfield 311, 3) := by decide +kernel
theorem dX12_bestRow_314 : decode cX12_bestRow 314 = .ok (.if_icmp .ge 101, 3) := by decide +kernel
theorem dX12_bestRow_317 : decode cX12_bestRow 317 = .ok (.aload_n 0, 1) := by decide +kernel
theorem dX12_bestRow_318 : decode cX12_bestRow 318 = .ok (.getfield 80, 3) := by decide +kernel
theorem dX12_bestRow_321 : decode cX12_bestRow 321 = .ok (.iload_n 3, 1) := by decide +kernel
theorem dX12_bestRow_322 : decode cX12_bestRow 322 = .ok (.baload, 1) := by decide +kernel
theorem dX12_bestRow_323 : decode cX12_bestRow 323 = .ok (.ifCond .ne 86, 3) := by decide +kernel
theorem dX12_bestRow_326 : decode cX12_bestRow 326 = .ok (.aload_n 0, 1) := by decide +kernel
theorem dX12_bestRow_327 : decode cX12_bestRow 327 = .ok (.getfield 71, 3) := by decide +kernel
theorem dX12_bestRow_330 : decode cX12_bestRow 330 = .ok (.iload_n 3, 1) := by decide +kernel
theorem dX12_bestRow_331 : decode cX12_bestRow 331 = .ok (.iaload, 1) := by decide +kernel
theorem dX12_bestRow_332 : decode cX12_bestRow 332 = .ok (.ldc_w 320, 3) := by decide +kernel
theorem dX12_bestRow_335 : decode cX12_bestRow 335 = .ok (.if_icmp .eq 74, 3) := by decide +kernel
theorem dX12_bestRow_338 : decode cX12_bestRow 338 = .ok (.aload_n 0, 1) := by decide +kernel
theorem dX12_bestRow_339 : decode cX12_bestRow 339 = .ok (.aload_n 0, 1) := by decide +kernel
theorem dX12_bestRow_340 : decode cX12_bestRow 340 = .ok (.getfield 59, 3) := by decide +kernel
theorem dX12_bestRow_343 : decode cX12_bestRow 343 = .ok (.iconst 2, 1) := by decide +kernel
theorem dX12_bestRow_344 : decode cX12_bestRow 344 = .ok (.iload_n 3, 1) := by decide +kernel
theorem dX12_bestRow_345 : decode cX12_bestRow 345 = .ok (.imul, 1) := by decide +kernel
theorem dX12_bestRow_346 : decode cX12_bestRow 346 = .ok (.iconst 1, 1) := by decide +kernel
theorem dX12_bestRow_347 : decode cX12_bestRow 347 = .ok (.iadd, 1) := by decide +kernel
theorem dX12_bestRow_348 : decode cX12_bestRow 348 = .ok (.iaload, 1) := by decide +kernel
theorem dX12_bestRow_349 : decode cX12_bestRow 349 = .ok (.invokevirtual 317, 3) := by decide +kernel
theorem dX12_bestRow_352 : decode cX12_bestRow 352 = .ok (.ifCond .ne 6, 3) := by decide +kernel
theorem dX12_bestRow_355 : decode cX12_bestRow 355 = .ok (.goto 54, 3) := by decide +kernel
theorem dX12_bestRow_358 : decode cX12_bestRow 358 = .ok (.iload_n 2, 1) := by decide +kernel
theorem dX12_bestRow_359 : decode cX12_bestRow 359 = .ok (.ifCond .lt 48, 3) := by decide +kernel
theorem dX12_bestRow_362 : decode cX12_bestRow 362 = .ok (.aload_n 0, 1) := by decide +kernel
theorem dX12_bestRow_363 : decode cX12_bestRow 363 = .ok (.getfield 71, 3) := by decide +kernel
theorem dX12_bestRow_366 : decode cX12_bestRow 366 = .ok (.iload_n 3, 1) := by decide +kernel
theorem dX12_bestRow_367 : decode cX12_bestRow 367 = .ok (.iaload, 1) := by decide +kernel
theorem dX12_bestRow_368 : decode cX12_bestRow 368 = .ok (.aload_n 0, 1) := by decide +kernel
theorem dX12_bestRow_369 : decode cX12_bestRow 369 = .ok (.getfield 71, 3) := by decide +kernel
theorem dX12_bestRow_372 : decode cX12_bestRow 372 = .ok (.iload_n 2, 1) := by decide +kernel
theorem dX12_bestRow_373 : decode cX12_bestRow 373 = .ok (.iaload, 1) := by decide +kernel
theorem dX12_bestRow_374 : decode cX12_bestRow 374 = .ok (.if_icmp .lt 33, 3) := by decide +kernel
theorem dX12_bestRow_377 : decode cX12_bestRow 377 = .ok (.aload_n 0, 1) := by decide +kernel
theorem dX12_bestRow_378 : decode cX12_bestRow 378 = .ok (.getfield 71, 3) := by decide +kernel
theorem dX12_bestRow_381 : decode cX12_bestRow 381 = .ok (.iload_n 3, 1) := by decide +kernel
theorem dX12_bestRow_382 : decode cX12_bestRow 382 = .ok (.iaload, 1) := by decide +kernel
theorem dX12_bestRow_383 : decode cX12_bestRow 383 = .ok (.aload_n 0, 1) := by decide +kernel
theorem dX12_bestRow_384 : decode cX12_bestRow 384 = .ok (.getfield 71, 3) := by decide +kernel
theorem dX12_bestRow_387 : decode cX12_bestRow 387 = .ok (.iload_n 2, 1) := by decide +kernel
theorem dX12_bestRow_388 : decode cX12_bestRow 388 = .ok (.iaload, 1) := by decide +kernel
theorem dX12_bestRow_389 : decode cX12_bestRow 389 = .ok (.if_icmp .ne 20, 3) := by decide +kernel
theorem dX12_bestRow_392 : decode cX12_bestRow 392 = .ok (.aload_n 0, 1) := by decide +kernel
theorem dX12_bestRow_393 : decode cX12_bestRow 393 = .ok (.getfield 74, 3) := by decide +kernel
theorem dX12_bestRow_396 : decode cX12_bestRow 396 = .ok (.iload_n 3, 1) := by decide +kernel
theorem dX12_bestRow_397 : decode cX12_bestRow 397 = .ok (.iaload, 1) := by decide +kernel
theorem dX12_bestRow_398 : decode cX12_bestRow 398 = .ok (.aload_n 0, 1) := by decide +kernel
theorem dX12_bestRow_399 : decode cX12_bestRow 399 = .ok (.getfield 74, 3) := by decide +kernel
theorem dX12_bestRow_402 : decode cX12_bestRow 402 = .ok (.iload_n 2, 1) := by decide +kernel
theorem dX12_bestRow_403 : decode cX12_bestRow 403 = .ok (.iaload, 1) := by decide +kernel
theorem dX12_bestRow_404 : decode cX12_bestRow 404 = .ok (.if_icmp .ge 5, 3) := by decide +kernel
theorem dX12_bestRow_407 : decode cX12_bestRow 407 = .ok (.iload_n 3, 1) := by decide +kernel
theorem dX12_bestRow_408 : decode cX12_bestRow 408 = .ok (.istore_n 2, 1) := by decide +kernel
theorem dX12_bestRow_409 : decode cX12_bestRow 409 = .ok (.iinc 3 1, 3) := by decide +kernel
theorem dX12_bestRow_412 : decode cX12_bestRow 412 = .ok (.goto (-103), 3) := by decide +kernel
theorem dX12_bestRow_415 : decode cX12_bestRow 415 = .ok (.iload_n 2, 1) := by decide +kernel
theorem dX12_bestRow_416 : decode cX12_bestRow 416 = .ok (.ireturn, 1) := by decide +kernel
set_option maxRecDepth 20000 in
theorem ggX12_gainBy_X12_isFirst : GoodIn wsX12_gainBy wsX12_isFirst := goodIn_r _ [10, 11, 12, 13, 9, 14, 1, 48, 49, 50, 51, 52, 53, 54, 55, 56, 57, 58, 59, 60, 61, 62, 63, 64, 65, 66, 67, 68, 69, 70, 71, 72, 73, 74, 75, 76, 77, 78, 79, 80, 81, 82, 83, 84, 85, 86, 87, 88, 89, 90, 91, 92, 93, 94, 95, 96, 97, 98, 99, 100, 101, 102, 103, 104, 105] (by decide +kernel) (by decide +kernel)
set_option maxRecDepth 20000 in
theorem gX12_gainBy_X12_isFirst : GoodIn wsX12_gainBy (wsV RX12 321 RX12 yX12_isFirst wsX12_isFirst) := goodIn_app (goodIn_of _ (by decide +kernel)) ggX12_gainBy_X12_isFirst
set_option maxRecDepth 20000 in
theorem ggX12_gainBy_X12_of : GoodIn wsX12_gainBy wsX12_of := goodIn_r _ [14, 1, 48, 49, 50, 51, 52, 53, 54, 55, 56, 57, 58, 59, 60, 61, 62, 63, 64, 65, 66, 67, 68, 69, 70, 71, 72, 73, 74, 75, 76, 77, 78, 79, 80, 81, 82, 83, 84, 85, 86, 87, 88, 89, 90, 91, 92, 93, 94, 95, 96, 97, 98, 99, 100, 101, 102, 103, 104, 105] (by decide +kernel) (by decide +kernel)
set_option maxRecDepth 20000 in
theorem gX12_gainBy_X12_of : GoodIn wsX12_gainBy (wsV RX12 266 RX12 yX12_of wsX12_of) := goodIn_app (goodIn_of _ (by decide +kernel)) ggX12_gainBy_X12_of
set_option maxRecDepth 20000 in
theorem ggX12_gainBy_X12_goesAs : GoodIn wsX12_gainBy wsX12_goesAs := goodIn_r _ [18, 11, 12, 13, 9, 14, 1, 19, 20, 21, 48, 49, 50, 51, 52, 53, 54, 55, 56, 57, 58, 59, 60, 61, 62, 63, 64, 65, 66, 67, 68, 69, 70, 71, 72, 73, 74, 75, 76, 77, 78, 79, 80, 81, 82, 83, 84, 85, 86, 87, 88, 89, 90, 91, 92, 93, 94, 95, 96, 97, 98, 99, 100, 101, 102, 103, 104, 105] (by decide +kernel) (by decide +kernel)
set_option maxRecDepth 20000 in
theorem gX12_gainBy_X12_goesAs : GoodIn wsX12_gainBy (wsV RX12 324 RX12 yX12_goesAs wsX12_goesAs) := goodIn_app (goodIn_of _ (by decide +kernel)) ggX12_gainBy_X12_goesAs
set_option maxRecDepth 20000 in
theorem ggX12_gainBy_X12_lender : GoodIn wsX12_gainBy wsX12_lender := goodIn_r _ [25, 11, 12, 13, 9, 14, 1, 48, 49, 50, 51, 52, 53, 54, 55, 56, 57, 58, 59, 60, 61, 62, 63, 64, 65, 66, 67, 68, 69, 70, 71, 72, 73, 74, 75, 76, 77, 78, 79, 80, 81, 82, 83, 84, 85, 86, 87, 88, 89, 90, 91, 92, 93, 94, 95, 96, 97, 98, 99, 100, 101, 102, 103, 104, 105] (by decide +kernel) (by decide +kernel)
set_option maxRecDepth 20000 in
theorem gX12_gainBy_X12_lender : GoodIn wsX12_gainBy (wsV RX12 273 RX12 yX12_lender wsX12_lender) := goodIn_app (goodIn_of _ (by decide +kernel)) ggX12_gainBy_X12_lender
set_option maxRecDepth 20000 in
theorem ggX12_gainBy_X12_borrower : GoodIn wsX12_gainBy wsX12_borrower := goodIn_r _ [29, 11, 12, 13, 9, 14, 1, 48, 49, 50, 51, 52, 53, 54, 55, 56, 57, 58, 59, 60, 61, 62, 63, 64, 65, 66, 67, 68, 69, 70, 71, 72, 73, 74, 75, 76, 77, 78, 79, 80, 81, 82, 83, 84, 85, 86, 87, 88, 89, 90, 91, 92, 93, 94, 95, 96, 97, 98, 99, 100, 101, 102, 103, 104, 105] (by decide +kernel) (by decide +kernel)
set_option maxRecDepth 20000 in
theorem gX12_gainBy_X12_borrower : GoodIn wsX12_gainBy (wsV RX12 280 RX12 yX12_borrower wsX12_borrower) := goodIn_app (goodIn_of _ (by decide +kernel)) ggX12_gainBy_X12_borrower
set_option maxRecDepth 20000 in
theorem ggX12_gainBy_X12_mostOf : GoodIn wsX12_gainBy wsX12_mostOf := goodIn_r _ [33, 34, 3, 35, 36, 37, 5, 38, 39, 40, 9, 41, 4, 42, 43, 44, 45, 46, 47, 2, 48, 49, 50, 51, 52, 53, 54, 55, 56, 57, 58, 59, 60, 61, 62, 63, 64, 65, 66, 67, 68, 69, 70, 71, 72, 73, 74, 75, 76, 77, 78, 79, 80, 81, 82, 83, 84, 85, 86, 87, 88, 89, 90, 91, 92, 93, 94, 95, 96, 97, 98, 99, 100, 101, 102, 103, 104, 105] (by decide +kernel) (by decide +kernel)
set_option maxRecDepth 20000 in
theorem gX12_gainBy_X12_mostOf : GoodIn wsX12_gainBy (wsV RX12 327 RX12 yX12_mostOf wsX12_mostOf) := goodIn_app (goodIn_of _ (by decide +kernel)) ggX12_gainBy_X12_mostOf
theorem dX12_gainBy_0 : decode cX12_gainBy 0 = .ok (.iconst 0, 1) := by decide +kernel
theorem dX12_gainBy_1 : decode cX12_gainBy 1 = .ok (.istore 4, 2) := by decide +kernel
theorem dX12_gainBy_3 : decode cX12_gainBy 3 = .ok (.iload 4, 2) := by decide +kernel
theorem dX12_gainBy_5 : decode cX12_gainBy 5 = .ok (.aload_n 0, 1) := by decide +kernel
theorem dX12_gainBy_6 : decode cX12_gainBy 6 = .ok (.getfield 33, 3) := by decide +kernel
theorem dX12_gainBy_9 : decode cX12_gainBy 9 = .ok (.iconst 0, 1) := by decide +kernel
theorem dX12_gainBy_10 : decode cX12_gainBy 10 = .ok (.iaload, 1) := by decide +kernel
theorem dX12_gainBy_11 : decode cX12_gainBy 11 = .ok (.if_icmp .ge 36, 3) := by decide +kernel
theorem dX12_gainBy_14 : decode cX12_gainBy 14 = .ok (.aload_n 0, 1) := by decide +kernel
theorem dX12_gainBy_15 : decode cX12_gainBy 15 = .ok (.getfield 68, 3) := by decide +kernel
theorem dX12_gainBy_18 : decode cX12_gainBy 18 = .ok (.iload 4, 2) := by decide +kernel
theorem dX12_gainBy_20 : decode cX12_gainBy 20 = .ok (.iload 4, 2) := by decide +kernel
theorem dX12_gainBy_22 : decode cX12_gainBy 22 = .ok (.iload_n 2, 1) := by decide +kernel
theorem dX12_gainBy_23 : decode cX12_gainBy 23 = .ok (.if_icmp .ne 7, 3) := by decide +kernel
theorem dX12_gainBy_26 : decode cX12_gainBy 26 = .ok (.iload_n 3, 1) := by decide +kernel
theorem dX12_gainBy_27 : decode cX12_gainBy 27 = .ok (.goto 13, 3) := by decide +kernel
theorem dX12_gainBy_30 : decode cX12_gainBy 30 = .ok (.aload_n 0, 1) := by decide +kernel
theorem dX12_gainBy_31 : decode cX12_gainBy 31 = .ok (.getfield 33, 3) := by decide +kernel
theorem dX12_gainBy_34 : decode cX12_gainBy 34 = .ok (.bipush 24, 2) := by decide +kernel
theorem dX12_gainBy_36 : decode cX12_gainBy 36 = .ok (.iload 4, 2) := by decide +kernel
theorem dX12_gainBy_38 : decode cX12_gainBy 38 = .ok (.iadd, 1) := by decide +kernel
theorem dX12_gainBy_39 : decode cX12_gainBy 39 = .ok (.iaload, 1) := by decide +kernel
theorem dX12_gainBy_40 : decode cX12_gainBy 40 = .ok (.iastore, 1) := by decide +kernel
theorem dX12_gainBy_41 : decode cX12_gainBy 41 = .ok (.iinc 4 1, 3) := by decide +kernel
theorem dX12_gainBy_44 : decode cX12_gainBy 44 = .ok (.goto (-41), 3) := by decide +kernel
theorem dX12_gainBy_47 : decode cX12_gainBy 47 = .ok (.iconst 0, 1) := by decide +kernel
theorem dX12_gainBy_48 : decode cX12_gainBy 48 = .ok (.istore 4, 2) := by decide +kernel
theorem dX12_gainBy_50 : decode cX12_gainBy 50 = .ok (.iconst 0, 1) := by decide +kernel
theorem dX12_gainBy_51 : decode cX12_gainBy 51 = .ok (.istore 5, 2) := by decide +kernel
theorem dX12_gainBy_53 : decode cX12_gainBy 53 = .ok (.iload 5, 2) := by decide +kernel
theorem dX12_gainBy_55 : decode cX12_gainBy 55 = .ok (.aload_n 0, 1) := by decide +kernel
theorem dX12_gainBy_56 : decode cX12_gainBy 56 = .ok (.getfield 33, 3) := by decide +kernel
theorem dX12_gainBy_59 : decode cX12_gainBy 59 = .ok (.iconst 1, 1) := by decide +kernel
theorem dX12_gainBy_60 : decode cX12_gainBy 60 = .ok (.iaload, 1) := by decide +kernel
theorem dX12_gainBy_61 : decode cX12_gainBy 61 = .ok (.if_icmp .ge 190, 3) := by decide +kernel
theorem dX12_gainBy_64 : decode cX12_gainBy 64 = .ok (.aload_n 0, 1) := by decide +kernel
theorem dX12_gainBy_65 : decode cX12_gainBy 65 = .ok (.iload 5, 2) := by decide +kernel
theorem dX12_gainBy_67 : decode cX12_gainBy 67 = .ok (.invokevirtual 321, 3) := by decide +kernel
theorem dX12_gainBy_70 : decode cX12_gainBy 70 = .ok (.ifCond .ne 6, 3) := by decide +kernel
theorem dX12_gainBy_73 : decode cX12_gainBy 73 = .ok (.goto 172, 3) := by decide +kernel
theorem dX12_gainBy_76 : decode cX12_gainBy 76 = .ok (.aload_n 0, 1) := by decide +kernel
theorem dX12_gainBy_77 : decode cX12_gainBy 77 = .ok (.iconst 0, 1) := by decide +kernel
theorem dX12_gainBy_78 : decode cX12_gainBy 78 = .ok (.putfield 311, 3) := by decide +kernel
theorem dX12_gainBy_81 : decode cX12_gainBy 81 = .ok (.iload 5, 2) := by decide +kernel
theorem dX12_gainBy_83 : decode cX12_gainBy 83 = .ok (.istore 6, 2) := by decide +kernel
theorem dX12_gainBy_85 : decode cX12_gainBy 85 = .ok (.iload 6, 2) := by decide +kernel
theorem dX12_gainBy_87 : decode cX12_gainBy 87 = .ok (.aload_n 0, 1) := by decide +kernel
theorem dX12_gainBy_88 : decode cX12_gainBy 88 = .ok (.getfield 33, 3) := by decide +kernel
theorem dX12_gainBy_91 : decode cX12_gainBy 91 = .ok (.iconst 1, 1) := by decide +kernel
theorem dX12_gainBy_92 : decode cX12_gainBy 92 = .ok (.iaload, 1) := by decide +kernel
theorem dX12_gainBy_93 : decode cX12_gainBy 93 = .ok (.if_icmp .ge 143, 3) := by decide +kernel
theorem dX12_gainBy_96 : decode cX12_gainBy 96 = .ok (.aload_n 0, 1) := by decide +kernel
theorem dX12_gainBy_97 : decode cX12_gainBy 97 = .ok (.iload 6, 2) := by decide +kernel
theorem dX12_gainBy_99 : decode cX12_gainBy 99 = .ok (.iconst 2, 1) := by decide +kernel
theorem dX12_gainBy_100 : decode cX12_gainBy 100 = .ok (.invokevirtual 266, 3) := by decide +kernel
theorem dX12_gainBy_103 : decode cX12_gainBy 103 = .ok (.aload_n 0, 1) := by decide +kernel
theorem dX12_gainBy_104 : decode cX12_gainBy 104 = .ok (.iload 5, 2) := by decide +kernel
theorem dX12_gainBy_106 : decode cX12_gainBy 106 = .ok (.iconst 2, 1) := by decide +kernel
theorem dX12_gainBy_107 : decode cX12_gainBy 107 = .ok (.invokevirtual 266, 3) := by decide +kernel
theorem dX12_gainBy_110 : decode cX12_gainBy 110 = .ok (.if_icmp .ne 13, 3) := by decide +kernel
theorem dX12_gainBy_113 : decode cX12_gainBy 113 = .ok (.aload_n 0, 1) := by decide +kernel
theorem dX12_gainBy_114 : decode cX12_gainBy 114 = .ok (.iload 6, 2) := by decide +kernel
theorem dX12_gainBy_116 : decode cX12_gainBy 116 = .ok (.iload_n 1, 1) := by decide +kernel
theorem dX12_gainBy_117 : decode cX12_gainBy 117 = .ok (.invokevirtual 324, 3) := by decide +kernel
theorem dX12_gainBy_120 : decode cX12_gainBy 120 = .ok (.goto 4, 3) := by decide +kernel
theorem dX12_gainBy_123 : decode cX12_gainBy 123 = .ok (.iconst 0, 1) := by decide +kernel
theorem dX12_gainBy_124 : decode cX12_gainBy 124 = .ok (.istore 7, 2) := by decide +kernel
theorem dX12_gainBy_126 : decode cX12_gainBy 126 = .ok (.iload 7, 2) := by decide +kernel
theorem dX12_gainBy_128 : decode cX12_gainBy 128 = .ok (.ifCond .eq 102, 3) := by decide +kernel
theorem dX12_gainBy_131 : decode cX12_gainBy 131 = .ok (.aload_n 0, 1) := by decide +kernel
theorem dX12_gainBy_132 : decode cX12_gainBy 132 = .ok (.iload 6, 2) := by decide +kernel
theorem dX12_gainBy_134 : decode cX12_gainBy 134 = .ok (.iconst 3, 1) := by decide +kernel
theorem dX12_gainBy_135 : decode cX12_gainBy 135 = .ok (.invokevirtual 266, 3) := by decide +kernel
theorem dX12_gainBy_138 : decode cX12_gainBy 138 = .ok (.aload_n 0, 1) := by decide +kernel
theorem dX12_gainBy_139 : decode cX12_gainBy 139 = .ok (.iload 6, 2) := by decide +kernel
theorem dX12_gainBy_141 : decode cX12_gainBy 141 = .ok (.iconst 4, 1) := by decide +kernel
theorem dX12_gainBy_142 : decode cX12_gainBy 142 = .ok (.invokevirtual 266, 3) := by decide +kernel
theorem dX12_gainBy_145 : decode cX12_gainBy 145 = .ok (.iadd, 1) := by decide +kernel
theorem dX12_gainBy_146 : decode cX12_gainBy 146 = .ok (.ifCond .ne 6, 3) := by decide +kernel
theorem dX12_gainBy_149 : decode cX12_gainBy 149 = .ok (.goto 81, 3) := by decide +kernel
theorem dX12_gainBy_152 : decode cX12_gainBy 152 = .ok (.aload_n 0, 1) := by decide +kernel
theorem dX12_gainBy_153 : decode cX12_gainBy 153 = .ok (.getfield 62, 3) := by decide +kernel
theorem dX12_gainBy_156 : decode cX12_gainBy 156 = .ok (.aload_n 0, 1) := by decide +kernel
theorem dX12_gainBy_157 : decode cX12_gainBy 157 = .ok (.getfield 311, 3) := by decide +kernel
theorem dX12_gainBy_160 : decode cX12_gainBy 160 = .ok (.aload_n 0, 1) := by decide +kernel
theorem dX12_gainBy_161 : decode cX12_gainBy 161 = .ok (.iload 6, 2) := by decide +kernel
theorem dX12_gainBy_163 : decode cX12_gainBy 163 = .ok (.iconst 3, 1) := by decide +kernel
theorem dX12_gainBy_164 : decode cX12_gainBy 164 = .ok (.invokevirtual 266, 3) := by decide +kernel
theorem dX12_gainBy_167 : decode cX12_gainBy 167 = .ok (.aload_n 0, 1) := by decide +kernel
theorem dX12_gainBy_168 : decode cX12_gainBy 168 = .ok (.iload 6, 2) := by decide +kernel
theorem dX12_gainBy_170 : decode cX12_gainBy 170 = .ok (.iconst 4, 1) := by decide +kernel
theorem dX12_gainBy_171 : decode cX12_gainBy 171 = .ok (.invokevirtual 266, 3) := by decide +kernel
theorem dX12_gainBy_174 : decode cX12_gainBy 174 = .ok (.iadd, 1) := by decide +kernel
theorem dX12_gainBy_175 : decode cX12_gainBy 175 = .ok (.iastore, 1) := by decide +kernel
theorem dX12_gainBy_176 : decode cX12_gainBy 176 = .ok (.aload_n 0, 1) := by decide +kernel
theorem dX12_gainBy_177 : decode cX12_gainBy 177 = .ok (.getfield 59, 3) := by decide +kernel
theorem dX12_gainBy_180 : decode cX12_gainBy 180 = .ok (.iconst 2, 1) := by decide +kernel
theorem dX12_gainBy_181 : decode cX12_gainBy 181 = .ok (.aload_n 0, 1) := by decide +kernel
theorem dX12_gainBy_182 : decode cX12_gainBy 182 = .ok (.getfield 311, 3) := by decide +kernel
theorem dX12_gainBy_185 : decode cX12_gainBy 185 = .ok (.imul, 1) := by decide +kernel
theorem dX12_gainBy_186 : decode cX12_gainBy 186 = .ok (.aload_n 0, 1) := by decide +kernel
theorem dX12_gainBy_187 : decode cX12_gainBy 187 = .ok (.iload 6, 2) := by decide +kernel
theorem dX12_gainBy_189 : decode cX12_gainBy 189 = .ok (.iload 7, 2) := by decide +kernel
theorem dX12_gainBy_191 : decode cX12_gainBy 191 = .ok (.iconst 1, 1) := by decide +kernel
theorem dX12_gainBy_192 : decode cX12_gainBy 192 = .ok (.isub, 1) := by decide +kernel
theorem dX12_gainBy_193 : decode cX12_gainBy 193 = .ok (.invokevirtual 273, 3) := by decide +kernel
theorem dX12_gainBy_196 : decode cX12_gainBy 196 = .ok (.iastore, 1) := by decide +kernel
theorem dX12_gainBy_197 : decode cX12_gainBy 197 = .ok (.aload_n 0, 1) := by decide +kernel
theorem dX12_gainBy_198 : decode cX12_gainBy 198 = .ok (.getfield 59, 3) := by decide +kernel
theorem dX12_gainBy_201 : decode cX12_gainBy 201 = .ok (.iconst 2, 1) := by decide +kernel
theorem dX12_gainBy_202 : decode cX12_gainBy 202 = .ok (.aload_n 0, 1) := by decide +kernel
theorem dX12_gainBy_203 : decode cX12_gainBy 203 = .ok (.getfield 311, 3) := by decide +kernel
theorem dX12_gainBy_206 : decode cX12_gainBy 206 = .ok (.imul, 1) := by decide +kernel
theorem dX12_gainBy_207 : decode cX12_gainBy 207 = .ok (.iconst 1, 1) := by decide +kernel
theorem dX12_gainBy_208 : decode cX12_gainBy 208 = .ok (.iadd, 1) := by decide +kernel
theorem dX12_gainBy_209 : decode cX12_gainBy 209 = .ok (.aload_n 0, 1) := by decide +kernel
theorem dX12_gainBy_210 : decode cX12_gainBy 210 = .ok (.iload 6, 2) := by decide +kernel
theorem dX12_gainBy_212 : decode cX12_gainBy 212 = .ok (.iload 7, 2) := by decide +kernel
theorem dX12_gainBy_214 : decode cX12_gainBy 214 = .ok (.iconst 1, 1) := by decide +kernel
theorem dX12_gainBy_215 : decode cX12_gainBy 215 = .ok (.isub, 1) := by decide +kernel
theorem dX12_gainBy_216 : decode cX12_gainBy 216 = .ok (.invokevirtual 280, 3) := by decide +kernel
theorem dX12_gainBy_219 : decode cX12_gainBy 219 = .ok (.iastore, 1) := by decide +kernel
theorem dX12_gainBy_220 : decode cX12_gainBy 220 = .ok (.aload_n 0, 1) := by decide +kernel
theorem dX12_gainBy_221 : decode cX12_gainBy 221 = .ok (.dup, 1) := by decide +kernel
theorem dX12_gainBy_222 : decode cX12_gainBy 222 = .ok (.getfield 311, 3) := by decide +kernel
theorem dX12_gainBy_225 : decode cX12_gainBy 225 = .ok (.iconst 1, 1) := by decide +kernel
theorem dX12_gainBy_226 : decode cX12_gainBy 226 = .ok (.iadd, 1) := by decide +kernel
theorem dX12_gainBy_227 : decode cX12_gainBy 227 = .ok (.putfield 311, 3) := by decide +kernel
theorem dX12_gainBy_230 : decode cX12_gainBy 230 = .ok (.iinc 6 1, 3) := by decide +kernel
theorem dX12_gainBy_233 : decode cX12_gainBy 233 = .ok (.goto (-148), 3) := by decide +kernel
theorem dX12_gainBy_236 : decode cX12_gainBy 236 = .ok (.iload 4, 2) := by decide +kernel
theorem dX12_gainBy_238 : decode cX12_gainBy 238 = .ok (.aload_n 0, 1) := by decide +kernel
theorem dX12_gainBy_239 : decode cX12_gainBy 239 = .ok (.invokevirtual 327, 3) := by decide +kernel
theorem dX12_gainBy_242 : decode cX12_gainBy 242 = .ok (.iadd, 1) := by decide +kernel
theorem dX12_gainBy_243 : decode cX12_gainBy 243 = .ok (.istore 4, 2) := by decide +kernel
theorem dX12_gainBy_245 : decode cX12_gainBy 245 = .ok (.iinc 5 1, 3) := by decide +kernel
theorem dX12_gainBy_248 : decode cX12_gainBy 248 = .ok (.goto (-195), 3) := by decide +kernel
theorem dX12_gainBy_251 : decode cX12_gainBy 251 = .ok (.iload 4, 2) := by decide +kernel
theorem dX12_gainBy_253 : decode cX12_gainBy 253 = .ok (.ireturn, 1) := by decide +kernel
set_option maxRecDepth 20000 in
theorem ggX12_isFirst_X12_of : GoodIn wsX12_isFirst wsX12_of := goodIn_r _ [5, 6, 7, 8, 9, 10, 11, 12, 13, 14, 15, 16, 17, 18, 19, 20, 21, 22, 23, 24, 25, 26, 27, 28, 29, 30, 31, 32, 33, 34, 35, 36, 37, 38, 39, 40, 41, 42, 43, 44, 45, 46, 47, 48, 49, 50, 51, 52, 53, 54, 55, 56, 57, 58, 59, 60, 61, 62, 63, 64] (by decide +kernel) (by decide +kernel)
set_option maxRecDepth 20000 in
theorem gX12_isFirst_X12_of : GoodIn wsX12_isFirst (wsV RX12 266 RX12 yX12_of wsX12_of) := goodIn_app (goodIn_of _ (by decide +kernel)) ggX12_isFirst_X12_of
theorem dX12_isFirst_0 : decode cX12_isFirst 0 = .ok (.iconst 0, 1) := by decide +kernel
theorem dX12_isFirst_1 : decode cX12_isFirst 1 = .ok (.istore_n 2, 1) := by decide +kernel
theorem dX12_isFirst_2 : decode cX12_isFirst 2 = .ok (.iload_n 2, 1) := by decide +kernel
theorem dX12_isFirst_3 : decode cX12_isFirst 3 = .ok (.iload_n 1, 1) := by decide +kernel
theorem dX12_isFirst_4 : decode cX12_isFirst 4 = .ok (.if_icmp .ge 26, 3) := by decide +kernel
theorem dX12_isFirst_7 : decode cX12_isFirst 7 = .ok (.aload_n 0, 1) := by decide +kernel
theorem dX12_isFirst_8 : decode cX12_isFirst 8 = .ok (.iload_n 2, 1) := by decide +kernel
theorem dX12_isFirst_9 : decode cX12_isFirst 9 = .ok (.iconst 2, 1) := by decide +kernel
theorem dX12_isFirst_10 : decode cX12_isFirst 10 = .ok (.invokevirtual 266, 3) := by decide +kernel
theorem dX12_isFirst_13 : decode cX12_isFirst 13 = .ok (.aload_n 0, 1) := by decide +kernel
theorem dX12_isFirst_14 : decode cX12_isFirst 14 = .ok (.iload_n 1, 1) := by decide +kernel
theorem dX12_isFirst_15 : decode cX12_isFirst 15 = .ok (.iconst 2, 1) := by decide +kernel
