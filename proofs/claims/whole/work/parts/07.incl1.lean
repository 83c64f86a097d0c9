set_option maxRecDepth 20000 in
theorem ggX0_tryDeal_X0_wrongOf : GoodIn wsX0_tryDeal wsX0_wrongOf := goodIn_r _ [12, 13, 3, 1, 5, 4, 2, 14, 15, 16, 11, 17, 6, 18, 19, 20, 21, 22, 23, 24, 25, 26, 27, 28, 7, 29, 30, 31, 32, 33, 34, 35, 36, 37, 38, 43, 44, 45, 46, 47, 48, 49, 50, 51, 52, 53, 54, 55, 56, 57, 58, 59, 39, 40, 41, 42] rfl (by decide +kernel)
set_option maxRecDepth 20000 in
theorem gX0_tryDeal_X0_wrongOf : GoodIn wsX0_tryDeal (wsV RX0 31 RX0 yX0_wrongOf wsX0_wrongOf) := goodIn_app (goodIn_of _ (by decide +kernel)) ggX0_tryDeal_X0_wrongOf
set_option maxRecDepth 20000 in
theorem ggX0_tryDeal_X0_whatIs : GoodIn wsX0_tryDeal wsX0_whatIs := goodIn_r _ [28, 1, 5, 3, 7, 29, 6, 4, 2, 39, 40, 41, 42, 43, 44, 45, 46, 47, 48, 49, 50, 51, 52, 53, 54, 55, 56, 57, 58, 59] rfl (by decide +kernel)
set_option maxRecDepth 20000 in
theorem gX0_tryDeal_X0_whatIs : GoodIn wsX0_tryDeal (wsV RX0 43 RX0 yX0_whatIs wsX0_whatIs) := goodIn_app (goodIn_of _ (by decide +kernel)) ggX0_tryDeal_X0_whatIs
set_option maxRecDepth 20000 in
theorem ggX0_wrongOf_X0_wayDone : GoodIn wsX0_wrongOf wsX0_wayDone := goodIn_r _ [11, 3, 4, 12, 52, 53, 54, 55] rfl (by decide +kernel)
set_option maxRecDepth 20000 in
theorem gX0_wrongOf_X0_wayDone : GoodIn wsX0_wrongOf (wsV RX0 49 RX0 yX0_wayDone wsX0_wayDone) := goodIn_app (goodIn_of _ (by decide +kernel)) ggX0_wrongOf_X0_wayDone
set_option maxRecDepth 20000 in
theorem ggX0_wrongOf_X10_otherIn : GoodIn wsX0_wrongOf wsX10_otherIn := goodIn_r _ [17, 18, 19, 35, 36, 37, 38, 39, 40, 41, 42, 43, 44, 45, 46, 47, 48, 49, 50, 51] rfl (by decide +kernel)
set_option maxRecDepth 20000 in
theorem gX0_wrongOf_X10_otherIn : GoodIn wsX0_wrongOf (wsV RX0 56 RX10 yX10_otherIn wsX10_otherIn) := goodIn_app (goodIn_of _ (by decide +kernel)) ggX0_wrongOf_X10_otherIn
set_option maxRecDepth 20000 in
theorem ggX0_wrongOf_X0_whatIs : GoodIn wsX0_wrongOf wsX0_whatIs := goodIn_r _ [23, 3, 4, 2, 24, 25, 12, 5, 6, 52, 53, 54, 55, 35, 36, 37, 38, 39, 40, 41, 42, 43, 44, 45, 46, 47, 48, 49, 50, 51] rfl (by decide +kernel)
set_option maxRecDepth 20000 in
theorem gX0_wrongOf_X0_whatIs : GoodIn wsX0_wrongOf (wsV RX0 43 RX0 yX0_whatIs wsX0_whatIs) := goodIn_app (goodIn_of _ (by decide +kernel)) ggX0_wrongOf_X0_whatIs
set_option maxRecDepth 20000 in
theorem ggX0_wrongOf_X0_didAll : GoodIn wsX0_wrongOf wsX0_didAll := goodIn_r _ [29, 3, 2, 4, 30, 31, 32, 33, 16, 34, 18, 19, 52, 53, 54, 55, 35, 36, 37, 38, 39, 40, 41, 42, 43, 44, 45, 46, 47, 48, 49, 50, 51] rfl (by decide +kernel)
set_option maxRecDepth 20000 in
theorem gX0_wrongOf_X0_didAll : GoodIn wsX0_wrongOf (wsV RX0 60 RX0 yX0_didAll wsX0_didAll) := goodIn_app (goodIn_of _ (by decide +kernel)) ggX0_wrongOf_X0_didAll
set_option maxRecDepth 20000 in
theorem ggX0_didAll_X10_isIn : GoodIn wsX0_didAll wsX10_isIn := goodIn_r _ [9, 10, 11, 16, 17, 18, 19, 20, 21, 22, 23, 24, 25, 26, 27, 28, 29, 30, 31, 32] rfl (by decide +kernel)
set_option maxRecDepth 20000 in
theorem gX0_didAll_X10_isIn : GoodIn wsX0_didAll (wsV RX0 64 RX10 yX10_isIn wsX10_isIn) := goodIn_app (goodIn_of _ (by decide +kernel)) ggX0_didAll_X10_isIn
set_option maxRecDepth 20000 in
theorem ggX0_sharesOf_X10_shareOf : GoodIn wsX0_sharesOf wsX10_shareOf := goodIn_r _ [7, 8, 9, 10, 11, 16, 17, 18, 19, 20, 21, 22, 23, 24, 25, 26, 27, 28, 29, 30, 31, 32] rfl (by decide +kernel)
set_option maxRecDepth 20000 in
theorem gX0_sharesOf_X10_shareOf : GoodIn wsX0_sharesOf (wsV RX0 74 RX10 yX10_shareOf wsX10_shareOf) := goodIn_app (goodIn_of _ (by decide +kernel)) ggX0_sharesOf_X10_shareOf
set_option maxRecDepth 20000 in
theorem ggX1_reckon_X1_addUp : GoodIn wsX1_reckon wsX1_addUp := goodIn_r _ [12, 13, 14, 15, 16, 17, 18, 19, 20, 21, 22, 23, 24, 25, 26, 27, 28, 29, 30, 31, 32, 50, 51, 52, 53, 54, 55, 56, 57, 58, 59, 60, 61, 62, 63, 64, 65, 66] rfl (by decide +kernel)
set_option maxRecDepth 20000 in
theorem gX1_reckon_X1_addUp : GoodIn wsX1_reckon (va_wsS RX1 32 yX1_addUp wsX1_addUp) := goodIn_app (goodIn_of _ (by decide +kernel)) ggX1_reckon_X1_addUp
set_option maxRecDepth 20000 in
theorem ggX1_reckon_X1_byBinding : GoodIn wsX1_reckon wsX1_byBinding := goodIn_r _ [36, 4, 37, 38, 39, 11, 40, 1, 41, 42, 7, 43, 44, 45, 46, 47, 48, 49] rfl (by decide +kernel)
set_option maxRecDepth 20000 in
theorem gX1_reckon_X1_byBinding : GoodIn wsX1_reckon (wsV RX1 36 RX1 yX1_byBinding wsX1_byBinding) := goodIn_app (goodIn_of _ (by decide +kernel)) ggX1_reckon_X1_byBinding
set_option maxRecDepth 20000 in
theorem ggX1_addUp_J7_fill_53178 : GoodIn wsX1_addUp wsJ7_fill_53178 := goodIn_r _ [6] rfl (by decide +kernel)
set_option maxRecDepth 20000 in
theorem gX1_addUp_J7_fill_53178 : GoodIn wsX1_addUp (va_wsS RX1 46 yJ7_fill_53178 wsJ7_fill_53178) := goodIn_app (goodIn_of _ (by decide +kernel)) ggX1_addUp_J7_fill_53178
set_option maxRecDepth 20000 in
theorem ggX1_addUp_X10_goesBy : GoodIn wsX1_addUp wsX10_goesBy := goodIn_r _ [11, 12, 13, 14, 21, 22, 23, 24, 25, 26, 27, 28, 29, 30, 31, 32, 33, 34, 35, 36, 37] rfl (by decide +kernel)
set_option maxRecDepth 20000 in
theorem gX1_addUp_X10_goesBy : GoodIn wsX1_addUp (wsV RX1 57 RX10 yX10_goesBy wsX10_goesBy) := goodIn_app (goodIn_of _ (by decide +kernel)) ggX1_addUp_X10_goesBy
set_option maxRecDepth 20000 in
theorem ggX1_addUp_X10_shareOf : GoodIn wsX1_addUp wsX10_shareOf := goodIn_r _ [18, 12, 19, 13, 20, 21, 22, 23, 24, 25, 26, 27, 28, 29, 30, 31, 32, 33, 34, 35, 36, 37] rfl (by decide +kernel)
set_option maxRecDepth 20000 in
theorem gX1_addUp_X10_shareOf : GoodIn wsX1_addUp (wsV RX1 64 RX10 yX10_shareOf wsX10_shareOf) := goodIn_app (goodIn_of _ (by decide +kernel)) ggX1_addUp_X10_shareOf
set_option maxRecDepth 20000 in
theorem ggX1_byBinding_X1_freeAgain : GoodIn wsX1_byBinding wsX1_freeAgain := goodIn_r _ [6, 7, 8, 9, 10, 11, 12, 13, 14, 15, 16, 17] rfl (by decide +kernel)
set_option maxRecDepth 20000 in
theorem gX1_byBinding_X1_freeAgain : GoodIn wsX1_byBinding (wsV RX1 67 RX1 yX1_freeAgain wsX1_freeAgain) := goodIn_app (goodIn_of _ (by decide +kernel)) ggX1_byBinding_X1_freeAgain
set_option maxRecDepth 20000 in
theorem ggX1_keepRow_X1_byBinding : GoodIn wsX1_keepRow wsX1_byBinding := goodIn_r _ [10, 4, 11, 12, 13, 9, 14, 15, 16, 17, 18, 19, 20, 21, 22, 23, 24, 25] rfl (by decide +kernel)
set_option maxRecDepth 20000 in
theorem gX1_keepRow_X1_byBinding : GoodIn wsX1_keepRow (wsV RX1 36 RX1 yX1_byBinding wsX1_byBinding) := goodIn_app (goodIn_of _ (by decide +kernel)) ggX1_keepRow_X1_byBinding
set_option maxRecDepth 20000 in
theorem ggX1_keepRow_X1_freeAgain : GoodIn wsX1_keepRow wsX1_freeAgain := goodIn_r _ [14, 15, 16, 17, 18, 19, 20, 21, 22, 23, 24, 25] rfl (by decide +kernel)
set_option maxRecDepth 20000 in
theorem gX1_keepRow_X1_freeAgain : GoodIn wsX1_keepRow (wsV RX1 67 RX1 yX1_freeAgain wsX1_freeAgain) := goodIn_app (goodIn_of _ (by decide +kernel)) ggX1_keepRow_X1_freeAgain
set_option maxRecDepth 20000 in
theorem ggX2_gainOf_X2_gainWithLimit : GoodIn wsX2_gainOf wsX2_gainWithLimit := goodIn_r _ [7, 8, 9, 10, 11, 12, 13, 14, 15, 16, 17, 18, 19, 20, 6, 21, 22, 23, 24, 25, 26, 27, 28, 29, 30, 31, 32, 33, 34, 35, 36, 37, 38, 39, 40, 41, 42, 43, 44, 45, 46, 47, 48, 49, 50, 51, 52, 53, 54, 55, 56, 57, 58, 59, 60, 61, 62, 63, 64, 65, 66, 67, 68, 69, 70, 71, 72, 73, 74, 75, 76, 77, 78, 79, 80, 81, 82, 83, 84, 85, 86, 87, 88, 89, 90, 91, 92, 93, 94, 95, 101, 102, 103, 104, 105, 106, 107, 108, 109] rfl (by decide +kernel)
set_option maxRecDepth 20000 in
theorem gX2_gainOf_X2_gainWithLimit : GoodIn wsX2_gainOf (wsV RX2 51 RX2 yX2_gainWithLimit wsX2_gainWithLimit) := goodIn_app (goodIn_of _ (by decide +kernel)) ggX2_gainOf_X2_gainWithLimit
set_option maxRecDepth 20000 in
theorem ggX2_gainWithLimit_X2_gather : GoodIn wsX2_gainWithLimit wsX2_gather := goodIn_r _ [15, 16, 17, 3, 18, 19, 20, 21, 22, 23, 24, 25, 26, 27, 28, 29, 30, 31, 32, 33, 34, 35, 36, 37, 38, 39, 40, 90, 91, 92, 93, 94, 95, 96, 97, 98, 73, 74, 75, 76, 77, 78, 79, 80, 81, 82, 83, 84, 85, 86, 87, 88, 89] rfl (by decide +kernel)
set_option maxRecDepth 20000 in
theorem gX2_gainWithLimit_X2_gather : GoodIn wsX2_gainWithLimit (wsV RX2 73 RX2 yX2_gather wsX2_gather) := goodIn_app (goodIn_of _ (by decide +kernel)) ggX2_gainWithLimit_X2_gather
set_option maxRecDepth 20000 in
theorem ggX2_gainWithLimit_X2_gainOfYear : GoodIn wsX2_gainWithLimit wsX2_gainOfYear := goodIn_r _ [44, 45, 16, 46, 47, 48, 49, 14, 50, 17, 5, 51, 52, 53, 54, 22, 55, 56, 57, 58, 59, 60, 61, 62, 63, 64, 21, 19, 65, 66, 67, 68, 69, 70, 71, 72, 90, 91, 92, 93, 94, 95, 96, 97, 98] rfl (by decide +kernel)
set_option maxRecDepth 20000 in
theorem gX2_gainWithLimit_X2_gainOfYear : GoodIn wsX2_gainWithLimit (wsV RX2 80 RX2 yX2_gainOfYear wsX2_gainOfYear) := goodIn_app (goodIn_of _ (by decide +kernel)) ggX2_gainWithLimit_X2_gainOfYear
set_option maxRecDepth 20000 in
theorem ggX2_gather_J7_fill_53178 : GoodIn wsX2_gather wsJ7_fill_53178 := goodIn_r _ [12] rfl (by decide +kernel)
set_option maxRecDepth 20000 in
theorem gX2_gather_J7_fill_53178 : GoodIn wsX2_gather (va_wsS RX2 84 yJ7_fill_53178 wsJ7_fill_53178) := goodIn_app (goodIn_of _ (by decide +kernel)) ggX2_gather_J7_fill_53178
set_option maxRecDepth 20000 in
theorem ggX2_gather_X10_goesBy : GoodIn wsX2_gather wsX10_goesBy := goodIn_r _ [17, 18, 19, 20, 36, 37, 38, 39, 40, 41, 42, 43, 44, 45, 46, 47, 48, 49, 50, 51, 52] rfl (by decide +kernel)
set_option maxRecDepth 20000 in
theorem gX2_gather_X10_goesBy : GoodIn wsX2_gather (wsV RX2 90 RX10 yX10_goesBy wsX10_goesBy) := goodIn_app (goodIn_of _ (by decide +kernel)) ggX2_gather_X10_goesBy
set_option maxRecDepth 20000 in
theorem ggX2_gather_X10_bothShares : GoodIn wsX2_gather wsX10_bothShares := goodIn_r _ [24, 25, 26, 36, 37, 38, 39, 40, 41, 42, 43, 44, 45, 46, 47, 48, 49, 50, 51, 52] rfl (by decide +kernel)
set_option maxRecDepth 20000 in
theorem gX2_gather_X10_bothShares : GoodIn wsX2_gather (wsV RX2 100 RX10 yX10_bothShares wsX10_bothShares) := goodIn_app (goodIn_of _ (by decide +kernel)) ggX2_gather_X10_bothShares
set_option maxRecDepth 20000 in
theorem ggX2_gainOfYear_X2_allFit : GoodIn wsX2_gainOfYear wsX2_allFit := goodIn_r _ [8, 9, 10, 36, 37, 38, 39, 40, 41, 42, 43, 44] rfl (by decide +kernel)
set_option maxRecDepth 20000 in
theorem gX2_gainOfYear_X2_allFit : GoodIn wsX2_gainOfYear (wsV RX2 104 RX2 yX2_allFit wsX2_allFit) := goodIn_app (goodIn_of _ (by decide +kernel)) ggX2_gainOfYear_X2_allFit
set_option maxRecDepth 20000 in
theorem ggX2_gainOfYear_X2_sumOfGoing : GoodIn wsX2_gainOfYear wsX2_sumOfGoing := goodIn_r _ [14, 2, 15, 36, 37, 38, 39, 40, 41, 42, 43, 44] rfl (by decide +kernel)
set_option maxRecDepth 20000 in
theorem gX2_gainOfYear_X2_sumOfGoing : GoodIn wsX2_gainOfYear (wsV RX2 108 RX2 yX2_sumOfGoing wsX2_sumOfGoing) := goodIn_app (goodIn_of _ (by decide +kernel)) ggX2_gainOfYear_X2_sumOfGoing
set_option maxRecDepth 20000 in
theorem ggX2_gainOfYear_X2_spread : GoodIn wsX2_gainOfYear wsX2_spread := goodIn_r _ [19, 10, 3, 20, 21, 2, 22, 23, 24, 7, 25, 1, 26, 27, 15, 36, 37, 38, 39, 40, 41, 42, 43, 44] rfl (by decide +kernel)
set_option maxRecDepth 20000 in
theorem gX2_gainOfYear_X2_spread : GoodIn wsX2_gainOfYear (wsV RX2 112 RX2 yX2_spread wsX2_spread) := goodIn_app (goodIn_of _ (by decide +kernel)) ggX2_gainOfYear_X2_spread
set_option maxRecDepth 20000 in
theorem ggX2_gainOfYear_X2_bestEnd : GoodIn wsX2_gainOfYear wsX2_bestEnd := goodIn_r _ [31, 10, 3, 36, 37, 38, 39, 40, 41, 42, 43, 44] rfl (by decide +kernel)
set_option maxRecDepth 20000 in
theorem gX2_gainOfYear_X2_bestEnd : GoodIn wsX2_gainOfYear (wsV RX2 116 RX2 yX2_bestEnd wsX2_bestEnd) := goodIn_app (goodIn_of _ (by decide +kernel)) ggX2_gainOfYear_X2_bestEnd
set_option maxRecDepth 20000 in
theorem ggX2_gainOfYear_X2_turnPath : GoodIn wsX2_gainOfYear wsX2_turnPath := goodIn_r _ [35, 21, 1, 27, 26, 10, 36, 37, 38, 39, 40, 41, 42, 43, 44] rfl (by decide +kernel)
set_option maxRecDepth 20000 in
theorem gX2_gainOfYear_X2_turnPath : GoodIn wsX2_gainOfYear (wsV RX2 119 RX2 yX2_turnPath wsX2_turnPath) := goodIn_app (goodIn_of _ (by decide +kernel)) ggX2_gainOfYear_X2_turnPath
set_option maxRecDepth 20000 in
theorem ggX2_spread_X2_leadAlong : GoodIn wsX2_spread wsX2_leadAlong := goodIn_r _ [10, 11, 12, 13, 14, 2, 3, 4, 15, 16, 17, 18, 19, 20, 21, 22, 23] rfl (by decide +kernel)
set_option maxRecDepth 20000 in
theorem gX2_spread_X2_leadAlong : GoodIn wsX2_spread (wsV RX2 124 RX2 yX2_leadAlong wsX2_leadAlong) := goodIn_app (goodIn_of _ (by decide +kernel)) ggX2_spread_X2_leadAlong
set_option maxRecDepth 20000 in
theorem ggX3_init_X0_init : GoodIn wsX3_init wsX0_init := goodIn_r _ [14, 15, 2, 3, 4, 16, 17, 18, 19, 25, 26, 27, 28] rfl (by decide +kernel)
set_option maxRecDepth 20000 in
theorem gX3_init_X0_init_n21 : GoodIn wsX3_init (wsX0_init) := ggX3_init_X0_init
set_option maxRecDepth 20000 in
theorem ggX3_reckon_X10_bothShares : GoodIn wsX3_reckon wsX10_bothShares := goodIn_r _ [18, 19, 20, 76, 77, 78, 79, 80, 81, 82, 83, 84, 85, 86, 87, 88, 89, 90, 91, 92] rfl (by decide +kernel)
set_option maxRecDepth 20000 in
theorem gX3_reckon_X10_bothShares : GoodIn wsX3_reckon (wsV RX3 49 RX10 yX10_bothShares wsX10_bothShares) := goodIn_app (goodIn_of _ (by decide +kernel)) ggX3_reckon_X10_bothShares
set_option maxRecDepth 20000 in
theorem ggX3_reckon_X0_clear : GoodIn wsX3_reckon wsX0_clear := goodIn_r _ [25, 26, 103, 104, 105, 106] rfl (by decide +kernel)
set_option maxRecDepth 20000 in
theorem gX3_reckon_X0_clear : GoodIn wsX3_reckon (wsV RX3 53 RX0 yX0_clear wsX0_clear) := goodIn_app (goodIn_of _ (by decide +kernel)) ggX3_reckon_X0_clear
set_option maxRecDepth 20000 in
theorem ggX3_reckon_X3_tryFrom : GoodIn wsX3_reckon wsX3_tryFrom := goodIn_r _ [31, 3, 1, 2, 4, 32, 7, 9, 10, 11, 12, 5, 6, 27, 28, 29, 30, 33, 34, 35, 24, 36, 26, 37, 38, 39, 40, 41, 42, 43, 44, 45, 46, 47, 48, 49, 50, 51, 52, 53, 54, 17, 55, 56, 57, 58, 59, 60, 61, 62, 63, 64, 65, 66, 67, 68, 69, 70, 71, 14, 15, 16, 18, 19, 20, 72, 73, 74, 75, 98, 99, 100, 101, 102, 76, 77, 78, 79, 80, 81, 82, 83, 84, 85, 86, 87, 88, 89, 90, 91, 92, 93, 94, 95, 96, 97, 103, 104, 105, 106] rfl (by decide +kernel)
set_option maxRecDepth 20000 in
theorem gX3_reckon_X3_tryFrom : GoodIn wsX3_reckon (wsV RX3 56 RX3 yX3_tryFrom wsX3_tryFrom) := goodIn_app (goodIn_of _ (by decide +kernel)) ggX3_reckon_X3_tryFrom
set_option maxRecDepth 20000 in
theorem ggX3_tryFrom_X3_tryFrom : GoodIn wsX3_tryFrom wsX3_tryFrom := goodIn_r _ [0, 1, 2, 3, 4, 5, 6, 7, 8, 9, 10, 11, 12, 13, 14, 15, 16, 17, 18, 19, 20, 21, 22, 23, 24, 25, 26, 27, 28, 29, 30, 31, 32, 33, 34, 35, 36, 37, 38, 39, 40, 41, 42, 43, 44, 45, 46, 47, 48, 49, 50, 51, 52, 53, 54, 55, 56, 57, 58, 59, 60, 61, 62, 63, 64, 65, 66, 67, 68, 69, 70, 71, 72, 73, 74, 75, 76, 77, 78, 79, 80, 81, 82, 83, 84, 85, 86, 87, 88, 89, 90, 91, 92, 93, 94, 95, 96, 97, 98, 99] rfl (by decide +kernel)
set_option maxRecDepth 20000 in
theorem gX3_tryFrom_X3_tryFrom : GoodIn wsX3_tryFrom (wsV RX3 56 RX3 yX3_tryFrom wsX3_tryFrom) := goodIn_app (goodIn_of _ (by decide +kernel)) ggX3_tryFrom_X3_tryFrom
set_option maxRecDepth 20000 in
theorem ggX3_tryFrom_X0_tryDeal : GoodIn wsX3_tryFrom wsX0_tryDeal := goodIn_r _ [21, 22, 23, 24, 25, 26, 27, 28, 29, 30, 31, 20, 32, 33, 34, 35, 36, 37, 38, 39, 40, 41, 42, 43, 44, 45, 46, 47, 48, 49, 50, 51, 52, 53, 54, 55, 56, 57, 58, 96, 97, 98, 99, 74, 75, 76, 77, 78, 79, 80, 81, 82, 83, 84, 85, 86, 87, 88, 89, 90] rfl (by decide +kernel)
set_option maxRecDepth 20000 in
theorem gX3_tryFrom_X0_tryDeal : GoodIn wsX3_tryFrom (wsV RX3 69 RX0 yX0_tryDeal wsX0_tryDeal) := goodIn_app (goodIn_of _ (by decide +kernel)) ggX3_tryFrom_X0_tryDeal
set_option maxRecDepth 20000 in
theorem ggX3_tryFrom_X10_bothShares : GoodIn wsX3_tryFrom wsX10_bothShares := goodIn_r _ [62, 63, 64, 74, 75, 76, 77, 78, 79, 80, 81, 82, 83, 84, 85, 86, 87, 88, 89, 90] rfl (by decide +kernel)
set_option maxRecDepth 20000 in
theorem gX3_tryFrom_X10_bothShares : GoodIn wsX3_tryFrom (wsV RX3 49 RX10 yX10_bothShares wsX10_bothShares) := goodIn_app (goodIn_of _ (by decide +kernel)) ggX3_tryFrom_X10_bothShares
set_option maxRecDepth 20000 in
theorem ggX3_tryFrom_X0_dropLast : GoodIn wsX3_tryFrom wsX0_dropLast := goodIn_r _ [68, 22, 96, 97, 98, 99] rfl (by decide +kernel)
set_option maxRecDepth 20000 in
theorem gX3_tryFrom_X0_dropLast : GoodIn wsX3_tryFrom (wsV RX3 73 RX0 yX0_dropLast wsX0_dropLast) := goodIn_app (goodIn_of _ (by decide +kernel)) ggX3_tryFrom_X0_dropLast
set_option maxRecDepth 20000 in
theorem ggX4_take_J7_fill_53178 : GoodIn wsX4_take wsJ7_fill_53178 := goodIn_r _ [9] rfl (by decide +kernel)
set_option maxRecDepth 20000 in
theorem gX4_take_J7_fill_53178 : GoodIn wsX4_take (va_wsS RX4 34 yJ7_fill_53178 wsJ7_fill_53178) := goodIn_app (goodIn_of _ (by decide +kernel)) ggX4_take_J7_fill_53178
set_option maxRecDepth 20000 in
theorem ggX4_take_X4_addPair : GoodIn wsX4_take wsX4_addPair := goodIn_r _ [14, 15, 1, 16, 3, 2, 17, 18, 19, 20, 21, 22, 23] rfl (by decide +kernel)
set_option maxRecDepth 20000 in
theorem gX4_take_X4_addPair : GoodIn wsX4_take (wsV RX4 49 RX4 yX4_addPair wsX4_addPair) := goodIn_app (goodIn_of _ (by decide +kernel)) ggX4_take_X4_addPair
set_option maxRecDepth 20000 in
theorem ggX4_waysToBe_X4_spreadFrom : GoodIn wsX4_waysToBe wsX4_spreadFrom := goodIn_r _ [8, 2, 3, 9, 10, 11, 7, 12, 13, 14, 15, 16, 17, 18, 19, 20] rfl (by decide +kernel)
set_option maxRecDepth 20000 in
theorem gX4_waysToBe_X4_spreadFrom : GoodIn wsX4_waysToBe (wsV RX4 53 RX4 yX4_spreadFrom wsX4_spreadFrom) := goodIn_app (goodIn_of _ (by decide +kernel)) ggX4_waysToBe_X4_spreadFrom
set_option maxRecDepth 20000 in
theorem ggX4_bound_X4_waysToBe : GoodIn wsX4_bound wsX4_waysToBe := goodIn_r _ [8, 1, 2, 3, 9, 10, 11, 7, 12, 13, 14, 15, 16, 17, 18, 19, 20, 21, 22, 23, 24] rfl (by decide +kernel)
set_option maxRecDepth 20000 in
theorem gX4_bound_X4_waysToBe : GoodIn wsX4_bound (wsV RX4 57 RX4 yX4_waysToBe wsX4_waysToBe) := goodIn_app (goodIn_of _ (by decide +kernel)) ggX4_bound_X4_waysToBe
set_option maxRecDepth 20000 in
theorem ggX4_bound_X4_spreadFrom : GoodIn wsX4_bound wsX4_spreadFrom := goodIn_r _ [12, 2, 3, 13, 14, 15, 7, 16, 17, 18, 19, 20, 21, 22, 23, 24] rfl (by decide +kernel)
set_option maxRecDepth 20000 in
theorem gX4_bound_X4_spreadFrom : GoodIn wsX4_bound (wsV RX4 53 RX4 yX4_spreadFrom wsX4_spreadFrom) := goodIn_app (goodIn_of _ (by decide +kernel)) ggX4_bound_X4_spreadFrom
set_option maxRecDepth 20000 in
theorem ggX4_spreadFrom_X4_nearAny : GoodIn wsX4_spreadFrom wsX4_nearAny := goodIn_r _ [7, 8, 9, 10, 11, 12, 13, 14, 15] rfl (by decide +kernel)
set_option maxRecDepth 20000 in
theorem gX4_spreadFrom_X4_nearAny : GoodIn wsX4_spreadFrom (wsV RX4 61 RX4 yX4_nearAny wsX4_nearAny) := goodIn_app (goodIn_of _ (by decide +kernel)) ggX4_spreadFrom_X4_nearAny
set_option maxRecDepth 20000 in
theorem ggX4_fewestFalse_X4_brokenBy : GoodIn wsX4_fewestFalse wsX4_brokenBy := goodIn_r _ [6, 1, 7, 8, 16, 17, 18, 19, 20, 21, 22] rfl (by decide +kernel)
set_option maxRecDepth 20000 in
theorem gX4_fewestFalse_X4_brokenBy : GoodIn wsX4_fewestFalse (wsV RX4 65 RX4 yX4_brokenBy wsX4_brokenBy) := goodIn_app (goodIn_of _ (by decide +kernel)) ggX4_fewestFalse_X4_brokenBy
set_option maxRecDepth 20000 in
theorem ggX4_fewestFalse_J6_bitCount_0f7a4 : GoodIn wsX4_fewestFalse wsJ6_bitCount_0f7a4 := goodIn_r _ [12, 13, 14, 15] rfl (by decide +kernel)
set_option maxRecDepth 20000 in
theorem gX4_fewestFalse_J6_bitCount_0f7a4 : GoodIn wsX4_fewestFalse (va_wsS RX4 68 yJ6_bitCount_0f7a4 wsJ6_bitCount_0f7a4) := goodIn_app (goodIn_of _ (by decide +kernel)) ggX4_fewestFalse_J6_bitCount_0f7a4
set_option maxRecDepth 20000 in
theorem ggX5_init_J7_fill_53178 : GoodIn wsX5_init wsJ7_fill_53178 := goodIn_r _ [13] rfl (by decide +kernel)
set_option maxRecDepth 20000 in
theorem gX5_init_J7_fill_53178 : GoodIn wsX5_init (va_wsS RX5 28 yJ7_fill_53178 wsJ7_fill_53178) := goodIn_app (goodIn_of _ (by decide +kernel)) ggX5_init_J7_fill_53178
set_option maxRecDepth 20000 in
theorem ggX5_forget_J7_fill_53178 : GoodIn wsX5_forget wsJ7_fill_53178 := goodIn_r _ [7] rfl (by decide +kernel)
set_option maxRecDepth 20000 in
theorem gX5_forget_J7_fill_53178 : GoodIn wsX5_forget (va_wsS RX5 28 yJ7_fill_53178 wsJ7_fill_53178) := goodIn_app (goodIn_of _ (by decide +kernel)) ggX5_forget_J7_fill_53178
set_option maxRecDepth 20000 in
theorem ggX6_readTown_X10_clear : GoodIn wsX6_readTown wsX10_clear := goodIn_r _ [11, 12, 13, 14, 15, 16, 17, 18, 19, 20, 21, 22, 23, 24, 25, 26, 27, 28, 238, 239, 240, 241, 242, 243, 244, 245, 246, 247, 248, 249, 250, 251, 252, 253, 254, 255, 256, 257, 258, 259] rfl (by decide +kernel)
set_option maxRecDepth 20000 in
theorem gX6_readTown_X10_clear : GoodIn wsX6_readTown (wsV RX6 42 RX10 yX10_clear wsX10_clear) := goodIn_app (goodIn_of _ (by decide +kernel)) ggX6_readTown_X10_clear
set_option maxRecDepth 20000 in
theorem ggX6_readTown_X6_start : GoodIn wsX6_readTown wsX6_start := goodIn_r _ [33, 4, 6, 34, 35, 36, 37, 38, 39, 40, 41, 42, 43, 44, 45, 46, 47, 221, 222, 223, 224, 225, 226, 227, 228, 229, 230, 231, 232, 233, 234, 235, 236, 237] rfl (by decide +kernel)
set_option maxRecDepth 20000 in
theorem gX6_readTown_X6_start : GoodIn wsX6_readTown (wsV RX6 47 RX6 yX6_start wsX6_start) := goodIn_app (goodIn_of _ (by decide +kernel)) ggX6_readTown_X6_start
set_option maxRecDepth 20000 in
theorem ggX6_readTown_X9_next : GoodIn wsX6_readTown wsX9_next := goodIn_r _ [51, 41, 47, 52, 53, 54, 55, 56, 57, 39, 58, 59, 60, 42, 61, 230, 231, 232, 233, 234, 235, 236, 237] rfl (by decide +kernel)
set_option maxRecDepth 20000 in
theorem gX6_readTown_X9_next : GoodIn wsX6_readTown (wsV RX6 51 RX9 yX9_next wsX9_next) := goodIn_app (goodIn_of _ (by decide +kernel)) ggX6_readTown_X9_next
set_option maxRecDepth 20000 in
theorem ggX6_readTown_X10_orderByYear : GoodIn wsX6_readTown wsX10_orderByYear := goodIn_r _ [65, 13, 66, 67, 238, 239, 240, 241, 242, 243, 244, 245, 246, 247, 248, 249, 250, 251, 252, 253, 254] rfl (by decide +kernel)
set_option maxRecDepth 20000 in
theorem gX6_readTown_X10_orderByYear : GoodIn wsX6_readTown (wsV RX6 59 RX10 yX10_orderByYear wsX10_orderByYear) := goodIn_app (goodIn_of _ (by decide +kernel)) ggX6_readTown_X10_orderByYear
set_option maxRecDepth 20000 in
theorem ggX6_readTown_X6_isWholeText : GoodIn wsX6_readTown wsX6_isWholeText := goodIn_r _ [71, 4, 72, 73, 74, 75, 32, 76, 34, 77, 35, 221, 222, 223, 224, 225, 226, 227, 228, 229, 230, 231, 232, 233, 234, 235, 236, 237] rfl (by decide +kernel)
set_option maxRecDepth 20000 in
theorem gX6_readTown_X6_isWholeText : GoodIn wsX6_readTown (wsV RX6 62 RX6 yX6_isWholeText wsX6_isWholeText) := goodIn_app (goodIn_of _ (by decide +kernel)) ggX6_readTown_X6_isWholeText
set_option maxRecDepth 20000 in
theorem ggX6_readTown_X6_readLine : GoodIn wsX6_readTown wsX6_readLine := goodIn_r _ [81, 4, 82, 83, 84, 85, 39, 86, 53, 41, 54, 52, 87, 88, 89, 90, 91, 92, 93, 94, 95, 96, 97, 98, 99, 100, 101, 102, 103, 104, 105, 106, 107, 108, 109, 110, 111, 112, 113, 114, 115, 116, 117, 118, 119, 120, 121, 122, 123, 124, 125, 126, 127, 128, 129, 130, 131, 132, 133, 134, 135, 136, 137, 138, 32, 139, 140, 141, 142, 73, 74, 75, 76, 34, 77, 35, 143, 144, 145, 146, 48, 49, 50, 51, 47, 55, 56, 57, 58, 59, 60, 42, 61, 147, 148, 149, 150, 151, 152, 153, 154, 10, 155, 12, 156, 157, 158, 159, 160, 13, 161, 162, 163, 164, 165, 5, 166, 167, 168, 169, 170, 171, 172, 173, 174, 175, 176, 177, 178, 179, 180, 181, 182, 183, 184, 1, 185, 186, 187, 188, 189, 190, 191, 192, 193, 194, 195, 196, 197, 45, 198, 199, 200, 44, 46, 201, 202, 203, 204, 205, 206, 207, 208, 209, 210, 211, 212, 213, 214, 3, 215, 216, 217, 218, 219, 2, 220, 221, 222, 223, 224, 225, 226, 227, 228, 229, 238, 239, 240, 241, 242, 243, 244, 245, 246, 247, 248, 249, 250, 251, 252, 253, 254, 230, 231, 232, 233, 234, 235, 236, 237] rfl (by decide +kernel)
set_option maxRecDepth 20000 in
theorem gX6_readTown_X6_readLine : GoodIn wsX6_readTown (wsV RX6 66 RX6 yX6_readLine wsX6_readLine) := goodIn_app (goodIn_of _ (by decide +kernel)) ggX6_readTown_X6_readLine
set_option maxRecDepth 20000 in
theorem ggX6_readBook_X6_start : GoodIn wsX6_readBook wsX6_start := goodIn_r _ [8, 1, 3, 9, 10, 11, 12, 13, 14, 15, 16, 17, 18, 19, 20, 21, 22, 123, 124, 125, 126, 127, 128, 129, 130, 131, 132, 133, 134, 135, 136, 137, 138, 139] rfl (by decide +kernel)
set_option maxRecDepth 20000 in
theorem gX6_readBook_X6_start : GoodIn wsX6_readBook (wsV RX6 47 RX6 yX6_start wsX6_start) := goodIn_app (goodIn_of _ (by decide +kernel)) ggX6_readBook_X6_start
set_option maxRecDepth 20000 in
theorem ggX6_readBook_X9_next : GoodIn wsX6_readBook wsX9_next := goodIn_r _ [26, 16, 22, 27, 28, 29, 30, 31, 32, 14, 33, 34, 35, 17, 36, 132, 133, 134, 135, 136, 137, 138, 139] rfl (by decide +kernel)
set_option maxRecDepth 20000 in
theorem gX6_readBook_X9_next : GoodIn wsX6_readBook (wsV RX6 51 RX9 yX9_next wsX9_next) := goodIn_app (goodIn_of _ (by decide +kernel)) ggX6_readBook_X9_next
set_option maxRecDepth 20000 in
theorem ggX6_readBook_X6_isWholeText : GoodIn wsX6_readBook wsX6_isWholeText := goodIn_r _ [40, 1, 41, 42, 43, 44, 7, 45, 9, 46, 10, 123, 124, 125, 126, 127, 128, 129, 130, 131, 132, 133, 134, 135, 136, 137, 138, 139] rfl (by decide +kernel)
set_option maxRecDepth 20000 in
theorem gX6_readBook_X6_isWholeText : GoodIn wsX6_readBook (wsV RX6 62 RX6 yX6_isWholeText wsX6_isWholeText) := goodIn_app (goodIn_of _ (by decide +kernel)) ggX6_readBook_X6_isWholeText
set_option maxRecDepth 20000 in
theorem ggX6_readBook_X6_readBookLine : GoodIn wsX6_readBook wsX6_readBookLine := goodIn_r _ [50, 1, 51, 3, 52, 53, 54, 55, 56, 14, 57, 28, 58, 59, 60, 61, 16, 29, 27, 62, 63, 64, 65, 66, 67, 68, 69, 70, 71, 72, 73, 74, 75, 76, 77, 78, 79, 80, 81, 82, 83, 84, 85, 86, 87, 88, 89, 90, 91, 92, 93, 94, 95, 96, 97, 98, 99, 100, 101, 102, 103, 104, 105, 106, 107, 108, 109, 110, 42, 43, 44, 7, 45, 9, 46, 10, 111, 112, 113, 114, 115, 116, 117, 23, 24, 25, 26, 22, 30, 31, 32, 33, 34, 35, 17, 36, 118, 119, 120, 121, 122, 2, 123, 124, 125, 126, 127, 128, 129, 130, 131, 132, 133, 134, 135, 136, 137, 138, 139, 140, 141, 142, 143, 144, 145, 146, 147, 148, 149, 150, 151, 152, 153, 154, 155, 156] rfl (by decide +kernel)
set_option maxRecDepth 20000 in
theorem gX6_readBook_X6_readBookLine : GoodIn wsX6_readBook (wsV RX6 70 RX6 yX6_readBookLine wsX6_readBookLine) := goodIn_app (goodIn_of _ (by decide +kernel)) ggX6_readBook_X6_readBookLine
set_option maxRecDepth 20000 in
theorem ggX6_start_X9_startReading : GoodIn wsX6_start wsX9_startReading := goodIn_r _ [9, 10, 11, 12, 13, 14, 15, 16, 26, 27, 28, 29, 30, 31, 32, 33] rfl (by decide +kernel)
set_option maxRecDepth 20000 in
theorem gX6_start_X9_startReading : GoodIn wsX6_start (wsV RX6 73 RX9 yX9_startReading wsX9_startReading) := goodIn_app (goodIn_of _ (by decide +kernel)) ggX6_start_X9_startReading
set_option maxRecDepth 20000 in
theorem ggX6_isWholeText_X6_refuse : GoodIn wsX6_isWholeText wsX6_refuse := goodIn_r _ [7, 8, 1, 9, 10, 11, 12, 13, 14, 15, 16, 17, 18, 19, 20, 21, 22, 23, 24, 25, 26, 27] rfl (by decide +kernel)
set_option maxRecDepth 20000 in
theorem gX6_isWholeText_X6_refuse : GoodIn wsX6_isWholeText (wsV RX6 79 RX6 yX6_refuse wsX6_refuse) := goodIn_app (goodIn_of _ (by decide +kernel)) ggX6_isWholeText_X6_refuse
set_option maxRecDepth 20000 in
theorem ggX6_readLine_X9_isWord : GoodIn wsX6_readLine wsX9_isWord := goodIn_r _ [7, 8, 9, 10, 11, 12, 13, 14, 15, 16, 17, 18, 19, 20, 21, 22, 23, 24, 25, 26, 27, 28, 29, 30, 31, 32, 33, 34, 35, 36, 37, 38, 39, 40, 41, 42, 43, 44, 45, 46, 47, 48, 49, 50, 51, 52, 53, 54, 55, 56, 57, 58, 59, 60, 203, 204, 205, 206, 207, 208, 209, 210] rfl (by decide +kernel)
set_option maxRecDepth 20000 in
theorem gX6_readLine_X9_isWord : GoodIn wsX6_readLine (wsV RX6 85 RX9 yX9_isWord wsX9_isWord) := goodIn_app (goodIn_of _ (by decide +kernel)) ggX6_readLine_X9_isWord
set_option maxRecDepth 20000 in
theorem ggX6_readLine_X6_readPerson : GoodIn wsX6_readLine wsX6_readPerson := goodIn_r _ [65, 66, 1, 67, 68, 69, 70, 71, 64, 72, 73, 74, 75, 76, 77, 78, 79, 80, 81, 82, 6, 83, 9, 84, 11, 8, 10, 85, 86, 87, 88, 89, 90, 91, 92, 93, 94, 95, 96, 97, 4, 5, 7, 12, 13, 14, 15, 16, 17, 18, 19, 20, 21, 22, 23, 24, 25, 26, 27, 28, 29, 30, 31, 32, 33, 34, 35, 36, 37, 38, 39, 40, 41, 42, 43, 44, 45, 46, 47, 48, 49, 50, 51, 52, 53, 54, 55, 56, 57, 58, 59, 60, 98, 99, 100, 101, 102, 103, 104, 105, 106, 107, 108, 109, 110, 111, 112, 113, 114, 115, 116, 117, 118, 119, 120, 121, 122, 123, 124, 125, 126, 127, 128, 129, 130, 186, 187, 188, 189, 190, 191, 192, 193, 194, 195, 196, 197, 198, 199, 200, 201, 202, 177, 178, 179, 180, 181, 182, 183, 184, 185, 203, 204, 205, 206, 207, 208, 209, 210] rfl (by decide +kernel)
set_option maxRecDepth 20000 in
theorem gX6_readLine_X6_readPerson : GoodIn wsX6_readLine (wsV RX6 89 RX6 yX6_readPerson wsX6_readPerson) := goodIn_app (goodIn_of _ (by decide +kernel)) ggX6_readLine_X6_readPerson
set_option maxRecDepth 20000 in
theorem ggX6_readLine_X6_readLimit : GoodIn wsX6_readLine wsX6_readLimit := goodIn_r _ [134, 135, 136, 1, 68, 137, 138, 139, 64, 140, 67, 80, 81, 82, 6, 83, 9, 84, 11, 8, 10, 85, 86, 87, 88, 89, 90, 91, 92, 93, 94, 95, 96, 97, 4, 5, 7, 12, 13, 14, 15, 16, 17, 18, 19, 20, 21, 22, 23, 24, 25, 26, 27, 28, 29, 30, 31, 32, 33, 34, 35, 36, 37, 38, 39, 40, 41, 42, 43, 44, 45, 46, 47, 48, 49, 50, 51, 52, 53, 54, 55, 56, 57, 58, 59, 60, 69, 70, 71, 72, 73, 74, 75, 98, 99, 100, 101, 102, 103, 104, 111, 112, 113, 114, 115, 123, 124, 125, 126, 127, 128, 129, 130, 177, 178, 179, 180, 181, 182, 183, 184, 185, 186, 187, 188, 189, 190, 191, 192, 193, 194, 195, 196, 197, 198, 199, 200, 201, 202, 203, 204, 205, 206, 207, 208, 209, 210] rfl (by decide +kernel)
set_option maxRecDepth 20000 in
theorem gX6_readLine_X6_readLimit : GoodIn wsX6_readLine (wsV RX6 94 RX6 yX6_readLimit wsX6_readLimit) := goodIn_app (goodIn_of _ (by decide +kernel)) ggX6_readLine_X6_readLimit
set_option maxRecDepth 20000 in
theorem ggX6_readLine_X6_readDeal : GoodIn wsX6_readLine wsX6_readDeal := goodIn_r _ [144, 2, 145, 1, 67, 146, 147, 148, 149, 150, 151, 152, 153, 154, 155, 156, 157, 68, 69, 70, 71, 64, 72, 73, 74, 75, 76, 77, 78, 79, 80, 81, 82, 6, 83, 9, 84, 11, 8, 10, 85, 86, 87, 88, 89, 90, 91, 92, 93, 94, 95, 96, 97, 4, 5, 7, 12, 13, 14, 15, 16, 17, 18, 19, 20, 21, 22, 23, 24, 25, 26, 27, 28, 29, 30, 31, 32, 33, 34, 35, 36, 37, 38, 39, 40, 41, 42, 43, 44, 45, 46, 47, 48, 49, 50, 51, 52, 53, 54, 55, 56, 57, 58, 59, 60, 98, 99, 100, 101, 102, 103, 104, 105, 106, 107, 108, 109, 110, 137, 138, 139, 140, 111, 112, 113, 114, 115, 186, 187, 188, 189, 190, 191, 192, 193, 194, 195, 196, 197, 198, 199, 200, 201, 202, 177, 178, 179, 180, 181, 182, 183, 184, 185, 203, 204, 205, 206, 207, 208, 209, 210] rfl (by decide +kernel)
set_option maxRecDepth 20000 in
theorem gX6_readLine_X6_readDeal : GoodIn wsX6_readLine (wsV RX6 99 RX6 yX6_readDeal wsX6_readDeal) := goodIn_app (goodIn_of _ (by decide +kernel)) ggX6_readLine_X6_readDeal
set_option maxRecDepth 20000 in
theorem ggX6_readLine_X6_readGains : GoodIn wsX6_readLine wsX6_readGains := goodIn_r _ [161, 162, 1, 68, 163, 164, 2, 111, 112, 113, 64, 114, 115, 80, 81, 82, 6, 83, 9, 84, 11, 8, 10, 85, 86, 87, 88, 89, 90, 91, 92, 69, 70, 71, 72, 73, 74, 75, 3, 4, 5, 7, 12, 13, 14, 15, 16, 17, 18, 19, 20, 21, 22, 23, 24, 25, 26, 27, 28, 29, 30, 31, 32, 33, 34, 35, 36, 37, 38, 39, 40, 41, 42, 43, 44, 45, 46, 47, 48, 49, 50, 51, 52, 53, 54, 55, 56, 57, 58, 59, 60, 127, 128, 129, 130, 186, 187, 188, 189, 190, 191, 192, 193, 194, 195, 196, 197, 198, 199, 200, 201, 202, 177, 178, 179, 180, 181, 182, 183, 184, 185, 203, 204, 205, 206, 207, 208, 209, 210] rfl (by decide +kernel)
set_option maxRecDepth 20000 in
theorem gX6_readLine_X6_readGains : GoodIn wsX6_readLine (wsV RX6 105 RX6 yX6_readGains wsX6_readGains) := goodIn_app (goodIn_of _ (by decide +kernel)) ggX6_readLine_X6_readGains
set_option maxRecDepth 20000 in
theorem ggX6_readLine_X6_readLaw : GoodIn wsX6_readLine wsX6_readLaw := goodIn_r _ [168, 169, 1, 68, 170, 69, 70, 71, 64, 72, 73, 74, 75, 80, 81, 82, 6, 83, 9, 84, 11, 8, 10, 85, 86, 87, 88, 89, 90, 91, 92, 3, 4, 5, 7, 12, 13, 14, 15, 16, 17, 18, 19, 20, 21, 22, 23, 24, 25, 26, 27, 28, 29, 30, 31, 32, 33, 34, 35, 36, 37, 38, 39, 40, 41, 42, 43, 44, 45, 46, 47, 48, 49, 50, 51, 52, 53, 54, 55, 56, 57, 58, 59, 60, 111, 112, 113, 114, 115, 123, 124, 125, 126, 127, 128, 129, 130, 177, 178, 179, 180, 181, 182, 183, 184, 185, 203, 204, 205, 206, 207, 208, 209, 210, 186, 187, 188, 189, 190, 191, 192, 193, 194, 195, 196, 197, 198, 199, 200, 201, 202] rfl (by decide +kernel)
set_option maxRecDepth 20000 in
theorem gX6_readLine_X6_readLaw : GoodIn wsX6_readLine (wsV RX6 111 RX6 yX6_readLaw wsX6_readLaw) := goodIn_app (goodIn_of _ (by decide +kernel)) ggX6_readLine_X6_readLaw
set_option maxRecDepth 20000 in
theorem ggX6_readLine_X6_readPart : GoodIn wsX6_readLine wsX6_readPart := goodIn_r _ [174, 175, 1, 176, 137, 138, 139, 64, 140, 67, 80, 81, 82, 6, 83, 9, 84, 11, 8, 10, 85, 86, 87, 88, 89, 90, 91, 92, 93, 94, 95, 96, 97, 4, 5, 7, 12, 13, 14, 15, 16, 17, 18, 19, 20, 21, 22, 23, 24, 25, 26, 27, 28, 29, 30, 31, 32, 33, 34, 35, 36, 37, 38, 39, 40, 41, 42, 43, 44, 45, 46, 47, 48, 49, 50, 51, 52, 53, 54, 55, 56, 57, 58, 59, 60, 69, 70, 71, 72, 73, 74, 75, 98, 99, 100, 101, 102, 103, 104, 3, 123, 124, 125, 126, 127, 128, 129, 130, 115, 177, 178, 179, 180, 181, 182, 183, 184, 185, 186, 187, 188, 189, 190, 191, 192, 193, 194, 195, 196, 197, 198, 199, 200, 201, 202, 203, 204, 205, 206, 207, 208, 209, 210] rfl (by decide +kernel)
set_option maxRecDepth 20000 in
theorem gX6_readLine_X6_readPart : GoodIn wsX6_readLine (wsV RX6 116 RX6 yX6_readPart wsX6_readPart) := goodIn_app (goodIn_of _ (by decide +kernel)) ggX6_readLine_X6_readPart
set_option maxRecDepth 20000 in
theorem ggX6_readLine_X6_refuse : GoodIn wsX6_readLine wsX6_refuse := goodIn_r _ [72, 73, 1, 74, 75, 177, 178, 179, 180, 181, 182, 183, 184, 185, 203, 204, 205, 206, 207, 208, 209, 210] rfl (by decide +kernel)
set_option maxRecDepth 20000 in
theorem gX6_readLine_X6_refuse : GoodIn wsX6_readLine (wsV RX6 79 RX6 yX6_refuse wsX6_refuse) := goodIn_app (goodIn_of _ (by decide +kernel)) ggX6_readLine_X6_refuse
set_option maxRecDepth 20000 in
theorem ggX6_readPerson_X6_refuse : GoodIn wsX6_readPerson wsX6_refuse := goodIn_r _ [9, 10, 2, 11, 12, 142, 143, 144, 145, 146, 147, 148, 149, 150, 151, 152, 153, 154, 155, 156, 157, 158] rfl (by decide +kernel)
set_option maxRecDepth 20000 in
theorem gX6_readPerson_X6_refuse : GoodIn wsX6_readPerson (wsV RX6 79 RX6 yX6_refuse wsX6_refuse) := goodIn_app (goodIn_of _ (by decide +kernel)) ggX6_readPerson_X6_refuse
set_option maxRecDepth 20000 in
theorem ggX6_readPerson_X6_readNewName : GoodIn wsX6_readPerson wsX6_readNewName := goodIn_r _ [16, 2, 3, 17, 18, 19, 20, 21, 22, 23, 24, 25, 26, 27, 28, 29, 30, 31, 32, 33, 34, 35, 36, 37, 38, 39, 40, 41, 42, 43, 44, 45, 46, 47, 48, 49, 50, 51, 52, 53, 54, 55, 56, 57, 58, 59, 60, 61, 62, 63, 64, 65, 66, 67, 68, 69, 70, 71, 72, 73, 74, 75, 76, 77, 78, 79, 80, 81, 82, 83, 84, 85, 86, 87, 88, 89, 90, 91, 5, 6, 7, 8, 9, 10, 11, 12, 92, 93, 94, 95, 96, 97, 98, 99, 100, 101, 102, 103, 104, 142, 143, 144, 145, 146, 147, 148, 149, 150, 151, 152, 153, 154, 155, 156, 157, 158, 125, 126, 127, 128, 129, 130, 131, 132, 133, 134, 135, 136, 137, 138, 139, 140, 141] rfl (by decide +kernel)
set_option maxRecDepth 20000 in
theorem gX6_readPerson_X6_readNewName : GoodIn wsX6_readPerson (wsV RX6 122 RX6 yX6_readNewName wsX6_readNewName) := goodIn_app (goodIn_of _ (by decide +kernel)) ggX6_readPerson_X6_readNewName
set_option maxRecDepth 20000 in
theorem ggX6_readPerson_X6_readNumber : GoodIn wsX6_readPerson wsX6_readNumber := goodIn_r _ [108, 2, 109, 4, 17, 18, 19, 20, 21, 22, 23, 24, 25, 26, 27, 28, 29, 30, 31, 32, 33, 34, 5, 6, 7, 8, 9, 10, 11, 12, 142, 143, 144, 145, 146, 147, 148, 149, 150, 151, 152, 153, 154, 155, 156, 157, 158] rfl (by decide +kernel)
set_option maxRecDepth 20000 in
theorem gX6_readPerson_X6_readNumber : GoodIn wsX6_readPerson (wsV RX6 129 RX6 yX6_readNumber wsX6_readNumber) := goodIn_app (goodIn_of _ (by decide +kernel)) ggX6_readPerson_X6_readNumber
set_option maxRecDepth 20000 in
theorem ggX6_readPerson_X10_addPerson : GoodIn wsX6_readPerson wsX10_addPerson := goodIn_r _ [113, 97, 98, 114, 115, 116, 125, 126, 127, 128, 129, 130, 131, 132, 133, 134, 135, 136, 137, 138, 139, 140, 141] rfl (by decide +kernel)
set_option maxRecDepth 20000 in
theorem gX6_readPerson_X10_addPerson : GoodIn wsX6_readPerson (wsV RX6 136 RX10 yX10_addPerson wsX10_addPerson) := goodIn_app (goodIn_of _ (by decide +kernel)) ggX6_readPerson_X10_addPerson
set_option maxRecDepth 20000 in
theorem ggX6_readPerson_X6_readSemicolon : GoodIn wsX6_readPerson wsX6_readSemicolon := goodIn_r _ [120, 2, 17, 18, 19, 20, 21, 22, 23, 24, 25, 26, 27, 28, 29, 30, 31, 32, 33, 34, 121, 122, 123, 8, 124, 109, 5, 6, 7, 9, 10, 11, 12, 142, 143, 144, 145, 146, 147, 148, 149, 150, 151, 152, 153, 154, 155, 156, 157, 158] rfl (by decide +kernel)
set_option maxRecDepth 20000 in
theorem gX6_readPerson_X6_readSemicolon : GoodIn wsX6_readPerson (wsV RX6 140 RX6 yX6_readSemicolon wsX6_readSemicolon) := goodIn_app (goodIn_of _ (by decide +kernel)) ggX6_readPerson_X6_readSemicolon
set_option maxRecDepth 20000 in
theorem ggX6_readLimit_X6_readKnownPerson : GoodIn wsX6_readLimit wsX6_readKnownPerson := goodIn_r _ [9, 3, 10, 11, 12, 13, 14, 15, 16, 17, 18, 19, 20, 21, 22, 23, 24, 25, 26, 27, 28, 29, 30, 31, 32, 33, 34, 35, 36, 37, 38, 39, 40, 41, 42, 43, 44, 45, 46, 47, 48, 49, 50, 51, 52, 53, 54, 55, 56, 57, 58, 59, 60, 61, 62, 63, 64, 65, 66, 67, 68, 69, 70, 71, 72, 73, 74, 75, 76, 77, 78, 79, 80, 81, 82, 83, 84, 85, 86, 87, 88, 8, 89, 90, 91, 92, 93, 94, 95, 96, 97, 98, 99, 113, 114, 115, 116, 117, 118, 119, 120, 121, 139, 140, 141, 142, 143, 144, 145, 146, 122, 123, 124, 125, 126, 127, 128, 129, 130, 131, 132, 133, 134, 135, 136, 137, 138] rfl (by decide +kernel)
set_option maxRecDepth 20000 in
theorem gX6_readLimit_X6_readKnownPerson : GoodIn wsX6_readLimit (wsV RX6 144 RX6 yX6_readKnownPerson wsX6_readKnownPerson) := goodIn_app (goodIn_of _ (by decide +kernel)) ggX6_readLimit_X6_readKnownPerson
set_option maxRecDepth 20000 in
theorem ggX6_readLimit_X6_refuse : GoodIn wsX6_readLimit wsX6_refuse := goodIn_r _ [89, 90, 3, 91, 92, 113, 114, 115, 116, 117, 118, 119, 120, 121, 139, 140, 141, 142, 143, 144, 145, 146] rfl (by decide +kernel)
set_option maxRecDepth 20000 in
theorem gX6_readLimit_X6_refuse : GoodIn wsX6_readLimit (wsV RX6 79 RX6 yX6_refuse wsX6_refuse) := goodIn_app (goodIn_of _ (by decide +kernel)) ggX6_readLimit_X6_refuse
set_option maxRecDepth 20000 in
theorem ggX6_readLimit_X6_readNumber : GoodIn wsX6_readLimit wsX6_readNumber := goodIn_r _ [103, 3, 104, 4, 11, 12, 13, 14, 15, 16, 17, 18, 19, 20, 21, 22, 23, 24, 25, 26, 27, 28, 86, 87, 88, 8, 89, 90, 91, 92, 113, 114, 115, 116, 117, 118, 119, 120, 121, 139, 140, 141, 142, 143, 144, 145, 146] rfl (by decide +kernel)
set_option maxRecDepth 20000 in
theorem gX6_readLimit_X6_readNumber : GoodIn wsX6_readLimit (wsV RX6 129 RX6 yX6_readNumber wsX6_readNumber) := goodIn_app (goodIn_of _ (by decide +kernel)) ggX6_readLimit_X6_readNumber
set_option maxRecDepth 20000 in
theorem ggX6_readLimit_X6_readSemicolon : GoodIn wsX6_readLimit wsX6_readSemicolon := goodIn_r _ [108, 3, 11, 12, 13, 14, 15, 16, 17, 18, 19, 20, 21, 22, 23, 24, 25, 26, 27, 28, 109, 110, 111, 8, 112, 104, 86, 87, 88, 89, 90, 91, 92, 113, 114, 115, 116, 117, 118, 119, 120, 121, 139, 140, 141, 142, 143, 144, 145, 146] rfl (by decide +kernel)
set_option maxRecDepth 20000 in
theorem gX6_readLimit_X6_readSemicolon : GoodIn wsX6_readLimit (wsV RX6 140 RX6 yX6_readSemicolon wsX6_readSemicolon) := goodIn_app (goodIn_of _ (by decide +kernel)) ggX6_readLimit_X6_readSemicolon
set_option maxRecDepth 20000 in
theorem ggX6_readDeal_X6_refuse : GoodIn wsX6_readDeal wsX6_refuse := goodIn_r _ [22, 23, 3, 24, 25, 144, 145, 146, 147, 148, 149, 150, 151, 152, 153, 154, 155, 156, 157, 158, 159, 160] rfl (by decide +kernel)
set_option maxRecDepth 20000 in
theorem gX6_readDeal_X6_refuse : GoodIn wsX6_readDeal (wsV RX6 79 RX6 yX6_refuse wsX6_refuse) := goodIn_app (goodIn_of _ (by decide +kernel)) ggX6_readDeal_X6_refuse
set_option maxRecDepth 20000 in
theorem ggX6_readDeal_X6_readNewName : GoodIn wsX6_readDeal wsX6_readNewName := goodIn_r _ [29, 3, 4, 30, 31, 32, 33, 34, 35, 36, 37, 38, 39, 40, 41, 42, 43, 44, 45, 46, 47, 48, 49, 50, 51, 52, 53, 54, 55, 56, 57, 58, 59, 60, 61, 62, 63, 64, 65, 66, 67, 68, 69, 70, 71, 72, 73, 74, 75, 76, 77, 78, 79, 80, 81, 82, 83, 84, 85, 86, 87, 88, 89, 90, 91, 92, 93, 94, 95, 96, 97, 98, 99, 100, 101, 102, 103, 104, 18, 19, 20, 21, 22, 23, 24, 25, 105, 106, 107, 108, 109, 110, 111, 112, 113, 114, 115, 116, 117, 144, 145, 146, 147, 148, 149, 150, 151, 152, 153, 154, 155, 156, 157, 158, 159, 160, 127, 128, 129, 130, 131, 132, 133, 134, 135, 136, 137, 138, 139, 140, 141, 142, 143] rfl (by decide +kernel)
set_option maxRecDepth 20000 in
theorem gX6_readDeal_X6_readNewName : GoodIn wsX6_readDeal (wsV RX6 122 RX6 yX6_readNewName wsX6_readNewName) := goodIn_app (goodIn_of _ (by decide +kernel)) ggX6_readDeal_X6_readNewName
set_option maxRecDepth 20000 in
theorem ggX6_readDeal_X6_readKnownPerson : GoodIn wsX6_readDeal wsX6_readKnownPerson := goodIn_r _ [121, 3, 4, 30, 31, 32, 33, 34, 35, 36, 37, 38, 39, 40, 41, 42, 43, 44, 45, 46, 47, 48, 49, 50, 51, 52, 53, 54, 55, 56, 57, 58, 59, 60, 61, 62, 63, 64, 65, 66, 67, 68, 69, 70, 71, 72, 73, 74, 75, 76, 77, 78, 79, 80, 81, 82, 83, 84, 85, 86, 87, 88, 89, 90, 91, 92, 93, 94, 95, 96, 97, 98, 99, 100, 101, 102, 103, 104, 18, 19, 20, 21, 22, 23, 24, 25, 105, 106, 107, 108, 109, 110, 111, 144, 145, 146, 147, 148, 149, 150, 151, 152, 153, 154, 155, 156, 157, 158, 159, 160, 127, 128, 129, 130, 131, 132, 133, 134, 135, 136, 137, 138, 139, 140, 141, 142, 143] rfl (by decide +kernel)
set_option maxRecDepth 20000 in
theorem gX6_readDeal_X6_readKnownPerson : GoodIn wsX6_readDeal (wsV RX6 144 RX6 yX6_readKnownPerson wsX6_readKnownPerson) := goodIn_app (goodIn_of _ (by decide +kernel)) ggX6_readDeal_X6_readKnownPerson
set_option maxRecDepth 20000 in
theorem ggX6_readDeal_X6_readNumber : GoodIn wsX6_readDeal wsX6_readNumber := goodIn_r _ [125, 3, 126, 17, 30, 31, 32, 33, 34, 35, 36, 37, 38, 39, 40, 41, 42, 43, 44, 45, 46, 47, 18, 19, 20, 21, 22, 23, 24, 25, 144, 145, 146, 147, 148, 149, 150, 151, 152, 153, 154, 155, 156, 157, 158, 159, 160] rfl (by decide +kernel)
set_option maxRecDepth 20000 in
theorem gX6_readDeal_X6_readNumber : GoodIn wsX6_readDeal (wsV RX6 129 RX6 yX6_readNumber wsX6_readNumber) := goodIn_app (goodIn_of _ (by decide +kernel)) ggX6_readDeal_X6_readNumber
set_option maxRecDepth 20000 in
theorem ggX6_readGains_X6_readNumber : GoodIn wsX6_readGains wsX6_readNumber := goodIn_r _ [11, 2, 12, 3, 13, 14, 15, 16, 17, 18, 19, 20, 21, 22, 23, 24, 25, 26, 27, 28, 29, 30, 31, 32, 33, 10, 34, 35, 36, 37, 112, 113, 114, 115, 116, 117, 118, 119, 120, 121, 122, 123, 124, 125, 126, 127, 128] rfl (by decide +kernel)
set_option maxRecDepth 20000 in
theorem gX6_readGains_X6_readNumber : GoodIn wsX6_readGains (wsV RX6 129 RX6 yX6_readNumber wsX6_readNumber) := goodIn_app (goodIn_of _ (by decide +kernel)) ggX6_readGains_X6_readNumber
set_option maxRecDepth 20000 in
theorem ggX6_readGains_X9_next : GoodIn wsX6_readGains wsX9_next := goodIn_r _ [17, 18, 19, 20, 21, 22, 23, 24, 25, 16, 26, 27, 28, 29, 30, 121, 122, 123, 124, 125, 126, 127, 128] rfl (by decide +kernel)
set_option maxRecDepth 20000 in
theorem gX6_readGains_X9_next : GoodIn wsX6_readGains (wsV RX6 51 RX9 yX9_next wsX9_next) := goodIn_app (goodIn_of _ (by decide +kernel)) ggX6_readGains_X9_next
set_option maxRecDepth 20000 in
theorem ggX6_readGains_X9_isWord : GoodIn wsX6_readGains wsX9_isWord := goodIn_r _ [41, 21, 18, 22, 20, 42, 43, 44, 45, 46, 47, 48, 49, 50, 51, 52, 53, 54, 55, 56, 57, 58, 59, 60, 61, 62, 63, 64, 65, 66, 67, 68, 69, 70, 71, 72, 73, 74, 75, 76, 77, 78, 79, 80, 81, 82, 83, 84, 85, 86, 87, 88, 89, 90, 121, 122, 123, 124, 125, 126, 127, 128] rfl (by decide +kernel)
set_option maxRecDepth 20000 in
theorem gX6_readGains_X9_isWord : GoodIn wsX6_readGains (wsV RX6 85 RX9 yX9_isWord wsX9_isWord) := goodIn_app (goodIn_of _ (by decide +kernel)) ggX6_readGains_X9_isWord
set_option maxRecDepth 20000 in
theorem ggX6_readGains_X6_atSemicolon : GoodIn wsX6_readGains wsX6_atSemicolon := goodIn_r _ [94, 2, 12, 31, 32, 33, 10, 34, 35, 36, 37, 112, 113, 114, 115, 116, 117, 118, 119, 120, 121, 122, 123, 124, 125, 126, 127, 128] rfl (by decide +kernel)
set_option maxRecDepth 20000 in
theorem gX6_readGains_X6_atSemicolon : GoodIn wsX6_readGains (wsV RX6 188 RX6 yX6_atSemicolon wsX6_atSemicolon) := goodIn_app (goodIn_of _ (by decide +kernel)) ggX6_readGains_X6_atSemicolon
set_option maxRecDepth 20000 in
theorem ggX6_readLaw_X6_refuse : GoodIn wsX6_readLaw wsX6_refuse := goodIn_r _ [9, 10, 2, 11, 12, 97, 98, 99, 100, 101, 102, 103, 104, 105, 106, 107, 108, 109, 110, 111, 112, 113] rfl (by decide +kernel)
set_option maxRecDepth 20000 in
theorem gX6_readLaw_X6_refuse : GoodIn wsX6_readLaw (wsV RX6 79 RX6 yX6_refuse wsX6_refuse) := goodIn_app (goodIn_of _ (by decide +kernel)) ggX6_readLaw_X6_refuse
set_option maxRecDepth 20000 in
theorem ggX6_readLaw_X9_next : GoodIn wsX6_readLaw wsX9_next := goodIn_r _ [17, 18, 19, 20, 21, 22, 23, 24, 25, 16, 26, 27, 28, 29, 30, 106, 107, 108, 109, 110, 111, 112, 113] rfl (by decide +kernel)
set_option maxRecDepth 20000 in
theorem gX6_readLaw_X9_next : GoodIn wsX6_readLaw (wsV RX6 51 RX9 yX9_next wsX9_next) := goodIn_app (goodIn_of _ (by decide +kernel)) ggX6_readLaw_X9_next
set_option maxRecDepth 20000 in
theorem ggX6_readLaw_X9_isWord : GoodIn wsX6_readLaw wsX9_isWord := goodIn_r _ [34, 21, 18, 22, 20, 35, 36, 37, 38, 39, 40, 41, 42, 43, 44, 45, 46, 47, 48, 49, 50, 51, 52, 53, 54, 55, 56, 57, 58, 59, 60, 61, 62, 63, 64, 65, 66, 67, 68, 69, 70, 71, 72, 73, 74, 75, 76, 77, 78, 79, 80, 81, 82, 83, 106, 107, 108, 109, 110, 111, 112, 113] rfl (by decide +kernel)
set_option maxRecDepth 20000 in
theorem gX6_readLaw_X9_isWord : GoodIn wsX6_readLaw (wsV RX6 85 RX9 yX9_isWord wsX9_isWord) := goodIn_app (goodIn_of _ (by decide +kernel)) ggX6_readLaw_X9_isWord
set_option maxRecDepth 20000 in
theorem ggX6_readLaw_X6_readNumber : GoodIn wsX6_readLaw wsX6_readNumber := goodIn_r _ [87, 2, 88, 3, 13, 14, 15, 16, 17, 18, 19, 20, 21, 22, 23, 24, 25, 26, 27, 28, 29, 30, 5, 6, 7, 8, 9, 10, 11, 12, 97, 98, 99, 100, 101, 102, 103, 104, 105, 106, 107, 108, 109, 110, 111, 112, 113] rfl (by decide +kernel)
set_option maxRecDepth 20000 in
theorem gX6_readLaw_X6_readNumber : GoodIn wsX6_readLaw (wsV RX6 129 RX6 yX6_readNumber wsX6_readNumber) := goodIn_app (goodIn_of _ (by decide +kernel)) ggX6_readLaw_X6_readNumber
set_option maxRecDepth 20000 in
theorem ggX6_readLaw_X6_readSemicolon : GoodIn wsX6_readLaw wsX6_readSemicolon := goodIn_r _ [92, 2, 13, 14, 15, 16, 17, 18, 19, 20, 21, 22, 23, 24, 25, 26, 27, 28, 29, 30, 93, 94, 95, 8, 96, 88, 5, 6, 7, 9, 10, 11, 12, 97, 98, 99, 100, 101, 102, 103, 104, 105, 106, 107, 108, 109, 110, 111, 112, 113] rfl (by decide +kernel)
set_option maxRecDepth 20000 in
theorem gX6_readLaw_X6_readSemicolon : GoodIn wsX6_readLaw (wsV RX6 140 RX6 yX6_readSemicolon wsX6_readSemicolon) := goodIn_app (goodIn_of _ (by decide +kernel)) ggX6_readLaw_X6_readSemicolon
set_option maxRecDepth 20000 in
theorem ggX6_readPart_X6_readKnownPerson : GoodIn wsX6_readPart wsX6_readKnownPerson := goodIn_r _ [8, 2, 9, 10, 11, 12, 13, 14, 15, 16, 17, 18, 19, 20, 21, 22, 23, 24, 25, 26, 27, 28, 29, 30, 31, 32, 33, 34, 35, 36, 37, 38, 39, 40, 41, 42, 43, 44, 45, 46, 47, 48, 49, 50, 51, 52, 53, 54, 55, 56, 57, 58, 59, 60, 61, 62, 63, 64, 65, 66, 67, 68, 69, 70, 71, 72, 73, 74, 75, 76, 77, 78, 79, 80, 81, 82, 83, 84, 85, 86, 87, 7, 88, 89, 90, 91, 92, 93, 94, 95, 96, 97, 98, 109, 110, 111, 112, 113, 114, 115, 116, 117, 135, 136, 137, 138, 139, 140, 141, 142, 118, 119, 120, 121, 122, 123, 124, 125, 126, 127, 128, 129, 130, 131, 132, 133, 134] rfl (by decide +kernel)
set_option maxRecDepth 20000 in
theorem gX6_readPart_X6_readKnownPerson : GoodIn wsX6_readPart (wsV RX6 144 RX6 yX6_readKnownPerson wsX6_readKnownPerson) := goodIn_app (goodIn_of _ (by decide +kernel)) ggX6_readPart_X6_readKnownPerson
set_option maxRecDepth 20000 in
theorem ggX6_readPart_X6_refuse : GoodIn wsX6_readPart wsX6_refuse := goodIn_r _ [88, 89, 2, 90, 91, 109, 110, 111, 112, 113, 114, 115, 116, 117, 135, 136, 137, 138, 139, 140, 141, 142] rfl (by decide +kernel)
set_option maxRecDepth 20000 in
theorem gX6_readPart_X6_refuse : GoodIn wsX6_readPart (wsV RX6 79 RX6 yX6_refuse wsX6_refuse) := goodIn_app (goodIn_of _ (by decide +kernel)) ggX6_readPart_X6_refuse
set_option maxRecDepth 20000 in
theorem ggX6_readPart_X9_next : GoodIn wsX6_readPart wsX9_next := goodIn_r _ [14, 15, 16, 17, 18, 19, 20, 21, 22, 13, 23, 24, 25, 26, 27, 135, 136, 137, 138, 139, 140, 141, 142] rfl (by decide +kernel)
set_option maxRecDepth 20000 in
theorem gX6_readPart_X9_next : GoodIn wsX6_readPart (wsV RX6 51 RX9 yX9_next wsX9_next) := goodIn_app (goodIn_of _ (by decide +kernel)) ggX6_readPart_X9_next
set_option maxRecDepth 20000 in
theorem ggX6_readPart_X9_isWord : GoodIn wsX6_readPart wsX9_isWord := goodIn_r _ [35, 18, 15, 19, 17, 36, 37, 38, 39, 40, 41, 42, 43, 44, 45, 46, 47, 48, 49, 50, 51, 52, 53, 54, 55, 56, 57, 58, 59, 60, 61, 62, 63, 64, 65, 66, 67, 68, 69, 70, 71, 72, 73, 74, 75, 76, 77, 78, 79, 80, 81, 82, 83, 84, 135, 136, 137, 138, 139, 140, 141, 142] rfl (by decide +kernel)
set_option maxRecDepth 20000 in
theorem gX6_readPart_X9_isWord : GoodIn wsX6_readPart (wsV RX6 85 RX9 yX9_isWord wsX9_isWord) := goodIn_app (goodIn_of _ (by decide +kernel)) ggX6_readPart_X9_isWord
set_option maxRecDepth 20000 in
theorem ggX6_readPart_X6_readSemicolon : GoodIn wsX6_readPart wsX6_readSemicolon := goodIn_r _ [103, 2, 10, 11, 12, 13, 14, 15, 16, 17, 18, 19, 20, 21, 22, 23, 24, 25, 26, 27, 104, 105, 106, 7, 107, 108, 85, 86, 87, 88, 89, 90, 91, 109, 110, 111, 112, 113, 114, 115, 116, 117, 135, 136, 137, 138, 139, 140, 141, 142] rfl (by decide +kernel)
set_option maxRecDepth 20000 in
theorem gX6_readPart_X6_readSemicolon : GoodIn wsX6_readPart (wsV RX6 140 RX6 yX6_readSemicolon wsX6_readSemicolon) := goodIn_app (goodIn_of _ (by decide +kernel)) ggX6_readPart_X6_readSemicolon
set_option maxRecDepth 20000 in
theorem ggX6_readBookLine_X9_isName : GoodIn wsX6_readBookLine wsX9_isName := goodIn_r _ [10, 11, 12, 13, 14, 9, 15, 16, 17, 18, 19, 20, 21, 22, 23, 24, 25, 26, 27, 28, 29, 30, 31, 32, 33, 34, 35, 36, 37, 38, 39, 40, 41, 42, 43, 44, 45, 46, 47, 48, 49, 50, 51, 52, 53, 54, 55, 56, 57, 58, 59, 60, 61, 62, 63, 64, 65, 66, 67, 111, 112, 113, 114, 115, 116, 117, 118] rfl (by decide +kernel)
set_option maxRecDepth 20000 in
theorem gX6_readBookLine_X9_isName : GoodIn wsX6_readBookLine (wsV RX6 205 RX9 yX9_isName wsX9_isName) := goodIn_app (goodIn_of _ (by decide +kernel)) ggX6_readBookLine_X9_isName
set_option maxRecDepth 20000 in
theorem ggX6_readBookLine_X6_refuse : GoodIn wsX6_readBookLine wsX6_refuse := goodIn_r _ [72, 73, 1, 74, 75, 102, 103, 104, 105, 106, 107, 108, 109, 110, 111, 112, 113, 114, 115, 116, 117, 118] rfl (by decide +kernel)
set_option maxRecDepth 20000 in
theorem gX6_readBookLine_X6_refuse : GoodIn wsX6_readBookLine (wsV RX6 79 RX6 yX6_refuse wsX6_refuse) := goodIn_app (goodIn_of _ (by decide +kernel)) ggX6_readBookLine_X6_refuse
set_option maxRecDepth 20000 in
theorem ggX6_readBookLine_X10_findDeal : GoodIn wsX6_readBookLine wsX10_findDeal := goodIn_r _ [80, 81, 82, 119, 120, 121, 122, 123, 124, 125, 126, 127, 128, 129, 130, 131, 132, 133, 134, 135] rfl (by decide +kernel)
set_option maxRecDepth 20000 in
theorem gX6_readBookLine_X10_findDeal : GoodIn wsX6_readBookLine (wsV RX6 208 RX10 yX10_findDeal wsX10_findDeal) := goodIn_app (goodIn_of _ (by decide +kernel)) ggX6_readBookLine_X10_findDeal
set_option maxRecDepth 20000 in
theorem ggX6_readBookLine_X9_next : GoodIn wsX6_readBookLine wsX9_next := goodIn_r _ [86, 16, 87, 18, 11, 17, 88, 89, 90, 9, 91, 92, 93, 94, 95, 111, 112, 113, 114, 115, 116, 117, 118] rfl (by decide +kernel)
set_option maxRecDepth 20000 in
theorem gX6_readBookLine_X9_next : GoodIn wsX6_readBookLine (wsV RX6 51 RX9 yX9_next wsX9_next) := goodIn_app (goodIn_of _ (by decide +kernel)) ggX6_readBookLine_X9_next
set_option maxRecDepth 20000 in
theorem ggX6_readBookLine_X9_isWord : GoodIn wsX6_readBookLine wsX9_isWord := goodIn_r _ [15, 11, 16, 17, 18, 19, 20, 21, 22, 23, 24, 25, 26, 27, 28, 29, 30, 31, 32, 33, 34, 35, 36, 37, 38, 39, 40, 41, 42, 43, 44, 45, 46, 47, 48, 49, 50, 51, 52, 53, 54, 55, 56, 57, 58, 59, 60, 61, 62, 63, 64, 65, 66, 67, 111, 112, 113, 114, 115, 116, 117, 118] rfl (by decide +kernel)
set_option maxRecDepth 20000 in
theorem gX6_readBookLine_X9_isWord : GoodIn wsX6_readBookLine (wsV RX6 85 RX9 yX9_isWord wsX9_isWord) := goodIn_app (goodIn_of _ (by decide +kernel)) ggX6_readBookLine_X9_isWord
set_option maxRecDepth 20000 in
theorem ggX6_readBookLine_X6_atSemicolon : GoodIn wsX6_readBookLine wsX6_atSemicolon := goodIn_r _ [100, 1, 101, 68, 69, 70, 71, 72, 73, 74, 75, 102, 103, 104, 105, 106, 107, 108, 109, 110, 111, 112, 113, 114, 115, 116, 117, 118] rfl (by decide +kernel)
set_option maxRecDepth 20000 in
theorem gX6_readBookLine_X6_atSemicolon : GoodIn wsX6_readBookLine (wsV RX6 188 RX6 yX6_atSemicolon wsX6_atSemicolon) := goodIn_app (goodIn_of _ (by decide +kernel)) ggX6_readBookLine_X6_atSemicolon
set_option maxRecDepth 20000 in
theorem ggX6_readSemicolon_X9_next : GoodIn wsX6_readSemicolon wsX9_next := goodIn_r _ [6, 7, 8, 9, 10, 11, 12, 13, 14, 5, 15, 16, 17, 18, 19, 42, 43, 44, 45, 46, 47, 48, 49] rfl (by decide +kernel)
set_option maxRecDepth 20000 in
theorem gX6_readSemicolon_X9_next : GoodIn wsX6_readSemicolon (wsV RX6 51 RX9 yX9_next wsX9_next) := goodIn_app (goodIn_of _ (by decide +kernel)) ggX6_readSemicolon_X9_next
set_option maxRecDepth 20000 in
theorem ggX6_readSemicolon_X6_atSemicolon : GoodIn wsX6_readSemicolon wsX6_atSemicolon := goodIn_r _ [24, 1, 25, 26, 27, 28, 23, 29, 30, 31, 32, 33, 34, 35, 36, 37, 38, 39, 40, 41, 42, 43, 44, 45, 46, 47, 48, 49] rfl (by decide +kernel)
set_option maxRecDepth 20000 in
theorem gX6_readSemicolon_X6_atSemicolon : GoodIn wsX6_readSemicolon (wsV RX6 188 RX6 yX6_atSemicolon wsX6_atSemicolon) := goodIn_app (goodIn_of _ (by decide +kernel)) ggX6_readSemicolon_X6_atSemicolon
set_option maxRecDepth 20000 in
theorem ggX6_atSemicolon_X6_refuse : GoodIn wsX6_atSemicolon wsX6_refuse := goodIn_r _ [7, 8, 1, 9, 10, 11, 12, 13, 14, 15, 16, 17, 18, 19, 20, 21, 22, 23, 24, 25, 26, 27] rfl (by decide +kernel)
set_option maxRecDepth 20000 in
theorem gX6_atSemicolon_X6_refuse : GoodIn wsX6_atSemicolon (wsV RX6 79 RX6 yX6_refuse wsX6_refuse) := goodIn_app (goodIn_of _ (by decide +kernel)) ggX6_atSemicolon_X6_refuse
set_option maxRecDepth 20000 in
theorem ggX6_readNumber_X9_next : GoodIn wsX6_readNumber wsX9_next := goodIn_r _ [8, 9, 10, 11, 12, 13, 14, 15, 16, 7, 17, 18, 19, 20, 21, 39, 40, 41, 42, 43, 44, 45, 46] rfl (by decide +kernel)
set_option maxRecDepth 20000 in
theorem gX6_readNumber_X9_next : GoodIn wsX6_readNumber (wsV RX6 51 RX9 yX9_next wsX9_next) := goodIn_app (goodIn_of _ (by decide +kernel)) ggX6_readNumber_X9_next
set_option maxRecDepth 20000 in
theorem ggX6_readNumber_X6_refuse : GoodIn wsX6_readNumber wsX6_refuse := goodIn_r _ [26, 27, 1, 28, 29, 30, 31, 32, 33, 34, 35, 36, 37, 38, 39, 40, 41, 42, 43, 44, 45, 46] rfl (by decide +kernel)
set_option maxRecDepth 20000 in
theorem gX6_readNumber_X6_refuse : GoodIn wsX6_readNumber (wsV RX6 79 RX6 yX6_refuse wsX6_refuse) := goodIn_app (goodIn_of _ (by decide +kernel)) ggX6_readNumber_X6_refuse
set_option maxRecDepth 20000 in
theorem ggX6_readNewName_X9_next : GoodIn wsX6_readNewName wsX9_next := goodIn_r _ [7, 8, 9, 10, 11, 12, 13, 14, 15, 6, 16, 17, 18, 19, 20, 108, 109, 110, 111, 112, 113, 114, 115] rfl (by decide +kernel)
set_option maxRecDepth 20000 in
theorem gX6_readNewName_X9_next : GoodIn wsX6_readNewName (wsV RX6 51 RX9 yX9_next wsX9_next) := goodIn_app (goodIn_of _ (by decide +kernel)) ggX6_readNewName_X9_next
set_option maxRecDepth 20000 in
theorem ggX6_readNewName_X9_isName : GoodIn wsX6_readNewName wsX9_isName := goodIn_r _ [24, 11, 25, 26, 27, 6, 28, 8, 12, 10, 29, 30, 31, 32, 33, 34, 35, 36, 37, 38, 39, 40, 41, 42, 43, 44, 45, 46, 47, 48, 49, 50, 51, 52, 53, 54, 55, 56, 57, 58, 59, 60, 61, 62, 63, 64, 65, 66, 67, 68, 69, 70, 71, 72, 73, 74, 75, 76, 77, 108, 109, 110, 111, 112, 113, 114, 115] rfl (by decide +kernel)
set_option maxRecDepth 20000 in
theorem gX6_readNewName_X9_isName : GoodIn wsX6_readNewName (wsV RX6 205 RX9 yX9_isName wsX9_isName) := goodIn_app (goodIn_of _ (by decide +kernel)) ggX6_readNewName_X9_isName
set_option maxRecDepth 20000 in
theorem ggX6_readNewName_X6_refuse : GoodIn wsX6_readNewName wsX6_refuse := goodIn_r _ [82, 83, 1, 84, 85, 99, 100, 101, 102, 103, 104, 105, 106, 107, 108, 109, 110, 111, 112, 113, 114, 115] rfl (by decide +kernel)
set_option maxRecDepth 20000 in
theorem gX6_readNewName_X6_refuse : GoodIn wsX6_readNewName (wsV RX6 79 RX6 yX6_refuse wsX6_refuse) := goodIn_app (goodIn_of _ (by decide +kernel)) ggX6_readNewName_X6_refuse
set_option maxRecDepth 20000 in
theorem ggX6_readNewName_X10_findPerson : GoodIn wsX6_readNewName wsX10_findPerson := goodIn_r _ [90, 91, 92, 116, 117, 118, 119, 120, 121, 122, 123, 124, 125, 126, 127, 128, 129, 130, 131, 132] rfl (by decide +kernel)
set_option maxRecDepth 20000 in
theorem gX6_readNewName_X10_findPerson : GoodIn wsX6_readNewName (wsV RX6 214 RX10 yX10_findPerson wsX10_findPerson) := goodIn_app (goodIn_of _ (by decide +kernel)) ggX6_readNewName_X10_findPerson
set_option maxRecDepth 20000 in
theorem ggX6_readNewName_X10_findDeal : GoodIn wsX6_readNewName wsX10_findDeal := goodIn_r _ [96, 97, 98, 116, 117, 118, 119, 120, 121, 122, 123, 124, 125, 126, 127, 128, 129, 130, 131, 132] rfl (by decide +kernel)
set_option maxRecDepth 20000 in
theorem gX6_readNewName_X10_findDeal : GoodIn wsX6_readNewName (wsV RX6 208 RX10 yX10_findDeal wsX10_findDeal) := goodIn_app (goodIn_of _ (by decide +kernel)) ggX6_readNewName_X10_findDeal
set_option maxRecDepth 20000 in
theorem ggX6_readKnownPerson_X9_next : GoodIn wsX6_readKnownPerson wsX9_next := goodIn_r _ [7, 8, 9, 10, 11, 12, 13, 14, 15, 6, 16, 17, 18, 19, 20, 102, 103, 104, 105, 106, 107, 108, 109] rfl (by decide +kernel)
set_option maxRecDepth 20000 in
theorem gX6_readKnownPerson_X9_next : GoodIn wsX6_readKnownPerson (wsV RX6 51 RX9 yX9_next wsX9_next) := goodIn_app (goodIn_of _ (by decide +kernel)) ggX6_readKnownPerson_X9_next
set_option maxRecDepth 20000 in
theorem ggX6_readKnownPerson_X9_isName : GoodIn wsX6_readKnownPerson wsX9_isName := goodIn_r _ [24, 11, 25, 26, 27, 6, 28, 8, 12, 10, 29, 30, 31, 32, 33, 34, 35, 36, 37, 38, 39, 40, 41, 42, 43, 44, 45, 46, 47, 48, 49, 50, 51, 52, 53, 54, 55, 56, 57, 58, 59, 60, 61, 62, 63, 64, 65, 66, 67, 68, 69, 70, 71, 72, 73, 74, 75, 76, 77, 102, 103, 104, 105, 106, 107, 108, 109] rfl (by decide +kernel)
set_option maxRecDepth 20000 in
theorem gX6_readKnownPerson_X9_isName : GoodIn wsX6_readKnownPerson (wsV RX6 205 RX9 yX9_isName wsX9_isName) := goodIn_app (goodIn_of _ (by decide +kernel)) ggX6_readKnownPerson_X9_isName
set_option maxRecDepth 20000 in
theorem ggX6_readKnownPerson_X6_refuse : GoodIn wsX6_readKnownPerson wsX6_refuse := goodIn_r _ [82, 83, 1, 84, 85, 93, 94, 95, 96, 97, 98, 99, 100, 101, 102, 103, 104, 105, 106, 107, 108, 109] rfl (by decide +kernel)
set_option maxRecDepth 20000 in
theorem gX6_readKnownPerson_X6_refuse : GoodIn wsX6_readKnownPerson (wsV RX6 79 RX6 yX6_refuse wsX6_refuse) := goodIn_app (goodIn_of _ (by decide +kernel)) ggX6_readKnownPerson_X6_refuse
set_option maxRecDepth 20000 in
theorem ggX6_readKnownPerson_X10_findPerson : GoodIn wsX6_readKnownPerson wsX10_findPerson := goodIn_r _ [90, 91, 92, 110, 111, 112, 113, 114, 115, 116, 117, 118, 119, 120, 121, 122, 123, 124, 125, 126] rfl (by decide +kernel)
set_option maxRecDepth 20000 in
theorem gX6_readKnownPerson_X10_findPerson : GoodIn wsX6_readKnownPerson (wsV RX6 214 RX10 yX10_findPerson wsX10_findPerson) := goodIn_app (goodIn_of _ (by decide +kernel)) ggX6_readKnownPerson_X10_findPerson
set_option maxRecDepth 20000 in
theorem ggX7_follow_J7_fill_53178 : GoodIn wsX7_follow wsJ7_fill_53178 := goodIn_r _ [8] rfl (by decide +kernel)
set_option maxRecDepth 20000 in
theorem gX7_follow_J7_fill_53178 : GoodIn wsX7_follow (va_wsS RX7 26 yJ7_fill_53178 wsJ7_fill_53178) := goodIn_app (goodIn_of _ (by decide +kernel)) ggX7_follow_J7_fill_53178
set_option maxRecDepth 20000 in
theorem ggX7_follow_X7_behindOne : GoodIn wsX7_follow wsX7_behindOne := goodIn_r _ [12, 13, 14, 15, 16, 17, 18, 19, 20, 21, 22, 23, 24, 25, 26, 27, 28, 29, 30, 31, 32, 33, 34, 35, 36, 37, 38, 39, 40, 45, 46, 47, 48, 49, 50, 51, 52, 53, 54, 55, 56, 57, 58, 59, 60, 61] rfl (by decide +kernel)
set_option maxRecDepth 20000 in
theorem gX7_follow_X7_behindOne : GoodIn wsX7_follow (va_wsS RX7 32 yX7_behindOne wsX7_behindOne) := goodIn_app (goodIn_of _ (by decide +kernel)) ggX7_follow_X7_behindOne
set_option maxRecDepth 20000 in
theorem ggX7_behindOne_X10_hasMoreByChange : GoodIn wsX7_behindOne wsX10_hasMoreByChange := goodIn_r _ [6, 7, 8, 9, 5, 10, 11, 12, 13, 14, 15, 16, 17, 18, 19, 20, 21, 22, 23, 24, 25, 26, 27, 28, 29, 30, 31, 32, 33, 34, 35, 36, 37, 38, 39, 40, 41, 42, 43, 44, 45] rfl (by decide +kernel)
set_option maxRecDepth 20000 in
theorem gX7_behindOne_X10_hasMoreByChange : GoodIn wsX7_behindOne (wsV RX7 41 RX10 yX10_hasMoreByChange wsX10_hasMoreByChange) := goodIn_app (goodIn_of _ (by decide +kernel)) ggX7_behindOne_X10_hasMoreByChange
set_option maxRecDepth 20000 in
theorem ggX8_init_X10_init : GoodIn wsX8_init wsX10_init := goodIn_r _ [14, 15, 2, 3, 16, 17, 18, 19, 20, 21, 22, 23, 24, 25, 26, 27, 28, 29, 30, 31, 32, 33, 34, 35, 36, 37, 38, 39, 40, 41, 42, 43, 44, 45, 46, 47, 48, 49, 50, 58, 59, 60, 61, 62, 63, 64, 65, 66, 67, 68, 69, 70, 71, 72, 73, 74, 82, 83, 84, 85, 86] rfl (by decide +kernel)
set_option maxRecDepth 20000 in
theorem gX8_init_X10_init_n9 : GoodIn wsX8_init (wsX10_init) := ggX8_init_X10_init
set_option maxRecDepth 20000 in
theorem ggX8_init_X0_init : GoodIn wsX8_init wsX0_init := goodIn_r _ [52, 53, 2, 3, 22, 54, 55, 56, 57, 78, 79, 80, 81] rfl (by decide +kernel)
set_option maxRecDepth 20000 in
theorem gX8_init_X0_init_n18 : GoodIn wsX8_init (wsX0_init) := ggX8_init_X0_init
set_option maxRecDepth 20000 in
theorem ggX8_copyFrom_X10_copyFrom : GoodIn wsX8_copyFrom wsX10_copyFrom := goodIn_r _ [7, 8, 9, 10, 11, 12, 13, 14, 15, 16, 17, 18, 19, 20, 21, 22, 23, 24, 25, 26, 27, 28, 29, 30, 31, 32, 33, 34, 35, 36, 37, 38, 39, 53, 54, 55, 56, 57, 58, 59, 60, 61, 62, 63, 64, 65, 66, 67, 68, 69, 70, 71, 72, 73, 74] rfl (by decide +kernel)
set_option maxRecDepth 20000 in
theorem gX8_copyFrom_X10_copyFrom : GoodIn wsX8_copyFrom (wsV RX8 27 RX10 yX10_copyFrom wsX10_copyFrom) := goodIn_app (goodIn_of _ (by decide +kernel)) ggX8_copyFrom_X10_copyFrom
set_option maxRecDepth 20000 in
theorem ggX8_copyFrom_X0_copyFrom : GoodIn wsX8_copyFrom wsX0_copyFrom := goodIn_r _ [44, 45, 46, 14, 15, 16, 47, 48, 49, 75, 76, 77, 78] rfl (by decide +kernel)
set_option maxRecDepth 20000 in
theorem gX8_copyFrom_X0_copyFrom : GoodIn wsX8_copyFrom (wsV RX8 31 RX0 yX0_copyFrom wsX0_copyFrom) := goodIn_app (goodIn_of _ (by decide +kernel)) ggX8_copyFrom_X0_copyFrom
set_option maxRecDepth 20000 in
theorem ggX9_next_X9_readWordOrNumber : GoodIn wsX9_next wsX9_readWordOrNumber := goodIn_r _ [10, 11, 12, 1, 13, 3, 14, 4, 15, 16, 17, 18, 19, 20, 21, 22] rfl (by decide +kernel)
set_option maxRecDepth 20000 in
theorem gX9_next_X9_readWordOrNumber : GoodIn wsX9_next (wsV RX9 42 RX9 yX9_readWordOrNumber wsX9_readWordOrNumber) := goodIn_app (goodIn_of _ (by decide +kernel)) ggX9_next_X9_readWordOrNumber
set_option maxRecDepth 20000 in
theorem ggX9_isWord_J0_length_8abf5 : GoodIn wsX9_isWord wsJ0_length_8abf5 := goodIn_r _ [9, 10, 11, 12, 13, 8, 14, 15, 16] rfl (by decide +kernel)
set_option maxRecDepth 20000 in
theorem gX9_isWord_J0_length_8abf5 : GoodIn wsX9_isWord (wsV RX9 47 RJ0 yJ0_length_8abf5 wsJ0_length_8abf5) := goodIn_app (goodIn_of _ (by decide +kernel)) ggX9_isWord_J0_length_8abf5
set_option maxRecDepth 20000 in
theorem ggX9_isWord_J0_charAt_5068e : GoodIn wsX9_isWord wsJ0_charAt_5068e := goodIn_r _ [20, 10, 21, 22, 23, 8, 24, 15, 16, 25, 26, 27, 28, 29, 30, 31, 32, 33, 34, 35, 36, 37, 38, 39, 40, 41, 42, 43, 44, 45, 46, 47, 48, 49, 50, 51, 52, 53] rfl (by decide +kernel)
set_option maxRecDepth 20000 in
theorem gX9_isWord_J0_charAt_5068e : GoodIn wsX9_isWord (wsV RX9 53 RJ0 yJ0_charAt_5068e wsJ0_charAt_5068e) := goodIn_app (goodIn_of _ (by decide +kernel)) ggX9_isWord_J0_charAt_5068e
set_option maxRecDepth 20000 in
theorem ggX9_isName_X9_isWord : GoodIn wsX9_isName wsX9_isWord := goodIn_r _ [6, 1, 7, 8, 9, 10, 11, 12, 13, 14, 15, 16, 17, 18, 19, 20, 21, 22, 23, 24, 25, 26, 27, 28, 29, 30, 31, 32, 33, 34, 35, 36, 37, 38, 39, 40, 41, 42, 43, 44, 45, 46, 47, 48, 49, 50, 51, 52, 53, 54, 55, 56, 57, 58, 59, 60, 61, 62, 63, 64, 65, 66] rfl (by decide +kernel)
set_option maxRecDepth 20000 in
theorem gX9_isName_X9_isWord : GoodIn wsX9_isName (wsV RX9 59 RX9 yX9_isWord wsX9_isWord) := goodIn_app (goodIn_of _ (by decide +kernel)) ggX9_isName_X9_isWord
set_option maxRecDepth 20000 in
theorem ggX10_init_X5_init : GoodIn wsX10_init wsX5_init := goodIn_r _ [28, 29, 2, 3, 10, 30, 31, 32, 33, 34, 35, 36, 37, 38, 56, 57, 58, 59, 60] rfl (by decide +kernel)
set_option maxRecDepth 20000 in
theorem gX10_init_X5_init : GoodIn wsX10_init (wsX5_init) := ggX10_init_X5_init
set_option maxRecDepth 20000 in
theorem ggX10_clear_X5_forget : GoodIn wsX10_clear wsX5_forget := goodIn_r _ [10, 11, 12, 13, 14, 15, 16, 17, 35, 36, 37, 38, 39] rfl (by decide +kernel)
set_option maxRecDepth 20000 in
theorem gX10_clear_X5_forget : GoodIn wsX10_clear (wsV RX10 69 RX5 yX5_forget wsX5_forget) := goodIn_app (goodIn_of _ (by decide +kernel)) ggX10_clear_X5_forget
set_option maxRecDepth 20000 in
theorem ggX10_copyFrom_X5_copyFrom : GoodIn wsX10_copyFrom wsX5_copyFrom := goodIn_r _ [26, 27, 28, 7, 8, 9, 29, 30, 31, 32, 50, 51, 52, 53, 54] rfl (by decide +kernel)
set_option maxRecDepth 20000 in
theorem gX10_copyFrom_X5_copyFrom : GoodIn wsX10_copyFrom (wsV RX10 78 RX5 yX5_copyFrom wsX5_copyFrom) := goodIn_app (goodIn_of _ (by decide +kernel)) ggX10_copyFrom_X5_copyFrom
set_option maxRecDepth 20000 in
theorem ggX10_hasParts_X10_partsCount : GoodIn wsX10_hasParts wsX10_partsCount := goodIn_r _ [5, 6, 7, 8, 9, 10, 11, 12, 13, 14, 15, 16, 17, 18, 19, 20, 21, 22, 23] rfl (by decide +kernel)
set_option maxRecDepth 20000 in
theorem gX10_hasParts_X10_partsCount : GoodIn wsX10_hasParts (wsV RX10 82 RX10 yX10_partsCount wsX10_partsCount) := goodIn_app (goodIn_of _ (by decide +kernel)) ggX10_hasParts_X10_partsCount
set_option maxRecDepth 20000 in
theorem ggX10_ownOf_X10_isIn : GoodIn wsX10_ownOf wsX10_isIn := goodIn_r _ [6, 7, 8, 20, 21, 22, 23, 24, 25, 26, 27, 28, 29, 30, 31, 32, 33, 34, 35, 36] rfl (by decide +kernel)
set_option maxRecDepth 20000 in
theorem gX10_ownOf_X10_isIn : GoodIn wsX10_ownOf (wsV RX10 86 RX10 yX10_isIn wsX10_isIn) := goodIn_app (goodIn_of _ (by decide +kernel)) ggX10_ownOf_X10_isIn
set_option maxRecDepth 20000 in
theorem ggX10_ownOf_X10_goesBy : GoodIn wsX10_ownOf wsX10_goesBy := goodIn_r _ [12, 7, 8, 13, 20, 21, 22, 23, 24, 25, 26, 27, 28, 29, 30, 31, 32, 33, 34, 35, 36] rfl (by decide +kernel)
set_option maxRecDepth 20000 in
theorem gX10_ownOf_X10_goesBy : GoodIn wsX10_ownOf (wsV RX10 90 RX10 yX10_goesBy wsX10_goesBy) := goodIn_app (goodIn_of _ (by decide +kernel)) ggX10_ownOf_X10_goesBy
set_option maxRecDepth 20000 in
theorem ggX10_ownOf_X10_shareOf : GoodIn wsX10_ownOf wsX10_shareOf := goodIn_r _ [17, 7, 18, 8, 19, 20, 21, 22, 23, 24, 25, 26, 27, 28, 29, 30, 31, 32, 33, 34, 35, 36] rfl (by decide +kernel)
set_option maxRecDepth 20000 in
theorem gX10_ownOf_X10_shareOf : GoodIn wsX10_ownOf (wsV RX10 93 RX10 yX10_shareOf wsX10_shareOf) := goodIn_app (goodIn_of _ (by decide +kernel)) ggX10_ownOf_X10_shareOf
set_option maxRecDepth 20000 in
theorem ggX10_hasMoreByChange_X10_ownOf : GoodIn wsX10_hasMoreByChange wsX10_ownOf := goodIn_r _ [5, 6, 7, 8, 9, 4, 10, 11, 12, 13, 14, 15, 16, 17, 18, 19, 20, 21, 22, 23, 24, 25, 26, 27, 28, 29, 30, 31, 32, 33, 34, 35, 36, 37, 38, 39, 40] rfl (by decide +kernel)
set_option maxRecDepth 20000 in
theorem gX10_hasMoreByChange_X10_ownOf : GoodIn wsX10_hasMoreByChange (wsV RX10 97 RX10 yX10_ownOf wsX10_ownOf) := goodIn_app (goodIn_of _ (by decide +kernel)) ggX10_hasMoreByChange_X10_ownOf
set_option maxRecDepth 20000 in
theorem ggX10_isAtRest_X10_hasMoreByChange : GoodIn wsX10_isAtRest wsX10_hasMoreByChange := goodIn_r _ [6, 7, 8, 9, 5, 10, 11, 12, 13, 14, 15, 16, 17, 18, 19, 20, 21, 22, 23, 24, 25, 26, 27, 28, 29, 30, 31, 32, 33, 34, 35, 36, 37, 38, 39, 40, 41, 42, 43, 44, 45] rfl (by decide +kernel)
set_option maxRecDepth 20000 in
theorem gX10_isAtRest_X10_hasMoreByChange : GoodIn wsX10_isAtRest (wsV RX10 100 RX10 yX10_hasMoreByChange wsX10_hasMoreByChange) := goodIn_app (goodIn_of _ (by decide +kernel)) ggX10_isAtRest_X10_hasMoreByChange
set_option maxRecDepth 20000 in
theorem ggX11_init_X9_init : GoodIn wsX11_init wsX9_init := goodIn_r _ [46, 47, 2, 3, 48, 49, 50, 51, 52, 53, 54, 55, 56, 172, 173, 174, 175, 176, 177, 178, 179] rfl (by decide +kernel)
set_option maxRecDepth 20000 in
theorem gX11_init_X9_init_n11 : GoodIn wsX11_init (wsX9_init) := ggX11_init_X9_init
set_option maxRecDepth 20000 in
theorem ggX11_init_X6_init : GoodIn wsX11_init wsX6_init := goodIn_r _ [59, 60, 2, 3, 61, 62, 63, 64, 65, 66, 67, 68, 69, 70, 194, 195, 196, 197, 198, 199, 200, 201, 202] rfl (by decide +kernel)
set_option maxRecDepth 20000 in
theorem gX11_init_X6_init : GoodIn wsX11_init (wsX6_init) := ggX11_init_X6_init
set_option maxRecDepth 20000 in
theorem ggX11_init_X2_init : GoodIn wsX11_init wsX2_init := goodIn_r _ [72, 73, 2, 3, 61, 74, 75, 76, 77, 78, 79, 80, 81, 82, 203, 204, 205, 206, 207, 208, 209, 210, 211] rfl (by decide +kernel)
set_option maxRecDepth 20000 in
theorem gX11_init_X2_init_n27 : GoodIn wsX11_init (wsX2_init) := ggX11_init_X2_init
set_option maxRecDepth 20000 in
theorem ggX11_init_X7_init : GoodIn wsX11_init wsX7_init := goodIn_r _ [84, 85, 2, 3, 61, 86, 87, 88, 89, 212, 213, 214, 215] rfl (by decide +kernel)
set_option maxRecDepth 20000 in
theorem gX11_init_X7_init_n34 : GoodIn wsX11_init (wsX7_init) := ggX11_init_X7_init
set_option maxRecDepth 20000 in
theorem ggX11_init_X1_init : GoodIn wsX11_init wsX1_init := goodIn_r _ [91, 92, 2, 3, 61, 93, 94, 95, 96, 97, 98, 216, 217, 218, 219, 220, 221] rfl (by decide +kernel)
set_option maxRecDepth 20000 in
theorem gX11_init_X1_init_n41 : GoodIn wsX11_init (wsX1_init) := ggX11_init_X1_init
set_option maxRecDepth 20000 in
theorem ggX11_init_X3_init : GoodIn wsX11_init wsX3_init := goodIn_r _ [100, 101, 2, 3, 61, 102, 103, 104, 105, 106, 107, 108, 109, 110, 111, 112, 113, 114, 115, 116, 222, 223, 224, 225, 226, 254, 255, 256, 257] rfl (by decide +kernel)
set_option maxRecDepth 20000 in
theorem gX11_init_X3_init_n48 : GoodIn wsX11_init (wsX3_init) := ggX11_init_X3_init
set_option maxRecDepth 20000 in
theorem ggX11_init_X4_init : GoodIn wsX11_init wsX4_init := goodIn_r _ [118, 119, 2, 3, 120, 61, 121, 122, 123, 124, 125, 126, 227, 228, 229, 230, 231, 232, 233] rfl (by decide +kernel)
set_option maxRecDepth 20000 in
theorem gX11_init_X4_init_n55 : GoodIn wsX11_init (wsX4_init) := ggX11_init_X4_init
set_option maxRecDepth 20000 in
theorem ggX11_init_X8_init : GoodIn wsX11_init wsX8_init := goodIn_r _ [128, 129, 2, 3, 130, 39, 40, 131, 132, 105, 106, 133, 134, 135, 136, 137, 138, 139, 140, 141, 142, 143, 61, 144, 145, 146, 147, 148, 149, 150, 151, 152, 153, 154, 155, 156, 157, 158, 159, 160, 161, 162, 163, 164, 165, 166, 167, 168, 169, 170, 171, 110, 111, 112, 113, 114, 115, 116, 237, 238, 239, 240, 241, 242, 243, 244, 245, 246, 247, 248, 249, 250, 251, 252, 253, 234, 235, 236, 254, 255, 256, 257, 258, 259, 260, 261, 262] rfl (by decide +kernel)
set_option maxRecDepth 20000 in
theorem gX11_init_X8_init_n62 : GoodIn wsX11_init (wsX8_init) := ggX11_init_X8_init
set_option maxRecDepth 20000 in
theorem ggX11_init_X10_init : GoodIn wsX11_init wsX10_init := goodIn_r _ [136, 137, 2, 3, 138, 139, 140, 141, 142, 143, 61, 144, 145, 146, 147, 148, 149, 150, 151, 152, 153, 154, 155, 156, 157, 158, 159, 160, 161, 162, 163, 164, 165, 166, 167, 168, 169, 170, 171, 237, 238, 239, 240, 241, 242, 243, 244, 245, 246, 247, 248, 249, 250, 251, 252, 253, 258, 259, 260, 261, 262] rfl (by decide +kernel)
set_option maxRecDepth 20000 in
theorem gX11_init_X10_init_n75 : GoodIn wsX11_init (wsX10_init) := ggX11_init_X10_init
set_option maxRecDepth 20000 in
theorem ggX11_feed_X9_hasRoomFor : GoodIn wsX11_feed wsX9_hasRoomFor := goodIn_r _ [7, 8, 28, 29, 30, 31, 32, 33, 34, 35] rfl (by decide +kernel)
set_option maxRecDepth 20000 in
theorem gX11_feed_X9_hasRoomFor : GoodIn wsX11_feed (wsV RX11 90 RX9 yX9_hasRoomFor wsX9_hasRoomFor) := goodIn_app (goodIn_of _ (by decide +kernel)) ggX11_feed_X9_hasRoomFor
set_option maxRecDepth 20000 in
theorem ggX11_feed_X9_addNumber : GoodIn wsX11_feed wsX9_addNumber := goodIn_r _ [12, 8, 13, 28, 29, 30, 31, 32, 33, 34, 35] rfl (by decide +kernel)
set_option maxRecDepth 20000 in
theorem gX11_feed_X9_addNumber : GoodIn wsX11_feed (wsV RX11 94 RX9 yX9_addNumber wsX9_addNumber) := goodIn_app (goodIn_of _ (by decide +kernel)) ggX11_feed_X9_addNumber
set_option maxRecDepth 20000 in
theorem ggX11_end_X9_cut : GoodIn wsX11_end wsX9_cut := goodIn_r _ [7, 8, 23, 24, 25, 26, 27, 28, 29, 30] rfl (by decide +kernel)
set_option maxRecDepth 20000 in
theorem gX11_end_X9_cut : GoodIn wsX11_end (wsV RX11 101 RX9 yX9_cut wsX9_cut) := goodIn_app (goodIn_of _ (by decide +kernel)) ggX11_end_X9_cut
set_option maxRecDepth 20000 in
theorem ggX11_town_X6_readTown : GoodIn wsX11_town wsX6_readTown := goodIn_r _ [13, 14, 15, 16, 17, 18, 19, 20, 21, 22, 23, 24, 25, 26, 27, 28, 29, 30, 31, 32, 33, 34, 35, 36, 37, 38, 39, 40, 41, 42, 43, 44, 12, 45, 46, 47, 48, 49, 50, 51, 52, 53, 54, 55, 56, 57, 58, 59, 60, 61, 62, 63, 64, 65, 66, 67, 68, 69, 70, 71, 72, 73, 74, 75, 76, 77, 78, 79, 80, 81, 82, 83, 84, 85, 86, 87, 88, 89, 90, 91, 92, 93, 94, 95, 96, 97, 98, 99, 100, 101, 102, 103, 104, 105, 106, 107, 108, 109, 110, 111, 112, 113, 114, 115, 116, 117, 118, 119, 120, 121, 122, 123, 124, 125, 126, 127, 128, 129, 130, 131, 132, 133, 134, 135, 136, 137, 138, 139, 140, 141, 142, 143, 144, 145, 146, 147, 148, 149, 150, 151, 152, 153, 154, 155, 156, 157, 158, 159, 160, 161, 162, 163, 164, 165, 166, 167, 168, 169, 170, 171, 172, 173, 174, 175, 176, 177, 178, 179, 180, 181, 182, 183, 184, 185, 186, 187, 188, 189, 190, 191, 192, 193, 194, 195, 196, 197, 198, 199, 200, 201, 202, 203, 204, 205, 206, 207, 208, 209, 210, 211, 212, 213, 214, 215, 216, 217, 218, 219, 220, 221, 222, 223, 224, 225, 226, 227, 228, 229, 230, 231, 232, 257, 258, 259, 260, 261, 262, 263, 264, 265, 269, 270, 271, 272, 273, 274, 275, 276, 277, 278, 279, 280, 281, 282, 283, 284, 285, 286, 287, 288, 289, 290, 291, 292, 293, 294, 295, 296, 297, 298] rfl (by decide +kernel)
set_option maxRecDepth 20000 in
theorem gX11_town_X6_readTown : GoodIn wsX11_town (wsV RX11 104 RX6 yX6_readTown wsX6_readTown) := goodIn_app (goodIn_of _ (by decide +kernel)) ggX11_town_X6_readTown
set_option maxRecDepth 20000 in
theorem ggX11_town_X9_cut : GoodIn wsX11_town wsX9_cut := goodIn_r _ [236, 54, 269, 270, 271, 272, 273, 274, 275, 276] rfl (by decide +kernel)
set_option maxRecDepth 20000 in
theorem gX11_town_X9_cut : GoodIn wsX11_town (wsV RX11 101 RX9 yX9_cut wsX9_cut) := goodIn_app (goodIn_of _ (by decide +kernel)) ggX11_town_X9_cut
set_option maxRecDepth 20000 in
theorem ggX11_town_X0_clear : GoodIn wsX11_town wsX0_clear := goodIn_r _ [241, 242, 299, 300, 301, 302] rfl (by decide +kernel)
set_option maxRecDepth 20000 in
theorem gX11_town_X0_clear : GoodIn wsX11_town (wsV RX11 118 RX0 yX0_clear wsX0_clear) := goodIn_app (goodIn_of _ (by decide +kernel)) ggX11_town_X0_clear
set_option maxRecDepth 20000 in
theorem ggX11_person_X10_hasPerson : GoodIn wsX11_person wsX10_hasPerson := goodIn_r _ [13, 14, 32, 33, 34, 35, 36, 37, 38, 39, 40, 41, 42, 43, 44, 45, 46, 47, 48] rfl (by decide +kernel)
set_option maxRecDepth 20000 in
theorem gX11_person_X10_hasPerson : GoodIn wsX11_person (wsV RX11 129 RX10 yX10_hasPerson wsX10_hasPerson) := goodIn_app (goodIn_of _ (by decide +kernel)) ggX11_person_X10_hasPerson
set_option maxRecDepth 20000 in
theorem ggX11_deal_X10_hasDeal : GoodIn wsX11_deal wsX10_hasDeal := goodIn_r _ [16, 17, 43, 44, 45, 46, 47, 48, 49, 50, 51, 52, 53, 54, 55, 56, 57, 58, 59] rfl (by decide +kernel)
set_option maxRecDepth 20000 in
theorem gX11_deal_X10_hasDeal : GoodIn wsX11_deal (wsV RX11 152 RX10 yX10_hasDeal wsX10_hasDeal) := goodIn_app (goodIn_of _ (by decide +kernel)) ggX11_deal_X10_hasDeal
set_option maxRecDepth 20000 in
theorem ggX11_deal_X0_wayDone : GoodIn wsX11_deal wsX0_wayDone := goodIn_r _ [22, 23, 24, 25, 60, 61, 62, 63] rfl (by decide +kernel)
set_option maxRecDepth 20000 in
theorem gX11_deal_X0_wayDone : GoodIn wsX11_deal (wsV RX11 175 RX0 yX0_wayDone wsX0_wayDone) := goodIn_app (goodIn_of _ (by decide +kernel)) ggX11_deal_X0_wayDone
set_option maxRecDepth 20000 in
theorem ggX11_does_X10_hasDeal : GoodIn wsX11_does wsX10_hasDeal := goodIn_r _ [8, 9, 68, 69, 70, 71, 72, 73, 74, 75, 76, 77, 78, 79, 80, 81, 82, 83, 84] rfl (by decide +kernel)
set_option maxRecDepth 20000 in
theorem gX11_does_X10_hasDeal : GoodIn wsX11_does (wsV RX11 152 RX10 yX10_hasDeal wsX10_hasDeal) := goodIn_app (goodIn_of _ (by decide +kernel)) ggX11_does_X10_hasDeal
set_option maxRecDepth 20000 in
theorem ggX11_does_X0_tryDeal : GoodIn wsX11_does wsX0_tryDeal := goodIn_r _ [14, 15, 16, 17, 18, 19, 20, 21, 22, 23, 24, 13, 25, 26, 27, 28, 29, 30, 31, 32, 33, 7, 34, 35, 36, 37, 38, 39, 40, 41, 42, 43, 44, 45, 46, 47, 48, 49, 50, 85, 86, 87, 88, 68, 69, 70, 71, 72, 73, 74, 75, 76, 77, 78, 79, 80, 81, 82, 83, 84] rfl (by decide +kernel)
set_option maxRecDepth 20000 in
theorem gX11_does_X0_tryDeal : GoodIn wsX11_does (wsV RX11 179 RX0 yX0_tryDeal wsX0_tryDeal) := goodIn_app (goodIn_of _ (by decide +kernel)) ggX11_does_X0_tryDeal
set_option maxRecDepth 20000 in
theorem ggX11_undo_X0_dropLast : GoodIn wsX11_undo wsX0_dropLast := goodIn_r _ [8, 9, 27, 28, 29, 30] rfl (by decide +kernel)
set_option maxRecDepth 20000 in
theorem gX11_undo_X0_dropLast : GoodIn wsX11_undo (wsV RX11 184 RX0 yX0_dropLast wsX0_dropLast) := goodIn_app (goodIn_of _ (by decide +kernel)) ggX11_undo_X0_dropLast
set_option maxRecDepth 20000 in
theorem ggX11_book_X6_readBook : GoodIn wsX11_book wsX6_readBook := goodIn_r _ [15, 16, 17, 18, 19, 20, 21, 14, 22, 23, 24, 25, 26, 27, 28, 29, 30, 31, 32, 33, 34, 35, 36, 37, 38, 39, 40, 41, 42, 43, 44, 45, 46, 47, 48, 49, 50, 51, 52, 53, 54, 55, 56, 57, 58, 59, 60, 61, 62, 63, 64, 65, 66, 67, 68, 69, 70, 71, 72, 73, 74, 75, 76, 77, 78, 79, 80, 81, 82, 83, 84, 85, 86, 87, 88, 89, 90, 91, 92, 93, 94, 95, 96, 97, 98, 99, 100, 101, 102, 103, 104, 105, 106, 107, 108, 109, 110, 111, 112, 113, 114, 115, 116, 117, 118, 119, 120, 121, 122, 123, 124, 125, 126, 127, 128, 129, 130, 131, 132, 133, 134, 135, 136, 203, 204, 205, 206, 207, 208, 209, 210, 211, 212, 213, 214, 215, 216, 217, 218, 219, 220, 221, 222, 223, 224, 225, 226, 227, 228, 229, 230, 231, 232, 233, 234, 235, 236] rfl (by decide +kernel)
set_option maxRecDepth 20000 in
theorem gX11_book_X6_readBook : GoodIn wsX11_book (wsV RX11 187 RX6 yX6_readBook wsX6_readBook) := goodIn_app (goodIn_of _ (by decide +kernel)) ggX11_book_X6_readBook
set_option maxRecDepth 20000 in
theorem ggX11_book_X9_cut : GoodIn wsX11_book wsX9_cut := goodIn_r _ [140, 31, 212, 213, 214, 215, 216, 217, 218, 219] rfl (by decide +kernel)
set_option maxRecDepth 20000 in
theorem gX11_book_X9_cut : GoodIn wsX11_book (wsV RX11 101 RX9 yX9_cut wsX9_cut) := goodIn_app (goodIn_of _ (by decide +kernel)) ggX11_book_X9_cut
set_option maxRecDepth 20000 in
theorem ggX11_book_X0_clear : GoodIn wsX11_book wsX0_clear := goodIn_r _ [145, 146, 237, 238, 239, 240] rfl (by decide +kernel)
set_option maxRecDepth 20000 in
theorem gX11_book_X0_clear : GoodIn wsX11_book (wsV RX11 118 RX0 yX0_clear wsX0_clear) := goodIn_app (goodIn_of _ (by decide +kernel)) ggX11_book_X0_clear
set_option maxRecDepth 20000 in
theorem ggX11_book_X0_tryDeal : GoodIn wsX11_book wsX0_tryDeal := goodIn_r _ [150, 146, 151, 152, 153, 154, 155, 156, 157, 158, 159, 144, 160, 161, 162, 163, 164, 165, 166, 167, 168, 128, 169, 170, 171, 172, 173, 174, 175, 176, 177, 178, 179, 180, 181, 182, 183, 184, 185, 237, 238, 239, 240, 220, 221, 222, 223, 224, 225, 226, 227, 228, 229, 230, 231, 232, 233, 234, 235, 236] rfl (by decide +kernel)
set_option maxRecDepth 20000 in
theorem gX11_book_X0_tryDeal : GoodIn wsX11_book (wsV RX11 179 RX0 yX0_tryDeal wsX0_tryDeal) := goodIn_app (goodIn_of _ (by decide +kernel)) ggX11_book_X0_tryDeal
set_option maxRecDepth 20000 in
theorem ggX11_is_X10_hasPerson : GoodIn wsX11_is wsX10_hasPerson := goodIn_r _ [8, 9, 44, 45, 46, 47, 48, 49, 50, 51, 52, 53, 54, 55, 56, 57, 58, 59, 60] rfl (by decide +kernel)
set_option maxRecDepth 20000 in
theorem gX11_is_X10_hasPerson : GoodIn wsX11_is (wsV RX11 129 RX10 yX10_hasPerson wsX10_hasPerson) := goodIn_app (goodIn_of _ (by decide +kernel)) ggX11_is_X10_hasPerson
set_option maxRecDepth 20000 in
theorem ggX11_is_X11_isYear : GoodIn wsX11_is wsX11_isYear := goodIn_r _ [13] rfl (by decide +kernel)
set_option maxRecDepth 20000 in
theorem gX11_is_X11_isYear : GoodIn wsX11_is (va_wsS RX11 196 yX11_isYear wsX11_isYear) := goodIn_app (goodIn_of _ (by decide +kernel)) ggX11_is_X11_isYear
set_option maxRecDepth 20000 in
theorem ggX11_is_X0_whatIs : GoodIn wsX11_is wsX0_whatIs := goodIn_r _ [18, 19, 20, 21, 22, 23, 24, 25, 26, 61, 62, 63, 64, 44, 45, 46, 47, 48, 49, 50, 51, 52, 53, 54, 55, 56, 57, 58, 59, 60] rfl (by decide +kernel)
set_option maxRecDepth 20000 in
theorem gX11_is_X0_whatIs : GoodIn wsX11_is (wsV RX11 199 RX0 yX0_whatIs wsX0_whatIs) := goodIn_app (goodIn_of _ (by decide +kernel)) ggX11_is_X0_whatIs
set_option maxRecDepth 20000 in
theorem ggX11_may_X0_wrongOf : GoodIn wsX11_may wsX0_wrongOf := goodIn_r _ [9, 10, 11, 12, 13, 14, 15, 16, 17, 18, 8, 19, 20, 21, 22, 23, 24, 25, 26, 27, 28, 29, 30, 31, 32, 33, 34, 35, 36, 37, 38, 39, 40, 41, 42, 60, 61, 62, 63, 64, 65, 66, 67, 68, 69, 70, 71, 72, 73, 74, 75, 76, 77, 78, 79, 80] rfl (by decide +kernel)
set_option maxRecDepth 20000 in
theorem gX11_may_X0_wrongOf : GoodIn wsX11_may (wsV RX11 205 RX0 yX0_wrongOf wsX0_wrongOf) := goodIn_app (goodIn_of _ (by decide +kernel)) ggX11_may_X0_wrongOf
set_option maxRecDepth 20000 in
theorem ggX11_had_X10_hasPerson : GoodIn wsX11_had wsX10_hasPerson := goodIn_r _ [8, 9, 42, 43, 44, 45, 46, 47, 48, 49, 50, 51, 52, 53, 54, 55, 56, 57, 58] rfl (by decide +kernel)
set_option maxRecDepth 20000 in
theorem gX11_had_X10_hasPerson : GoodIn wsX11_had (wsV RX11 129 RX10 yX10_hasPerson wsX10_hasPerson) := goodIn_app (goodIn_of _ (by decide +kernel)) ggX11_had_X10_hasPerson
set_option maxRecDepth 20000 in
theorem ggX11_had_X0_sharesOf : GoodIn wsX11_had wsX0_sharesOf := goodIn_r _ [14, 15, 16, 17, 18, 19, 7, 20, 21, 22, 23, 24, 59, 60, 61, 62, 42, 43, 44, 45, 46, 47, 48, 49, 50, 51, 52, 53, 54, 55, 56, 57, 58] rfl (by decide +kernel)
set_option maxRecDepth 20000 in
theorem gX11_had_X0_sharesOf : GoodIn wsX11_had (wsV RX11 208 RX0 yX0_sharesOf wsX0_sharesOf) := goodIn_app (goodIn_of _ (by decide +kernel)) ggX11_had_X0_sharesOf
set_option maxRecDepth 20000 in
theorem ggX11_gain_X10_hasParts : GoodIn wsX11_gain wsX10_hasParts := goodIn_r _ [8, 9, 10, 11, 7, 12, 13, 112, 113, 114, 115, 116, 117, 118, 119, 120, 121, 122, 123, 124, 125, 126, 127, 128] rfl (by decide +kernel)
set_option maxRecDepth 20000 in
theorem gX11_gain_X10_hasParts : GoodIn wsX11_gain (wsV RX11 212 RX10 yX10_hasParts wsX10_hasParts) := goodIn_app (goodIn_of _ (by decide +kernel)) ggX11_gain_X10_hasParts
set_option maxRecDepth 20000 in
theorem ggX11_gain_X2_gainOf : GoodIn wsX11_gain wsX2_gainOf := goodIn_r _ [18, 19, 20, 21, 22, 23, 17, 24, 25, 26, 27, 28, 29, 30, 31, 32, 33, 34, 35, 36, 37, 38, 39, 40, 41, 42, 43, 44, 45, 46, 47, 48, 49, 50, 51, 52, 7, 53, 54, 55, 56, 57, 58, 59, 60, 61, 62, 63, 64, 65, 66, 67, 68, 69, 70, 71, 72, 73, 74, 75, 76, 77, 78, 79, 80, 81, 82, 83, 84, 85, 86, 87, 88, 89, 90, 91, 92, 93, 94, 112, 113, 114, 115, 116, 117, 118, 119, 120, 121, 122, 123, 124, 125, 126, 127, 128, 129, 130, 131, 132, 133, 134, 135, 136, 137, 138, 139, 140, 141, 142] rfl (by decide +kernel)
set_option maxRecDepth 20000 in
theorem gX11_gain_X2_gainOf : GoodIn wsX11_gain (wsV RX11 215 RX2 yX2_gainOf wsX2_gainOf) := goodIn_app (goodIn_of _ (by decide +kernel)) ggX11_gain_X2_gainOf
set_option maxRecDepth 20000 in
theorem ggX11_best_X11_partsOfMost : GoodIn wsX11_best wsX11_partsOfMost := goodIn_r _ [8, 2, 3, 1, 9, 10, 11, 12, 13, 14, 15, 16, 17, 18, 19, 20, 21, 22, 23, 24, 25, 26, 27, 28, 29, 30, 31, 32, 33, 34, 35, 36, 37, 38, 39, 40, 41, 42, 43, 44, 45, 46, 47, 48, 49, 50, 51, 52, 53, 54, 55, 56, 57, 58, 59, 60, 61, 62, 63, 64, 65, 66, 67, 68, 69, 70, 71, 72, 73, 74, 75, 76, 77, 78, 79, 80, 81, 82, 83, 84, 85, 86, 87, 88, 89, 90, 91, 92, 93, 94, 95, 96, 97, 98, 99, 100, 101, 102, 103, 104, 105, 106, 107, 108, 109, 110, 111, 112, 113, 114, 115, 116, 117, 118, 119, 120, 121, 122, 123, 124, 125, 126, 127, 128, 129, 130, 131, 132, 133, 134, 135, 136, 137, 138, 139, 140, 141, 142, 143] rfl (by decide +kernel)
set_option maxRecDepth 20000 in
theorem gX11_best_X11_partsOfMost : GoodIn wsX11_best (wsV RX11 218 RX11 yX11_partsOfMost wsX11_partsOfMost) := goodIn_app (goodIn_of _ (by decide +kernel)) ggX11_best_X11_partsOfMost
set_option maxRecDepth 20000 in
theorem ggX11_best_X2_gainOf : GoodIn wsX11_best wsX2_gainOf := goodIn_r _ [19, 20, 21, 22, 23, 24, 18, 25, 26, 27, 28, 29, 30, 31, 32, 33, 34, 35, 36, 37, 38, 39, 40, 41, 42, 43, 44, 45, 46, 47, 48, 49, 50, 51, 52, 53, 12, 54, 55, 56, 57, 58, 59, 60, 61, 62, 63, 64, 65, 66, 67, 68, 69, 70, 71, 72, 73, 74, 75, 76, 77, 78, 79, 80, 81, 82, 83, 84, 85, 86, 87, 88, 89, 90, 91, 92, 93, 94, 95, 113, 114, 115, 116, 117, 118, 119, 120, 121, 122, 123, 124, 125, 126, 127, 128, 129, 130, 131, 132, 133, 134, 135, 136, 137, 138, 139, 140, 141, 142, 143] rfl (by decide +kernel)
set_option maxRecDepth 20000 in
theorem gX11_best_X2_gainOf : GoodIn wsX11_best (wsV RX11 215 RX2 yX2_gainOf wsX2_gainOf) := goodIn_app (goodIn_of _ (by decide +kernel)) ggX11_best_X2_gainOf
set_option maxRecDepth 20000 in
theorem ggX11_bestParts_X11_partsOfMost : GoodIn wsX11_bestParts wsX11_partsOfMost := goodIn_r _ [5, 6, 7, 8, 9, 10, 11, 12, 13, 14, 15, 16, 17, 18, 19, 20, 21, 22, 23, 24, 25, 26, 27, 28, 29, 30, 31, 32, 33, 34, 35, 36, 37, 38, 39, 40, 41, 42, 43, 44, 45, 46, 47, 48, 49, 50, 51, 52, 53, 54, 55, 56, 57, 58, 59, 60, 61, 62, 63, 64, 65, 66, 67, 68, 69, 70, 71, 72, 73, 74, 75, 76, 77, 78, 79, 80, 81, 82, 83, 84, 85, 86, 87, 88, 89, 90, 91, 92, 93, 94, 95, 96, 97, 98, 99, 100, 101, 102, 103, 104, 105, 106, 107, 108, 109, 110, 111, 112, 113, 114, 115, 116, 117, 118, 119, 120, 121, 122, 123, 124, 125, 126, 127, 128, 129, 130, 131, 132, 133, 134, 135, 136, 137, 138, 139, 140, 141, 142, 143] rfl (by decide +kernel)
set_option maxRecDepth 20000 in
theorem gX11_bestParts_X11_partsOfMost : GoodIn wsX11_bestParts (wsV RX11 218 RX11 yX11_partsOfMost wsX11_partsOfMost) := goodIn_app (goodIn_of _ (by decide +kernel)) ggX11_bestParts_X11_partsOfMost
set_option maxRecDepth 20000 in
theorem ggX11_goes_X10_hasParts : GoodIn wsX11_goes wsX10_hasParts := goodIn_r _ [8, 9, 10, 11, 7, 12, 13, 38, 39, 40, 41, 42, 43, 44, 45, 46, 47, 48, 49, 50, 51, 52, 53, 54] rfl (by decide +kernel)
set_option maxRecDepth 20000 in
theorem gX11_goes_X10_hasParts : GoodIn wsX11_goes (wsV RX11 212 RX10 yX10_hasParts wsX10_hasParts) := goodIn_app (goodIn_of _ (by decide +kernel)) ggX11_goes_X10_hasParts
set_option maxRecDepth 20000 in
theorem ggX11_goes_X10_goesBy : GoodIn wsX11_goes wsX10_goesBy := goodIn_r _ [17, 18, 19, 20, 38, 39, 40, 41, 42, 43, 44, 45, 46, 47, 48, 49, 50, 51, 52, 53, 54] rfl (by decide +kernel)
set_option maxRecDepth 20000 in
theorem gX11_goes_X10_goesBy : GoodIn wsX11_goes (wsV RX11 222 RX10 yX10_goesBy wsX10_goesBy) := goodIn_app (goodIn_of _ (by decide +kernel)) ggX11_goes_X10_goesBy
set_option maxRecDepth 20000 in
theorem ggX11_above_X10_partsCount : GoodIn wsX11_above wsX10_partsCount := goodIn_r _ [8, 9, 108, 109, 110, 111, 112, 113, 114, 115, 116, 117, 118, 119, 120, 121, 122, 123, 124] rfl (by decide +kernel)
set_option maxRecDepth 20000 in
theorem gX11_above_X10_partsCount : GoodIn wsX11_above (wsV RX11 226 RX10 yX10_partsCount wsX10_partsCount) := goodIn_app (goodIn_of _ (by decide +kernel)) ggX11_above_X10_partsCount
set_option maxRecDepth 20000 in
theorem ggX11_above_X2_gainOf : GoodIn wsX11_above wsX2_gainOf := goodIn_r _ [14, 15, 16, 17, 18, 19, 13, 20, 21, 22, 23, 24, 25, 26, 27, 28, 29, 30, 31, 32, 33, 34, 35, 36, 37, 38, 39, 40, 41, 42, 43, 44, 45, 46, 47, 48, 7, 49, 50, 51, 52, 53, 54, 55, 56, 57, 58, 59, 60, 61, 62, 63, 64, 65, 66, 67, 68, 69, 70, 71, 72, 73, 74, 75, 76, 77, 78, 79, 80, 81, 82, 83, 84, 85, 86, 87, 88, 89, 90, 108, 109, 110, 111, 112, 113, 114, 115, 116, 117, 118, 119, 120, 121, 122, 123, 124, 125, 126, 127, 128, 129, 130, 131, 132, 133, 134, 135, 136, 137, 138] rfl (by decide +kernel)
set_option maxRecDepth 20000 in
theorem gX11_above_X2_gainOf : GoodIn wsX11_above (wsV RX11 215 RX2 yX2_gainOf wsX2_gainOf) := goodIn_app (goodIn_of _ (by decide +kernel)) ggX11_above_X2_gainOf
set_option maxRecDepth 20000 in
theorem ggX11_price_X10_hasPerson : GoodIn wsX11_price wsX10_hasPerson := goodIn_r _ [9, 10, 118, 119, 120, 121, 122, 123, 124, 125, 126, 127, 128, 129, 130, 131, 132, 133, 134] rfl (by decide +kernel)
set_option maxRecDepth 20000 in
theorem gX11_price_X10_hasPerson : GoodIn wsX11_price (wsV RX11 129 RX10 yX10_hasPerson wsX10_hasPerson) := goodIn_app (goodIn_of _ (by decide +kernel)) ggX11_price_X10_hasPerson
set_option maxRecDepth 20000 in
theorem ggX11_price_X10_hasParts : GoodIn wsX11_price wsX10_hasParts := goodIn_r _ [14, 15, 16, 17, 8, 18, 10, 118, 119, 120, 121, 122, 123, 124, 125, 126, 127, 128, 129, 130, 131, 132, 133, 134] rfl (by decide +kernel)
set_option maxRecDepth 20000 in
theorem gX11_price_X10_hasParts : GoodIn wsX11_price (wsV RX11 212 RX10 yX10_hasParts wsX10_hasParts) := goodIn_app (goodIn_of _ (by decide +kernel)) ggX11_price_X10_hasParts
set_option maxRecDepth 20000 in
theorem ggX11_price_X2_gainWithLimit : GoodIn wsX11_price wsX2_gainWithLimit := goodIn_r _ [23, 24, 25, 26, 27, 28, 29, 30, 31, 32, 33, 34, 35, 36, 22, 37, 38, 39, 40, 41, 42, 43, 44, 45, 46, 47, 48, 49, 50, 51, 8, 52, 53, 54, 55, 56, 57, 58, 59, 60, 61, 62, 63, 64, 65, 66, 67, 68, 69, 70, 71, 72, 73, 74, 75, 76, 77, 78, 79, 80, 81, 82, 83, 84, 85, 86, 87, 88, 89, 90, 91, 92, 93, 118, 119, 120, 121, 122, 123, 124, 125, 126, 127, 128, 129, 130, 131, 132, 133, 134, 135, 136, 137, 138, 139, 140, 141, 142, 143] rfl (by decide +kernel)
set_option maxRecDepth 20000 in
theorem gX11_price_X2_gainWithLimit : GoodIn wsX11_price (wsV RX11 229 RX2 yX2_gainWithLimit wsX2_gainWithLimit) := goodIn_app (goodIn_of _ (by decide +kernel)) ggX11_price_X2_gainWithLimit
set_option maxRecDepth 20000 in
theorem ggX11_price_X2_gainOf : GoodIn wsX11_price wsX2_gainOf := goodIn_r _ [97, 98, 99, 100, 20, 21, 22, 23, 24, 25, 26, 27, 28, 29, 30, 31, 32, 33, 34, 35, 36, 37, 38, 39, 40, 41, 42, 43, 44, 45, 46, 47, 48, 49, 50, 51, 8, 52, 53, 54, 55, 56, 57, 58, 59, 60, 61, 62, 63, 64, 65, 66, 67, 68, 69, 70, 71, 72, 73, 74, 75, 76, 77, 78, 79, 80, 81, 82, 83, 84, 85, 86, 87, 88, 89, 90, 91, 92, 93, 118, 119, 120, 121, 122, 123, 124, 125, 126, 127, 128, 129, 130, 131, 132, 133, 134, 144, 145, 146, 147, 148, 135, 136, 137, 138, 139, 140, 141, 142, 143] rfl (by decide +kernel)
set_option maxRecDepth 20000 in
theorem gX11_price_X2_gainOf : GoodIn wsX11_price (wsV RX11 215 RX2 yX2_gainOf wsX2_gainOf) := goodIn_app (goodIn_of _ (by decide +kernel)) ggX11_price_X2_gainOf
set_option maxRecDepth 20000 in
theorem ggX11_loss_X10_hasPerson : GoodIn wsX11_loss wsX10_hasPerson := goodIn_r _ [8, 9, 117, 118, 119, 120, 121, 122, 123, 124, 125, 126, 127, 128, 129, 130, 131, 132, 133] rfl (by decide +kernel)
set_option maxRecDepth 20000 in
theorem gX11_loss_X10_hasPerson : GoodIn wsX11_loss (wsV RX11 129 RX10 yX10_hasPerson wsX10_hasPerson) := goodIn_app (goodIn_of _ (by decide +kernel)) ggX11_loss_X10_hasPerson
set_option maxRecDepth 20000 in
theorem ggX11_loss_X10_hasParts : GoodIn wsX11_loss wsX10_hasParts := goodIn_r _ [13, 14, 15, 16, 7, 17, 9, 117, 118, 119, 120, 121, 122, 123, 124, 125, 126, 127, 128, 129, 130, 131, 132, 133] rfl (by decide +kernel)
set_option maxRecDepth 20000 in
theorem gX11_loss_X10_hasParts : GoodIn wsX11_loss (wsV RX11 212 RX10 yX10_hasParts wsX10_hasParts) := goodIn_app (goodIn_of _ (by decide +kernel)) ggX11_loss_X10_hasParts
set_option maxRecDepth 20000 in
theorem ggX11_loss_X2_gainOf : GoodIn wsX11_loss wsX2_gainOf := goodIn_r _ [22, 23, 24, 25, 26, 27, 21, 28, 29, 30, 31, 32, 33, 34, 35, 36, 37, 38, 39, 40, 41, 42, 43, 44, 45, 46, 47, 48, 49, 50, 51, 52, 53, 54, 55, 56, 7, 57, 58, 59, 60, 61, 62, 63, 64, 65, 66, 67, 68, 69, 70, 71, 72, 73, 74, 75, 76, 77, 78, 79, 80, 81, 82, 83, 84, 85, 86, 87, 88, 89, 90, 91, 92, 93, 94, 95, 96, 97, 98, 117, 118, 119, 120, 121, 122, 123, 124, 125, 126, 127, 128, 129, 130, 131, 132, 133, 134, 135, 136, 137, 138, 139, 140, 141, 142, 143, 144, 145, 146, 147] rfl (by decide +kernel)
set_option maxRecDepth 20000 in
theorem gX11_loss_X2_gainOf : GoodIn wsX11_loss (wsV RX11 215 RX2 yX2_gainOf wsX2_gainOf) := goodIn_app (goodIn_of _ (by decide +kernel)) ggX11_loss_X2_gainOf
set_option maxRecDepth 20000 in
theorem ggX11_loss_X2_gainWithLimit : GoodIn wsX11_loss wsX2_gainWithLimit := goodIn_r _ [28, 29, 30, 31, 32, 33, 34, 35, 36, 37, 38, 39, 40, 41, 21, 42, 43, 44, 45, 46, 47, 48, 49, 50, 51, 52, 53, 54, 55, 56, 7, 57, 58, 59, 60, 61, 62, 63, 64, 65, 66, 67, 68, 69, 70, 71, 72, 73, 74, 75, 76, 77, 78, 79, 80, 81, 82, 83, 84, 85, 86, 87, 88, 89, 90, 91, 92, 93, 94, 95, 96, 97, 98, 117, 118, 119, 120, 121, 122, 123, 124, 125, 126, 127, 128, 129, 130, 131, 132, 133, 139, 140, 141, 142, 143, 144, 145, 146, 147] rfl (by decide +kernel)
set_option maxRecDepth 20000 in
theorem gX11_loss_X2_gainWithLimit : GoodIn wsX11_loss (wsV RX11 229 RX2 yX2_gainWithLimit wsX2_gainWithLimit) := goodIn_app (goodIn_of _ (by decide +kernel)) ggX11_loss_X2_gainWithLimit
set_option maxRecDepth 20000 in
theorem ggX11_climb_X10_hasParts : GoodIn wsX11_climb wsX10_hasParts := goodIn_r _ [8, 9, 10, 11, 7, 12, 13, 119, 120, 121, 122, 123, 124, 125, 126, 127, 128, 129, 130, 131, 132, 133, 134, 135] rfl (by decide +kernel)
set_option maxRecDepth 20000 in
theorem gX11_climb_X10_hasParts : GoodIn wsX11_climb (wsV RX11 212 RX10 yX10_hasParts wsX10_hasParts) := goodIn_app (goodIn_of _ (by decide +kernel)) ggX11_climb_X10_hasParts
set_option maxRecDepth 20000 in
theorem ggX11_climb_X11_firstBetter : GoodIn wsX11_climb wsX11_firstBetter := goodIn_r _ [18, 19, 1, 2, 20, 21, 22, 23, 24, 25, 26, 27, 28, 29, 30, 31, 32, 33, 34, 35, 36, 37, 38, 39, 40, 41, 42, 43, 44, 45, 46, 47, 48, 49, 50, 51, 52, 53, 54, 55, 56, 57, 58, 59, 7, 60, 61, 62, 63, 64, 65, 66, 67, 68, 69, 70, 71, 72, 73, 74, 75, 76, 77, 78, 79, 80, 81, 82, 83, 84, 85, 86, 87, 88, 89, 90, 91, 92, 93, 94, 95, 96, 97, 98, 99, 100, 101, 102, 103, 104, 105, 106, 107, 108, 109, 110, 111, 112, 113, 114, 115, 116, 117, 118, 119, 120, 121, 122, 123, 124, 125, 126, 127, 128, 129, 130, 131, 132, 133, 134, 135, 136, 137, 138, 139, 140, 141, 142, 143, 144, 145, 146, 147, 148, 149] rfl (by decide +kernel)
set_option maxRecDepth 20000 in
theorem gX11_climb_X11_firstBetter : GoodIn wsX11_climb (wsV RX11 233 RX11 yX11_firstBetter wsX11_firstBetter) := goodIn_app (goodIn_of _ (by decide +kernel)) ggX11_climb_X11_firstBetter
set_option maxRecDepth 20000 in
theorem ggX11_own_X10_hasPerson : GoodIn wsX11_own wsX10_hasPerson := goodIn_r _ [7, 8, 56, 57, 58, 59, 60, 61, 62, 63, 64, 65, 66, 67, 68, 69, 70, 71, 72] rfl (by decide +kernel)
set_option maxRecDepth 20000 in
theorem gX11_own_X10_hasPerson : GoodIn wsX11_own (wsV RX11 129 RX10 yX10_hasPerson wsX10_hasPerson) := goodIn_app (goodIn_of _ (by decide +kernel)) ggX11_own_X10_hasPerson
set_option maxRecDepth 20000 in
theorem ggX11_own_X10_hasParts : GoodIn wsX11_own wsX10_hasParts := goodIn_r _ [12, 13, 14, 15, 6, 16, 8, 56, 57, 58, 59, 60, 61, 62, 63, 64, 65, 66, 67, 68, 69, 70, 71, 72] rfl (by decide +kernel)
set_option maxRecDepth 20000 in
theorem gX11_own_X10_hasParts : GoodIn wsX11_own (wsV RX11 212 RX10 yX10_hasParts wsX10_hasParts) := goodIn_app (goodIn_of _ (by decide +kernel)) ggX11_own_X10_hasParts
set_option maxRecDepth 20000 in
theorem ggX11_own_X10_ownOf : GoodIn wsX11_own wsX10_ownOf := goodIn_r _ [20, 21, 22, 23, 24, 6, 25, 26, 27, 28, 29, 30, 31, 32, 33, 34, 35, 36, 37, 38, 56, 57, 58, 59, 60, 61, 62, 63, 64, 65, 66, 67, 68, 69, 70, 71, 72] rfl (by decide +kernel)
set_option maxRecDepth 20000 in
theorem gX11_own_X10_ownOf : GoodIn wsX11_own (wsV RX11 236 RX10 yX10_ownOf wsX10_ownOf) := goodIn_app (goodIn_of _ (by decide +kernel)) ggX11_own_X10_ownOf
set_option maxRecDepth 20000 in
theorem ggX11_rests_X11_findRests : GoodIn wsX11_rests wsX11_findRests := goodIn_r _ [9, 4, 5, 10, 11, 12, 13, 14, 15, 16, 17, 18, 19, 20, 21, 22, 23, 24, 25, 26, 27, 28, 29, 30, 31, 32, 33, 34, 35, 36, 37, 38, 39, 40, 41, 42, 43, 44, 45, 80, 81, 82, 83, 84, 63, 64, 65, 66, 67, 68, 69, 70, 71, 72, 73, 74, 75, 76, 77, 78, 79] rfl (by decide +kernel)
set_option maxRecDepth 20000 in
theorem gX11_rests_X11_findRests : GoodIn wsX11_rests (va_wsS RX11 249 yX11_findRests wsX11_findRests) := goodIn_app (goodIn_of _ (by decide +kernel)) ggX11_rests_X11_findRests
set_option maxRecDepth 20000 in
theorem ggX11_rounds_X10_hasParts : GoodIn wsX11_rounds wsX10_hasParts := goodIn_r _ [8, 9, 10, 11, 7, 12, 13, 74, 75, 76, 77, 78, 79, 80, 81, 82, 83, 84, 85, 86, 87, 88, 89, 90] rfl (by decide +kernel)
set_option maxRecDepth 20000 in
theorem gX11_rounds_X10_hasParts : GoodIn wsX11_rounds (wsV RX11 212 RX10 yX10_hasParts wsX10_hasParts) := goodIn_app (goodIn_of _ (by decide +kernel)) ggX11_rounds_X10_hasParts
set_option maxRecDepth 20000 in
theorem ggX11_rounds_X7_follow : GoodIn wsX11_rounds wsX7_follow := goodIn_r _ [18, 19, 20, 21, 22, 23, 24, 25, 26, 27, 28, 17, 29, 30, 31, 32, 33, 7, 34, 35, 36, 37, 38, 39, 40, 41, 42, 43, 44, 45, 46, 47, 48, 49, 50, 51, 52, 53, 54, 55, 56, 91, 92, 93, 94, 74, 75, 76, 77, 78, 79, 80, 81, 82, 83, 84, 85, 86, 87, 88, 89, 90] rfl (by decide +kernel)
set_option maxRecDepth 20000 in
theorem gX11_rounds_X7_follow : GoodIn wsX11_rounds (wsV RX11 256 RX7 yX7_follow wsX7_follow) := goodIn_app (goodIn_of _ (by decide +kernel)) ggX11_rounds_X7_follow
set_option maxRecDepth 20000 in
theorem ggX11_one_X10_hasPerson : GoodIn wsX11_one wsX10_hasPerson := goodIn_r _ [10, 11, 89, 90, 91, 92, 93, 94, 95, 96, 97, 98, 99, 100, 101, 102, 103, 104, 105] rfl (by decide +kernel)
set_option maxRecDepth 20000 in
theorem gX11_one_X10_hasPerson : GoodIn wsX11_one (wsV RX11 129 RX10 yX10_hasPerson wsX10_hasPerson) := goodIn_app (goodIn_of _ (by decide +kernel)) ggX11_one_X10_hasPerson
set_option maxRecDepth 20000 in
theorem ggX11_one_X10_hasParts : GoodIn wsX11_one wsX10_hasParts := goodIn_r _ [15, 16, 17, 18, 9, 19, 11, 89, 90, 91, 92, 93, 94, 95, 96, 97, 98, 99, 100, 101, 102, 103, 104, 105] rfl (by decide +kernel)
set_option maxRecDepth 20000 in
theorem gX11_one_X10_hasParts : GoodIn wsX11_one (wsV RX11 212 RX10 yX10_hasParts wsX10_hasParts) := goodIn_app (goodIn_of _ (by decide +kernel)) ggX11_one_X10_hasParts
set_option maxRecDepth 20000 in
theorem ggX11_one_X1_reckon : GoodIn wsX11_one wsX1_reckon := goodIn_r _ [24, 25, 26, 27, 28, 29, 30, 31, 32, 33, 34, 23, 35, 36, 37, 38, 39, 40, 41, 42, 43, 44, 9, 45, 46, 47, 48, 49, 50, 51, 52, 53, 54, 55, 56, 57, 58, 59, 60, 61, 62, 63, 64, 65, 106, 107, 108, 109, 110, 111, 89, 90, 91, 92, 93, 94, 95, 96, 97, 98, 99, 100, 101, 102, 103, 104, 105] rfl (by decide +kernel)
set_option maxRecDepth 20000 in
theorem gX11_one_X1_reckon : GoodIn wsX11_one (wsV RX11 272 RX1 yX1_reckon wsX1_reckon) := goodIn_app (goodIn_of _ (by decide +kernel)) ggX11_one_X1_reckon
set_option maxRecDepth 20000 in
theorem ggX11_one_X1_keepRow : GoodIn wsX11_one wsX1_keepRow := goodIn_r _ [69, 70, 26, 71, 28, 27, 55, 56, 57, 23, 58, 59, 60, 61, 62, 25, 63, 64, 31, 65, 106, 107, 108, 109, 110, 111] rfl (by decide +kernel)
set_option maxRecDepth 20000 in
theorem gX11_one_X1_keepRow : GoodIn wsX11_one (wsV RX11 276 RX1 yX1_keepRow wsX1_keepRow) := goodIn_app (goodIn_of _ (by decide +kernel)) ggX11_one_X1_keepRow
set_option maxRecDepth 20000 in
theorem ggX11_oneBy_X10_hasPerson : GoodIn wsX11_oneBy wsX10_hasPerson := goodIn_r _ [9, 10, 88, 89, 90, 91, 92, 93, 94, 95, 96, 97, 98, 99, 100, 101, 102, 103, 104] rfl (by decide +kernel)
set_option maxRecDepth 20000 in
theorem gX11_oneBy_X10_hasPerson : GoodIn wsX11_oneBy (wsV RX11 129 RX10 yX10_hasPerson wsX10_hasPerson) := goodIn_app (goodIn_of _ (by decide +kernel)) ggX11_oneBy_X10_hasPerson
set_option maxRecDepth 20000 in
theorem ggX11_oneBy_X10_hasParts : GoodIn wsX11_oneBy wsX10_hasParts := goodIn_r _ [14, 15, 16, 17, 8, 18, 10, 88, 89, 90, 91, 92, 93, 94, 95, 96, 97, 98, 99, 100, 101, 102, 103, 104] rfl (by decide +kernel)
set_option maxRecDepth 20000 in
theorem gX11_oneBy_X10_hasParts : GoodIn wsX11_oneBy (wsV RX11 212 RX10 yX10_hasParts wsX10_hasParts) := goodIn_app (goodIn_of _ (by decide +kernel)) ggX11_oneBy_X10_hasParts
set_option maxRecDepth 20000 in
theorem ggX11_oneBy_X1_reckon : GoodIn wsX11_oneBy wsX1_reckon := goodIn_r _ [23, 24, 25, 26, 27, 28, 29, 30, 31, 32, 33, 22, 34, 35, 36, 37, 38, 39, 40, 41, 42, 43, 8, 44, 45, 46, 47, 48, 49, 50, 51, 52, 53, 54, 55, 56, 57, 58, 59, 60, 61, 62, 63, 64, 82, 83, 84, 85, 86, 87, 88, 89, 90, 91, 92, 93, 94, 95, 96, 97, 98, 99, 100, 101, 102, 103, 104] rfl (by decide +kernel)
set_option maxRecDepth 20000 in
theorem gX11_oneBy_X1_reckon : GoodIn wsX11_oneBy (wsV RX11 272 RX1 yX1_reckon wsX1_reckon) := goodIn_app (goodIn_of _ (by decide +kernel)) ggX11_oneBy_X1_reckon
set_option maxRecDepth 20000 in
theorem ggX11_lawful_X3_reckon : GoodIn wsX11_lawful wsX3_reckon := goodIn_r _ [9, 10, 11, 12, 13, 14, 15, 16, 17, 18, 19, 20, 21, 22, 23, 24, 25, 26, 27, 28, 29, 30, 31, 32, 33, 34, 35, 36, 37, 38, 8, 39, 40, 41, 42, 43, 44, 45, 46, 47, 48, 49, 50, 51, 52, 53, 54, 55, 56, 57, 58, 59, 60, 61, 62, 63, 64, 65, 66, 67, 68, 69, 70, 71, 72, 73, 74, 75, 76, 77, 78, 79, 80, 81, 82, 83, 101, 102, 103, 104, 105, 106, 107, 108, 109, 110, 111, 112, 113, 114, 115, 116, 117, 118, 119, 120, 121, 122, 123, 124, 125, 126, 127, 128, 129, 130, 131] rfl (by decide +kernel)
set_option maxRecDepth 20000 in
theorem gX11_lawful_X3_reckon : GoodIn wsX11_lawful (wsV RX11 282 RX3 yX3_reckon wsX3_reckon) := goodIn_app (goodIn_of _ (by decide +kernel)) ggX11_lawful_X3_reckon
set_option maxRecDepth 20000 in
theorem ggX11_oneIs_X11_isYear : GoodIn wsX11_oneIs wsX11_isYear := goodIn_r _ [7] rfl (by decide +kernel)
set_option maxRecDepth 20000 in
theorem gX11_oneIs_X11_isYear : GoodIn wsX11_oneIs (va_wsS RX11 196 yX11_isYear wsX11_isYear) := goodIn_app (goodIn_of _ (by decide +kernel)) ggX11_oneIs_X11_isYear
set_option maxRecDepth 20000 in
theorem ggX11_fewest_X10_personsWithDeals : GoodIn wsX11_fewest wsX10_personsWithDeals := goodIn_r _ [7, 8, 9, 10, 45, 46, 47, 48, 49, 50, 51, 52, 53, 54, 55, 56, 57, 58, 59, 60, 61] rfl (by decide +kernel)
set_option maxRecDepth 20000 in
theorem gX11_fewest_X10_personsWithDeals : GoodIn wsX11_fewest (wsV RX11 297 RX10 yX10_personsWithDeals wsX10_personsWithDeals) := goodIn_app (goodIn_of _ (by decide +kernel)) ggX11_fewest_X10_personsWithDeals
set_option maxRecDepth 20000 in
theorem ggX11_fewest_X10_partsCount : GoodIn wsX11_fewest wsX10_partsCount := goodIn_r _ [14, 15, 45, 46, 47, 48, 49, 50, 51, 52, 53, 54, 55, 56, 57, 58, 59, 60, 61] rfl (by decide +kernel)
set_option maxRecDepth 20000 in
theorem gX11_fewest_X10_partsCount : GoodIn wsX11_fewest (wsV RX11 226 RX10 yX10_partsCount wsX10_partsCount) := goodIn_app (goodIn_of _ (by decide +kernel)) ggX11_fewest_X10_partsCount
set_option maxRecDepth 20000 in
theorem ggX11_fewest_J6_bitCount_0f7a4 : GoodIn wsX11_fewest wsJ6_bitCount_0f7a4 := goodIn_r _ [19, 20, 21, 22] rfl (by decide +kernel)
set_option maxRecDepth 20000 in
theorem gX11_fewest_J6_bitCount_0f7a4 : GoodIn wsX11_fewest (va_wsS RX11 300 yJ6_bitCount_0f7a4 wsJ6_bitCount_0f7a4) := goodIn_app (goodIn_of _ (by decide +kernel)) ggX11_fewest_J6_bitCount_0f7a4
set_option maxRecDepth 20000 in
theorem ggX11_fewest_X10_allServed : GoodIn wsX11_fewest wsX10_allServed := goodIn_r _ [26, 8, 9, 10, 27, 45, 46, 47, 48, 49, 50, 51, 52, 53, 54, 55, 56, 57, 58, 59, 60, 61] rfl (by decide +kernel)
set_option maxRecDepth 20000 in
theorem gX11_fewest_X10_allServed : GoodIn wsX11_fewest (wsV RX11 305 RX10 yX10_allServed wsX10_allServed) := goodIn_app (goodIn_of _ (by decide +kernel)) ggX11_fewest_X10_allServed
set_option maxRecDepth 20000 in
theorem ggX11_meet_X4_take : GoodIn wsX11_meet wsX4_take := goodIn_r _ [10, 11, 12, 13, 14, 15, 16, 17, 18, 19, 20, 21, 22, 9, 23, 24, 25, 80, 81, 82, 83, 84, 85, 86, 87, 88, 89, 90, 91, 92, 93, 94] rfl (by decide +kernel)
set_option maxRecDepth 20000 in
theorem gX11_meet_X4_take : GoodIn wsX11_meet (wsV RX11 311 RX4 yX4_take wsX4_take) := goodIn_app (goodIn_of _ (by decide +kernel)) ggX11_meet_X4_take
set_option maxRecDepth 20000 in
theorem ggX11_meet_X9_cut : GoodIn wsX11_meet wsX9_cut := goodIn_r _ [30, 31, 87, 88, 89, 90, 91, 92, 93, 94] rfl (by decide +kernel)
set_option maxRecDepth 20000 in
theorem gX11_meet_X9_cut : GoodIn wsX11_meet (wsV RX11 101 RX9 yX9_cut wsX9_cut) := goodIn_app (goodIn_of _ (by decide +kernel)) ggX11_meet_X9_cut
set_option maxRecDepth 20000 in
theorem ggX11_meet_X4_waysToBe : GoodIn wsX11_meet wsX4_waysToBe := goodIn_r _ [35, 12, 36, 37, 38, 39, 40, 9, 41, 42, 43, 44, 45, 13, 80, 81, 82, 83, 84, 85, 86] rfl (by decide +kernel)
set_option maxRecDepth 20000 in
theorem gX11_meet_X4_waysToBe : GoodIn wsX11_meet (wsV RX11 315 RX4 yX4_waysToBe wsX4_waysToBe) := goodIn_app (goodIn_of _ (by decide +kernel)) ggX11_meet_X4_waysToBe
set_option maxRecDepth 20000 in
theorem ggX11_must_X4_take : GoodIn wsX11_must wsX4_take := goodIn_r _ [10, 11, 12, 13, 14, 15, 16, 17, 18, 19, 20, 21, 22, 9, 23, 24, 25, 84, 85, 86, 87, 88, 89, 90, 91, 92, 93, 94, 95, 96, 97, 98] rfl (by decide +kernel)
set_option maxRecDepth 20000 in
theorem gX11_must_X4_take : GoodIn wsX11_must (wsV RX11 311 RX4 yX4_take wsX4_take) := goodIn_app (goodIn_of _ (by decide +kernel)) ggX11_must_X4_take
set_option maxRecDepth 20000 in
theorem ggX11_must_X9_cut : GoodIn wsX11_must wsX9_cut := goodIn_r _ [30, 31, 91, 92, 93, 94, 95, 96, 97, 98] rfl (by decide +kernel)
set_option maxRecDepth 20000 in
theorem gX11_must_X9_cut : GoodIn wsX11_must (wsV RX11 101 RX9 yX9_cut wsX9_cut) := goodIn_app (goodIn_of _ (by decide +kernel)) ggX11_must_X9_cut
set_option maxRecDepth 20000 in
theorem ggX11_must_X4_bound : GoodIn wsX11_must wsX4_bound := goodIn_r _ [35, 12, 36, 37, 38, 39, 40, 9, 41, 42, 43, 44, 45, 46, 47, 48, 49, 13, 84, 85, 86, 87, 88, 89, 90] rfl (by decide +kernel)
set_option maxRecDepth 20000 in
theorem gX11_must_X4_bound : GoodIn wsX11_must (wsV RX11 318 RX4 yX4_bound wsX4_bound) := goodIn_app (goodIn_of _ (by decide +kernel)) ggX11_must_X4_bound
set_option maxRecDepth 20000 in
theorem ggX11_wrongly_X4_take : GoodIn wsX11_wrongly wsX4_take := goodIn_r _ [11, 12, 13, 14, 15, 16, 17, 18, 19, 20, 21, 22, 23, 10, 24, 25, 26, 88, 89, 90, 91, 92, 93, 94, 95, 96, 97, 98, 99, 100, 101, 102] rfl (by decide +kernel)
set_option maxRecDepth 20000 in
theorem gX11_wrongly_X4_take : GoodIn wsX11_wrongly (wsV RX11 311 RX4 yX4_take wsX4_take) := goodIn_app (goodIn_of _ (by decide +kernel)) ggX11_wrongly_X4_take
set_option maxRecDepth 20000 in
theorem ggX11_wrongly_X9_cut : GoodIn wsX11_wrongly wsX9_cut := goodIn_r _ [31, 32, 95, 96, 97, 98, 99, 100, 101, 102] rfl (by decide +kernel)
set_option maxRecDepth 20000 in
theorem gX11_wrongly_X9_cut : GoodIn wsX11_wrongly (wsV RX11 101 RX9 yX9_cut wsX9_cut) := goodIn_app (goodIn_of _ (by decide +kernel)) ggX11_wrongly_X9_cut
set_option maxRecDepth 20000 in
theorem ggX11_wrongly_X10_partsCount : GoodIn wsX11_wrongly wsX10_partsCount := goodIn_r _ [37, 38, 71, 72, 73, 74, 75, 76, 77, 78, 79, 80, 81, 82, 83, 84, 85, 86, 87] rfl (by decide +kernel)
set_option maxRecDepth 20000 in
theorem gX11_wrongly_X10_partsCount : GoodIn wsX11_wrongly (wsV RX11 226 RX10 yX10_partsCount wsX10_partsCount) := goodIn_app (goodIn_of _ (by decide +kernel)) ggX11_wrongly_X10_partsCount
set_option maxRecDepth 20000 in
theorem ggX11_wrongly_X4_fewestFalse : GoodIn wsX11_wrongly wsX4_fewestFalse := goodIn_r _ [42, 12, 43, 44, 45, 10, 46, 25, 26, 47, 48, 49, 50, 51, 52, 53, 88, 89, 90, 91, 92, 93, 94] rfl (by decide +kernel)
set_option maxRecDepth 20000 in
theorem gX11_wrongly_X4_fewestFalse : GoodIn wsX11_wrongly (wsV RX11 325 RX4 yX4_fewestFalse wsX4_fewestFalse) := goodIn_app (goodIn_of _ (by decide +kernel)) ggX11_wrongly_X4_fewestFalse
set_option maxRecDepth 20000 in
theorem ggX11_between_X11_isYear : GoodIn wsX11_between wsX11_isYear := goodIn_r _ [7] rfl (by decide +kernel)
set_option maxRecDepth 20000 in
theorem gX11_between_X11_isYear : GoodIn wsX11_between (va_wsS RX11 196 yX11_isYear wsX11_isYear) := goodIn_app (goodIn_of _ (by decide +kernel)) ggX11_between_X11_isYear
set_option maxRecDepth 20000 in
theorem ggX11_between_X11_goesBetween : GoodIn wsX11_between wsX11_goesBetween := goodIn_r _ [11, 1, 2, 12, 13, 14, 15, 16, 17, 18, 19, 20, 21, 22, 23, 24, 25, 26, 27, 28, 29, 30, 31, 32, 33, 34, 35, 36, 37, 38, 39, 40, 41, 42, 43, 44, 45, 46, 47, 48, 49, 50, 51, 52, 53, 54, 55, 56, 57, 58, 59, 60, 61, 62, 63, 64, 65, 66, 67, 68, 69, 70, 71, 72, 73, 74, 75, 76, 77, 78, 79, 80, 81, 82, 83, 84, 85, 86, 87, 88, 89, 90, 91, 92] rfl (by decide +kernel)
set_option maxRecDepth 20000 in
theorem gX11_between_X11_goesBetween : GoodIn wsX11_between (wsV RX11 328 RX11 yX11_goesBetween wsX11_goesBetween) := goodIn_app (goodIn_of _ (by decide +kernel)) ggX11_between_X11_goesBetween
set_option maxRecDepth 20000 in
theorem ggX11_run_X0_clear : GoodIn wsX11_run wsX0_clear := goodIn_r _ [14, 15, 90, 91, 92, 93] rfl (by decide +kernel)
set_option maxRecDepth 20000 in
theorem gX11_run_X0_clear : GoodIn wsX11_run (wsV RX11 118 RX0 yX0_clear wsX0_clear) := goodIn_app (goodIn_of _ (by decide +kernel)) ggX11_run_X0_clear
