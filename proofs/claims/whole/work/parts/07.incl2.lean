set_option maxRecDepth 20000 in
theorem ggX11_run_X0_tryDeal : GoodIn wsX11_run wsX0_tryDeal := goodIn_r _ [19, 15, 20, 21, 22, 23, 24, 25, 26, 27, 28, 13, 29, 30, 31, 32, 33, 34, 35, 36, 37, 38, 39, 40, 41, 42, 43, 44, 45, 46, 47, 48, 49, 50, 51, 52, 53, 54, 55, 90, 91, 92, 93, 73, 74, 75, 76, 77, 78, 79, 80, 81, 82, 83, 84, 85, 86, 87, 88, 89] rfl (by decide +kernel)
set_option maxRecDepth 20000 in
theorem gX11_run_X0_tryDeal : GoodIn wsX11_run (wsV RX11 179 RX0 yX0_tryDeal wsX0_tryDeal) := goodIn_app (goodIn_of _ (by decide +kernel)) ggX11_run_X0_tryDeal
set_option maxRecDepth 20000 in
theorem ggX11_image_X11_imageAt : GoodIn wsX11_image wsX11_imageAt := goodIn_r _ [7, 8, 9, 64, 65, 66, 67, 68, 69, 70, 71, 72, 73, 74, 75, 76, 77] rfl (by decide +kernel)
set_option maxRecDepth 20000 in
theorem gX11_image_X11_imageAt : GoodIn wsX11_image (wsV RX11 335 RX11 yX11_imageAt wsX11_imageAt) := goodIn_app (goodIn_of _ (by decide +kernel)) ggX11_image_X11_imageAt
set_option maxRecDepth 20000 in
theorem ggX11_image_X8_copyFrom : GoodIn wsX11_image wsX8_copyFrom := goodIn_r _ [14, 15, 16, 17, 18, 19, 20, 21, 22, 23, 24, 25, 26, 27, 28, 29, 30, 31, 32, 33, 34, 35, 36, 37, 38, 39, 40, 41, 42, 43, 44, 45, 46, 47, 48, 49, 50, 51, 52, 53, 54, 55, 56, 57, 58, 59, 60, 61, 62, 63, 78, 79, 80, 81, 82, 83, 84, 85, 86, 87, 88, 89, 90, 91, 92, 93, 94, 95, 96, 97, 98, 99, 100, 101, 102, 103, 104, 105, 106] rfl (by decide +kernel)
set_option maxRecDepth 20000 in
theorem gX11_image_X8_copyFrom : GoodIn wsX11_image (wsV RX11 339 RX8 yX8_copyFrom wsX8_copyFrom) := goodIn_app (goodIn_of _ (by decide +kernel)) ggX11_image_X8_copyFrom
set_option maxRecDepth 20000 in
theorem ggX11_restore_X11_imageAt : GoodIn wsX11_restore wsX11_imageAt := goodIn_r _ [7, 8, 9, 67, 68, 69, 70, 71, 72, 73, 74, 75, 76, 77, 78, 79, 80] rfl (by decide +kernel)
set_option maxRecDepth 20000 in
theorem gX11_restore_X11_imageAt : GoodIn wsX11_restore (wsV RX11 335 RX11 yX11_imageAt wsX11_imageAt) := goodIn_app (goodIn_of _ (by decide +kernel)) ggX11_restore_X11_imageAt
set_option maxRecDepth 20000 in
theorem ggX11_restore_X8_copyFrom : GoodIn wsX11_restore wsX8_copyFrom := goodIn_r _ [14, 15, 16, 17, 18, 19, 20, 21, 22, 23, 24, 25, 26, 27, 28, 29, 30, 31, 32, 33, 34, 35, 36, 37, 38, 39, 40, 41, 42, 43, 44, 45, 46, 47, 48, 49, 50, 51, 52, 53, 54, 55, 56, 57, 58, 59, 60, 61, 62, 63, 64, 65, 66, 81, 82, 83, 84, 85, 86, 87, 88, 89, 90, 91, 92, 93, 94, 95, 96, 97, 98, 99, 100, 101, 102, 103, 104, 105, 106] rfl (by decide +kernel)
set_option maxRecDepth 20000 in
theorem gX11_restore_X8_copyFrom : GoodIn wsX11_restore (wsV RX11 339 RX8 yX8_copyFrom wsX8_copyFrom) := goodIn_app (goodIn_of _ (by decide +kernel)) ggX11_restore_X8_copyFrom
set_option maxRecDepth 20000 in
theorem ggX11_partsOfMost_X10_partsCount : GoodIn wsX11_partsOfMost wsX10_partsCount := goodIn_r _ [8, 9, 108, 109, 110, 111, 112, 113, 114, 115, 116, 117, 118, 119, 120, 121, 122, 123, 124] rfl (by decide +kernel)
set_option maxRecDepth 20000 in
theorem gX11_partsOfMost_X10_partsCount : GoodIn wsX11_partsOfMost (wsV RX11 226 RX10 yX10_partsCount wsX10_partsCount) := goodIn_app (goodIn_of _ (by decide +kernel)) ggX11_partsOfMost_X10_partsCount
set_option maxRecDepth 20000 in
theorem ggX11_partsOfMost_X2_gainOf : GoodIn wsX11_partsOfMost wsX2_gainOf := goodIn_r _ [14, 15, 16, 17, 18, 19, 13, 20, 21, 22, 23, 24, 25, 26, 27, 28, 29, 30, 31, 32, 33, 34, 35, 36, 37, 38, 39, 40, 41, 42, 43, 44, 45, 46, 47, 48, 7, 49, 50, 51, 52, 53, 54, 55, 56, 57, 58, 59, 60, 61, 62, 63, 64, 65, 66, 67, 68, 69, 70, 71, 72, 73, 74, 75, 76, 77, 78, 79, 80, 81, 82, 83, 84, 85, 86, 87, 88, 89, 90, 108, 109, 110, 111, 112, 113, 114, 115, 116, 117, 118, 119, 120, 121, 122, 123, 124, 125, 126, 127, 128, 129, 130, 131, 132, 133, 134, 135, 136, 137, 138] rfl (by decide +kernel)
set_option maxRecDepth 20000 in
theorem gX11_partsOfMost_X2_gainOf : GoodIn wsX11_partsOfMost (wsV RX11 215 RX2 yX2_gainOf wsX2_gainOf) := goodIn_app (goodIn_of _ (by decide +kernel)) ggX11_partsOfMost_X2_gainOf
set_option maxRecDepth 20000 in
theorem ggX11_firstBetter_X2_gainOf : GoodIn wsX11_firstBetter wsX2_gainOf := goodIn_r _ [9, 10, 11, 12, 13, 14, 8, 15, 16, 17, 18, 19, 20, 21, 22, 23, 24, 25, 26, 27, 28, 29, 30, 31, 32, 33, 34, 35, 36, 37, 38, 39, 40, 41, 42, 43, 44, 45, 46, 47, 48, 49, 50, 51, 52, 53, 54, 55, 56, 57, 58, 59, 60, 61, 62, 63, 64, 65, 66, 67, 68, 69, 70, 71, 72, 73, 74, 75, 76, 77, 78, 79, 80, 81, 82, 83, 84, 85, 86, 104, 105, 106, 107, 108, 109, 110, 111, 112, 113, 114, 115, 116, 117, 118, 119, 120, 121, 122, 123, 124, 125, 126, 127, 128, 129, 130, 131, 132, 133, 134] rfl (by decide +kernel)
set_option maxRecDepth 20000 in
theorem gX11_firstBetter_X2_gainOf : GoodIn wsX11_firstBetter (wsV RX11 215 RX2 yX2_gainOf wsX2_gainOf) := goodIn_app (goodIn_of _ (by decide +kernel)) ggX11_firstBetter_X2_gainOf
set_option maxRecDepth 20000 in
theorem ggX11_findRests_X10_partsCount : GoodIn wsX11_findRests wsX10_partsCount := goodIn_r _ [7, 8, 44, 45, 46, 47, 48, 49, 50, 51, 52, 53, 54, 55, 56, 57, 58, 59, 60] rfl (by decide +kernel)
set_option maxRecDepth 20000 in
theorem gX11_findRests_X10_partsCount : GoodIn wsX11_findRests (wsV RX11 226 RX10 yX10_partsCount wsX10_partsCount) := goodIn_app (goodIn_of _ (by decide +kernel)) ggX11_findRests_X10_partsCount
set_option maxRecDepth 20000 in
theorem ggX11_findRests_X10_isAtRest : GoodIn wsX11_findRests wsX10_isAtRest := goodIn_r _ [12, 8, 13, 14, 15, 6, 16, 17, 18, 19, 20, 21, 22, 23, 24, 25, 26, 27, 28, 29, 30, 31, 32, 33, 34, 35, 36, 37, 38, 44, 45, 46, 47, 48, 49, 50, 51, 52, 53, 54, 55, 56, 57, 58, 59, 60] rfl (by decide +kernel)
set_option maxRecDepth 20000 in
theorem gX11_findRests_X10_isAtRest : GoodIn wsX11_findRests (wsV RX11 344 RX10 yX10_isAtRest wsX10_isAtRest) := goodIn_app (goodIn_of _ (by decide +kernel)) ggX11_findRests_X10_isAtRest
set_option maxRecDepth 20000 in
theorem ggX11_goesBetween_X0_whatIs : GoodIn wsX11_goesBetween wsX0_whatIs := goodIn_r _ [15, 16, 17, 18, 19, 20, 21, 22, 23, 80, 81, 82, 83, 63, 64, 65, 66, 67, 68, 69, 70, 71, 72, 73, 74, 75, 76, 77, 78, 79] rfl (by decide +kernel)
set_option maxRecDepth 20000 in
theorem gX11_goesBetween_X0_whatIs : GoodIn wsX11_goesBetween (wsV RX11 199 RX0 yX0_whatIs wsX0_whatIs) := goodIn_app (goodIn_of _ (by decide +kernel)) ggX11_goesBetween_X0_whatIs
set_option maxRecDepth 20000 in
theorem ggX11_goesBetween_X10_isIn : GoodIn wsX11_goesBetween wsX10_isIn := goodIn_r _ [28, 29, 30, 63, 64, 65, 66, 67, 68, 69, 70, 71, 72, 73, 74, 75, 76, 77, 78, 79] rfl (by decide +kernel)
set_option maxRecDepth 20000 in
theorem gX11_goesBetween_X10_isIn : GoodIn wsX11_goesBetween (wsV RX11 347 RX10 yX10_isIn wsX10_isIn) := goodIn_app (goodIn_of _ (by decide +kernel)) ggX11_goesBetween_X10_isIn
set_option maxRecDepth 20000 in
theorem ggX11_goesBetween_X0_wayDone : GoodIn wsX11_goesBetween wsX0_wayDone := goodIn_r _ [34, 16, 17, 21, 80, 81, 82, 83] rfl (by decide +kernel)
set_option maxRecDepth 20000 in
theorem gX11_goesBetween_X0_wayDone : GoodIn wsX11_goesBetween (wsV RX11 175 RX0 yX0_wayDone wsX0_wayDone) := goodIn_app (goodIn_of _ (by decide +kernel)) ggX11_goesBetween_X0_wayDone
set_option maxRecDepth 20000 in
theorem ggX11_goesBetween_X10_otherIn : GoodIn wsX11_goesBetween wsX10_otherIn := goodIn_r _ [38, 29, 30, 63, 64, 65, 66, 67, 68, 69, 70, 71, 72, 73, 74, 75, 76, 77, 78, 79] rfl (by decide +kernel)
set_option maxRecDepth 20000 in
theorem gX11_goesBetween_X10_otherIn : GoodIn wsX11_goesBetween (wsV RX11 350 RX10 yX10_otherIn wsX10_otherIn) := goodIn_app (goodIn_of _ (by decide +kernel)) ggX11_goesBetween_X10_otherIn
set_option maxRecDepth 20000 in
theorem ggX11_goesBetween_J6_bitCount_0f7a4 : GoodIn wsX11_goesBetween wsJ6_bitCount_0f7a4 := goodIn_r _ [42, 43, 44, 45] rfl (by decide +kernel)
set_option maxRecDepth 20000 in
theorem gX11_goesBetween_J6_bitCount_0f7a4 : GoodIn wsX11_goesBetween (va_wsS RX11 300 yJ6_bitCount_0f7a4 wsJ6_bitCount_0f7a4) := goodIn_app (goodIn_of _ (by decide +kernel)) ggX11_goesBetween_J6_bitCount_0f7a4
set_option maxRecDepth 20000 in
theorem ggX12_feed_X12_four : GoodIn wsX12_feed wsX12_four := goodIn_r _ [7, 8, 2, 9, 10, 11, 12, 13, 14, 15, 16, 17, 18, 19, 20, 21, 22, 23, 24, 25, 26, 27, 28, 29, 30, 31, 32, 33, 34, 35, 36, 37, 38, 39, 40, 41, 42, 43, 44, 45, 46, 47, 48, 49, 50, 51, 52, 53, 54, 55, 56, 57, 58, 59, 60, 61, 62, 63, 64, 65, 66] rfl (by decide +kernel)
set_option maxRecDepth 20000 in
theorem gX12_feed_X12_four : GoodIn wsX12_feed (wsV RX12 10 RX12 yX12_four wsX12_four) := goodIn_app (goodIn_of _ (by decide +kernel)) ggX12_feed_X12_four
set_option maxRecDepth 20000 in
theorem ggX12_skip_X12_peek : GoodIn wsX12_skip wsX12_peek := goodIn_r _ [13, 1, 4, 14, 21, 22, 23, 24, 25, 26, 27, 28, 29, 30, 31, 32, 33, 34, 35, 36, 37, 38, 39, 40, 41, 42, 43, 44, 45, 46, 47, 48, 49, 50, 51, 52, 53, 54, 55, 56, 57, 58, 59, 60, 61, 62, 63, 64, 65, 66, 67, 68, 69, 70, 71, 72, 73, 74, 75, 76, 77, 78] rfl (by decide +kernel)
set_option maxRecDepth 20000 in
theorem gX12_skip_X12_peek : GoodIn wsX12_skip (wsV RX12 155 RX12 yX12_peek wsX12_peek) := goodIn_app (goodIn_of _ (by decide +kernel)) ggX12_skip_X12_peek
set_option maxRecDepth 20000 in
theorem ggX12_skip_X12_isSmall : GoodIn wsX12_skip wsX12_isSmall := goodIn_r _ [17] rfl (by decide +kernel)
set_option maxRecDepth 20000 in
theorem gX12_skip_X12_isSmall : GoodIn wsX12_skip (va_wsS RX12 168 yX12_isSmall wsX12_isSmall) := goodIn_app (goodIn_of _ (by decide +kernel)) ggX12_skip_X12_isSmall
set_option maxRecDepth 20000 in
theorem ggX12_skip_X12_isDigit : GoodIn wsX12_skip wsX12_isDigit := goodIn_r _ [20] rfl (by decide +kernel)
set_option maxRecDepth 20000 in
theorem gX12_skip_X12_isDigit : GoodIn wsX12_skip (va_wsS RX12 172 yX12_isDigit wsX12_isDigit) := goodIn_app (goodIn_of _ (by decide +kernel)) ggX12_skip_X12_isDigit
set_option maxRecDepth 20000 in
theorem ggX12_sign_X12_isSign : GoodIn wsX12_sign wsX12_isSign := goodIn_r _ [5, 6, 7, 35, 36, 37, 38, 39, 40, 41, 42, 43, 44, 45, 46, 47, 48, 49, 50, 51, 52, 53, 54, 55, 56, 57, 58, 59, 60, 61, 62, 63, 64, 65, 66, 67, 68, 69, 70, 71, 72, 73, 74, 75, 76, 77, 78, 79, 80, 81, 82, 83, 84, 85, 86, 87, 88, 89, 90, 91, 92] rfl (by decide +kernel)
set_option maxRecDepth 20000 in
theorem gX12_sign_X12_isSign : GoodIn wsX12_sign (wsV RX12 188 RX12 yX12_isSign wsX12_isSign) := goodIn_app (goodIn_of _ (by decide +kernel)) ggX12_sign_X12_isSign
set_option maxRecDepth 20000 in
theorem ggX12_sign_X12_bad : GoodIn wsX12_sign wsX12_bad := goodIn_r _ [11, 12, 13, 14, 35, 36, 37, 38, 39, 40, 41, 42, 43, 44, 45, 46, 47, 48, 49, 50, 51, 52, 53, 54, 55, 56, 57, 58, 59, 60, 61, 62, 63, 64, 65, 66, 67, 68, 69, 70, 71, 72, 73, 74, 75, 76, 77, 78, 79, 80, 81, 82, 83, 84, 85, 86, 87, 88, 89, 90, 91, 92] rfl (by decide +kernel)
set_option maxRecDepth 20000 in
theorem gX12_sign_X12_bad : GoodIn wsX12_sign (wsV RX12 191 RX12 yX12_bad wsX12_bad) := goodIn_app (goodIn_of _ (by decide +kernel)) ggX12_sign_X12_bad
set_option maxRecDepth 20000 in
theorem ggX12_sign_X12_skip : GoodIn wsX12_sign wsX12_skip := goodIn_r _ [18, 19, 13, 20, 21, 22, 6, 7, 23, 24, 25, 26, 4, 27, 28, 29, 30, 31, 32, 33, 34, 35, 36, 37, 38, 39, 40, 41, 42, 43, 44, 45, 46, 47, 48, 49, 50, 51, 52, 53, 54, 55, 56, 57, 58, 59, 60, 61, 62, 63, 64, 65, 66, 67, 68, 69, 70, 71, 72, 73, 74, 75, 76, 77, 78, 79, 80, 81, 82, 83, 84, 85, 86, 87, 88, 89, 90, 91, 92] rfl (by decide +kernel)
set_option maxRecDepth 20000 in
theorem gX12_sign_X12_skip : GoodIn wsX12_sign (wsV RX12 194 RX12 yX12_skip wsX12_skip) := goodIn_app (goodIn_of _ (by decide +kernel)) ggX12_sign_X12_skip
set_option maxRecDepth 20000 in
theorem ggX12_takes_X12_bad : GoodIn wsX12_takes wsX12_bad := goodIn_r _ [8, 9, 10, 11, 35, 36, 37, 38, 39, 40, 41, 42, 43, 44, 45, 46, 47, 48, 49, 50, 51, 52, 53, 54, 55, 56, 57, 58, 59, 60, 61, 62, 63, 64, 65, 66, 67, 68, 69, 70, 71, 72, 73, 74, 75, 76, 77, 78, 79, 80, 81, 82, 83, 84, 85, 86, 87, 88, 89, 90, 91, 92] rfl (by decide +kernel)
set_option maxRecDepth 20000 in
theorem gX12_takes_X12_bad : GoodIn wsX12_takes (wsV RX12 191 RX12 yX12_bad wsX12_bad) := goodIn_app (goodIn_of _ (by decide +kernel)) ggX12_takes_X12_bad
set_option maxRecDepth 20000 in
theorem ggX12_takes_X12_isIn : GoodIn wsX12_takes wsX12_isIn := goodIn_r _ [14] rfl (by decide +kernel)
set_option maxRecDepth 20000 in
theorem gX12_takes_X12_isIn : GoodIn wsX12_takes (va_wsS RX12 197 yX12_isIn wsX12_isIn) := goodIn_app (goodIn_of _ (by decide +kernel)) ggX12_takes_X12_isIn
set_option maxRecDepth 20000 in
theorem ggX12_takes_X12_skip : GoodIn wsX12_takes wsX12_skip := goodIn_r _ [18, 19, 10, 20, 21, 22, 1, 2, 23, 24, 25, 26, 7, 27, 28, 29, 30, 31, 32, 33, 34, 35, 36, 37, 38, 39, 40, 41, 42, 43, 44, 45, 46, 47, 48, 49, 50, 51, 52, 53, 54, 55, 56, 57, 58, 59, 60, 61, 62, 63, 64, 65, 66, 67, 68, 69, 70, 71, 72, 73, 74, 75, 76, 77, 78, 79, 80, 81, 82, 83, 84, 85, 86, 87, 88, 89, 90, 91, 92] rfl (by decide +kernel)
set_option maxRecDepth 20000 in
theorem gX12_takes_X12_skip : GoodIn wsX12_takes (wsV RX12 194 RX12 yX12_skip wsX12_skip) := goodIn_app (goodIn_of _ (by decide +kernel)) ggX12_takes_X12_skip
set_option maxRecDepth 20000 in
theorem ggX12_fresh_X12_isName : GoodIn wsX12_fresh wsX12_isName := goodIn_r _ [8, 9, 3, 10, 42, 43, 44, 45, 46, 47, 48, 49, 50, 51, 52, 53, 54, 55, 56, 57, 58, 59, 60, 61, 62, 63, 64, 65, 66, 67, 68, 69, 70, 71, 72, 73, 74, 75, 76, 77, 78, 79, 80, 81, 82, 83, 84, 85, 86, 87, 88, 89, 90, 91, 92, 93, 94, 95, 96, 97, 98, 99] rfl (by decide +kernel)
set_option maxRecDepth 20000 in
theorem gX12_fresh_X12_isName : GoodIn wsX12_fresh (wsV RX12 204 RX12 yX12_isName wsX12_isName) := goodIn_app (goodIn_of _ (by decide +kernel)) ggX12_fresh_X12_isName
set_option maxRecDepth 20000 in
theorem ggX12_fresh_X12_bad : GoodIn wsX12_fresh wsX12_bad := goodIn_r _ [14, 15, 16, 17, 42, 43, 44, 45, 46, 47, 48, 49, 50, 51, 52, 53, 54, 55, 56, 57, 58, 59, 60, 61, 62, 63, 64, 65, 66, 67, 68, 69, 70, 71, 72, 73, 74, 75, 76, 77, 78, 79, 80, 81, 82, 83, 84, 85, 86, 87, 88, 89, 90, 91, 92, 93, 94, 95, 96, 97, 98, 99] rfl (by decide +kernel)
set_option maxRecDepth 20000 in
theorem gX12_fresh_X12_bad : GoodIn wsX12_fresh (wsV RX12 191 RX12 yX12_bad wsX12_bad) := goodIn_app (goodIn_of _ (by decide +kernel)) ggX12_fresh_X12_bad
set_option maxRecDepth 20000 in
theorem ggX12_fresh_X12_find : GoodIn wsX12_fresh wsX12_find := goodIn_r _ [21, 2, 3, 42, 43, 44, 45, 46, 47, 48, 49, 50, 51, 52, 53, 54, 55, 56, 57, 58, 59, 60, 61, 62, 63, 64, 65, 66, 67, 68, 69, 70, 71, 72, 73, 74, 75, 76, 77, 78, 79, 80, 81, 82, 83, 84, 85, 86, 87, 88, 89, 90, 91, 92, 93, 94, 95, 96, 97, 98, 99] rfl (by decide +kernel)
set_option maxRecDepth 20000 in
theorem gX12_fresh_X12_find : GoodIn wsX12_fresh (wsV RX12 208 RX12 yX12_find wsX12_find) := goodIn_app (goodIn_of _ (by decide +kernel)) ggX12_fresh_X12_find
set_option maxRecDepth 20000 in
theorem ggX12_fresh_X12_skip : GoodIn wsX12_fresh wsX12_skip := goodIn_r _ [25, 26, 16, 27, 28, 29, 9, 30, 3, 31, 32, 33, 7, 34, 35, 36, 37, 38, 39, 40, 41, 42, 43, 44, 45, 46, 47, 48, 49, 50, 51, 52, 53, 54, 55, 56, 57, 58, 59, 60, 61, 62, 63, 64, 65, 66, 67, 68, 69, 70, 71, 72, 73, 74, 75, 76, 77, 78, 79, 80, 81, 82, 83, 84, 85, 86, 87, 88, 89, 90, 91, 92, 93, 94, 95, 96, 97, 98, 99] rfl (by decide +kernel)
set_option maxRecDepth 20000 in
theorem gX12_fresh_X12_skip : GoodIn wsX12_fresh (wsV RX12 194 RX12 yX12_skip wsX12_skip) := goodIn_app (goodIn_of _ (by decide +kernel)) ggX12_fresh_X12_skip
set_option maxRecDepth 20000 in
theorem ggX12_takesPerson_X12_isName : GoodIn wsX12_takesPerson wsX12_isName := goodIn_r _ [7, 8, 9, 10, 43, 44, 45, 46, 47, 48, 49, 50, 51, 52, 53, 54, 55, 56, 57, 58, 59, 60, 61, 62, 63, 64, 65, 66, 67, 68, 69, 70, 71, 72, 73, 74, 75, 76, 77, 78, 79, 80, 81, 82, 83, 84, 85, 86, 87, 88, 89, 90, 91, 92, 93, 94, 95, 96, 97, 98, 99, 100] rfl (by decide +kernel)
set_option maxRecDepth 20000 in
theorem gX12_takesPerson_X12_isName : GoodIn wsX12_takesPerson (wsV RX12 204 RX12 yX12_isName wsX12_isName) := goodIn_app (goodIn_of _ (by decide +kernel)) ggX12_takesPerson_X12_isName
set_option maxRecDepth 20000 in
theorem ggX12_takesPerson_X12_bad : GoodIn wsX12_takesPerson wsX12_bad := goodIn_r _ [14, 15, 16, 17, 43, 44, 45, 46, 47, 48, 49, 50, 51, 52, 53, 54, 55, 56, 57, 58, 59, 60, 61, 62, 63, 64, 65, 66, 67, 68, 69, 70, 71, 72, 73, 74, 75, 76, 77, 78, 79, 80, 81, 82, 83, 84, 85, 86, 87, 88, 89, 90, 91, 92, 93, 94, 95, 96, 97, 98, 99, 100] rfl (by decide +kernel)
set_option maxRecDepth 20000 in
theorem gX12_takesPerson_X12_bad : GoodIn wsX12_takesPerson (wsV RX12 191 RX12 yX12_bad wsX12_bad) := goodIn_app (goodIn_of _ (by decide +kernel)) ggX12_takesPerson_X12_bad
set_option maxRecDepth 20000 in
theorem ggX12_takesPerson_X12_find : GoodIn wsX12_takesPerson wsX12_find := goodIn_r _ [21, 22, 9, 43, 44, 45, 46, 47, 48, 49, 50, 51, 52, 53, 54, 55, 56, 57, 58, 59, 60, 61, 62, 63, 64, 65, 66, 67, 68, 69, 70, 71, 72, 73, 74, 75, 76, 77, 78, 79, 80, 81, 82, 83, 84, 85, 86, 87, 88, 89, 90, 91, 92, 93, 94, 95, 96, 97, 98, 99, 100] rfl (by decide +kernel)
set_option maxRecDepth 20000 in
theorem gX12_takesPerson_X12_find : GoodIn wsX12_takesPerson (wsV RX12 208 RX12 yX12_find wsX12_find) := goodIn_app (goodIn_of _ (by decide +kernel)) ggX12_takesPerson_X12_find
set_option maxRecDepth 20000 in
theorem ggX12_takesPerson_X12_skip : GoodIn wsX12_takesPerson wsX12_skip := goodIn_r _ [26, 27, 16, 28, 29, 30, 8, 31, 9, 32, 33, 34, 6, 35, 36, 37, 38, 39, 40, 41, 42, 43, 44, 45, 46, 47, 48, 49, 50, 51, 52, 53, 54, 55, 56, 57, 58, 59, 60, 61, 62, 63, 64, 65, 66, 67, 68, 69, 70, 71, 72, 73, 74, 75, 76, 77, 78, 79, 80, 81, 82, 83, 84, 85, 86, 87, 88, 89, 90, 91, 92, 93, 94, 95, 96, 97, 98, 99, 100] rfl (by decide +kernel)
set_option maxRecDepth 20000 in
theorem gX12_takesPerson_X12_skip : GoodIn wsX12_takesPerson (wsV RX12 194 RX12 yX12_skip wsX12_skip) := goodIn_app (goodIn_of _ (by decide +kernel)) ggX12_takesPerson_X12_skip
set_option maxRecDepth 20000 in
theorem ggX12_line_X12_isWord : GoodIn wsX12_line wsX12_isWord := goodIn_r _ [15, 16, 17, 89, 90, 91, 92, 93, 94, 95, 96, 97, 98, 99, 100, 101, 102, 103, 104, 105, 106, 107, 108, 109, 110, 111, 112, 113, 114, 115, 116, 117, 118, 119, 120, 121, 122, 123, 124, 125, 126, 127, 128, 129, 130, 131, 132, 133, 134, 135, 136, 137, 138, 139, 140, 141, 142, 143, 144, 145, 146] rfl (by decide +kernel)
set_option maxRecDepth 20000 in
theorem gX12_line_X12_isWord : GoodIn wsX12_line (wsV RX12 212 RX12 yX12_isWord wsX12_isWord) := goodIn_app (goodIn_of _ (by decide +kernel)) ggX12_line_X12_isWord
set_option maxRecDepth 20000 in
theorem ggX12_line_X12_bad : GoodIn wsX12_line wsX12_bad := goodIn_r _ [21, 22, 23, 24, 89, 90, 91, 92, 93, 94, 95, 96, 97, 98, 99, 100, 101, 102, 103, 104, 105, 106, 107, 108, 109, 110, 111, 112, 113, 114, 115, 116, 117, 118, 119, 120, 121, 122, 123, 124, 125, 126, 127, 128, 129, 130, 131, 132, 133, 134, 135, 136, 137, 138, 139, 140, 141, 142, 143, 144, 145, 146] rfl (by decide +kernel)
set_option maxRecDepth 20000 in
theorem gX12_line_X12_bad : GoodIn wsX12_line (wsV RX12 191 RX12 yX12_bad wsX12_bad) := goodIn_app (goodIn_of _ (by decide +kernel)) ggX12_line_X12_bad
set_option maxRecDepth 20000 in
theorem ggX12_line_X12_skip : GoodIn wsX12_line wsX12_skip := goodIn_r _ [28, 29, 23, 30, 31, 32, 16, 33, 17, 34, 35, 36, 14, 37, 38, 39, 40, 41, 42, 43, 44, 89, 90, 91, 92, 93, 94, 95, 96, 97, 98, 99, 100, 101, 102, 103, 104, 105, 106, 107, 108, 109, 110, 111, 112, 113, 114, 115, 116, 117, 118, 119, 120, 121, 122, 123, 124, 125, 126, 127, 128, 129, 130, 131, 132, 133, 134, 135, 136, 137, 138, 139, 140, 141, 142, 143, 144, 145, 146] rfl (by decide +kernel)
set_option maxRecDepth 20000 in
theorem gX12_line_X12_skip : GoodIn wsX12_line (wsV RX12 194 RX12 yX12_skip wsX12_skip) := goodIn_app (goodIn_of _ (by decide +kernel)) ggX12_line_X12_skip
set_option maxRecDepth 20000 in
theorem ggX12_line_X12_fresh : GoodIn wsX12_line wsX12_fresh := goodIn_r _ [48, 2, 49, 17, 50, 51, 52, 14, 53, 16, 54, 18, 19, 20, 21, 22, 23, 24, 55, 56, 57, 58, 25, 26, 27, 28, 29, 30, 31, 32, 33, 34, 35, 36, 37, 38, 39, 40, 41, 42, 43, 44, 89, 90, 91, 92, 93, 94, 95, 96, 97, 98, 99, 100, 101, 102, 103, 104, 105, 106, 107, 108, 109, 110, 111, 112, 113, 114, 115, 116, 117, 118, 119, 120, 121, 122, 123, 124, 125, 126, 127, 128, 129, 130, 131, 132, 133, 134, 135, 136, 137, 138, 139, 140, 141, 142, 143, 144, 145, 146] rfl (by decide +kernel)
set_option maxRecDepth 20000 in
theorem gX12_line_X12_fresh : GoodIn wsX12_line (wsV RX12 216 RX12 yX12_fresh wsX12_fresh) := goodIn_app (goodIn_of _ (by decide +kernel)) ggX12_line_X12_fresh
set_option maxRecDepth 20000 in
theorem ggX12_line_X12_takes : GoodIn wsX12_line wsX12_takes := goodIn_r _ [62, 16, 33, 3, 18, 19, 20, 14, 21, 22, 23, 24, 63, 64, 65, 25, 26, 27, 28, 29, 30, 31, 32, 17, 34, 35, 36, 37, 38, 39, 40, 41, 42, 43, 44, 89, 90, 91, 92, 93, 94, 95, 96, 97, 98, 99, 100, 101, 102, 103, 104, 105, 106, 107, 108, 109, 110, 111, 112, 113, 114, 115, 116, 117, 118, 119, 120, 121, 122, 123, 124, 125, 126, 127, 128, 129, 130, 131, 132, 133, 134, 135, 136, 137, 138, 139, 140, 141, 142, 143, 144, 145, 146] rfl (by decide +kernel)
set_option maxRecDepth 20000 in
theorem gX12_line_X12_takes : GoodIn wsX12_line (wsV RX12 219 RX12 yX12_takes wsX12_takes) := goodIn_app (goodIn_of _ (by decide +kernel)) ggX12_line_X12_takes
set_option maxRecDepth 20000 in
theorem ggX12_line_X12_toldOf : GoodIn wsX12_line wsX12_toldOf := goodIn_r _ [69, 2, 3, 25, 26, 27, 14, 28, 29, 23, 30, 31, 32, 16, 33, 17, 34, 35, 36, 37, 38, 39, 40, 41, 42, 43, 44, 50, 51, 52, 53, 54, 18, 19, 20, 21, 22, 24, 55, 56, 57, 58, 49, 70, 71, 72, 89, 90, 91, 92, 93, 94, 95, 96, 97, 98, 99, 100, 101, 102, 103, 104, 105, 106, 107, 108, 109, 110, 111, 112, 113, 114, 115, 116, 117, 118, 119, 120, 121, 122, 123, 124, 125, 126, 127, 128, 129, 130, 131, 132, 133, 134, 135, 136, 137, 138, 139, 140, 141, 142, 143, 144, 145, 146] rfl (by decide +kernel)
set_option maxRecDepth 20000 in
theorem gX12_line_X12_toldOf : GoodIn wsX12_line (wsV RX12 226 RX12 yX12_toldOf wsX12_toldOf) := goodIn_app (goodIn_of _ (by decide +kernel)) ggX12_line_X12_toldOf
set_option maxRecDepth 20000 in
theorem ggX12_line_X12_readDeal : GoodIn wsX12_line wsX12_readDeal := goodIn_r _ [76, 2, 3, 77, 18, 19, 20, 14, 21, 22, 23, 24, 25, 26, 27, 28, 29, 30, 31, 32, 16, 33, 17, 34, 35, 36, 37, 38, 39, 40, 41, 42, 43, 44, 45, 46, 47, 48, 49, 50, 51, 52, 53, 54, 55, 56, 57, 58, 78, 79, 80, 81, 59, 60, 61, 62, 63, 64, 65, 11, 12, 13, 15, 89, 90, 91, 92, 93, 94, 95, 96, 97, 98, 99, 100, 101, 102, 103, 104, 105, 106, 107, 108, 109, 110, 111, 112, 113, 114, 115, 116, 117, 118, 119, 120, 121, 122, 123, 124, 125, 126, 127, 128, 129, 130, 131, 132, 133, 134, 135, 136, 137, 138, 139, 140, 141, 142, 143, 144, 145, 146] rfl (by decide +kernel)
set_option maxRecDepth 20000 in
theorem gX12_line_X12_readDeal : GoodIn wsX12_line (wsV RX12 229 RX12 yX12_readDeal wsX12_readDeal) := goodIn_app (goodIn_of _ (by decide +kernel)) ggX12_line_X12_readDeal
set_option maxRecDepth 20000 in
theorem ggX12_line_X12_readLaw : GoodIn wsX12_line wsX12_readLaw := goodIn_r _ [85, 86, 87, 88, 2, 3, 18, 19, 20, 14, 21, 22, 23, 24, 25, 26, 27, 28, 29, 30, 31, 32, 16, 33, 17, 34, 35, 36, 37, 38, 39, 40, 41, 42, 43, 44, 11, 12, 13, 15, 59, 60, 61, 62, 63, 64, 65, 89, 90, 91, 92, 93, 94, 95, 96, 97, 98, 99, 100, 101, 102, 103, 104, 105, 106, 107, 108, 109, 110, 111, 112, 113, 114, 115, 116, 117, 118, 119, 120, 121, 122, 123, 124, 125, 126, 127, 128, 129, 130, 131, 132, 133, 134, 135, 136, 137, 138, 139, 140, 141, 142, 143, 144, 145, 146] rfl (by decide +kernel)
set_option maxRecDepth 20000 in
theorem gX12_line_X12_readLaw : GoodIn wsX12_line (wsV RX12 232 RX12 yX12_readLaw wsX12_readLaw) := goodIn_app (goodIn_of _ (by decide +kernel)) ggX12_line_X12_readLaw
set_option maxRecDepth 20000 in
theorem ggX12_toldOf_X12_skip : GoodIn wsX12_toldOf wsX12_skip := goodIn_r _ [7, 8, 9, 10, 11, 12, 13, 14, 15, 16, 17, 18, 6, 19, 20, 21, 22, 23, 24, 25, 26, 46, 47, 48, 49, 50, 51, 52, 53, 54, 55, 56, 57, 58, 59, 60, 61, 62, 63, 64, 65, 66, 67, 68, 69, 70, 71, 72, 73, 74, 75, 76, 77, 78, 79, 80, 81, 82, 83, 84, 85, 86, 87, 88, 89, 90, 91, 92, 93, 94, 95, 96, 97, 98, 99, 100, 101, 102, 103] rfl (by decide +kernel)
set_option maxRecDepth 20000 in
theorem gX12_toldOf_X12_skip : GoodIn wsX12_toldOf (wsV RX12 194 RX12 yX12_skip wsX12_skip) := goodIn_app (goodIn_of _ (by decide +kernel)) ggX12_toldOf_X12_skip
set_option maxRecDepth 20000 in
theorem ggX12_toldOf_X12_isName : GoodIn wsX12_toldOf wsX12_isName := goodIn_r _ [30, 13, 15, 31, 46, 47, 48, 49, 50, 51, 52, 53, 54, 55, 56, 57, 58, 59, 60, 61, 62, 63, 64, 65, 66, 67, 68, 69, 70, 71, 72, 73, 74, 75, 76, 77, 78, 79, 80, 81, 82, 83, 84, 85, 86, 87, 88, 89, 90, 91, 92, 93, 94, 95, 96, 97, 98, 99, 100, 101, 102, 103] rfl (by decide +kernel)
set_option maxRecDepth 20000 in
theorem gX12_toldOf_X12_isName : GoodIn wsX12_toldOf (wsV RX12 204 RX12 yX12_isName wsX12_isName) := goodIn_app (goodIn_of _ (by decide +kernel)) ggX12_toldOf_X12_isName
set_option maxRecDepth 20000 in
theorem ggX12_toldOf_X12_bad : GoodIn wsX12_toldOf wsX12_bad := goodIn_r _ [35, 36, 9, 37, 46, 47, 48, 49, 50, 51, 52, 53, 54, 55, 56, 57, 58, 59, 60, 61, 62, 63, 64, 65, 66, 67, 68, 69, 70, 71, 72, 73, 74, 75, 76, 77, 78, 79, 80, 81, 82, 83, 84, 85, 86, 87, 88, 89, 90, 91, 92, 93, 94, 95, 96, 97, 98, 99, 100, 101, 102, 103] rfl (by decide +kernel)
set_option maxRecDepth 20000 in
theorem gX12_toldOf_X12_bad : GoodIn wsX12_toldOf (wsV RX12 191 RX12 yX12_bad wsX12_bad) := goodIn_app (goodIn_of _ (by decide +kernel)) ggX12_toldOf_X12_bad
set_option maxRecDepth 20000 in
theorem ggX12_toldOf_X12_find : GoodIn wsX12_toldOf wsX12_find := goodIn_r _ [41, 42, 15, 46, 47, 48, 49, 50, 51, 52, 53, 54, 55, 56, 57, 58, 59, 60, 61, 62, 63, 64, 65, 66, 67, 68, 69, 70, 71, 72, 73, 74, 75, 76, 77, 78, 79, 80, 81, 82, 83, 84, 85, 86, 87, 88, 89, 90, 91, 92, 93, 94, 95, 96, 97, 98, 99, 100, 101, 102, 103] rfl (by decide +kernel)
set_option maxRecDepth 20000 in
theorem gX12_toldOf_X12_find : GoodIn wsX12_toldOf (wsV RX12 208 RX12 yX12_find wsX12_find) := goodIn_app (goodIn_of _ (by decide +kernel)) ggX12_toldOf_X12_find
set_option maxRecDepth 20000 in
theorem ggX12_toldOf_X12_has : GoodIn wsX12_toldOf wsX12_has := goodIn_r _ [45] rfl (by decide +kernel)
set_option maxRecDepth 20000 in
theorem gX12_toldOf_X12_has : GoodIn wsX12_toldOf (va_wsS RX12 235 yX12_has wsX12_has) := goodIn_app (goodIn_of _ (by decide +kernel)) ggX12_toldOf_X12_has
set_option maxRecDepth 20000 in
theorem ggX12_readLaw_X12_bad : GoodIn wsX12_readLaw wsX12_bad := goodIn_r _ [10, 11, 12, 13, 47, 48, 49, 50, 51, 52, 53, 54, 55, 56, 57, 58, 59, 60, 61, 62, 63, 64, 65, 66, 67, 68, 69, 70, 71, 72, 73, 74, 75, 76, 77, 78, 79, 80, 81, 82, 83, 84, 85, 86, 87, 88, 89, 90, 91, 92, 93, 94, 95, 96, 97, 98, 99, 100, 101, 102, 103, 104] rfl (by decide +kernel)
set_option maxRecDepth 20000 in
theorem gX12_readLaw_X12_bad : GoodIn wsX12_readLaw (wsV RX12 191 RX12 yX12_bad wsX12_bad) := goodIn_app (goodIn_of _ (by decide +kernel)) ggX12_readLaw_X12_bad
set_option maxRecDepth 20000 in
theorem ggX12_readLaw_X12_skip : GoodIn wsX12_readLaw wsX12_skip := goodIn_r _ [17, 18, 12, 19, 20, 21, 22, 23, 24, 25, 26, 27, 9, 28, 29, 30, 31, 32, 33, 34, 35, 47, 48, 49, 50, 51, 52, 53, 54, 55, 56, 57, 58, 59, 60, 61, 62, 63, 64, 65, 66, 67, 68, 69, 70, 71, 72, 73, 74, 75, 76, 77, 78, 79, 80, 81, 82, 83, 84, 85, 86, 87, 88, 89, 90, 91, 92, 93, 94, 95, 96, 97, 98, 99, 100, 101, 102, 103, 104] rfl (by decide +kernel)
set_option maxRecDepth 20000 in
theorem gX12_readLaw_X12_skip : GoodIn wsX12_readLaw (wsV RX12 194 RX12 yX12_skip wsX12_skip) := goodIn_app (goodIn_of _ (by decide +kernel)) ggX12_readLaw_X12_skip
set_option maxRecDepth 20000 in
theorem ggX12_readLaw_X12_isWord : GoodIn wsX12_readLaw wsX12_isWord := goodIn_r _ [39, 22, 24, 47, 48, 49, 50, 51, 52, 53, 54, 55, 56, 57, 58, 59, 60, 61, 62, 63, 64, 65, 66, 67, 68, 69, 70, 71, 72, 73, 74, 75, 76, 77, 78, 79, 80, 81, 82, 83, 84, 85, 86, 87, 88, 89, 90, 91, 92, 93, 94, 95, 96, 97, 98, 99, 100, 101, 102, 103, 104] rfl (by decide +kernel)
set_option maxRecDepth 20000 in
theorem gX12_readLaw_X12_isWord : GoodIn wsX12_readLaw (wsV RX12 212 RX12 yX12_isWord wsX12_isWord) := goodIn_app (goodIn_of _ (by decide +kernel)) ggX12_readLaw_X12_isWord
set_option maxRecDepth 20000 in
theorem ggX12_readLaw_X12_takes : GoodIn wsX12_readLaw wsX12_takes := goodIn_r _ [43, 22, 23, 5, 6, 7, 8, 9, 10, 11, 12, 13, 44, 45, 46, 14, 15, 16, 17, 18, 19, 20, 21, 24, 25, 26, 27, 28, 29, 30, 31, 32, 33, 34, 35, 47, 48, 49, 50, 51, 52, 53, 54, 55, 56, 57, 58, 59, 60, 61, 62, 63, 64, 65, 66, 67, 68, 69, 70, 71, 72, 73, 74, 75, 76, 77, 78, 79, 80, 81, 82, 83, 84, 85, 86, 87, 88, 89, 90, 91, 92, 93, 94, 95, 96, 97, 98, 99, 100, 101, 102, 103, 104] rfl (by decide +kernel)
set_option maxRecDepth 20000 in
theorem gX12_readLaw_X12_takes : GoodIn wsX12_readLaw (wsV RX12 219 RX12 yX12_takes wsX12_takes) := goodIn_app (goodIn_of _ (by decide +kernel)) ggX12_readLaw_X12_takes
set_option maxRecDepth 20000 in
theorem ggX12_readDeal_X12_bad : GoodIn wsX12_readDeal wsX12_bad := goodIn_r _ [8, 9, 10, 11, 63, 64, 65, 66, 67, 68, 69, 70, 71, 72, 73, 74, 75, 76, 77, 78, 79, 80, 81, 82, 83, 84, 85, 86, 87, 88, 89, 90, 91, 92, 93, 94, 95, 96, 97, 98, 99, 100, 101, 102, 103, 104, 105, 106, 107, 108, 109, 110, 111, 112, 113, 114, 115, 116, 117, 118, 119, 120] rfl (by decide +kernel)
set_option maxRecDepth 20000 in
theorem gX12_readDeal_X12_bad : GoodIn wsX12_readDeal (wsV RX12 191 RX12 yX12_bad wsX12_bad) := goodIn_app (goodIn_of _ (by decide +kernel)) ggX12_readDeal_X12_bad
set_option maxRecDepth 20000 in
theorem ggX12_readDeal_X12_skip : GoodIn wsX12_readDeal wsX12_skip := goodIn_r _ [15, 16, 10, 17, 18, 19, 20, 21, 22, 23, 24, 25, 7, 26, 27, 28, 29, 30, 31, 32, 33, 63, 64, 65, 66, 67, 68, 69, 70, 71, 72, 73, 74, 75, 76, 77, 78, 79, 80, 81, 82, 83, 84, 85, 86, 87, 88, 89, 90, 91, 92, 93, 94, 95, 96, 97, 98, 99, 100, 101, 102, 103, 104, 105, 106, 107, 108, 109, 110, 111, 112, 113, 114, 115, 116, 117, 118, 119, 120] rfl (by decide +kernel)
set_option maxRecDepth 20000 in
theorem gX12_readDeal_X12_skip : GoodIn wsX12_readDeal (wsV RX12 194 RX12 yX12_skip wsX12_skip) := goodIn_app (goodIn_of _ (by decide +kernel)) ggX12_readDeal_X12_skip
set_option maxRecDepth 20000 in
theorem ggX12_readDeal_X12_fresh : GoodIn wsX12_readDeal wsX12_fresh := goodIn_r _ [37, 1, 38, 22, 39, 40, 41, 7, 42, 20, 43, 4, 5, 6, 8, 9, 10, 11, 44, 45, 46, 47, 12, 13, 14, 15, 16, 17, 18, 19, 21, 23, 24, 25, 26, 27, 28, 29, 30, 31, 32, 33, 63, 64, 65, 66, 67, 68, 69, 70, 71, 72, 73, 74, 75, 76, 77, 78, 79, 80, 81, 82, 83, 84, 85, 86, 87, 88, 89, 90, 91, 92, 93, 94, 95, 96, 97, 98, 99, 100, 101, 102, 103, 104, 105, 106, 107, 108, 109, 110, 111, 112, 113, 114, 115, 116, 117, 118, 119, 120] rfl (by decide +kernel)
set_option maxRecDepth 20000 in
theorem gX12_readDeal_X12_fresh : GoodIn wsX12_readDeal (wsV RX12 216 RX12 yX12_fresh wsX12_fresh) := goodIn_app (goodIn_of _ (by decide +kernel)) ggX12_readDeal_X12_fresh
set_option maxRecDepth 20000 in
theorem ggX12_readDeal_X12_takesPerson : GoodIn wsX12_readDeal wsX12_takesPerson := goodIn_r _ [51, 1, 2, 39, 40, 41, 7, 42, 20, 22, 43, 4, 5, 6, 8, 9, 10, 11, 44, 45, 46, 47, 38, 12, 13, 14, 15, 16, 17, 18, 19, 21, 23, 24, 25, 26, 27, 28, 29, 30, 31, 32, 33, 63, 64, 65, 66, 67, 68, 69, 70, 71, 72, 73, 74, 75, 76, 77, 78, 79, 80, 81, 82, 83, 84, 85, 86, 87, 88, 89, 90, 91, 92, 93, 94, 95, 96, 97, 98, 99, 100, 101, 102, 103, 104, 105, 106, 107, 108, 109, 110, 111, 112, 113, 114, 115, 116, 117, 118, 119, 120] rfl (by decide +kernel)
set_option maxRecDepth 20000 in
theorem gX12_readDeal_X12_takesPerson : GoodIn wsX12_readDeal (wsV RX12 241 RX12 yX12_takesPerson wsX12_takesPerson) := goodIn_app (goodIn_of _ (by decide +kernel)) ggX12_readDeal_X12_takesPerson
set_option maxRecDepth 20000 in
theorem ggX12_readDeal_X12_takes : GoodIn wsX12_readDeal wsX12_takes := goodIn_r _ [55, 20, 21, 2, 4, 5, 6, 7, 8, 9, 10, 11, 56, 57, 58, 12, 13, 14, 15, 16, 17, 18, 19, 22, 23, 24, 25, 26, 27, 28, 29, 30, 31, 32, 33, 63, 64, 65, 66, 67, 68, 69, 70, 71, 72, 73, 74, 75, 76, 77, 78, 79, 80, 81, 82, 83, 84, 85, 86, 87, 88, 89, 90, 91, 92, 93, 94, 95, 96, 97, 98, 99, 100, 101, 102, 103, 104, 105, 106, 107, 108, 109, 110, 111, 112, 113, 114, 115, 116, 117, 118, 119, 120] rfl (by decide +kernel)
set_option maxRecDepth 20000 in
theorem gX12_readDeal_X12_takes : GoodIn wsX12_readDeal (wsV RX12 219 RX12 yX12_takes wsX12_takes) := goodIn_app (goodIn_of _ (by decide +kernel)) ggX12_readDeal_X12_takes
set_option maxRecDepth 20000 in
theorem ggX12_readDeal_X12_isWord : GoodIn wsX12_readDeal wsX12_isWord := goodIn_r _ [62, 20, 22, 63, 64, 65, 66, 67, 68, 69, 70, 71, 72, 73, 74, 75, 76, 77, 78, 79, 80, 81, 82, 83, 84, 85, 86, 87, 88, 89, 90, 91, 92, 93, 94, 95, 96, 97, 98, 99, 100, 101, 102, 103, 104, 105, 106, 107, 108, 109, 110, 111, 112, 113, 114, 115, 116, 117, 118, 119, 120] rfl (by decide +kernel)
set_option maxRecDepth 20000 in
theorem gX12_readDeal_X12_isWord : GoodIn wsX12_readDeal (wsV RX12 212 RX12 yX12_isWord wsX12_isWord) := goodIn_app (goodIn_of _ (by decide +kernel)) ggX12_readDeal_X12_isWord
set_option maxRecDepth 20000 in
theorem ggX12_town_X12_taken : GoodIn wsX12_town wsX12_taken := goodIn_r _ [16, 17, 18, 19, 20, 110, 111, 112, 113, 114, 115, 116, 117, 118, 119, 120, 121, 122, 123, 124, 125, 126, 127, 128, 129, 130, 131, 132, 133, 134, 135, 136, 137, 138, 139, 140, 141, 142, 143, 144, 145, 146, 147, 148, 149, 150, 151, 152, 153, 154, 155, 156, 157, 158, 159, 160, 161, 162, 163, 164, 165, 166, 167] rfl (by decide +kernel)
set_option maxRecDepth 20000 in
theorem gX12_town_X12_taken : GoodIn wsX12_town (wsV RX12 244 RX12 yX12_taken wsX12_taken) := goodIn_app (goodIn_of _ (by decide +kernel)) ggX12_town_X12_taken
set_option maxRecDepth 20000 in
theorem ggX12_town_X12_skip : GoodIn wsX12_town wsX12_skip := goodIn_r _ [24, 19, 25, 26, 18, 20, 7, 27, 28, 29, 30, 31, 15, 32, 33, 34, 35, 36, 37, 38, 39, 110, 111, 112, 113, 114, 115, 116, 117, 118, 119, 120, 121, 122, 123, 124, 125, 126, 127, 128, 129, 130, 131, 132, 133, 134, 135, 136, 137, 138, 139, 140, 141, 142, 143, 144, 145, 146, 147, 148, 149, 150, 151, 152, 153, 154, 155, 156, 157, 158, 159, 160, 161, 162, 163, 164, 165, 166, 167] rfl (by decide +kernel)
set_option maxRecDepth 20000 in
theorem gX12_town_X12_skip : GoodIn wsX12_town (wsV RX12 194 RX12 yX12_skip wsX12_skip) := goodIn_app (goodIn_of _ (by decide +kernel)) ggX12_town_X12_skip
set_option maxRecDepth 20000 in
theorem ggX12_town_X12_line : GoodIn wsX12_town wsX12_line := goodIn_r _ [43, 44, 6, 45, 46, 4, 47, 48, 49, 50, 51, 52, 53, 54, 15, 55, 7, 28, 56, 57, 58, 59, 2, 25, 8, 21, 22, 23, 24, 19, 26, 18, 20, 27, 29, 30, 31, 32, 33, 34, 35, 36, 37, 38, 39, 60, 61, 62, 63, 10, 64, 65, 66, 67, 68, 69, 70, 71, 72, 73, 74, 75, 76, 77, 78, 79, 80, 81, 82, 83, 84, 85, 86, 87, 88, 89, 90, 91, 92, 93, 94, 95, 96, 97, 98, 99, 5, 100, 101, 110, 111, 112, 113, 114, 115, 116, 117, 118, 119, 120, 121, 122, 123, 124, 125, 126, 127, 128, 129, 130, 131, 132, 133, 134, 135, 136, 137, 138, 139, 140, 141, 142, 143, 144, 145, 146, 147, 148, 149, 150, 151, 152, 153, 154, 155, 156, 157, 158, 159, 160, 161, 162, 163, 164, 165, 166, 167] rfl (by decide +kernel)
set_option maxRecDepth 20000 in
theorem gX12_town_X12_line : GoodIn wsX12_town (wsV RX12 250 RX12 yX12_line wsX12_line) := goodIn_app (goodIn_of _ (by decide +kernel)) ggX12_town_X12_line
set_option maxRecDepth 20000 in
theorem ggX12_town_X12_sign : GoodIn wsX12_town wsX12_sign := goodIn_r _ [105, 106, 107, 108, 15, 109, 7, 27, 56, 57, 58, 59, 2, 25, 8, 21, 22, 23, 24, 19, 26, 18, 20, 28, 29, 30, 31, 32, 33, 34, 35, 36, 37, 38, 39, 110, 111, 112, 113, 114, 115, 116, 117, 118, 119, 120, 121, 122, 123, 124, 125, 126, 127, 128, 129, 130, 131, 132, 133, 134, 135, 136, 137, 138, 139, 140, 141, 142, 143, 144, 145, 146, 147, 148, 149, 150, 151, 152, 153, 154, 155, 156, 157, 158, 159, 160, 161, 162, 163, 164, 165, 166, 167] rfl (by decide +kernel)
set_option maxRecDepth 20000 in
theorem gX12_town_X12_sign : GoodIn wsX12_town (wsV RX12 253 RX12 yX12_sign wsX12_sign) := goodIn_app (goodIn_of _ (by decide +kernel)) ggX12_town_X12_sign
set_option maxRecDepth 20000 in
theorem ggX12_isPerson_X12_isIn : GoodIn wsX12_isPerson wsX12_isIn := goodIn_r _ [5] rfl (by decide +kernel)
set_option maxRecDepth 20000 in
theorem gX12_isPerson_X12_isIn : GoodIn wsX12_isPerson (va_wsS RX12 197 yX12_isIn wsX12_isIn) := goodIn_app (goodIn_of _ (by decide +kernel)) ggX12_isPerson_X12_isIn
set_option maxRecDepth 20000 in
theorem ggX12_isDeal_X12_isIn : GoodIn wsX12_isDeal wsX12_isIn := goodIn_r _ [5] rfl (by decide +kernel)
set_option maxRecDepth 20000 in
theorem gX12_isDeal_X12_isIn : GoodIn wsX12_isDeal (va_wsS RX12 197 yX12_isIn wsX12_isIn) := goodIn_app (goodIn_of _ (by decide +kernel)) ggX12_isDeal_X12_isIn
set_option maxRecDepth 20000 in
theorem ggX12_isParts_X12_isIn : GoodIn wsX12_isParts wsX12_isIn := goodIn_r _ [5] rfl (by decide +kernel)
set_option maxRecDepth 20000 in
theorem gX12_isParts_X12_isIn : GoodIn wsX12_isParts (va_wsS RX12 197 yX12_isIn wsX12_isIn) := goodIn_app (goodIn_of _ (by decide +kernel)) ggX12_isParts_X12_isIn
set_option maxRecDepth 20000 in
theorem ggX12_person_X12_isPerson : GoodIn wsX12_person wsX12_isPerson := goodIn_r _ [6, 1, 7, 8, 5, 9, 15, 16, 17, 18, 19, 20, 21, 22, 23, 24, 25, 26, 27, 28, 29, 30, 31, 32, 33, 34, 35, 36, 37, 38, 39, 40, 41, 42, 43, 44, 45, 46, 47, 48, 49, 50, 51, 52, 53, 54, 55, 56, 57, 58, 59, 60, 61, 62, 63, 64, 65, 66, 67, 68, 69, 70, 71, 72] rfl (by decide +kernel)
set_option maxRecDepth 20000 in
theorem gX12_person_X12_isPerson : GoodIn wsX12_person (wsV RX12 256 RX12 yX12_isPerson wsX12_isPerson) := goodIn_app (goodIn_of _ (by decide +kernel)) ggX12_person_X12_isPerson
set_option maxRecDepth 20000 in
theorem ggX12_person_X12_isIn : GoodIn wsX12_person wsX12_isIn := goodIn_r _ [9] rfl (by decide +kernel)
set_option maxRecDepth 20000 in
theorem gX12_person_X12_isIn : GoodIn wsX12_person (va_wsS RX12 197 yX12_isIn wsX12_isIn) := goodIn_app (goodIn_of _ (by decide +kernel)) ggX12_person_X12_isIn
set_option maxRecDepth 20000 in
theorem ggX12_person_X12_throwsIf : GoodIn wsX12_person wsX12_throwsIf := goodIn_r _ [13, 14, 15, 16, 17, 18, 19, 20, 21, 22, 23, 24, 25, 26, 27, 28, 29, 30, 31, 32, 33, 34, 35, 36, 37, 38, 39, 40, 41, 42, 43, 44, 45, 46, 47, 48, 49, 50, 51, 52, 53, 54, 55, 56, 57, 58, 59, 60, 61, 62, 63, 64, 65, 66, 67, 68, 69, 70, 71, 72] rfl (by decide +kernel)
set_option maxRecDepth 20000 in
theorem gX12_person_X12_throwsIf : GoodIn wsX12_person (wsV RX12 259 RX12 yX12_throwsIf wsX12_throwsIf) := goodIn_app (goodIn_of _ (by decide +kernel)) ggX12_person_X12_throwsIf
set_option maxRecDepth 20000 in
theorem ggX12_deal_X12_isDeal : GoodIn wsX12_deal wsX12_isDeal := goodIn_r _ [5, 6, 7, 8, 4, 9, 23, 24, 25, 26, 27, 28, 29, 30, 31, 32, 33, 34, 35, 36, 37, 38, 39, 40, 41, 42, 43, 44, 45, 46, 47, 48, 49, 50, 51, 52, 53, 54, 55, 56, 57, 58, 59, 60, 61, 62, 63, 64, 65, 66, 67, 68, 69, 70, 71, 72, 73, 74, 75, 76, 77, 78, 79, 80] rfl (by decide +kernel)
set_option maxRecDepth 20000 in
theorem gX12_deal_X12_isDeal : GoodIn wsX12_deal (wsV RX12 263 RX12 yX12_isDeal wsX12_isDeal) := goodIn_app (goodIn_of _ (by decide +kernel)) ggX12_deal_X12_isDeal
set_option maxRecDepth 20000 in
theorem ggX12_deal_X12_isIn : GoodIn wsX12_deal wsX12_isIn := goodIn_r _ [9] rfl (by decide +kernel)
set_option maxRecDepth 20000 in
theorem gX12_deal_X12_isIn : GoodIn wsX12_deal (va_wsS RX12 197 yX12_isIn wsX12_isIn) := goodIn_app (goodIn_of _ (by decide +kernel)) ggX12_deal_X12_isIn
set_option maxRecDepth 20000 in
theorem ggX12_deal_X12_throwsIf : GoodIn wsX12_deal wsX12_throwsIf := goodIn_r _ [13, 14, 23, 24, 25, 26, 27, 28, 29, 30, 31, 32, 33, 34, 35, 36, 37, 38, 39, 40, 41, 42, 43, 44, 45, 46, 47, 48, 49, 50, 51, 52, 53, 54, 55, 56, 57, 58, 59, 60, 61, 62, 63, 64, 65, 66, 67, 68, 69, 70, 71, 72, 73, 74, 75, 76, 77, 78, 79, 80] rfl (by decide +kernel)
set_option maxRecDepth 20000 in
theorem gX12_deal_X12_throwsIf : GoodIn wsX12_deal (wsV RX12 259 RX12 yX12_throwsIf wsX12_throwsIf) := goodIn_app (goodIn_of _ (by decide +kernel)) ggX12_deal_X12_throwsIf
set_option maxRecDepth 20000 in
theorem ggX12_deal_X12_of : GoodIn wsX12_deal wsX12_of := goodIn_r _ [18, 6, 23, 24, 25, 26, 27, 28, 29, 30, 31, 32, 33, 34, 35, 36, 37, 38, 39, 40, 41, 42, 43, 44, 45, 46, 47, 48, 49, 50, 51, 52, 53, 54, 55, 56, 57, 58, 59, 60, 61, 62, 63, 64, 65, 66, 67, 68, 69, 70, 71, 72, 73, 74, 75, 76, 77, 78, 79, 80] rfl (by decide +kernel)
set_option maxRecDepth 20000 in
theorem gX12_deal_X12_of : GoodIn wsX12_deal (wsV RX12 266 RX12 yX12_of wsX12_of) := goodIn_app (goodIn_of _ (by decide +kernel)) ggX12_deal_X12_of
set_option maxRecDepth 20000 in
theorem ggX12_deal_X12_doneAs : GoodIn wsX12_deal wsX12_doneAs := goodIn_r _ [22, 6, 23, 24, 25, 26, 27, 28, 29, 30, 31, 32, 33, 34, 35, 36, 37, 38, 39, 40, 41, 42, 43, 44, 45, 46, 47, 48, 49, 50, 51, 52, 53, 54, 55, 56, 57, 58, 59, 60, 61, 62, 63, 64, 65, 66, 67, 68, 69, 70, 71, 72, 73, 74, 75, 76, 77, 78, 79, 80] rfl (by decide +kernel)
set_option maxRecDepth 20000 in
theorem gX12_deal_X12_doneAs : GoodIn wsX12_deal (wsV RX12 269 RX12 yX12_doneAs wsX12_doneAs) := goodIn_app (goodIn_of _ (by decide +kernel)) ggX12_deal_X12_doneAs
set_option maxRecDepth 20000 in
theorem ggX12_lender_X12_of : GoodIn wsX12_lender wsX12_of := goodIn_r _ [5, 6, 7, 8, 9, 10, 11, 12, 13, 14, 15, 16, 17, 18, 19, 20, 21, 22, 23, 24, 25, 26, 27, 28, 29, 30, 31, 32, 33, 34, 35, 36, 37, 38, 39, 40, 41, 42, 43, 44, 45, 46, 47, 48, 49, 50, 51, 52, 53, 54, 55, 56, 57, 58, 59, 60, 61, 62, 63, 64] rfl (by decide +kernel)
set_option maxRecDepth 20000 in
theorem gX12_lender_X12_of : GoodIn wsX12_lender (wsV RX12 266 RX12 yX12_of wsX12_of) := goodIn_app (goodIn_of _ (by decide +kernel)) ggX12_lender_X12_of
set_option maxRecDepth 20000 in
theorem ggX12_borrower_X12_of : GoodIn wsX12_borrower wsX12_of := goodIn_r _ [5, 6, 7, 8, 9, 10, 11, 12, 13, 14, 15, 16, 17, 18, 19, 20, 21, 22, 23, 24, 25, 26, 27, 28, 29, 30, 31, 32, 33, 34, 35, 36, 37, 38, 39, 40, 41, 42, 43, 44, 45, 46, 47, 48, 49, 50, 51, 52, 53, 54, 55, 56, 57, 58, 59, 60, 61, 62, 63, 64] rfl (by decide +kernel)
set_option maxRecDepth 20000 in
theorem gX12_borrower_X12_of : GoodIn wsX12_borrower (wsV RX12 266 RX12 yX12_of wsX12_of) := goodIn_app (goodIn_of _ (by decide +kernel)) ggX12_borrower_X12_of
set_option maxRecDepth 20000 in
theorem ggX12_bind_X12_of : GoodIn wsX12_bind wsX12_of := goodIn_r _ [7, 2, 25, 26, 27, 28, 29, 30, 31, 32, 33, 34, 35, 36, 37, 38, 39, 40, 41, 42, 43, 44, 45, 46, 47, 48, 49, 50, 51, 52, 53, 54, 55, 56, 57, 58, 59, 60, 61, 62, 63, 64, 65, 66, 67, 68, 69, 70, 71, 72, 73, 74, 75, 76, 77, 78, 79, 80, 81, 82] rfl (by decide +kernel)
set_option maxRecDepth 20000 in
theorem gX12_bind_X12_of : GoodIn wsX12_bind (wsV RX12 266 RX12 yX12_of wsX12_of) := goodIn_app (goodIn_of _ (by decide +kernel)) ggX12_bind_X12_of
set_option maxRecDepth 20000 in
theorem ggX12_bind_X12_lender : GoodIn wsX12_bind wsX12_lender := goodIn_r _ [11, 3, 4, 5, 6, 7, 2, 25, 26, 27, 28, 29, 30, 31, 32, 33, 34, 35, 36, 37, 38, 39, 40, 41, 42, 43, 44, 45, 46, 47, 48, 49, 50, 51, 52, 53, 54, 55, 56, 57, 58, 59, 60, 61, 62, 63, 64, 65, 66, 67, 68, 69, 70, 71, 72, 73, 74, 75, 76, 77, 78, 79, 80, 81, 82] rfl (by decide +kernel)
set_option maxRecDepth 20000 in
theorem gX12_bind_X12_lender : GoodIn wsX12_bind (wsV RX12 273 RX12 yX12_lender wsX12_lender) := goodIn_app (goodIn_of _ (by decide +kernel)) ggX12_bind_X12_lender
set_option maxRecDepth 20000 in
theorem ggX12_bind_X12_bound : GoodIn wsX12_bind wsX12_bound := goodIn_r _ [15, 1, 16, 17, 18, 19, 6, 20, 2, 25, 26, 27, 28, 29, 30, 31, 32, 33, 34, 35, 36, 37, 38, 39, 40, 41, 42, 43, 44, 45, 46, 47, 48, 49, 50, 51, 52, 53, 54, 55, 56, 57, 58, 59, 60, 61, 62, 63, 64, 65, 66, 67, 68, 69, 70, 71, 72, 73, 74, 75, 76, 77, 78, 79, 80, 81, 82] rfl (by decide +kernel)
set_option maxRecDepth 20000 in
theorem gX12_bind_X12_bound : GoodIn wsX12_bind (wsV RX12 276 RX12 yX12_bound wsX12_bound) := goodIn_app (goodIn_of _ (by decide +kernel)) ggX12_bind_X12_bound
set_option maxRecDepth 20000 in
theorem ggX12_bind_X12_borrower : GoodIn wsX12_bind wsX12_borrower := goodIn_r _ [24, 3, 4, 5, 6, 7, 2, 25, 26, 27, 28, 29, 30, 31, 32, 33, 34, 35, 36, 37, 38, 39, 40, 41, 42, 43, 44, 45, 46, 47, 48, 49, 50, 51, 52, 53, 54, 55, 56, 57, 58, 59, 60, 61, 62, 63, 64, 65, 66, 67, 68, 69, 70, 71, 72, 73, 74, 75, 76, 77, 78, 79, 80, 81, 82] rfl (by decide +kernel)
set_option maxRecDepth 20000 in
theorem gX12_bind_X12_borrower : GoodIn wsX12_bind (wsV RX12 280 RX12 yX12_borrower wsX12_borrower) := goodIn_app (goodIn_of _ (by decide +kernel)) ggX12_bind_X12_borrower
set_option maxRecDepth 20000 in
theorem ggX12_bound_X12_now : GoodIn wsX12_bound wsX12_now := goodIn_r _ [7, 1, 8, 2, 9, 10, 11, 12, 13, 14, 15, 16, 17, 18, 19, 20, 21, 22, 23, 24, 25, 26, 27, 28, 29, 30, 31, 32, 33, 34, 35, 36, 37, 38, 39, 40, 41, 42, 43, 44, 45, 46, 47, 48, 49, 50, 51, 52, 53, 54, 55, 56, 57, 58, 59, 60, 61, 62, 63, 64, 65, 66] rfl (by decide +kernel)
set_option maxRecDepth 20000 in
theorem gX12_bound_X12_now : GoodIn wsX12_bound (wsV RX12 283 RX12 yX12_now wsX12_now) := goodIn_app (goodIn_of _ (by decide +kernel)) ggX12_bound_X12_now
set_option maxRecDepth 20000 in
theorem ggX12_didIn_X12_of : GoodIn wsX12_didIn wsX12_of := goodIn_r _ [6, 1, 7, 8, 9, 10, 11, 12, 13, 14, 15, 16, 17, 18, 19, 20, 21, 22, 23, 24, 25, 26, 27, 28, 29, 30, 31, 32, 33, 34, 35, 36, 37, 38, 39, 40, 41, 42, 43, 44, 45, 46, 47, 48, 49, 50, 51, 52, 53, 54, 55, 56, 57, 58, 59, 60, 61, 62, 63, 64] rfl (by decide +kernel)
set_option maxRecDepth 20000 in
theorem gX12_didIn_X12_of : GoodIn wsX12_didIn (wsV RX12 266 RX12 yX12_of wsX12_of) := goodIn_app (goodIn_of _ (by decide +kernel)) ggX12_didIn_X12_of
set_option maxRecDepth 20000 in
theorem ggX12_wrong_X12_of : GoodIn wsX12_wrong wsX12_of := goodIn_r _ [6, 1, 37, 38, 39, 40, 41, 42, 43, 44, 45, 46, 47, 48, 49, 50, 51, 52, 53, 54, 55, 56, 57, 58, 59, 60, 61, 62, 63, 64, 65, 66, 67, 68, 69, 70, 71, 72, 73, 74, 75, 76, 77, 78, 79, 80, 81, 82, 83, 84, 85, 86, 87, 88, 89, 90, 91, 92, 93, 94] rfl (by decide +kernel)
set_option maxRecDepth 20000 in
theorem gX12_wrong_X12_of : GoodIn wsX12_wrong (wsV RX12 266 RX12 yX12_of wsX12_of) := goodIn_app (goodIn_of _ (by decide +kernel)) ggX12_wrong_X12_of
set_option maxRecDepth 20000 in
theorem ggX12_wrong_X12_doneAs : GoodIn wsX12_wrong wsX12_doneAs := goodIn_r _ [10, 1, 37, 38, 39, 40, 41, 42, 43, 44, 45, 46, 47, 48, 49, 50, 51, 52, 53, 54, 55, 56, 57, 58, 59, 60, 61, 62, 63, 64, 65, 66, 67, 68, 69, 70, 71, 72, 73, 74, 75, 76, 77, 78, 79, 80, 81, 82, 83, 84, 85, 86, 87, 88, 89, 90, 91, 92, 93, 94] rfl (by decide +kernel)
set_option maxRecDepth 20000 in
theorem gX12_wrong_X12_doneAs : GoodIn wsX12_wrong (wsV RX12 269 RX12 yX12_doneAs wsX12_doneAs) := goodIn_app (goodIn_of _ (by decide +kernel)) ggX12_wrong_X12_doneAs
set_option maxRecDepth 20000 in
theorem ggX12_wrong_X12_bind : GoodIn wsX12_wrong wsX12_bind := goodIn_r _ [14, 15, 1, 2, 3, 4, 5, 6, 16, 17, 18, 19, 20, 21, 22, 23, 24, 25, 26, 27, 28, 29, 30, 31, 32, 37, 38, 39, 40, 41, 42, 43, 44, 45, 46, 47, 48, 49, 50, 51, 52, 53, 54, 55, 56, 57, 58, 59, 60, 61, 62, 63, 64, 65, 66, 67, 68, 69, 70, 71, 72, 73, 74, 75, 76, 77, 78, 79, 80, 81, 82, 83, 84, 85, 86, 87, 88, 89, 90, 91, 92, 93, 94] rfl (by decide +kernel)
set_option maxRecDepth 20000 in
theorem gX12_wrong_X12_bind : GoodIn wsX12_wrong (wsV RX12 286 RX12 yX12_bind wsX12_bind) := goodIn_app (goodIn_of _ (by decide +kernel)) ggX12_wrong_X12_bind
set_option maxRecDepth 20000 in
theorem ggX12_wrong_X12_lender : GoodIn wsX12_wrong wsX12_lender := goodIn_r _ [19, 2, 3, 4, 5, 6, 1, 37, 38, 39, 40, 41, 42, 43, 44, 45, 46, 47, 48, 49, 50, 51, 52, 53, 54, 55, 56, 57, 58, 59, 60, 61, 62, 63, 64, 65, 66, 67, 68, 69, 70, 71, 72, 73, 74, 75, 76, 77, 78, 79, 80, 81, 82, 83, 84, 85, 86, 87, 88, 89, 90, 91, 92, 93, 94] rfl (by decide +kernel)
set_option maxRecDepth 20000 in
theorem gX12_wrong_X12_lender : GoodIn wsX12_wrong (wsV RX12 273 RX12 yX12_lender wsX12_lender) := goodIn_app (goodIn_of _ (by decide +kernel)) ggX12_wrong_X12_lender
set_option maxRecDepth 20000 in
theorem ggX12_wrong_X12_now : GoodIn wsX12_wrong wsX12_now := goodIn_r _ [28, 15, 1, 24, 37, 38, 39, 40, 41, 42, 43, 44, 45, 46, 47, 48, 49, 50, 51, 52, 53, 54, 55, 56, 57, 58, 59, 60, 61, 62, 63, 64, 65, 66, 67, 68, 69, 70, 71, 72, 73, 74, 75, 76, 77, 78, 79, 80, 81, 82, 83, 84, 85, 86, 87, 88, 89, 90, 91, 92, 93, 94] rfl (by decide +kernel)
set_option maxRecDepth 20000 in
theorem gX12_wrong_X12_now : GoodIn wsX12_wrong (wsV RX12 283 RX12 yX12_now wsX12_now) := goodIn_app (goodIn_of _ (by decide +kernel)) ggX12_wrong_X12_now
set_option maxRecDepth 20000 in
theorem ggX12_wrong_X12_borrower : GoodIn wsX12_wrong wsX12_borrower := goodIn_r _ [32, 2, 3, 4, 5, 6, 1, 37, 38, 39, 40, 41, 42, 43, 44, 45, 46, 47, 48, 49, 50, 51, 52, 53, 54, 55, 56, 57, 58, 59, 60, 61, 62, 63, 64, 65, 66, 67, 68, 69, 70, 71, 72, 73, 74, 75, 76, 77, 78, 79, 80, 81, 82, 83, 84, 85, 86, 87, 88, 89, 90, 91, 92, 93, 94] rfl (by decide +kernel)
set_option maxRecDepth 20000 in
theorem gX12_wrong_X12_borrower : GoodIn wsX12_wrong (wsV RX12 280 RX12 yX12_borrower wsX12_borrower) := goodIn_app (goodIn_of _ (by decide +kernel)) ggX12_wrong_X12_borrower
set_option maxRecDepth 20000 in
theorem ggX12_wrong_X12_didIn : GoodIn wsX12_wrong wsX12_didIn := goodIn_r _ [36, 1, 2, 3, 4, 5, 6, 37, 38, 39, 40, 41, 42, 43, 44, 45, 46, 47, 48, 49, 50, 51, 52, 53, 54, 55, 56, 57, 58, 59, 60, 61, 62, 63, 64, 65, 66, 67, 68, 69, 70, 71, 72, 73, 74, 75, 76, 77, 78, 79, 80, 81, 82, 83, 84, 85, 86, 87, 88, 89, 90, 91, 92, 93, 94] rfl (by decide +kernel)
set_option maxRecDepth 20000 in
theorem gX12_wrong_X12_didIn : GoodIn wsX12_wrong (wsV RX12 289 RX12 yX12_didIn wsX12_didIn) := goodIn_app (goodIn_of _ (by decide +kernel)) ggX12_wrong_X12_didIn
set_option maxRecDepth 20000 in
theorem ggX12_does_X12_isDeal : GoodIn wsX12_does wsX12_isDeal := goodIn_r _ [6, 7, 8, 9, 5, 10, 53, 54, 55, 56, 57, 58, 59, 60, 61, 62, 63, 64, 65, 66, 67, 68, 69, 70, 71, 72, 73, 74, 75, 76, 77, 78, 79, 80, 81, 82, 83, 84, 85, 86, 87, 88, 89, 90, 91, 92, 93, 94, 95, 96, 97, 98, 99, 100, 101, 102, 103, 104, 105, 106, 107, 108, 109, 110] rfl (by decide +kernel)
set_option maxRecDepth 20000 in
theorem gX12_does_X12_isDeal : GoodIn wsX12_does (wsV RX12 263 RX12 yX12_isDeal wsX12_isDeal) := goodIn_app (goodIn_of _ (by decide +kernel)) ggX12_does_X12_isDeal
set_option maxRecDepth 20000 in
theorem ggX12_does_X12_isIn : GoodIn wsX12_does wsX12_isIn := goodIn_r _ [10] rfl (by decide +kernel)
set_option maxRecDepth 20000 in
theorem gX12_does_X12_isIn : GoodIn wsX12_does (va_wsS RX12 197 yX12_isIn wsX12_isIn) := goodIn_app (goodIn_of _ (by decide +kernel)) ggX12_does_X12_isIn
set_option maxRecDepth 20000 in
theorem ggX12_does_X12_wrong : GoodIn wsX12_does wsX12_wrong := goodIn_r _ [14, 7, 15, 16, 17, 5, 18, 19, 20, 21, 22, 23, 24, 25, 26, 27, 28, 29, 30, 31, 32, 33, 34, 35, 36, 37, 38, 39, 40, 41, 42, 43, 44, 45, 46, 47, 48, 53, 54, 55, 56, 57, 58, 59, 60, 61, 62, 63, 64, 65, 66, 67, 68, 69, 70, 71, 72, 73, 74, 75, 76, 77, 78, 79, 80, 81, 82, 83, 84, 85, 86, 87, 88, 89, 90, 91, 92, 93, 94, 95, 96, 97, 98, 99, 100, 101, 102, 103, 104, 105, 106, 107, 108, 109, 110] rfl (by decide +kernel)
set_option maxRecDepth 20000 in
theorem gX12_does_X12_wrong : GoodIn wsX12_does (wsV RX12 292 RX12 yX12_wrong wsX12_wrong) := goodIn_app (goodIn_of _ (by decide +kernel)) ggX12_does_X12_wrong
set_option maxRecDepth 20000 in
theorem ggX12_does_X12_put : GoodIn wsX12_does wsX12_put := goodIn_r _ [52, 7, 53, 54, 55, 56, 57, 58, 59, 60, 61, 62, 63, 64, 65, 66, 67, 68, 69, 70, 71, 72, 73, 74, 75, 76, 77, 78, 79, 80, 81, 82, 83, 84, 85, 86, 87, 88, 89, 90, 91, 92, 93, 94, 95, 96, 97, 98, 99, 100, 101, 102, 103, 104, 105, 106, 107, 108, 109, 110] rfl (by decide +kernel)
set_option maxRecDepth 20000 in
theorem gX12_does_X12_put : GoodIn wsX12_does (wsV RX12 295 RX12 yX12_put wsX12_put) := goodIn_app (goodIn_of _ (by decide +kernel)) ggX12_does_X12_put
set_option maxRecDepth 20000 in
theorem ggX12_readLine_X12_isName : GoodIn wsX12_readLine wsX12_isName := goodIn_r _ [10, 11, 12, 13, 50, 51, 52, 53, 54, 55, 56, 57, 58, 59, 60, 61, 62, 63, 64, 65, 66, 67, 68, 69, 70, 71, 72, 73, 74, 75, 76, 77, 78, 79, 80, 81, 82, 83, 84, 85, 86, 87, 88, 89, 90, 91, 92, 93, 94, 95, 96, 97, 98, 99, 100, 101, 102, 103, 104, 105, 106, 107] rfl (by decide +kernel)
set_option maxRecDepth 20000 in
theorem gX12_readLine_X12_isName : GoodIn wsX12_readLine (wsV RX12 204 RX12 yX12_isName wsX12_isName) := goodIn_app (goodIn_of _ (by decide +kernel)) ggX12_readLine_X12_isName
set_option maxRecDepth 20000 in
theorem ggX12_readLine_X12_bad : GoodIn wsX12_readLine wsX12_bad := goodIn_r _ [17, 18, 19, 20, 50, 51, 52, 53, 54, 55, 56, 57, 58, 59, 60, 61, 62, 63, 64, 65, 66, 67, 68, 69, 70, 71, 72, 73, 74, 75, 76, 77, 78, 79, 80, 81, 82, 83, 84, 85, 86, 87, 88, 89, 90, 91, 92, 93, 94, 95, 96, 97, 98, 99, 100, 101, 102, 103, 104, 105, 106, 107] rfl (by decide +kernel)
set_option maxRecDepth 20000 in
theorem gX12_readLine_X12_bad : GoodIn wsX12_readLine (wsV RX12 191 RX12 yX12_bad wsX12_bad) := goodIn_app (goodIn_of _ (by decide +kernel)) ggX12_readLine_X12_bad
set_option maxRecDepth 20000 in
theorem ggX12_readLine_X12_find : GoodIn wsX12_readLine wsX12_find := goodIn_r _ [24, 25, 12, 50, 51, 52, 53, 54, 55, 56, 57, 58, 59, 60, 61, 62, 63, 64, 65, 66, 67, 68, 69, 70, 71, 72, 73, 74, 75, 76, 77, 78, 79, 80, 81, 82, 83, 84, 85, 86, 87, 88, 89, 90, 91, 92, 93, 94, 95, 96, 97, 98, 99, 100, 101, 102, 103, 104, 105, 106, 107] rfl (by decide +kernel)
set_option maxRecDepth 20000 in
theorem gX12_readLine_X12_find : GoodIn wsX12_readLine (wsV RX12 208 RX12 yX12_find wsX12_find) := goodIn_app (goodIn_of _ (by decide +kernel)) ggX12_readLine_X12_find
set_option maxRecDepth 20000 in
theorem ggX12_readLine_X12_skip : GoodIn wsX12_readLine wsX12_skip := goodIn_r _ [29, 30, 19, 31, 32, 33, 11, 34, 12, 35, 36, 37, 9, 38, 39, 40, 41, 42, 43, 44, 45, 50, 51, 52, 53, 54, 55, 56, 57, 58, 59, 60, 61, 62, 63, 64, 65, 66, 67, 68, 69, 70, 71, 72, 73, 74, 75, 76, 77, 78, 79, 80, 81, 82, 83, 84, 85, 86, 87, 88, 89, 90, 91, 92, 93, 94, 95, 96, 97, 98, 99, 100, 101, 102, 103, 104, 105, 106, 107] rfl (by decide +kernel)
set_option maxRecDepth 20000 in
theorem gX12_readLine_X12_skip : GoodIn wsX12_readLine (wsV RX12 194 RX12 yX12_skip wsX12_skip) := goodIn_app (goodIn_of _ (by decide +kernel)) ggX12_readLine_X12_skip
set_option maxRecDepth 20000 in
theorem ggX12_readLine_X12_isWord : GoodIn wsX12_readLine wsX12_isWord := goodIn_r _ [49, 11, 12, 50, 51, 52, 53, 54, 55, 56, 57, 58, 59, 60, 61, 62, 63, 64, 65, 66, 67, 68, 69, 70, 71, 72, 73, 74, 75, 76, 77, 78, 79, 80, 81, 82, 83, 84, 85, 86, 87, 88, 89, 90, 91, 92, 93, 94, 95, 96, 97, 98, 99, 100, 101, 102, 103, 104, 105, 106, 107] rfl (by decide +kernel)
set_option maxRecDepth 20000 in
theorem gX12_readLine_X12_isWord : GoodIn wsX12_readLine (wsV RX12 212 RX12 yX12_isWord wsX12_isWord) := goodIn_app (goodIn_of _ (by decide +kernel)) ggX12_readLine_X12_isWord
set_option maxRecDepth 20000 in
theorem ggX12_book_X12_taken : GoodIn wsX12_book wsX12_taken := goodIn_r _ [14, 15, 16, 17, 18, 111, 112, 113, 114, 115, 116, 117, 118, 119, 120, 121, 122, 123, 124, 125, 126, 127, 128, 129, 130, 131, 132, 133, 134, 135, 136, 137, 138, 139, 140, 141, 142, 143, 144, 145, 146, 147, 148, 149, 150, 151, 152, 153, 154, 155, 156, 157, 158, 159, 160, 161, 162, 163, 164, 165, 166, 167, 168] rfl (by decide +kernel)
set_option maxRecDepth 20000 in
theorem gX12_book_X12_taken : GoodIn wsX12_book (wsV RX12 244 RX12 yX12_taken wsX12_taken) := goodIn_app (goodIn_of _ (by decide +kernel)) ggX12_book_X12_taken
set_option maxRecDepth 20000 in
theorem ggX12_book_X12_skip : GoodIn wsX12_book wsX12_skip := goodIn_r _ [22, 17, 23, 24, 16, 18, 5, 25, 26, 27, 28, 29, 13, 30, 31, 32, 33, 34, 35, 36, 37, 111, 112, 113, 114, 115, 116, 117, 118, 119, 120, 121, 122, 123, 124, 125, 126, 127, 128, 129, 130, 131, 132, 133, 134, 135, 136, 137, 138, 139, 140, 141, 142, 143, 144, 145, 146, 147, 148, 149, 150, 151, 152, 153, 154, 155, 156, 157, 158, 159, 160, 161, 162, 163, 164, 165, 166, 167, 168] rfl (by decide +kernel)
set_option maxRecDepth 20000 in
theorem gX12_book_X12_skip : GoodIn wsX12_book (wsV RX12 194 RX12 yX12_skip wsX12_skip) := goodIn_app (goodIn_of _ (by decide +kernel)) ggX12_book_X12_skip
set_option maxRecDepth 20000 in
theorem ggX12_book_X12_readLine : GoodIn wsX12_book wsX12_readLine := goodIn_r _ [41, 7, 4, 8, 9, 42, 43, 44, 45, 13, 46, 5, 26, 47, 48, 49, 50, 51, 2, 23, 6, 52, 53, 54, 55, 56, 19, 20, 21, 22, 17, 24, 16, 18, 25, 27, 28, 29, 30, 31, 32, 33, 34, 35, 36, 37, 57, 58, 59, 60, 111, 112, 113, 114, 115, 116, 117, 118, 119, 120, 121, 122, 123, 124, 125, 126, 127, 128, 129, 130, 131, 132, 133, 134, 135, 136, 137, 138, 139, 140, 141, 142, 143, 144, 145, 146, 147, 148, 149, 150, 151, 152, 153, 154, 155, 156, 157, 158, 159, 160, 161, 162, 163, 164, 165, 166, 167, 168] rfl (by decide +kernel)
set_option maxRecDepth 20000 in
theorem gX12_book_X12_readLine : GoodIn wsX12_book (wsV RX12 305 RX12 yX12_readLine wsX12_readLine) := goodIn_app (goodIn_of _ (by decide +kernel)) ggX12_book_X12_readLine
set_option maxRecDepth 20000 in
theorem ggX12_book_X12_sign : GoodIn wsX12_book wsX12_sign := goodIn_r _ [64, 65, 66, 67, 13, 68, 5, 25, 48, 49, 50, 51, 2, 23, 6, 19, 20, 21, 22, 17, 24, 16, 18, 26, 27, 28, 29, 30, 31, 32, 33, 34, 35, 36, 37, 111, 112, 113, 114, 115, 116, 117, 118, 119, 120, 121, 122, 123, 124, 125, 126, 127, 128, 129, 130, 131, 132, 133, 134, 135, 136, 137, 138, 139, 140, 141, 142, 143, 144, 145, 146, 147, 148, 149, 150, 151, 152, 153, 154, 155, 156, 157, 158, 159, 160, 161, 162, 163, 164, 165, 166, 167, 168] rfl (by decide +kernel)
set_option maxRecDepth 20000 in
theorem gX12_book_X12_sign : GoodIn wsX12_book (wsV RX12 253 RX12 yX12_sign wsX12_sign) := goodIn_app (goodIn_of _ (by decide +kernel)) ggX12_book_X12_sign
set_option maxRecDepth 20000 in
theorem ggX12_book_X12_wrong : GoodIn wsX12_book wsX12_wrong := goodIn_r _ [72, 7, 73, 74, 75, 13, 76, 77, 78, 79, 80, 81, 82, 83, 84, 85, 86, 87, 88, 89, 90, 91, 92, 93, 94, 95, 96, 97, 98, 99, 100, 101, 102, 103, 104, 105, 106, 111, 112, 113, 114, 115, 116, 117, 118, 119, 120, 121, 122, 123, 124, 125, 126, 127, 128, 129, 130, 131, 132, 133, 134, 135, 136, 137, 138, 139, 140, 141, 142, 143, 144, 145, 146, 147, 148, 149, 150, 151, 152, 153, 154, 155, 156, 157, 158, 159, 160, 161, 162, 163, 164, 165, 166, 167, 168] rfl (by decide +kernel)
set_option maxRecDepth 20000 in
theorem gX12_book_X12_wrong : GoodIn wsX12_book (wsV RX12 292 RX12 yX12_wrong wsX12_wrong) := goodIn_app (goodIn_of _ (by decide +kernel)) ggX12_book_X12_wrong
set_option maxRecDepth 20000 in
theorem ggX12_book_X12_put : GoodIn wsX12_book wsX12_put := goodIn_r _ [110, 7, 111, 112, 113, 114, 115, 116, 117, 118, 119, 120, 121, 122, 123, 124, 125, 126, 127, 128, 129, 130, 131, 132, 133, 134, 135, 136, 137, 138, 139, 140, 141, 142, 143, 144, 145, 146, 147, 148, 149, 150, 151, 152, 153, 154, 155, 156, 157, 158, 159, 160, 161, 162, 163, 164, 165, 166, 167, 168] rfl (by decide +kernel)
set_option maxRecDepth 20000 in
theorem gX12_book_X12_put : GoodIn wsX12_book (wsV RX12 295 RX12 yX12_put wsX12_put) := goodIn_app (goodIn_of _ (by decide +kernel)) ggX12_book_X12_put
set_option maxRecDepth 20000 in
theorem ggX12_is_X12_isPerson : GoodIn wsX12_is wsX12_isPerson := goodIn_r _ [6, 7, 8, 9, 5, 10, 37, 38, 39, 40, 41, 42, 43, 44, 45, 46, 47, 48, 49, 50, 51, 52, 53, 54, 55, 56, 57, 58, 59, 60, 61, 62, 63, 64, 65, 66, 67, 68, 69, 70, 71, 72, 73, 74, 75, 76, 77, 78, 79, 80, 81, 82, 83, 84, 85, 86, 87, 88, 89, 90, 91, 92, 93, 94] rfl (by decide +kernel)
set_option maxRecDepth 20000 in
theorem gX12_is_X12_isPerson : GoodIn wsX12_is (wsV RX12 256 RX12 yX12_isPerson wsX12_isPerson) := goodIn_app (goodIn_of _ (by decide +kernel)) ggX12_is_X12_isPerson
set_option maxRecDepth 20000 in
theorem ggX12_is_X12_isIn : GoodIn wsX12_is wsX12_isIn := goodIn_r _ [10] rfl (by decide +kernel)
set_option maxRecDepth 20000 in
theorem gX12_is_X12_isIn : GoodIn wsX12_is (va_wsS RX12 197 yX12_isIn wsX12_isIn) := goodIn_app (goodIn_of _ (by decide +kernel)) ggX12_is_X12_isIn
set_option maxRecDepth 20000 in
theorem ggX12_is_X12_bind : GoodIn wsX12_is wsX12_bind := goodIn_r _ [14, 15, 7, 16, 17, 18, 5, 19, 20, 21, 22, 23, 24, 25, 26, 27, 28, 29, 30, 31, 32, 33, 34, 35, 36, 37, 38, 39, 40, 41, 42, 43, 44, 45, 46, 47, 48, 49, 50, 51, 52, 53, 54, 55, 56, 57, 58, 59, 60, 61, 62, 63, 64, 65, 66, 67, 68, 69, 70, 71, 72, 73, 74, 75, 76, 77, 78, 79, 80, 81, 82, 83, 84, 85, 86, 87, 88, 89, 90, 91, 92, 93, 94] rfl (by decide +kernel)
set_option maxRecDepth 20000 in
theorem gX12_is_X12_bind : GoodIn wsX12_is (wsV RX12 286 RX12 yX12_bind wsX12_bind) := goodIn_app (goodIn_of _ (by decide +kernel)) ggX12_is_X12_bind
set_option maxRecDepth 20000 in
theorem ggX12_is_X12_now : GoodIn wsX12_is wsX12_now := goodIn_r _ [32, 15, 7, 28, 37, 38, 39, 40, 41, 42, 43, 44, 45, 46, 47, 48, 49, 50, 51, 52, 53, 54, 55, 56, 57, 58, 59, 60, 61, 62, 63, 64, 65, 66, 67, 68, 69, 70, 71, 72, 73, 74, 75, 76, 77, 78, 79, 80, 81, 82, 83, 84, 85, 86, 87, 88, 89, 90, 91, 92, 93, 94] rfl (by decide +kernel)
set_option maxRecDepth 20000 in
theorem gX12_is_X12_now : GoodIn wsX12_is (wsV RX12 283 RX12 yX12_now wsX12_now) := goodIn_app (goodIn_of _ (by decide +kernel)) ggX12_is_X12_now
set_option maxRecDepth 20000 in
theorem ggX12_may_X12_isIn : GoodIn wsX12_may wsX12_isIn := goodIn_r _ [6] rfl (by decide +kernel)
set_option maxRecDepth 20000 in
theorem gX12_may_X12_isIn : GoodIn wsX12_may (va_wsS RX12 197 yX12_isIn wsX12_isIn) := goodIn_app (goodIn_of _ (by decide +kernel)) ggX12_may_X12_isIn
set_option maxRecDepth 20000 in
theorem ggX12_may_X12_wrong : GoodIn wsX12_may wsX12_wrong := goodIn_r _ [10, 2, 11, 12, 13, 5, 14, 15, 16, 17, 18, 19, 20, 21, 22, 23, 24, 25, 26, 27, 28, 29, 30, 31, 32, 33, 34, 35, 36, 37, 38, 39, 40, 41, 42, 43, 44, 45, 46, 47, 48, 49, 50, 51, 52, 53, 54, 55, 56, 57, 58, 59, 60, 61, 62, 63, 64, 65, 66, 67, 68, 69, 70, 71, 72, 73, 74, 75, 76, 77, 78, 79, 80, 81, 82, 83, 84, 85, 86, 87, 88, 89, 90, 91, 92, 93, 94, 95, 96, 97, 98, 99, 100, 101, 102] rfl (by decide +kernel)
set_option maxRecDepth 20000 in
theorem gX12_may_X12_wrong : GoodIn wsX12_may (wsV RX12 292 RX12 yX12_wrong wsX12_wrong) := goodIn_app (goodIn_of _ (by decide +kernel)) ggX12_may_X12_wrong
set_option maxRecDepth 20000 in
theorem ggX12_had_X12_isPerson : GoodIn wsX12_had wsX12_isPerson := goodIn_r _ [7, 2, 8, 9, 6, 10, 19, 20, 21, 22, 23, 24, 25, 26, 27, 28, 29, 30, 31, 32, 33, 34, 35, 36, 37, 38, 39, 40, 41, 42, 43, 44, 45, 46, 47, 48, 49, 50, 51, 52, 53, 54, 55, 56, 57, 58, 59, 60, 61, 62, 63, 64, 65, 66, 67, 68, 69, 70, 71, 72, 73, 74, 75, 76] rfl (by decide +kernel)
set_option maxRecDepth 20000 in
theorem gX12_had_X12_isPerson : GoodIn wsX12_had (wsV RX12 256 RX12 yX12_isPerson wsX12_isPerson) := goodIn_app (goodIn_of _ (by decide +kernel)) ggX12_had_X12_isPerson
set_option maxRecDepth 20000 in
theorem ggX12_had_X12_gainOf : GoodIn wsX12_had wsX12_gainOf := goodIn_r _ [14, 15, 16, 17, 6, 18, 2, 19, 20, 21, 22, 23, 24, 25, 26, 27, 28, 29, 30, 31, 32, 33, 34, 35, 36, 37, 38, 39, 40, 41, 42, 43, 44, 45, 46, 47, 48, 49, 50, 51, 52, 53, 54, 55, 56, 57, 58, 59, 60, 61, 62, 63, 64, 65, 66, 67, 68, 69, 70, 71, 72, 73, 74, 75, 76] rfl (by decide +kernel)
set_option maxRecDepth 20000 in
theorem gX12_had_X12_gainOf : GoodIn wsX12_had (wsV RX12 308 RX12 yX12_gainOf wsX12_gainOf) := goodIn_app (goodIn_of _ (by decide +kernel)) ggX12_had_X12_gainOf
set_option maxRecDepth 20000 in
theorem ggX12_gainOf_X12_of : GoodIn wsX12_gainOf wsX12_of := goodIn_r _ [5, 6, 7, 8, 9, 10, 11, 12, 13, 14, 15, 16, 17, 18, 19, 20, 21, 22, 23, 24, 25, 26, 27, 28, 29, 30, 31, 32, 33, 34, 35, 36, 37, 38, 39, 40, 41, 42, 43, 44, 45, 46, 47, 48, 49, 50, 51, 52, 53, 54, 55, 56, 57, 58, 59, 60, 61, 62, 63, 64] rfl (by decide +kernel)
set_option maxRecDepth 20000 in
theorem gX12_gainOf_X12_of : GoodIn wsX12_gainOf (wsV RX12 266 RX12 yX12_of wsX12_of) := goodIn_app (goodIn_of _ (by decide +kernel)) ggX12_gainOf_X12_of
set_option maxRecDepth 20000 in
theorem ggX12_goesAs_X12_of : GoodIn wsX12_goesAs wsX12_of := goodIn_r _ [5, 6, 10, 11, 12, 13, 14, 15, 16, 17, 18, 19, 20, 21, 22, 23, 24, 25, 26, 27, 28, 29, 30, 31, 32, 33, 34, 35, 36, 37, 38, 39, 40, 41, 42, 43, 44, 45, 46, 47, 48, 49, 50, 51, 52, 53, 54, 55, 56, 57, 58, 59, 60, 61, 62, 63, 64, 65, 66, 67] rfl (by decide +kernel)
set_option maxRecDepth 20000 in
theorem gX12_goesAs_X12_of : GoodIn wsX12_goesAs (wsV RX12 266 RX12 yX12_of wsX12_of) := goodIn_app (goodIn_of _ (by decide +kernel)) ggX12_goesAs_X12_of
set_option maxRecDepth 20000 in
theorem ggX12_goesAs_X12_has : GoodIn wsX12_goesAs wsX12_has := goodIn_r _ [9] rfl (by decide +kernel)
set_option maxRecDepth 20000 in
theorem gX12_goesAs_X12_has : GoodIn wsX12_goesAs (va_wsS RX12 235 yX12_has wsX12_has) := goodIn_app (goodIn_of _ (by decide +kernel)) ggX12_goesAs_X12_has
set_option maxRecDepth 20000 in
theorem ggX12_mostOf_X12_bestRow : GoodIn wsX12_mostOf wsX12_bestRow := goodIn_r _ [11, 2, 5, 4, 3, 6, 12, 13, 14, 15, 16, 17, 10, 18, 1, 19, 20, 21, 22, 23, 24, 25, 26, 27, 28, 29, 30, 31, 32, 33, 34, 35, 36, 37, 38, 39, 40, 41, 42, 43, 44, 45, 46, 47, 48, 49, 50, 51, 52, 53, 54, 55, 56, 57, 58, 59, 60, 61, 62, 63, 64, 65, 66, 67, 68, 69, 70, 71, 72, 73, 74, 75, 76, 77] rfl (by decide +kernel)
set_option maxRecDepth 20000 in
theorem gX12_mostOf_X12_bestRow : GoodIn wsX12_mostOf (wsV RX12 314 RX12 yX12_bestRow wsX12_bestRow) := goodIn_app (goodIn_of _ (by decide +kernel)) ggX12_mostOf_X12_bestRow
set_option maxRecDepth 20000 in
theorem ggX12_bestRow_X12_isRoom : GoodIn wsX12_bestRow wsX12_isRoom := goodIn_r _ [13, 14, 15, 16, 17, 18, 19, 20, 21, 22, 23, 24, 25, 26, 27, 28, 29, 30, 31, 32, 33, 34, 35, 36, 37, 38, 39, 40, 41, 42, 43, 44, 45, 46, 47, 48, 49, 50, 51, 52, 53, 54, 55, 56, 57, 58, 59, 60, 61, 62, 63, 64, 65, 66, 67, 68, 69, 70, 71, 72, 73] rfl (by decide +kernel)
set_option maxRecDepth 20000 in
theorem gX12_bestRow_X12_isRoom : GoodIn wsX12_bestRow (wsV RX12 317 RX12 yX12_isRoom wsX12_isRoom) := goodIn_app (goodIn_of _ (by decide +kernel)) ggX12_bestRow_X12_isRoom
set_option maxRecDepth 20000 in
theorem ggX12_gainBy_X12_isFirst : GoodIn wsX12_gainBy wsX12_isFirst := goodIn_r _ [10, 11, 12, 13, 9, 14, 1, 48, 49, 50, 51, 52, 53, 54, 55, 56, 57, 58, 59, 60, 61, 62, 63, 64, 65, 66, 67, 68, 69, 70, 71, 72, 73, 74, 75, 76, 77, 78, 79, 80, 81, 82, 83, 84, 85, 86, 87, 88, 89, 90, 91, 92, 93, 94, 95, 96, 97, 98, 99, 100, 101, 102, 103, 104, 105] rfl (by decide +kernel)
set_option maxRecDepth 20000 in
theorem gX12_gainBy_X12_isFirst : GoodIn wsX12_gainBy (wsV RX12 321 RX12 yX12_isFirst wsX12_isFirst) := goodIn_app (goodIn_of _ (by decide +kernel)) ggX12_gainBy_X12_isFirst
set_option maxRecDepth 20000 in
theorem ggX12_gainBy_X12_of : GoodIn wsX12_gainBy wsX12_of := goodIn_r _ [14, 1, 48, 49, 50, 51, 52, 53, 54, 55, 56, 57, 58, 59, 60, 61, 62, 63, 64, 65, 66, 67, 68, 69, 70, 71, 72, 73, 74, 75, 76, 77, 78, 79, 80, 81, 82, 83, 84, 85, 86, 87, 88, 89, 90, 91, 92, 93, 94, 95, 96, 97, 98, 99, 100, 101, 102, 103, 104, 105] rfl (by decide +kernel)
set_option maxRecDepth 20000 in
theorem gX12_gainBy_X12_of : GoodIn wsX12_gainBy (wsV RX12 266 RX12 yX12_of wsX12_of) := goodIn_app (goodIn_of _ (by decide +kernel)) ggX12_gainBy_X12_of
set_option maxRecDepth 20000 in
theorem ggX12_gainBy_X12_goesAs : GoodIn wsX12_gainBy wsX12_goesAs := goodIn_r _ [18, 11, 12, 13, 9, 14, 1, 19, 20, 21, 48, 49, 50, 51, 52, 53, 54, 55, 56, 57, 58, 59, 60, 61, 62, 63, 64, 65, 66, 67, 68, 69, 70, 71, 72, 73, 74, 75, 76, 77, 78, 79, 80, 81, 82, 83, 84, 85, 86, 87, 88, 89, 90, 91, 92, 93, 94, 95, 96, 97, 98, 99, 100, 101, 102, 103, 104, 105] rfl (by decide +kernel)
set_option maxRecDepth 20000 in
theorem gX12_gainBy_X12_goesAs : GoodIn wsX12_gainBy (wsV RX12 324 RX12 yX12_goesAs wsX12_goesAs) := goodIn_app (goodIn_of _ (by decide +kernel)) ggX12_gainBy_X12_goesAs
set_option maxRecDepth 20000 in
theorem ggX12_gainBy_X12_lender : GoodIn wsX12_gainBy wsX12_lender := goodIn_r _ [25, 11, 12, 13, 9, 14, 1, 48, 49, 50, 51, 52, 53, 54, 55, 56, 57, 58, 59, 60, 61, 62, 63, 64, 65, 66, 67, 68, 69, 70, 71, 72, 73, 74, 75, 76, 77, 78, 79, 80, 81, 82, 83, 84, 85, 86, 87, 88, 89, 90, 91, 92, 93, 94, 95, 96, 97, 98, 99, 100, 101, 102, 103, 104, 105] rfl (by decide +kernel)
set_option maxRecDepth 20000 in
theorem gX12_gainBy_X12_lender : GoodIn wsX12_gainBy (wsV RX12 273 RX12 yX12_lender wsX12_lender) := goodIn_app (goodIn_of _ (by decide +kernel)) ggX12_gainBy_X12_lender
set_option maxRecDepth 20000 in
theorem ggX12_gainBy_X12_borrower : GoodIn wsX12_gainBy wsX12_borrower := goodIn_r _ [29, 11, 12, 13, 9, 14, 1, 48, 49, 50, 51, 52, 53, 54, 55, 56, 57, 58, 59, 60, 61, 62, 63, 64, 65, 66, 67, 68, 69, 70, 71, 72, 73, 74, 75, 76, 77, 78, 79, 80, 81, 82, 83, 84, 85, 86, 87, 88, 89, 90, 91, 92, 93, 94, 95, 96, 97, 98, 99, 100, 101, 102, 103, 104, 105] rfl (by decide +kernel)
set_option maxRecDepth 20000 in
theorem gX12_gainBy_X12_borrower : GoodIn wsX12_gainBy (wsV RX12 280 RX12 yX12_borrower wsX12_borrower) := goodIn_app (goodIn_of _ (by decide +kernel)) ggX12_gainBy_X12_borrower
set_option maxRecDepth 20000 in
theorem ggX12_gainBy_X12_mostOf : GoodIn wsX12_gainBy wsX12_mostOf := goodIn_r _ [33, 34, 3, 35, 36, 37, 5, 38, 39, 40, 9, 41, 4, 42, 43, 44, 45, 46, 47, 2, 48, 49, 50, 51, 52, 53, 54, 55, 56, 57, 58, 59, 60, 61, 62, 63, 64, 65, 66, 67, 68, 69, 70, 71, 72, 73, 74, 75, 76, 77, 78, 79, 80, 81, 82, 83, 84, 85, 86, 87, 88, 89, 90, 91, 92, 93, 94, 95, 96, 97, 98, 99, 100, 101, 102, 103, 104, 105] rfl (by decide +kernel)
set_option maxRecDepth 20000 in
theorem gX12_gainBy_X12_mostOf : GoodIn wsX12_gainBy (wsV RX12 327 RX12 yX12_mostOf wsX12_mostOf) := goodIn_app (goodIn_of _ (by decide +kernel)) ggX12_gainBy_X12_mostOf
set_option maxRecDepth 20000 in
theorem ggX12_isFirst_X12_of : GoodIn wsX12_isFirst wsX12_of := goodIn_r _ [5, 6, 7, 8, 9, 10, 11, 12, 13, 14, 15, 16, 17, 18, 19, 20, 21, 22, 23, 24, 25, 26, 27, 28, 29, 30, 31, 32, 33, 34, 35, 36, 37, 38, 39, 40, 41, 42, 43, 44, 45, 46, 47, 48, 49, 50, 51, 52, 53, 54, 55, 56, 57, 58, 59, 60, 61, 62, 63, 64] rfl (by decide +kernel)
set_option maxRecDepth 20000 in
theorem gX12_isFirst_X12_of : GoodIn wsX12_isFirst (wsV RX12 266 RX12 yX12_of wsX12_of) := goodIn_app (goodIn_of _ (by decide +kernel)) ggX12_isFirst_X12_of
set_option maxRecDepth 20000 in
theorem ggX12_settle_X12_gainBy : GoodIn wsX12_settle wsX12_gainBy := goodIn_r _ [8, 2, 9, 10, 11, 12, 13, 14, 15, 7, 16, 17, 18, 19, 20, 21, 22, 23, 24, 25, 26, 27, 28, 29, 30, 31, 32, 33, 34, 35, 36, 37, 38, 39, 40, 41, 42, 43, 44, 45, 46, 47, 48, 49, 50, 51, 52, 53, 54, 55, 56, 57, 58, 59, 60, 61, 62, 63, 64, 65, 66, 67, 68, 69, 70, 71, 72, 73, 74, 75, 76, 77, 78, 79, 80, 81, 82, 83, 84, 85, 86, 87, 88, 89, 90, 91, 92, 93, 94, 95, 96, 97, 98, 99, 100, 101, 102, 103, 104, 105, 106, 107, 108, 109, 110, 111] rfl (by decide +kernel)
set_option maxRecDepth 20000 in
theorem gX12_settle_X12_gainBy : GoodIn wsX12_settle (wsV RX12 330 RX12 yX12_gainBy wsX12_gainBy) := goodIn_app (goodIn_of _ (by decide +kernel)) ggX12_settle_X12_gainBy
set_option maxRecDepth 20000 in
theorem ggX12_gain_X12_isParts : GoodIn wsX12_gain wsX12_isParts := goodIn_r _ [6, 7, 8, 9, 5, 10, 60, 61, 62, 63, 64, 65, 66, 67, 68, 69, 70, 71, 72, 73, 74, 75, 76, 77, 78, 79, 80, 81, 82, 83, 84, 85, 86, 87, 88, 89, 90, 91, 92, 93, 94, 95, 96, 97, 98, 99, 100, 101, 102, 103, 104, 105, 106, 107, 108, 109, 110, 111, 112, 113, 114, 115, 116, 117] rfl (by decide +kernel)
set_option maxRecDepth 20000 in
theorem gX12_gain_X12_isParts : GoodIn wsX12_gain (wsV RX12 334 RX12 yX12_isParts wsX12_isParts) := goodIn_app (goodIn_of _ (by decide +kernel)) ggX12_gain_X12_isParts
set_option maxRecDepth 20000 in
theorem ggX12_gain_X12_gainBy : GoodIn wsX12_gain wsX12_gainBy := goodIn_r _ [14, 7, 15, 16, 17, 18, 19, 20, 21, 5, 22, 23, 24, 25, 26, 27, 28, 29, 30, 31, 32, 33, 34, 35, 36, 37, 38, 39, 40, 41, 42, 43, 44, 45, 46, 47, 48, 49, 50, 51, 52, 53, 54, 55, 56, 57, 58, 59, 60, 61, 62, 63, 64, 65, 66, 67, 68, 69, 70, 71, 72, 73, 74, 75, 76, 77, 78, 79, 80, 81, 82, 83, 84, 85, 86, 87, 88, 89, 90, 91, 92, 93, 94, 95, 96, 97, 98, 99, 100, 101, 102, 103, 104, 105, 106, 107, 108, 109, 110, 111, 112, 113, 114, 115, 116, 117] rfl (by decide +kernel)
set_option maxRecDepth 20000 in
theorem gX12_gain_X12_gainBy : GoodIn wsX12_gain (wsV RX12 330 RX12 yX12_gainBy wsX12_gainBy) := goodIn_app (goodIn_of _ (by decide +kernel)) ggX12_gain_X12_gainBy
set_option maxRecDepth 20000 in
theorem ggX12_bestOf_X12_settle : GoodIn wsX12_bestOf wsX12_settle := goodIn_r _ [7, 8, 1, 2, 9, 10, 11, 6, 12, 13, 14, 15, 16, 17, 18, 19, 20, 21, 22, 23, 24, 25, 26, 27, 28, 29, 30, 31, 32, 33, 34, 35, 36, 37, 38, 39, 40, 41, 42, 43, 44, 45, 46, 47, 48, 49, 50, 51, 52, 53, 54, 55, 56, 57, 58, 59, 60, 61, 62, 63, 64, 65, 66, 67, 68, 69, 70, 71, 72, 73, 74, 75, 76, 77, 78, 79, 80, 81, 82, 83, 84, 85, 86, 87, 88, 89, 90, 91, 92, 93, 94, 95, 96, 97, 98, 99, 100, 101, 102, 103, 104, 105, 106, 107, 108, 109, 110, 111, 112, 113, 114, 115] rfl (by decide +kernel)
set_option maxRecDepth 20000 in
theorem gX12_bestOf_X12_settle : GoodIn wsX12_bestOf (wsV RX12 337 RX12 yX12_settle wsX12_settle) := goodIn_app (goodIn_of _ (by decide +kernel)) ggX12_bestOf_X12_settle
set_option maxRecDepth 20000 in
theorem ggX12_best_X12_bestOf : GoodIn wsX12_best wsX12_bestOf := goodIn_r _ [7, 8, 2, 9, 10, 11, 6, 12, 13, 14, 15, 16, 17, 18, 19, 20, 21, 22, 23, 24, 25, 26, 27, 28, 29, 30, 31, 32, 33, 34, 35, 36, 37, 38, 39, 40, 41, 42, 43, 44, 45, 46, 47, 48, 49, 50, 51, 52, 53, 54, 55, 56, 57, 58, 59, 60, 61, 62, 63, 64, 65, 66, 67, 68, 69, 70, 71, 72, 73, 74, 75, 76, 77, 78, 79, 80, 81, 82, 83, 84, 85, 86, 87, 88, 89, 90, 91, 92, 93, 94, 95, 96, 97, 98, 99, 100, 101, 102, 103, 104, 105, 106, 107, 108, 109, 110, 111, 112, 113, 114, 115, 116, 117, 118, 119, 120] rfl (by decide +kernel)
set_option maxRecDepth 20000 in
theorem gX12_best_X12_bestOf : GoodIn wsX12_best (wsV RX12 340 RX12 yX12_bestOf wsX12_bestOf) := goodIn_app (goodIn_of _ (by decide +kernel)) ggX12_best_X12_bestOf
set_option maxRecDepth 20000 in
theorem ggX12_bestParts_X12_bestOf : GoodIn wsX12_bestParts wsX12_bestOf := goodIn_r _ [6, 7, 8, 9, 10, 11, 5, 12, 13, 14, 15, 16, 17, 18, 19, 20, 21, 22, 23, 24, 25, 26, 27, 28, 29, 30, 31, 32, 33, 34, 35, 36, 37, 38, 39, 40, 41, 42, 43, 44, 45, 46, 47, 48, 49, 50, 51, 52, 53, 54, 55, 56, 57, 58, 59, 60, 61, 62, 63, 64, 65, 66, 67, 68, 69, 70, 71, 72, 73, 74, 75, 76, 77, 78, 79, 80, 81, 82, 83, 84, 85, 86, 87, 88, 89, 90, 91, 92, 93, 94, 95, 96, 97, 98, 99, 100, 101, 102, 103, 104, 105, 106, 107, 108, 109, 110, 111, 112, 113, 114, 115, 116, 117, 118, 119, 120] rfl (by decide +kernel)
set_option maxRecDepth 20000 in
theorem gX12_bestParts_X12_bestOf : GoodIn wsX12_bestParts (wsV RX12 340 RX12 yX12_bestOf wsX12_bestOf) := goodIn_app (goodIn_of _ (by decide +kernel)) ggX12_bestParts_X12_bestOf
set_option maxRecDepth 20000 in
theorem ggX12_goes_X12_isParts : GoodIn wsX12_goes wsX12_isParts := goodIn_r _ [7, 2, 8, 9, 6, 10, 22, 23, 24, 25, 26, 27, 28, 29, 30, 31, 32, 33, 34, 35, 36, 37, 38, 39, 40, 41, 42, 43, 44, 45, 46, 47, 48, 49, 50, 51, 52, 53, 54, 55, 56, 57, 58, 59, 60, 61, 62, 63, 64, 65, 66, 67, 68, 69, 70, 71, 72, 73, 74, 75, 76, 77, 78, 79] rfl (by decide +kernel)
set_option maxRecDepth 20000 in
theorem gX12_goes_X12_isParts : GoodIn wsX12_goes (wsV RX12 334 RX12 yX12_isParts wsX12_isParts) := goodIn_app (goodIn_of _ (by decide +kernel)) ggX12_goes_X12_isParts
set_option maxRecDepth 20000 in
theorem ggX12_goes_X12_goesAs : GoodIn wsX12_goes wsX12_goesAs := goodIn_r _ [14, 15, 16, 17, 6, 18, 2, 19, 20, 21, 22, 23, 24, 25, 26, 27, 28, 29, 30, 31, 32, 33, 34, 35, 36, 37, 38, 39, 40, 41, 42, 43, 44, 45, 46, 47, 48, 49, 50, 51, 52, 53, 54, 55, 56, 57, 58, 59, 60, 61, 62, 63, 64, 65, 66, 67, 68, 69, 70, 71, 72, 73, 74, 75, 76, 77, 78, 79] rfl (by decide +kernel)
set_option maxRecDepth 20000 in
theorem gX12_goes_X12_goesAs : GoodIn wsX12_goes (wsV RX12 324 RX12 yX12_goesAs wsX12_goesAs) := goodIn_app (goodIn_of _ (by decide +kernel)) ggX12_goes_X12_goesAs
set_option maxRecDepth 20000 in
theorem ggX12_above_X12_settle : GoodIn wsX12_above wsX12_settle := goodIn_r _ [8, 9, 2, 3, 10, 11, 12, 7, 13, 14, 15, 16, 17, 18, 19, 20, 21, 22, 23, 24, 25, 26, 27, 28, 29, 30, 31, 32, 33, 34, 35, 36, 37, 38, 39, 40, 41, 42, 43, 44, 45, 46, 47, 48, 49, 50, 51, 52, 53, 54, 55, 56, 57, 58, 59, 60, 61, 62, 63, 64, 65, 66, 67, 68, 69, 70, 71, 72, 73, 74, 75, 76, 77, 78, 79, 80, 81, 82, 83, 84, 85, 86, 87, 88, 89, 90, 91, 92, 93, 94, 95, 96, 97, 98, 99, 100, 101, 102, 103, 104, 105, 106, 107, 108, 109, 110, 111, 112, 113, 114, 115, 116] rfl (by decide +kernel)
set_option maxRecDepth 20000 in
theorem gX12_above_X12_settle : GoodIn wsX12_above (wsV RX12 337 RX12 yX12_settle wsX12_settle) := goodIn_app (goodIn_of _ (by decide +kernel)) ggX12_above_X12_settle
set_option maxRecDepth 20000 in
theorem ggX12_price_X12_isPerson : GoodIn wsX12_price wsX12_isPerson := goodIn_r _ [7, 2, 8, 9, 6, 10, 64, 65, 66, 67, 68, 69, 70, 71, 72, 73, 74, 75, 76, 77, 78, 79, 80, 81, 82, 83, 84, 85, 86, 87, 88, 89, 90, 91, 92, 93, 94, 95, 96, 97, 98, 99, 100, 101, 102, 103, 104, 105, 106, 107, 108, 109, 110, 111, 112, 113, 114, 115, 116, 117, 118, 119, 120, 121] rfl (by decide +kernel)
set_option maxRecDepth 20000 in
theorem gX12_price_X12_isPerson : GoodIn wsX12_price (wsV RX12 256 RX12 yX12_isPerson wsX12_isPerson) := goodIn_app (goodIn_of _ (by decide +kernel)) ggX12_price_X12_isPerson
set_option maxRecDepth 20000 in
theorem ggX12_price_X12_isParts : GoodIn wsX12_price wsX12_isParts := goodIn_r _ [14, 2, 8, 9, 6, 10, 64, 65, 66, 67, 68, 69, 70, 71, 72, 73, 74, 75, 76, 77, 78, 79, 80, 81, 82, 83, 84, 85, 86, 87, 88, 89, 90, 91, 92, 93, 94, 95, 96, 97, 98, 99, 100, 101, 102, 103, 104, 105, 106, 107, 108, 109, 110, 111, 112, 113, 114, 115, 116, 117, 118, 119, 120, 121] rfl (by decide +kernel)
set_option maxRecDepth 20000 in
theorem gX12_price_X12_isParts : GoodIn wsX12_price (wsV RX12 334 RX12 yX12_isParts wsX12_isParts) := goodIn_app (goodIn_of _ (by decide +kernel)) ggX12_price_X12_isParts
set_option maxRecDepth 20000 in
theorem ggX12_price_X12_gainBy : GoodIn wsX12_price wsX12_gainBy := goodIn_r _ [18, 2, 19, 20, 21, 22, 23, 24, 25, 6, 26, 27, 28, 29, 30, 31, 32, 33, 34, 35, 36, 37, 38, 39, 40, 41, 42, 43, 44, 45, 46, 47, 48, 49, 50, 51, 52, 53, 54, 55, 56, 57, 58, 59, 60, 61, 62, 63, 64, 65, 66, 67, 68, 69, 70, 71, 72, 73, 74, 75, 76, 77, 78, 79, 80, 81, 82, 83, 84, 85, 86, 87, 88, 89, 90, 91, 92, 93, 94, 95, 96, 97, 98, 99, 100, 101, 102, 103, 104, 105, 106, 107, 108, 109, 110, 111, 112, 113, 114, 115, 116, 117, 118, 119, 120, 121] rfl (by decide +kernel)
set_option maxRecDepth 20000 in
theorem gX12_price_X12_gainBy : GoodIn wsX12_price (wsV RX12 330 RX12 yX12_gainBy wsX12_gainBy) := goodIn_app (goodIn_of _ (by decide +kernel)) ggX12_price_X12_gainBy
set_option maxRecDepth 20000 in
theorem ggX12_loss_X12_isPerson : GoodIn wsX12_loss wsX12_isPerson := goodIn_r _ [6, 7, 8, 9, 5, 10, 64, 65, 66, 67, 68, 69, 70, 71, 72, 73, 74, 75, 76, 77, 78, 79, 80, 81, 82, 83, 84, 85, 86, 87, 88, 89, 90, 91, 92, 93, 94, 95, 96, 97, 98, 99, 100, 101, 102, 103, 104, 105, 106, 107, 108, 109, 110, 111, 112, 113, 114, 115, 116, 117, 118, 119, 120, 121] rfl (by decide +kernel)
set_option maxRecDepth 20000 in
theorem gX12_loss_X12_isPerson : GoodIn wsX12_loss (wsV RX12 256 RX12 yX12_isPerson wsX12_isPerson) := goodIn_app (goodIn_of _ (by decide +kernel)) ggX12_loss_X12_isPerson
set_option maxRecDepth 20000 in
theorem ggX12_loss_X12_isParts : GoodIn wsX12_loss wsX12_isParts := goodIn_r _ [14, 7, 8, 9, 5, 10, 64, 65, 66, 67, 68, 69, 70, 71, 72, 73, 74, 75, 76, 77, 78, 79, 80, 81, 82, 83, 84, 85, 86, 87, 88, 89, 90, 91, 92, 93, 94, 95, 96, 97, 98, 99, 100, 101, 102, 103, 104, 105, 106, 107, 108, 109, 110, 111, 112, 113, 114, 115, 116, 117, 118, 119, 120, 121] rfl (by decide +kernel)
set_option maxRecDepth 20000 in
theorem gX12_loss_X12_isParts : GoodIn wsX12_loss (wsV RX12 334 RX12 yX12_isParts wsX12_isParts) := goodIn_app (goodIn_of _ (by decide +kernel)) ggX12_loss_X12_isParts
set_option maxRecDepth 20000 in
theorem ggX12_loss_X12_gainBy : GoodIn wsX12_loss wsX12_gainBy := goodIn_r _ [18, 7, 19, 20, 21, 22, 23, 24, 25, 5, 26, 27, 28, 29, 30, 31, 32, 33, 34, 35, 36, 37, 38, 39, 40, 41, 42, 43, 44, 45, 46, 47, 48, 49, 50, 51, 52, 53, 54, 55, 56, 57, 58, 59, 60, 61, 62, 63, 64, 65, 66, 67, 68, 69, 70, 71, 72, 73, 74, 75, 76, 77, 78, 79, 80, 81, 82, 83, 84, 85, 86, 87, 88, 89, 90, 91, 92, 93, 94, 95, 96, 97, 98, 99, 100, 101, 102, 103, 104, 105, 106, 107, 108, 109, 110, 111, 112, 113, 114, 115, 116, 117, 118, 119, 120, 121] rfl (by decide +kernel)
set_option maxRecDepth 20000 in
theorem gX12_loss_X12_gainBy : GoodIn wsX12_loss (wsV RX12 330 RX12 yX12_gainBy wsX12_gainBy) := goodIn_app (goodIn_of _ (by decide +kernel)) ggX12_loss_X12_gainBy
set_option maxRecDepth 20000 in
theorem ggX12_climb_X12_isParts : GoodIn wsX12_climb wsX12_isParts := goodIn_r _ [9, 3, 10, 11, 8, 12, 67, 68, 69, 70, 71, 72, 73, 74, 75, 76, 77, 78, 79, 80, 81, 82, 83, 84, 85, 86, 87, 88, 89, 90, 91, 92, 93, 94, 95, 96, 97, 98, 99, 100, 101, 102, 103, 104, 105, 106, 107, 108, 109, 110, 111, 112, 113, 114, 115, 116, 117, 118, 119, 120, 121, 122, 123, 124] rfl (by decide +kernel)
set_option maxRecDepth 20000 in
theorem gX12_climb_X12_isParts : GoodIn wsX12_climb (wsV RX12 334 RX12 yX12_isParts wsX12_isParts) := goodIn_app (goodIn_of _ (by decide +kernel)) ggX12_climb_X12_isParts
set_option maxRecDepth 20000 in
theorem ggX12_climb_X12_settle : GoodIn wsX12_climb wsX12_settle := goodIn_r _ [16, 17, 3, 4, 18, 19, 20, 8, 21, 22, 23, 24, 25, 26, 27, 28, 29, 30, 31, 32, 33, 34, 35, 36, 37, 38, 39, 40, 41, 42, 43, 44, 45, 46, 47, 48, 49, 50, 51, 52, 53, 54, 55, 56, 57, 58, 59, 60, 61, 62, 63, 64, 65, 66, 67, 68, 69, 70, 71, 72, 73, 74, 75, 76, 77, 78, 79, 80, 81, 82, 83, 84, 85, 86, 87, 88, 89, 90, 91, 92, 93, 94, 95, 96, 97, 98, 99, 100, 101, 102, 103, 104, 105, 106, 107, 108, 109, 110, 111, 112, 113, 114, 115, 116, 117, 118, 119, 120, 121, 122, 123, 124] rfl (by decide +kernel)
set_option maxRecDepth 20000 in
theorem gX12_climb_X12_settle : GoodIn wsX12_climb (wsV RX12 337 RX12 yX12_settle wsX12_settle) := goodIn_app (goodIn_of _ (by decide +kernel)) ggX12_climb_X12_settle
set_option maxRecDepth 20000 in
theorem ggX12_ownOf_X12_goesAs : GoodIn wsX12_ownOf wsX12_goesAs := goodIn_r _ [6, 7, 8, 9, 5, 10, 1, 11, 12, 13, 18, 19, 20, 21, 22, 23, 24, 25, 26, 27, 28, 29, 30, 31, 32, 33, 34, 35, 36, 37, 38, 39, 40, 41, 42, 43, 44, 45, 46, 47, 48, 49, 50, 51, 52, 53, 54, 55, 56, 57, 58, 59, 60, 61, 62, 63, 64, 65, 66, 67, 68, 69, 70, 71, 72, 73, 74, 75] rfl (by decide +kernel)
set_option maxRecDepth 20000 in
theorem gX12_ownOf_X12_goesAs : GoodIn wsX12_ownOf (wsV RX12 324 RX12 yX12_goesAs wsX12_goesAs) := goodIn_app (goodIn_of _ (by decide +kernel)) ggX12_ownOf_X12_goesAs
set_option maxRecDepth 20000 in
theorem ggX12_ownOf_X12_gainOf : GoodIn wsX12_ownOf wsX12_gainOf := goodIn_r _ [17, 7, 8, 9, 5, 10, 1, 18, 19, 20, 21, 22, 23, 24, 25, 26, 27, 28, 29, 30, 31, 32, 33, 34, 35, 36, 37, 38, 39, 40, 41, 42, 43, 44, 45, 46, 47, 48, 49, 50, 51, 52, 53, 54, 55, 56, 57, 58, 59, 60, 61, 62, 63, 64, 65, 66, 67, 68, 69, 70, 71, 72, 73, 74, 75] rfl (by decide +kernel)
set_option maxRecDepth 20000 in
theorem gX12_ownOf_X12_gainOf : GoodIn wsX12_ownOf (wsV RX12 308 RX12 yX12_gainOf wsX12_gainOf) := goodIn_app (goodIn_of _ (by decide +kernel)) ggX12_ownOf_X12_gainOf
set_option maxRecDepth 20000 in
theorem ggX12_own_X12_isPerson : GoodIn wsX12_own wsX12_isPerson := goodIn_r _ [6, 7, 8, 9, 5, 10, 34, 35, 36, 37, 38, 39, 40, 41, 42, 43, 44, 45, 46, 47, 48, 49, 50, 51, 52, 53, 54, 55, 56, 57, 58, 59, 60, 61, 62, 63, 64, 65, 66, 67, 68, 69, 70, 71, 72, 73, 74, 75, 76, 77, 78, 79, 80, 81, 82, 83, 84, 85, 86, 87, 88, 89, 90, 91] rfl (by decide +kernel)
set_option maxRecDepth 20000 in
theorem gX12_own_X12_isPerson : GoodIn wsX12_own (wsV RX12 256 RX12 yX12_isPerson wsX12_isPerson) := goodIn_app (goodIn_of _ (by decide +kernel)) ggX12_own_X12_isPerson
set_option maxRecDepth 20000 in
theorem ggX12_own_X12_isParts : GoodIn wsX12_own wsX12_isParts := goodIn_r _ [14, 7, 8, 9, 5, 10, 34, 35, 36, 37, 38, 39, 40, 41, 42, 43, 44, 45, 46, 47, 48, 49, 50, 51, 52, 53, 54, 55, 56, 57, 58, 59, 60, 61, 62, 63, 64, 65, 66, 67, 68, 69, 70, 71, 72, 73, 74, 75, 76, 77, 78, 79, 80, 81, 82, 83, 84, 85, 86, 87, 88, 89, 90, 91] rfl (by decide +kernel)
set_option maxRecDepth 20000 in
theorem gX12_own_X12_isParts : GoodIn wsX12_own (wsV RX12 334 RX12 yX12_isParts wsX12_isParts) := goodIn_app (goodIn_of _ (by decide +kernel)) ggX12_own_X12_isParts
set_option maxRecDepth 20000 in
theorem ggX12_own_X12_ownOf : GoodIn wsX12_own wsX12_ownOf := goodIn_r _ [18, 7, 19, 20, 21, 5, 22, 23, 24, 25, 26, 27, 28, 29, 30, 31, 32, 33, 34, 35, 36, 37, 38, 39, 40, 41, 42, 43, 44, 45, 46, 47, 48, 49, 50, 51, 52, 53, 54, 55, 56, 57, 58, 59, 60, 61, 62, 63, 64, 65, 66, 67, 68, 69, 70, 71, 72, 73, 74, 75, 76, 77, 78, 79, 80, 81, 82, 83, 84, 85, 86, 87, 88, 89, 90, 91] rfl (by decide +kernel)
set_option maxRecDepth 20000 in
theorem gX12_own_X12_ownOf : GoodIn wsX12_own (wsV RX12 346 RX12 yX12_ownOf wsX12_ownOf) := goodIn_app (goodIn_of _ (by decide +kernel)) ggX12_own_X12_ownOf
set_option maxRecDepth 20000 in
theorem ggX12_isRest_X12_ownOf : GoodIn wsX12_isRest wsX12_ownOf := goodIn_r _ [6, 1, 7, 8, 9, 5, 10, 11, 12, 13, 14, 15, 16, 17, 18, 19, 20, 21, 22, 23, 24, 25, 26, 27, 28, 29, 30, 31, 32, 33, 34, 35, 36, 37, 38, 39, 40, 41, 42, 43, 44, 45, 46, 47, 48, 49, 50, 51, 52, 53, 54, 55, 56, 57, 58, 59, 60, 61, 62, 63, 64, 65, 66, 67, 68, 69, 70, 71, 72, 73, 74, 75, 76, 77, 78, 79] rfl (by decide +kernel)
set_option maxRecDepth 20000 in
theorem gX12_isRest_X12_ownOf : GoodIn wsX12_isRest (wsV RX12 346 RX12 yX12_ownOf wsX12_ownOf) := goodIn_app (goodIn_of _ (by decide +kernel)) ggX12_isRest_X12_ownOf
set_option maxRecDepth 20000 in
theorem ggX12_rests_X12_isRest : GoodIn wsX12_rests wsX12_isRest := goodIn_r _ [7, 2, 8, 9, 10, 6, 11, 12, 13, 14, 15, 16, 17, 18, 19, 20, 21, 22, 23, 24, 25, 26, 27, 28, 29, 30, 31, 32, 33, 34, 35, 36, 37, 38, 39, 40, 41, 42, 43, 44, 45, 46, 47, 48, 49, 50, 51, 52, 53, 54, 55, 56, 57, 58, 59, 60, 61, 62, 63, 64, 65, 66, 67, 68, 69, 70, 71, 72, 73, 74, 75, 76, 77, 78, 79, 80, 81, 82, 83, 84] rfl (by decide +kernel)
set_option maxRecDepth 20000 in
theorem gX12_rests_X12_isRest : GoodIn wsX12_rests (wsV RX12 349 RX12 yX12_isRest wsX12_isRest) := goodIn_app (goodIn_of _ (by decide +kernel)) ggX12_rests_X12_isRest
set_option maxRecDepth 20000 in
theorem ggX12_rounds_X12_isParts : GoodIn wsX12_rounds wsX12_isParts := goodIn_r _ [10, 4, 11, 12, 9, 13, 33, 34, 35, 36, 37, 38, 39, 40, 41, 42, 43, 44, 45, 46, 47, 48, 49, 50, 51, 52, 53, 54, 55, 56, 57, 58, 59, 60, 61, 62, 63, 64, 65, 66, 67, 68, 69, 70, 71, 72, 73, 74, 75, 76, 77, 78, 79, 80, 81, 82, 83, 84, 85, 86, 87, 88, 89, 90] rfl (by decide +kernel)
set_option maxRecDepth 20000 in
theorem gX12_rounds_X12_isParts : GoodIn wsX12_rounds (wsV RX12 334 RX12 yX12_isParts wsX12_isParts) := goodIn_app (goodIn_of _ (by decide +kernel)) ggX12_rounds_X12_isParts
set_option maxRecDepth 20000 in
theorem ggX12_rounds_X12_ownOf : GoodIn wsX12_rounds wsX12_ownOf := goodIn_r _ [17, 4, 18, 19, 20, 9, 21, 22, 23, 24, 25, 26, 27, 28, 29, 30, 31, 32, 33, 34, 35, 36, 37, 38, 39, 40, 41, 42, 43, 44, 45, 46, 47, 48, 49, 50, 51, 52, 53, 54, 55, 56, 57, 58, 59, 60, 61, 62, 63, 64, 65, 66, 67, 68, 69, 70, 71, 72, 73, 74, 75, 76, 77, 78, 79, 80, 81, 82, 83, 84, 85, 86, 87, 88, 89, 90] rfl (by decide +kernel)
set_option maxRecDepth 20000 in
theorem gX12_rounds_X12_ownOf : GoodIn wsX12_rounds (wsV RX12 346 RX12 yX12_ownOf wsX12_ownOf) := goodIn_app (goodIn_of _ (by decide +kernel)) ggX12_rounds_X12_ownOf
set_option maxRecDepth 20000 in
theorem ggX12_ended_X12_isIn : GoodIn wsX12_ended wsX12_isIn := goodIn_r _ [7] rfl (by decide +kernel)
set_option maxRecDepth 20000 in
theorem gX12_ended_X12_isIn : GoodIn wsX12_ended (va_wsS RX12 197 yX12_isIn wsX12_isIn) := goodIn_app (goodIn_of _ (by decide +kernel)) ggX12_ended_X12_isIn
set_option maxRecDepth 20000 in
theorem ggX12_yearGains_X12_of : GoodIn wsX12_yearGains wsX12_of := goodIn_r _ [7, 2, 19, 20, 21, 22, 23, 24, 25, 26, 27, 28, 29, 30, 31, 32, 33, 34, 35, 36, 37, 38, 39, 40, 41, 42, 43, 44, 45, 46, 47, 48, 49, 50, 51, 52, 53, 54, 55, 56, 57, 58, 59, 60, 61, 62, 63, 64, 65, 66, 67, 68, 69, 70, 71, 72, 73, 74, 75, 76] rfl (by decide +kernel)
set_option maxRecDepth 20000 in
theorem gX12_yearGains_X12_of : GoodIn wsX12_yearGains (wsV RX12 266 RX12 yX12_of wsX12_of) := goodIn_app (goodIn_of _ (by decide +kernel)) ggX12_yearGains_X12_of
set_option maxRecDepth 20000 in
theorem ggX12_yearGains_X12_goesAs : GoodIn wsX12_yearGains wsX12_goesAs := goodIn_r _ [11, 3, 4, 5, 6, 7, 2, 12, 13, 14, 19, 20, 21, 22, 23, 24, 25, 26, 27, 28, 29, 30, 31, 32, 33, 34, 35, 36, 37, 38, 39, 40, 41, 42, 43, 44, 45, 46, 47, 48, 49, 50, 51, 52, 53, 54, 55, 56, 57, 58, 59, 60, 61, 62, 63, 64, 65, 66, 67, 68, 69, 70, 71, 72, 73, 74, 75, 76] rfl (by decide +kernel)
set_option maxRecDepth 20000 in
theorem gX12_yearGains_X12_goesAs : GoodIn wsX12_yearGains (wsV RX12 324 RX12 yX12_goesAs wsX12_goesAs) := goodIn_app (goodIn_of _ (by decide +kernel)) ggX12_yearGains_X12_goesAs
set_option maxRecDepth 20000 in
theorem ggX12_yearGains_X12_gainOf : GoodIn wsX12_yearGains wsX12_gainOf := goodIn_r _ [18, 3, 4, 5, 6, 7, 2, 19, 20, 21, 22, 23, 24, 25, 26, 27, 28, 29, 30, 31, 32, 33, 34, 35, 36, 37, 38, 39, 40, 41, 42, 43, 44, 45, 46, 47, 48, 49, 50, 51, 52, 53, 54, 55, 56, 57, 58, 59, 60, 61, 62, 63, 64, 65, 66, 67, 68, 69, 70, 71, 72, 73, 74, 75, 76] rfl (by decide +kernel)
set_option maxRecDepth 20000 in
theorem gX12_yearGains_X12_gainOf : GoodIn wsX12_yearGains (wsV RX12 308 RX12 yX12_gainOf wsX12_gainOf) := goodIn_app (goodIn_of _ (by decide +kernel)) ggX12_yearGains_X12_gainOf
set_option maxRecDepth 20000 in
theorem ggX12_from_X12_later : GoodIn wsX12_from wsX12_later := goodIn_r _ [6, 7, 8, 9, 10, 5, 11, 12, 13, 14, 15, 16, 17, 18, 19, 20, 21, 22, 23, 24, 25, 26, 27, 28, 29, 30, 31, 32, 33, 34, 35, 36, 37, 38, 39, 40, 41, 42, 43, 44, 45, 46, 47, 48, 49, 50, 51, 52, 53, 54, 55, 56, 57, 58, 59, 60, 61, 62, 63, 64, 65, 66, 67, 68, 69] rfl (by decide +kernel)
set_option maxRecDepth 20000 in
theorem gX12_from_X12_later : GoodIn wsX12_from (wsV RX12 355 RX12 yX12_later wsX12_later) := goodIn_app (goodIn_of _ (by decide +kernel)) ggX12_from_X12_later
set_option maxRecDepth 20000 in
theorem ggX12_later_X12_bindAt : GoodIn wsX12_later wsX12_bindAt := goodIn_r _ [6] rfl (by decide +kernel)
set_option maxRecDepth 20000 in
theorem gX12_later_X12_bindAt : GoodIn wsX12_later (wsV RX12 358 RX12 yX12_bindAt wsX12_bindAt) := goodIn_app (goodIn_of _ (by decide +kernel)) ggX12_later_X12_bindAt
set_option maxRecDepth 20000 in
theorem ggX12_oneOf_X12_yearGains : GoodIn wsX12_oneOf wsX12_yearGains := goodIn_r _ [6, 7, 8, 9, 10, 11, 5, 12, 13, 14, 15, 16, 17, 18, 19, 20, 21, 22, 23, 36, 37, 38, 39, 40, 41, 42, 43, 44, 45, 46, 47, 48, 49, 50, 51, 52, 53, 54, 55, 56, 57, 58, 59, 60, 61, 62, 63, 64, 65, 66, 67, 68, 69, 70, 71, 72, 73, 74, 75, 76, 77, 78, 79, 80, 81, 82, 83, 84, 85, 86, 87, 88, 89, 90, 91, 92, 93] rfl (by decide +kernel)
set_option maxRecDepth 20000 in
theorem gX12_oneOf_X12_yearGains : GoodIn wsX12_oneOf (wsV RX12 361 RX12 yX12_yearGains wsX12_yearGains) := goodIn_app (goodIn_of _ (by decide +kernel)) ggX12_oneOf_X12_yearGains
set_option maxRecDepth 20000 in
theorem ggX12_oneOf_X12_from : GoodIn wsX12_oneOf wsX12_from := goodIn_r _ [27, 7, 28, 29, 30, 5, 31, 1, 32, 33, 34, 35, 36, 37, 38, 39, 40, 41, 42, 43, 44, 45, 46, 47, 48, 49, 50, 51, 52, 53, 54, 55, 56, 57, 58, 59, 60, 61, 62, 63, 64, 65, 66, 67, 68, 69, 70, 71, 72, 73, 74, 75, 76, 77, 78, 79, 80, 81, 82, 83, 84, 85, 86, 87, 88, 89, 90, 91, 92, 93] rfl (by decide +kernel)
set_option maxRecDepth 20000 in
theorem gX12_oneOf_X12_from : GoodIn wsX12_oneOf (wsV RX12 364 RX12 yX12_from wsX12_from) := goodIn_app (goodIn_of _ (by decide +kernel)) ggX12_oneOf_X12_from
set_option maxRecDepth 20000 in
theorem ggX12_oneOf_X12_bindAt : GoodIn wsX12_oneOf wsX12_bindAt := goodIn_r _ [35] rfl (by decide +kernel)
set_option maxRecDepth 20000 in
theorem gX12_oneOf_X12_bindAt : GoodIn wsX12_oneOf (wsV RX12 358 RX12 yX12_bindAt wsX12_bindAt) := goodIn_app (goodIn_of _ (by decide +kernel)) ggX12_oneOf_X12_bindAt
set_option maxRecDepth 20000 in
theorem ggX12_one_X12_isPerson : GoodIn wsX12_one wsX12_isPerson := goodIn_r _ [10, 2, 11, 12, 9, 13, 54, 55, 56, 57, 58, 59, 60, 61, 62, 63, 64, 65, 66, 67, 68, 69, 70, 71, 72, 73, 74, 75, 76, 77, 78, 79, 80, 81, 82, 83, 84, 85, 86, 87, 88, 89, 90, 91, 92, 93, 94, 95, 96, 97, 98, 99, 100, 101, 102, 103, 104, 105, 106, 107, 108, 109, 110, 111] rfl (by decide +kernel)
set_option maxRecDepth 20000 in
theorem gX12_one_X12_isPerson : GoodIn wsX12_one (wsV RX12 256 RX12 yX12_isPerson wsX12_isPerson) := goodIn_app (goodIn_of _ (by decide +kernel)) ggX12_one_X12_isPerson
set_option maxRecDepth 20000 in
theorem ggX12_one_X12_isParts : GoodIn wsX12_one wsX12_isParts := goodIn_r _ [17, 2, 11, 12, 9, 13, 54, 55, 56, 57, 58, 59, 60, 61, 62, 63, 64, 65, 66, 67, 68, 69, 70, 71, 72, 73, 74, 75, 76, 77, 78, 79, 80, 81, 82, 83, 84, 85, 86, 87, 88, 89, 90, 91, 92, 93, 94, 95, 96, 97, 98, 99, 100, 101, 102, 103, 104, 105, 106, 107, 108, 109, 110, 111] rfl (by decide +kernel)
set_option maxRecDepth 20000 in
theorem gX12_one_X12_isParts : GoodIn wsX12_one (wsV RX12 334 RX12 yX12_isParts wsX12_isParts) := goodIn_app (goodIn_of _ (by decide +kernel)) ggX12_one_X12_isParts
set_option maxRecDepth 20000 in
theorem ggX12_one_X12_oneOf : GoodIn wsX12_one wsX12_oneOf := goodIn_r _ [21, 3, 22, 23, 24, 9, 25, 26, 2, 27, 28, 29, 30, 31, 32, 33, 34, 35, 36, 37, 38, 39, 40, 41, 42, 43, 44, 45, 46, 47, 48, 49, 50, 51, 52, 53, 54, 55, 56, 57, 58, 59, 60, 61, 62, 63, 64, 65, 66, 67, 68, 69, 70, 71, 72, 73, 74, 75, 76, 77, 78, 79, 80, 81, 82, 83, 84, 85, 86, 87, 88, 89, 90, 91, 92, 93, 94, 95, 96, 97, 98, 99, 100, 101, 102, 103, 104, 105, 106, 107, 108, 109, 110, 111] rfl (by decide +kernel)
set_option maxRecDepth 20000 in
theorem gX12_one_X12_oneOf : GoodIn wsX12_one (wsV RX12 368 RX12 yX12_oneOf wsX12_oneOf) := goodIn_app (goodIn_of _ (by decide +kernel)) ggX12_one_X12_oneOf
set_option maxRecDepth 20000 in
theorem ggX12_one_X12_from : GoodIn wsX12_one wsX12_from := goodIn_r _ [45, 26, 46, 47, 48, 9, 49, 3, 50, 51, 52, 53, 54, 55, 56, 57, 58, 59, 60, 61, 62, 63, 64, 65, 66, 67, 68, 69, 70, 71, 72, 73, 74, 75, 76, 77, 78, 79, 80, 81, 82, 83, 84, 85, 86, 87, 88, 89, 90, 91, 92, 93, 94, 95, 96, 97, 98, 99, 100, 101, 102, 103, 104, 105, 106, 107, 108, 109, 110, 111] rfl (by decide +kernel)
set_option maxRecDepth 20000 in
theorem gX12_one_X12_from : GoodIn wsX12_one (wsV RX12 364 RX12 yX12_from wsX12_from) := goodIn_app (goodIn_of _ (by decide +kernel)) ggX12_one_X12_from
set_option maxRecDepth 20000 in
theorem ggX12_one_X12_bindAt : GoodIn wsX12_one wsX12_bindAt := goodIn_r _ [53] rfl (by decide +kernel)
set_option maxRecDepth 20000 in
theorem gX12_one_X12_bindAt : GoodIn wsX12_one (wsV RX12 358 RX12 yX12_bindAt wsX12_bindAt) := goodIn_app (goodIn_of _ (by decide +kernel)) ggX12_one_X12_bindAt
set_option maxRecDepth 20000 in
theorem ggX12_oneBy_X12_isPerson : GoodIn wsX12_oneBy wsX12_isPerson := goodIn_r _ [6, 7, 8, 9, 5, 10, 52, 53, 54, 55, 56, 57, 58, 59, 60, 61, 62, 63, 64, 65, 66, 67, 68, 69, 70, 71, 72, 73, 74, 75, 76, 77, 78, 79, 80, 81, 82, 83, 84, 85, 86, 87, 88, 89, 90, 91, 92, 93, 94, 95, 96, 97, 98, 99, 100, 101, 102, 103, 104, 105, 106, 107, 108, 109] rfl (by decide +kernel)
set_option maxRecDepth 20000 in
theorem gX12_oneBy_X12_isPerson : GoodIn wsX12_oneBy (wsV RX12 256 RX12 yX12_isPerson wsX12_isPerson) := goodIn_app (goodIn_of _ (by decide +kernel)) ggX12_oneBy_X12_isPerson
set_option maxRecDepth 20000 in
theorem ggX12_oneBy_X12_isParts : GoodIn wsX12_oneBy wsX12_isParts := goodIn_r _ [14, 7, 8, 9, 5, 10, 52, 53, 54, 55, 56, 57, 58, 59, 60, 61, 62, 63, 64, 65, 66, 67, 68, 69, 70, 71, 72, 73, 74, 75, 76, 77, 78, 79, 80, 81, 82, 83, 84, 85, 86, 87, 88, 89, 90, 91, 92, 93, 94, 95, 96, 97, 98, 99, 100, 101, 102, 103, 104, 105, 106, 107, 108, 109] rfl (by decide +kernel)
set_option maxRecDepth 20000 in
theorem gX12_oneBy_X12_isParts : GoodIn wsX12_oneBy (wsV RX12 334 RX12 yX12_isParts wsX12_isParts) := goodIn_app (goodIn_of _ (by decide +kernel)) ggX12_oneBy_X12_isParts
set_option maxRecDepth 20000 in
theorem ggX12_oneBy_X12_isIn : GoodIn wsX12_oneBy wsX12_isIn := goodIn_r _ [10] rfl (by decide +kernel)
set_option maxRecDepth 20000 in
theorem gX12_oneBy_X12_isIn : GoodIn wsX12_oneBy (va_wsS RX12 197 yX12_isIn wsX12_isIn) := goodIn_app (goodIn_of _ (by decide +kernel)) ggX12_oneBy_X12_isIn
set_option maxRecDepth 20000 in
theorem ggX12_oneBy_X12_oneOf : GoodIn wsX12_oneBy wsX12_oneOf := goodIn_r _ [18, 19, 20, 21, 22, 5, 23, 24, 7, 25, 26, 27, 28, 29, 30, 31, 32, 33, 34, 35, 36, 37, 38, 39, 40, 41, 42, 43, 44, 45, 46, 47, 48, 49, 50, 51, 52, 53, 54, 55, 56, 57, 58, 59, 60, 61, 62, 63, 64, 65, 66, 67, 68, 69, 70, 71, 72, 73, 74, 75, 76, 77, 78, 79, 80, 81, 82, 83, 84, 85, 86, 87, 88, 89, 90, 91, 92, 93, 94, 95, 96, 97, 98, 99, 100, 101, 102, 103, 104, 105, 106, 107, 108, 109] rfl (by decide +kernel)
set_option maxRecDepth 20000 in
theorem gX12_oneBy_X12_oneOf : GoodIn wsX12_oneBy (wsV RX12 368 RX12 yX12_oneOf wsX12_oneOf) := goodIn_app (goodIn_of _ (by decide +kernel)) ggX12_oneBy_X12_oneOf
set_option maxRecDepth 20000 in
theorem ggX12_oneIs_X12_isIn : GoodIn wsX12_oneIs wsX12_isIn := goodIn_r _ [7] rfl (by decide +kernel)
set_option maxRecDepth 20000 in
theorem gX12_oneIs_X12_isIn : GoodIn wsX12_oneIs (va_wsS RX12 197 yX12_isIn wsX12_isIn) := goodIn_app (goodIn_of _ (by decide +kernel)) ggX12_oneIs_X12_isIn
set_option maxRecDepth 20000 in
theorem ggX12_byYears_X12_of : GoodIn wsX12_byYears wsX12_of := goodIn_r _ [7, 1, 8, 9, 10, 11, 12, 13, 14, 15, 16, 17, 18, 19, 20, 21, 22, 23, 24, 25, 26, 27, 28, 29, 30, 31, 32, 33, 34, 35, 36, 37, 38, 39, 40, 41, 42, 43, 44, 45, 46, 47, 48, 49, 50, 51, 52, 53, 54, 55, 56, 57, 58, 59, 60, 61, 62, 63, 64, 65] rfl (by decide +kernel)
set_option maxRecDepth 20000 in
theorem gX12_byYears_X12_of : GoodIn wsX12_byYears (wsV RX12 266 RX12 yX12_of wsX12_of) := goodIn_app (goodIn_of _ (by decide +kernel)) ggX12_byYears_X12_of
set_option maxRecDepth 20000 in
theorem ggX12_lawful_X12_byYears : GoodIn wsX12_lawful wsX12_byYears := goodIn_r _ [11, 2, 5, 12, 13, 14, 10, 15, 63, 64, 65, 66, 67, 68, 69, 70, 71, 72, 73, 74, 75, 76, 77, 78, 79, 80, 81, 82, 83, 84, 85, 86, 87, 88, 89, 90, 91, 92, 93, 94, 95, 96, 97, 98, 99, 100, 101, 102, 103, 104, 105, 106, 107, 108, 109, 110, 111, 112, 113, 114, 115, 116, 117, 118, 119, 120] rfl (by decide +kernel)
set_option maxRecDepth 20000 in
theorem gX12_lawful_X12_byYears : GoodIn wsX12_lawful (wsV RX12 374 RX12 yX12_byYears wsX12_byYears) := goodIn_app (goodIn_of _ (by decide +kernel)) ggX12_lawful_X12_byYears
set_option maxRecDepth 20000 in
theorem ggX12_lawful_X12_keepDone : GoodIn wsX12_lawful wsX12_keepDone := goodIn_r _ [19, 20, 2, 63, 64, 65, 66, 67, 68, 69, 70, 71, 72, 73, 74, 75, 76, 77, 78, 79, 80, 81, 82, 83, 84, 85, 86, 87, 88, 89, 90, 91, 92, 93, 94, 95, 96, 97, 98, 99, 100, 101, 102, 103, 104, 105, 106, 107, 108, 109, 110, 111, 112, 113, 114, 115, 116, 117, 118, 119, 120] rfl (by decide +kernel)
set_option maxRecDepth 20000 in
theorem gX12_lawful_X12_keepDone : GoodIn wsX12_lawful (wsV RX12 377 RX12 yX12_keepDone wsX12_keepDone) := goodIn_app (goodIn_of _ (by decide +kernel)) ggX12_lawful_X12_keepDone
set_option maxRecDepth 20000 in
theorem ggX12_lawful_X12_of : GoodIn wsX12_lawful wsX12_of := goodIn_r _ [15, 2, 63, 64, 65, 66, 67, 68, 69, 70, 71, 72, 73, 74, 75, 76, 77, 78, 79, 80, 81, 82, 83, 84, 85, 86, 87, 88, 89, 90, 91, 92, 93, 94, 95, 96, 97, 98, 99, 100, 101, 102, 103, 104, 105, 106, 107, 108, 109, 110, 111, 112, 113, 114, 115, 116, 117, 118, 119, 120] rfl (by decide +kernel)
set_option maxRecDepth 20000 in
theorem gX12_lawful_X12_of : GoodIn wsX12_lawful (wsV RX12 266 RX12 yX12_of wsX12_of) := goodIn_app (goodIn_of _ (by decide +kernel)) ggX12_lawful_X12_of
set_option maxRecDepth 20000 in
theorem ggX12_lawful_X12_wrong : GoodIn wsX12_lawful wsX12_wrong := goodIn_r _ [24, 2, 12, 13, 14, 10, 15, 25, 26, 27, 28, 29, 30, 31, 32, 33, 34, 35, 36, 37, 38, 39, 40, 41, 42, 43, 44, 45, 46, 47, 48, 49, 50, 51, 52, 53, 54, 63, 64, 65, 66, 67, 68, 69, 70, 71, 72, 73, 74, 75, 76, 77, 78, 79, 80, 81, 82, 83, 84, 85, 86, 87, 88, 89, 90, 91, 92, 93, 94, 95, 96, 97, 98, 99, 100, 101, 102, 103, 104, 105, 106, 107, 108, 109, 110, 111, 112, 113, 114, 115, 116, 117, 118, 119, 120] rfl (by decide +kernel)
set_option maxRecDepth 20000 in
theorem gX12_lawful_X12_wrong : GoodIn wsX12_lawful (wsV RX12 292 RX12 yX12_wrong wsX12_wrong) := goodIn_app (goodIn_of _ (by decide +kernel)) ggX12_lawful_X12_wrong
set_option maxRecDepth 20000 in
theorem ggX12_lawful_X12_put : GoodIn wsX12_lawful wsX12_put := goodIn_r _ [58, 2, 63, 64, 65, 66, 67, 68, 69, 70, 71, 72, 73, 74, 75, 76, 77, 78, 79, 80, 81, 82, 83, 84, 85, 86, 87, 88, 89, 90, 91, 92, 93, 94, 95, 96, 97, 98, 99, 100, 101, 102, 103, 104, 105, 106, 107, 108, 109, 110, 111, 112, 113, 114, 115, 116, 117, 118, 119, 120] rfl (by decide +kernel)
set_option maxRecDepth 20000 in
theorem gX12_lawful_X12_put : GoodIn wsX12_lawful (wsV RX12 295 RX12 yX12_put wsX12_put) := goodIn_app (goodIn_of _ (by decide +kernel)) ggX12_lawful_X12_put
set_option maxRecDepth 20000 in
theorem ggX12_lawful_X12_backDone : GoodIn wsX12_lawful wsX12_backDone := goodIn_r _ [62, 2, 20, 63, 64, 65, 66, 67, 68, 69, 70, 71, 72, 73, 74, 75, 76, 77, 78, 79, 80, 81, 82, 83, 84, 85, 86, 87, 88, 89, 90, 91, 92, 93, 94, 95, 96, 97, 98, 99, 100, 101, 102, 103, 104, 105, 106, 107, 108, 109, 110, 111, 112, 113, 114, 115, 116, 117, 118, 119, 120] rfl (by decide +kernel)
set_option maxRecDepth 20000 in
theorem gX12_lawful_X12_backDone : GoodIn wsX12_lawful (wsV RX12 380 RX12 yX12_backDone wsX12_backDone) := goodIn_app (goodIn_of _ (by decide +kernel)) ggX12_lawful_X12_backDone
set_option maxRecDepth 20000 in
theorem ggX12_lawfulBy_X12_isIn : GoodIn wsX12_lawfulBy wsX12_isIn := goodIn_r _ [7] rfl (by decide +kernel)
set_option maxRecDepth 20000 in
theorem gX12_lawfulBy_X12_isIn : GoodIn wsX12_lawfulBy (va_wsS RX12 197 yX12_isIn wsX12_isIn) := goodIn_app (goodIn_of _ (by decide +kernel)) ggX12_lawfulBy_X12_isIn
set_option maxRecDepth 20000 in
theorem ggX12_isServed_X12_of : GoodIn wsX12_isServed wsX12_of := goodIn_r _ [6, 1, 10, 11, 12, 13, 14, 15, 16, 17, 18, 19, 20, 21, 22, 23, 24, 25, 26, 27, 28, 29, 30, 31, 32, 33, 34, 35, 36, 37, 38, 39, 40, 41, 42, 43, 44, 45, 46, 47, 48, 49, 50, 51, 52, 53, 54, 55, 56, 57, 58, 59, 60, 61, 62, 63, 64, 65, 66, 67] rfl (by decide +kernel)
set_option maxRecDepth 20000 in
theorem gX12_isServed_X12_of : GoodIn wsX12_isServed (wsV RX12 266 RX12 yX12_of wsX12_of) := goodIn_app (goodIn_of _ (by decide +kernel)) ggX12_isServed_X12_of
set_option maxRecDepth 20000 in
theorem ggX12_isServed_X12_has : GoodIn wsX12_isServed wsX12_has := goodIn_r _ [9] rfl (by decide +kernel)
set_option maxRecDepth 20000 in
theorem gX12_isServed_X12_has : GoodIn wsX12_isServed (va_wsS RX12 235 yX12_has wsX12_has) := goodIn_app (goodIn_of _ (by decide +kernel)) ggX12_isServed_X12_has
set_option maxRecDepth 20000 in
theorem ggX12_fewest_X12_bits : GoodIn wsX12_fewest wsX12_bits := goodIn_r _ [6] rfl (by decide +kernel)
set_option maxRecDepth 20000 in
theorem gX12_fewest_X12_bits : GoodIn wsX12_fewest (va_wsS RX12 383 yX12_bits wsX12_bits) := goodIn_app (goodIn_of _ (by decide +kernel)) ggX12_fewest_X12_bits
set_option maxRecDepth 20000 in
theorem ggX12_fewest_X12_isServed : GoodIn wsX12_fewest wsX12_isServed := goodIn_r _ [10, 2, 11, 12, 13, 5, 14, 15, 16, 17, 18, 19, 20, 21, 22, 23, 24, 25, 26, 27, 28, 29, 30, 31, 32, 33, 34, 35, 36, 37, 38, 39, 40, 41, 42, 43, 44, 45, 46, 47, 48, 49, 50, 51, 52, 53, 54, 55, 56, 57, 58, 59, 60, 61, 62, 63, 64, 65, 66, 67, 68, 69, 70, 71, 72, 73, 74, 75] rfl (by decide +kernel)
set_option maxRecDepth 20000 in
theorem gX12_fewest_X12_isServed : GoodIn wsX12_fewest (wsV RX12 386 RX12 yX12_isServed wsX12_isServed) := goodIn_app (goodIn_of _ (by decide +kernel)) ggX12_fewest_X12_isServed
set_option maxRecDepth 20000 in
theorem ggX12_takesPairs_X12_taken : GoodIn wsX12_takesPairs wsX12_taken := goodIn_r _ [8, 9, 1, 10, 11, 25, 26, 27, 28, 29, 30, 31, 32, 33, 34, 35, 36, 37, 38, 39, 40, 41, 42, 43, 44, 45, 46, 47, 48, 49, 50, 51, 52, 53, 54, 55, 56, 57, 58, 59, 60, 61, 62, 63, 64, 65, 66, 67, 68, 69, 70, 71, 72, 73, 74, 75, 76, 77, 78, 79, 80, 81, 82] rfl (by decide +kernel)
set_option maxRecDepth 20000 in
theorem gX12_takesPairs_X12_taken : GoodIn wsX12_takesPairs (wsV RX12 244 RX12 yX12_taken wsX12_taken) := goodIn_app (goodIn_of _ (by decide +kernel)) ggX12_takesPairs_X12_taken
set_option maxRecDepth 20000 in
theorem ggX12_takesPairs_X12_octet : GoodIn wsX12_takesPairs wsX12_octet := goodIn_r _ [15, 16, 25, 26, 27, 28, 29, 30, 31, 32, 33, 34, 35, 36, 37, 38, 39, 40, 41, 42, 43, 44, 45, 46, 47, 48, 49, 50, 51, 52, 53, 54, 55, 56, 57, 58, 59, 60, 61, 62, 63, 64, 65, 66, 67, 68, 69, 70, 71, 72, 73, 74, 75, 76, 77, 78, 79, 80, 81, 82] rfl (by decide +kernel)
set_option maxRecDepth 20000 in
theorem gX12_takesPairs_X12_octet : GoodIn wsX12_takesPairs (wsV RX12 395 RX12 yX12_octet wsX12_octet) := goodIn_app (goodIn_of _ (by decide +kernel)) ggX12_takesPairs_X12_octet
set_option maxRecDepth 20000 in
theorem ggX12_takesPairs_X12_isPerson : GoodIn wsX12_takesPairs wsX12_isPerson := goodIn_r _ [20, 21, 22, 23, 7, 24, 25, 26, 27, 28, 29, 30, 31, 32, 33, 34, 35, 36, 37, 38, 39, 40, 41, 42, 43, 44, 45, 46, 47, 48, 49, 50, 51, 52, 53, 54, 55, 56, 57, 58, 59, 60, 61, 62, 63, 64, 65, 66, 67, 68, 69, 70, 71, 72, 73, 74, 75, 76, 77, 78, 79, 80, 81, 82] rfl (by decide +kernel)
set_option maxRecDepth 20000 in
theorem gX12_takesPairs_X12_isPerson : GoodIn wsX12_takesPairs (wsV RX12 256 RX12 yX12_isPerson wsX12_isPerson) := goodIn_app (goodIn_of _ (by decide +kernel)) ggX12_takesPairs_X12_isPerson
set_option maxRecDepth 20000 in
theorem ggX12_clashes_X12_octet : GoodIn wsX12_clashes wsX12_octet := goodIn_r _ [6, 7, 11, 12, 13, 14, 15, 16, 17, 18, 19, 20, 21, 22, 23, 24, 25, 26, 27, 28, 29, 30, 31, 32, 33, 34, 35, 36, 37, 38, 39, 40, 41, 42, 43, 44, 45, 46, 47, 48, 49, 50, 51, 52, 53, 54, 55, 56, 57, 58, 59, 60, 61, 62, 63, 64, 65, 66, 67, 68] rfl (by decide +kernel)
set_option maxRecDepth 20000 in
theorem gX12_clashes_X12_octet : GoodIn wsX12_clashes (wsV RX12 395 RX12 yX12_octet wsX12_octet) := goodIn_app (goodIn_of _ (by decide +kernel)) ggX12_clashes_X12_octet
set_option maxRecDepth 20000 in
theorem ggX12_clashes_X12_has : GoodIn wsX12_clashes wsX12_has := goodIn_r _ [10] rfl (by decide +kernel)
set_option maxRecDepth 20000 in
theorem gX12_clashes_X12_has : GoodIn wsX12_clashes (va_wsS RX12 235 yX12_has wsX12_has) := goodIn_app (goodIn_of _ (by decide +kernel)) ggX12_clashes_X12_has
set_option maxRecDepth 20000 in
theorem ggX12_meet_X12_takesPairs : GoodIn wsX12_meet wsX12_takesPairs := goodIn_r _ [7, 8, 9, 2, 10, 11, 12, 6, 13, 14, 15, 16, 17, 18, 19, 20, 21, 22, 23, 24, 25, 26, 27, 28, 29, 37, 38, 39, 40, 41, 42, 43, 44, 45, 46, 47, 48, 49, 50, 51, 52, 53, 54, 55, 56, 57, 58, 59, 60, 61, 62, 63, 64, 65, 66, 67, 68, 69, 70, 71, 72, 73, 74, 75, 76, 77, 78, 79, 80, 81, 82, 83, 84, 85, 86, 87, 88, 89, 90, 91, 92, 93, 94] rfl (by decide +kernel)
set_option maxRecDepth 20000 in
theorem gX12_meet_X12_takesPairs : GoodIn wsX12_meet (wsV RX12 398 RX12 yX12_takesPairs wsX12_takesPairs) := goodIn_app (goodIn_of _ (by decide +kernel)) ggX12_meet_X12_takesPairs
set_option maxRecDepth 20000 in
theorem ggX12_meet_X12_clashes : GoodIn wsX12_meet wsX12_clashes := goodIn_r _ [33, 9, 17, 18, 19, 6, 20, 21, 34, 35, 36, 37, 38, 39, 40, 41, 42, 43, 44, 45, 46, 47, 48, 49, 50, 51, 52, 53, 54, 55, 56, 57, 58, 59, 60, 61, 62, 63, 64, 65, 66, 67, 68, 69, 70, 71, 72, 73, 74, 75, 76, 77, 78, 79, 80, 81, 82, 83, 84, 85, 86, 87, 88, 89, 90, 91, 92, 93, 94] rfl (by decide +kernel)
set_option maxRecDepth 20000 in
theorem gX12_meet_X12_clashes : GoodIn wsX12_meet (wsV RX12 401 RX12 yX12_clashes wsX12_clashes) := goodIn_app (goodIn_of _ (by decide +kernel)) ggX12_meet_X12_clashes
set_option maxRecDepth 20000 in
theorem ggX12_must_X12_takesPairs : GoodIn wsX12_must wsX12_takesPairs := goodIn_r _ [7, 8, 9, 2, 10, 11, 12, 6, 13, 14, 15, 16, 17, 18, 19, 20, 21, 22, 23, 24, 25, 26, 27, 28, 29, 37, 38, 39, 40, 41, 42, 43, 44, 45, 46, 47, 48, 49, 50, 51, 52, 53, 54, 55, 56, 57, 58, 59, 60, 61, 62, 63, 64, 65, 66, 67, 68, 69, 70, 71, 72, 73, 74, 75, 76, 77, 78, 79, 80, 81, 82, 83, 84, 85, 86, 87, 88, 89, 90, 91, 92, 93, 94] rfl (by decide +kernel)
set_option maxRecDepth 20000 in
theorem gX12_must_X12_takesPairs : GoodIn wsX12_must (wsV RX12 398 RX12 yX12_takesPairs wsX12_takesPairs) := goodIn_app (goodIn_of _ (by decide +kernel)) ggX12_must_X12_takesPairs
set_option maxRecDepth 20000 in
theorem ggX12_must_X12_isIn : GoodIn wsX12_must wsX12_isIn := goodIn_r _ [29] rfl (by decide +kernel)
set_option maxRecDepth 20000 in
theorem gX12_must_X12_isIn : GoodIn wsX12_must (va_wsS RX12 197 yX12_isIn wsX12_isIn) := goodIn_app (goodIn_of _ (by decide +kernel)) ggX12_must_X12_isIn
set_option maxRecDepth 20000 in
theorem ggX12_must_X12_clashes : GoodIn wsX12_must wsX12_clashes := goodIn_r _ [33, 9, 17, 18, 19, 6, 20, 21, 34, 35, 36, 37, 38, 39, 40, 41, 42, 43, 44, 45, 46, 47, 48, 49, 50, 51, 52, 53, 54, 55, 56, 57, 58, 59, 60, 61, 62, 63, 64, 65, 66, 67, 68, 69, 70, 71, 72, 73, 74, 75, 76, 77, 78, 79, 80, 81, 82, 83, 84, 85, 86, 87, 88, 89, 90, 91, 92, 93, 94] rfl (by decide +kernel)
set_option maxRecDepth 20000 in
theorem gX12_must_X12_clashes : GoodIn wsX12_must (wsV RX12 401 RX12 yX12_clashes wsX12_clashes) := goodIn_app (goodIn_of _ (by decide +kernel)) ggX12_must_X12_clashes
set_option maxRecDepth 20000 in
theorem ggX12_wrongly_X12_takesPairs : GoodIn wsX12_wrongly wsX12_takesPairs := goodIn_r _ [8, 9, 2, 3, 10, 11, 12, 7, 13, 14, 15, 16, 17, 18, 19, 20, 21, 22, 23, 24, 25, 26, 27, 28, 29, 40, 41, 42, 43, 44, 45, 46, 47, 48, 49, 50, 51, 52, 53, 54, 55, 56, 57, 58, 59, 60, 61, 62, 63, 64, 65, 66, 67, 68, 69, 70, 71, 72, 73, 74, 75, 76, 77, 78, 79, 80, 81, 82, 83, 84, 85, 86, 87, 88, 89, 90, 91, 92, 93, 94, 95, 96, 97] rfl (by decide +kernel)
set_option maxRecDepth 20000 in
theorem gX12_wrongly_X12_takesPairs : GoodIn wsX12_wrongly (wsV RX12 398 RX12 yX12_takesPairs wsX12_takesPairs) := goodIn_app (goodIn_of _ (by decide +kernel)) ggX12_wrongly_X12_takesPairs
set_option maxRecDepth 20000 in
theorem ggX12_wrongly_X12_clashes : GoodIn wsX12_wrongly wsX12_clashes := goodIn_r _ [33, 2, 17, 18, 19, 7, 20, 21, 34, 35, 36, 40, 41, 42, 43, 44, 45, 46, 47, 48, 49, 50, 51, 52, 53, 54, 55, 56, 57, 58, 59, 60, 61, 62, 63, 64, 65, 66, 67, 68, 69, 70, 71, 72, 73, 74, 75, 76, 77, 78, 79, 80, 81, 82, 83, 84, 85, 86, 87, 88, 89, 90, 91, 92, 93, 94, 95, 96, 97] rfl (by decide +kernel)
set_option maxRecDepth 20000 in
theorem gX12_wrongly_X12_clashes : GoodIn wsX12_wrongly (wsV RX12 401 RX12 yX12_clashes wsX12_clashes) := goodIn_app (goodIn_of _ (by decide +kernel)) ggX12_wrongly_X12_clashes
set_option maxRecDepth 20000 in
theorem ggX12_wrongly_X12_bits : GoodIn wsX12_wrongly wsX12_bits := goodIn_r _ [39] rfl (by decide +kernel)
set_option maxRecDepth 20000 in
theorem gX12_wrongly_X12_bits : GoodIn wsX12_wrongly (va_wsS RX12 383 yX12_bits wsX12_bits) := goodIn_app (goodIn_of _ (by decide +kernel)) ggX12_wrongly_X12_bits
set_option maxRecDepth 20000 in
theorem ggX12_between_X12_isIn : GoodIn wsX12_between wsX12_isIn := goodIn_r _ [6] rfl (by decide +kernel)
set_option maxRecDepth 20000 in
theorem gX12_between_X12_isIn : GoodIn wsX12_between (va_wsS RX12 197 yX12_isIn wsX12_isIn) := goodIn_app (goodIn_of _ (by decide +kernel)) ggX12_between_X12_isIn
set_option maxRecDepth 20000 in
theorem ggX12_between_X12_bind : GoodIn wsX12_between wsX12_bind := goodIn_r _ [10, 11, 2, 12, 13, 14, 5, 15, 16, 17, 18, 19, 20, 21, 22, 23, 24, 25, 26, 27, 28, 29, 30, 31, 32, 40, 41, 42, 43, 44, 45, 46, 47, 48, 49, 50, 51, 52, 53, 54, 55, 56, 57, 58, 59, 60, 61, 62, 63, 64, 65, 66, 67, 68, 69, 70, 71, 72, 73, 74, 75, 76, 77, 78, 79, 80, 81, 82, 83, 84, 85, 86, 87, 88, 89, 90, 91, 92, 93, 94, 95, 96, 97] rfl (by decide +kernel)
set_option maxRecDepth 20000 in
theorem gX12_between_X12_bind : GoodIn wsX12_between (wsV RX12 286 RX12 yX12_bind wsX12_bind) := goodIn_app (goodIn_of _ (by decide +kernel)) ggX12_between_X12_bind
set_option maxRecDepth 20000 in
theorem ggX12_between_X12_now : GoodIn wsX12_between wsX12_now := goodIn_r _ [28, 11, 2, 24, 40, 41, 42, 43, 44, 45, 46, 47, 48, 49, 50, 51, 52, 53, 54, 55, 56, 57, 58, 59, 60, 61, 62, 63, 64, 65, 66, 67, 68, 69, 70, 71, 72, 73, 74, 75, 76, 77, 78, 79, 80, 81, 82, 83, 84, 85, 86, 87, 88, 89, 90, 91, 92, 93, 94, 95, 96, 97] rfl (by decide +kernel)
set_option maxRecDepth 20000 in
theorem gX12_between_X12_now : GoodIn wsX12_between (wsV RX12 283 RX12 yX12_now wsX12_now) := goodIn_app (goodIn_of _ (by decide +kernel)) ggX12_between_X12_now
set_option maxRecDepth 20000 in
theorem ggX12_between_X12_of : GoodIn wsX12_between wsX12_of := goodIn_r _ [15, 2, 40, 41, 42, 43, 44, 45, 46, 47, 48, 49, 50, 51, 52, 53, 54, 55, 56, 57, 58, 59, 60, 61, 62, 63, 64, 65, 66, 67, 68, 69, 70, 71, 72, 73, 74, 75, 76, 77, 78, 79, 80, 81, 82, 83, 84, 85, 86, 87, 88, 89, 90, 91, 92, 93, 94, 95, 96, 97] rfl (by decide +kernel)
set_option maxRecDepth 20000 in
theorem gX12_between_X12_of : GoodIn wsX12_between (wsV RX12 266 RX12 yX12_of wsX12_of) := goodIn_app (goodIn_of _ (by decide +kernel)) ggX12_between_X12_of
set_option maxRecDepth 20000 in
theorem ggX12_between_X12_doneAs : GoodIn wsX12_between wsX12_doneAs := goodIn_r _ [36, 2, 40, 41, 42, 43, 44, 45, 46, 47, 48, 49, 50, 51, 52, 53, 54, 55, 56, 57, 58, 59, 60, 61, 62, 63, 64, 65, 66, 67, 68, 69, 70, 71, 72, 73, 74, 75, 76, 77, 78, 79, 80, 81, 82, 83, 84, 85, 86, 87, 88, 89, 90, 91, 92, 93, 94, 95, 96, 97] rfl (by decide +kernel)
set_option maxRecDepth 20000 in
theorem gX12_between_X12_doneAs : GoodIn wsX12_between (wsV RX12 269 RX12 yX12_doneAs wsX12_doneAs) := goodIn_app (goodIn_of _ (by decide +kernel)) ggX12_between_X12_doneAs
set_option maxRecDepth 20000 in
theorem ggX12_between_X12_bits : GoodIn wsX12_between wsX12_bits := goodIn_r _ [39] rfl (by decide +kernel)
set_option maxRecDepth 20000 in
theorem gX12_between_X12_bits : GoodIn wsX12_between (va_wsS RX12 383 yX12_bits wsX12_bits) := goodIn_app (goodIn_of _ (by decide +kernel)) ggX12_between_X12_bits
set_option maxRecDepth 20000 in
theorem ggX12_run_X12_byYears : GoodIn wsX12_run wsX12_byYears := goodIn_r _ [10, 2, 5, 11, 12, 13, 9, 14, 58, 59, 60, 61, 62, 63, 64, 65, 66, 67, 68, 69, 70, 71, 72, 73, 74, 75, 76, 77, 78, 79, 80, 81, 82, 83, 84, 85, 86, 87, 88, 89, 90, 91, 92, 93, 94, 95, 96, 97, 98, 99, 100, 101, 102, 103, 104, 105, 106, 107, 108, 109, 110, 111, 112, 113, 114, 115] rfl (by decide +kernel)
set_option maxRecDepth 20000 in
theorem gX12_run_X12_byYears : GoodIn wsX12_run (wsV RX12 374 RX12 yX12_byYears wsX12_byYears) := goodIn_app (goodIn_of _ (by decide +kernel)) ggX12_run_X12_byYears
set_option maxRecDepth 20000 in
theorem ggX12_run_X12_draw : GoodIn wsX12_run wsX12_draw := goodIn_r _ [18, 3, 19, 58, 59, 60, 61, 62, 63, 64, 65, 66, 67, 68, 69, 70, 71, 72, 73, 74, 75, 76, 77, 78, 79, 80, 81, 82, 83, 84, 85, 86, 87, 88, 89, 90, 91, 92, 93, 94, 95, 96, 97, 98, 99, 100, 101, 102, 103, 104, 105, 106, 107, 108, 109, 110, 111, 112, 113, 114, 115] rfl (by decide +kernel)
set_option maxRecDepth 20000 in
theorem gX12_run_X12_draw : GoodIn wsX12_run (wsV RX12 408 RX12 yX12_draw wsX12_draw) := goodIn_app (goodIn_of _ (by decide +kernel)) ggX12_run_X12_draw
set_option maxRecDepth 20000 in
theorem ggX12_run_X12_of : GoodIn wsX12_run wsX12_of := goodIn_r _ [14, 2, 58, 59, 60, 61, 62, 63, 64, 65, 66, 67, 68, 69, 70, 71, 72, 73, 74, 75, 76, 77, 78, 79, 80, 81, 82, 83, 84, 85, 86, 87, 88, 89, 90, 91, 92, 93, 94, 95, 96, 97, 98, 99, 100, 101, 102, 103, 104, 105, 106, 107, 108, 109, 110, 111, 112, 113, 114, 115] rfl (by decide +kernel)
set_option maxRecDepth 20000 in
theorem gX12_run_X12_of : GoodIn wsX12_run (wsV RX12 266 RX12 yX12_of wsX12_of) := goodIn_app (goodIn_of _ (by decide +kernel)) ggX12_run_X12_of
set_option maxRecDepth 20000 in
theorem ggX12_run_X12_wrong : GoodIn wsX12_run wsX12_wrong := goodIn_r _ [23, 2, 11, 12, 13, 9, 14, 24, 25, 26, 27, 28, 29, 30, 31, 32, 33, 34, 35, 36, 37, 38, 39, 40, 41, 42, 43, 44, 45, 46, 47, 48, 49, 50, 51, 52, 53, 58, 59, 60, 61, 62, 63, 64, 65, 66, 67, 68, 69, 70, 71, 72, 73, 74, 75, 76, 77, 78, 79, 80, 81, 82, 83, 84, 85, 86, 87, 88, 89, 90, 91, 92, 93, 94, 95, 96, 97, 98, 99, 100, 101, 102, 103, 104, 105, 106, 107, 108, 109, 110, 111, 112, 113, 114, 115] rfl (by decide +kernel)
set_option maxRecDepth 20000 in
theorem gX12_run_X12_wrong : GoodIn wsX12_run (wsV RX12 292 RX12 yX12_wrong wsX12_wrong) := goodIn_app (goodIn_of _ (by decide +kernel)) ggX12_run_X12_wrong
set_option maxRecDepth 20000 in
theorem ggX12_run_X12_put : GoodIn wsX12_run wsX12_put := goodIn_r _ [57, 2, 58, 59, 60, 61, 62, 63, 64, 65, 66, 67, 68, 69, 70, 71, 72, 73, 74, 75, 76, 77, 78, 79, 80, 81, 82, 83, 84, 85, 86, 87, 88, 89, 90, 91, 92, 93, 94, 95, 96, 97, 98, 99, 100, 101, 102, 103, 104, 105, 106, 107, 108, 109, 110, 111, 112, 113, 114, 115] rfl (by decide +kernel)
set_option maxRecDepth 20000 in
theorem gX12_run_X12_put : GoodIn wsX12_run (wsV RX12 295 RX12 yX12_put wsX12_put) := goodIn_app (goodIn_of _ (by decide +kernel)) ggX12_run_X12_put
set_option maxRecDepth 20000 in
theorem ggX12_image_X12_isIn : GoodIn wsX12_image wsX12_isIn := goodIn_r _ [10] rfl (by decide +kernel)
set_option maxRecDepth 20000 in
theorem gX12_image_X12_isIn : GoodIn wsX12_image (va_wsS RX12 197 yX12_isIn wsX12_isIn) := goodIn_app (goodIn_of _ (by decide +kernel)) ggX12_image_X12_isIn
set_option maxRecDepth 20000 in
theorem ggX12_restore_X12_isIn : GoodIn wsX12_restore wsX12_isIn := goodIn_r _ [11] rfl (by decide +kernel)
set_option maxRecDepth 20000 in
theorem gX12_restore_X12_isIn : GoodIn wsX12_restore (va_wsS RX12 197 yX12_isIn wsX12_isIn) := goodIn_app (goodIn_of _ (by decide +kernel)) ggX12_restore_X12_isIn
set_option maxRecDepth 20000 in
theorem ggX12_count_X12_isIn : GoodIn wsX12_count wsX12_isIn := goodIn_r _ [7] rfl (by decide +kernel)
set_option maxRecDepth 20000 in
theorem gX12_count_X12_isIn : GoodIn wsX12_count (va_wsS RX12 197 yX12_isIn wsX12_isIn) := goodIn_app (goodIn_of _ (by decide +kernel)) ggX12_count_X12_isIn
set_option maxRecDepth 20000 in
theorem ggJ0_length_8abf5_J0_coder_7d493 : GoodIn wsJ0_length_8abf5 wsJ0_coder_7d493 := goodIn_r _ [6, 7, 8] rfl (by decide +kernel)
set_option maxRecDepth 20000 in
theorem gJ0_length_8abf5_J0_coder_7d493 : GoodIn wsJ0_length_8abf5 (wsV RJ0 335 RJ0 yJ0_coder_7d493 wsJ0_coder_7d493) := goodIn_app (goodIn_of _ (by decide +kernel)) ggJ0_length_8abf5_J0_coder_7d493
set_option maxRecDepth 20000 in
theorem ggJ0_charAt_5068e_J0_isLatin1_aae02 : GoodIn wsJ0_charAt_5068e wsJ0_isLatin1_aae02 := goodIn_r _ [6, 7, 8] rfl (by decide +kernel)
set_option maxRecDepth 20000 in
theorem gJ0_charAt_5068e_J0_isLatin1_aae02 : GoodIn wsJ0_charAt_5068e (wsV RJ0 492 RJ0 yJ0_isLatin1_aae02 wsJ0_isLatin1_aae02) := goodIn_app (goodIn_of _ (by decide +kernel)) ggJ0_charAt_5068e_J0_isLatin1_aae02
set_option maxRecDepth 20000 in
theorem ggJ0_charAt_5068e_J1_charAt_3b067 : GoodIn wsJ0_charAt_5068e wsJ1_charAt_3b067 := goodIn_r _ [12, 13, 14, 5, 15, 16, 17, 18, 19, 20] rfl (by decide +kernel)
set_option maxRecDepth 20000 in
theorem gJ0_charAt_5068e_J1_charAt_3b067 : GoodIn wsJ0_charAt_5068e (va_wsS RJ0 495 yJ1_charAt_3b067 wsJ1_charAt_3b067) := goodIn_app (goodIn_of _ (by decide +kernel)) ggJ0_charAt_5068e_J1_charAt_3b067
set_option maxRecDepth 20000 in
theorem ggJ0_charAt_5068e_J2_charAt_3b067 : GoodIn wsJ0_charAt_5068e wsJ2_charAt_3b067 := goodIn_r _ [24, 25, 26, 23, 27, 28, 29, 30, 31, 14, 5, 15, 16, 17, 18, 19, 20, 32, 33, 34, 35, 36, 37] rfl (by decide +kernel)
set_option maxRecDepth 20000 in
theorem gJ0_charAt_5068e_J2_charAt_3b067 : GoodIn wsJ0_charAt_5068e (va_wsS RJ0 498 yJ2_charAt_3b067 wsJ2_charAt_3b067) := goodIn_app (goodIn_of _ (by decide +kernel)) ggJ0_charAt_5068e_J2_charAt_3b067
set_option maxRecDepth 20000 in
theorem ggJ0_checkIndex_df160_J3_checkIndex_8e157 : GoodIn wsJ0_checkIndex_df160 wsJ3_checkIndex_8e157 := goodIn_r _ [5] rfl (by decide +kernel)
set_option maxRecDepth 20000 in
theorem gJ0_checkIndex_df160_J3_checkIndex_8e157 : GoodIn wsJ0_checkIndex_df160 (va_wsS RJ0 1059 yJ3_checkIndex_8e157 wsJ3_checkIndex_8e157) := goodIn_app (goodIn_of _ (by decide +kernel)) ggJ0_checkIndex_df160_J3_checkIndex_8e157
set_option maxRecDepth 20000 in
theorem ggJ1_charAt_3b067_J0_checkIndex_df160 : GoodIn wsJ1_charAt_3b067 wsJ0_checkIndex_df160 := goodIn_r _ [4, 5, 6, 7, 8, 9] rfl (by decide +kernel)
set_option maxRecDepth 20000 in
theorem gJ1_charAt_3b067_J0_checkIndex_df160 : GoodIn wsJ1_charAt_3b067 (va_wsS RJ1 9 yJ0_checkIndex_df160 wsJ0_checkIndex_df160) := goodIn_app (goodIn_of _ (by decide +kernel)) ggJ1_charAt_3b067_J0_checkIndex_df160
set_option maxRecDepth 20000 in
theorem ggJ2_getChar_3b067_J2_length_9d52b : GoodIn wsJ2_getChar_3b067 wsJ2_length_9d52b := goodIn_r _ [7] rfl (by decide +kernel)
set_option maxRecDepth 20000 in
theorem gJ2_getChar_3b067_J2_length_9d52b : GoodIn wsJ2_getChar_3b067 (va_wsS RJ2 48 yJ2_length_9d52b wsJ2_length_9d52b) := goodIn_app (goodIn_of _ (by decide +kernel)) ggJ2_getChar_3b067_J2_length_9d52b
set_option maxRecDepth 20000 in
theorem ggJ2_charAt_3b067_J2_checkIndex_2214a : GoodIn wsJ2_charAt_3b067 wsJ2_checkIndex_2214a := goodIn_r _ [4, 5, 6, 3, 7, 8, 9, 10, 11, 12, 13, 14, 15, 16] rfl (by decide +kernel)
set_option maxRecDepth 20000 in
theorem gJ2_charAt_3b067_J2_checkIndex_2214a : GoodIn wsJ2_charAt_3b067 (va_wsS RJ2 67 yJ2_checkIndex_2214a wsJ2_checkIndex_2214a) := goodIn_app (goodIn_of _ (by decide +kernel)) ggJ2_charAt_3b067_J2_checkIndex_2214a
set_option maxRecDepth 20000 in
theorem ggJ2_charAt_3b067_J2_getChar_3b067 : GoodIn wsJ2_charAt_3b067 wsJ2_getChar_3b067 := goodIn_r _ [19, 20, 21, 22, 5, 6, 3, 7] rfl (by decide +kernel)
set_option maxRecDepth 20000 in
theorem gJ2_charAt_3b067_J2_getChar_3b067 : GoodIn wsJ2_charAt_3b067 (va_wsS RJ2 71 yJ2_getChar_3b067 wsJ2_getChar_3b067) := goodIn_app (goodIn_of _ (by decide +kernel)) ggJ2_charAt_3b067_J2_getChar_3b067
set_option maxRecDepth 20000 in
theorem ggJ2_checkIndex_2214a_J2_length_9d52b : GoodIn wsJ2_checkIndex_2214a wsJ2_length_9d52b := goodIn_r _ [4] rfl (by decide +kernel)
set_option maxRecDepth 20000 in
theorem gJ2_checkIndex_2214a_J2_length_9d52b : GoodIn wsJ2_checkIndex_2214a (va_wsS RJ2 48 yJ2_length_9d52b wsJ2_length_9d52b) := goodIn_app (goodIn_of _ (by decide +kernel)) ggJ2_checkIndex_2214a_J2_length_9d52b
