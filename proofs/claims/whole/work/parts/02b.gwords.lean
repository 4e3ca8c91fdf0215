set_option maxRecDepth 20000 in
theorem ggX0_insert_X0_numberAt : GoodIn wsX0_insert wsX0_numberAt := goodIn_r _ [10, 2, 11, 12, 13, 9, 14, 1, 19, 20, 21, 22, 23] (by decide +kernel) (by decide +kernel)
set_option maxRecDepth 20000 in
theorem gX0_insert_X0_numberAt : GoodIn wsX0_insert (wsV RX0 35 RX0 yX0_numberAt wsX0_numberAt) := goodIn_app (goodIn_of _ (by decide +kernel)) ggX0_insert_X0_numberAt
set_option maxRecDepth 20000 in
theorem ggX0_insert_X0_copyRow : GoodIn wsX0_insert wsX0_copyRow := goodIn_r _ [18, 2, 3, 4, 5, 11, 12, 13, 9, 14, 1, 19, 20, 21, 22, 23] (by decide +kernel) (by decide +kernel)
set_option maxRecDepth 20000 in
theorem gX0_insert_X0_copyRow : GoodIn wsX0_insert (wsV RX0 39 RX0 yX0_copyRow wsX0_copyRow) := goodIn_app (goodIn_of _ (by decide +kernel)) ggX0_insert_X0_copyRow
set_option maxRecDepth 20000 in
theorem ggX0_insert_X0_isPlace : GoodIn wsX0_insert wsX0_isPlace := goodIn_r _ [14, 1, 19, 20, 21, 22, 23] (by decide +kernel) (by decide +kernel)
set_option maxRecDepth 20000 in
theorem gX0_insert_X0_isPlace : GoodIn wsX0_insert (wsV RX0 43 RX0 yX0_isPlace wsX0_isPlace) := goodIn_app (goodIn_of _ (by decide +kernel)) ggX0_insert_X0_isPlace
set_option maxRecDepth 20000 in
theorem ggX0_remove_X0_isPlace : GoodIn wsX0_remove wsX0_isPlace := goodIn_r _ [6, 1, 15, 16, 17, 18, 19] (by decide +kernel) (by decide +kernel)
set_option maxRecDepth 20000 in
theorem gX0_remove_X0_isPlace : GoodIn wsX0_remove (wsV RX0 43 RX0 yX0_isPlace wsX0_isPlace) := goodIn_app (goodIn_of _ (by decide +kernel)) ggX0_remove_X0_isPlace
set_option maxRecDepth 20000 in
theorem ggX0_remove_X0_copyRow : GoodIn wsX0_remove wsX0_copyRow := goodIn_r _ [10, 11, 12, 13, 14, 2, 3, 4, 5, 6, 1, 15, 16, 17, 18, 19] (by decide +kernel) (by decide +kernel)
set_option maxRecDepth 20000 in
theorem gX0_remove_X0_copyRow : GoodIn wsX0_remove (wsV RX0 39 RX0 yX0_copyRow wsX0_copyRow) := goodIn_app (goodIn_of _ (by decide +kernel)) ggX0_remove_X0_copyRow
set_option maxRecDepth 20000 in
theorem ggX0_numberAt_X0_isPlace : GoodIn wsX0_numberAt wsX0_isPlace := goodIn_r _ [6, 7, 8, 9, 10, 11, 12] (by decide +kernel) (by decide +kernel)
set_option maxRecDepth 20000 in
theorem gX0_numberAt_X0_isPlace : GoodIn wsX0_numberAt (wsV RX0 43 RX0 yX0_isPlace wsX0_isPlace) := goodIn_app (goodIn_of _ (by decide +kernel)) ggX0_numberAt_X0_isPlace
set_option maxRecDepth 20000 in
theorem ggX0_balanceAt_X0_isPlace : GoodIn wsX0_balanceAt wsX0_isPlace := goodIn_r _ [6, 7, 8, 9, 10, 11, 12] (by decide +kernel) (by decide +kernel)
set_option maxRecDepth 20000 in
theorem gX0_balanceAt_X0_isPlace : GoodIn wsX0_balanceAt (wsV RX0 43 RX0 yX0_isPlace wsX0_isPlace) := goodIn_app (goodIn_of _ (by decide +kernel)) ggX0_balanceAt_X0_isPlace
set_option maxRecDepth 20000 in
theorem ggX0_movedAt_X0_isPlace : GoodIn wsX0_movedAt wsX0_isPlace := goodIn_r _ [6, 7, 8, 9, 10, 11, 12] (by decide +kernel) (by decide +kernel)
set_option maxRecDepth 20000 in
theorem gX0_movedAt_X0_isPlace : GoodIn wsX0_movedAt (wsV RX0 43 RX0 yX0_isPlace wsX0_isPlace) := goodIn_app (goodIn_of _ (by decide +kernel)) ggX0_movedAt_X0_isPlace
set_option maxRecDepth 20000 in
theorem ggX0_countAt_X0_isPlace : GoodIn wsX0_countAt wsX0_isPlace := goodIn_r _ [6, 7, 8, 9, 10, 11, 12] (by decide +kernel) (by decide +kernel)
set_option maxRecDepth 20000 in
theorem gX0_countAt_X0_isPlace : GoodIn wsX0_countAt (wsV RX0 43 RX0 yX0_isPlace wsX0_isPlace) := goodIn_app (goodIn_of _ (by decide +kernel)) ggX0_countAt_X0_isPlace
set_option maxRecDepth 20000 in
theorem ggX0_add_X0_isPlace : GoodIn wsX0_add wsX0_isPlace := goodIn_r _ [6, 7, 8, 9, 10, 11, 12] (by decide +kernel) (by decide +kernel)
set_option maxRecDepth 20000 in
theorem gX0_add_X0_isPlace : GoodIn wsX0_add (wsV RX0 43 RX0 yX0_isPlace wsX0_isPlace) := goodIn_app (goodIn_of _ (by decide +kernel)) ggX0_add_X0_isPlace
set_option maxRecDepth 20000 in
theorem ggX0_addCount_X0_isPlace : GoodIn wsX0_addCount wsX0_isPlace := goodIn_r _ [6, 7, 8, 9, 10, 11, 12] (by decide +kernel) (by decide +kernel)
set_option maxRecDepth 20000 in
theorem gX0_addCount_X0_isPlace : GoodIn wsX0_addCount (wsV RX0 43 RX0 yX0_isPlace wsX0_isPlace) := goodIn_app (goodIn_of _ (by decide +kernel)) ggX0_addCount_X0_isPlace
set_option maxRecDepth 20000 in
theorem ggX0_move_X0_isPlace : GoodIn wsX0_move wsX0_isPlace := goodIn_r _ [6, 7, 8, 9, 10, 11, 12] (by decide +kernel) (by decide +kernel)
set_option maxRecDepth 20000 in
theorem gX0_move_X0_isPlace : GoodIn wsX0_move (wsV RX0 43 RX0 yX0_isPlace wsX0_isPlace) := goodIn_app (goodIn_of _ (by decide +kernel)) ggX0_move_X0_isPlace
set_option maxRecDepth 20000 in
theorem ggX0_sumOfBalances_X0_balanceAt : GoodIn wsX0_sumOfBalances wsX0_balanceAt := goodIn_r _ [6, 7, 8, 9, 10, 5, 11, 1, 12, 13, 14, 15, 16] (by decide +kernel) (by decide +kernel)
set_option maxRecDepth 20000 in
theorem gX0_sumOfBalances_X0_balanceAt : GoodIn wsX0_sumOfBalances (wsV RX0 47 RX0 yX0_balanceAt wsX0_balanceAt) := goodIn_app (goodIn_of _ (by decide +kernel)) ggX0_sumOfBalances_X0_balanceAt
set_option maxRecDepth 20000 in
theorem ggX0_copyRow_X0_isPlace : GoodIn wsX0_copyRow wsX0_isPlace := goodIn_r _ [9, 10, 11, 12, 13, 14, 15] (by decide +kernel) (by decide +kernel)
set_option maxRecDepth 20000 in
theorem gX0_copyRow_X0_isPlace : GoodIn wsX0_copyRow (wsV RX0 43 RX0 yX0_isPlace wsX0_isPlace) := goodIn_app (goodIn_of _ (by decide +kernel)) ggX0_copyRow_X0_isPlace
set_option maxRecDepth 20000 in
theorem ggX1_init_X5_init : GoodIn wsX1_init wsX5_init := goodIn_r _ [11, 12, 2, 3, 13, 14, 15, 16, 17, 18, 19, 20, 21, 22, 23, 24, 25, 26, 27, 28, 29, 30, 31, 32, 33, 34, 35, 36, 37, 38, 39, 40, 41, 42, 43, 44, 45, 46, 47, 48, 49, 50, 51, 52, 53, 54, 55, 56, 57, 74, 75, 76, 77, 78, 61, 62, 63, 64, 65, 66, 67, 68, 69, 70, 71, 72, 73, 79, 80, 81, 82, 83, 84] (by decide +kernel) (by decide +kernel)
set_option maxRecDepth 20000 in
theorem gX1_init_X5_init_n24 : GoodIn wsX1_init (wsX5_init) := ggX1_init_X5_init
set_option maxRecDepth 20000 in
theorem ggX1_prepare_X1_slotAt : GoodIn wsX1_prepare wsX1_slotAt := goodIn_r _ [6, 7, 58, 59, 60] (by decide +kernel) (by decide +kernel)
set_option maxRecDepth 20000 in
theorem gX1_prepare_X1_slotAt : GoodIn wsX1_prepare (wsV RX1 25 RX1 yX1_slotAt wsX1_slotAt) := goodIn_app (goodIn_of _ (by decide +kernel)) ggX1_prepare_X1_slotAt
set_option maxRecDepth 20000 in
theorem ggX1_prepare_X5_copyFrom : GoodIn wsX1_prepare wsX5_copyFrom := goodIn_r _ [12, 13, 14, 15, 16, 17, 18, 19, 20, 21, 22, 23, 24, 25, 26, 27, 28, 29, 30, 31, 32, 33, 34, 35, 36, 37, 38, 39, 40, 41, 42, 43, 44, 45, 46, 47, 48, 49, 50, 51, 52, 53, 54, 55, 56, 57, 61, 62, 63, 64, 65, 66, 67, 68, 69, 70, 71, 72, 73, 74, 75, 76, 77, 78, 79, 80, 81, 82, 83, 84] (by decide +kernel) (by decide +kernel)
set_option maxRecDepth 20000 in
theorem gX1_prepare_X5_copyFrom : GoodIn wsX1_prepare (wsV RX1 29 RX5 yX5_copyFrom wsX5_copyFrom) := goodIn_app (goodIn_of _ (by decide +kernel)) ggX1_prepare_X5_copyFrom
set_option maxRecDepth 20000 in
theorem ggX1_restoreLatest_X1_slotAt : GoodIn wsX1_restoreLatest wsX1_slotAt := goodIn_r _ [7, 8, 59, 60, 61] (by decide +kernel) (by decide +kernel)
set_option maxRecDepth 20000 in
theorem gX1_restoreLatest_X1_slotAt : GoodIn wsX1_restoreLatest (wsV RX1 25 RX1 yX1_slotAt wsX1_slotAt) := goodIn_app (goodIn_of _ (by decide +kernel)) ggX1_restoreLatest_X1_slotAt
set_option maxRecDepth 20000 in
theorem ggX1_restoreLatest_X5_copyFrom : GoodIn wsX1_restoreLatest wsX5_copyFrom := goodIn_r _ [13, 14, 15, 16, 17, 18, 19, 20, 21, 22, 23, 24, 25, 26, 27, 28, 29, 30, 31, 32, 33, 34, 35, 36, 37, 38, 39, 40, 41, 42, 43, 44, 45, 46, 47, 48, 49, 50, 51, 52, 53, 54, 55, 56, 57, 58, 62, 63, 64, 65, 66, 67, 68, 69, 70, 71, 72, 73, 74, 75, 76, 77, 78, 79, 80, 81, 82, 83, 84, 85] (by decide +kernel) (by decide +kernel)
set_option maxRecDepth 20000 in
theorem gX1_restoreLatest_X5_copyFrom : GoodIn wsX1_restoreLatest (wsV RX1 29 RX5 yX5_copyFrom wsX5_copyFrom) := goodIn_app (goodIn_of _ (by decide +kernel)) ggX1_restoreLatest_X5_copyFrom
set_option maxRecDepth 20000 in
theorem ggX2_firstError_X2_at : GoodIn wsX2_firstError wsX2_at := goodIn_r _ [6, 1, 7, 103, 104, 105, 106, 107, 108, 109] (by decide +kernel) (by decide +kernel)
set_option maxRecDepth 20000 in
theorem gX2_firstError_X2_at : GoodIn wsX2_firstError (wsV RX2 35 RX2 yX2_at wsX2_at) := goodIn_app (goodIn_of _ (by decide +kernel)) ggX2_firstError_X2_at
set_option maxRecDepth 20000 in
theorem ggX2_firstError_J0_indexOf_0f7a4 : GoodIn wsX2_firstError wsJ0_indexOf_0f7a4 := goodIn_r _ [12, 13, 14, 15, 11, 16, 17, 18, 19, 20, 21, 22, 23, 24, 25, 26, 27, 28, 29, 30, 31, 32, 33, 34, 35, 36, 37, 38, 39, 40, 41, 42, 43, 44, 45, 46, 47, 48, 49, 50, 51, 52, 53, 54, 55, 56, 57, 58, 59, 60, 61, 62, 63, 64, 65, 66, 67, 68, 69, 70, 71, 72, 73, 74, 75, 76, 77, 78, 79, 80, 81, 82, 83, 84, 85, 86, 87, 88, 89, 90, 91, 92, 93, 94, 95, 96] (by decide +kernel) (by decide +kernel)
set_option maxRecDepth 20000 in
theorem gX2_firstError_J0_indexOf_0f7a4 : GoodIn wsX2_firstError (wsV RX2 41 RJ0 yJ0_indexOf_0f7a4 wsJ0_indexOf_0f7a4) := goodIn_app (goodIn_of _ (by decide +kernel)) ggX2_firstError_J0_indexOf_0f7a4
set_option maxRecDepth 20000 in
theorem ggX2_firstError_X2_isDigit : GoodIn wsX2_firstError wsX2_isDigit := goodIn_r _ [99] (by decide +kernel) (by decide +kernel)
set_option maxRecDepth 20000 in
theorem gX2_firstError_X2_isDigit : GoodIn wsX2_firstError (va_wsS RX2 47 yX2_isDigit wsX2_isDigit) := goodIn_app (goodIn_of _ (by decide +kernel)) ggX2_firstError_X2_isDigit
set_option maxRecDepth 20000 in
theorem ggX2_firstError_X2_signAfter : GoodIn wsX2_firstError wsX2_signAfter := goodIn_r _ [102] (by decide +kernel) (by decide +kernel)
set_option maxRecDepth 20000 in
theorem gX2_firstError_X2_signAfter : GoodIn wsX2_firstError (va_wsS RX2 51 yX2_signAfter wsX2_signAfter) := goodIn_app (goodIn_of _ (by decide +kernel)) ggX2_firstError_X2_signAfter
set_option maxRecDepth 20000 in
theorem ggX2_readOrder_X2_at : GoodIn wsX2_readOrder wsX2_at := goodIn_r _ [11, 2, 12, 23, 24, 25, 26, 27, 28, 29] (by decide +kernel) (by decide +kernel)
set_option maxRecDepth 20000 in
theorem gX2_readOrder_X2_at : GoodIn wsX2_readOrder (wsV RX2 35 RX2 yX2_at wsX2_at) := goodIn_app (goodIn_of _ (by decide +kernel)) ggX2_readOrder_X2_at
set_option maxRecDepth 20000 in
theorem ggX2_readOrder_X2_readNumber : GoodIn wsX2_readOrder wsX2_readNumber := goodIn_r _ [16, 1, 7, 8, 9, 10, 11, 2, 12, 17, 18, 19, 23, 24, 25, 26, 27, 28, 29] (by decide +kernel) (by decide +kernel)
set_option maxRecDepth 20000 in
theorem gX2_readOrder_X2_readNumber : GoodIn wsX2_readOrder (wsV RX2 55 RX2 yX2_readNumber wsX2_readNumber) := goodIn_app (goodIn_of _ (by decide +kernel)) ggX2_readOrder_X2_readNumber
set_option maxRecDepth 20000 in
theorem ggX2_readOrder_X2_signAfter : GoodIn wsX2_readOrder wsX2_signAfter := goodIn_r _ [22] (by decide +kernel) (by decide +kernel)
set_option maxRecDepth 20000 in
theorem gX2_readOrder_X2_signAfter : GoodIn wsX2_readOrder (va_wsS RX2 51 yX2_signAfter wsX2_signAfter) := goodIn_app (goodIn_of _ (by decide +kernel)) ggX2_readOrder_X2_signAfter
set_option maxRecDepth 20000 in
theorem ggX2_readNumber_X2_at : GoodIn wsX2_readNumber wsX2_at := goodIn_r _ [6, 7, 8, 12, 13, 14, 15, 16, 17, 18] (by decide +kernel) (by decide +kernel)
set_option maxRecDepth 20000 in
theorem gX2_readNumber_X2_at : GoodIn wsX2_readNumber (wsV RX2 35 RX2 yX2_at wsX2_at) := goodIn_app (goodIn_of _ (by decide +kernel)) ggX2_readNumber_X2_at
set_option maxRecDepth 20000 in
theorem ggX2_readNumber_X2_isDigit : GoodIn wsX2_readNumber wsX2_isDigit := goodIn_r _ [11] (by decide +kernel) (by decide +kernel)
set_option maxRecDepth 20000 in
theorem gX2_readNumber_X2_isDigit : GoodIn wsX2_readNumber (va_wsS RX2 47 yX2_isDigit wsX2_isDigit) := goodIn_app (goodIn_of _ (by decide +kernel)) ggX2_readNumber_X2_isDigit
set_option maxRecDepth 20000 in
theorem ggX3_sort_X3_keyOf : GoodIn wsX3_sort wsX3_keyOf := goodIn_r _ [13, 1, 14, 15, 16, 17, 18, 19, 20, 21, 22, 23, 24, 25, 26, 27, 28, 29, 30, 31, 32, 33, 34, 35, 36, 37, 38, 39, 40, 41, 42, 43, 44, 45, 46, 47, 48, 49, 50, 51, 52, 53, 55, 56, 57, 58, 59, 60, 61, 62, 63, 64, 65, 66, 67, 68, 69, 70, 71, 72, 76, 77, 78] (by decide +kernel) (by decide +kernel)
set_option maxRecDepth 20000 in
theorem gX3_sort_X3_keyOf : GoodIn wsX3_sort (va_wsS RX3 37 yX3_keyOf wsX3_keyOf) := goodIn_app (goodIn_of _ (by decide +kernel)) ggX3_sort_X3_keyOf
set_option maxRecDepth 20000 in
theorem ggX3_sort_X0_numberAt : GoodIn wsX3_sort wsX0_numberAt := goodIn_r _ [36, 37, 20, 21, 22, 17, 23, 24, 68, 69, 70, 71, 72] (by decide +kernel) (by decide +kernel)
set_option maxRecDepth 20000 in
theorem gX3_sort_X0_numberAt : GoodIn wsX3_sort (wsV RX3 41 RX0 yX0_numberAt wsX0_numberAt) := goodIn_app (goodIn_of _ (by decide +kernel)) ggX3_sort_X0_numberAt
set_option maxRecDepth 20000 in
theorem ggX3_keyOf_X0_balanceAt : GoodIn wsX3_keyOf wsX0_balanceAt := goodIn_r _ [6, 7, 8, 9, 10, 5, 11, 12, 55, 56, 57, 58, 59] (by decide +kernel) (by decide +kernel)
set_option maxRecDepth 20000 in
theorem gX3_keyOf_X0_balanceAt : GoodIn wsX3_keyOf (wsV RX3 45 RX0 yX0_balanceAt wsX0_balanceAt) := goodIn_app (goodIn_of _ (by decide +kernel)) ggX3_keyOf_X0_balanceAt
set_option maxRecDepth 20000 in
theorem ggX3_keyOf_X5_freeAt : GoodIn wsX3_keyOf wsX5_freeAt := goodIn_r _ [17, 18, 19, 20, 3, 4, 5, 6, 7, 8, 9, 10, 11, 12, 21, 22, 23, 24, 25, 26, 27, 28, 29, 30, 31, 32, 33, 34, 35, 36, 42, 43, 44, 45, 46, 47, 48, 49, 50, 51, 52, 53, 54, 55, 56, 57, 58, 59, 60, 61, 62] (by decide +kernel) (by decide +kernel)
set_option maxRecDepth 20000 in
theorem gX3_keyOf_X5_freeAt : GoodIn wsX3_keyOf (wsV RX3 48 RX5 yX5_freeAt wsX5_freeAt) := goodIn_app (goodIn_of _ (by decide +kernel)) ggX3_keyOf_X5_freeAt
set_option maxRecDepth 20000 in
theorem ggX3_keyOf_X0_movedAt : GoodIn wsX3_keyOf wsX0_movedAt := goodIn_r _ [40, 41, 8, 9, 10, 5, 11, 12, 55, 56, 57, 58, 59] (by decide +kernel) (by decide +kernel)
set_option maxRecDepth 20000 in
theorem gX3_keyOf_X0_movedAt : GoodIn wsX3_keyOf (wsV RX3 51 RX0 yX0_movedAt wsX0_movedAt) := goodIn_app (goodIn_of _ (by decide +kernel)) ggX3_keyOf_X0_movedAt
set_option maxRecDepth 20000 in
theorem ggX4_find_X4_get : GoodIn wsX4_find wsX4_get := goodIn_r _ [6, 1, 7, 8, 9, 10] (by decide +kernel) (by decide +kernel)
set_option maxRecDepth 20000 in
theorem gX4_find_X4_get : GoodIn wsX4_find (wsV RX4 28 RX4 yX4_get wsX4_get) := goodIn_app (goodIn_of _ (by decide +kernel)) ggX4_find_X4_get
set_option maxRecDepth 20000 in
theorem ggX4_append_X4_set : GoodIn wsX4_append wsX4_set := goodIn_r _ [7, 1, 8, 9, 10, 11] (by decide +kernel) (by decide +kernel)
set_option maxRecDepth 20000 in
theorem gX4_append_X4_set : GoodIn wsX4_append (wsV RX4 32 RX4 yX4_set wsX4_set) := goodIn_app (goodIn_of _ (by decide +kernel)) ggX4_append_X4_set
set_option maxRecDepth 20000 in
theorem ggX4_remove_X4_get : GoodIn wsX4_remove wsX4_get := goodIn_r _ [6, 1, 7, 12, 13, 14] (by decide +kernel) (by decide +kernel)
set_option maxRecDepth 20000 in
theorem gX4_remove_X4_get : GoodIn wsX4_remove (wsV RX4 28 RX4 yX4_get wsX4_get) := goodIn_app (goodIn_of _ (by decide +kernel)) ggX4_remove_X4_get
set_option maxRecDepth 20000 in
theorem ggX4_remove_X4_set : GoodIn wsX4_remove wsX4_set := goodIn_r _ [11, 1, 7, 12, 13, 14] (by decide +kernel) (by decide +kernel)
set_option maxRecDepth 20000 in
theorem gX4_remove_X4_set : GoodIn wsX4_remove (wsV RX4 32 RX4 yX4_set wsX4_set) := goodIn_app (goodIn_of _ (by decide +kernel)) ggX4_remove_X4_set
set_option maxRecDepth 20000 in
theorem ggX4_countOf_X4_get : GoodIn wsX4_countOf wsX4_get := goodIn_r _ [6, 1, 7, 8, 9, 10] (by decide +kernel) (by decide +kernel)
set_option maxRecDepth 20000 in
theorem gX4_countOf_X4_get : GoodIn wsX4_countOf (wsV RX4 28 RX4 yX4_get wsX4_get) := goodIn_app (goodIn_of _ (by decide +kernel)) ggX4_countOf_X4_get
set_option maxRecDepth 20000 in
theorem ggX4_sumOf_X4_get : GoodIn wsX4_sumOf wsX4_get := goodIn_r _ [6, 1, 7, 8, 9, 10] (by decide +kernel) (by decide +kernel)
set_option maxRecDepth 20000 in
theorem gX4_sumOf_X4_get : GoodIn wsX4_sumOf (wsV RX4 28 RX4 yX4_get wsX4_get) := goodIn_app (goodIn_of _ (by decide +kernel)) ggX4_sumOf_X4_get
set_option maxRecDepth 20000 in
theorem ggX4_sumOfAll_X4_get : GoodIn wsX4_sumOfAll wsX4_get := goodIn_r _ [6, 1, 7, 8, 9, 10] (by decide +kernel) (by decide +kernel)
set_option maxRecDepth 20000 in
theorem gX4_sumOfAll_X4_get : GoodIn wsX4_sumOfAll (wsV RX4 28 RX4 yX4_get wsX4_get) := goodIn_app (goodIn_of _ (by decide +kernel)) ggX4_sumOfAll_X4_get
set_option maxRecDepth 20000 in
theorem ggX5_init_X0_init : GoodIn wsX5_init wsX0_init := goodIn_r _ [28, 29, 2, 3, 30, 31, 32, 33, 34, 35, 36, 49, 50, 51, 52, 53] (by decide +kernel) (by decide +kernel)
set_option maxRecDepth 20000 in
theorem gX5_init_X0_init_n11 : GoodIn wsX5_init (wsX0_init) := ggX5_init_X0_init
set_option maxRecDepth 20000 in
theorem ggX5_init_X4_init : GoodIn wsX5_init wsX4_init := goodIn_r _ [38, 39, 2, 3, 40, 41, 31, 42, 67, 68, 69] (by decide +kernel) (by decide +kernel)
set_option maxRecDepth 20000 in
theorem gX5_init_X4_init_n20 : GoodIn wsX5_init (wsX4_init) := ggX5_init_X4_init
set_option maxRecDepth 20000 in
theorem ggX5_init_X6_init : GoodIn wsX5_init wsX6_init := goodIn_r _ [44, 45, 2, 3, 46, 47, 31, 48, 70, 71, 72] (by decide +kernel) (by decide +kernel)
set_option maxRecDepth 20000 in
theorem gX5_init_X6_init_n30 : GoodIn wsX5_init (wsX6_init) := ggX5_init_X6_init
set_option maxRecDepth 20000 in
theorem ggX5_copyFrom_X0_copyFrom : GoodIn wsX5_copyFrom wsX0_copyFrom := goodIn_r _ [18, 19, 20, 21, 22, 23, 24, 25, 26, 27, 59, 60, 61, 62, 63] (by decide +kernel) (by decide +kernel)
set_option maxRecDepth 20000 in
theorem gX5_copyFrom_X0_copyFrom : GoodIn wsX5_copyFrom (wsV RX5 65 RX0 yX0_copyFrom wsX0_copyFrom) := goodIn_app (goodIn_of _ (by decide +kernel)) ggX5_copyFrom_X0_copyFrom
set_option maxRecDepth 20000 in
theorem ggX5_copyFrom_X4_copyFrom : GoodIn wsX5_copyFrom wsX4_copyFrom := goodIn_r _ [32, 33, 34, 35, 36, 22, 23, 24, 64, 65, 66] (by decide +kernel) (by decide +kernel)
set_option maxRecDepth 20000 in
theorem gX5_copyFrom_X4_copyFrom : GoodIn wsX5_copyFrom (wsV RX5 69 RX4 yX4_copyFrom wsX4_copyFrom) := goodIn_app (goodIn_of _ (by decide +kernel)) ggX5_copyFrom_X4_copyFrom
set_option maxRecDepth 20000 in
theorem ggX5_copyFrom_X6_copyFrom : GoodIn wsX5_copyFrom wsX6_copyFrom := goodIn_r _ [41, 42, 43, 44, 45, 22, 23, 24, 67, 68, 69] (by decide +kernel) (by decide +kernel)
set_option maxRecDepth 20000 in
theorem gX5_copyFrom_X6_copyFrom : GoodIn wsX5_copyFrom (wsV RX5 72 RX6 yX6_copyFrom wsX6_copyFrom) := goodIn_app (goodIn_of _ (by decide +kernel)) ggX5_copyFrom_X6_copyFrom
set_option maxRecDepth 20000 in
theorem ggX5_openAccount_X0_find : GoodIn wsX5_openAccount wsX0_find := goodIn_r _ [8, 9, 10, 43, 44, 45, 46, 47] (by decide +kernel) (by decide +kernel)
set_option maxRecDepth 20000 in
theorem gX5_openAccount_X0_find : GoodIn wsX5_openAccount (wsV RX5 76 RX0 yX0_find wsX0_find) := goodIn_app (goodIn_of _ (by decide +kernel)) ggX5_openAccount_X0_find
set_option maxRecDepth 20000 in
theorem ggX5_openAccount_X0_insert : GoodIn wsX5_openAccount wsX0_insert := goodIn_r _ [14, 9, 10, 15, 16, 17, 18, 19, 20, 7, 21, 22, 23, 24, 25, 26, 27, 28, 29, 43, 44, 45, 46, 47] (by decide +kernel) (by decide +kernel)
set_option maxRecDepth 20000 in
theorem gX5_openAccount_X0_insert : GoodIn wsX5_openAccount (wsV RX5 83 RX0 yX0_insert wsX0_insert) := goodIn_app (goodIn_of _ (by decide +kernel)) ggX5_openAccount_X0_insert
set_option maxRecDepth 20000 in
theorem ggX5_closeAccount_X0_find : GoodIn wsX5_closeAccount wsX0_find := goodIn_r _ [8, 9, 10, 54, 55, 56, 57, 58] (by decide +kernel) (by decide +kernel)
set_option maxRecDepth 20000 in
theorem gX5_closeAccount_X0_find : GoodIn wsX5_closeAccount (wsV RX5 76 RX0 yX0_find wsX0_find) := goodIn_app (goodIn_of _ (by decide +kernel)) ggX5_closeAccount_X0_find
set_option maxRecDepth 20000 in
theorem ggX5_closeAccount_X0_balanceAt : GoodIn wsX5_closeAccount wsX0_balanceAt := goodIn_r _ [14, 15, 16, 17, 18, 7, 19, 9, 54, 55, 56, 57, 58] (by decide +kernel) (by decide +kernel)
set_option maxRecDepth 20000 in
theorem gX5_closeAccount_X0_balanceAt : GoodIn wsX5_closeAccount (wsV RX5 87 RX0 yX0_balanceAt wsX0_balanceAt) := goodIn_app (goodIn_of _ (by decide +kernel)) ggX5_closeAccount_X0_balanceAt
set_option maxRecDepth 20000 in
theorem ggX5_closeAccount_X4_countOf : GoodIn wsX5_closeAccount wsX4_countOf := goodIn_r _ [24, 25, 26, 27, 28, 23, 29, 30, 59, 60, 61] (by decide +kernel) (by decide +kernel)
set_option maxRecDepth 20000 in
theorem gX5_closeAccount_X4_countOf : GoodIn wsX5_closeAccount (wsV RX5 90 RX4 yX4_countOf wsX4_countOf) := goodIn_app (goodIn_of _ (by decide +kernel)) ggX5_closeAccount_X4_countOf
set_option maxRecDepth 20000 in
theorem ggX5_closeAccount_X0_remove : GoodIn wsX5_closeAccount wsX0_remove := goodIn_r _ [34, 9, 16, 17, 18, 7, 19, 35, 36, 37, 38, 10, 15, 39, 40, 54, 55, 56, 57, 58] (by decide +kernel) (by decide +kernel)
set_option maxRecDepth 20000 in
theorem gX5_closeAccount_X0_remove : GoodIn wsX5_closeAccount (wsV RX5 93 RX0 yX0_remove wsX0_remove) := goodIn_app (goodIn_of _ (by decide +kernel)) ggX5_closeAccount_X0_remove
set_option maxRecDepth 20000 in
theorem ggX5_takeReceipt_X0_find : GoodIn wsX5_takeReceipt wsX0_find := goodIn_r _ [8, 9, 10, 74, 75, 76, 77, 78] (by decide +kernel) (by decide +kernel)
set_option maxRecDepth 20000 in
theorem gX5_takeReceipt_X0_find : GoodIn wsX5_takeReceipt (wsV RX5 76 RX0 yX0_find wsX0_find) := goodIn_app (goodIn_of _ (by decide +kernel)) ggX5_takeReceipt_X0_find
set_option maxRecDepth 20000 in
theorem ggX5_takeReceipt_X7_isAmount : GoodIn wsX5_takeReceipt wsX7_isAmount := goodIn_r _ [13, 14] (by decide +kernel) (by decide +kernel)
set_option maxRecDepth 20000 in
theorem gX5_takeReceipt_X7_isAmount_n97 : GoodIn wsX5_takeReceipt (wsX7_isAmount) := ggX5_takeReceipt_X7_isAmount
set_option maxRecDepth 20000 in
theorem ggX5_takeReceipt_X0_balanceAt : GoodIn wsX5_takeReceipt wsX0_balanceAt := goodIn_r _ [18, 19, 20, 21, 22, 7, 23, 9, 74, 75, 76, 77, 78] (by decide +kernel) (by decide +kernel)
set_option maxRecDepth 20000 in
theorem gX5_takeReceipt_X0_balanceAt : GoodIn wsX5_takeReceipt (wsV RX5 87 RX0 yX0_balanceAt wsX0_balanceAt) := goodIn_app (goodIn_of _ (by decide +kernel)) ggX5_takeReceipt_X0_balanceAt
set_option maxRecDepth 20000 in
theorem ggX5_takeReceipt_X0_add : GoodIn wsX5_takeReceipt wsX0_add := goodIn_r _ [27, 19, 20, 21, 22, 7, 23, 9, 74, 75, 76, 77, 78] (by decide +kernel) (by decide +kernel)
set_option maxRecDepth 20000 in
theorem gX5_takeReceipt_X0_add : GoodIn wsX5_takeReceipt (wsV RX5 101 RX0 yX0_add wsX0_add) := goodIn_app (goodIn_of _ (by decide +kernel)) ggX5_takeReceipt_X0_add
set_option maxRecDepth 20000 in
theorem ggX5_takeReceipt_X5_enter : GoodIn wsX5_takeReceipt wsX5_enter := goodIn_r _ [32, 33, 34, 1, 35, 36, 37, 38, 39, 40, 41, 42, 43, 44, 45, 46, 47, 48, 49, 50, 51, 52, 53, 54, 55, 4, 5, 6, 7, 8, 9, 10, 56, 57, 58, 59, 60, 20, 21, 22, 23, 61, 62, 63, 64, 65, 66, 67, 68, 69, 70, 71, 72, 73, 79, 80, 81, 74, 75, 76, 77, 78] (by decide +kernel) (by decide +kernel)
set_option maxRecDepth 20000 in
theorem gX5_takeReceipt_X5_enter : GoodIn wsX5_takeReceipt (wsV RX5 104 RX5 yX5_enter wsX5_enter) := goodIn_app (goodIn_of _ (by decide +kernel)) ggX5_takeReceipt_X5_enter
set_option maxRecDepth 20000 in
theorem ggX5_makePayment_X0_find : GoodIn wsX5_makePayment wsX0_find := goodIn_r _ [7, 8, 9, 93, 94, 95, 96, 97] (by decide +kernel) (by decide +kernel)
set_option maxRecDepth 20000 in
theorem gX5_makePayment_X0_find : GoodIn wsX5_makePayment (wsV RX5 76 RX0 yX0_find wsX0_find) := goodIn_app (goodIn_of _ (by decide +kernel)) ggX5_makePayment_X0_find
set_option maxRecDepth 20000 in
theorem ggX5_makePayment_X7_isAmount : GoodIn wsX5_makePayment wsX7_isAmount := goodIn_r _ [12, 13] (by decide +kernel) (by decide +kernel)
set_option maxRecDepth 20000 in
theorem gX5_makePayment_X7_isAmount_n97 : GoodIn wsX5_makePayment (wsX7_isAmount) := ggX5_makePayment_X7_isAmount
set_option maxRecDepth 20000 in
theorem ggX5_makePayment_X5_freeAt : GoodIn wsX5_makePayment wsX5_freeAt := goodIn_r _ [18, 1, 19, 20, 21, 22, 6, 23, 24, 25, 26, 27, 28, 8, 29, 30, 31, 32, 9, 33, 34, 35, 36, 37, 38, 39, 40, 41, 42, 43, 80, 81, 82, 83, 84, 85, 86, 87, 88, 89, 90, 91, 92, 93, 94, 95, 96, 97, 98, 99, 100] (by decide +kernel) (by decide +kernel)
set_option maxRecDepth 20000 in
theorem gX5_makePayment_X5_freeAt : GoodIn wsX5_makePayment (wsV RX5 108 RX5 yX5_freeAt wsX5_freeAt) := goodIn_app (goodIn_of _ (by decide +kernel)) ggX5_makePayment_X5_freeAt
set_option maxRecDepth 20000 in
theorem ggX5_makePayment_X0_add : GoodIn wsX5_makePayment wsX0_add := goodIn_r _ [47, 24, 25, 26, 27, 6, 28, 8, 93, 94, 95, 96, 97] (by decide +kernel) (by decide +kernel)
set_option maxRecDepth 20000 in
theorem gX5_makePayment_X0_add : GoodIn wsX5_makePayment (wsV RX5 101 RX0 yX0_add wsX0_add) := goodIn_app (goodIn_of _ (by decide +kernel)) ggX5_makePayment_X0_add
set_option maxRecDepth 20000 in
theorem ggX5_makePayment_X5_enter : GoodIn wsX5_makePayment wsX5_enter := goodIn_r _ [51, 52, 53, 1, 54, 55, 56, 57, 58, 59, 60, 61, 62, 63, 64, 65, 66, 67, 68, 69, 70, 71, 72, 73, 74, 3, 4, 5, 6, 7, 8, 9, 75, 76, 77, 78, 79, 25, 26, 27, 28, 80, 81, 82, 83, 84, 85, 86, 87, 88, 89, 90, 91, 92, 101, 102, 103, 93, 94, 95, 96, 97] (by decide +kernel) (by decide +kernel)
set_option maxRecDepth 20000 in
theorem gX5_makePayment_X5_enter : GoodIn wsX5_makePayment (wsV RX5 104 RX5 yX5_enter wsX5_enter) := goodIn_app (goodIn_of _ (by decide +kernel)) ggX5_makePayment_X5_enter
set_option maxRecDepth 20000 in
theorem ggX5_makePayment_X0_balanceAt : GoodIn wsX5_makePayment wsX0_balanceAt := goodIn_r _ [23, 24, 25, 26, 27, 6, 28, 8, 93, 94, 95, 96, 97] (by decide +kernel) (by decide +kernel)
set_option maxRecDepth 20000 in
theorem gX5_makePayment_X0_balanceAt : GoodIn wsX5_makePayment (wsV RX5 87 RX0 yX0_balanceAt wsX0_balanceAt) := goodIn_app (goodIn_of _ (by decide +kernel)) ggX5_makePayment_X0_balanceAt
set_option maxRecDepth 20000 in
theorem ggX5_makeTransfer_X0_find : GoodIn wsX5_makeTransfer wsX0_find := goodIn_r _ [7, 8, 9, 93, 94, 95, 96, 97] (by decide +kernel) (by decide +kernel)
set_option maxRecDepth 20000 in
theorem gX5_makeTransfer_X0_find : GoodIn wsX5_makeTransfer (wsV RX5 76 RX0 yX0_find wsX0_find) := goodIn_app (goodIn_of _ (by decide +kernel)) ggX5_makeTransfer_X0_find
set_option maxRecDepth 20000 in
theorem ggX5_makeTransfer_X7_isAmount : GoodIn wsX5_makeTransfer wsX7_isAmount := goodIn_r _ [12, 13] (by decide +kernel) (by decide +kernel)
set_option maxRecDepth 20000 in
theorem gX5_makeTransfer_X7_isAmount_n97 : GoodIn wsX5_makeTransfer (wsX7_isAmount) := ggX5_makeTransfer_X7_isAmount
set_option maxRecDepth 20000 in
theorem ggX5_makeTransfer_X5_freeAt : GoodIn wsX5_makeTransfer wsX5_freeAt := goodIn_r _ [18, 1, 19, 20, 21, 22, 6, 23, 24, 25, 26, 27, 28, 8, 29, 30, 31, 32, 9, 33, 34, 35, 36, 37, 38, 39, 40, 41, 42, 43, 80, 81, 82, 83, 84, 85, 86, 87, 88, 89, 90, 91, 92, 93, 94, 95, 96, 97, 98, 99, 100] (by decide +kernel) (by decide +kernel)
set_option maxRecDepth 20000 in
theorem gX5_makeTransfer_X5_freeAt : GoodIn wsX5_makeTransfer (wsV RX5 108 RX5 yX5_freeAt wsX5_freeAt) := goodIn_app (goodIn_of _ (by decide +kernel)) ggX5_makeTransfer_X5_freeAt
set_option maxRecDepth 20000 in
theorem ggX5_makeTransfer_X0_balanceAt : GoodIn wsX5_makeTransfer wsX0_balanceAt := goodIn_r _ [23, 24, 25, 26, 27, 6, 28, 8, 93, 94, 95, 96, 97] (by decide +kernel) (by decide +kernel)
set_option maxRecDepth 20000 in
theorem gX5_makeTransfer_X0_balanceAt : GoodIn wsX5_makeTransfer (wsV RX5 87 RX0 yX0_balanceAt wsX0_balanceAt) := goodIn_app (goodIn_of _ (by decide +kernel)) ggX5_makeTransfer_X0_balanceAt
set_option maxRecDepth 20000 in
theorem ggX5_makeTransfer_X0_add : GoodIn wsX5_makeTransfer wsX0_add := goodIn_r _ [47, 24, 25, 26, 27, 6, 28, 8, 93, 94, 95, 96, 97] (by decide +kernel) (by decide +kernel)
set_option maxRecDepth 20000 in
theorem gX5_makeTransfer_X0_add : GoodIn wsX5_makeTransfer (wsV RX5 101 RX0 yX0_add wsX0_add) := goodIn_app (goodIn_of _ (by decide +kernel)) ggX5_makeTransfer_X0_add
set_option maxRecDepth 20000 in
theorem ggX5_makeTransfer_X5_enter : GoodIn wsX5_makeTransfer wsX5_enter := goodIn_r _ [51, 52, 53, 1, 54, 55, 56, 57, 58, 59, 60, 61, 62, 63, 64, 65, 66, 67, 68, 69, 70, 71, 72, 73, 74, 3, 4, 5, 6, 7, 8, 9, 75, 76, 77, 78, 79, 25, 26, 27, 28, 80, 81, 82, 83, 84, 85, 86, 87, 88, 89, 90, 91, 92, 101, 102, 103, 93, 94, 95, 96, 97] (by decide +kernel) (by decide +kernel)
set_option maxRecDepth 20000 in
theorem gX5_makeTransfer_X5_enter : GoodIn wsX5_makeTransfer (wsV RX5 104 RX5 yX5_enter wsX5_enter) := goodIn_app (goodIn_of _ (by decide +kernel)) ggX5_makeTransfer_X5_enter
set_option maxRecDepth 20000 in
theorem ggX5_makeHold_X0_find : GoodIn wsX5_makeHold wsX0_find := goodIn_r _ [9, 10, 11, 70, 71, 72, 73, 74] (by decide +kernel) (by decide +kernel)
set_option maxRecDepth 20000 in
theorem gX5_makeHold_X0_find : GoodIn wsX5_makeHold (wsV RX5 76 RX0 yX0_find wsX0_find) := goodIn_app (goodIn_of _ (by decide +kernel)) ggX5_makeHold_X0_find
set_option maxRecDepth 20000 in
theorem ggX5_makeHold_X7_isAmount : GoodIn wsX5_makeHold wsX7_isAmount := goodIn_r _ [14, 15] (by decide +kernel) (by decide +kernel)
set_option maxRecDepth 20000 in
theorem gX5_makeHold_X7_isAmount_n97 : GoodIn wsX5_makeHold (wsX7_isAmount) := ggX5_makeHold_X7_isAmount
set_option maxRecDepth 20000 in
theorem ggX5_makeHold_X5_freeAt : GoodIn wsX5_makeHold wsX5_freeAt := goodIn_r _ [20, 1, 2, 21, 22, 23, 8, 24, 25, 26, 27, 28, 29, 10, 30, 31, 32, 33, 11, 34, 35, 36, 37, 38, 39, 40, 41, 42, 43, 44, 54, 55, 56, 57, 58, 59, 60, 61, 62, 63, 64, 65, 66, 70, 71, 72, 73, 74, 67, 68, 69] (by decide +kernel) (by decide +kernel)
set_option maxRecDepth 20000 in
theorem gX5_makeHold_X5_freeAt : GoodIn wsX5_makeHold (wsV RX5 108 RX5 yX5_freeAt wsX5_freeAt) := goodIn_app (goodIn_of _ (by decide +kernel)) ggX5_makeHold_X5_freeAt
set_option maxRecDepth 20000 in
theorem ggX5_makeHold_X4_append : GoodIn wsX5_makeHold wsX4_append := goodIn_r _ [48, 39, 49, 50, 51, 52, 37, 53, 44, 67, 68, 69] (by decide +kernel) (by decide +kernel)
set_option maxRecDepth 20000 in
theorem gX5_makeHold_X4_append : GoodIn wsX5_makeHold (wsV RX5 112 RX4 yX4_append wsX4_append) := goodIn_app (goodIn_of _ (by decide +kernel)) ggX5_makeHold_X4_append
set_option maxRecDepth 20000 in
theorem ggX5_endHold_X4_find : GoodIn wsX5_endHold wsX4_find := goodIn_r _ [7, 8, 9, 10, 11, 6, 12, 13, 65, 66, 67] (by decide +kernel) (by decide +kernel)
set_option maxRecDepth 20000 in
theorem gX5_endHold_X4_find : GoodIn wsX5_endHold (wsV RX5 116 RX4 yX4_find wsX4_find) := goodIn_app (goodIn_of _ (by decide +kernel)) ggX5_endHold_X4_find
set_option maxRecDepth 20000 in
theorem ggX5_endHold_X4_get : GoodIn wsX5_endHold wsX4_get := goodIn_r _ [12, 8, 13, 65, 66, 67] (by decide +kernel) (by decide +kernel)
set_option maxRecDepth 20000 in
theorem gX5_endHold_X4_get : GoodIn wsX5_endHold (wsV RX5 117 RX4 yX4_get wsX4_get) := goodIn_app (goodIn_of _ (by decide +kernel)) ggX5_endHold_X4_get
set_option maxRecDepth 20000 in
theorem ggX5_endHold_X0_find : GoodIn wsX5_endHold wsX0_find := goodIn_r _ [19, 20, 21, 68, 69, 70, 71, 72] (by decide +kernel) (by decide +kernel)
set_option maxRecDepth 20000 in
theorem gX5_endHold_X0_find : GoodIn wsX5_endHold (wsV RX5 76 RX0 yX0_find wsX0_find) := goodIn_app (goodIn_of _ (by decide +kernel)) ggX5_endHold_X0_find
set_option maxRecDepth 20000 in
theorem ggX5_endHold_X4_remove : GoodIn wsX5_endHold wsX4_remove := goodIn_r _ [25, 8, 9, 10, 11, 6, 12, 13, 26, 27, 28, 29, 65, 66, 67] (by decide +kernel) (by decide +kernel)
set_option maxRecDepth 20000 in
theorem gX5_endHold_X4_remove : GoodIn wsX5_endHold (wsV RX5 121 RX4 yX4_remove wsX4_remove) := goodIn_app (goodIn_of _ (by decide +kernel)) ggX5_endHold_X4_remove
set_option maxRecDepth 20000 in
theorem ggX5_endHold_X5_freeAt : GoodIn wsX5_endHold wsX5_freeAt := goodIn_r _ [34, 2, 1, 35, 36, 37, 18, 38, 39, 40, 41, 42, 43, 20, 44, 45, 46, 47, 21, 48, 49, 50, 6, 51, 8, 9, 10, 11, 12, 13, 52, 53, 54, 55, 56, 57, 58, 59, 60, 61, 62, 63, 64, 68, 69, 70, 71, 72, 65, 66, 67] (by decide +kernel) (by decide +kernel)
set_option maxRecDepth 20000 in
theorem gX5_endHold_X5_freeAt : GoodIn wsX5_endHold (wsV RX5 108 RX5 yX5_freeAt wsX5_freeAt) := goodIn_app (goodIn_of _ (by decide +kernel)) ggX5_endHold_X5_freeAt
set_option maxRecDepth 20000 in
theorem ggX5_writeBill_X0_find : GoodIn wsX5_writeBill wsX0_find := goodIn_r _ [8, 9, 10, 43, 44, 45, 46, 47] (by decide +kernel) (by decide +kernel)
set_option maxRecDepth 20000 in
theorem gX5_writeBill_X0_find : GoodIn wsX5_writeBill (wsV RX5 76 RX0 yX0_find wsX0_find) := goodIn_app (goodIn_of _ (by decide +kernel)) ggX5_writeBill_X0_find
set_option maxRecDepth 20000 in
theorem ggX5_writeBill_X7_isAmount : GoodIn wsX5_writeBill wsX7_isAmount := goodIn_r _ [13, 14] (by decide +kernel) (by decide +kernel)
set_option maxRecDepth 20000 in
theorem gX5_writeBill_X7_isAmount_n97 : GoodIn wsX5_writeBill (wsX7_isAmount) := ggX5_writeBill_X7_isAmount
set_option maxRecDepth 20000 in
theorem ggX5_writeBill_X4_append : GoodIn wsX5_writeBill wsX4_append := goodIn_r _ [19, 20, 21, 22, 23, 24, 18, 25, 26, 40, 41, 42] (by decide +kernel) (by decide +kernel)
set_option maxRecDepth 20000 in
theorem gX5_writeBill_X4_append : GoodIn wsX5_writeBill (wsV RX5 112 RX4 yX4_append wsX4_append) := goodIn_app (goodIn_of _ (by decide +kernel)) ggX5_writeBill_X4_append
set_option maxRecDepth 20000 in
theorem ggX5_settleBill_X4_find : GoodIn wsX5_settleBill wsX4_find := goodIn_r _ [12, 13, 14, 15, 16, 11, 17, 18, 108, 109, 110] (by decide +kernel) (by decide +kernel)
set_option maxRecDepth 20000 in
theorem gX5_settleBill_X4_find : GoodIn wsX5_settleBill (wsV RX5 116 RX4 yX4_find wsX4_find) := goodIn_app (goodIn_of _ (by decide +kernel)) ggX5_settleBill_X4_find
set_option maxRecDepth 20000 in
theorem ggX5_settleBill_X4_get : GoodIn wsX5_settleBill wsX4_get := goodIn_r _ [17, 13, 18, 108, 109, 110] (by decide +kernel) (by decide +kernel)
set_option maxRecDepth 20000 in
theorem gX5_settleBill_X4_get : GoodIn wsX5_settleBill (wsV RX5 117 RX4 yX4_get wsX4_get) := goodIn_app (goodIn_of _ (by decide +kernel)) ggX5_settleBill_X4_get
set_option maxRecDepth 20000 in
theorem ggX5_settleBill_X0_find : GoodIn wsX5_settleBill wsX0_find := goodIn_r _ [24, 25, 26, 111, 112, 113, 114, 115] (by decide +kernel) (by decide +kernel)
set_option maxRecDepth 20000 in
theorem gX5_settleBill_X0_find : GoodIn wsX5_settleBill (wsV RX5 76 RX0 yX0_find wsX0_find) := goodIn_app (goodIn_of _ (by decide +kernel)) ggX5_settleBill_X0_find
set_option maxRecDepth 20000 in
theorem ggX5_settleBill_X5_freeAt : GoodIn wsX5_settleBill wsX5_freeAt := goodIn_r _ [31, 2, 32, 33, 34, 35, 23, 36, 37, 38, 39, 40, 41, 25, 42, 43, 44, 45, 26, 46, 47, 48, 11, 49, 13, 14, 15, 16, 17, 18, 95, 96, 97, 98, 99, 100, 101, 102, 103, 104, 105, 106, 107, 111, 112, 113, 114, 115, 108, 109, 110] (by decide +kernel) (by decide +kernel)
set_option maxRecDepth 20000 in
theorem gX5_settleBill_X5_freeAt : GoodIn wsX5_settleBill (wsV RX5 108 RX5 yX5_freeAt wsX5_freeAt) := goodIn_app (goodIn_of _ (by decide +kernel)) ggX5_settleBill_X5_freeAt
set_option maxRecDepth 20000 in
theorem ggX5_settleBill_X0_add : GoodIn wsX5_settleBill wsX0_add := goodIn_r _ [53, 37, 38, 39, 40, 23, 41, 25, 111, 112, 113, 114, 115] (by decide +kernel) (by decide +kernel)
set_option maxRecDepth 20000 in
theorem gX5_settleBill_X0_add : GoodIn wsX5_settleBill (wsV RX5 101 RX0 yX0_add wsX0_add) := goodIn_app (goodIn_of _ (by decide +kernel)) ggX5_settleBill_X0_add
set_option maxRecDepth 20000 in
theorem ggX5_settleBill_X4_remove : GoodIn wsX5_settleBill wsX4_remove := goodIn_r _ [57, 13, 14, 15, 16, 11, 17, 18, 58, 59, 60, 61, 108, 109, 110] (by decide +kernel) (by decide +kernel)
set_option maxRecDepth 20000 in
theorem gX5_settleBill_X4_remove : GoodIn wsX5_settleBill (wsV RX5 121 RX4 yX4_remove wsX4_remove) := goodIn_app (goodIn_of _ (by decide +kernel)) ggX5_settleBill_X4_remove
set_option maxRecDepth 20000 in
theorem ggX5_settleBill_X4_set : GoodIn wsX5_settleBill wsX4_set := goodIn_r _ [61, 13, 18, 108, 109, 110] (by decide +kernel) (by decide +kernel)
set_option maxRecDepth 20000 in
theorem gX5_settleBill_X4_set : GoodIn wsX5_settleBill (wsV RX5 127 RX4 yX4_set wsX4_set) := goodIn_app (goodIn_of _ (by decide +kernel)) ggX5_settleBill_X4_set
set_option maxRecDepth 20000 in
theorem ggX5_settleBill_X5_enter : GoodIn wsX5_settleBill wsX5_enter := goodIn_r _ [66, 67, 68, 2, 69, 70, 71, 72, 73, 74, 75, 76, 77, 78, 79, 80, 81, 82, 83, 84, 85, 86, 87, 88, 89, 20, 21, 22, 23, 24, 25, 26, 90, 91, 92, 93, 94, 38, 39, 40, 41, 95, 96, 97, 98, 99, 100, 101, 102, 103, 104, 105, 106, 107, 116, 117, 118, 111, 112, 113, 114, 115] (by decide +kernel) (by decide +kernel)
set_option maxRecDepth 20000 in
theorem gX5_settleBill_X5_enter : GoodIn wsX5_settleBill (wsV RX5 104 RX5 yX5_enter wsX5_enter) := goodIn_app (goodIn_of _ (by decide +kernel)) ggX5_settleBill_X5_enter
set_option maxRecDepth 20000 in
theorem ggX5_letPass_X7_nextCreditDay : GoodIn wsX5_letPass wsX7_nextCreditDay := goodIn_r _ [7] (by decide +kernel) (by decide +kernel)
set_option maxRecDepth 20000 in
theorem gX5_letPass_X7_nextCreditDay_n135 : GoodIn wsX5_letPass (wsX7_nextCreditDay) := ggX5_letPass_X7_nextCreditDay
set_option maxRecDepth 20000 in
theorem ggX5_letPass_X5_growUntil : GoodIn wsX5_letPass wsX5_growUntil := goodIn_r _ [12, 13, 14, 2, 15, 16, 17, 18, 19, 20, 21, 22, 23, 24, 25, 26, 27, 28, 11, 29, 30, 31, 32, 33, 34, 35, 36, 37, 38, 39, 40, 41, 127, 128, 129, 130, 131, 132, 133, 134, 135, 136, 137, 138, 139, 140, 141, 142, 143, 144] (by decide +kernel) (by decide +kernel)
set_option maxRecDepth 20000 in
theorem gX5_letPass_X5_growUntil : GoodIn wsX5_letPass (wsV RX5 138 RX5 yX5_growUntil wsX5_growUntil) := goodIn_app (goodIn_of _ (by decide +kernel)) ggX5_letPass_X5_growUntil
set_option maxRecDepth 20000 in
theorem ggX5_letPass_X5_creditAll : GoodIn wsX5_letPass wsX5_creditAll := goodIn_r _ [45, 13, 14, 46, 4, 15, 16, 17, 18, 19, 20, 21, 22, 23, 24, 25, 47, 48, 49, 50, 41, 51, 52, 53, 11, 54, 55, 56, 57, 58, 33, 59, 60, 61, 62, 63, 64, 37, 38, 39, 40, 65, 66, 67, 68, 69, 70, 71, 72, 73, 74, 2, 75, 76, 77, 78, 79, 80, 81, 82, 83, 84, 85, 86, 87, 88, 89, 90, 91, 92, 93, 94, 95, 96, 97, 98, 99, 100, 101, 102, 103, 104, 127, 128, 129, 130, 131, 132, 133, 134, 135, 136, 137, 138, 139, 140, 141, 142, 143, 144, 145, 146, 147] (by decide +kernel) (by decide +kernel)
set_option maxRecDepth 20000 in
theorem gX5_letPass_X5_creditAll : GoodIn wsX5_letPass (wsV RX5 141 RX5 yX5_creditAll wsX5_creditAll) := goodIn_app (goodIn_of _ (by decide +kernel)) ggX5_letPass_X5_creditAll
set_option maxRecDepth 20000 in
theorem ggX5_letPass_X5_endHoldsThatAreOver : GoodIn wsX5_letPass wsX5_endHoldsThatAreOver := goodIn_r _ [108, 109, 110, 2, 111, 112, 113, 114, 115, 116, 117, 118, 119, 120, 121, 122, 123, 124, 125, 126, 127, 128, 129, 130, 131, 132, 133, 134, 135, 136, 137, 138, 139, 148, 149, 150] (by decide +kernel) (by decide +kernel)
set_option maxRecDepth 20000 in
theorem gX5_letPass_X5_endHoldsThatAreOver : GoodIn wsX5_letPass (wsV RX5 144 RX5 yX5_endHoldsThatAreOver wsX5_endHoldsThatAreOver) := goodIn_app (goodIn_of _ (by decide +kernel)) ggX5_letPass_X5_endHoldsThatAreOver
set_option maxRecDepth 20000 in
theorem ggX5_reverseEntry_X6_keeps : GoodIn wsX5_reverseEntry wsX6_keeps := goodIn_r _ [11, 12, 105, 106, 107] (by decide +kernel) (by decide +kernel)
set_option maxRecDepth 20000 in
theorem gX5_reverseEntry_X6_keeps : GoodIn wsX5_reverseEntry (wsV RX5 147 RX6 yX6_keeps wsX6_keeps) := goodIn_app (goodIn_of _ (by decide +kernel)) ggX5_reverseEntry_X6_keeps
set_option maxRecDepth 20000 in
theorem ggX5_reverseEntry_X6_get : GoodIn wsX5_reverseEntry wsX6_get := goodIn_r _ [16, 17, 18, 19, 10, 20, 21, 8, 9, 11, 12, 105, 106, 107] (by decide +kernel) (by decide +kernel)
set_option maxRecDepth 20000 in
theorem gX5_reverseEntry_X6_get : GoodIn wsX5_reverseEntry (wsV RX5 150 RX6 yX6_get wsX6_get) := goodIn_app (goodIn_of _ (by decide +kernel)) ggX5_reverseEntry_X6_get
set_option maxRecDepth 20000 in
theorem ggX5_reverseEntry_X0_find : GoodIn wsX5_reverseEntry wsX0_find := goodIn_r _ [26, 27, 28, 108, 109, 110, 111, 112] (by decide +kernel) (by decide +kernel)
set_option maxRecDepth 20000 in
theorem gX5_reverseEntry_X0_find : GoodIn wsX5_reverseEntry (wsV RX5 76 RX0 yX0_find wsX0_find) := goodIn_app (goodIn_of _ (by decide +kernel)) ggX5_reverseEntry_X0_find
set_option maxRecDepth 20000 in
theorem ggX5_reverseEntry_X5_freeAt : GoodIn wsX5_reverseEntry wsX5_freeAt := goodIn_r _ [33, 2, 34, 35, 36, 37, 25, 38, 39, 40, 41, 42, 43, 27, 44, 45, 46, 47, 28, 48, 49, 50, 51, 52, 53, 54, 55, 56, 57, 58, 92, 93, 94, 95, 96, 97, 98, 99, 100, 101, 102, 103, 104, 108, 109, 110, 111, 112, 113, 114, 115] (by decide +kernel) (by decide +kernel)
set_option maxRecDepth 20000 in
theorem gX5_reverseEntry_X5_freeAt : GoodIn wsX5_reverseEntry (wsV RX5 108 RX5 yX5_freeAt wsX5_freeAt) := goodIn_app (goodIn_of _ (by decide +kernel)) ggX5_reverseEntry_X5_freeAt
set_option maxRecDepth 20000 in
theorem ggX5_reverseEntry_X0_balanceAt : GoodIn wsX5_reverseEntry wsX0_balanceAt := goodIn_r _ [38, 39, 40, 41, 42, 25, 43, 27, 108, 109, 110, 111, 112] (by decide +kernel) (by decide +kernel)
set_option maxRecDepth 20000 in
theorem gX5_reverseEntry_X0_balanceAt : GoodIn wsX5_reverseEntry (wsV RX5 87 RX0 yX0_balanceAt wsX0_balanceAt) := goodIn_app (goodIn_of _ (by decide +kernel)) ggX5_reverseEntry_X0_balanceAt
set_option maxRecDepth 20000 in
theorem ggX5_reverseEntry_X0_add : GoodIn wsX5_reverseEntry wsX0_add := goodIn_r _ [62, 39, 40, 41, 42, 25, 43, 27, 108, 109, 110, 111, 112] (by decide +kernel) (by decide +kernel)
set_option maxRecDepth 20000 in
theorem gX5_reverseEntry_X0_add : GoodIn wsX5_reverseEntry (wsV RX5 101 RX0 yX0_add wsX0_add) := goodIn_app (goodIn_of _ (by decide +kernel)) ggX5_reverseEntry_X0_add
set_option maxRecDepth 20000 in
theorem ggX5_reverseEntry_X6_markReversed : GoodIn wsX5_reverseEntry wsX6_markReversed := goodIn_r _ [66, 21, 8, 9, 10, 11, 12, 67, 68, 69, 70, 17, 18, 19, 20, 105, 106, 107] (by decide +kernel) (by decide +kernel)
set_option maxRecDepth 20000 in
theorem gX5_reverseEntry_X6_markReversed : GoodIn wsX5_reverseEntry (wsV RX5 151 RX6 yX6_markReversed wsX6_markReversed) := goodIn_app (goodIn_of _ (by decide +kernel)) ggX5_reverseEntry_X6_markReversed
set_option maxRecDepth 20000 in
theorem ggX5_reverseEntry_X5_enter : GoodIn wsX5_reverseEntry wsX5_enter := goodIn_r _ [74, 1, 75, 2, 76, 77, 78, 10, 79, 80, 81, 82, 83, 84, 85, 86, 12, 67, 68, 69, 70, 17, 18, 19, 20, 22, 23, 24, 25, 26, 27, 28, 87, 88, 89, 90, 91, 40, 41, 42, 43, 92, 93, 94, 95, 96, 97, 98, 99, 100, 101, 102, 103, 104, 105, 106, 107, 108, 109, 110, 111, 112] (by decide +kernel) (by decide +kernel)
set_option maxRecDepth 20000 in
theorem gX5_reverseEntry_X5_enter : GoodIn wsX5_reverseEntry (wsV RX5 104 RX5 yX5_enter wsX5_enter) := goodIn_app (goodIn_of _ (by decide +kernel)) ggX5_reverseEntry_X5_enter
set_option maxRecDepth 20000 in
theorem ggX5_freeAt_X0_balanceAt : GoodIn wsX5_freeAt wsX0_balanceAt := goodIn_r _ [7, 8, 9, 10, 11, 6, 12, 13, 43, 44, 45, 46, 47] (by decide +kernel) (by decide +kernel)
set_option maxRecDepth 20000 in
theorem gX5_freeAt_X0_balanceAt : GoodIn wsX5_freeAt (wsV RX5 87 RX0 yX0_balanceAt wsX0_balanceAt) := goodIn_app (goodIn_of _ (by decide +kernel)) ggX5_freeAt_X0_balanceAt
set_option maxRecDepth 20000 in
theorem ggX5_freeAt_X0_numberAt : GoodIn wsX5_freeAt wsX0_numberAt := goodIn_r _ [17, 18, 9, 10, 11, 6, 12, 13, 43, 44, 45, 46, 47] (by decide +kernel) (by decide +kernel)
set_option maxRecDepth 20000 in
theorem gX5_freeAt_X0_numberAt : GoodIn wsX5_freeAt (wsV RX5 157 RX0 yX0_numberAt wsX0_numberAt) := goodIn_app (goodIn_of _ (by decide +kernel)) ggX5_freeAt_X0_numberAt
set_option maxRecDepth 20000 in
theorem ggX5_freeAt_X4_sumOf : GoodIn wsX5_freeAt wsX4_sumOf := goodIn_r _ [23, 24, 25, 26, 27, 22, 28, 29, 48, 49, 50] (by decide +kernel) (by decide +kernel)
set_option maxRecDepth 20000 in
theorem gX5_freeAt_X4_sumOf : GoodIn wsX5_freeAt (wsV RX5 160 RX4 yX4_sumOf wsX4_sumOf) := goodIn_app (goodIn_of _ (by decide +kernel)) ggX5_freeAt_X4_sumOf
set_option maxRecDepth 20000 in
theorem ggX5_aboutClient_X0_numberAt : GoodIn wsX5_aboutClient wsX0_numberAt := goodIn_r _ [14, 15, 16, 17, 18, 13, 19, 20, 69, 70, 71, 72, 73] (by decide +kernel) (by decide +kernel)
set_option maxRecDepth 20000 in
theorem gX5_aboutClient_X0_numberAt : GoodIn wsX5_aboutClient (wsV RX5 157 RX0 yX0_numberAt wsX0_numberAt) := goodIn_app (goodIn_of _ (by decide +kernel)) ggX5_aboutClient_X0_numberAt
set_option maxRecDepth 20000 in
theorem ggX5_aboutClient_X0_balanceAt : GoodIn wsX5_aboutClient wsX0_balanceAt := goodIn_r _ [24, 25, 16, 17, 18, 13, 19, 20, 69, 70, 71, 72, 73] (by decide +kernel) (by decide +kernel)
set_option maxRecDepth 20000 in
theorem gX5_aboutClient_X0_balanceAt : GoodIn wsX5_aboutClient (wsV RX5 87 RX0 yX0_balanceAt wsX0_balanceAt) := goodIn_app (goodIn_of _ (by decide +kernel)) ggX5_aboutClient_X0_balanceAt
set_option maxRecDepth 20000 in
theorem ggX5_aboutClient_X4_sumOf : GoodIn wsX5_aboutClient wsX4_sumOf := goodIn_r _ [30, 31, 32, 33, 34, 29, 35, 36, 74, 75, 76] (by decide +kernel) (by decide +kernel)
set_option maxRecDepth 20000 in
theorem gX5_aboutClient_X4_sumOf : GoodIn wsX5_aboutClient (wsV RX5 160 RX4 yX4_sumOf wsX4_sumOf) := goodIn_app (goodIn_of _ (by decide +kernel)) ggX5_aboutClient_X4_sumOf
set_option maxRecDepth 20000 in
theorem ggX5_aboutClient_X5_freeAt : GoodIn wsX5_aboutClient wsX5_freeAt := goodIn_r _ [41, 1, 2, 21, 22, 23, 13, 24, 25, 16, 17, 18, 19, 20, 10, 11, 12, 14, 15, 26, 27, 28, 29, 30, 31, 32, 33, 34, 35, 36, 56, 57, 58, 59, 60, 61, 62, 63, 64, 65, 66, 67, 68, 69, 70, 71, 72, 73, 74, 75, 76] (by decide +kernel) (by decide +kernel)
set_option maxRecDepth 20000 in
theorem gX5_aboutClient_X5_freeAt : GoodIn wsX5_aboutClient (wsV RX5 108 RX5 yX5_freeAt wsX5_freeAt) := goodIn_app (goodIn_of _ (by decide +kernel)) ggX5_aboutClient_X5_freeAt
set_option maxRecDepth 20000 in
theorem ggX5_aboutClient_X0_countAt : GoodIn wsX5_aboutClient wsX0_countAt := goodIn_r _ [45, 46, 16, 17, 18, 13, 19, 20, 69, 70, 71, 72, 73] (by decide +kernel) (by decide +kernel)
set_option maxRecDepth 20000 in
theorem gX5_aboutClient_X0_countAt : GoodIn wsX5_aboutClient (wsV RX5 163 RX0 yX0_countAt wsX0_countAt) := goodIn_app (goodIn_of _ (by decide +kernel)) ggX5_aboutClient_X0_countAt
set_option maxRecDepth 20000 in
theorem ggX5_aboutClient_X0_movedAt : GoodIn wsX5_aboutClient wsX0_movedAt := goodIn_r _ [50, 51, 16, 17, 18, 13, 19, 20, 69, 70, 71, 72, 73] (by decide +kernel) (by decide +kernel)
set_option maxRecDepth 20000 in
theorem gX5_aboutClient_X0_movedAt : GoodIn wsX5_aboutClient (wsV RX5 174 RX0 yX0_movedAt wsX0_movedAt) := goodIn_app (goodIn_of _ (by decide +kernel)) ggX5_aboutClient_X0_movedAt
set_option maxRecDepth 20000 in
theorem ggX5_aboutClient_X4_countOf : GoodIn wsX5_aboutClient wsX4_countOf := goodIn_r _ [55, 31, 32, 33, 34, 29, 35, 36, 74, 75, 76] (by decide +kernel) (by decide +kernel)
set_option maxRecDepth 20000 in
theorem gX5_aboutClient_X4_countOf : GoodIn wsX5_aboutClient (wsV RX5 90 RX4 yX4_countOf wsX4_countOf) := goodIn_app (goodIn_of _ (by decide +kernel)) ggX5_aboutClient_X4_countOf
set_option maxRecDepth 20000 in
theorem ggX5_firstDayWithFree_X0_numberAt : GoodIn wsX5_firstDayWithFree wsX0_numberAt := goodIn_r _ [8, 9, 10, 11, 12, 7, 13, 14, 72, 73, 74, 75, 76] (by decide +kernel) (by decide +kernel)
set_option maxRecDepth 20000 in
theorem gX5_firstDayWithFree_X0_numberAt : GoodIn wsX5_firstDayWithFree (wsV RX5 157 RX0 yX0_numberAt wsX0_numberAt) := goodIn_app (goodIn_of _ (by decide +kernel)) ggX5_firstDayWithFree_X0_numberAt
set_option maxRecDepth 20000 in
theorem ggX5_firstDayWithFree_X0_balanceAt : GoodIn wsX5_firstDayWithFree wsX0_balanceAt := goodIn_r _ [18, 19, 10, 11, 12, 7, 13, 14, 72, 73, 74, 75, 76] (by decide +kernel) (by decide +kernel)
set_option maxRecDepth 20000 in
theorem gX5_firstDayWithFree_X0_balanceAt : GoodIn wsX5_firstDayWithFree (wsV RX5 87 RX0 yX0_balanceAt wsX0_balanceAt) := goodIn_app (goodIn_of _ (by decide +kernel)) ggX5_firstDayWithFree_X0_balanceAt
set_option maxRecDepth 20000 in
theorem ggX5_firstDayWithFree_X0_countAt : GoodIn wsX5_firstDayWithFree wsX0_countAt := goodIn_r _ [23, 24, 10, 11, 12, 7, 13, 14, 72, 73, 74, 75, 76] (by decide +kernel) (by decide +kernel)
set_option maxRecDepth 20000 in
theorem gX5_firstDayWithFree_X0_countAt : GoodIn wsX5_firstDayWithFree (wsV RX5 163 RX0 yX0_countAt wsX0_countAt) := goodIn_app (goodIn_of _ (by decide +kernel)) ggX5_firstDayWithFree_X0_countAt
set_option maxRecDepth 20000 in
theorem ggX5_firstDayWithFree_X5_growthPerDay : GoodIn wsX5_firstDayWithFree wsX5_growthPerDay := goodIn_r _ [29, 30, 31, 32, 33, 34, 35, 36, 59, 60, 61, 62, 63, 64, 65, 66, 67, 68, 69, 70, 71] (by decide +kernel) (by decide +kernel)
set_option maxRecDepth 20000 in
theorem gX5_firstDayWithFree_X5_growthPerDay : GoodIn wsX5_firstDayWithFree (wsV RX5 177 RX5 yX5_growthPerDay wsX5_growthPerDay) := goodIn_app (goodIn_of _ (by decide +kernel)) ggX5_firstDayWithFree_X5_growthPerDay
set_option maxRecDepth 20000 in
theorem ggX5_firstDayWithFree_X5_interestToCredit : GoodIn wsX5_firstDayWithFree wsX5_interestToCredit := goodIn_r _ [40, 3, 41, 42, 43, 33, 44, 45, 59, 60, 61, 62, 63, 64, 65, 66, 67, 68, 69, 70, 71] (by decide +kernel) (by decide +kernel)
set_option maxRecDepth 20000 in
theorem gX5_firstDayWithFree_X5_interestToCredit : GoodIn wsX5_firstDayWithFree (wsV RX5 180 RX5 yX5_interestToCredit wsX5_interestToCredit) := goodIn_app (goodIn_of _ (by decide +kernel)) ggX5_firstDayWithFree_X5_interestToCredit
set_option maxRecDepth 20000 in
theorem ggX5_firstDayWithFree_X5_heldOn : GoodIn wsX5_firstDayWithFree wsX5_heldOn := goodIn_r _ [49, 50, 51, 52, 53, 54, 55, 56, 57, 58, 59, 60, 61, 62, 63, 64, 65, 66, 67, 68, 69, 70, 71, 77, 78, 79] (by decide +kernel) (by decide +kernel)
set_option maxRecDepth 20000 in
theorem gX5_firstDayWithFree_X5_heldOn : GoodIn wsX5_firstDayWithFree (wsV RX5 184 RX5 yX5_heldOn wsX5_heldOn) := goodIn_app (goodIn_of _ (by decide +kernel)) ggX5_firstDayWithFree_X5_heldOn
set_option maxRecDepth 20000 in
theorem ggX5_interestAhead_X0_balanceAt : GoodIn wsX5_interestAhead wsX0_balanceAt := goodIn_r _ [8, 9, 10, 11, 12, 7, 13, 14, 57, 58, 59, 60, 61] (by decide +kernel) (by decide +kernel)
set_option maxRecDepth 20000 in
theorem gX5_interestAhead_X0_balanceAt : GoodIn wsX5_interestAhead (wsV RX5 87 RX0 yX0_balanceAt wsX0_balanceAt) := goodIn_app (goodIn_of _ (by decide +kernel)) ggX5_interestAhead_X0_balanceAt
set_option maxRecDepth 20000 in
theorem ggX5_interestAhead_X0_countAt : GoodIn wsX5_interestAhead wsX0_countAt := goodIn_r _ [18, 19, 10, 11, 12, 7, 13, 14, 57, 58, 59, 60, 61] (by decide +kernel) (by decide +kernel)
set_option maxRecDepth 20000 in
theorem gX5_interestAhead_X0_countAt : GoodIn wsX5_interestAhead (wsV RX5 163 RX0 yX0_countAt wsX0_countAt) := goodIn_app (goodIn_of _ (by decide +kernel)) ggX5_interestAhead_X0_countAt
set_option maxRecDepth 20000 in
theorem ggX5_interestAhead_X7_nextCreditDay : GoodIn wsX5_interestAhead wsX7_nextCreditDay := goodIn_r _ [22] (by decide +kernel) (by decide +kernel)
set_option maxRecDepth 20000 in
theorem gX5_interestAhead_X7_nextCreditDay_n135 : GoodIn wsX5_interestAhead (wsX7_nextCreditDay) := ggX5_interestAhead_X7_nextCreditDay
set_option maxRecDepth 20000 in
theorem ggX5_interestAhead_X5_growthPerDay : GoodIn wsX5_interestAhead wsX5_growthPerDay := goodIn_r _ [27, 28, 29, 30, 31, 32, 33, 34, 44, 45, 46, 47, 48, 49, 50, 51, 52, 53, 54, 55, 56] (by decide +kernel) (by decide +kernel)
set_option maxRecDepth 20000 in
theorem gX5_interestAhead_X5_growthPerDay : GoodIn wsX5_interestAhead (wsV RX5 177 RX5 yX5_growthPerDay wsX5_growthPerDay) := goodIn_app (goodIn_of _ (by decide +kernel)) ggX5_interestAhead_X5_growthPerDay
set_option maxRecDepth 20000 in
theorem ggX5_interestAhead_X5_interestToCredit : GoodIn wsX5_interestAhead wsX5_interestToCredit := goodIn_r _ [38, 3, 39, 40, 41, 31, 42, 43, 44, 45, 46, 47, 48, 49, 50, 51, 52, 53, 54, 55, 56] (by decide +kernel) (by decide +kernel)
set_option maxRecDepth 20000 in
theorem gX5_interestAhead_X5_interestToCredit : GoodIn wsX5_interestAhead (wsV RX5 180 RX5 yX5_interestToCredit wsX5_interestToCredit) := goodIn_app (goodIn_of _ (by decide +kernel)) ggX5_interestAhead_X5_interestToCredit
set_option maxRecDepth 20000 in
theorem ggX5_heldOn_X4_get : GoodIn wsX5_heldOn wsX4_get := goodIn_r _ [7, 8, 9, 23, 24, 25] (by decide +kernel) (by decide +kernel)
set_option maxRecDepth 20000 in
theorem gX5_heldOn_X4_get : GoodIn wsX5_heldOn (wsV RX5 117 RX4 yX4_get wsX4_get) := goodIn_app (goodIn_of _ (by decide +kernel)) ggX5_heldOn_X4_get
set_option maxRecDepth 20000 in
theorem ggX5_growUntil_X0_balanceAt : GoodIn wsX5_growUntil wsX0_balanceAt := goodIn_r _ [8, 9, 10, 11, 12, 7, 13, 14, 45, 46, 47, 48, 49] (by decide +kernel) (by decide +kernel)
set_option maxRecDepth 20000 in
theorem gX5_growUntil_X0_balanceAt : GoodIn wsX5_growUntil (wsV RX5 87 RX0 yX0_balanceAt wsX0_balanceAt) := goodIn_app (goodIn_of _ (by decide +kernel)) ggX5_growUntil_X0_balanceAt
set_option maxRecDepth 20000 in
theorem ggX5_growUntil_X5_growthPerDay : GoodIn wsX5_growUntil wsX5_growthPerDay := goodIn_r _ [19, 20, 21, 22, 23, 24, 25, 26, 32, 33, 34, 35, 36, 37, 38, 39, 40, 41, 42, 43, 44] (by decide +kernel) (by decide +kernel)
set_option maxRecDepth 20000 in
theorem gX5_growUntil_X5_growthPerDay : GoodIn wsX5_growUntil (wsV RX5 177 RX5 yX5_growthPerDay wsX5_growthPerDay) := goodIn_app (goodIn_of _ (by decide +kernel)) ggX5_growUntil_X5_growthPerDay
set_option maxRecDepth 20000 in
theorem ggX5_growUntil_X0_addCount : GoodIn wsX5_growUntil wsX0_addCount := goodIn_r _ [30, 31, 10, 11, 12, 7, 13, 14, 45, 46, 47, 48, 49] (by decide +kernel) (by decide +kernel)
set_option maxRecDepth 20000 in
theorem gX5_growUntil_X0_addCount : GoodIn wsX5_growUntil (wsV RX5 187 RX0 yX0_addCount wsX0_addCount) := goodIn_app (goodIn_of _ (by decide +kernel)) ggX5_growUntil_X0_addCount
set_option maxRecDepth 20000 in
theorem ggX5_creditAll_X0_balanceAt : GoodIn wsX5_creditAll wsX0_balanceAt := goodIn_r _ [9, 10, 11, 12, 13, 8, 14, 15, 95, 96, 97, 98, 99] (by decide +kernel) (by decide +kernel)
set_option maxRecDepth 20000 in
theorem gX5_creditAll_X0_balanceAt : GoodIn wsX5_creditAll (wsV RX5 87 RX0 yX0_balanceAt wsX0_balanceAt) := goodIn_app (goodIn_of _ (by decide +kernel)) ggX5_creditAll_X0_balanceAt
set_option maxRecDepth 20000 in
theorem ggX5_creditAll_X0_countAt : GoodIn wsX5_creditAll wsX0_countAt := goodIn_r _ [19, 20, 11, 12, 13, 8, 14, 15, 95, 96, 97, 98, 99] (by decide +kernel) (by decide +kernel)
set_option maxRecDepth 20000 in
theorem gX5_creditAll_X0_countAt : GoodIn wsX5_creditAll (wsV RX5 163 RX0 yX0_countAt wsX0_countAt) := goodIn_app (goodIn_of _ (by decide +kernel)) ggX5_creditAll_X0_countAt
set_option maxRecDepth 20000 in
theorem ggX5_creditAll_X5_interestToCredit : GoodIn wsX5_creditAll wsX5_interestToCredit := goodIn_r _ [25, 26, 27, 28, 29, 30, 31, 32, 82, 83, 84, 85, 86, 87, 88, 89, 90, 91, 92, 93, 94] (by decide +kernel) (by decide +kernel)
set_option maxRecDepth 20000 in
theorem gX5_creditAll_X5_interestToCredit : GoodIn wsX5_creditAll (wsV RX5 180 RX5 yX5_interestToCredit wsX5_interestToCredit) := goodIn_app (goodIn_of _ (by decide +kernel)) ggX5_creditAll_X5_interestToCredit
set_option maxRecDepth 20000 in
theorem ggX5_creditAll_X0_add : GoodIn wsX5_creditAll wsX0_add := goodIn_r _ [36, 10, 11, 12, 13, 8, 14, 15, 95, 96, 97, 98, 99] (by decide +kernel) (by decide +kernel)
set_option maxRecDepth 20000 in
theorem gX5_creditAll_X0_add : GoodIn wsX5_creditAll (wsV RX5 101 RX0 yX0_add wsX0_add) := goodIn_app (goodIn_of _ (by decide +kernel)) ggX5_creditAll_X0_add
set_option maxRecDepth 20000 in
theorem ggX5_creditAll_X0_addCount : GoodIn wsX5_creditAll wsX0_addCount := goodIn_r _ [40, 20, 11, 12, 13, 8, 14, 15, 95, 96, 97, 98, 99] (by decide +kernel) (by decide +kernel)
set_option maxRecDepth 20000 in
theorem gX5_creditAll_X0_addCount : GoodIn wsX5_creditAll (wsV RX5 187 RX0 yX0_addCount wsX0_addCount) := goodIn_app (goodIn_of _ (by decide +kernel)) ggX5_creditAll_X0_addCount
set_option maxRecDepth 20000 in
theorem ggX5_creditAll_X0_numberAt : GoodIn wsX5_creditAll wsX0_numberAt := goodIn_r _ [44, 45, 11, 12, 13, 8, 14, 15, 95, 96, 97, 98, 99] (by decide +kernel) (by decide +kernel)
set_option maxRecDepth 20000 in
theorem gX5_creditAll_X0_numberAt : GoodIn wsX5_creditAll (wsV RX5 157 RX0 yX0_numberAt wsX0_numberAt) := goodIn_app (goodIn_of _ (by decide +kernel)) ggX5_creditAll_X0_numberAt
set_option maxRecDepth 20000 in
theorem ggX5_creditAll_X5_enter : GoodIn wsX5_creditAll wsX5_enter := goodIn_r _ [49, 50, 51, 1, 52, 53, 54, 55, 56, 57, 58, 59, 60, 61, 62, 63, 64, 65, 66, 67, 68, 69, 70, 71, 72, 73, 74, 75, 8, 76, 15, 45, 77, 78, 79, 80, 81, 11, 12, 13, 14, 82, 83, 84, 85, 86, 87, 88, 89, 90, 91, 92, 93, 94, 100, 101, 102, 95, 96, 97, 98, 99] (by decide +kernel) (by decide +kernel)
set_option maxRecDepth 20000 in
theorem gX5_creditAll_X5_enter : GoodIn wsX5_creditAll (wsV RX5 104 RX5 yX5_enter wsX5_enter) := goodIn_app (goodIn_of _ (by decide +kernel)) ggX5_creditAll_X5_enter
set_option maxRecDepth 20000 in
theorem ggX5_endHoldsThatAreOver_X4_get : GoodIn wsX5_endHoldsThatAreOver wsX4_get := goodIn_r _ [8, 9, 10, 33, 34, 35] (by decide +kernel) (by decide +kernel)
set_option maxRecDepth 20000 in
theorem gX5_endHoldsThatAreOver_X4_get : GoodIn wsX5_endHoldsThatAreOver (wsV RX5 117 RX4 yX4_get wsX4_get) := goodIn_app (goodIn_of _ (by decide +kernel)) ggX5_endHoldsThatAreOver_X4_get
set_option maxRecDepth 20000 in
theorem ggX5_endHoldsThatAreOver_X4_remove : GoodIn wsX5_endHoldsThatAreOver wsX4_remove := goodIn_r _ [14, 9, 15, 5, 6, 7, 8, 10, 16, 17, 18, 19, 33, 34, 35] (by decide +kernel) (by decide +kernel)
set_option maxRecDepth 20000 in
theorem gX5_endHoldsThatAreOver_X4_remove : GoodIn wsX5_endHoldsThatAreOver (wsV RX5 121 RX4 yX4_remove wsX4_remove) := goodIn_app (goodIn_of _ (by decide +kernel)) ggX5_endHoldsThatAreOver_X4_remove
set_option maxRecDepth 20000 in
theorem ggX5_enter_X6_append : GoodIn wsX5_enter wsX6_append := goodIn_r _ [8, 9, 10, 11, 12, 13, 14, 15, 16, 17, 18, 19, 7, 20, 21, 22, 23, 24, 54, 55, 56] (by decide +kernel) (by decide +kernel)
set_option maxRecDepth 20000 in
theorem gX5_enter_X6_append : GoodIn wsX5_enter (wsV RX5 193 RX6 yX6_append wsX6_append) := goodIn_app (goodIn_of _ (by decide +kernel)) ggX5_enter_X6_append
set_option maxRecDepth 20000 in
theorem ggX5_enter_X0_find : GoodIn wsX5_enter wsX0_find := goodIn_r _ [29, 30, 31, 57, 58, 59, 60, 61] (by decide +kernel) (by decide +kernel)
set_option maxRecDepth 20000 in
theorem gX5_enter_X0_find : GoodIn wsX5_enter (wsV RX5 76 RX0 yX0_find wsX0_find) := goodIn_app (goodIn_of _ (by decide +kernel)) ggX5_enter_X0_find
set_option maxRecDepth 20000 in
theorem ggX5_enter_X0_move : GoodIn wsX5_enter wsX0_move := goodIn_r _ [35, 36, 37, 38, 39, 28, 40, 30, 57, 58, 59, 60, 61] (by decide +kernel) (by decide +kernel)
set_option maxRecDepth 20000 in
theorem gX5_enter_X0_move : GoodIn wsX5_enter (wsV RX5 196 RX0 yX0_move wsX0_move) := goodIn_app (goodIn_of _ (by decide +kernel)) ggX5_enter_X0_move
set_option maxRecDepth 20000 in
theorem ggX6_get_X6_cellOf : GoodIn wsX6_get wsX6_cellOf := goodIn_r _ [5] (by decide +kernel) (by decide +kernel)
set_option maxRecDepth 20000 in
theorem gX6_get_X6_cellOf : GoodIn wsX6_get (va_wsS RX6 28 yX6_cellOf wsX6_cellOf) := goodIn_app (goodIn_of _ (by decide +kernel)) ggX6_get_X6_cellOf
set_option maxRecDepth 20000 in
theorem ggX6_get_X6_keeps : GoodIn wsX6_get wsX6_keeps := goodIn_r _ [9, 10, 11, 12, 13] (by decide +kernel) (by decide +kernel)
set_option maxRecDepth 20000 in
theorem gX6_get_X6_keeps : GoodIn wsX6_get (wsV RX6 32 RX6 yX6_keeps wsX6_keeps) := goodIn_app (goodIn_of _ (by decide +kernel)) ggX6_get_X6_keeps
set_option maxRecDepth 20000 in
theorem ggX6_markReversed_X6_keeps : GoodIn wsX6_markReversed wsX6_keeps := goodIn_r _ [5, 6, 15, 16, 17] (by decide +kernel) (by decide +kernel)
set_option maxRecDepth 20000 in
theorem gX6_markReversed_X6_keeps : GoodIn wsX6_markReversed (wsV RX6 32 RX6 yX6_keeps wsX6_keeps) := goodIn_app (goodIn_of _ (by decide +kernel)) ggX6_markReversed_X6_keeps
set_option maxRecDepth 20000 in
theorem ggX6_markReversed_X6_set : GoodIn wsX6_markReversed wsX6_set := goodIn_r _ [10, 11, 12, 13, 4, 14, 15, 16, 17] (by decide +kernel) (by decide +kernel)
set_option maxRecDepth 20000 in
theorem gX6_markReversed_X6_set : GoodIn wsX6_markReversed (wsV RX6 36 RX6 yX6_set wsX6_set) := goodIn_app (goodIn_of _ (by decide +kernel)) ggX6_markReversed_X6_set
set_option maxRecDepth 20000 in
theorem ggX6_append_X6_set : GoodIn wsX6_append wsX6_set := goodIn_r _ [13, 14, 15, 16, 12, 17, 18, 19, 20] (by decide +kernel) (by decide +kernel)
set_option maxRecDepth 20000 in
theorem gX6_append_X6_set : GoodIn wsX6_append (wsV RX6 36 RX6 yX6_set wsX6_set) := goodIn_app (goodIn_of _ (by decide +kernel)) ggX6_append_X6_set
set_option maxRecDepth 20000 in
theorem ggX6_set_X6_cellOf : GoodIn wsX6_set wsX6_cellOf := goodIn_r _ [5] (by decide +kernel) (by decide +kernel)
set_option maxRecDepth 20000 in
theorem gX6_set_X6_cellOf : GoodIn wsX6_set (va_wsS RX6 28 yX6_cellOf wsX6_cellOf) := goodIn_app (goodIn_of _ (by decide +kernel)) ggX6_set_X6_cellOf
set_option maxRecDepth 20000 in
theorem ggX7_init_X5_init : GoodIn wsX7_init wsX5_init := goodIn_r _ [21, 22, 2, 3, 23, 24, 25, 26, 27, 28, 29, 30, 31, 32, 33, 34, 35, 36, 37, 38, 39, 40, 41, 42, 43, 44, 45, 46, 47, 48, 49, 50, 51, 52, 53, 54, 55, 56, 57, 58, 59, 60, 61, 62, 63, 64, 65, 66, 67, 123, 124, 125, 126, 127, 93, 94, 95, 96, 97, 98, 99, 100, 101, 102, 103, 104, 105, 128, 129, 130, 131, 132, 133] (by decide +kernel) (by decide +kernel)
set_option maxRecDepth 20000 in
theorem gX7_init_X5_init_n9 : GoodIn wsX7_init (wsX5_init) := ggX7_init_X5_init
set_option maxRecDepth 20000 in
theorem ggX7_init_X1_init : GoodIn wsX7_init wsX1_init := goodIn_r _ [70, 71, 2, 3, 72, 73, 74, 75, 5, 6, 20, 21, 22, 23, 24, 25, 26, 27, 28, 29, 30, 31, 32, 33, 34, 35, 36, 37, 38, 39, 40, 41, 42, 43, 44, 45, 46, 47, 48, 49, 50, 51, 52, 53, 54, 55, 56, 57, 58, 59, 60, 61, 62, 63, 64, 65, 66, 67, 110, 111, 112, 93, 94, 95, 96, 97, 98, 99, 100, 101, 102, 103, 104, 105, 123, 124, 125, 126, 127, 128, 129, 130, 131, 132, 133] (by decide +kernel) (by decide +kernel)
set_option maxRecDepth 20000 in
theorem gX7_init_X1_init : GoodIn wsX7_init (wsX1_init) := ggX7_init_X1_init
set_option maxRecDepth 20000 in
theorem ggX7_init_X2_init : GoodIn wsX7_init wsX2_init := goodIn_r _ [77, 78, 2, 3, 79, 80, 81, 82, 83, 84, 85, 86, 113, 114, 115, 116, 117, 118, 119] (by decide +kernel) (by decide +kernel)
set_option maxRecDepth 20000 in
theorem gX7_init_X2_init_n25 : GoodIn wsX7_init (wsX2_init) := ggX7_init_X2_init
set_option maxRecDepth 20000 in
theorem ggX7_init_X3_init : GoodIn wsX7_init wsX3_init := goodIn_r _ [88, 89, 2, 3, 90, 50, 91, 92, 120, 121, 122] (by decide +kernel) (by decide +kernel)
set_option maxRecDepth 20000 in
theorem gX7_init_X3_init_n32 : GoodIn wsX7_init (wsX3_init) := ggX7_init_X3_init
set_option maxRecDepth 20000 in
theorem ggX7_setRates_X1_prepare : GoodIn wsX7_setRates wsX1_prepare := goodIn_r _ [7, 8, 9, 10, 11, 6, 12, 13, 14, 15, 16, 17, 18, 19, 20, 21, 22, 23, 24, 25, 26, 27, 28, 29, 30, 31, 32, 33, 34, 35, 36, 37, 38, 39, 40, 41, 42, 43, 44, 45, 46, 47, 48, 49, 50, 51, 52, 53, 54, 55, 56, 57, 58, 59, 60, 61, 62, 63, 87, 88, 89, 90, 91, 92, 93, 94, 95, 96, 97, 98, 99, 100, 101, 102, 103, 104, 105, 106, 107, 108, 109, 110, 111, 112, 113] (by decide +kernel) (by decide +kernel)
set_option maxRecDepth 20000 in
theorem gX7_setRates_X1_prepare : GoodIn wsX7_setRates (wsV RX7 37 RX1 yX1_prepare wsX1_prepare) := goodIn_app (goodIn_of _ (by decide +kernel)) ggX7_setRates_X1_prepare
set_option maxRecDepth 20000 in
theorem ggX7_setRates_X5_changeRates : GoodIn wsX7_setRates wsX5_changeRates := goodIn_r _ [67, 68, 24, 25, 26, 90, 91, 92, 93, 94, 95, 96, 97, 98, 99, 100, 101, 102] (by decide +kernel) (by decide +kernel)
