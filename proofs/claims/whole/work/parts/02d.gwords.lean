set_option maxRecDepth 20000 in
theorem ggX8_release_X8_record : GoodIn wsX8_release wsX8_record := goodIn_r _ [14, 15, 16, 17, 6, 18, 47, 48, 49, 50, 51, 52, 53, 54, 55, 56, 57, 58, 59, 60, 61, 62] (by decide +kernel) (by decide +kernel)
set_option maxRecDepth 20000 in
theorem gX8_release_X8_record : GoodIn wsX8_release (wsV RX8 72 RX8 yX8_record wsX8_record) := goodIn_app (goodIn_of _ (by decide +kernel)) ggX8_release_X8_record
set_option maxRecDepth 20000 in
theorem ggX8_release_X8_holdPart : GoodIn wsX8_release wsX8_holdPart := goodIn_r _ [10, 6, 47, 48, 49, 50, 51, 52, 53, 54, 55, 56, 57, 58, 59, 60, 61, 62] (by decide +kernel) (by decide +kernel)
set_option maxRecDepth 20000 in
theorem gX8_release_X8_holdPart : GoodIn wsX8_release (wsV RX8 38 RX8 yX8_holdPart wsX8_holdPart) := goodIn_app (goodIn_of _ (by decide +kernel)) ggX8_release_X8_holdPart
set_option maxRecDepth 20000 in
theorem ggX8_release_X8_endsHold : GoodIn wsX8_release wsX8_endsHold := goodIn_r _ [22, 6, 23, 24, 25, 4, 26, 47, 48, 49, 50, 51, 52, 53, 54, 55, 56, 57, 58, 59, 60, 61, 62] (by decide +kernel) (by decide +kernel)
set_option maxRecDepth 20000 in
theorem gX8_release_X8_endsHold : GoodIn wsX8_release (wsV RX8 125 RX8 yX8_endsHold wsX8_endsHold) := goodIn_app (goodIn_of _ (by decide +kernel)) ggX8_release_X8_endsHold
set_option maxRecDepth 20000 in
theorem ggX8_release_X8_find : GoodIn wsX8_release wsX8_find := goodIn_r _ [30, 6, 31, 32, 33, 4, 34, 47, 48, 49, 50, 51, 52, 53, 54, 55, 56, 57, 58, 59, 60, 61, 62] (by decide +kernel) (by decide +kernel)
set_option maxRecDepth 20000 in
theorem gX8_release_X8_find : GoodIn wsX8_release (wsV RX8 75 RX8 yX8_find wsX8_find) := goodIn_app (goodIn_of _ (by decide +kernel)) ggX8_release_X8_find
set_option maxRecDepth 20000 in
theorem ggX8_release_X8_free : GoodIn wsX8_release wsX8_free := goodIn_r _ [38, 31, 32, 33, 4, 34, 6, 39, 40, 41, 42, 43, 44, 45, 46, 7, 8, 9, 10, 47, 48, 49, 50, 51, 52, 53, 54, 55, 56, 57, 58, 59, 60, 61, 62] (by decide +kernel) (by decide +kernel)
set_option maxRecDepth 20000 in
theorem gX8_release_X8_free : GoodIn wsX8_release (wsV RX8 103 RX8 yX8_free wsX8_free) := goodIn_app (goodIn_of _ (by decide +kernel)) ggX8_release_X8_free
set_option maxRecDepth 20000 in
theorem ggX8_whyNotBilled_X8_find : GoodIn wsX8_whyNotBilled wsX8_find := goodIn_r _ [6, 1, 7, 8, 9, 5, 10, 18, 19, 20, 21, 22, 23, 24, 25, 26, 27, 28, 29, 30, 31, 32, 33] (by decide +kernel) (by decide +kernel)
set_option maxRecDepth 20000 in
theorem gX8_whyNotBilled_X8_find : GoodIn wsX8_whyNotBilled (wsV RX8 75 RX8 yX8_find wsX8_find) := goodIn_app (goodIn_of _ (by decide +kernel)) ggX8_whyNotBilled_X8_find
set_option maxRecDepth 20000 in
theorem ggX8_whyNotBilled_X8_isAmount : GoodIn wsX8_whyNotBilled wsX8_isAmount := goodIn_r _ [13, 14, 15, 16, 5, 17] (by decide +kernel) (by decide +kernel)
set_option maxRecDepth 20000 in
theorem gX8_whyNotBilled_X8_isAmount : GoodIn wsX8_whyNotBilled (va_wsS RX8 82 yX8_isAmount wsX8_isAmount) := goodIn_app (goodIn_of _ (by decide +kernel)) ggX8_whyNotBilled_X8_isAmount
set_option maxRecDepth 20000 in
theorem ggX8_bill_X8_whyNotBilled : GoodIn wsX8_bill wsX8_whyNotBilled := goodIn_r _ [5, 6, 7, 8, 9, 4, 10, 11, 12, 13, 14, 15, 16, 17, 18, 19, 20, 21, 34, 35, 36, 37, 38, 39, 40, 41, 42, 43, 44, 45, 46, 47, 48, 49] (by decide +kernel) (by decide +kernel)
set_option maxRecDepth 20000 in
theorem gX8_bill_X8_whyNotBilled : GoodIn wsX8_bill (wsV RX8 129 RX8 yX8_whyNotBilled wsX8_whyNotBilled) := goodIn_app (goodIn_of _ (by decide +kernel)) ggX8_bill_X8_whyNotBilled
set_option maxRecDepth 20000 in
theorem ggX8_bill_X8_record : GoodIn wsX8_bill wsX8_record := goodIn_r _ [25, 26, 27, 28, 6, 29, 34, 35, 36, 37, 38, 39, 40, 41, 42, 43, 44, 45, 46, 47, 48, 49] (by decide +kernel) (by decide +kernel)
set_option maxRecDepth 20000 in
theorem gX8_bill_X8_record : GoodIn wsX8_bill (wsV RX8 72 RX8 yX8_record wsX8_record) := goodIn_app (goodIn_of _ (by decide +kernel)) ggX8_bill_X8_record
set_option maxRecDepth 20000 in
theorem ggX8_bill_X8_bills : GoodIn wsX8_bill wsX8_bills := goodIn_r _ [33, 6, 34, 35, 36, 37, 38, 39, 40, 41, 42, 43, 44, 45, 46, 47, 48, 49] (by decide +kernel) (by decide +kernel)
set_option maxRecDepth 20000 in
theorem gX8_bill_X8_bills : GoodIn wsX8_bill (wsV RX8 132 RX8 yX8_bills wsX8_bills) := goodIn_app (goodIn_of _ (by decide +kernel)) ggX8_bill_X8_bills
set_option maxRecDepth 20000 in
theorem ggX8_whyNotSettled_X8_findBill : GoodIn wsX8_whyNotSettled wsX8_findBill := goodIn_r _ [5, 6, 7, 8, 9, 4, 10, 35, 36, 37, 38, 39, 40, 41, 42, 43, 44, 45, 46, 47, 48, 49, 50] (by decide +kernel) (by decide +kernel)
set_option maxRecDepth 20000 in
theorem gX8_whyNotSettled_X8_findBill : GoodIn wsX8_whyNotSettled (wsV RX8 135 RX8 yX8_findBill wsX8_findBill) := goodIn_app (goodIn_of _ (by decide +kernel)) ggX8_whyNotSettled_X8_findBill
set_option maxRecDepth 20000 in
theorem ggX8_whyNotSettled_X8_billPart : GoodIn wsX8_whyNotSettled wsX8_billPart := goodIn_r _ [10, 6, 35, 36, 37, 38, 39, 40, 41, 42, 43, 44, 45, 46, 47, 48, 49, 50] (by decide +kernel) (by decide +kernel)
set_option maxRecDepth 20000 in
theorem gX8_whyNotSettled_X8_billPart : GoodIn wsX8_whyNotSettled (wsV RX8 48 RX8 yX8_billPart wsX8_billPart) := goodIn_app (goodIn_of _ (by decide +kernel)) ggX8_whyNotSettled_X8_billPart
set_option maxRecDepth 20000 in
theorem ggX8_whyNotSettled_X8_find : GoodIn wsX8_whyNotSettled wsX8_find := goodIn_r _ [14, 6, 15, 16, 17, 4, 18, 35, 36, 37, 38, 39, 40, 41, 42, 43, 44, 45, 46, 47, 48, 49, 50] (by decide +kernel) (by decide +kernel)
set_option maxRecDepth 20000 in
theorem gX8_whyNotSettled_X8_find : GoodIn wsX8_whyNotSettled (wsV RX8 75 RX8 yX8_find wsX8_find) := goodIn_app (goodIn_of _ (by decide +kernel)) ggX8_whyNotSettled_X8_find
set_option maxRecDepth 20000 in
theorem ggX8_whyNotSettled_X8_free : GoodIn wsX8_whyNotSettled wsX8_free := goodIn_r _ [22, 15, 16, 17, 4, 18, 6, 23, 24, 25, 26, 27, 28, 29, 30, 31, 32, 33, 34, 35, 36, 37, 38, 39, 40, 41, 42, 43, 44, 45, 46, 47, 48, 49, 50] (by decide +kernel) (by decide +kernel)
set_option maxRecDepth 20000 in
theorem gX8_whyNotSettled_X8_free : GoodIn wsX8_whyNotSettled (wsV RX8 103 RX8 yX8_free wsX8_free) := goodIn_app (goodIn_of _ (by decide +kernel)) ggX8_whyNotSettled_X8_free
set_option maxRecDepth 20000 in
theorem ggX8_settles_X8_findBill : GoodIn wsX8_settles wsX8_findBill := goodIn_r _ [7, 2, 8, 9, 10, 6, 11, 58, 59, 60, 61, 62, 63, 64, 65, 66, 67, 68, 69, 70, 71, 72, 73] (by decide +kernel) (by decide +kernel)
set_option maxRecDepth 20000 in
theorem gX8_settles_X8_findBill : GoodIn wsX8_settles (wsV RX8 135 RX8 yX8_findBill wsX8_findBill) := goodIn_app (goodIn_of _ (by decide +kernel)) ggX8_settles_X8_findBill
set_option maxRecDepth 20000 in
theorem ggX8_settles_X8_billPart : GoodIn wsX8_settles wsX8_billPart := goodIn_r _ [11, 2, 58, 59, 60, 61, 62, 63, 64, 65, 66, 67, 68, 69, 70, 71, 72, 73] (by decide +kernel) (by decide +kernel)
set_option maxRecDepth 20000 in
theorem gX8_settles_X8_billPart : GoodIn wsX8_settles (wsV RX8 48 RX8 yX8_billPart wsX8_billPart) := goodIn_app (goodIn_of _ (by decide +kernel)) ggX8_settles_X8_billPart
set_option maxRecDepth 20000 in
theorem ggX8_settles_X8_find : GoodIn wsX8_settles wsX8_find := goodIn_r _ [15, 2, 16, 17, 18, 6, 19, 58, 59, 60, 61, 62, 63, 64, 65, 66, 67, 68, 69, 70, 71, 72, 73] (by decide +kernel) (by decide +kernel)
set_option maxRecDepth 20000 in
theorem gX8_settles_X8_find : GoodIn wsX8_settles (wsV RX8 75 RX8 yX8_find wsX8_find) := goodIn_app (goodIn_of _ (by decide +kernel)) ggX8_settles_X8_find
set_option maxRecDepth 20000 in
theorem ggX8_settles_X8_free : GoodIn wsX8_settles wsX8_free := goodIn_r _ [23, 16, 17, 18, 6, 19, 2, 24, 25, 26, 27, 28, 29, 30, 31, 32, 33, 34, 35, 58, 59, 60, 61, 62, 63, 64, 65, 66, 67, 68, 69, 70, 71, 72, 73] (by decide +kernel) (by decide +kernel)
set_option maxRecDepth 20000 in
theorem gX8_settles_X8_free : GoodIn wsX8_settles (wsV RX8 103 RX8 yX8_free wsX8_free) := goodIn_app (goodIn_of _ (by decide +kernel)) ggX8_settles_X8_free
set_option maxRecDepth 20000 in
theorem ggX8_settles_X8_adds : GoodIn wsX8_settles wsX8_adds := goodIn_r _ [39, 16, 17, 18, 6, 19, 2, 40, 41, 42, 43, 58, 59, 60, 61, 62, 63, 64, 65, 66, 67, 68, 69, 70, 71, 72, 73] (by decide +kernel) (by decide +kernel)
set_option maxRecDepth 20000 in
theorem gX8_settles_X8_adds : GoodIn wsX8_settles (wsV RX8 90 RX8 yX8_adds wsX8_adds) := goodIn_app (goodIn_of _ (by decide +kernel)) ggX8_settles_X8_adds
set_option maxRecDepth 20000 in
theorem ggX8_settles_X8_part : GoodIn wsX8_settles wsX8_part := goodIn_r _ [19, 2, 58, 59, 60, 61, 62, 63, 64, 65, 66, 67, 68, 69, 70, 71, 72, 73] (by decide +kernel) (by decide +kernel)
set_option maxRecDepth 20000 in
theorem gX8_settles_X8_part : GoodIn wsX8_settles (wsV RX8 34 RX8 yX8_part wsX8_part) := goodIn_app (goodIn_of _ (by decide +kernel)) ggX8_settles_X8_part
set_option maxRecDepth 20000 in
theorem ggX8_settles_X8_enters : GoodIn wsX8_settles wsX8_enters := goodIn_r _ [47, 2, 48, 49, 50, 51, 52, 53, 16, 17, 18, 6, 19, 40, 41, 42, 43, 58, 59, 60, 61, 62, 63, 64, 65, 66, 67, 68, 69, 70, 71, 72, 73] (by decide +kernel) (by decide +kernel)
set_option maxRecDepth 20000 in
theorem gX8_settles_X8_enters : GoodIn wsX8_settles (wsV RX8 93 RX8 yX8_enters wsX8_enters) := goodIn_app (goodIn_of _ (by decide +kernel)) ggX8_settles_X8_enters
set_option maxRecDepth 20000 in
theorem ggX8_settles_X8_takesOut : GoodIn wsX8_settles wsX8_takesOut := goodIn_r _ [57, 2, 58, 59, 60, 61, 62, 63, 64, 65, 66, 67, 68, 69, 70, 71, 72, 73] (by decide +kernel) (by decide +kernel)
set_option maxRecDepth 20000 in
theorem gX8_settles_X8_takesOut : GoodIn wsX8_settles (wsV RX8 119 RX8 yX8_takesOut wsX8_takesOut) := goodIn_app (goodIn_of _ (by decide +kernel)) ggX8_settles_X8_takesOut
set_option maxRecDepth 20000 in
theorem ggX8_settle_X8_whyNotSettled : GoodIn wsX8_settle wsX8_whyNotSettled := goodIn_r _ [5, 6, 7, 8, 4, 9, 10, 11, 12, 13, 14, 15, 16, 17, 18, 19, 20, 21, 22, 23, 24, 25, 26, 27, 28, 29, 30, 31, 32, 33, 34, 35, 36, 37, 38, 73, 74, 75, 76, 77, 78, 79, 80, 81, 82, 83, 84, 85, 86, 87, 88] (by decide +kernel) (by decide +kernel)
set_option maxRecDepth 20000 in
theorem gX8_settle_X8_whyNotSettled : GoodIn wsX8_settle (wsV RX8 138 RX8 yX8_whyNotSettled wsX8_whyNotSettled) := goodIn_app (goodIn_of _ (by decide +kernel)) ggX8_settle_X8_whyNotSettled
set_option maxRecDepth 20000 in
theorem ggX8_settle_X8_record : GoodIn wsX8_settle wsX8_record := goodIn_r _ [42, 43, 44, 45, 10, 46, 73, 74, 75, 76, 77, 78, 79, 80, 81, 82, 83, 84, 85, 86, 87, 88] (by decide +kernel) (by decide +kernel)
set_option maxRecDepth 20000 in
theorem gX8_settle_X8_record : GoodIn wsX8_settle (wsV RX8 72 RX8 yX8_record wsX8_record) := goodIn_app (goodIn_of _ (by decide +kernel)) ggX8_settle_X8_record
set_option maxRecDepth 20000 in
theorem ggX8_settle_X8_settles : GoodIn wsX8_settle wsX8_settles := goodIn_r _ [50, 46, 10, 6, 7, 8, 4, 9, 11, 12, 13, 14, 15, 16, 17, 18, 19, 20, 21, 22, 23, 24, 25, 26, 27, 28, 29, 30, 31, 32, 33, 34, 35, 36, 37, 38, 51, 52, 53, 54, 55, 56, 57, 58, 59, 60, 61, 62, 63, 64, 65, 66, 67, 68, 69, 70, 71, 72, 73, 74, 75, 76, 77, 78, 79, 80, 81, 82, 83, 84, 85, 86, 87, 88] (by decide +kernel) (by decide +kernel)
set_option maxRecDepth 20000 in
theorem gX8_settle_X8_settles : GoodIn wsX8_settle (wsV RX8 141 RX8 yX8_settles wsX8_settles) := goodIn_app (goodIn_of _ (by decide +kernel)) ggX8_settle_X8_settles
set_option maxRecDepth 20000 in
theorem ggX8_thinks_X8_part : GoodIn wsX8_thinks wsX8_part := goodIn_r _ [8, 9, 10, 11, 12, 13, 14, 15, 16, 17, 18, 19, 20, 21, 22, 23, 24, 25] (by decide +kernel) (by decide +kernel)
set_option maxRecDepth 20000 in
theorem gX8_thinks_X8_part : GoodIn wsX8_thinks (wsV RX8 34 RX8 yX8_part wsX8_part) := goodIn_app (goodIn_of _ (by decide +kernel)) ggX8_thinks_X8_part
set_option maxRecDepth 20000 in
theorem ggX8_passesDay_X8_thinks : GoodIn wsX8_passesDay wsX8_thinks := goodIn_r _ [9, 2, 3, 4, 10, 11, 12, 8, 13, 1, 46, 47, 48, 49, 50, 51, 52, 53, 54, 55, 56, 57, 58, 59, 60, 61] (by decide +kernel) (by decide +kernel)
set_option maxRecDepth 20000 in
theorem gX8_passesDay_X8_thinks : GoodIn wsX8_passesDay (wsV RX8 153 RX8 yX8_thinks wsX8_thinks) := goodIn_app (goodIn_of _ (by decide +kernel)) ggX8_passesDay_X8_thinks
set_option maxRecDepth 20000 in
theorem ggX8_passesDay_X8_dayEnds : GoodIn wsX8_passesDay wsX8_dayEnds := goodIn_r _ [17, 2, 1, 4, 18, 19, 46, 47, 48, 49, 50, 51, 52, 53, 54, 55, 56, 57, 58, 59, 60, 61] (by decide +kernel) (by decide +kernel)
set_option maxRecDepth 20000 in
theorem gX8_passesDay_X8_dayEnds : GoodIn wsX8_passesDay (wsV RX8 156 RX8 yX8_dayEnds wsX8_dayEnds) := goodIn_app (goodIn_of _ (by decide +kernel)) ggX8_passesDay_X8_dayEnds
set_option maxRecDepth 20000 in
theorem ggX8_passesDay_X8_setPart : GoodIn wsX8_passesDay wsX8_setPart := goodIn_r _ [23, 1, 46, 47, 48, 49, 50, 51, 52, 53, 54, 55, 56, 57, 58, 59, 60, 61] (by decide +kernel) (by decide +kernel)
set_option maxRecDepth 20000 in
theorem gX8_passesDay_X8_setPart : GoodIn wsX8_passesDay (wsV RX8 63 RX8 yX8_setPart wsX8_setPart) := goodIn_app (goodIn_of _ (by decide +kernel)) ggX8_passesDay_X8_setPart
set_option maxRecDepth 20000 in
theorem ggX8_passesDay_X8_part : GoodIn wsX8_passesDay wsX8_part := goodIn_r _ [13, 1, 46, 47, 48, 49, 50, 51, 52, 53, 54, 55, 56, 57, 58, 59, 60, 61] (by decide +kernel) (by decide +kernel)
set_option maxRecDepth 20000 in
theorem gX8_passesDay_X8_part : GoodIn wsX8_passesDay (wsV RX8 34 RX8 yX8_part wsX8_part) := goodIn_app (goodIn_of _ (by decide +kernel)) ggX8_passesDay_X8_part
set_option maxRecDepth 20000 in
theorem ggX8_passesDay_X8_enters : GoodIn wsX8_passesDay wsX8_enters := goodIn_r _ [27, 1, 28, 29, 30, 31, 32, 33, 10, 11, 12, 8, 13, 20, 21, 22, 23, 46, 47, 48, 49, 50, 51, 52, 53, 54, 55, 56, 57, 58, 59, 60, 61] (by decide +kernel) (by decide +kernel)
set_option maxRecDepth 20000 in
theorem gX8_passesDay_X8_enters : GoodIn wsX8_passesDay (wsV RX8 93 RX8 yX8_enters wsX8_enters) := goodIn_app (goodIn_of _ (by decide +kernel)) ggX8_passesDay_X8_enters
set_option maxRecDepth 20000 in
theorem ggX8_passesDay_X8_holdPart : GoodIn wsX8_passesDay wsX8_holdPart := goodIn_r _ [37, 1, 46, 47, 48, 49, 50, 51, 52, 53, 54, 55, 56, 57, 58, 59, 60, 61] (by decide +kernel) (by decide +kernel)
set_option maxRecDepth 20000 in
theorem gX8_passesDay_X8_holdPart : GoodIn wsX8_passesDay (wsV RX8 38 RX8 yX8_holdPart wsX8_holdPart) := goodIn_app (goodIn_of _ (by decide +kernel)) ggX8_passesDay_X8_holdPart
set_option maxRecDepth 20000 in
theorem ggX8_passesDay_X8_endsHold : GoodIn wsX8_passesDay wsX8_endsHold := goodIn_r _ [41, 1, 42, 43, 44, 8, 45, 46, 47, 48, 49, 50, 51, 52, 53, 54, 55, 56, 57, 58, 59, 60, 61] (by decide +kernel) (by decide +kernel)
set_option maxRecDepth 20000 in
theorem gX8_passesDay_X8_endsHold : GoodIn wsX8_passesDay (wsV RX8 125 RX8 yX8_endsHold wsX8_endsHold) := goodIn_app (goodIn_of _ (by decide +kernel)) ggX8_passesDay_X8_endsHold
set_option maxRecDepth 20000 in
theorem ggX8_whyNotPassed_X8_within : GoodIn wsX8_whyNotPassed wsX8_within := goodIn_r _ [5] (by decide +kernel) (by decide +kernel)
set_option maxRecDepth 20000 in
theorem gX8_whyNotPassed_X8_within : GoodIn wsX8_whyNotPassed (va_wsS RX8 67 yX8_within wsX8_within) := goodIn_app (goodIn_of _ (by decide +kernel)) ggX8_whyNotPassed_X8_within
set_option maxRecDepth 20000 in
theorem ggX8_passes_X8_passesDay : GoodIn wsX8_passes wsX8_passesDay := goodIn_r _ [5, 6, 7, 8, 9, 10, 11, 12, 4, 13, 14, 15, 16, 17, 18, 19, 20, 21, 22, 23, 24, 25, 26, 27, 28, 29, 30, 31, 32, 33, 34, 35, 36, 37, 38, 39, 40, 41, 42, 43, 44, 45, 46, 47, 48, 49, 50, 51, 52, 53, 54, 55, 56, 57, 58, 59, 60, 61, 62, 63, 64, 65] (by decide +kernel) (by decide +kernel)
set_option maxRecDepth 20000 in
theorem gX8_passes_X8_passesDay : GoodIn wsX8_passes (wsV RX8 159 RX8 yX8_passesDay wsX8_passesDay) := goodIn_app (goodIn_of _ (by decide +kernel)) ggX8_passes_X8_passesDay
set_option maxRecDepth 20000 in
theorem ggX8_pass_X8_whyNotPassed : GoodIn wsX8_pass wsX8_whyNotPassed := goodIn_r _ [5, 6, 7, 8, 4, 9, 68, 69, 70, 71, 72, 73, 74, 75, 76, 77, 78, 79, 80, 81, 82, 83] (by decide +kernel) (by decide +kernel)
set_option maxRecDepth 20000 in
theorem gX8_pass_X8_whyNotPassed : GoodIn wsX8_pass (wsV RX8 163 RX8 yX8_whyNotPassed wsX8_whyNotPassed) := goodIn_app (goodIn_of _ (by decide +kernel)) ggX8_pass_X8_whyNotPassed
set_option maxRecDepth 20000 in
theorem ggX8_pass_X8_record : GoodIn wsX8_pass wsX8_record := goodIn_r _ [13, 14, 15, 16, 6, 17, 68, 69, 70, 71, 72, 73, 74, 75, 76, 77, 78, 79, 80, 81, 82, 83] (by decide +kernel) (by decide +kernel)
set_option maxRecDepth 20000 in
theorem gX8_pass_X8_record : GoodIn wsX8_pass (wsV RX8 72 RX8 yX8_record wsX8_record) := goodIn_app (goodIn_of _ (by decide +kernel)) ggX8_pass_X8_record
set_option maxRecDepth 20000 in
theorem ggX8_pass_X8_passes : GoodIn wsX8_pass wsX8_passes := goodIn_r _ [21, 22, 23, 24, 4, 25, 6, 26, 17, 27, 28, 29, 30, 31, 32, 33, 34, 35, 36, 37, 38, 39, 40, 41, 42, 43, 44, 45, 46, 47, 48, 49, 50, 51, 52, 53, 54, 55, 56, 57, 58, 59, 60, 61, 62, 63, 64, 65, 66, 67, 68, 69, 70, 71, 72, 73, 74, 75, 76, 77, 78, 79, 80, 81, 82, 83] (by decide +kernel) (by decide +kernel)
set_option maxRecDepth 20000 in
theorem gX8_pass_X8_passes : GoodIn wsX8_pass (wsV RX8 166 RX8 yX8_passes wsX8_passes) := goodIn_app (goodIn_of _ (by decide +kernel)) ggX8_pass_X8_passes
set_option maxRecDepth 20000 in
theorem ggX8_giver_X8_entryPart : GoodIn wsX8_giver wsX8_entryPart := goodIn_r _ [5, 6, 7, 8, 9, 10, 11, 12, 13, 14, 15, 16, 17, 18, 19, 20, 21, 22] (by decide +kernel) (by decide +kernel)
set_option maxRecDepth 20000 in
theorem gX8_giver_X8_entryPart : GoodIn wsX8_giver (wsV RX8 170 RX8 yX8_entryPart wsX8_entryPart) := goodIn_app (goodIn_of _ (by decide +kernel)) ggX8_giver_X8_entryPart
set_option maxRecDepth 20000 in
theorem ggX8_taker_X8_entryPart : GoodIn wsX8_taker wsX8_entryPart := goodIn_r _ [5, 6, 7, 8, 9, 10, 11, 12, 13, 14, 15, 16, 17, 18, 19, 20, 21, 22] (by decide +kernel) (by decide +kernel)
set_option maxRecDepth 20000 in
theorem gX8_taker_X8_entryPart : GoodIn wsX8_taker (wsV RX8 170 RX8 yX8_entryPart wsX8_entryPart) := goodIn_app (goodIn_of _ (by decide +kernel)) ggX8_taker_X8_entryPart
set_option maxRecDepth 20000 in
theorem ggX8_whyNotReversed_X8_isEntry : GoodIn wsX8_whyNotReversed wsX8_isEntry := goodIn_r _ [5, 6, 7, 8, 4, 9, 51, 52, 53, 54, 55, 56, 57, 58, 59, 60, 61, 62, 63, 64, 65, 66] (by decide +kernel) (by decide +kernel)
set_option maxRecDepth 20000 in
theorem gX8_whyNotReversed_X8_isEntry : GoodIn wsX8_whyNotReversed (wsV RX8 173 RX8 yX8_isEntry wsX8_isEntry) := goodIn_app (goodIn_of _ (by decide +kernel)) ggX8_whyNotReversed_X8_isEntry
set_option maxRecDepth 20000 in
theorem ggX8_whyNotReversed_X8_giver : GoodIn wsX8_whyNotReversed wsX8_giver := goodIn_r _ [13, 14, 15, 16, 4, 17, 6, 51, 52, 53, 54, 55, 56, 57, 58, 59, 60, 61, 62, 63, 64, 65, 66] (by decide +kernel) (by decide +kernel)
set_option maxRecDepth 20000 in
theorem gX8_whyNotReversed_X8_giver : GoodIn wsX8_whyNotReversed (wsV RX8 176 RX8 yX8_giver wsX8_giver) := goodIn_app (goodIn_of _ (by decide +kernel)) ggX8_whyNotReversed_X8_giver
set_option maxRecDepth 20000 in
theorem ggX8_whyNotReversed_X8_taker : GoodIn wsX8_whyNotReversed wsX8_taker := goodIn_r _ [21, 14, 15, 16, 4, 17, 6, 51, 52, 53, 54, 55, 56, 57, 58, 59, 60, 61, 62, 63, 64, 65, 66] (by decide +kernel) (by decide +kernel)
set_option maxRecDepth 20000 in
theorem gX8_whyNotReversed_X8_taker : GoodIn wsX8_whyNotReversed (wsV RX8 179 RX8 yX8_taker wsX8_taker) := goodIn_app (goodIn_of _ (by decide +kernel)) ggX8_whyNotReversed_X8_taker
set_option maxRecDepth 20000 in
theorem ggX8_whyNotReversed_X8_entryPart : GoodIn wsX8_whyNotReversed wsX8_entryPart := goodIn_r _ [17, 6, 51, 52, 53, 54, 55, 56, 57, 58, 59, 60, 61, 62, 63, 64, 65, 66] (by decide +kernel) (by decide +kernel)
set_option maxRecDepth 20000 in
theorem gX8_whyNotReversed_X8_entryPart : GoodIn wsX8_whyNotReversed (wsV RX8 170 RX8 yX8_entryPart wsX8_entryPart) := goodIn_app (goodIn_of _ (by decide +kernel)) ggX8_whyNotReversed_X8_entryPart
set_option maxRecDepth 20000 in
theorem ggX8_whyNotReversed_X8_find : GoodIn wsX8_whyNotReversed wsX8_find := goodIn_r _ [25, 6, 26, 27, 28, 4, 29, 51, 52, 53, 54, 55, 56, 57, 58, 59, 60, 61, 62, 63, 64, 65, 66] (by decide +kernel) (by decide +kernel)
set_option maxRecDepth 20000 in
theorem gX8_whyNotReversed_X8_find : GoodIn wsX8_whyNotReversed (wsV RX8 75 RX8 yX8_find wsX8_find) := goodIn_app (goodIn_of _ (by decide +kernel)) ggX8_whyNotReversed_X8_find
set_option maxRecDepth 20000 in
theorem ggX8_whyNotReversed_X8_free : GoodIn wsX8_whyNotReversed wsX8_free := goodIn_r _ [33, 26, 27, 28, 4, 29, 6, 34, 35, 36, 37, 38, 39, 40, 41, 42, 43, 44, 45, 51, 52, 53, 54, 55, 56, 57, 58, 59, 60, 61, 62, 63, 64, 65, 66] (by decide +kernel) (by decide +kernel)
set_option maxRecDepth 20000 in
theorem gX8_whyNotReversed_X8_free : GoodIn wsX8_whyNotReversed (wsV RX8 103 RX8 yX8_free wsX8_free) := goodIn_app (goodIn_of _ (by decide +kernel)) ggX8_whyNotReversed_X8_free
set_option maxRecDepth 20000 in
theorem ggX8_whyNotReversed_X8_hasRoom : GoodIn wsX8_whyNotReversed wsX8_hasRoom := goodIn_r _ [49, 50, 26, 27, 28, 4, 29, 6, 51, 52, 53, 54, 55, 56, 57, 58, 59, 60, 61, 62, 63, 64, 65, 66] (by decide +kernel) (by decide +kernel)
set_option maxRecDepth 20000 in
theorem gX8_whyNotReversed_X8_hasRoom : GoodIn wsX8_whyNotReversed (wsV RX8 86 RX8 yX8_hasRoom wsX8_hasRoom) := goodIn_app (goodIn_of _ (by decide +kernel)) ggX8_whyNotReversed_X8_hasRoom
set_option maxRecDepth 20000 in
theorem ggX8_reverse_X8_whyNotReversed : GoodIn wsX8_reverse wsX8_whyNotReversed := goodIn_r _ [7, 8, 9, 10, 6, 11, 2, 12, 13, 14, 15, 16, 17, 18, 19, 20, 21, 22, 23, 24, 25, 26, 27, 28, 29, 30, 31, 32, 33, 34, 35, 36, 37, 38, 39, 40, 41, 42, 43, 44, 45, 46, 47, 48, 49, 50, 51, 52, 53, 54, 55, 81, 82, 83, 84, 85, 86, 87, 88, 89, 90, 91, 92, 93, 94, 95, 96] (by decide +kernel) (by decide +kernel)
set_option maxRecDepth 20000 in
theorem gX8_reverse_X8_whyNotReversed : GoodIn wsX8_reverse (wsV RX8 182 RX8 yX8_whyNotReversed wsX8_whyNotReversed) := goodIn_app (goodIn_of _ (by decide +kernel)) ggX8_reverse_X8_whyNotReversed
set_option maxRecDepth 20000 in
theorem ggX8_reverse_X8_record : GoodIn wsX8_reverse wsX8_record := goodIn_r _ [59, 60, 61, 62, 2, 1, 81, 82, 83, 84, 85, 86, 87, 88, 89, 90, 91, 92, 93, 94, 95, 96] (by decide +kernel) (by decide +kernel)
set_option maxRecDepth 20000 in
theorem gX8_reverse_X8_record : GoodIn wsX8_reverse (wsV RX8 72 RX8 yX8_record wsX8_record) := goodIn_app (goodIn_of _ (by decide +kernel)) ggX8_reverse_X8_record
set_option maxRecDepth 20000 in
theorem ggX8_reverse_X8_giver : GoodIn wsX8_reverse wsX8_giver := goodIn_r _ [18, 19, 20, 21, 6, 22, 2, 81, 82, 83, 84, 85, 86, 87, 88, 89, 90, 91, 92, 93, 94, 95, 96] (by decide +kernel) (by decide +kernel)
set_option maxRecDepth 20000 in
theorem gX8_reverse_X8_giver : GoodIn wsX8_reverse (wsV RX8 176 RX8 yX8_giver wsX8_giver) := goodIn_app (goodIn_of _ (by decide +kernel)) ggX8_reverse_X8_giver
set_option maxRecDepth 20000 in
theorem ggX8_reverse_X8_taker : GoodIn wsX8_reverse wsX8_taker := goodIn_r _ [26, 19, 20, 21, 6, 22, 2, 81, 82, 83, 84, 85, 86, 87, 88, 89, 90, 91, 92, 93, 94, 95, 96] (by decide +kernel) (by decide +kernel)
set_option maxRecDepth 20000 in
theorem gX8_reverse_X8_taker : GoodIn wsX8_reverse (wsV RX8 179 RX8 yX8_taker wsX8_taker) := goodIn_app (goodIn_of _ (by decide +kernel)) ggX8_reverse_X8_taker
set_option maxRecDepth 20000 in
theorem ggX8_reverse_X8_entryPart : GoodIn wsX8_reverse wsX8_entryPart := goodIn_r _ [22, 2, 81, 82, 83, 84, 85, 86, 87, 88, 89, 90, 91, 92, 93, 94, 95, 96] (by decide +kernel) (by decide +kernel)
set_option maxRecDepth 20000 in
theorem gX8_reverse_X8_entryPart : GoodIn wsX8_reverse (wsV RX8 170 RX8 yX8_entryPart wsX8_entryPart) := goodIn_app (goodIn_of _ (by decide +kernel)) ggX8_reverse_X8_entryPart
set_option maxRecDepth 20000 in
theorem ggX8_reverse_X8_find : GoodIn wsX8_reverse wsX8_find := goodIn_r _ [30, 2, 31, 32, 33, 6, 34, 81, 82, 83, 84, 85, 86, 87, 88, 89, 90, 91, 92, 93, 94, 95, 96] (by decide +kernel) (by decide +kernel)
set_option maxRecDepth 20000 in
theorem gX8_reverse_X8_find : GoodIn wsX8_reverse (wsV RX8 75 RX8 yX8_find wsX8_find) := goodIn_app (goodIn_of _ (by decide +kernel)) ggX8_reverse_X8_find
set_option maxRecDepth 20000 in
theorem ggX8_reverse_X8_adds : GoodIn wsX8_reverse wsX8_adds := goodIn_r _ [66, 31, 32, 33, 6, 34, 2, 67, 68, 69, 70, 81, 82, 83, 84, 85, 86, 87, 88, 89, 90, 91, 92, 93, 94, 95, 96] (by decide +kernel) (by decide +kernel)
set_option maxRecDepth 20000 in
theorem gX8_reverse_X8_adds : GoodIn wsX8_reverse (wsV RX8 90 RX8 yX8_adds wsX8_adds) := goodIn_app (goodIn_of _ (by decide +kernel)) ggX8_reverse_X8_adds
set_option maxRecDepth 20000 in
theorem ggX8_reverse_X8_enters : GoodIn wsX8_reverse wsX8_enters := goodIn_r _ [74, 2, 75, 76, 77, 78, 79, 80, 31, 32, 33, 6, 34, 67, 68, 69, 70, 81, 82, 83, 84, 85, 86, 87, 88, 89, 90, 91, 92, 93, 94, 95, 96] (by decide +kernel) (by decide +kernel)
set_option maxRecDepth 20000 in
theorem gX8_reverse_X8_enters : GoodIn wsX8_reverse (wsV RX8 93 RX8 yX8_enters wsX8_enters) := goodIn_app (goodIn_of _ (by decide +kernel)) ggX8_reverse_X8_enters
set_option maxRecDepth 20000 in
theorem ggX8_staysAhead_X8_part : GoodIn wsX8_staysAhead wsX8_part := goodIn_r _ [5, 6, 23, 24, 25, 26, 27, 28, 29, 30, 31, 32, 33, 34, 35, 36, 37, 38] (by decide +kernel) (by decide +kernel)
set_option maxRecDepth 20000 in
theorem gX8_staysAhead_X8_part : GoodIn wsX8_staysAhead (wsV RX8 34 RX8 yX8_part wsX8_part) := goodIn_app (goodIn_of _ (by decide +kernel)) ggX8_staysAhead_X8_part
set_option maxRecDepth 20000 in
theorem ggX8_staysAhead_X8_free : GoodIn wsX8_staysAhead wsX8_free := goodIn_r _ [10, 1, 2, 3, 4, 5, 6, 11, 12, 13, 14, 15, 16, 17, 18, 19, 20, 21, 22, 23, 24, 25, 26, 27, 28, 29, 30, 31, 32, 33, 34, 35, 36, 37, 38] (by decide +kernel) (by decide +kernel)
set_option maxRecDepth 20000 in
theorem gX8_staysAhead_X8_free : GoodIn wsX8_staysAhead (wsV RX8 103 RX8 yX8_free wsX8_free) := goodIn_app (goodIn_of _ (by decide +kernel)) ggX8_staysAhead_X8_free
set_option maxRecDepth 20000 in
theorem ggX8_findRanks_X8_staysAhead : GoodIn wsX8_findRanks wsX8_staysAhead := goodIn_r _ [7, 8, 9, 10, 6, 11, 1, 12, 13, 14, 15, 16, 17, 18, 19, 20, 21, 22, 23, 24, 25, 26, 27, 28, 29, 30, 31, 32, 33, 34, 35, 36, 37, 38, 39, 40, 41, 42, 43] (by decide +kernel) (by decide +kernel)
set_option maxRecDepth 20000 in
theorem gX8_findRanks_X8_staysAhead : GoodIn wsX8_findRanks (wsV RX8 185 RX8 yX8_staysAhead wsX8_staysAhead) := goodIn_app (goodIn_of _ (by decide +kernel)) ggX8_findRanks_X8_staysAhead
set_option maxRecDepth 20000 in
theorem ggX8_ranked_X8_within : GoodIn wsX8_ranked wsX8_within := goodIn_r _ [6] (by decide +kernel) (by decide +kernel)
set_option maxRecDepth 20000 in
theorem gX8_ranked_X8_within : GoodIn wsX8_ranked (va_wsS RX8 67 yX8_within wsX8_within) := goodIn_app (goodIn_of _ (by decide +kernel)) ggX8_ranked_X8_within
set_option maxRecDepth 20000 in
theorem ggX8_ranked_X8_findRanks : GoodIn wsX8_ranked wsX8_findRanks := goodIn_r _ [10, 1, 2, 11, 12, 13, 5, 14, 15, 16, 17, 18, 19, 20, 21, 22, 23, 24, 25, 26, 27, 28, 29, 30, 31, 32, 33, 34, 35, 36, 37, 38, 39, 40, 41, 42, 43, 44, 45, 46, 47, 48, 49, 50] (by decide +kernel) (by decide +kernel)
set_option maxRecDepth 20000 in
theorem gX8_ranked_X8_findRanks : GoodIn wsX8_ranked (wsV RX8 188 RX8 yX8_findRanks wsX8_findRanks) := goodIn_app (goodIn_of _ (by decide +kernel)) ggX8_ranked_X8_findRanks
set_option maxRecDepth 20000 in
theorem ggX8_ranked_X8_part : GoodIn wsX8_ranked wsX8_part := goodIn_r _ [18, 1, 35, 36, 37, 38, 39, 40, 41, 42, 43, 44, 45, 46, 47, 48, 49, 50] (by decide +kernel) (by decide +kernel)
set_option maxRecDepth 20000 in
theorem gX8_ranked_X8_part : GoodIn wsX8_ranked (wsV RX8 34 RX8 yX8_part wsX8_part) := goodIn_app (goodIn_of _ (by decide +kernel)) ggX8_ranked_X8_part
set_option maxRecDepth 20000 in
theorem ggX8_restOf_X8_billPart : GoodIn wsX8_restOf wsX8_billPart := goodIn_r _ [6, 1, 7, 8, 9, 10, 11, 12, 13, 14, 15, 16, 17, 18, 19, 20, 21, 22] (by decide +kernel) (by decide +kernel)
set_option maxRecDepth 20000 in
theorem gX8_restOf_X8_billPart : GoodIn wsX8_restOf (wsV RX8 48 RX8 yX8_billPart wsX8_billPart) := goodIn_app (goodIn_of _ (by decide +kernel)) ggX8_restOf_X8_billPart
set_option maxRecDepth 20000 in
theorem ggX8_holdsOf_X8_holdPart : GoodIn wsX8_holdsOf wsX8_holdPart := goodIn_r _ [6, 1, 7, 8, 9, 10, 11, 12, 13, 14, 15, 16, 17, 18, 19, 20, 21, 22] (by decide +kernel) (by decide +kernel)
set_option maxRecDepth 20000 in
theorem gX8_holdsOf_X8_holdPart : GoodIn wsX8_holdsOf (wsV RX8 38 RX8 yX8_holdPart wsX8_holdPart) := goodIn_app (goodIn_of _ (by decide +kernel)) ggX8_holdsOf_X8_holdPart
set_option maxRecDepth 20000 in
theorem ggX8_ofClient_X8_part : GoodIn wsX8_ofClient wsX8_part := goodIn_r _ [9, 10, 43, 44, 45, 46, 47, 48, 49, 50, 51, 52, 53, 54, 55, 56, 57, 58] (by decide +kernel) (by decide +kernel)
set_option maxRecDepth 20000 in
theorem gX8_ofClient_X8_part : GoodIn wsX8_ofClient (wsV RX8 34 RX8 yX8_part wsX8_part) := goodIn_app (goodIn_of _ (by decide +kernel)) ggX8_ofClient_X8_part
set_option maxRecDepth 20000 in
theorem ggX8_ofClient_X8_held : GoodIn wsX8_ofClient wsX8_held := goodIn_r _ [14, 10, 5, 6, 7, 8, 9, 15, 16, 17, 18, 19, 20, 21, 22, 43, 44, 45, 46, 47, 48, 49, 50, 51, 52, 53, 54, 55, 56, 57, 58] (by decide +kernel) (by decide +kernel)
set_option maxRecDepth 20000 in
theorem gX8_ofClient_X8_held : GoodIn wsX8_ofClient (wsV RX8 44 RX8 yX8_held wsX8_held) := goodIn_app (goodIn_of _ (by decide +kernel)) ggX8_ofClient_X8_held
set_option maxRecDepth 20000 in
theorem ggX8_ofClient_X8_free : GoodIn wsX8_ofClient wsX8_free := goodIn_r _ [26, 5, 6, 7, 8, 9, 10, 11, 12, 13, 14, 15, 16, 17, 18, 19, 20, 21, 22, 43, 44, 45, 46, 47, 48, 49, 50, 51, 52, 53, 54, 55, 56, 57, 58] (by decide +kernel) (by decide +kernel)
set_option maxRecDepth 20000 in
theorem gX8_ofClient_X8_free : GoodIn wsX8_ofClient (wsV RX8 103 RX8 yX8_free wsX8_free) := goodIn_app (goodIn_of _ (by decide +kernel)) ggX8_ofClient_X8_free
set_option maxRecDepth 20000 in
theorem ggX8_ofClient_X8_restOf : GoodIn wsX8_ofClient wsX8_restOf := goodIn_r _ [30, 10, 31, 32, 33, 8, 34, 43, 44, 45, 46, 47, 48, 49, 50, 51, 52, 53, 54, 55, 56, 57, 58] (by decide +kernel) (by decide +kernel)
set_option maxRecDepth 20000 in
theorem gX8_ofClient_X8_restOf : GoodIn wsX8_ofClient (wsV RX8 193 RX8 yX8_restOf wsX8_restOf) := goodIn_app (goodIn_of _ (by decide +kernel)) ggX8_ofClient_X8_restOf
set_option maxRecDepth 20000 in
theorem ggX8_ofClient_X8_holdsOf : GoodIn wsX8_ofClient wsX8_holdsOf := goodIn_r _ [38, 10, 19, 20, 21, 8, 22, 43, 44, 45, 46, 47, 48, 49, 50, 51, 52, 53, 54, 55, 56, 57, 58] (by decide +kernel) (by decide +kernel)
set_option maxRecDepth 20000 in
theorem gX8_ofClient_X8_holdsOf : GoodIn wsX8_ofClient (wsV RX8 196 RX8 yX8_holdsOf wsX8_holdsOf) := goodIn_app (goodIn_of _ (by decide +kernel)) ggX8_ofClient_X8_holdsOf
set_option maxRecDepth 20000 in
theorem ggX8_ofClient_X8_billsOf : GoodIn wsX8_ofClient wsX8_billsOf := goodIn_r _ [42, 10, 31, 32, 33, 8, 34, 43, 44, 45, 46, 47, 48, 49, 50, 51, 52, 53, 54, 55, 56, 57, 58] (by decide +kernel) (by decide +kernel)
set_option maxRecDepth 20000 in
theorem gX8_ofClient_X8_billsOf : GoodIn wsX8_ofClient (wsV RX8 78 RX8 yX8_billsOf wsX8_billsOf) := goodIn_app (goodIn_of _ (by decide +kernel)) ggX8_ofClient_X8_billsOf
set_option maxRecDepth 20000 in
theorem ggX8_of_X8_find : GoodIn wsX8_of wsX8_find := goodIn_r _ [5, 6, 7, 8, 9, 4, 10, 54, 55, 56, 57, 58, 59, 60, 61, 62, 63, 64, 65, 66, 67, 68, 69] (by decide +kernel) (by decide +kernel)
set_option maxRecDepth 20000 in
theorem gX8_of_X8_find : GoodIn wsX8_of (wsV RX8 75 RX8 yX8_find wsX8_find) := goodIn_app (goodIn_of _ (by decide +kernel)) ggX8_of_X8_find
set_option maxRecDepth 20000 in
theorem ggX8_of_X8_within : GoodIn wsX8_of wsX8_within := goodIn_r _ [13] (by decide +kernel) (by decide +kernel)
set_option maxRecDepth 20000 in
theorem gX8_of_X8_within : GoodIn wsX8_of (va_wsS RX8 67 yX8_within wsX8_within) := goodIn_app (goodIn_of _ (by decide +kernel)) ggX8_of_X8_within
set_option maxRecDepth 20000 in
theorem ggX8_of_X8_ofClient : GoodIn wsX8_of wsX8_ofClient := goodIn_r _ [17, 18, 19, 20, 21, 7, 8, 9, 4, 10, 6, 22, 23, 24, 25, 26, 27, 28, 29, 30, 31, 32, 33, 34, 35, 36, 37, 38, 39, 40, 41, 42, 43, 44, 45, 46, 47, 48, 49, 50, 51, 52, 53, 54, 55, 56, 57, 58, 59, 60, 61, 62, 63, 64, 65, 66, 67, 68, 69] (by decide +kernel) (by decide +kernel)
set_option maxRecDepth 20000 in
theorem gX8_of_X8_ofClient : GoodIn wsX8_of (wsV RX8 199 RX8 yX8_ofClient wsX8_ofClient) := goodIn_app (goodIn_of _ (by decide +kernel)) ggX8_of_X8_ofClient
set_option maxRecDepth 20000 in
theorem ggX8_holdOf_X8_findHold : GoodIn wsX8_holdOf wsX8_findHold := goodIn_r _ [5, 6, 7, 8, 9, 4, 10, 14, 15, 16, 17, 18, 19, 20, 21, 22, 23, 24, 25, 26, 27, 28, 29] (by decide +kernel) (by decide +kernel)
set_option maxRecDepth 20000 in
theorem gX8_holdOf_X8_findHold : GoodIn wsX8_holdOf (wsV RX8 122 RX8 yX8_findHold wsX8_findHold) := goodIn_app (goodIn_of _ (by decide +kernel)) ggX8_holdOf_X8_findHold
set_option maxRecDepth 20000 in
theorem ggX8_holdOf_X8_within : GoodIn wsX8_holdOf wsX8_within := goodIn_r _ [13] (by decide +kernel) (by decide +kernel)
set_option maxRecDepth 20000 in
theorem gX8_holdOf_X8_within : GoodIn wsX8_holdOf (va_wsS RX8 67 yX8_within wsX8_within) := goodIn_app (goodIn_of _ (by decide +kernel)) ggX8_holdOf_X8_within
set_option maxRecDepth 20000 in
theorem ggX8_holdOf_X8_holdPart : GoodIn wsX8_holdOf wsX8_holdPart := goodIn_r _ [10, 6, 14, 15, 16, 17, 18, 19, 20, 21, 22, 23, 24, 25, 26, 27, 28, 29] (by decide +kernel) (by decide +kernel)
set_option maxRecDepth 20000 in
theorem gX8_holdOf_X8_holdPart : GoodIn wsX8_holdOf (wsV RX8 38 RX8 yX8_holdPart wsX8_holdPart) := goodIn_app (goodIn_of _ (by decide +kernel)) ggX8_holdOf_X8_holdPart
set_option maxRecDepth 20000 in
theorem ggX8_billOf_X8_findBill : GoodIn wsX8_billOf wsX8_findBill := goodIn_r _ [5, 6, 7, 8, 9, 4, 10, 14, 15, 16, 17, 18, 19, 20, 21, 22, 23, 24, 25, 26, 27, 28, 29] (by decide +kernel) (by decide +kernel)
set_option maxRecDepth 20000 in
theorem gX8_billOf_X8_findBill : GoodIn wsX8_billOf (wsV RX8 135 RX8 yX8_findBill wsX8_findBill) := goodIn_app (goodIn_of _ (by decide +kernel)) ggX8_billOf_X8_findBill
set_option maxRecDepth 20000 in
theorem ggX8_billOf_X8_within : GoodIn wsX8_billOf wsX8_within := goodIn_r _ [13] (by decide +kernel) (by decide +kernel)
set_option maxRecDepth 20000 in
theorem gX8_billOf_X8_within : GoodIn wsX8_billOf (va_wsS RX8 67 yX8_within wsX8_within) := goodIn_app (goodIn_of _ (by decide +kernel)) ggX8_billOf_X8_within
set_option maxRecDepth 20000 in
theorem ggX8_billOf_X8_billPart : GoodIn wsX8_billOf wsX8_billPart := goodIn_r _ [10, 6, 14, 15, 16, 17, 18, 19, 20, 21, 22, 23, 24, 25, 26, 27, 28, 29] (by decide +kernel) (by decide +kernel)
set_option maxRecDepth 20000 in
theorem gX8_billOf_X8_billPart : GoodIn wsX8_billOf (wsV RX8 48 RX8 yX8_billPart wsX8_billPart) := goodIn_app (goodIn_of _ (by decide +kernel)) ggX8_billOf_X8_billPart
set_option maxRecDepth 20000 in
theorem ggX8_entry_X8_isEntry : GoodIn wsX8_entry wsX8_isEntry := goodIn_r _ [5, 6, 7, 8, 4, 9, 14, 15, 16, 17, 18, 19, 20, 21, 22, 23, 24, 25, 26, 27, 28, 29] (by decide +kernel) (by decide +kernel)
set_option maxRecDepth 20000 in
theorem gX8_entry_X8_isEntry : GoodIn wsX8_entry (wsV RX8 173 RX8 yX8_isEntry wsX8_isEntry) := goodIn_app (goodIn_of _ (by decide +kernel)) ggX8_entry_X8_isEntry
set_option maxRecDepth 20000 in
theorem ggX8_entry_X8_within : GoodIn wsX8_entry wsX8_within := goodIn_r _ [9] (by decide +kernel) (by decide +kernel)
set_option maxRecDepth 20000 in
theorem gX8_entry_X8_within : GoodIn wsX8_entry (va_wsS RX8 67 yX8_within wsX8_within) := goodIn_app (goodIn_of _ (by decide +kernel)) ggX8_entry_X8_within
set_option maxRecDepth 20000 in
theorem ggX8_entry_X8_entryPart : GoodIn wsX8_entry wsX8_entryPart := goodIn_r _ [13, 6, 14, 15, 16, 17, 18, 19, 20, 21, 22, 23, 24, 25, 26, 27, 28, 29] (by decide +kernel) (by decide +kernel)
set_option maxRecDepth 20000 in
theorem gX8_entry_X8_entryPart : GoodIn wsX8_entry (wsV RX8 170 RX8 yX8_entryPart wsX8_entryPart) := goodIn_app (goodIn_of _ (by decide +kernel)) ggX8_entry_X8_entryPart
set_option maxRecDepth 20000 in
theorem ggX8_sumOf_X8_part : GoodIn wsX8_sumOf wsX8_part := goodIn_r _ [7, 2, 20, 21, 22, 23, 24, 25, 26, 27, 28, 29, 30, 31, 32, 33, 34, 35] (by decide +kernel) (by decide +kernel)
set_option maxRecDepth 20000 in
theorem gX8_sumOf_X8_part : GoodIn wsX8_sumOf (wsV RX8 34 RX8 yX8_part wsX8_part) := goodIn_app (goodIn_of _ (by decide +kernel)) ggX8_sumOf_X8_part
set_option maxRecDepth 20000 in
theorem ggX8_sumOf_X8_held : GoodIn wsX8_sumOf wsX8_held := goodIn_r _ [11, 2, 3, 4, 5, 6, 7, 12, 13, 14, 15, 16, 17, 18, 19, 20, 21, 22, 23, 24, 25, 26, 27, 28, 29, 30, 31, 32, 33, 34, 35] (by decide +kernel) (by decide +kernel)
set_option maxRecDepth 20000 in
theorem gX8_sumOf_X8_held : GoodIn wsX8_sumOf (wsV RX8 44 RX8 yX8_held wsX8_held) := goodIn_app (goodIn_of _ (by decide +kernel)) ggX8_sumOf_X8_held
set_option maxRecDepth 20000 in
theorem ggX8_sum_X8_within : GoodIn wsX8_sum wsX8_within := goodIn_r _ [5] (by decide +kernel) (by decide +kernel)
set_option maxRecDepth 20000 in
theorem gX8_sum_X8_within : GoodIn wsX8_sum (va_wsS RX8 67 yX8_within wsX8_within) := goodIn_app (goodIn_of _ (by decide +kernel)) ggX8_sum_X8_within
set_option maxRecDepth 20000 in
theorem ggX8_sum_X8_sumOf : GoodIn wsX8_sum wsX8_sumOf := goodIn_r _ [9, 10, 11, 12, 13, 14, 4, 15, 16, 17, 18, 19, 20, 21, 22, 23, 24, 25, 26, 27, 28, 29, 30, 31, 32, 33, 34, 35, 36, 37, 38, 39, 40, 41, 42, 43] (by decide +kernel) (by decide +kernel)
set_option maxRecDepth 20000 in
theorem gX8_sum_X8_sumOf : GoodIn wsX8_sum (wsV RX8 202 RX8 yX8_sumOf wsX8_sumOf) := goodIn_app (goodIn_of _ (by decide +kernel)) ggX8_sum_X8_sumOf
set_option maxRecDepth 20000 in
theorem ggX8_payableOn_X8_find : GoodIn wsX8_payableOn wsX8_find := goodIn_r _ [7, 1, 8, 9, 10, 6, 11, 39, 40, 41, 42, 43, 44, 45, 46, 47, 48, 49, 50, 51, 52, 53, 54] (by decide +kernel) (by decide +kernel)
set_option maxRecDepth 20000 in
theorem gX8_payableOn_X8_find : GoodIn wsX8_payableOn (wsV RX8 75 RX8 yX8_find wsX8_find) := goodIn_app (goodIn_of _ (by decide +kernel)) ggX8_payableOn_X8_find
set_option maxRecDepth 20000 in
theorem ggX8_payableOn_X8_isAmount : GoodIn wsX8_payableOn wsX8_isAmount := goodIn_r _ [14, 15, 16, 17, 6, 18] (by decide +kernel) (by decide +kernel)
set_option maxRecDepth 20000 in
theorem gX8_payableOn_X8_isAmount : GoodIn wsX8_payableOn (va_wsS RX8 82 yX8_isAmount wsX8_isAmount) := goodIn_app (goodIn_of _ (by decide +kernel)) ggX8_payableOn_X8_isAmount
set_option maxRecDepth 20000 in
theorem ggX8_payableOn_X8_thinks : GoodIn wsX8_payableOn wsX8_thinks := goodIn_r _ [22, 2, 23, 24, 8, 9, 10, 6, 11, 1, 39, 40, 41, 42, 43, 44, 45, 46, 47, 48, 49, 50, 51, 52, 53, 54] (by decide +kernel) (by decide +kernel)
set_option maxRecDepth 20000 in
theorem gX8_payableOn_X8_thinks : GoodIn wsX8_payableOn (wsV RX8 153 RX8 yX8_thinks wsX8_thinks) := goodIn_app (goodIn_of _ (by decide +kernel)) ggX8_payableOn_X8_thinks
set_option maxRecDepth 20000 in
theorem ggX8_payableOn_X8_dayEnds : GoodIn wsX8_payableOn wsX8_dayEnds := goodIn_r _ [28, 2, 1, 24, 29, 30, 39, 40, 41, 42, 43, 44, 45, 46, 47, 48, 49, 50, 51, 52, 53, 54] (by decide +kernel) (by decide +kernel)
set_option maxRecDepth 20000 in
theorem gX8_payableOn_X8_dayEnds : GoodIn wsX8_payableOn (wsV RX8 156 RX8 yX8_dayEnds wsX8_dayEnds) := goodIn_app (goodIn_of _ (by decide +kernel)) ggX8_payableOn_X8_dayEnds
set_option maxRecDepth 20000 in
theorem ggX8_payableOn_X8_heldOn : GoodIn wsX8_payableOn wsX8_heldOn := goodIn_r _ [34, 1, 35, 36, 37, 6, 38, 39, 40, 41, 42, 43, 44, 45, 46, 47, 48, 49, 50, 51, 52, 53, 54] (by decide +kernel) (by decide +kernel)
set_option maxRecDepth 20000 in
theorem gX8_payableOn_X8_heldOn : GoodIn wsX8_payableOn (wsV RX8 41 RX8 yX8_heldOn wsX8_heldOn) := goodIn_app (goodIn_of _ (by decide +kernel)) ggX8_payableOn_X8_heldOn
set_option maxRecDepth 20000 in
theorem ggX8_interestIn_X8_find : GoodIn wsX8_interestIn wsX8_find := goodIn_r _ [6, 1, 7, 8, 9, 5, 10, 27, 28, 29, 30, 31, 32, 33, 34, 35, 36, 37, 38, 39, 40, 41, 42] (by decide +kernel) (by decide +kernel)
set_option maxRecDepth 20000 in
theorem gX8_interestIn_X8_find : GoodIn wsX8_interestIn (wsV RX8 75 RX8 yX8_find wsX8_find) := goodIn_app (goodIn_of _ (by decide +kernel)) ggX8_interestIn_X8_find
set_option maxRecDepth 20000 in
theorem ggX8_interestIn_X8_within : GoodIn wsX8_interestIn wsX8_within := goodIn_r _ [13] (by decide +kernel) (by decide +kernel)
set_option maxRecDepth 20000 in
theorem gX8_interestIn_X8_within : GoodIn wsX8_interestIn (va_wsS RX8 67 yX8_within wsX8_within) := goodIn_app (goodIn_of _ (by decide +kernel)) ggX8_interestIn_X8_within
set_option maxRecDepth 20000 in
theorem ggX8_interestIn_X8_thinks : GoodIn wsX8_interestIn wsX8_thinks := goodIn_r _ [17, 18, 19, 20, 7, 8, 9, 5, 10, 1, 27, 28, 29, 30, 31, 32, 33, 34, 35, 36, 37, 38, 39, 40, 41, 42] (by decide +kernel) (by decide +kernel)
set_option maxRecDepth 20000 in
theorem gX8_interestIn_X8_thinks : GoodIn wsX8_interestIn (wsV RX8 153 RX8 yX8_thinks wsX8_thinks) := goodIn_app (goodIn_of _ (by decide +kernel)) ggX8_interestIn_X8_thinks
set_option maxRecDepth 20000 in
theorem ggX8_interestIn_X8_dayEnds : GoodIn wsX8_interestIn wsX8_dayEnds := goodIn_r _ [24, 18, 1, 20, 25, 26, 27, 28, 29, 30, 31, 32, 33, 34, 35, 36, 37, 38, 39, 40, 41, 42] (by decide +kernel) (by decide +kernel)
set_option maxRecDepth 20000 in
theorem gX8_interestIn_X8_dayEnds : GoodIn wsX8_interestIn (wsV RX8 156 RX8 yX8_dayEnds wsX8_dayEnds) := goodIn_app (goodIn_of _ (by decide +kernel)) ggX8_interestIn_X8_dayEnds
set_option maxRecDepth 20000 in
theorem ggX8_type_X8_within : GoodIn wsX8_type wsX8_within := goodIn_r _ [6] (by decide +kernel) (by decide +kernel)
set_option maxRecDepth 20000 in
theorem gX8_type_X8_within : GoodIn wsX8_type (va_wsS RX8 67 yX8_within wsX8_within) := goodIn_app (goodIn_of _ (by decide +kernel)) ggX8_type_X8_within
set_option maxRecDepth 20000 in
theorem ggX8_isNext_X8_character : GoodIn wsX8_isNext wsX8_character := goodIn_r _ [6, 7, 8, 9, 10, 11, 12, 13, 14, 15, 16, 17, 18, 19, 20, 21, 22, 23, 24] (by decide +kernel) (by decide +kernel)
set_option maxRecDepth 20000 in
theorem gX8_isNext_X8_character : GoodIn wsX8_isNext (wsV RX8 213 RX8 yX8_character wsX8_character) := goodIn_app (goodIn_of _ (by decide +kernel)) ggX8_isNext_X8_character
set_option maxRecDepth 20000 in
theorem ggX8_readsNumber_X8_character : GoodIn wsX8_readsNumber wsX8_character := goodIn_r _ [7, 8, 9, 13, 14, 15, 16, 17, 18, 19, 20, 21, 22, 23, 24, 25, 26, 27, 28] (by decide +kernel) (by decide +kernel)
set_option maxRecDepth 20000 in
theorem gX8_readsNumber_X8_character : GoodIn wsX8_readsNumber (wsV RX8 213 RX8 yX8_character wsX8_character) := goodIn_app (goodIn_of _ (by decide +kernel)) ggX8_readsNumber_X8_character
set_option maxRecDepth 20000 in
theorem ggX8_readsNumber_X8_within : GoodIn wsX8_readsNumber wsX8_within := goodIn_r _ [12] (by decide +kernel) (by decide +kernel)
set_option maxRecDepth 20000 in
theorem gX8_readsNumber_X8_within : GoodIn wsX8_readsNumber (va_wsS RX8 67 yX8_within wsX8_within) := goodIn_app (goodIn_of _ (by decide +kernel)) ggX8_readsNumber_X8_within
set_option maxRecDepth 20000 in
theorem ggX8_readsOrder_X8_character : GoodIn wsX8_readsOrder wsX8_character := goodIn_r _ [11, 12, 13, 25, 26, 27, 28, 29, 30, 31, 32, 33, 34, 35, 36, 37, 38, 39, 40] (by decide +kernel) (by decide +kernel)
set_option maxRecDepth 20000 in
theorem gX8_readsOrder_X8_character : GoodIn wsX8_readsOrder (wsV RX8 213 RX8 yX8_character wsX8_character) := goodIn_app (goodIn_of _ (by decide +kernel)) ggX8_readsOrder_X8_character
set_option maxRecDepth 20000 in
theorem ggX8_readsOrder_X8_readsNumber : GoodIn wsX8_readsOrder wsX8_readsNumber := goodIn_r _ [17, 3, 1, 7, 8, 9, 10, 11, 12, 13, 18, 19, 20, 25, 26, 27, 28, 29, 30, 31, 32, 33, 34, 35, 36, 37, 38, 39, 40] (by decide +kernel) (by decide +kernel)
set_option maxRecDepth 20000 in
theorem gX8_readsOrder_X8_readsNumber : GoodIn wsX8_readsOrder (wsV RX8 222 RX8 yX8_readsNumber wsX8_readsNumber) := goodIn_app (goodIn_of _ (by decide +kernel)) ggX8_readsOrder_X8_readsNumber
set_option maxRecDepth 20000 in
theorem ggX8_readsOrder_X8_isNext : GoodIn wsX8_readsOrder wsX8_isNext := goodIn_r _ [24, 1, 7, 8, 9, 10, 11, 12, 13, 25, 26, 27, 28, 29, 30, 31, 32, 33, 34, 35, 36, 37, 38, 39, 40] (by decide +kernel) (by decide +kernel)
set_option maxRecDepth 20000 in
theorem gX8_readsOrder_X8_isNext : GoodIn wsX8_readsOrder (wsV RX8 229 RX8 yX8_isNext wsX8_isNext) := goodIn_app (goodIn_of _ (by decide +kernel)) ggX8_readsOrder_X8_isNext
set_option maxRecDepth 20000 in
theorem ggX8_findError_X8_readsOrder : GoodIn wsX8_findError wsX8_readsOrder := goodIn_r _ [7, 1, 8, 9, 10, 11, 12, 13, 14, 15, 6, 16, 2, 17, 18, 19, 20, 21, 22, 23, 24, 25, 26, 27, 28, 29, 30, 31, 32, 33, 34, 35, 36, 37, 38, 39, 40, 41, 42, 43, 44] (by decide +kernel) (by decide +kernel)
set_option maxRecDepth 20000 in
theorem gX8_findError_X8_readsOrder : GoodIn wsX8_findError (wsV RX8 238 RX8 yX8_readsOrder wsX8_readsOrder) := goodIn_app (goodIn_of _ (by decide +kernel)) ggX8_findError_X8_readsOrder
set_option maxRecDepth 20000 in
theorem ggX8_findError_X8_isNext : GoodIn wsX8_findError wsX8_isNext := goodIn_r _ [28, 1, 13, 14, 15, 6, 16, 2, 17, 29, 30, 31, 32, 33, 34, 35, 36, 37, 38, 39, 40, 41, 42, 43, 44] (by decide +kernel) (by decide +kernel)
set_option maxRecDepth 20000 in
theorem gX8_findError_X8_isNext : GoodIn wsX8_findError (wsV RX8 229 RX8 yX8_isNext wsX8_isNext) := goodIn_app (goodIn_of _ (by decide +kernel)) ggX8_findError_X8_isNext
set_option maxRecDepth 20000 in
theorem ggX8_syntaxError_X8_findError : GoodIn wsX8_syntaxError wsX8_findError := goodIn_r _ [5, 6, 7, 8, 9, 10, 4, 11, 12, 13, 14, 15, 16, 17, 18, 19, 20, 21, 22, 23, 24, 25, 26, 27, 28, 29, 30, 31, 32, 33, 34, 35, 36, 37, 38, 39, 40, 41, 42, 43, 44, 45, 46, 47, 48] (by decide +kernel) (by decide +kernel)
set_option maxRecDepth 20000 in
theorem gX8_syntaxError_X8_findError : GoodIn wsX8_syntaxError (wsV RX8 241 RX8 yX8_findError wsX8_findError) := goodIn_app (goodIn_of _ (by decide +kernel)) ggX8_syntaxError_X8_findError
set_option maxRecDepth 20000 in
theorem ggX8_whyNotDone_X8_whyNotReceived : GoodIn wsX8_whyNotDone wsX8_whyNotReceived := goodIn_r _ [9, 10, 11, 12, 8, 13, 14, 15, 16, 17, 18, 19, 20, 21, 22, 23, 24, 25, 26, 27, 28, 29, 30, 75, 76, 77, 78, 79, 80, 81, 82, 83, 84, 85, 86, 87, 88, 89, 90] (by decide +kernel) (by decide +kernel)
set_option maxRecDepth 20000 in
theorem gX8_whyNotDone_X8_whyNotReceived : GoodIn wsX8_whyNotDone (wsV RX8 97 RX8 yX8_whyNotReceived wsX8_whyNotReceived) := goodIn_app (goodIn_of _ (by decide +kernel)) ggX8_whyNotDone_X8_whyNotReceived
set_option maxRecDepth 20000 in
theorem ggX8_whyNotDone_X8_whyNotPaid : GoodIn wsX8_whyNotDone wsX8_whyNotPaid := goodIn_r _ [34, 10, 11, 12, 8, 13, 14, 15, 16, 17, 18, 19, 20, 21, 22, 23, 24, 25, 35, 36, 37, 38, 39, 40, 41, 42, 43, 44, 45, 46, 47, 48, 49, 50, 75, 76, 77, 78, 79, 80, 81, 82, 83, 84, 85, 86, 87, 88, 89, 90] (by decide +kernel) (by decide +kernel)
set_option maxRecDepth 20000 in
theorem gX8_whyNotDone_X8_whyNotPaid : GoodIn wsX8_whyNotDone (wsV RX8 106 RX8 yX8_whyNotPaid wsX8_whyNotPaid) := goodIn_app (goodIn_of _ (by decide +kernel)) ggX8_whyNotDone_X8_whyNotPaid
set_option maxRecDepth 20000 in
theorem ggX8_whyNotDone_X8_whyNotMoved : GoodIn wsX8_whyNotDone wsX8_whyNotMoved := goodIn_r _ [54, 10, 11, 12, 8, 13, 14, 15, 16, 17, 18, 19, 20, 21, 22, 23, 24, 25, 35, 36, 37, 38, 39, 40, 41, 42, 43, 44, 45, 46, 47, 48, 49, 50, 26, 27, 28, 29, 30, 75, 76, 77, 78, 79, 80, 81, 82, 83, 84, 85, 86, 87, 88, 89, 90] (by decide +kernel) (by decide +kernel)
set_option maxRecDepth 20000 in
theorem gX8_whyNotDone_X8_whyNotMoved : GoodIn wsX8_whyNotDone (wsV RX8 112 RX8 yX8_whyNotMoved wsX8_whyNotMoved) := goodIn_app (goodIn_of _ (by decide +kernel)) ggX8_whyNotDone_X8_whyNotMoved
set_option maxRecDepth 20000 in
theorem ggX8_whyNotDone_X8_whyNotBilled : GoodIn wsX8_whyNotDone wsX8_whyNotBilled := goodIn_r _ [58, 14, 10, 11, 12, 8, 13, 15, 16, 17, 18, 19, 20, 21, 22, 23, 24, 25, 75, 76, 77, 78, 79, 80, 81, 82, 83, 84, 85, 86, 87, 88, 89, 90] (by decide +kernel) (by decide +kernel)
set_option maxRecDepth 20000 in
theorem gX8_whyNotDone_X8_whyNotBilled : GoodIn wsX8_whyNotDone (wsV RX8 129 RX8 yX8_whyNotBilled wsX8_whyNotBilled) := goodIn_app (goodIn_of _ (by decide +kernel)) ggX8_whyNotDone_X8_whyNotBilled
set_option maxRecDepth 20000 in
theorem ggX8_whyNotDone_X8_whyNotSettled : GoodIn wsX8_whyNotDone wsX8_whyNotSettled := goodIn_r _ [62, 63, 64, 65, 8, 66, 14, 67, 68, 69, 70, 10, 11, 12, 13, 15, 16, 17, 18, 35, 36, 37, 38, 39, 40, 41, 42, 43, 44, 45, 46, 47, 48, 49, 50, 75, 76, 77, 78, 79, 80, 81, 82, 83, 84, 85, 86, 87, 88, 89, 90] (by decide +kernel) (by decide +kernel)
set_option maxRecDepth 20000 in
theorem gX8_whyNotDone_X8_whyNotSettled : GoodIn wsX8_whyNotDone (wsV RX8 138 RX8 yX8_whyNotSettled wsX8_whyNotSettled) := goodIn_app (goodIn_of _ (by decide +kernel)) ggX8_whyNotDone_X8_whyNotSettled
set_option maxRecDepth 20000 in
theorem ggX8_whyNotDone_X8_whyNotPassed : GoodIn wsX8_whyNotDone wsX8_whyNotPassed := goodIn_r _ [74, 14, 23, 24, 8, 25, 75, 76, 77, 78, 79, 80, 81, 82, 83, 84, 85, 86, 87, 88, 89, 90] (by decide +kernel) (by decide +kernel)
set_option maxRecDepth 20000 in
theorem gX8_whyNotDone_X8_whyNotPassed : GoodIn wsX8_whyNotDone (wsV RX8 163 RX8 yX8_whyNotPassed wsX8_whyNotPassed) := goodIn_app (goodIn_of _ (by decide +kernel)) ggX8_whyNotDone_X8_whyNotPassed
set_option maxRecDepth 20000 in
theorem ggX8_does_X8_receives : GoodIn wsX8_does wsX8_receives := goodIn_r _ [9, 10, 11, 12, 13, 8, 14, 15, 16, 17, 18, 19, 20, 21, 22, 23, 24, 25, 26, 27, 28, 29, 30, 31, 32, 33, 34, 35, 36, 37, 106, 107, 108, 109, 110, 111, 112, 113, 114, 115, 116, 117, 118, 119, 120, 121] (by decide +kernel) (by decide +kernel)
set_option maxRecDepth 20000 in
theorem gX8_does_X8_receives : GoodIn wsX8_does (wsV RX8 100 RX8 yX8_receives wsX8_receives) := goodIn_app (goodIn_of _ (by decide +kernel)) ggX8_does_X8_receives
set_option maxRecDepth 20000 in
theorem ggX8_does_X8_pays : GoodIn wsX8_does wsX8_pays := goodIn_r _ [41, 10, 11, 12, 13, 8, 14, 15, 16, 17, 18, 19, 20, 21, 22, 23, 24, 25, 26, 27, 28, 29, 30, 31, 32, 33, 34, 35, 36, 37, 106, 107, 108, 109, 110, 111, 112, 113, 114, 115, 116, 117, 118, 119, 120, 121] (by decide +kernel) (by decide +kernel)
set_option maxRecDepth 20000 in
theorem gX8_does_X8_pays : GoodIn wsX8_does (wsV RX8 109 RX8 yX8_pays wsX8_pays) := goodIn_app (goodIn_of _ (by decide +kernel)) ggX8_does_X8_pays
set_option maxRecDepth 20000 in
theorem ggX8_does_X8_transfers : GoodIn wsX8_does wsX8_transfers := goodIn_r _ [45, 11, 12, 13, 8, 14, 15, 16, 17, 18, 19, 20, 21, 22, 23, 24, 25, 26, 27, 28, 29, 30, 31, 32, 33, 34, 35, 36, 37, 106, 107, 108, 109, 110, 111, 112, 113, 114, 115, 116, 117, 118, 119, 120, 121] (by decide +kernel) (by decide +kernel)
set_option maxRecDepth 20000 in
theorem gX8_does_X8_transfers : GoodIn wsX8_does (wsV RX8 116 RX8 yX8_transfers wsX8_transfers) := goodIn_app (goodIn_of _ (by decide +kernel)) ggX8_does_X8_transfers
set_option maxRecDepth 20000 in
theorem ggX8_does_X8_bills : GoodIn wsX8_does wsX8_bills := goodIn_r _ [49, 15, 106, 107, 108, 109, 110, 111, 112, 113, 114, 115, 116, 117, 118, 119, 120, 121] (by decide +kernel) (by decide +kernel)
set_option maxRecDepth 20000 in
theorem gX8_does_X8_bills : GoodIn wsX8_does (wsV RX8 132 RX8 yX8_bills wsX8_bills) := goodIn_app (goodIn_of _ (by decide +kernel)) ggX8_does_X8_bills
set_option maxRecDepth 20000 in
theorem ggX8_does_X8_settles : GoodIn wsX8_does wsX8_settles := goodIn_r _ [53, 10, 15, 54, 55, 56, 8, 57, 58, 59, 60, 61, 11, 12, 13, 14, 16, 17, 18, 19, 62, 63, 64, 65, 66, 67, 68, 69, 70, 71, 72, 73, 74, 75, 76, 77, 20, 21, 22, 23, 24, 25, 26, 27, 28, 29, 30, 31, 32, 33, 34, 35, 36, 37, 78, 79, 80, 81, 106, 107, 108, 109, 110, 111, 112, 113, 114, 115, 116, 117, 118, 119, 120, 121] (by decide +kernel) (by decide +kernel)
set_option maxRecDepth 20000 in
theorem gX8_does_X8_settles : GoodIn wsX8_does (wsV RX8 141 RX8 yX8_settles wsX8_settles) := goodIn_app (goodIn_of _ (by decide +kernel)) ggX8_does_X8_settles
set_option maxRecDepth 20000 in
theorem ggX8_does_X8_passes : GoodIn wsX8_does wsX8_passes := goodIn_r _ [85, 86, 87, 88, 8, 89, 15, 90, 10, 91, 92, 93, 94, 95, 16, 17, 18, 19, 96, 97, 98, 99, 100, 101, 24, 25, 26, 27, 28, 29, 30, 31, 32, 33, 34, 35, 36, 37, 74, 75, 76, 77, 102, 103, 104, 105, 78, 79, 80, 81, 106, 107, 108, 109, 110, 111, 112, 113, 114, 115, 116, 117, 118, 119, 120, 121] (by decide +kernel) (by decide +kernel)
set_option maxRecDepth 20000 in
theorem gX8_does_X8_passes : GoodIn wsX8_does (wsV RX8 166 RX8 yX8_passes wsX8_passes) := goodIn_app (goodIn_of _ (by decide +kernel)) ggX8_does_X8_passes
set_option maxRecDepth 20000 in
theorem ggX8_carryOut_X8_findError : GoodIn wsX8_carryOut wsX8_findError := goodIn_r _ [7, 1, 2, 8, 9, 10, 6, 11, 12, 13, 14, 15, 16, 17, 18, 19, 20, 21, 22, 23, 24, 25, 26, 27, 28, 29, 30, 31, 32, 180, 181, 182, 183, 184, 185, 186, 187, 188, 189, 190, 191, 192, 193, 194, 195] (by decide +kernel) (by decide +kernel)
set_option maxRecDepth 20000 in
theorem gX8_carryOut_X8_findError : GoodIn wsX8_carryOut (wsV RX8 241 RX8 yX8_findError wsX8_findError) := goodIn_app (goodIn_of _ (by decide +kernel)) ggX8_carryOut_X8_findError
set_option maxRecDepth 20000 in
theorem ggX8_carryOut_X8_record : GoodIn wsX8_carryOut wsX8_record := goodIn_r _ [36, 37, 38, 39, 40, 41, 180, 181, 182, 183, 184, 185, 186, 187, 188, 189, 190, 191, 192, 193, 194, 195] (by decide +kernel) (by decide +kernel)
set_option maxRecDepth 20000 in
theorem gX8_carryOut_X8_record : GoodIn wsX8_carryOut (wsV RX8 72 RX8 yX8_record wsX8_record) := goodIn_app (goodIn_of _ (by decide +kernel)) ggX8_carryOut_X8_record
set_option maxRecDepth 20000 in
theorem ggX8_carryOut_X8_readsOrder : GoodIn wsX8_carryOut wsX8_readsOrder := goodIn_r _ [11, 1, 12, 13, 14, 15, 16, 17, 18, 19, 6, 20, 2, 21, 22, 23, 24, 25, 26, 27, 28, 29, 30, 31, 32, 180, 181, 182, 183, 184, 185, 186, 187, 188, 189, 190, 191, 192, 193, 194, 195] (by decide +kernel) (by decide +kernel)
set_option maxRecDepth 20000 in
theorem gX8_carryOut_X8_readsOrder : GoodIn wsX8_carryOut (wsV RX8 238 RX8 yX8_readsOrder wsX8_readsOrder) := goodIn_app (goodIn_of _ (by decide +kernel)) ggX8_carryOut_X8_readsOrder
set_option maxRecDepth 20000 in
theorem ggX8_carryOut_X8_isNext : GoodIn wsX8_carryOut wsX8_isNext := goodIn_r _ [32, 1, 17, 18, 19, 6, 20, 2, 21, 180, 181, 182, 183, 184, 185, 186, 187, 188, 189, 190, 191, 192, 193, 194, 195] (by decide +kernel) (by decide +kernel)
set_option maxRecDepth 20000 in
theorem gX8_carryOut_X8_isNext : GoodIn wsX8_carryOut (wsV RX8 229 RX8 yX8_isNext wsX8_isNext) := goodIn_app (goodIn_of _ (by decide +kernel)) ggX8_carryOut_X8_isNext
set_option maxRecDepth 20000 in
theorem ggX8_carryOut_X8_whyNotDone : GoodIn wsX8_carryOut wsX8_whyNotDone := goodIn_r _ [45, 12, 14, 16, 15, 46, 47, 48, 6, 49, 50, 51, 52, 53, 40, 54, 55, 56, 57, 58, 59, 60, 61, 26, 27, 28, 62, 63, 64, 65, 66, 67, 68, 69, 70, 71, 72, 73, 74, 75, 76, 77, 78, 79, 80, 81, 82, 83, 84, 85, 86, 87, 88, 89, 90, 91, 92, 93, 94, 95, 96, 97, 98, 99, 100, 101, 102, 103, 104, 105, 106, 107, 108, 109, 110, 180, 181, 182, 183, 184, 185, 186, 187, 188, 189, 190, 191, 192, 193, 194, 195] (by decide +kernel) (by decide +kernel)
set_option maxRecDepth 20000 in
theorem gX8_carryOut_X8_whyNotDone : GoodIn wsX8_carryOut (wsV RX8 245 RX8 yX8_whyNotDone wsX8_whyNotDone) := goodIn_app (goodIn_of _ (by decide +kernel)) ggX8_carryOut_X8_whyNotDone
set_option maxRecDepth 20000 in
theorem ggX8_carryOut_X8_does : GoodIn wsX8_carryOut wsX8_does := goodIn_r _ [114, 12, 14, 16, 15, 115, 116, 117, 6, 118, 41, 50, 51, 52, 53, 40, 54, 55, 56, 57, 119, 120, 121, 122, 123, 124, 125, 126, 127, 128, 129, 130, 131, 132, 133, 134, 135, 136, 137, 138, 139, 140, 141, 142, 143, 144, 145, 146, 147, 148, 149, 150, 151, 152, 99, 100, 101, 102, 103, 104, 105, 106, 71, 72, 73, 74, 75, 76, 77, 78, 79, 80, 81, 82, 83, 84, 85, 86, 153, 154, 155, 156, 157, 158, 159, 160, 161, 162, 163, 164, 165, 166, 167, 168, 169, 170, 171, 172, 173, 174, 66, 175, 176, 177, 178, 179, 180, 181, 182, 183, 184, 185, 186, 187, 188, 189, 190, 191, 192, 193, 194, 195] (by decide +kernel) (by decide +kernel)
set_option maxRecDepth 20000 in
theorem gX8_carryOut_X8_does : GoodIn wsX8_carryOut (wsV RX8 248 RX8 yX8_does wsX8_does) := goodIn_app (goodIn_of _ (by decide +kernel)) ggX8_carryOut_X8_does
set_option maxRecDepth 20000 in
theorem ggX8_digest_X8_part : GoodIn wsX8_digest wsX8_part := goodIn_r _ [9, 3, 73, 74, 75, 76, 77, 78, 79, 80, 81, 82, 83, 84, 85, 86, 87, 88] (by decide +kernel) (by decide +kernel)
set_option maxRecDepth 20000 in
theorem gX8_digest_X8_part : GoodIn wsX8_digest (wsV RX8 34 RX8 yX8_part wsX8_part) := goodIn_app (goodIn_of _ (by decide +kernel)) ggX8_digest_X8_part
set_option maxRecDepth 20000 in
theorem ggX8_digest_X8_ofClient : GoodIn wsX8_digest wsX8_ofClient := goodIn_r _ [13, 14, 15, 16, 17, 5, 6, 7, 8, 9, 3, 18, 19, 20, 21, 22, 23, 24, 25, 26, 27, 28, 29, 30, 31, 32, 33, 34, 35, 36, 37, 38, 39, 40, 41, 42, 43, 44, 45, 46, 47, 48, 49, 73, 74, 75, 76, 77, 78, 79, 80, 81, 82, 83, 84, 85, 86, 87, 88] (by decide +kernel) (by decide +kernel)
set_option maxRecDepth 20000 in
theorem gX8_digest_X8_ofClient : GoodIn wsX8_digest (wsV RX8 199 RX8 yX8_ofClient wsX8_ofClient) := goodIn_app (goodIn_of _ (by decide +kernel)) ggX8_digest_X8_ofClient
set_option maxRecDepth 20000 in
theorem ggX8_digest_X8_isEntry : GoodIn wsX8_digest wsX8_isEntry := goodIn_r _ [53, 3, 54, 55, 8, 56, 73, 74, 75, 76, 77, 78, 79, 80, 81, 82, 83, 84, 85, 86, 87, 88] (by decide +kernel) (by decide +kernel)
set_option maxRecDepth 20000 in
theorem gX8_digest_X8_isEntry : GoodIn wsX8_digest (wsV RX8 173 RX8 yX8_isEntry wsX8_isEntry) := goodIn_app (goodIn_of _ (by decide +kernel)) ggX8_digest_X8_isEntry
set_option maxRecDepth 20000 in
theorem ggX8_digest_X8_entryPart : GoodIn wsX8_digest wsX8_entryPart := goodIn_r _ [60, 3, 73, 74, 75, 76, 77, 78, 79, 80, 81, 82, 83, 84, 85, 86, 87, 88] (by decide +kernel) (by decide +kernel)
set_option maxRecDepth 20000 in
theorem gX8_digest_X8_entryPart : GoodIn wsX8_digest (wsV RX8 170 RX8 yX8_entryPart wsX8_entryPart) := goodIn_app (goodIn_of _ (by decide +kernel)) ggX8_digest_X8_entryPart
set_option maxRecDepth 20000 in
theorem ggX8_digest_X8_findRanks : GoodIn wsX8_digest wsX8_findRanks := goodIn_r _ [64, 3, 4, 65, 66, 67, 8, 68, 5, 6, 7, 9, 30, 31, 32, 33, 18, 19, 20, 21, 22, 23, 24, 25, 26, 27, 28, 29, 73, 74, 75, 76, 77, 78, 79, 80, 81, 82, 83, 84, 85, 86, 87, 88] (by decide +kernel) (by decide +kernel)
set_option maxRecDepth 20000 in
theorem gX8_digest_X8_findRanks : GoodIn wsX8_digest (wsV RX8 188 RX8 yX8_findRanks wsX8_findRanks) := goodIn_app (goodIn_of _ (by decide +kernel)) ggX8_digest_X8_findRanks
set_option maxRecDepth 20000 in
theorem ggX8_digest_X8_sumOf : GoodIn wsX8_digest wsX8_sumOf := goodIn_r _ [72, 14, 3, 5, 6, 7, 8, 9, 18, 19, 20, 21, 22, 23, 24, 25, 26, 27, 28, 29, 73, 74, 75, 76, 77, 78, 79, 80, 81, 82, 83, 84, 85, 86, 87, 88] (by decide +kernel) (by decide +kernel)
set_option maxRecDepth 20000 in
theorem gX8_digest_X8_sumOf : GoodIn wsX8_digest (wsV RX8 202 RX8 yX8_sumOf wsX8_sumOf) := goodIn_app (goodIn_of _ (by decide +kernel)) ggX8_digest_X8_sumOf
set_option maxRecDepth 20000 in
theorem ggJ0_length_8abf5_J0_coder_7d493 : GoodIn wsJ0_length_8abf5 wsJ0_coder_7d493 := goodIn_r _ [6, 7, 8] (by decide +kernel) (by decide +kernel)
set_option maxRecDepth 20000 in
theorem gJ0_length_8abf5_J0_coder_7d493 : GoodIn wsJ0_length_8abf5 (wsV RJ0 335 RJ0 yJ0_coder_7d493 wsJ0_coder_7d493) := goodIn_app (goodIn_of _ (by decide +kernel)) ggJ0_length_8abf5_J0_coder_7d493
set_option maxRecDepth 20000 in
theorem ggJ0_indexOf_0f7a4_J0_indexOf_7cf53 : GoodIn wsJ0_indexOf_0f7a4 wsJ0_indexOf_7cf53 := goodIn_r _ [5, 6, 7, 8, 9, 4, 10, 11, 12, 13, 14, 15, 16, 17, 18, 19, 20, 21, 22, 23, 24, 25, 26, 27, 28, 29, 30, 31, 32, 33, 34, 35, 36, 37, 38, 39, 40, 41, 42, 43, 44, 45, 46, 47, 48, 49, 50, 51, 52, 53, 54, 55, 56, 57, 58, 59, 60, 61, 62, 63, 64, 65, 66, 67, 68, 69, 70, 71, 72, 73, 74, 75, 76, 77, 78, 79, 80, 81, 82, 83, 84, 85] (by decide +kernel) (by decide +kernel)
set_option maxRecDepth 20000 in
theorem gJ0_indexOf_0f7a4_J0_indexOf_7cf53 : GoodIn wsJ0_indexOf_0f7a4 (wsV RJ0 633 RJ0 yJ0_indexOf_7cf53 wsJ0_indexOf_7cf53) := goodIn_app (goodIn_of _ (by decide +kernel)) ggJ0_indexOf_0f7a4_J0_indexOf_7cf53
set_option maxRecDepth 20000 in
theorem ggJ0_indexOf_7cf53_J0_isLatin1_aae02 : GoodIn wsJ0_indexOf_7cf53 wsJ0_isLatin1_aae02 := goodIn_r _ [6, 7, 8] (by decide +kernel) (by decide +kernel)
set_option maxRecDepth 20000 in
theorem gJ0_indexOf_7cf53_J0_isLatin1_aae02 : GoodIn wsJ0_indexOf_7cf53 (wsV RJ0 492 RJ0 yJ0_isLatin1_aae02 wsJ0_isLatin1_aae02) := goodIn_app (goodIn_of _ (by decide +kernel)) ggJ0_indexOf_7cf53_J0_isLatin1_aae02
set_option maxRecDepth 20000 in
theorem ggJ0_indexOf_7cf53_J0_length_8abf5 : GoodIn wsJ0_indexOf_7cf53 wsJ0_length_8abf5 := goodIn_r _ [12, 1, 13, 14, 15, 5, 16, 7, 8] (by decide +kernel) (by decide +kernel)
set_option maxRecDepth 20000 in
theorem gJ0_indexOf_7cf53_J0_length_8abf5 : GoodIn wsJ0_indexOf_7cf53 (wsV RJ0 505 RJ0 yJ0_length_8abf5 wsJ0_length_8abf5) := goodIn_app (goodIn_of _ (by decide +kernel)) ggJ0_indexOf_7cf53_J0_length_8abf5
set_option maxRecDepth 20000 in
theorem ggJ0_indexOf_7cf53_J1_indexOf_4cfef : GoodIn wsJ0_indexOf_7cf53 wsJ1_indexOf_4cfef := goodIn_r _ [20, 21, 22, 23, 24, 25, 26, 27, 28, 29, 19, 30, 31, 32, 33] (by decide +kernel) (by decide +kernel)
set_option maxRecDepth 20000 in
theorem gJ0_indexOf_7cf53_J1_indexOf_4cfef : GoodIn wsJ0_indexOf_7cf53 (va_wsS RJ0 637 yJ1_indexOf_4cfef wsJ1_indexOf_4cfef) := goodIn_app (goodIn_of _ (by decide +kernel)) ggJ0_indexOf_7cf53_J1_indexOf_4cfef
set_option maxRecDepth 20000 in
theorem ggJ0_indexOf_7cf53_J2_indexOf_4cfef : GoodIn wsJ0_indexOf_7cf53 wsJ2_indexOf_4cfef := goodIn_r _ [37, 38, 22, 23, 24, 39, 26, 27, 40, 41, 42, 36, 43, 44, 45, 46, 47, 48, 49, 50, 51, 5, 52, 53, 54, 55, 56, 57, 58, 59, 60, 61, 62, 63, 64, 65, 66, 67, 68, 69, 70, 71, 72, 73, 74, 75, 76, 77, 78, 79, 80, 81] (by decide +kernel) (by decide +kernel)
set_option maxRecDepth 20000 in
theorem gJ0_indexOf_7cf53_J2_indexOf_4cfef : GoodIn wsJ0_indexOf_7cf53 (va_wsS RJ0 640 yJ2_indexOf_4cfef wsJ2_indexOf_4cfef) := goodIn_app (goodIn_of _ (by decide +kernel)) ggJ0_indexOf_7cf53_J2_indexOf_4cfef
set_option maxRecDepth 20000 in
theorem ggJ0_checkBoundsBeginEnd_23922_J3_checkFromToIndex_8c36e : GoodIn wsJ0_checkBoundsBeginEnd_23922 wsJ3_checkFromToIndex_8c36e := goodIn_r _ [5] (by decide +kernel) (by decide +kernel)
set_option maxRecDepth 20000 in
theorem gJ0_checkBoundsBeginEnd_23922_J3_checkFromToIndex_8c36e : GoodIn wsJ0_checkBoundsBeginEnd_23922 (va_wsS RJ0 1062 yJ3_checkFromToIndex_8c36e wsJ3_checkFromToIndex_8c36e) := goodIn_app (goodIn_of _ (by decide +kernel)) ggJ0_checkBoundsBeginEnd_23922_J3_checkFromToIndex_8c36e
set_option maxRecDepth 20000 in
theorem ggJ1_indexOf_4cfef_J1_canEncode_9a6ad : GoodIn wsJ1_indexOf_4cfef wsJ1_canEncode_9a6ad := goodIn_r _ [11] (by decide +kernel) (by decide +kernel)
set_option maxRecDepth 20000 in
theorem gJ1_indexOf_4cfef_J1_canEncode_9a6ad : GoodIn wsJ1_indexOf_4cfef (va_wsS RJ1 88 yJ1_canEncode_9a6ad wsJ1_canEncode_9a6ad) := goodIn_app (goodIn_of _ (by decide +kernel)) ggJ1_indexOf_4cfef_J1_canEncode_9a6ad
set_option maxRecDepth 20000 in
theorem ggJ1_indexOf_4cfef_J1_indexOfChar_4cfef : GoodIn wsJ1_indexOf_4cfef wsJ1_indexOfChar_4cfef := goodIn_r _ [14] (by decide +kernel) (by decide +kernel)
set_option maxRecDepth 20000 in
theorem gJ1_indexOf_4cfef_J1_indexOfChar_4cfef : GoodIn wsJ1_indexOf_4cfef (va_wsS RJ1 95 yJ1_indexOfChar_4cfef wsJ1_indexOfChar_4cfef) := goodIn_app (goodIn_of _ (by decide +kernel)) ggJ1_indexOf_4cfef_J1_indexOfChar_4cfef
set_option maxRecDepth 20000 in
theorem ggJ2_getChar_3b067_J2_length_9d52b : GoodIn wsJ2_getChar_3b067 wsJ2_length_9d52b := goodIn_r _ [7] (by decide +kernel) (by decide +kernel)
set_option maxRecDepth 20000 in
theorem gJ2_getChar_3b067_J2_length_9d52b : GoodIn wsJ2_getChar_3b067 (va_wsS RJ2 48 yJ2_length_9d52b wsJ2_length_9d52b) := goodIn_app (goodIn_of _ (by decide +kernel)) ggJ2_getChar_3b067_J2_length_9d52b
set_option maxRecDepth 20000 in
theorem ggJ2_indexOf_4cfef_J2_indexOfChar_4cfef : GoodIn wsJ2_indexOf_4cfef wsJ2_indexOfChar_4cfef := goodIn_r _ [12, 13, 14, 11, 15, 16, 17, 18, 19, 20, 21, 22, 23, 24, 25, 26, 27, 28, 29, 30, 31, 32, 33, 34, 35, 36] (by decide +kernel) (by decide +kernel)
set_option maxRecDepth 20000 in
theorem gJ2_indexOf_4cfef_J2_indexOfChar_4cfef : GoodIn wsJ2_indexOf_4cfef (va_wsS RJ2 228 yJ2_indexOfChar_4cfef wsJ2_indexOfChar_4cfef) := goodIn_app (goodIn_of _ (by decide +kernel)) ggJ2_indexOf_4cfef_J2_indexOfChar_4cfef
set_option maxRecDepth 20000 in
theorem ggJ2_indexOf_4cfef_J2_indexOfSupplementary_4cfef : GoodIn wsJ2_indexOf_4cfef wsJ2_indexOfSupplementary_4cfef := goodIn_r _ [39, 40, 41, 42, 43, 44, 45, 46, 47, 48, 49, 50, 51, 13, 14, 11, 15, 16, 17, 18, 19, 20, 21, 22, 23, 24, 25, 26, 27, 31, 32, 33, 34, 35, 36] (by decide +kernel) (by decide +kernel)
set_option maxRecDepth 20000 in
theorem gJ2_indexOf_4cfef_J2_indexOfSupplementary_4cfef : GoodIn wsJ2_indexOf_4cfef (va_wsS RJ2 232 yJ2_indexOfSupplementary_4cfef wsJ2_indexOfSupplementary_4cfef) := goodIn_app (goodIn_of _ (by decide +kernel)) ggJ2_indexOf_4cfef_J2_indexOfSupplementary_4cfef
set_option maxRecDepth 20000 in
theorem ggJ2_indexOfChar_4cfef_J2_checkBoundsBeginEnd_d044e : GoodIn wsJ2_indexOfChar_4cfef wsJ2_checkBoundsBeginEnd_d044e := goodIn_r _ [4, 5, 6, 3, 7, 8, 9, 10, 11, 12, 13, 14, 15, 16] (by decide +kernel) (by decide +kernel)
set_option maxRecDepth 20000 in
theorem gJ2_indexOfChar_4cfef_J2_checkBoundsBeginEnd_d044e : GoodIn wsJ2_indexOfChar_4cfef (va_wsS RJ2 96 yJ2_checkBoundsBeginEnd_d044e wsJ2_checkBoundsBeginEnd_d044e) := goodIn_app (goodIn_of _ (by decide +kernel)) ggJ2_indexOfChar_4cfef_J2_checkBoundsBeginEnd_d044e
set_option maxRecDepth 20000 in
theorem ggJ2_indexOfChar_4cfef_J2_indexOfCharUnsafe_4cfef : GoodIn wsJ2_indexOfChar_4cfef wsJ2_indexOfCharUnsafe_4cfef := goodIn_r _ [19, 20, 21, 3, 22, 23, 24, 25, 5, 6, 7] (by decide +kernel) (by decide +kernel)
set_option maxRecDepth 20000 in
theorem gJ2_indexOfChar_4cfef_J2_indexOfCharUnsafe_4cfef : GoodIn wsJ2_indexOfChar_4cfef (va_wsS RJ2 244 yJ2_indexOfCharUnsafe_4cfef wsJ2_indexOfCharUnsafe_4cfef) := goodIn_app (goodIn_of _ (by decide +kernel)) ggJ2_indexOfChar_4cfef_J2_indexOfCharUnsafe_4cfef
set_option maxRecDepth 20000 in
theorem ggJ2_indexOfCharUnsafe_4cfef_J2_getChar_3b067 : GoodIn wsJ2_indexOfCharUnsafe_4cfef wsJ2_getChar_3b067 := goodIn_r _ [4, 5, 6, 7, 8, 9, 3, 10] (by decide +kernel) (by decide +kernel)
set_option maxRecDepth 20000 in
theorem gJ2_indexOfCharUnsafe_4cfef_J2_getChar_3b067 : GoodIn wsJ2_indexOfCharUnsafe_4cfef (va_wsS RJ2 71 yJ2_getChar_3b067 wsJ2_getChar_3b067) := goodIn_app (goodIn_of _ (by decide +kernel)) ggJ2_indexOfCharUnsafe_4cfef_J2_getChar_3b067
set_option maxRecDepth 20000 in
theorem ggJ2_indexOfSupplementary_4cfef_J11_isValidCodePoint_9a6ad : GoodIn wsJ2_indexOfSupplementary_4cfef wsJ11_isValidCodePoint_9a6ad := goodIn_r _ [4] (by decide +kernel) (by decide +kernel)
set_option maxRecDepth 20000 in
theorem gJ2_indexOfSupplementary_4cfef_J11_isValidCodePoint_9a6ad : GoodIn wsJ2_indexOfSupplementary_4cfef (va_wsS RJ2 164 yJ11_isValidCodePoint_9a6ad wsJ11_isValidCodePoint_9a6ad) := goodIn_app (goodIn_of _ (by decide +kernel)) ggJ2_indexOfSupplementary_4cfef_J11_isValidCodePoint_9a6ad
set_option maxRecDepth 20000 in
theorem ggJ2_indexOfSupplementary_4cfef_J11_highSurrogate_5068e : GoodIn wsJ2_indexOfSupplementary_4cfef wsJ11_highSurrogate_5068e := goodIn_r _ [7, 8] (by decide +kernel) (by decide +kernel)
set_option maxRecDepth 20000 in
theorem gJ2_indexOfSupplementary_4cfef_J11_highSurrogate_5068e : GoodIn wsJ2_indexOfSupplementary_4cfef (va_wsS RJ2 157 yJ11_highSurrogate_5068e wsJ11_highSurrogate_5068e) := goodIn_app (goodIn_of _ (by decide +kernel)) ggJ2_indexOfSupplementary_4cfef_J11_highSurrogate_5068e
set_option maxRecDepth 20000 in
theorem ggJ2_indexOfSupplementary_4cfef_J11_lowSurrogate_5068e : GoodIn wsJ2_indexOfSupplementary_4cfef wsJ11_lowSurrogate_5068e := goodIn_r _ [11, 12] (by decide +kernel) (by decide +kernel)
set_option maxRecDepth 20000 in
theorem gJ2_indexOfSupplementary_4cfef_J11_lowSurrogate_5068e : GoodIn wsJ2_indexOfSupplementary_4cfef (va_wsS RJ2 161 yJ11_lowSurrogate_5068e wsJ11_lowSurrogate_5068e) := goodIn_app (goodIn_of _ (by decide +kernel)) ggJ2_indexOfSupplementary_4cfef_J11_lowSurrogate_5068e
set_option maxRecDepth 20000 in
theorem ggJ2_indexOfSupplementary_4cfef_J2_checkBoundsBeginEnd_d044e : GoodIn wsJ2_indexOfSupplementary_4cfef wsJ2_checkBoundsBeginEnd_d044e := goodIn_r _ [16, 17, 18, 15, 19, 20, 21, 22, 23, 24, 25, 26, 27, 28] (by decide +kernel) (by decide +kernel)
set_option maxRecDepth 20000 in
theorem gJ2_indexOfSupplementary_4cfef_J2_checkBoundsBeginEnd_d044e : GoodIn wsJ2_indexOfSupplementary_4cfef (va_wsS RJ2 96 yJ2_checkBoundsBeginEnd_d044e wsJ2_checkBoundsBeginEnd_d044e) := goodIn_app (goodIn_of _ (by decide +kernel)) ggJ2_indexOfSupplementary_4cfef_J2_checkBoundsBeginEnd_d044e
set_option maxRecDepth 20000 in
theorem ggJ2_indexOfSupplementary_4cfef_J2_getChar_3b067 : GoodIn wsJ2_indexOfSupplementary_4cfef wsJ2_getChar_3b067 := goodIn_r _ [31, 32, 33, 34, 17, 18, 15, 19] (by decide +kernel) (by decide +kernel)
set_option maxRecDepth 20000 in
theorem gJ2_indexOfSupplementary_4cfef_J2_getChar_3b067 : GoodIn wsJ2_indexOfSupplementary_4cfef (va_wsS RJ2 71 yJ2_getChar_3b067 wsJ2_getChar_3b067) := goodIn_app (goodIn_of _ (by decide +kernel)) ggJ2_indexOfSupplementary_4cfef_J2_getChar_3b067
set_option maxRecDepth 20000 in
theorem ggJ2_checkBoundsBeginEnd_d044e_J2_length_9d52b : GoodIn wsJ2_checkBoundsBeginEnd_d044e wsJ2_length_9d52b := goodIn_r _ [4] (by decide +kernel) (by decide +kernel)
set_option maxRecDepth 20000 in
theorem gJ2_checkBoundsBeginEnd_d044e_J2_length_9d52b : GoodIn wsJ2_checkBoundsBeginEnd_d044e (va_wsS RJ2 48 yJ2_length_9d52b wsJ2_length_9d52b) := goodIn_app (goodIn_of _ (by decide +kernel)) ggJ2_checkBoundsBeginEnd_d044e_J2_length_9d52b
set_option maxRecDepth 20000 in
theorem ggJ2_checkBoundsBeginEnd_d044e_J0_checkBoundsBeginEnd_23922 : GoodIn wsJ2_checkBoundsBeginEnd_d044e wsJ0_checkBoundsBeginEnd_23922 := goodIn_r _ [8, 9, 10, 11, 12, 13] (by decide +kernel) (by decide +kernel)
set_option maxRecDepth 20000 in
theorem gJ2_checkBoundsBeginEnd_d044e_J0_checkBoundsBeginEnd_23922 : GoodIn wsJ2_checkBoundsBeginEnd_d044e (va_wsS RJ2 241 yJ0_checkBoundsBeginEnd_23922 wsJ0_checkBoundsBeginEnd_23922) := goodIn_app (goodIn_of _ (by decide +kernel)) ggJ2_checkBoundsBeginEnd_d044e_J0_checkBoundsBeginEnd_23922
