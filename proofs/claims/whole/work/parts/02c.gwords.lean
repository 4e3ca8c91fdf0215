set_option maxRecDepth 20000 in
theorem gX7_setRates_X5_changeRates : GoodIn wsX7_setRates (wsV RX7 41 RX5 yX5_changeRates wsX5_changeRates) := goodIn_app (goodIn_of _ (by decide +kernel)) ggX7_setRates_X5_changeRates
set_option maxRecDepth 20000 in
theorem ggX7_setRates_X7_keptUnlessError : GoodIn wsX7_setRates wsX7_keptUnlessError := goodIn_r _ [73, 1, 74, 75, 76, 6, 77, 8, 78, 79, 80, 81, 82, 83, 84, 85, 86, 87, 88, 89] (by decide +kernel) (by decide +kernel)
set_option maxRecDepth 20000 in
theorem gX7_setRates_X7_keptUnlessError : GoodIn wsX7_setRates (wsV RX7 45 RX7 yX7_keptUnlessError wsX7_keptUnlessError) := goodIn_app (goodIn_of _ (by decide +kernel)) ggX7_setRates_X7_keptUnlessError
set_option maxRecDepth 20000 in
theorem ggX7_setThreshold_X1_prepare : GoodIn wsX7_setThreshold wsX1_prepare := goodIn_r _ [7, 8, 9, 10, 11, 6, 12, 13, 14, 15, 16, 17, 18, 19, 20, 21, 22, 23, 24, 25, 26, 27, 28, 29, 30, 31, 32, 33, 34, 35, 36, 37, 38, 39, 40, 41, 42, 43, 44, 45, 46, 47, 48, 49, 50, 51, 52, 53, 54, 55, 56, 57, 58, 59, 60, 61, 62, 63, 86, 87, 88, 89, 90, 91, 92, 93, 94, 95, 96, 97, 98, 99, 100, 101, 102, 103, 104, 105, 106, 107, 108, 109, 110, 111, 112] (by decide +kernel) (by decide +kernel)
set_option maxRecDepth 20000 in
theorem gX7_setThreshold_X1_prepare : GoodIn wsX7_setThreshold (wsV RX7 37 RX1 yX1_prepare wsX1_prepare) := goodIn_app (goodIn_of _ (by decide +kernel)) ggX7_setThreshold_X1_prepare
set_option maxRecDepth 20000 in
theorem ggX7_setThreshold_X5_changeThreshold : GoodIn wsX7_setThreshold wsX5_changeThreshold := goodIn_r _ [67, 27, 89, 90, 91, 92, 93, 94, 95, 96, 97, 98, 99, 100, 101] (by decide +kernel) (by decide +kernel)
set_option maxRecDepth 20000 in
theorem gX7_setThreshold_X5_changeThreshold : GoodIn wsX7_setThreshold (wsV RX7 49 RX5 yX5_changeThreshold wsX5_changeThreshold) := goodIn_app (goodIn_of _ (by decide +kernel)) ggX7_setThreshold_X5_changeThreshold
set_option maxRecDepth 20000 in
theorem ggX7_setThreshold_X7_keptUnlessError : GoodIn wsX7_setThreshold wsX7_keptUnlessError := goodIn_r _ [72, 1, 73, 74, 75, 6, 76, 8, 77, 78, 79, 80, 81, 82, 83, 84, 85, 86, 87, 88] (by decide +kernel) (by decide +kernel)
set_option maxRecDepth 20000 in
theorem gX7_setThreshold_X7_keptUnlessError : GoodIn wsX7_setThreshold (wsV RX7 45 RX7 yX7_keptUnlessError wsX7_keptUnlessError) := goodIn_app (goodIn_of _ (by decide +kernel)) ggX7_setThreshold_X7_keptUnlessError
set_option maxRecDepth 20000 in
theorem ggX7_open_X1_prepare : GoodIn wsX7_open wsX1_prepare := goodIn_r _ [7, 8, 9, 10, 11, 6, 12, 13, 14, 15, 16, 17, 18, 19, 20, 21, 22, 23, 24, 25, 26, 27, 28, 29, 30, 31, 32, 33, 34, 35, 36, 37, 38, 39, 40, 41, 42, 43, 44, 45, 46, 47, 48, 49, 50, 51, 52, 53, 54, 55, 56, 57, 58, 59, 60, 61, 62, 63, 107, 108, 109, 110, 111, 112, 113, 114, 115, 116, 117, 118, 119, 120, 121, 122, 123, 124, 125, 126, 127, 128, 129, 130, 131, 132, 133] (by decide +kernel) (by decide +kernel)
set_option maxRecDepth 20000 in
theorem gX7_open_X1_prepare : GoodIn wsX7_open (wsV RX7 37 RX1 yX1_prepare wsX1_prepare) := goodIn_app (goodIn_of _ (by decide +kernel)) ggX7_open_X1_prepare
set_option maxRecDepth 20000 in
theorem ggX7_open_X5_openAccount : GoodIn wsX7_open wsX5_openAccount := goodIn_r _ [67, 19, 68, 23, 69, 70, 71, 35, 72, 37, 38, 73, 74, 75, 76, 43, 44, 45, 77, 78, 79, 80, 81, 82, 83, 84, 85, 86, 87, 88, 110, 111, 112, 113, 114, 115, 116, 117, 118, 119, 120, 121, 122, 123, 124, 125, 126, 127] (by decide +kernel) (by decide +kernel)
set_option maxRecDepth 20000 in
theorem gX7_open_X5_openAccount : GoodIn wsX7_open (wsV RX7 52 RX5 yX5_openAccount wsX5_openAccount) := goodIn_app (goodIn_of _ (by decide +kernel)) ggX7_open_X5_openAccount
set_option maxRecDepth 20000 in
theorem ggX7_open_X7_keptUnlessError : GoodIn wsX7_open wsX7_keptUnlessError := goodIn_r _ [93, 1, 94, 95, 96, 6, 97, 8, 98, 99, 100, 101, 102, 103, 104, 105, 106, 107, 108, 109] (by decide +kernel) (by decide +kernel)
set_option maxRecDepth 20000 in
theorem gX7_open_X7_keptUnlessError : GoodIn wsX7_open (wsV RX7 45 RX7 yX7_keptUnlessError wsX7_keptUnlessError) := goodIn_app (goodIn_of _ (by decide +kernel)) ggX7_open_X7_keptUnlessError
set_option maxRecDepth 20000 in
theorem ggX7_close_X1_prepare : GoodIn wsX7_close wsX1_prepare := goodIn_r _ [7, 8, 9, 10, 11, 6, 12, 13, 14, 15, 16, 17, 18, 19, 20, 21, 22, 23, 24, 25, 26, 27, 28, 29, 30, 31, 32, 33, 34, 35, 36, 37, 38, 39, 40, 41, 42, 43, 44, 45, 46, 47, 48, 49, 50, 51, 52, 53, 54, 55, 56, 57, 58, 59, 60, 61, 62, 63, 115, 116, 117, 118, 119, 120, 121, 122, 123, 124, 125, 126, 127, 128, 129, 130, 131, 132, 133, 134, 135, 136, 137, 138, 139, 140, 141] (by decide +kernel) (by decide +kernel)
set_option maxRecDepth 20000 in
theorem gX7_close_X1_prepare : GoodIn wsX7_close (wsV RX7 37 RX1 yX1_prepare wsX1_prepare) := goodIn_app (goodIn_of _ (by decide +kernel)) ggX7_close_X1_prepare
set_option maxRecDepth 20000 in
theorem ggX7_close_X5_closeAccount : GoodIn wsX7_close wsX5_closeAccount := goodIn_r _ [67, 19, 21, 68, 69, 70, 71, 35, 72, 37, 38, 73, 74, 75, 76, 43, 77, 78, 79, 80, 81, 82, 83, 49, 84, 51, 85, 86, 87, 88, 53, 89, 90, 91, 92, 93, 94, 95, 96, 44, 45, 118, 119, 120, 121, 122, 123, 124, 125, 126, 127, 128, 129, 130, 131, 132, 133, 134, 135, 136, 137, 138] (by decide +kernel) (by decide +kernel)
set_option maxRecDepth 20000 in
theorem gX7_close_X5_closeAccount : GoodIn wsX7_close (wsV RX7 55 RX5 yX5_closeAccount wsX5_closeAccount) := goodIn_app (goodIn_of _ (by decide +kernel)) ggX7_close_X5_closeAccount
set_option maxRecDepth 20000 in
theorem ggX7_close_X7_keptUnlessError : GoodIn wsX7_close wsX7_keptUnlessError := goodIn_r _ [101, 1, 102, 103, 104, 6, 105, 8, 106, 107, 108, 109, 110, 111, 112, 113, 114, 115, 116, 117] (by decide +kernel) (by decide +kernel)
set_option maxRecDepth 20000 in
theorem gX7_close_X7_keptUnlessError : GoodIn wsX7_close (wsV RX7 45 RX7 yX7_keptUnlessError wsX7_keptUnlessError) := goodIn_app (goodIn_of _ (by decide +kernel)) ggX7_close_X7_keptUnlessError
set_option maxRecDepth 20000 in
theorem ggX7_receive_X1_prepare : GoodIn wsX7_receive wsX1_prepare := goodIn_r _ [7, 8, 9, 10, 11, 6, 12, 13, 14, 15, 16, 17, 18, 19, 20, 21, 22, 23, 24, 25, 26, 27, 28, 29, 30, 31, 32, 33, 34, 35, 36, 37, 38, 39, 40, 41, 42, 43, 44, 45, 46, 47, 48, 49, 50, 51, 52, 53, 54, 55, 56, 57, 58, 59, 60, 61, 62, 63, 131, 132, 133, 134, 135, 136, 137, 138, 139, 140, 141, 142, 143, 144, 145, 146, 147, 148, 149, 150, 151, 152, 153, 154, 155, 156, 157] (by decide +kernel) (by decide +kernel)
set_option maxRecDepth 20000 in
theorem gX7_receive_X1_prepare : GoodIn wsX7_receive (wsV RX7 37 RX1 yX1_prepare wsX1_prepare) := goodIn_app (goodIn_of _ (by decide +kernel)) ggX7_receive_X1_prepare
set_option maxRecDepth 20000 in
theorem ggX7_receive_X5_takeReceipt : GoodIn wsX7_receive wsX5_takeReceipt := goodIn_r _ [67, 19, 68, 30, 69, 70, 71, 35, 72, 37, 38, 73, 74, 75, 76, 77, 78, 79, 80, 43, 81, 82, 83, 84, 85, 86, 87, 88, 89, 90, 91, 17, 92, 22, 23, 93, 94, 95, 58, 96, 61, 97, 98, 99, 100, 101, 102, 60, 103, 104, 105, 106, 62, 107, 108, 109, 110, 111, 112, 113, 44, 134, 135, 136, 137, 138, 139, 140, 141, 142, 143, 144, 145, 146, 147, 148, 149, 150, 151, 155, 156, 157] (by decide +kernel) (by decide +kernel)
set_option maxRecDepth 20000 in
theorem gX7_receive_X5_takeReceipt : GoodIn wsX7_receive (wsV RX7 58 RX5 yX5_takeReceipt wsX5_takeReceipt) := goodIn_app (goodIn_of _ (by decide +kernel)) ggX7_receive_X5_takeReceipt
set_option maxRecDepth 20000 in
theorem ggX7_receive_X7_keptUnlessError : GoodIn wsX7_receive wsX7_keptUnlessError := goodIn_r _ [117, 1, 118, 119, 120, 6, 121, 8, 122, 123, 124, 125, 126, 127, 128, 129, 130, 131, 132, 133] (by decide +kernel) (by decide +kernel)
set_option maxRecDepth 20000 in
theorem gX7_receive_X7_keptUnlessError : GoodIn wsX7_receive (wsV RX7 45 RX7 yX7_keptUnlessError wsX7_keptUnlessError) := goodIn_app (goodIn_of _ (by decide +kernel)) ggX7_receive_X7_keptUnlessError
set_option maxRecDepth 20000 in
theorem ggX7_pay_X1_prepare : GoodIn wsX7_pay wsX1_prepare := goodIn_r _ [7, 8, 9, 10, 11, 6, 12, 13, 14, 15, 16, 17, 18, 19, 20, 21, 22, 23, 24, 25, 26, 27, 28, 29, 30, 31, 32, 33, 34, 35, 36, 37, 38, 39, 40, 41, 42, 43, 44, 45, 46, 47, 48, 49, 50, 51, 52, 53, 54, 55, 56, 57, 58, 59, 60, 61, 62, 63, 146, 147, 148, 149, 150, 151, 152, 153, 154, 155, 156, 157, 158, 159, 160, 161, 162, 163, 164, 165, 166, 167, 168, 169, 170, 171, 172] (by decide +kernel) (by decide +kernel)
set_option maxRecDepth 20000 in
theorem gX7_pay_X1_prepare : GoodIn wsX7_pay (wsV RX7 37 RX1 yX1_prepare wsX1_prepare) := goodIn_app (goodIn_of _ (by decide +kernel)) ggX7_pay_X1_prepare
set_option maxRecDepth 20000 in
theorem ggX7_pay_X5_makePayment : GoodIn wsX7_pay wsX5_makePayment := goodIn_r _ [67, 19, 31, 68, 69, 70, 35, 71, 37, 38, 72, 73, 74, 75, 76, 77, 78, 17, 79, 20, 80, 81, 82, 83, 43, 84, 85, 86, 87, 88, 89, 90, 91, 92, 93, 94, 49, 95, 51, 96, 97, 98, 99, 53, 100, 101, 102, 103, 104, 105, 106, 107, 22, 23, 108, 109, 110, 58, 111, 61, 112, 113, 114, 115, 116, 117, 60, 118, 119, 120, 121, 62, 122, 123, 124, 125, 126, 127, 128, 44, 149, 150, 151, 152, 153, 154, 155, 156, 157, 158, 159, 160, 161, 162, 163, 164, 165, 166, 167, 168, 169, 170, 171, 172] (by decide +kernel) (by decide +kernel)
set_option maxRecDepth 20000 in
theorem gX7_pay_X5_makePayment : GoodIn wsX7_pay (wsV RX7 62 RX5 yX5_makePayment wsX5_makePayment) := goodIn_app (goodIn_of _ (by decide +kernel)) ggX7_pay_X5_makePayment
set_option maxRecDepth 20000 in
theorem ggX7_pay_X7_keptUnlessError : GoodIn wsX7_pay wsX7_keptUnlessError := goodIn_r _ [132, 1, 133, 134, 135, 6, 136, 8, 137, 138, 139, 140, 141, 142, 143, 144, 145, 146, 147, 148] (by decide +kernel) (by decide +kernel)
set_option maxRecDepth 20000 in
theorem gX7_pay_X7_keptUnlessError : GoodIn wsX7_pay (wsV RX7 45 RX7 yX7_keptUnlessError wsX7_keptUnlessError) := goodIn_app (goodIn_of _ (by decide +kernel)) ggX7_pay_X7_keptUnlessError
set_option maxRecDepth 20000 in
theorem ggX7_transfer_X1_prepare : GoodIn wsX7_transfer wsX1_prepare := goodIn_r _ [7, 8, 9, 10, 11, 6, 12, 13, 14, 15, 16, 17, 18, 19, 20, 21, 22, 23, 24, 25, 26, 27, 28, 29, 30, 31, 32, 33, 34, 35, 36, 37, 38, 39, 40, 41, 42, 43, 44, 45, 46, 47, 48, 49, 50, 51, 52, 53, 54, 55, 56, 57, 58, 59, 60, 61, 62, 63, 147, 148, 149, 150, 151, 152, 153, 154, 155, 156, 157, 158, 159, 160, 161, 162, 163, 164, 165, 166, 167, 168, 169, 170, 171, 172, 173] (by decide +kernel) (by decide +kernel)
set_option maxRecDepth 20000 in
theorem gX7_transfer_X1_prepare : GoodIn wsX7_transfer (wsV RX7 37 RX1 yX1_prepare wsX1_prepare) := goodIn_app (goodIn_of _ (by decide +kernel)) ggX7_transfer_X1_prepare
set_option maxRecDepth 20000 in
theorem ggX7_transfer_X5_makeTransfer : GoodIn wsX7_transfer wsX5_makeTransfer := goodIn_r _ [67, 19, 68, 69, 70, 71, 35, 72, 37, 38, 73, 74, 75, 76, 77, 78, 79, 17, 80, 20, 81, 82, 83, 84, 43, 85, 86, 87, 88, 89, 90, 91, 92, 93, 94, 95, 49, 96, 51, 97, 98, 99, 100, 53, 101, 102, 103, 104, 105, 106, 107, 108, 22, 23, 109, 110, 111, 58, 112, 61, 113, 114, 115, 116, 117, 118, 60, 119, 120, 121, 122, 62, 123, 124, 125, 126, 127, 128, 129, 44, 150, 151, 152, 153, 154, 155, 156, 157, 158, 159, 160, 161, 162, 163, 164, 165, 166, 167, 168, 169, 170, 171, 172, 173] (by decide +kernel) (by decide +kernel)
set_option maxRecDepth 20000 in
theorem gX7_transfer_X5_makeTransfer : GoodIn wsX7_transfer (wsV RX7 65 RX5 yX5_makeTransfer wsX5_makeTransfer) := goodIn_app (goodIn_of _ (by decide +kernel)) ggX7_transfer_X5_makeTransfer
set_option maxRecDepth 20000 in
theorem ggX7_transfer_X7_keptUnlessError : GoodIn wsX7_transfer wsX7_keptUnlessError := goodIn_r _ [133, 1, 134, 135, 136, 6, 137, 8, 138, 139, 140, 141, 142, 143, 144, 145, 146, 147, 148, 149] (by decide +kernel) (by decide +kernel)
set_option maxRecDepth 20000 in
theorem gX7_transfer_X7_keptUnlessError : GoodIn wsX7_transfer (wsV RX7 45 RX7 yX7_keptUnlessError wsX7_keptUnlessError) := goodIn_app (goodIn_of _ (by decide +kernel)) ggX7_transfer_X7_keptUnlessError
set_option maxRecDepth 20000 in
theorem ggX7_hold_X1_prepare : GoodIn wsX7_hold wsX1_prepare := goodIn_r _ [7, 8, 9, 10, 11, 6, 12, 13, 14, 15, 16, 17, 18, 19, 20, 21, 22, 23, 24, 25, 26, 27, 28, 29, 30, 31, 32, 33, 34, 35, 36, 37, 38, 39, 40, 41, 42, 43, 44, 45, 46, 47, 48, 49, 50, 51, 52, 53, 54, 55, 56, 57, 58, 59, 60, 61, 62, 63, 126, 127, 128, 129, 130, 131, 132, 133, 134, 135, 136, 137, 138, 139, 140, 141, 142, 143, 144, 145, 146, 147, 148, 149, 150, 151, 152] (by decide +kernel) (by decide +kernel)
set_option maxRecDepth 20000 in
theorem gX7_hold_X1_prepare : GoodIn wsX7_hold (wsV RX7 37 RX1 yX1_prepare wsX1_prepare) := goodIn_app (goodIn_of _ (by decide +kernel)) ggX7_hold_X1_prepare
set_option maxRecDepth 20000 in
theorem ggX7_hold_X5_makeHold : GoodIn wsX7_hold wsX5_makeHold := goodIn_r _ [67, 19, 20, 68, 23, 69, 70, 71, 35, 72, 37, 38, 73, 74, 75, 76, 77, 78, 79, 17, 80, 81, 82, 83, 84, 43, 85, 86, 87, 88, 89, 90, 91, 92, 93, 94, 95, 49, 96, 51, 97, 98, 99, 100, 53, 101, 102, 103, 104, 52, 105, 106, 107, 108, 129, 130, 131, 132, 133, 134, 135, 136, 137, 138, 139, 140, 141, 147, 148, 149, 142, 143, 144, 145, 146] (by decide +kernel) (by decide +kernel)
set_option maxRecDepth 20000 in
theorem gX7_hold_X5_makeHold : GoodIn wsX7_hold (wsV RX7 68 RX5 yX5_makeHold wsX5_makeHold) := goodIn_app (goodIn_of _ (by decide +kernel)) ggX7_hold_X5_makeHold
set_option maxRecDepth 20000 in
theorem ggX7_hold_X7_keptUnlessError : GoodIn wsX7_hold wsX7_keptUnlessError := goodIn_r _ [112, 1, 113, 114, 115, 6, 116, 8, 117, 118, 119, 120, 121, 122, 123, 124, 125, 126, 127, 128] (by decide +kernel) (by decide +kernel)
set_option maxRecDepth 20000 in
theorem gX7_hold_X7_keptUnlessError : GoodIn wsX7_hold (wsV RX7 45 RX7 yX7_keptUnlessError wsX7_keptUnlessError) := goodIn_app (goodIn_of _ (by decide +kernel)) ggX7_hold_X7_keptUnlessError
set_option maxRecDepth 20000 in
theorem ggX7_release_X1_prepare : GoodIn wsX7_release wsX1_prepare := goodIn_r _ [7, 8, 9, 10, 11, 6, 12, 13, 14, 15, 16, 17, 18, 19, 20, 21, 22, 23, 24, 25, 26, 27, 28, 29, 30, 31, 32, 33, 34, 35, 36, 37, 38, 39, 40, 41, 42, 43, 44, 45, 46, 47, 48, 49, 50, 51, 52, 53, 54, 55, 56, 57, 58, 59, 60, 61, 62, 63, 127, 128, 129, 130, 131, 132, 133, 134, 135, 136, 137, 138, 139, 140, 141, 142, 143, 144, 145, 146, 147, 148, 149, 150, 151, 152, 153] (by decide +kernel) (by decide +kernel)
set_option maxRecDepth 20000 in
theorem gX7_release_X1_prepare : GoodIn wsX7_release (wsV RX7 37 RX1 yX1_prepare wsX1_prepare) := goodIn_app (goodIn_of _ (by decide +kernel)) ggX7_release_X1_prepare
set_option maxRecDepth 20000 in
theorem ggX7_release_X5_endHold : GoodIn wsX7_release wsX5_endHold := goodIn_r _ [67, 20, 19, 68, 69, 70, 49, 71, 51, 72, 73, 74, 75, 53, 76, 77, 78, 79, 35, 80, 37, 38, 81, 82, 83, 84, 85, 86, 87, 88, 89, 90, 91, 17, 92, 93, 94, 95, 96, 43, 97, 98, 99, 100, 101, 102, 103, 104, 105, 106, 107, 108, 130, 131, 132, 133, 134, 135, 136, 137, 138, 139, 140, 141, 142, 148, 149, 150, 143, 144, 145, 146, 147] (by decide +kernel) (by decide +kernel)
set_option maxRecDepth 20000 in
theorem gX7_release_X5_endHold : GoodIn wsX7_release (wsV RX7 71 RX5 yX5_endHold wsX5_endHold) := goodIn_app (goodIn_of _ (by decide +kernel)) ggX7_release_X5_endHold
set_option maxRecDepth 20000 in
theorem ggX7_release_X7_keptUnlessError : GoodIn wsX7_release wsX7_keptUnlessError := goodIn_r _ [113, 1, 114, 115, 116, 6, 117, 8, 118, 119, 120, 121, 122, 123, 124, 125, 126, 127, 128, 129] (by decide +kernel) (by decide +kernel)
set_option maxRecDepth 20000 in
theorem gX7_release_X7_keptUnlessError : GoodIn wsX7_release (wsV RX7 45 RX7 yX7_keptUnlessError wsX7_keptUnlessError) := goodIn_app (goodIn_of _ (by decide +kernel)) ggX7_release_X7_keptUnlessError
set_option maxRecDepth 20000 in
theorem ggX7_bill_X1_prepare : GoodIn wsX7_bill wsX1_prepare := goodIn_r _ [7, 8, 9, 10, 11, 6, 12, 13, 14, 15, 16, 17, 18, 19, 20, 21, 22, 23, 24, 25, 26, 27, 28, 29, 30, 31, 32, 33, 34, 35, 36, 37, 38, 39, 40, 41, 42, 43, 44, 45, 46, 47, 48, 49, 50, 51, 52, 53, 54, 55, 56, 57, 58, 59, 60, 61, 62, 63, 102, 103, 104, 105, 106, 107, 108, 109, 110, 111, 112, 113, 114, 115, 116, 117, 118, 119, 120, 121, 122, 123, 124, 125, 126, 127, 128] (by decide +kernel) (by decide +kernel)
set_option maxRecDepth 20000 in
theorem gX7_bill_X1_prepare : GoodIn wsX7_bill (wsV RX7 37 RX1 yX1_prepare wsX1_prepare) := goodIn_app (goodIn_of _ (by decide +kernel)) ggX7_bill_X1_prepare
set_option maxRecDepth 20000 in
theorem ggX7_bill_X5_writeBill : GoodIn wsX7_bill wsX5_writeBill := goodIn_r _ [67, 19, 21, 68, 69, 70, 71, 35, 72, 37, 38, 73, 74, 75, 76, 77, 78, 79, 49, 80, 51, 52, 81, 82, 83, 84, 53, 105, 106, 107, 108, 109, 110, 111, 112, 113, 114, 115, 116, 117, 123, 124, 125, 118, 119, 120, 121, 122] (by decide +kernel) (by decide +kernel)
set_option maxRecDepth 20000 in
theorem gX7_bill_X5_writeBill : GoodIn wsX7_bill (wsV RX7 74 RX5 yX5_writeBill wsX5_writeBill) := goodIn_app (goodIn_of _ (by decide +kernel)) ggX7_bill_X5_writeBill
set_option maxRecDepth 20000 in
theorem ggX7_bill_X7_keptUnlessError : GoodIn wsX7_bill wsX7_keptUnlessError := goodIn_r _ [88, 1, 89, 90, 91, 6, 92, 8, 93, 94, 95, 96, 97, 98, 99, 100, 101, 102, 103, 104] (by decide +kernel) (by decide +kernel)
set_option maxRecDepth 20000 in
theorem gX7_bill_X7_keptUnlessError : GoodIn wsX7_bill (wsV RX7 45 RX7 yX7_keptUnlessError wsX7_keptUnlessError) := goodIn_app (goodIn_of _ (by decide +kernel)) ggX7_bill_X7_keptUnlessError
set_option maxRecDepth 20000 in
theorem ggX7_settle_X1_prepare : GoodIn wsX7_settle wsX1_prepare := goodIn_r _ [7, 8, 9, 10, 11, 6, 12, 13, 14, 15, 16, 17, 18, 19, 20, 21, 22, 23, 24, 25, 26, 27, 28, 29, 30, 31, 32, 33, 34, 35, 36, 37, 38, 39, 40, 41, 42, 43, 44, 45, 46, 47, 48, 49, 50, 51, 52, 53, 54, 55, 56, 57, 58, 59, 60, 61, 62, 63, 158, 159, 160, 161, 162, 163, 164, 165, 166, 167, 168, 169, 170, 171, 172, 173, 174, 175, 176, 177, 178, 179, 180, 181, 182, 183, 184] (by decide +kernel) (by decide +kernel)
set_option maxRecDepth 20000 in
theorem gX7_settle_X1_prepare : GoodIn wsX7_settle (wsV RX7 37 RX1 yX1_prepare wsX1_prepare) := goodIn_app (goodIn_of _ (by decide +kernel)) ggX7_settle_X1_prepare
set_option maxRecDepth 20000 in
theorem ggX7_settle_X5_settleBill : GoodIn wsX7_settle wsX5_settleBill := goodIn_r _ [67, 21, 19, 68, 69, 70, 71, 28, 72, 73, 74, 49, 75, 51, 76, 77, 78, 79, 53, 80, 81, 82, 83, 35, 84, 37, 38, 85, 86, 87, 17, 88, 20, 89, 90, 91, 92, 43, 93, 94, 95, 96, 97, 98, 99, 100, 101, 102, 103, 104, 105, 106, 107, 108, 109, 110, 111, 112, 113, 114, 115, 116, 117, 118, 119, 120, 121, 22, 23, 122, 123, 124, 58, 125, 61, 126, 127, 128, 129, 130, 131, 60, 132, 133, 134, 135, 62, 136, 137, 138, 139, 140, 141, 142, 44, 161, 162, 163, 164, 165, 166, 167, 168, 169, 170, 171, 172, 173, 179, 180, 181, 174, 175, 176, 177, 178, 182, 183, 184] (by decide +kernel) (by decide +kernel)
set_option maxRecDepth 20000 in
theorem gX7_settle_X5_settleBill : GoodIn wsX7_settle (wsV RX7 77 RX5 yX5_settleBill wsX5_settleBill) := goodIn_app (goodIn_of _ (by decide +kernel)) ggX7_settle_X5_settleBill
set_option maxRecDepth 20000 in
theorem ggX7_settle_X7_keptUnlessError : GoodIn wsX7_settle wsX7_keptUnlessError := goodIn_r _ [147, 1, 148, 149, 150, 6, 151, 8, 152, 153, 69, 70, 71, 154, 155, 156, 157, 158, 159, 160] (by decide +kernel) (by decide +kernel)
set_option maxRecDepth 20000 in
theorem gX7_settle_X7_keptUnlessError : GoodIn wsX7_settle (wsV RX7 45 RX7 yX7_keptUnlessError wsX7_keptUnlessError) := goodIn_app (goodIn_of _ (by decide +kernel)) ggX7_settle_X7_keptUnlessError
set_option maxRecDepth 20000 in
theorem ggX7_pass_X1_prepare : GoodIn wsX7_pass wsX1_prepare := goodIn_r _ [7, 8, 9, 10, 11, 6, 12, 13, 14, 15, 16, 17, 18, 19, 20, 21, 22, 23, 24, 25, 26, 27, 28, 29, 30, 31, 32, 33, 34, 35, 36, 37, 38, 39, 40, 41, 42, 43, 44, 45, 46, 47, 48, 49, 50, 51, 52, 53, 54, 55, 56, 57, 58, 59, 60, 61, 62, 63, 181, 182, 183, 184, 185, 186, 187, 188, 189, 190, 191, 192, 193, 194, 195, 196, 197, 198, 199, 200, 201, 202, 203, 204, 205, 206, 207] (by decide +kernel) (by decide +kernel)
set_option maxRecDepth 20000 in
theorem gX7_pass_X1_prepare : GoodIn wsX7_pass (wsV RX7 37 RX1 yX1_prepare wsX1_prepare) := goodIn_app (goodIn_of _ (by decide +kernel)) ggX7_pass_X1_prepare
set_option maxRecDepth 20000 in
theorem ggX7_pass_X5_letPass : GoodIn wsX7_pass wsX5_letPass := goodIn_r _ [67, 68, 23, 69, 29, 70, 71, 72, 73, 74, 75, 17, 76, 19, 77, 78, 79, 80, 35, 81, 43, 82, 83, 84, 85, 37, 86, 87, 88, 89, 24, 90, 91, 92, 93, 25, 26, 94, 95, 96, 97, 45, 98, 99, 100, 101, 102, 103, 104, 105, 106, 107, 108, 109, 110, 111, 112, 113, 114, 115, 27, 116, 117, 118, 119, 120, 121, 122, 123, 38, 124, 125, 126, 127, 22, 128, 129, 130, 58, 131, 61, 132, 133, 134, 135, 136, 137, 60, 138, 139, 140, 141, 62, 142, 143, 144, 145, 146, 147, 148, 149, 150, 151, 152, 44, 153, 154, 155, 156, 20, 157, 158, 159, 160, 49, 161, 51, 53, 162, 163, 164, 165, 166, 167, 168, 169, 170, 184, 185, 186, 187, 188, 189, 190, 191, 192, 193, 194, 195, 196, 197, 198, 199, 200, 201, 205, 206, 207, 202, 203, 204] (by decide +kernel) (by decide +kernel)
set_option maxRecDepth 20000 in
theorem gX7_pass_X5_letPass : GoodIn wsX7_pass (wsV RX7 80 RX5 yX5_letPass wsX5_letPass) := goodIn_app (goodIn_of _ (by decide +kernel)) ggX7_pass_X5_letPass
set_option maxRecDepth 20000 in
theorem ggX7_pass_X1_keep : GoodIn wsX7_pass wsX1_keep := goodIn_r _ [174, 8, 175, 176, 91, 92, 93, 181, 182, 183] (by decide +kernel) (by decide +kernel)
set_option maxRecDepth 20000 in
theorem gX7_pass_X1_keep : GoodIn wsX7_pass (wsV RX7 84 RX1 yX1_keep wsX1_keep) := goodIn_app (goodIn_of _ (by decide +kernel)) ggX7_pass_X1_keep
set_option maxRecDepth 20000 in
theorem ggX7_reverse_X1_prepare : GoodIn wsX7_reverse wsX1_prepare := goodIn_r _ [7, 8, 9, 10, 11, 6, 12, 13, 14, 15, 16, 17, 18, 19, 20, 21, 22, 23, 24, 25, 26, 27, 28, 29, 30, 31, 32, 33, 34, 35, 36, 37, 38, 39, 40, 41, 42, 43, 44, 45, 46, 47, 48, 49, 50, 51, 52, 53, 54, 55, 56, 57, 58, 59, 60, 61, 62, 63, 158, 159, 160, 161, 162, 163, 164, 165, 166, 167, 168, 169, 170, 171, 172, 173, 174, 175, 176, 177, 178, 179, 180, 181, 182, 183, 184] (by decide +kernel) (by decide +kernel)
set_option maxRecDepth 20000 in
theorem gX7_reverse_X1_prepare : GoodIn wsX7_reverse (wsV RX7 37 RX1 yX1_prepare wsX1_prepare) := goodIn_app (goodIn_of _ (by decide +kernel)) ggX7_reverse_X1_prepare
set_option maxRecDepth 20000 in
theorem ggX7_reverse_X5_reverseEntry : GoodIn wsX7_reverse wsX5_reverseEntry := goodIn_r _ [67, 22, 19, 68, 30, 31, 69, 70, 71, 72, 58, 73, 60, 74, 75, 76, 77, 62, 78, 79, 80, 81, 82, 83, 84, 35, 85, 37, 38, 86, 87, 88, 17, 89, 20, 90, 91, 92, 93, 43, 94, 95, 96, 97, 98, 99, 100, 101, 102, 103, 104, 49, 105, 51, 106, 107, 108, 109, 53, 110, 111, 112, 113, 114, 115, 116, 117, 118, 119, 120, 121, 122, 123, 124, 125, 23, 126, 127, 128, 129, 61, 130, 131, 132, 133, 134, 135, 136, 137, 138, 139, 44, 161, 162, 163, 164, 165, 166, 167, 168, 169, 170, 171, 172, 173, 182, 183, 184, 174, 175, 176, 177, 178, 179, 180, 181] (by decide +kernel) (by decide +kernel)
set_option maxRecDepth 20000 in
theorem gX7_reverse_X5_reverseEntry : GoodIn wsX7_reverse (wsV RX7 87 RX5 yX5_reverseEntry wsX5_reverseEntry) := goodIn_app (goodIn_of _ (by decide +kernel)) ggX7_reverse_X5_reverseEntry
set_option maxRecDepth 20000 in
theorem ggX7_reverse_X7_keptUnlessError : GoodIn wsX7_reverse wsX7_keptUnlessError := goodIn_r _ [144, 1, 145, 146, 147, 6, 148, 8, 149, 150, 151, 152, 153, 154, 155, 156, 157, 158, 159, 160] (by decide +kernel) (by decide +kernel)
set_option maxRecDepth 20000 in
theorem gX7_reverse_X7_keptUnlessError : GoodIn wsX7_reverse (wsV RX7 45 RX7 yX7_keptUnlessError wsX7_keptUnlessError) := goodIn_app (goodIn_of _ (by decide +kernel)) ggX7_reverse_X7_keptUnlessError
set_option maxRecDepth 20000 in
theorem ggX7_ranked_X3_sort : GoodIn wsX7_ranked wsX3_sort := goodIn_r _ [9, 10, 11, 12, 13, 14, 15, 16, 17, 18, 19, 20, 8, 21, 22, 23, 24, 25, 26, 27, 28, 29, 30, 31, 32, 33, 34, 35, 36, 37, 38, 39, 40, 41, 42, 43, 44, 45, 46, 47, 48, 49, 50, 51, 52, 53, 54, 55, 56, 57, 58, 59, 60, 61, 62, 71, 72, 73, 74, 75, 76, 77, 78, 79, 80, 81, 82, 83, 84, 85, 86, 87, 88, 89, 90, 91, 92, 93, 94] (by decide +kernel) (by decide +kernel)
set_option maxRecDepth 20000 in
theorem gX7_ranked_X3_sort : GoodIn wsX7_ranked (wsV RX7 103 RX3 yX3_sort wsX3_sort) := goodIn_app (goodIn_of _ (by decide +kernel)) ggX7_ranked_X3_sort
set_option maxRecDepth 20000 in
theorem ggX7_ranked_X3_clientAt : GoodIn wsX7_ranked wsX3_clientAt := goodIn_r _ [66, 16, 18, 89, 90, 91] (by decide +kernel) (by decide +kernel)
set_option maxRecDepth 20000 in
theorem gX7_ranked_X3_clientAt : GoodIn wsX7_ranked (wsV RX7 107 RX3 yX3_clientAt wsX3_clientAt) := goodIn_app (goodIn_of _ (by decide +kernel)) ggX7_ranked_X3_clientAt
set_option maxRecDepth 20000 in
theorem ggX7_of_X0_find : GoodIn wsX7_of wsX0_find := goodIn_r _ [7, 8, 9, 83, 84, 85, 86, 87] (by decide +kernel) (by decide +kernel)
set_option maxRecDepth 20000 in
theorem gX7_of_X0_find : GoodIn wsX7_of (wsV RX7 110 RX0 yX0_find wsX0_find) := goodIn_app (goodIn_of _ (by decide +kernel)) ggX7_of_X0_find
set_option maxRecDepth 20000 in
theorem ggX7_of_X5_aboutClient : GoodIn wsX7_of wsX5_aboutClient := goodIn_r _ [14, 15, 16, 17, 18, 19, 20, 21, 22, 23, 24, 25, 26, 6, 27, 9, 28, 29, 30, 31, 8, 32, 33, 34, 35, 36, 37, 38, 39, 40, 41, 42, 43, 44, 45, 46, 47, 48, 49, 50, 13, 51, 52, 53, 54, 55, 56, 57, 58, 59, 60, 61, 62, 63, 64, 65, 70, 71, 72, 73, 74, 75, 76, 77, 78, 79, 80, 81, 82, 83, 84, 85, 86, 87, 88, 89, 90] (by decide +kernel) (by decide +kernel)
set_option maxRecDepth 20000 in
theorem gX7_of_X5_aboutClient : GoodIn wsX7_of (wsV RX7 113 RX5 yX5_aboutClient wsX5_aboutClient) := goodIn_app (goodIn_of _ (by decide +kernel)) ggX7_of_X5_aboutClient
set_option maxRecDepth 20000 in
theorem ggX7_holdOf_X7_aboutRow : GoodIn wsX7_holdOf wsX7_aboutRow := goodIn_r _ [6, 7, 8, 9, 10, 11, 12, 13, 14, 15, 16, 17, 18, 36, 37, 38] (by decide +kernel) (by decide +kernel)
set_option maxRecDepth 20000 in
theorem gX7_holdOf_X7_aboutRow : GoodIn wsX7_holdOf (va_wsS RX7 120 yX7_aboutRow wsX7_aboutRow) := goodIn_app (goodIn_of _ (by decide +kernel)) ggX7_holdOf_X7_aboutRow
set_option maxRecDepth 20000 in
theorem ggX7_billOf_X7_aboutRow : GoodIn wsX7_billOf wsX7_aboutRow := goodIn_r _ [6, 7, 8, 9, 10, 11, 12, 13, 14, 15, 16, 17, 18, 36, 37, 38] (by decide +kernel) (by decide +kernel)
set_option maxRecDepth 20000 in
theorem gX7_billOf_X7_aboutRow : GoodIn wsX7_billOf (va_wsS RX7 120 yX7_aboutRow wsX7_aboutRow) := goodIn_app (goodIn_of _ (by decide +kernel)) ggX7_billOf_X7_aboutRow
set_option maxRecDepth 20000 in
theorem ggX7_entry_X6_keeps : GoodIn wsX7_entry wsX6_keeps := goodIn_r _ [7, 8, 35, 36, 37] (by decide +kernel) (by decide +kernel)
set_option maxRecDepth 20000 in
theorem gX7_entry_X6_keeps : GoodIn wsX7_entry (wsV RX7 136 RX6 yX6_keeps wsX6_keeps) := goodIn_app (goodIn_of _ (by decide +kernel)) ggX7_entry_X6_keeps
set_option maxRecDepth 20000 in
theorem ggX7_entry_X6_get : GoodIn wsX7_entry wsX6_get := goodIn_r _ [12, 13, 14, 15, 6, 16, 17, 4, 5, 7, 8, 35, 36, 37] (by decide +kernel) (by decide +kernel)
set_option maxRecDepth 20000 in
theorem gX7_entry_X6_get : GoodIn wsX7_entry (wsV RX7 140 RX6 yX6_get wsX6_get) := goodIn_app (goodIn_of _ (by decide +kernel)) ggX7_entry_X6_get
set_option maxRecDepth 20000 in
theorem ggX7_sum_X0_sumOfBalances : GoodIn wsX7_sum wsX0_sumOfBalances := goodIn_r _ [13, 14, 15, 16, 17, 12, 18, 19, 20, 21, 22, 23, 52, 53, 54, 55, 56] (by decide +kernel) (by decide +kernel)
set_option maxRecDepth 20000 in
theorem gX7_sum_X0_sumOfBalances : GoodIn wsX7_sum (wsV RX7 143 RX0 yX0_sumOfBalances wsX0_sumOfBalances) := goodIn_app (goodIn_of _ (by decide +kernel)) ggX7_sum_X0_sumOfBalances
set_option maxRecDepth 20000 in
theorem ggX7_sum_X4_sumOfAll : GoodIn wsX7_sum wsX4_sumOfAll := goodIn_r _ [28, 29, 30, 31, 32, 27, 33, 34, 57, 58, 59] (by decide +kernel) (by decide +kernel)
set_option maxRecDepth 20000 in
theorem gX7_sum_X4_sumOfAll : GoodIn wsX7_sum (wsV RX7 149 RX4 yX4_sumOfAll wsX4_sumOfAll) := goodIn_app (goodIn_of _ (by decide +kernel)) ggX7_sum_X4_sumOfAll
set_option maxRecDepth 20000 in
theorem ggX7_payableOn_X0_find : GoodIn wsX7_payableOn wsX0_find := goodIn_r _ [7, 8, 9, 91, 92, 93, 94, 95] (by decide +kernel) (by decide +kernel)
set_option maxRecDepth 20000 in
theorem gX7_payableOn_X0_find : GoodIn wsX7_payableOn (wsV RX7 110 RX0 yX0_find wsX0_find) := goodIn_app (goodIn_of _ (by decide +kernel)) ggX7_payableOn_X0_find
set_option maxRecDepth 20000 in
theorem ggX7_payableOn_X7_isAmount : GoodIn wsX7_payableOn wsX7_isAmount := goodIn_r _ [13, 14] (by decide +kernel) (by decide +kernel)
set_option maxRecDepth 20000 in
theorem gX7_payableOn_X7_isAmount : GoodIn wsX7_payableOn (va_wsS RX7 167 yX7_isAmount wsX7_isAmount) := goodIn_app (goodIn_of _ (by decide +kernel)) ggX7_payableOn_X7_isAmount
set_option maxRecDepth 20000 in
theorem ggX7_payableOn_X5_firstDayWithFree : GoodIn wsX7_payableOn wsX5_firstDayWithFree := goodIn_r _ [19, 20, 21, 22, 23, 24, 25, 6, 26, 9, 27, 28, 29, 30, 8, 31, 32, 33, 34, 35, 36, 37, 38, 39, 40, 41, 42, 43, 18, 44, 45, 46, 47, 48, 49, 50, 51, 52, 53, 54, 55, 56, 57, 58, 59, 60, 61, 62, 63, 64, 65, 66, 67, 68, 69, 70, 71, 72, 73, 78, 79, 80, 81, 82, 83, 84, 85, 86, 87, 88, 89, 90, 91, 92, 93, 94, 95, 96, 97, 98] (by decide +kernel) (by decide +kernel)
set_option maxRecDepth 20000 in
theorem gX7_payableOn_X5_firstDayWithFree : GoodIn wsX7_payableOn (wsV RX7 170 RX5 yX5_firstDayWithFree wsX5_firstDayWithFree) := goodIn_app (goodIn_of _ (by decide +kernel)) ggX7_payableOn_X5_firstDayWithFree
set_option maxRecDepth 20000 in
theorem ggX7_interestIn_X0_find : GoodIn wsX7_interestIn wsX0_find := goodIn_r _ [7, 8, 9, 72, 73, 74, 75, 76] (by decide +kernel) (by decide +kernel)
set_option maxRecDepth 20000 in
theorem gX7_interestIn_X0_find : GoodIn wsX7_interestIn (wsV RX7 110 RX0 yX0_find wsX0_find) := goodIn_app (goodIn_of _ (by decide +kernel)) ggX7_interestIn_X0_find
set_option maxRecDepth 20000 in
theorem ggX7_interestIn_X5_interestAhead : GoodIn wsX7_interestIn wsX5_interestAhead := goodIn_r _ [14, 15, 16, 17, 18, 19, 20, 6, 21, 22, 23, 24, 25, 26, 8, 27, 28, 29, 30, 31, 32, 33, 34, 35, 36, 37, 13, 38, 39, 40, 41, 42, 43, 44, 45, 46, 47, 48, 49, 50, 51, 52, 53, 54, 59, 60, 61, 62, 63, 64, 65, 66, 67, 68, 69, 70, 71, 72, 73, 74, 75, 76] (by decide +kernel) (by decide +kernel)
set_option maxRecDepth 20000 in
theorem gX7_interestIn_X5_interestAhead : GoodIn wsX7_interestIn (wsV RX7 173 RX5 yX5_interestAhead wsX5_interestAhead) := goodIn_app (goodIn_of _ (by decide +kernel)) ggX7_interestIn_X5_interestAhead
set_option maxRecDepth 20000 in
theorem ggX7_type_X2_append : GoodIn wsX7_type wsX2_append := goodIn_r _ [7, 8, 9, 14, 15, 16, 17, 18, 19, 20] (by decide +kernel) (by decide +kernel)
set_option maxRecDepth 20000 in
theorem gX7_type_X2_append : GoodIn wsX7_type (wsV RX7 179 RX2 yX2_append wsX2_append) := goodIn_app (goodIn_of _ (by decide +kernel)) ggX7_type_X2_append
set_option maxRecDepth 20000 in
theorem ggX7_clearText_X2_empty : GoodIn wsX7_clearText wsX2_empty := goodIn_r _ [6, 7, 12, 13, 14, 15, 16, 17, 18] (by decide +kernel) (by decide +kernel)
set_option maxRecDepth 20000 in
theorem gX7_clearText_X2_empty : GoodIn wsX7_clearText (wsV RX7 183 RX2 yX2_empty wsX2_empty) := goodIn_app (goodIn_of _ (by decide +kernel)) ggX7_clearText_X2_empty
set_option maxRecDepth 20000 in
theorem ggX7_syntaxError_X2_firstError : GoodIn wsX7_syntaxError wsX2_firstError := goodIn_r _ [6, 7, 8, 9, 10, 5, 11, 12, 13, 14, 15, 16, 17, 18, 19, 20, 21, 22, 23, 24, 25, 26, 27, 28, 29, 30, 31, 32, 33, 34, 35, 36, 37, 38, 39, 40, 41, 42, 43, 44, 45, 46, 47, 48, 49, 50, 51, 52, 53, 54, 55, 56, 57, 58, 59, 60, 61, 62, 63, 64, 65, 66, 67, 68, 69, 70, 71, 72, 73, 74, 75, 76, 77, 78, 79, 80, 81, 82, 83, 84, 85, 86, 87, 88, 89, 90, 91, 92, 93, 94, 95, 96, 97, 98, 99, 100, 101, 102, 103, 104, 105, 106, 107, 112, 113, 114, 115, 116, 117, 118] (by decide +kernel) (by decide +kernel)
set_option maxRecDepth 20000 in
theorem gX7_syntaxError_X2_firstError : GoodIn wsX7_syntaxError (wsV RX7 187 RX2 yX2_firstError wsX2_firstError) := goodIn_app (goodIn_of _ (by decide +kernel)) ggX7_syntaxError_X2_firstError
set_option maxRecDepth 20000 in
theorem ggX7_carryOut_X2_firstError : GoodIn wsX7_carryOut wsX2_firstError := goodIn_r _ [8, 9, 10, 11, 12, 7, 13, 14, 15, 16, 17, 18, 19, 20, 21, 22, 23, 24, 25, 26, 27, 28, 29, 30, 31, 32, 33, 34, 35, 36, 37, 38, 39, 40, 41, 42, 43, 44, 45, 46, 47, 48, 49, 50, 51, 52, 53, 54, 55, 56, 57, 58, 59, 60, 61, 62, 63, 64, 65, 66, 67, 68, 69, 70, 71, 72, 73, 74, 75, 76, 77, 78, 79, 80, 81, 82, 83, 84, 85, 86, 87, 88, 89, 90, 91, 92, 93, 94, 95, 96, 97, 98, 99, 100, 101, 102, 103, 104, 105, 106, 107, 108, 109, 355, 356, 357, 358, 359, 360, 361] (by decide +kernel) (by decide +kernel)
set_option maxRecDepth 20000 in
theorem gX7_carryOut_X2_firstError : GoodIn wsX7_carryOut (wsV RX7 187 RX2 yX2_firstError wsX2_firstError) := goodIn_app (goodIn_of _ (by decide +kernel)) ggX7_carryOut_X2_firstError
set_option maxRecDepth 20000 in
theorem ggX7_carryOut_X1_prepare : GoodIn wsX7_carryOut wsX1_prepare := goodIn_r _ [114, 115, 116, 117, 118, 113, 119, 120, 121, 122, 123, 124, 125, 126, 127, 128, 129, 130, 131, 132, 133, 134, 135, 136, 137, 138, 139, 140, 141, 142, 143, 144, 145, 146, 147, 148, 149, 150, 151, 152, 153, 154, 155, 156, 157, 158, 159, 160, 161, 162, 163, 164, 165, 166, 167, 168, 169, 170, 362, 363, 364, 365, 366, 367, 368, 369, 370, 371, 372, 373, 374, 375, 376, 377, 378, 379, 380, 381, 382, 383, 384, 385, 386, 387, 388] (by decide +kernel) (by decide +kernel)
set_option maxRecDepth 20000 in
theorem gX7_carryOut_X1_prepare : GoodIn wsX7_carryOut (wsV RX7 37 RX1 yX1_prepare wsX1_prepare) := goodIn_app (goodIn_of _ (by decide +kernel)) ggX7_carryOut_X1_prepare
set_option maxRecDepth 20000 in
theorem ggX7_carryOut_X2_startReading : GoodIn wsX7_carryOut wsX2_startReading := goodIn_r _ [174, 175, 355, 356, 357, 358, 359, 360, 361] (by decide +kernel) (by decide +kernel)
set_option maxRecDepth 20000 in
theorem gX7_carryOut_X2_startReading : GoodIn wsX7_carryOut (wsV RX7 190 RX2 yX2_startReading wsX2_startReading) := goodIn_app (goodIn_of _ (by decide +kernel)) ggX7_carryOut_X2_startReading
set_option maxRecDepth 20000 in
theorem ggX7_carryOut_X2_readOrder : GoodIn wsX7_carryOut wsX2_readOrder := goodIn_r _ [179, 175, 9, 180, 181, 182, 183, 10, 11, 12, 7, 13, 14, 184, 185, 186, 187, 104, 105, 106, 107, 108, 109, 355, 356, 357, 358, 359, 360, 361] (by decide +kernel) (by decide +kernel)
set_option maxRecDepth 20000 in
theorem gX7_carryOut_X2_readOrder : GoodIn wsX7_carryOut (wsV RX7 193 RX2 yX2_readOrder wsX2_readOrder) := goodIn_app (goodIn_of _ (by decide +kernel)) ggX7_carryOut_X2_readOrder
set_option maxRecDepth 20000 in
theorem ggX7_carryOut_X7_carryOutOrder : GoodIn wsX7_carryOut wsX7_carryOutOrder := goodIn_r _ [192, 1, 193, 3, 194, 195, 196, 197, 198, 199, 200, 124, 201, 126, 202, 137, 203, 204, 205, 142, 206, 144, 145, 207, 191, 208, 209, 210, 211, 212, 213, 150, 214, 215, 216, 217, 218, 219, 220, 221, 222, 223, 224, 225, 129, 130, 226, 227, 228, 165, 229, 168, 230, 231, 232, 233, 234, 235, 167, 236, 237, 238, 239, 169, 240, 241, 242, 243, 244, 245, 246, 151, 247, 248, 249, 250, 138, 251, 252, 253, 254, 127, 255, 256, 257, 258, 259, 260, 261, 156, 262, 158, 263, 264, 265, 266, 160, 267, 268, 269, 270, 271, 272, 273, 274, 128, 275, 276, 277, 278, 279, 159, 280, 281, 282, 283, 284, 285, 286, 287, 288, 48, 45, 49, 135, 289, 290, 291, 292, 293, 294, 295, 296, 297, 298, 299, 300, 301, 302, 303, 304, 136, 305, 306, 307, 308, 309, 310, 311, 312, 313, 314, 315, 131, 132, 133, 316, 317, 318, 319, 152, 320, 321, 322, 323, 324, 325, 326, 327, 328, 329, 330, 331, 332, 333, 334, 335, 336, 134, 337, 338, 339, 340, 351, 352, 353, 354, 355, 356, 357, 358, 359, 360, 361, 365, 366, 367, 368, 369, 370, 371, 372, 373, 374, 375, 376, 377, 378, 379, 380, 381, 382, 386, 387, 388, 383, 384, 385] (by decide +kernel) (by decide +kernel)
set_option maxRecDepth 20000 in
theorem gX7_carryOut_X7_carryOutOrder : GoodIn wsX7_carryOut (wsV RX7 197 RX7 yX7_carryOutOrder wsX7_carryOutOrder) := goodIn_app (goodIn_of _ (by decide +kernel)) ggX7_carryOut_X7_carryOutOrder
set_option maxRecDepth 20000 in
theorem ggX7_carryOut_X2_empty : GoodIn wsX7_carryOut wsX2_empty := goodIn_r _ [344, 9, 355, 356, 357, 358, 359, 360, 361] (by decide +kernel) (by decide +kernel)
set_option maxRecDepth 20000 in
theorem gX7_carryOut_X2_empty : GoodIn wsX7_carryOut (wsV RX7 183 RX2 yX2_empty wsX2_empty) := goodIn_app (goodIn_of _ (by decide +kernel)) ggX7_carryOut_X2_empty
set_option maxRecDepth 20000 in
theorem ggX7_carryOut_X1_keep : GoodIn wsX7_carryOut wsX1_keep := goodIn_r _ [348, 115, 349, 350, 48, 45, 49, 362, 363, 364] (by decide +kernel) (by decide +kernel)
set_option maxRecDepth 20000 in
theorem gX7_carryOut_X1_keep : GoodIn wsX7_carryOut (wsV RX7 84 RX1 yX1_keep wsX1_keep) := goodIn_app (goodIn_of _ (by decide +kernel)) ggX7_carryOut_X1_keep
set_option maxRecDepth 20000 in
theorem ggX7_undo_X1_restoreLatest : GoodIn wsX7_undo wsX1_restoreLatest := goodIn_r _ [8, 9, 10, 11, 12, 13, 7, 14, 15, 16, 17, 18, 19, 20, 21, 22, 23, 24, 25, 26, 27, 28, 29, 30, 31, 32, 33, 34, 35, 36, 37, 38, 39, 40, 41, 42, 43, 44, 45, 46, 47, 48, 49, 50, 51, 52, 53, 54, 55, 56, 57, 58, 59, 60, 61, 62, 63, 64, 65, 70, 71, 72, 73, 74, 75, 76, 77, 78, 79, 80, 81, 82, 83, 84, 85, 86, 87, 88, 89, 90, 91, 92, 93, 94, 95, 96] (by decide +kernel) (by decide +kernel)
set_option maxRecDepth 20000 in
theorem gX7_undo_X1_restoreLatest : GoodIn wsX7_undo (wsV RX7 203 RX1 yX1_restoreLatest wsX1_restoreLatest) := goodIn_app (goodIn_of _ (by decide +kernel)) ggX7_undo_X1_restoreLatest
set_option maxRecDepth 20000 in
theorem ggX7_digest_X7_hashOfClients : GoodIn wsX7_digest wsX7_hashOfClients := goodIn_r _ [13, 2, 5, 6, 4, 14, 15, 16, 17, 18, 19, 20, 21, 22, 23, 24, 25, 26, 27, 28, 29, 30, 31, 32, 33, 34, 35, 36, 37, 38, 39, 40, 41, 42, 43, 44, 45, 46, 47, 48, 49, 50, 51, 52, 53, 54, 55, 56, 57, 58, 59, 60, 61, 62, 63, 64, 65, 66, 67, 68, 69, 70, 71, 72, 73, 147, 148, 149, 150, 151, 152, 153, 154, 155, 156, 157, 158, 159, 160, 161, 162, 163, 164, 165, 166, 167, 168, 169, 170, 171] (by decide +kernel) (by decide +kernel)
set_option maxRecDepth 20000 in
theorem gX7_digest_X7_hashOfClients : GoodIn wsX7_digest (wsV RX7 211 RX7 yX7_hashOfClients wsX7_hashOfClients) := goodIn_app (goodIn_of _ (by decide +kernel)) ggX7_digest_X7_hashOfClients
set_option maxRecDepth 20000 in
theorem ggX7_digest_X7_hashOfRows : GoodIn wsX7_digest wsX7_hashOfRows := goodIn_r _ [76, 77, 4, 78, 52, 53, 48, 54, 50, 55, 169, 170, 171] (by decide +kernel) (by decide +kernel)
set_option maxRecDepth 20000 in
theorem gX7_digest_X7_hashOfRows : GoodIn wsX7_digest (va_wsS RX7 215 yX7_hashOfRows wsX7_hashOfRows) := goodIn_app (goodIn_of _ (by decide +kernel)) ggX7_digest_X7_hashOfRows
set_option maxRecDepth 20000 in
theorem ggX7_digest_X7_hashOfTrail : GoodIn wsX7_digest wsX7_hashOfTrail := goodIn_r _ [82, 2, 83, 4, 84, 85, 86, 87, 88, 89, 90, 91, 92, 93, 94, 95, 96, 97, 98, 99, 147, 148, 149, 150, 151, 152, 153, 154, 155, 156, 157, 158, 159, 160, 161, 162, 163, 172, 173, 174] (by decide +kernel) (by decide +kernel)
set_option maxRecDepth 20000 in
theorem gX7_digest_X7_hashOfTrail : GoodIn wsX7_digest (wsV RX7 219 RX7 yX7_hashOfTrail wsX7_hashOfTrail) := goodIn_app (goodIn_of _ (by decide +kernel)) ggX7_digest_X7_hashOfTrail
set_option maxRecDepth 20000 in
theorem ggX7_digest_X7_hashOfRanks : GoodIn wsX7_digest wsX7_hashOfRanks := goodIn_r _ [103, 104, 2, 5, 6, 4, 105, 106, 107, 108, 109, 110, 111, 112, 113, 36, 114, 115, 116, 117, 118, 119, 120, 121, 41, 42, 17, 43, 44, 20, 21, 22, 23, 24, 122, 57, 58, 28, 59, 30, 31, 40, 39, 15, 16, 18, 19, 45, 46, 47, 48, 49, 50, 51, 52, 53, 54, 55, 123, 66, 67, 68, 69, 124, 125, 126, 127, 128, 147, 148, 149, 150, 151, 152, 153, 154, 155, 156, 157, 158, 159, 160, 161, 162, 163, 164, 165, 166, 167, 168, 175, 176, 177, 169, 170, 171] (by decide +kernel) (by decide +kernel)
set_option maxRecDepth 20000 in
theorem gX7_digest_X7_hashOfRanks : GoodIn wsX7_digest (wsV RX7 222 RX7 yX7_hashOfRanks wsX7_hashOfRanks) := goodIn_app (goodIn_of _ (by decide +kernel)) ggX7_digest_X7_hashOfRanks
set_option maxRecDepth 20000 in
theorem ggX7_digest_X7_sum : GoodIn wsX7_digest wsX7_sum := goodIn_r _ [132, 2, 5, 7, 133, 134, 135, 136, 137, 138, 139, 140, 17, 141, 24, 142, 41, 42, 43, 44, 20, 21, 22, 23, 143, 144, 145, 48, 146, 50, 51, 52, 53, 54, 55, 147, 148, 149, 150, 151, 152, 153, 154, 155, 156, 157, 158, 159, 160, 161, 162, 163, 164, 165, 166, 167, 168, 169, 170, 171] (by decide +kernel) (by decide +kernel)
set_option maxRecDepth 20000 in
theorem gX7_digest_X7_sum : GoodIn wsX7_digest (wsV RX7 225 RX7 yX7_sum wsX7_sum) := goodIn_app (goodIn_of _ (by decide +kernel)) ggX7_digest_X7_sum
set_option maxRecDepth 20000 in
theorem ggX7_keptUnlessError_X1_keep : GoodIn wsX7_keptUnlessError wsX1_keep := goodIn_r _ [6, 7, 8, 9, 10, 11, 12, 17, 18, 19] (by decide +kernel) (by decide +kernel)
set_option maxRecDepth 20000 in
theorem gX7_keptUnlessError_X1_keep : GoodIn wsX7_keptUnlessError (wsV RX7 84 RX1 yX1_keep wsX1_keep) := goodIn_app (goodIn_of _ (by decide +kernel)) ggX7_keptUnlessError_X1_keep
set_option maxRecDepth 20000 in
theorem ggX7_aboutRow_X4_find : GoodIn wsX7_aboutRow wsX4_find := goodIn_r _ [5, 6, 7, 8, 9, 4, 10, 11, 13, 14, 15] (by decide +kernel) (by decide +kernel)
set_option maxRecDepth 20000 in
theorem gX7_aboutRow_X4_find : GoodIn wsX7_aboutRow (wsV RX7 228 RX4 yX4_find wsX4_find) := goodIn_app (goodIn_of _ (by decide +kernel)) ggX7_aboutRow_X4_find
set_option maxRecDepth 20000 in
theorem ggX7_aboutRow_X4_get : GoodIn wsX7_aboutRow wsX4_get := goodIn_r _ [10, 6, 11, 13, 14, 15] (by decide +kernel) (by decide +kernel)
set_option maxRecDepth 20000 in
theorem gX7_aboutRow_X4_get : GoodIn wsX7_aboutRow (wsV RX7 229 RX4 yX4_get wsX4_get) := goodIn_app (goodIn_of _ (by decide +kernel)) ggX7_aboutRow_X4_get
set_option maxRecDepth 20000 in
theorem ggX7_carryOutOrder_X5_takeReceipt : GoodIn wsX7_carryOutOrder wsX5_takeReceipt := goodIn_r _ [12, 13, 14, 15, 16, 17, 18, 19, 20, 21, 22, 23, 24, 25, 26, 27, 28, 29, 30, 31, 32, 33, 34, 35, 36, 37, 38, 39, 40, 41, 42, 11, 43, 44, 45, 46, 47, 48, 49, 50, 51, 52, 53, 54, 55, 56, 57, 58, 59, 60, 61, 62, 63, 64, 65, 66, 67, 68, 69, 70, 71, 194, 195, 196, 197, 198, 199, 200, 201, 202, 203, 204, 205, 206, 207, 208, 209, 210, 211, 212, 213, 214] (by decide +kernel) (by decide +kernel)
set_option maxRecDepth 20000 in
theorem gX7_carryOutOrder_X5_takeReceipt : GoodIn wsX7_carryOutOrder (wsV RX7 58 RX5 yX5_takeReceipt wsX5_takeReceipt) := goodIn_app (goodIn_of _ (by decide +kernel)) ggX7_carryOutOrder_X5_takeReceipt
set_option maxRecDepth 20000 in
theorem ggX7_carryOutOrder_X5_makePayment : GoodIn wsX7_carryOutOrder wsX5_makePayment := goodIn_r _ [75, 13, 76, 16, 17, 18, 19, 20, 21, 22, 23, 24, 25, 26, 77, 78, 79, 11, 80, 81, 27, 28, 29, 30, 31, 32, 33, 34, 35, 82, 83, 84, 85, 86, 87, 88, 89, 90, 91, 92, 93, 94, 95, 96, 36, 37, 38, 39, 40, 41, 42, 43, 44, 45, 46, 47, 48, 49, 50, 51, 52, 53, 54, 55, 56, 57, 58, 59, 60, 61, 62, 63, 64, 65, 66, 67, 68, 69, 70, 71, 194, 195, 196, 197, 198, 199, 200, 201, 202, 203, 204, 205, 206, 207, 208, 209, 210, 211, 215, 216, 217, 212, 213, 214] (by decide +kernel) (by decide +kernel)
set_option maxRecDepth 20000 in
theorem gX7_carryOutOrder_X5_makePayment : GoodIn wsX7_carryOutOrder (wsV RX7 62 RX5 yX5_makePayment wsX5_makePayment) := goodIn_app (goodIn_of _ (by decide +kernel)) ggX7_carryOutOrder_X5_makePayment
set_option maxRecDepth 20000 in
theorem ggX7_carryOutOrder_X5_makeTransfer : GoodIn wsX7_carryOutOrder wsX5_makeTransfer := goodIn_r _ [100, 13, 14, 16, 17, 18, 19, 20, 21, 22, 23, 24, 25, 26, 77, 78, 79, 11, 80, 81, 27, 28, 29, 30, 31, 32, 33, 34, 35, 82, 83, 84, 85, 86, 87, 88, 89, 90, 91, 92, 93, 94, 95, 96, 36, 37, 38, 39, 40, 41, 42, 43, 44, 45, 46, 47, 48, 49, 50, 51, 52, 53, 54, 55, 56, 57, 58, 59, 60, 61, 62, 63, 64, 65, 66, 67, 68, 69, 70, 71, 194, 195, 196, 197, 198, 199, 200, 201, 202, 203, 204, 205, 206, 207, 208, 209, 210, 211, 215, 216, 217, 212, 213, 214] (by decide +kernel) (by decide +kernel)
set_option maxRecDepth 20000 in
theorem gX7_carryOutOrder_X5_makeTransfer : GoodIn wsX7_carryOutOrder (wsV RX7 65 RX5 yX5_makeTransfer wsX5_makeTransfer) := goodIn_app (goodIn_of _ (by decide +kernel)) ggX7_carryOutOrder_X5_makeTransfer
set_option maxRecDepth 20000 in
theorem ggX7_carryOutOrder_X5_writeBill : GoodIn wsX7_carryOutOrder wsX5_writeBill := goodIn_r _ [104, 13, 105, 106, 16, 17, 18, 19, 20, 21, 22, 23, 24, 25, 26, 107, 108, 109, 89, 110, 91, 111, 112, 113, 114, 115, 96, 194, 195, 196, 197, 198, 199, 200, 201, 202, 203, 204, 205, 206, 215, 216, 217, 207, 208, 209, 210, 211] (by decide +kernel) (by decide +kernel)
set_option maxRecDepth 20000 in
theorem gX7_carryOutOrder_X5_writeBill : GoodIn wsX7_carryOutOrder (wsV RX7 74 RX5 yX5_writeBill wsX5_writeBill) := goodIn_app (goodIn_of _ (by decide +kernel)) ggX7_carryOutOrder_X5_writeBill
set_option maxRecDepth 20000 in
theorem ggX7_carryOutOrder_X5_settleBill : GoodIn wsX7_carryOutOrder wsX5_settleBill := goodIn_r _ [119, 105, 13, 120, 121, 122, 123, 124, 125, 126, 127, 89, 128, 91, 92, 93, 94, 95, 96, 129, 16, 17, 18, 19, 20, 21, 22, 77, 78, 79, 11, 80, 81, 27, 28, 29, 30, 31, 32, 33, 34, 35, 82, 83, 84, 85, 86, 87, 88, 90, 36, 37, 38, 39, 130, 131, 132, 133, 112, 113, 114, 115, 134, 40, 41, 42, 43, 44, 45, 46, 47, 48, 49, 50, 51, 52, 53, 54, 55, 56, 57, 58, 59, 60, 61, 62, 63, 64, 65, 66, 67, 68, 69, 70, 71, 194, 195, 196, 197, 198, 199, 200, 201, 202, 203, 204, 205, 206, 215, 216, 217, 207, 208, 209, 210, 211, 212, 213, 214] (by decide +kernel) (by decide +kernel)
set_option maxRecDepth 20000 in
theorem gX7_carryOutOrder_X5_settleBill : GoodIn wsX7_carryOutOrder (wsV RX7 77 RX5 yX5_settleBill wsX5_settleBill) := goodIn_app (goodIn_of _ (by decide +kernel)) ggX7_carryOutOrder_X5_settleBill
set_option maxRecDepth 20000 in
theorem ggX7_carryOutOrder_X5_letPass : GoodIn wsX7_carryOutOrder wsX5_letPass := goodIn_r _ [138, 139, 45, 140, 141, 142, 24, 143, 144, 145, 146, 11, 147, 13, 148, 27, 28, 29, 19, 30, 31, 32, 33, 34, 35, 21, 149, 150, 151, 152, 153, 120, 121, 122, 123, 154, 155, 156, 157, 158, 159, 160, 161, 162, 163, 164, 165, 166, 167, 168, 169, 170, 171, 172, 173, 174, 14, 175, 176, 177, 178, 36, 37, 38, 39, 82, 83, 84, 85, 22, 40, 41, 42, 43, 44, 46, 47, 48, 49, 50, 51, 52, 53, 54, 55, 56, 57, 58, 59, 60, 61, 62, 63, 64, 65, 66, 16, 17, 18, 20, 67, 68, 69, 70, 71, 179, 180, 181, 182, 81, 106, 129, 93, 94, 89, 95, 91, 96, 130, 131, 132, 133, 92, 112, 113, 114, 115, 194, 195, 196, 197, 198, 199, 200, 201, 202, 203, 204, 205, 206, 207, 208, 209, 210, 211, 212, 213, 214, 215, 216, 217] (by decide +kernel) (by decide +kernel)
set_option maxRecDepth 20000 in
theorem gX7_carryOutOrder_X5_letPass : GoodIn wsX7_carryOutOrder (wsV RX7 80 RX5 yX5_letPass wsX5_letPass) := goodIn_app (goodIn_of _ (by decide +kernel)) ggX7_carryOutOrder_X5_letPass
set_option maxRecDepth 20000 in
theorem ggX7_hashOfClients_X0_numberAt : GoodIn wsX7_hashOfClients wsX0_numberAt := goodIn_r _ [9, 10, 11, 12, 13, 8, 14, 15, 82, 83, 84, 85, 86] (by decide +kernel) (by decide +kernel)
set_option maxRecDepth 20000 in
theorem gX7_hashOfClients_X0_numberAt : GoodIn wsX7_hashOfClients (wsV RX7 246 RX0 yX0_numberAt wsX0_numberAt) := goodIn_app (goodIn_of _ (by decide +kernel)) ggX7_hashOfClients_X0_numberAt
set_option maxRecDepth 20000 in
theorem ggX7_hashOfClients_X5_aboutClient : GoodIn wsX7_hashOfClients wsX5_aboutClient := goodIn_r _ [20, 21, 22, 23, 24, 25, 26, 27, 28, 29, 30, 6, 7, 8, 9, 10, 11, 12, 13, 14, 15, 31, 32, 33, 34, 35, 36, 37, 38, 39, 40, 41, 42, 43, 44, 45, 46, 47, 48, 49, 19, 50, 51, 52, 53, 54, 55, 56, 57, 58, 59, 60, 61, 62, 63, 64, 69, 70, 71, 72, 73, 74, 75, 76, 77, 78, 79, 80, 81, 82, 83, 84, 85, 86, 87, 88, 89] (by decide +kernel) (by decide +kernel)
set_option maxRecDepth 20000 in
theorem gX7_hashOfClients_X5_aboutClient : GoodIn wsX7_hashOfClients (wsV RX7 113 RX5 yX5_aboutClient wsX5_aboutClient) := goodIn_app (goodIn_of _ (by decide +kernel)) ggX7_hashOfClients_X5_aboutClient
set_option maxRecDepth 20000 in
theorem ggX7_hashOfRows_X4_get : GoodIn wsX7_hashOfRows wsX4_get := goodIn_r _ [7, 8, 9, 10, 11, 12] (by decide +kernel) (by decide +kernel)
set_option maxRecDepth 20000 in
theorem gX7_hashOfRows_X4_get : GoodIn wsX7_hashOfRows (wsV RX7 229 RX4 yX4_get wsX4_get) := goodIn_app (goodIn_of _ (by decide +kernel)) ggX7_hashOfRows_X4_get
set_option maxRecDepth 20000 in
theorem ggX7_hashOfTrail_X6_keeps : GoodIn wsX7_hashOfTrail wsX6_keeps := goodIn_r _ [9, 10, 37, 38, 39] (by decide +kernel) (by decide +kernel)
set_option maxRecDepth 20000 in
theorem gX7_hashOfTrail_X6_keeps : GoodIn wsX7_hashOfTrail (wsV RX7 136 RX6 yX6_keeps wsX6_keeps) := goodIn_app (goodIn_of _ (by decide +kernel)) ggX7_hashOfTrail_X6_keeps
set_option maxRecDepth 20000 in
theorem ggX7_hashOfTrail_X6_get : GoodIn wsX7_hashOfTrail wsX6_get := goodIn_r _ [14, 15, 16, 17, 8, 18, 19, 6, 7, 9, 10, 37, 38, 39] (by decide +kernel) (by decide +kernel)
set_option maxRecDepth 20000 in
theorem gX7_hashOfTrail_X6_get : GoodIn wsX7_hashOfTrail (wsV RX7 140 RX6 yX6_get wsX6_get) := goodIn_app (goodIn_of _ (by decide +kernel)) ggX7_hashOfTrail_X6_get
set_option maxRecDepth 20000 in
theorem ggX7_hashOfRanks_X3_sort : GoodIn wsX7_hashOfRanks wsX3_sort := goodIn_r _ [10, 11, 12, 13, 14, 15, 16, 17, 18, 19, 20, 21, 9, 22, 23, 24, 25, 26, 27, 28, 29, 30, 31, 32, 33, 34, 35, 36, 37, 38, 39, 40, 41, 42, 43, 44, 45, 46, 47, 48, 49, 50, 51, 52, 53, 54, 55, 56, 57, 58, 59, 60, 61, 62, 63, 72, 73, 74, 75, 76, 77, 78, 79, 80, 81, 82, 83, 84, 85, 86, 87, 88, 89, 90, 91, 92, 93, 94, 95] (by decide +kernel) (by decide +kernel)
set_option maxRecDepth 20000 in
theorem gX7_hashOfRanks_X3_sort : GoodIn wsX7_hashOfRanks (wsV RX7 103 RX3 yX3_sort wsX3_sort) := goodIn_app (goodIn_of _ (by decide +kernel)) ggX7_hashOfRanks_X3_sort
set_option maxRecDepth 20000 in
theorem ggX7_hashOfRanks_X3_clientAt : GoodIn wsX7_hashOfRanks wsX3_clientAt := goodIn_r _ [67, 17, 19, 90, 91, 92] (by decide +kernel) (by decide +kernel)
set_option maxRecDepth 20000 in
theorem gX7_hashOfRanks_X3_clientAt : GoodIn wsX7_hashOfRanks (wsV RX7 107 RX3 yX3_clientAt wsX3_clientAt) := goodIn_app (goodIn_of _ (by decide +kernel)) ggX7_hashOfRanks_X3_clientAt
set_option maxRecDepth 20000 in
theorem ggX8_find_X8_part : GoodIn wsX8_find wsX8_part := goodIn_r _ [6, 1, 7, 8, 9, 10, 11, 12, 13, 14, 15, 16, 17, 18, 19, 20, 21, 22] (by decide +kernel) (by decide +kernel)
set_option maxRecDepth 20000 in
theorem gX8_find_X8_part : GoodIn wsX8_find (wsV RX8 34 RX8 yX8_part wsX8_part) := goodIn_app (goodIn_of _ (by decide +kernel)) ggX8_find_X8_part
set_option maxRecDepth 20000 in
theorem ggX8_heldOn_X8_holdPart : GoodIn wsX8_heldOn wsX8_holdPart := goodIn_r _ [6, 1, 7, 8, 9, 10, 11, 12, 13, 14, 15, 16, 17, 18, 19, 20, 21, 22] (by decide +kernel) (by decide +kernel)
set_option maxRecDepth 20000 in
theorem gX8_heldOn_X8_holdPart : GoodIn wsX8_heldOn (wsV RX8 38 RX8 yX8_holdPart wsX8_holdPart) := goodIn_app (goodIn_of _ (by decide +kernel)) ggX8_heldOn_X8_holdPart
set_option maxRecDepth 20000 in
theorem ggX8_held_X8_part : GoodIn wsX8_held wsX8_part := goodIn_r _ [6, 1, 15, 16, 17, 18, 19, 20, 21, 22, 23, 24, 25, 26, 27, 28, 29, 30] (by decide +kernel) (by decide +kernel)
set_option maxRecDepth 20000 in
theorem gX8_held_X8_part : GoodIn wsX8_held (wsV RX8 34 RX8 yX8_part wsX8_part) := goodIn_app (goodIn_of _ (by decide +kernel)) ggX8_held_X8_part
set_option maxRecDepth 20000 in
theorem ggX8_held_X8_heldOn : GoodIn wsX8_held wsX8_heldOn := goodIn_r _ [10, 1, 11, 12, 13, 5, 14, 15, 16, 17, 18, 19, 20, 21, 22, 23, 24, 25, 26, 27, 28, 29, 30] (by decide +kernel) (by decide +kernel)
set_option maxRecDepth 20000 in
theorem gX8_held_X8_heldOn : GoodIn wsX8_held (wsV RX8 41 RX8 yX8_heldOn wsX8_heldOn) := goodIn_app (goodIn_of _ (by decide +kernel)) ggX8_held_X8_heldOn
set_option maxRecDepth 20000 in
theorem ggX8_free_X8_part : GoodIn wsX8_free wsX8_part := goodIn_r _ [5, 6, 19, 20, 21, 22, 23, 24, 25, 26, 27, 28, 29, 30, 31, 32, 33, 34] (by decide +kernel) (by decide +kernel)
set_option maxRecDepth 20000 in
theorem gX8_free_X8_part : GoodIn wsX8_free (wsV RX8 34 RX8 yX8_part wsX8_part) := goodIn_app (goodIn_of _ (by decide +kernel)) ggX8_free_X8_part
set_option maxRecDepth 20000 in
theorem ggX8_free_X8_held : GoodIn wsX8_free wsX8_held := goodIn_r _ [10, 6, 1, 2, 3, 4, 5, 11, 12, 13, 14, 15, 16, 17, 18, 19, 20, 21, 22, 23, 24, 25, 26, 27, 28, 29, 30, 31, 32, 33, 34] (by decide +kernel) (by decide +kernel)
set_option maxRecDepth 20000 in
theorem gX8_free_X8_held : GoodIn wsX8_free (wsV RX8 44 RX8 yX8_held wsX8_held) := goodIn_app (goodIn_of _ (by decide +kernel)) ggX8_free_X8_held
set_option maxRecDepth 20000 in
theorem ggX8_findHold_X8_holdPart : GoodIn wsX8_findHold wsX8_holdPart := goodIn_r _ [6, 1, 7, 8, 9, 10, 11, 12, 13, 14, 15, 16, 17, 18, 19, 20, 21, 22] (by decide +kernel) (by decide +kernel)
set_option maxRecDepth 20000 in
theorem gX8_findHold_X8_holdPart : GoodIn wsX8_findHold (wsV RX8 38 RX8 yX8_holdPart wsX8_holdPart) := goodIn_app (goodIn_of _ (by decide +kernel)) ggX8_findHold_X8_holdPart
set_option maxRecDepth 20000 in
theorem ggX8_findBill_X8_billPart : GoodIn wsX8_findBill wsX8_billPart := goodIn_r _ [6, 1, 7, 8, 9, 10, 11, 12, 13, 14, 15, 16, 17, 18, 19, 20, 21, 22] (by decide +kernel) (by decide +kernel)
set_option maxRecDepth 20000 in
theorem gX8_findBill_X8_billPart : GoodIn wsX8_findBill (wsV RX8 48 RX8 yX8_billPart wsX8_billPart) := goodIn_app (goodIn_of _ (by decide +kernel)) ggX8_findBill_X8_billPart
set_option maxRecDepth 20000 in
theorem ggX8_enters_X8_part : GoodIn wsX8_enters wsX8_part := goodIn_r _ [12, 1, 17, 18, 19, 20, 21, 22, 23, 24, 25, 26, 27, 28, 29, 30, 31, 32] (by decide +kernel) (by decide +kernel)
set_option maxRecDepth 20000 in
theorem gX8_enters_X8_part : GoodIn wsX8_enters (wsV RX8 34 RX8 yX8_part wsX8_part) := goodIn_app (goodIn_of _ (by decide +kernel)) ggX8_enters_X8_part
set_option maxRecDepth 20000 in
theorem ggX8_enters_X8_setPart : GoodIn wsX8_enters wsX8_setPart := goodIn_r _ [16, 1, 17, 18, 19, 20, 21, 22, 23, 24, 25, 26, 27, 28, 29, 30, 31, 32] (by decide +kernel) (by decide +kernel)
set_option maxRecDepth 20000 in
theorem gX8_enters_X8_setPart : GoodIn wsX8_enters (wsV RX8 63 RX8 yX8_setPart wsX8_setPart) := goodIn_app (goodIn_of _ (by decide +kernel)) ggX8_enters_X8_setPart
set_option maxRecDepth 20000 in
theorem ggX8_isEntry_X8_within : GoodIn wsX8_isEntry wsX8_within := goodIn_r _ [5] (by decide +kernel) (by decide +kernel)
set_option maxRecDepth 20000 in
theorem gX8_isEntry_X8_within : GoodIn wsX8_isEntry (va_wsS RX8 67 yX8_within wsX8_within) := goodIn_app (goodIn_of _ (by decide +kernel)) ggX8_isEntry_X8_within
set_option maxRecDepth 20000 in
theorem ggX8_setRates_X8_within : GoodIn wsX8_setRates wsX8_within := goodIn_r _ [6] (by decide +kernel) (by decide +kernel)
set_option maxRecDepth 20000 in
theorem gX8_setRates_X8_within : GoodIn wsX8_setRates (va_wsS RX8 67 yX8_within wsX8_within) := goodIn_app (goodIn_of _ (by decide +kernel)) ggX8_setRates_X8_within
set_option maxRecDepth 20000 in
theorem ggX8_setRates_X8_record : GoodIn wsX8_setRates wsX8_record := goodIn_r _ [10, 11, 12, 13, 2, 14, 15, 16, 17, 18, 19, 20, 21, 22, 23, 24, 25, 26, 27, 28, 29, 30] (by decide +kernel) (by decide +kernel)
set_option maxRecDepth 20000 in
theorem gX8_setRates_X8_record : GoodIn wsX8_setRates (wsV RX8 72 RX8 yX8_record wsX8_record) := goodIn_app (goodIn_of _ (by decide +kernel)) ggX8_setRates_X8_record
set_option maxRecDepth 20000 in
theorem ggX8_setThreshold_X8_within : GoodIn wsX8_setThreshold wsX8_within := goodIn_r _ [5] (by decide +kernel) (by decide +kernel)
set_option maxRecDepth 20000 in
theorem gX8_setThreshold_X8_within : GoodIn wsX8_setThreshold (va_wsS RX8 67 yX8_within wsX8_within) := goodIn_app (goodIn_of _ (by decide +kernel)) ggX8_setThreshold_X8_within
set_option maxRecDepth 20000 in
theorem ggX8_setThreshold_X8_record : GoodIn wsX8_setThreshold wsX8_record := goodIn_r _ [9, 10, 11, 12, 1, 13, 14, 15, 16, 17, 18, 19, 20, 21, 22, 23, 24, 25, 26, 27, 28, 29] (by decide +kernel) (by decide +kernel)
set_option maxRecDepth 20000 in
theorem gX8_setThreshold_X8_record : GoodIn wsX8_setThreshold (wsV RX8 72 RX8 yX8_record wsX8_record) := goodIn_app (goodIn_of _ (by decide +kernel)) ggX8_setThreshold_X8_record
set_option maxRecDepth 20000 in
theorem ggX8_open_X8_within : GoodIn wsX8_open wsX8_within := goodIn_r _ [6] (by decide +kernel) (by decide +kernel)
set_option maxRecDepth 20000 in
theorem gX8_open_X8_within : GoodIn wsX8_open (va_wsS RX8 67 yX8_within wsX8_within) := goodIn_app (goodIn_of _ (by decide +kernel)) ggX8_open_X8_within
set_option maxRecDepth 20000 in
theorem ggX8_open_X8_find : GoodIn wsX8_open wsX8_find := goodIn_r _ [10, 1, 11, 12, 13, 5, 14, 26, 27, 28, 29, 30, 31, 32, 33, 34, 35, 36, 37, 38, 39, 40, 41] (by decide +kernel) (by decide +kernel)
set_option maxRecDepth 20000 in
theorem gX8_open_X8_find : GoodIn wsX8_open (wsV RX8 75 RX8 yX8_find wsX8_find) := goodIn_app (goodIn_of _ (by decide +kernel)) ggX8_open_X8_find
set_option maxRecDepth 20000 in
theorem ggX8_open_X8_record : GoodIn wsX8_open wsX8_record := goodIn_r _ [18, 19, 20, 21, 1, 2, 26, 27, 28, 29, 30, 31, 32, 33, 34, 35, 36, 37, 38, 39, 40, 41] (by decide +kernel) (by decide +kernel)
set_option maxRecDepth 20000 in
theorem gX8_open_X8_record : GoodIn wsX8_open (wsV RX8 72 RX8 yX8_record wsX8_record) := goodIn_app (goodIn_of _ (by decide +kernel)) ggX8_open_X8_record
set_option maxRecDepth 20000 in
theorem ggX8_open_X8_part : GoodIn wsX8_open wsX8_part := goodIn_r _ [14, 1, 26, 27, 28, 29, 30, 31, 32, 33, 34, 35, 36, 37, 38, 39, 40, 41] (by decide +kernel) (by decide +kernel)
set_option maxRecDepth 20000 in
theorem gX8_open_X8_part : GoodIn wsX8_open (wsV RX8 34 RX8 yX8_part wsX8_part) := goodIn_app (goodIn_of _ (by decide +kernel)) ggX8_open_X8_part
set_option maxRecDepth 20000 in
theorem ggX8_open_X8_setPart : GoodIn wsX8_open wsX8_setPart := goodIn_r _ [25, 1, 26, 27, 28, 29, 30, 31, 32, 33, 34, 35, 36, 37, 38, 39, 40, 41] (by decide +kernel) (by decide +kernel)
set_option maxRecDepth 20000 in
theorem gX8_open_X8_setPart : GoodIn wsX8_open (wsV RX8 63 RX8 yX8_setPart wsX8_setPart) := goodIn_app (goodIn_of _ (by decide +kernel)) ggX8_open_X8_setPart
set_option maxRecDepth 20000 in
theorem ggX8_billsOf_X8_billPart : GoodIn wsX8_billsOf wsX8_billPart := goodIn_r _ [6, 1, 7, 8, 9, 10, 11, 12, 13, 14, 15, 16, 17, 18, 19, 20, 21, 22] (by decide +kernel) (by decide +kernel)
set_option maxRecDepth 20000 in
theorem gX8_billsOf_X8_billPart : GoodIn wsX8_billsOf (wsV RX8 48 RX8 yX8_billPart wsX8_billPart) := goodIn_app (goodIn_of _ (by decide +kernel)) ggX8_billsOf_X8_billPart
set_option maxRecDepth 20000 in
theorem ggX8_close_X8_find : GoodIn wsX8_close wsX8_find := goodIn_r _ [7, 1, 8, 9, 10, 6, 11, 31, 32, 33, 34, 35, 36, 37, 38, 39, 40, 41, 42, 43, 44, 45, 46] (by decide +kernel) (by decide +kernel)
set_option maxRecDepth 20000 in
theorem gX8_close_X8_find : GoodIn wsX8_close (wsV RX8 75 RX8 yX8_find wsX8_find) := goodIn_app (goodIn_of _ (by decide +kernel)) ggX8_close_X8_find
set_option maxRecDepth 20000 in
theorem ggX8_close_X8_part : GoodIn wsX8_close wsX8_part := goodIn_r _ [11, 1, 31, 32, 33, 34, 35, 36, 37, 38, 39, 40, 41, 42, 43, 44, 45, 46] (by decide +kernel) (by decide +kernel)
set_option maxRecDepth 20000 in
theorem gX8_close_X8_part : GoodIn wsX8_close (wsV RX8 34 RX8 yX8_part wsX8_part) := goodIn_app (goodIn_of _ (by decide +kernel)) ggX8_close_X8_part
set_option maxRecDepth 20000 in
theorem ggX8_close_X8_billsOf : GoodIn wsX8_close wsX8_billsOf := goodIn_r _ [15, 1, 16, 17, 18, 6, 19, 31, 32, 33, 34, 35, 36, 37, 38, 39, 40, 41, 42, 43, 44, 45, 46] (by decide +kernel) (by decide +kernel)
set_option maxRecDepth 20000 in
theorem gX8_close_X8_billsOf : GoodIn wsX8_close (wsV RX8 78 RX8 yX8_billsOf wsX8_billsOf) := goodIn_app (goodIn_of _ (by decide +kernel)) ggX8_close_X8_billsOf
set_option maxRecDepth 20000 in
theorem ggX8_close_X8_record : GoodIn wsX8_close wsX8_record := goodIn_r _ [23, 24, 25, 26, 1, 2, 31, 32, 33, 34, 35, 36, 37, 38, 39, 40, 41, 42, 43, 44, 45, 46] (by decide +kernel) (by decide +kernel)
set_option maxRecDepth 20000 in
theorem gX8_close_X8_record : GoodIn wsX8_close (wsV RX8 72 RX8 yX8_record wsX8_record) := goodIn_app (goodIn_of _ (by decide +kernel)) ggX8_close_X8_record
set_option maxRecDepth 20000 in
theorem ggX8_close_X8_setPart : GoodIn wsX8_close wsX8_setPart := goodIn_r _ [30, 1, 31, 32, 33, 34, 35, 36, 37, 38, 39, 40, 41, 42, 43, 44, 45, 46] (by decide +kernel) (by decide +kernel)
set_option maxRecDepth 20000 in
theorem gX8_close_X8_setPart : GoodIn wsX8_close (wsV RX8 63 RX8 yX8_setPart wsX8_setPart) := goodIn_app (goodIn_of _ (by decide +kernel)) ggX8_close_X8_setPart
set_option maxRecDepth 20000 in
theorem ggX8_isAmount_X8_within : GoodIn wsX8_isAmount wsX8_within := goodIn_r _ [5] (by decide +kernel) (by decide +kernel)
set_option maxRecDepth 20000 in
theorem gX8_isAmount_X8_within : GoodIn wsX8_isAmount (va_wsS RX8 67 yX8_within wsX8_within) := goodIn_app (goodIn_of _ (by decide +kernel)) ggX8_isAmount_X8_within
set_option maxRecDepth 20000 in
theorem ggX8_hasRoom_X8_part : GoodIn wsX8_hasRoom wsX8_part := goodIn_r _ [6, 7, 8, 9, 10, 11, 12, 13, 14, 15, 16, 17, 18, 19, 20, 21, 22, 23] (by decide +kernel) (by decide +kernel)
set_option maxRecDepth 20000 in
theorem gX8_hasRoom_X8_part : GoodIn wsX8_hasRoom (wsV RX8 34 RX8 yX8_part wsX8_part) := goodIn_app (goodIn_of _ (by decide +kernel)) ggX8_hasRoom_X8_part
set_option maxRecDepth 20000 in
theorem ggX8_adds_X8_part : GoodIn wsX8_adds wsX8_part := goodIn_r _ [5, 6, 11, 12, 13, 14, 15, 16, 17, 18, 19, 20, 21, 22, 23, 24, 25, 26] (by decide +kernel) (by decide +kernel)
set_option maxRecDepth 20000 in
theorem gX8_adds_X8_part : GoodIn wsX8_adds (wsV RX8 34 RX8 yX8_part wsX8_part) := goodIn_app (goodIn_of _ (by decide +kernel)) ggX8_adds_X8_part
set_option maxRecDepth 20000 in
theorem ggX8_adds_X8_setPart : GoodIn wsX8_adds wsX8_setPart := goodIn_r _ [10, 6, 11, 12, 13, 14, 15, 16, 17, 18, 19, 20, 21, 22, 23, 24, 25, 26] (by decide +kernel) (by decide +kernel)
set_option maxRecDepth 20000 in
theorem gX8_adds_X8_setPart : GoodIn wsX8_adds (wsV RX8 63 RX8 yX8_setPart wsX8_setPart) := goodIn_app (goodIn_of _ (by decide +kernel)) ggX8_adds_X8_setPart
set_option maxRecDepth 20000 in
theorem ggX8_whyNotReceived_X8_find : GoodIn wsX8_whyNotReceived wsX8_find := goodIn_r _ [5, 6, 7, 8, 9, 4, 10, 23, 24, 25, 26, 27, 28, 29, 30, 31, 32, 33, 34, 35, 36, 37, 38] (by decide +kernel) (by decide +kernel)
set_option maxRecDepth 20000 in
theorem gX8_whyNotReceived_X8_find : GoodIn wsX8_whyNotReceived (wsV RX8 75 RX8 yX8_find wsX8_find) := goodIn_app (goodIn_of _ (by decide +kernel)) ggX8_whyNotReceived_X8_find
set_option maxRecDepth 20000 in
theorem ggX8_whyNotReceived_X8_isAmount : GoodIn wsX8_whyNotReceived wsX8_isAmount := goodIn_r _ [13, 14, 15, 16, 4, 17] (by decide +kernel) (by decide +kernel)
set_option maxRecDepth 20000 in
theorem gX8_whyNotReceived_X8_isAmount : GoodIn wsX8_whyNotReceived (va_wsS RX8 82 yX8_isAmount wsX8_isAmount) := goodIn_app (goodIn_of _ (by decide +kernel)) ggX8_whyNotReceived_X8_isAmount
set_option maxRecDepth 20000 in
theorem ggX8_whyNotReceived_X8_hasRoom : GoodIn wsX8_whyNotReceived wsX8_hasRoom := goodIn_r _ [21, 22, 7, 8, 9, 4, 10, 6, 23, 24, 25, 26, 27, 28, 29, 30, 31, 32, 33, 34, 35, 36, 37, 38] (by decide +kernel) (by decide +kernel)
set_option maxRecDepth 20000 in
theorem gX8_whyNotReceived_X8_hasRoom : GoodIn wsX8_whyNotReceived (wsV RX8 86 RX8 yX8_hasRoom wsX8_hasRoom) := goodIn_app (goodIn_of _ (by decide +kernel)) ggX8_whyNotReceived_X8_hasRoom
set_option maxRecDepth 20000 in
theorem ggX8_receives_X8_find : GoodIn wsX8_receives wsX8_find := goodIn_r _ [6, 7, 8, 9, 10, 5, 11, 30, 31, 32, 33, 34, 35, 36, 37, 38, 39, 40, 41, 42, 43, 44, 45] (by decide +kernel) (by decide +kernel)
set_option maxRecDepth 20000 in
theorem gX8_receives_X8_find : GoodIn wsX8_receives (wsV RX8 75 RX8 yX8_find wsX8_find) := goodIn_app (goodIn_of _ (by decide +kernel)) ggX8_receives_X8_find
set_option maxRecDepth 20000 in
theorem ggX8_receives_X8_adds : GoodIn wsX8_receives wsX8_adds := goodIn_r _ [15, 8, 9, 10, 5, 11, 7, 16, 17, 18, 19, 30, 31, 32, 33, 34, 35, 36, 37, 38, 39, 40, 41, 42, 43, 44, 45] (by decide +kernel) (by decide +kernel)
set_option maxRecDepth 20000 in
theorem gX8_receives_X8_adds : GoodIn wsX8_receives (wsV RX8 90 RX8 yX8_adds wsX8_adds) := goodIn_app (goodIn_of _ (by decide +kernel)) ggX8_receives_X8_adds
set_option maxRecDepth 20000 in
theorem ggX8_receives_X8_enters : GoodIn wsX8_receives wsX8_enters := goodIn_r _ [23, 7, 24, 25, 26, 27, 28, 29, 8, 9, 10, 5, 11, 16, 17, 18, 19, 30, 31, 32, 33, 34, 35, 36, 37, 38, 39, 40, 41, 42, 43, 44, 45] (by decide +kernel) (by decide +kernel)
set_option maxRecDepth 20000 in
theorem gX8_receives_X8_enters : GoodIn wsX8_receives (wsV RX8 93 RX8 yX8_enters wsX8_enters) := goodIn_app (goodIn_of _ (by decide +kernel)) ggX8_receives_X8_enters
set_option maxRecDepth 20000 in
theorem ggX8_receive_X8_whyNotReceived : GoodIn wsX8_receive wsX8_whyNotReceived := goodIn_r _ [5, 6, 7, 8, 4, 9, 10, 11, 12, 13, 14, 15, 16, 17, 18, 19, 20, 21, 22, 23, 24, 25, 26, 57, 58, 59, 60, 61, 62, 63, 64, 65, 66, 67, 68, 69, 70, 71, 72] (by decide +kernel) (by decide +kernel)
set_option maxRecDepth 20000 in
theorem gX8_receive_X8_whyNotReceived : GoodIn wsX8_receive (wsV RX8 97 RX8 yX8_whyNotReceived wsX8_whyNotReceived) := goodIn_app (goodIn_of _ (by decide +kernel)) ggX8_receive_X8_whyNotReceived
set_option maxRecDepth 20000 in
theorem ggX8_receive_X8_record : GoodIn wsX8_receive wsX8_record := goodIn_r _ [30, 31, 32, 33, 10, 34, 57, 58, 59, 60, 61, 62, 63, 64, 65, 66, 67, 68, 69, 70, 71, 72] (by decide +kernel) (by decide +kernel)
set_option maxRecDepth 20000 in
theorem gX8_receive_X8_record : GoodIn wsX8_receive (wsV RX8 72 RX8 yX8_record wsX8_record) := goodIn_app (goodIn_of _ (by decide +kernel)) ggX8_receive_X8_record
set_option maxRecDepth 20000 in
theorem ggX8_receive_X8_receives : GoodIn wsX8_receive wsX8_receives := goodIn_r _ [38, 34, 6, 7, 8, 4, 9, 10, 11, 12, 13, 14, 39, 40, 41, 42, 43, 44, 45, 46, 47, 48, 49, 50, 51, 52, 53, 54, 55, 56, 57, 58, 59, 60, 61, 62, 63, 64, 65, 66, 67, 68, 69, 70, 71, 72] (by decide +kernel) (by decide +kernel)
set_option maxRecDepth 20000 in
theorem gX8_receive_X8_receives : GoodIn wsX8_receive (wsV RX8 100 RX8 yX8_receives wsX8_receives) := goodIn_app (goodIn_of _ (by decide +kernel)) ggX8_receive_X8_receives
set_option maxRecDepth 20000 in
theorem ggX8_whyNotPaid_X8_find : GoodIn wsX8_whyNotPaid wsX8_find := goodIn_r _ [5, 6, 7, 8, 9, 4, 10, 34, 35, 36, 37, 38, 39, 40, 41, 42, 43, 44, 45, 46, 47, 48, 49] (by decide +kernel) (by decide +kernel)
set_option maxRecDepth 20000 in
theorem gX8_whyNotPaid_X8_find : GoodIn wsX8_whyNotPaid (wsV RX8 75 RX8 yX8_find wsX8_find) := goodIn_app (goodIn_of _ (by decide +kernel)) ggX8_whyNotPaid_X8_find
set_option maxRecDepth 20000 in
theorem ggX8_whyNotPaid_X8_isAmount : GoodIn wsX8_whyNotPaid wsX8_isAmount := goodIn_r _ [13, 14, 15, 16, 4, 17] (by decide +kernel) (by decide +kernel)
set_option maxRecDepth 20000 in
theorem gX8_whyNotPaid_X8_isAmount : GoodIn wsX8_whyNotPaid (va_wsS RX8 82 yX8_isAmount wsX8_isAmount) := goodIn_app (goodIn_of _ (by decide +kernel)) ggX8_whyNotPaid_X8_isAmount
set_option maxRecDepth 20000 in
theorem ggX8_whyNotPaid_X8_free : GoodIn wsX8_whyNotPaid wsX8_free := goodIn_r _ [21, 7, 8, 9, 4, 10, 6, 22, 23, 24, 25, 26, 27, 28, 29, 30, 31, 32, 33, 34, 35, 36, 37, 38, 39, 40, 41, 42, 43, 44, 45, 46, 47, 48, 49] (by decide +kernel) (by decide +kernel)
set_option maxRecDepth 20000 in
theorem gX8_whyNotPaid_X8_free : GoodIn wsX8_whyNotPaid (wsV RX8 103 RX8 yX8_free wsX8_free) := goodIn_app (goodIn_of _ (by decide +kernel)) ggX8_whyNotPaid_X8_free
set_option maxRecDepth 20000 in
theorem ggX8_pays_X8_find : GoodIn wsX8_pays wsX8_find := goodIn_r _ [6, 7, 8, 9, 10, 5, 11, 30, 31, 32, 33, 34, 35, 36, 37, 38, 39, 40, 41, 42, 43, 44, 45] (by decide +kernel) (by decide +kernel)
set_option maxRecDepth 20000 in
theorem gX8_pays_X8_find : GoodIn wsX8_pays (wsV RX8 75 RX8 yX8_find wsX8_find) := goodIn_app (goodIn_of _ (by decide +kernel)) ggX8_pays_X8_find
set_option maxRecDepth 20000 in
theorem ggX8_pays_X8_adds : GoodIn wsX8_pays wsX8_adds := goodIn_r _ [15, 8, 9, 10, 5, 11, 7, 16, 17, 18, 19, 30, 31, 32, 33, 34, 35, 36, 37, 38, 39, 40, 41, 42, 43, 44, 45] (by decide +kernel) (by decide +kernel)
set_option maxRecDepth 20000 in
theorem gX8_pays_X8_adds : GoodIn wsX8_pays (wsV RX8 90 RX8 yX8_adds wsX8_adds) := goodIn_app (goodIn_of _ (by decide +kernel)) ggX8_pays_X8_adds
set_option maxRecDepth 20000 in
theorem ggX8_pays_X8_enters : GoodIn wsX8_pays wsX8_enters := goodIn_r _ [23, 7, 24, 25, 26, 27, 28, 29, 8, 9, 10, 5, 11, 16, 17, 18, 19, 30, 31, 32, 33, 34, 35, 36, 37, 38, 39, 40, 41, 42, 43, 44, 45] (by decide +kernel) (by decide +kernel)
set_option maxRecDepth 20000 in
theorem gX8_pays_X8_enters : GoodIn wsX8_pays (wsV RX8 93 RX8 yX8_enters wsX8_enters) := goodIn_app (goodIn_of _ (by decide +kernel)) ggX8_pays_X8_enters
set_option maxRecDepth 20000 in
theorem ggX8_pay_X8_whyNotPaid : GoodIn wsX8_pay wsX8_whyNotPaid := goodIn_r _ [5, 6, 7, 8, 4, 9, 10, 11, 12, 13, 14, 15, 16, 17, 18, 19, 20, 21, 22, 23, 24, 25, 26, 27, 28, 29, 30, 31, 32, 33, 34, 35, 36, 37, 68, 69, 70, 71, 72, 73, 74, 75, 76, 77, 78, 79, 80, 81, 82, 83] (by decide +kernel) (by decide +kernel)
set_option maxRecDepth 20000 in
theorem gX8_pay_X8_whyNotPaid : GoodIn wsX8_pay (wsV RX8 106 RX8 yX8_whyNotPaid wsX8_whyNotPaid) := goodIn_app (goodIn_of _ (by decide +kernel)) ggX8_pay_X8_whyNotPaid
set_option maxRecDepth 20000 in
theorem ggX8_pay_X8_record : GoodIn wsX8_pay wsX8_record := goodIn_r _ [41, 42, 43, 44, 10, 45, 68, 69, 70, 71, 72, 73, 74, 75, 76, 77, 78, 79, 80, 81, 82, 83] (by decide +kernel) (by decide +kernel)
set_option maxRecDepth 20000 in
theorem gX8_pay_X8_record : GoodIn wsX8_pay (wsV RX8 72 RX8 yX8_record wsX8_record) := goodIn_app (goodIn_of _ (by decide +kernel)) ggX8_pay_X8_record
set_option maxRecDepth 20000 in
theorem ggX8_pay_X8_pays : GoodIn wsX8_pay wsX8_pays := goodIn_r _ [49, 45, 6, 7, 8, 4, 9, 10, 11, 12, 13, 14, 50, 51, 52, 53, 54, 55, 56, 57, 58, 59, 60, 61, 62, 63, 64, 65, 66, 67, 68, 69, 70, 71, 72, 73, 74, 75, 76, 77, 78, 79, 80, 81, 82, 83] (by decide +kernel) (by decide +kernel)
set_option maxRecDepth 20000 in
theorem gX8_pay_X8_pays : GoodIn wsX8_pay (wsV RX8 109 RX8 yX8_pays wsX8_pays) := goodIn_app (goodIn_of _ (by decide +kernel)) ggX8_pay_X8_pays
set_option maxRecDepth 20000 in
theorem ggX8_whyNotMoved_X8_find : GoodIn wsX8_whyNotMoved wsX8_find := goodIn_r _ [5, 6, 7, 8, 9, 4, 10, 39, 40, 41, 42, 43, 44, 45, 46, 47, 48, 49, 50, 51, 52, 53, 54] (by decide +kernel) (by decide +kernel)
set_option maxRecDepth 20000 in
theorem gX8_whyNotMoved_X8_find : GoodIn wsX8_whyNotMoved (wsV RX8 75 RX8 yX8_find wsX8_find) := goodIn_app (goodIn_of _ (by decide +kernel)) ggX8_whyNotMoved_X8_find
set_option maxRecDepth 20000 in
theorem ggX8_whyNotMoved_X8_isAmount : GoodIn wsX8_whyNotMoved wsX8_isAmount := goodIn_r _ [13, 14, 15, 16, 4, 17] (by decide +kernel) (by decide +kernel)
set_option maxRecDepth 20000 in
theorem gX8_whyNotMoved_X8_isAmount : GoodIn wsX8_whyNotMoved (va_wsS RX8 82 yX8_isAmount wsX8_isAmount) := goodIn_app (goodIn_of _ (by decide +kernel)) ggX8_whyNotMoved_X8_isAmount
set_option maxRecDepth 20000 in
theorem ggX8_whyNotMoved_X8_free : GoodIn wsX8_whyNotMoved wsX8_free := goodIn_r _ [21, 7, 8, 9, 4, 10, 6, 22, 23, 24, 25, 26, 27, 28, 29, 30, 31, 32, 33, 39, 40, 41, 42, 43, 44, 45, 46, 47, 48, 49, 50, 51, 52, 53, 54] (by decide +kernel) (by decide +kernel)
set_option maxRecDepth 20000 in
theorem gX8_whyNotMoved_X8_free : GoodIn wsX8_whyNotMoved (wsV RX8 103 RX8 yX8_free wsX8_free) := goodIn_app (goodIn_of _ (by decide +kernel)) ggX8_whyNotMoved_X8_free
set_option maxRecDepth 20000 in
theorem ggX8_whyNotMoved_X8_hasRoom : GoodIn wsX8_whyNotMoved wsX8_hasRoom := goodIn_r _ [37, 38, 7, 8, 9, 4, 10, 6, 39, 40, 41, 42, 43, 44, 45, 46, 47, 48, 49, 50, 51, 52, 53, 54] (by decide +kernel) (by decide +kernel)
set_option maxRecDepth 20000 in
theorem gX8_whyNotMoved_X8_hasRoom : GoodIn wsX8_whyNotMoved (wsV RX8 86 RX8 yX8_hasRoom wsX8_hasRoom) := goodIn_app (goodIn_of _ (by decide +kernel)) ggX8_whyNotMoved_X8_hasRoom
set_option maxRecDepth 20000 in
theorem ggX8_transfers_X8_find : GoodIn wsX8_transfers wsX8_find := goodIn_r _ [5, 6, 7, 8, 9, 4, 10, 29, 30, 31, 32, 33, 34, 35, 36, 37, 38, 39, 40, 41, 42, 43, 44] (by decide +kernel) (by decide +kernel)
set_option maxRecDepth 20000 in
theorem gX8_transfers_X8_find : GoodIn wsX8_transfers (wsV RX8 75 RX8 yX8_find wsX8_find) := goodIn_app (goodIn_of _ (by decide +kernel)) ggX8_transfers_X8_find
set_option maxRecDepth 20000 in
theorem ggX8_transfers_X8_adds : GoodIn wsX8_transfers wsX8_adds := goodIn_r _ [14, 7, 8, 9, 4, 10, 6, 15, 16, 17, 18, 29, 30, 31, 32, 33, 34, 35, 36, 37, 38, 39, 40, 41, 42, 43, 44] (by decide +kernel) (by decide +kernel)
set_option maxRecDepth 20000 in
theorem gX8_transfers_X8_adds : GoodIn wsX8_transfers (wsV RX8 90 RX8 yX8_adds wsX8_adds) := goodIn_app (goodIn_of _ (by decide +kernel)) ggX8_transfers_X8_adds
set_option maxRecDepth 20000 in
theorem ggX8_transfers_X8_enters : GoodIn wsX8_transfers wsX8_enters := goodIn_r _ [22, 6, 23, 24, 25, 26, 27, 28, 7, 8, 9, 4, 10, 15, 16, 17, 18, 29, 30, 31, 32, 33, 34, 35, 36, 37, 38, 39, 40, 41, 42, 43, 44] (by decide +kernel) (by decide +kernel)
set_option maxRecDepth 20000 in
theorem gX8_transfers_X8_enters : GoodIn wsX8_transfers (wsV RX8 93 RX8 yX8_enters wsX8_enters) := goodIn_app (goodIn_of _ (by decide +kernel)) ggX8_transfers_X8_enters
set_option maxRecDepth 20000 in
theorem ggX8_transfer_X8_whyNotMoved : GoodIn wsX8_transfer wsX8_whyNotMoved := goodIn_r _ [5, 6, 7, 8, 4, 9, 10, 11, 12, 13, 14, 15, 16, 17, 18, 19, 20, 21, 22, 23, 24, 25, 26, 27, 28, 29, 30, 31, 32, 33, 34, 35, 36, 37, 38, 39, 40, 41, 42, 73, 74, 75, 76, 77, 78, 79, 80, 81, 82, 83, 84, 85, 86, 87, 88] (by decide +kernel) (by decide +kernel)
set_option maxRecDepth 20000 in
theorem gX8_transfer_X8_whyNotMoved : GoodIn wsX8_transfer (wsV RX8 112 RX8 yX8_whyNotMoved wsX8_whyNotMoved) := goodIn_app (goodIn_of _ (by decide +kernel)) ggX8_transfer_X8_whyNotMoved
set_option maxRecDepth 20000 in
theorem ggX8_transfer_X8_record : GoodIn wsX8_transfer wsX8_record := goodIn_r _ [46, 47, 48, 49, 10, 50, 73, 74, 75, 76, 77, 78, 79, 80, 81, 82, 83, 84, 85, 86, 87, 88] (by decide +kernel) (by decide +kernel)
set_option maxRecDepth 20000 in
theorem gX8_transfer_X8_record : GoodIn wsX8_transfer (wsV RX8 72 RX8 yX8_record wsX8_record) := goodIn_app (goodIn_of _ (by decide +kernel)) ggX8_transfer_X8_record
set_option maxRecDepth 20000 in
theorem ggX8_transfer_X8_transfers : GoodIn wsX8_transfer wsX8_transfers := goodIn_r _ [54, 6, 7, 8, 4, 9, 10, 11, 12, 13, 14, 55, 56, 57, 58, 59, 60, 61, 62, 63, 64, 65, 66, 67, 68, 69, 70, 71, 72, 73, 74, 75, 76, 77, 78, 79, 80, 81, 82, 83, 84, 85, 86, 87, 88] (by decide +kernel) (by decide +kernel)
set_option maxRecDepth 20000 in
theorem gX8_transfer_X8_transfers : GoodIn wsX8_transfer (wsV RX8 116 RX8 yX8_transfers wsX8_transfers) := goodIn_app (goodIn_of _ (by decide +kernel)) ggX8_transfer_X8_transfers
set_option maxRecDepth 20000 in
theorem ggX8_hold_X8_find : GoodIn wsX8_hold wsX8_find := goodIn_r _ [6, 1, 7, 8, 9, 5, 10, 42, 43, 44, 45, 46, 47, 48, 49, 50, 51, 52, 53, 54, 55, 56, 57] (by decide +kernel) (by decide +kernel)
set_option maxRecDepth 20000 in
theorem gX8_hold_X8_find : GoodIn wsX8_hold (wsV RX8 75 RX8 yX8_find wsX8_find) := goodIn_app (goodIn_of _ (by decide +kernel)) ggX8_hold_X8_find
set_option maxRecDepth 20000 in
theorem ggX8_hold_X8_isAmount : GoodIn wsX8_hold wsX8_isAmount := goodIn_r _ [13, 14, 15, 16, 5, 17] (by decide +kernel) (by decide +kernel)
set_option maxRecDepth 20000 in
theorem gX8_hold_X8_isAmount : GoodIn wsX8_hold (va_wsS RX8 82 yX8_isAmount wsX8_isAmount) := goodIn_app (goodIn_of _ (by decide +kernel)) ggX8_hold_X8_isAmount
set_option maxRecDepth 20000 in
theorem ggX8_hold_X8_within : GoodIn wsX8_hold wsX8_within := goodIn_r _ [17] (by decide +kernel) (by decide +kernel)
set_option maxRecDepth 20000 in
theorem gX8_hold_X8_within : GoodIn wsX8_hold (va_wsS RX8 67 yX8_within wsX8_within) := goodIn_app (goodIn_of _ (by decide +kernel)) ggX8_hold_X8_within
set_option maxRecDepth 20000 in
theorem ggX8_hold_X8_free : GoodIn wsX8_hold wsX8_free := goodIn_r _ [21, 7, 8, 9, 5, 10, 1, 22, 23, 24, 25, 26, 27, 28, 29, 30, 31, 32, 33, 42, 43, 44, 45, 46, 47, 48, 49, 50, 51, 52, 53, 54, 55, 56, 57] (by decide +kernel) (by decide +kernel)
set_option maxRecDepth 20000 in
theorem gX8_hold_X8_free : GoodIn wsX8_hold (wsV RX8 103 RX8 yX8_free wsX8_free) := goodIn_app (goodIn_of _ (by decide +kernel)) ggX8_hold_X8_free
set_option maxRecDepth 20000 in
theorem ggX8_hold_X8_record : GoodIn wsX8_hold wsX8_record := goodIn_r _ [37, 38, 39, 40, 1, 41, 42, 43, 44, 45, 46, 47, 48, 49, 50, 51, 52, 53, 54, 55, 56, 57] (by decide +kernel) (by decide +kernel)
set_option maxRecDepth 20000 in
theorem gX8_hold_X8_record : GoodIn wsX8_hold (wsV RX8 72 RX8 yX8_record wsX8_record) := goodIn_app (goodIn_of _ (by decide +kernel)) ggX8_hold_X8_record
set_option maxRecDepth 20000 in
theorem ggX8_endsHold_X8_takesOut : GoodIn wsX8_endsHold wsX8_takesOut := goodIn_r _ [6, 1, 7, 8, 9, 10, 11, 12, 13, 14, 15, 16, 17, 18, 19, 20, 21, 22] (by decide +kernel) (by decide +kernel)
set_option maxRecDepth 20000 in
theorem gX8_endsHold_X8_takesOut : GoodIn wsX8_endsHold (wsV RX8 119 RX8 yX8_takesOut wsX8_takesOut) := goodIn_app (goodIn_of _ (by decide +kernel)) ggX8_endsHold_X8_takesOut
set_option maxRecDepth 20000 in
theorem ggX8_release_X8_findHold : GoodIn wsX8_release wsX8_findHold := goodIn_r _ [5, 6, 7, 8, 9, 4, 10, 47, 48, 49, 50, 51, 52, 53, 54, 55, 56, 57, 58, 59, 60, 61, 62] (by decide +kernel) (by decide +kernel)
set_option maxRecDepth 20000 in
theorem gX8_release_X8_findHold : GoodIn wsX8_release (wsV RX8 122 RX8 yX8_findHold wsX8_findHold) := goodIn_app (goodIn_of _ (by decide +kernel)) ggX8_release_X8_findHold
