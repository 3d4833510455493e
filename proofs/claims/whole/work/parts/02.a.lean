theorem goodIn_c {big ws : List Cond} (qc qn : List Nat) (hc : ws.filter k2_isCode = qc.filterMap (fun i => big[i]?)) (hn : ws.filter (fun w => !k2_isCode w) = qn.filterMap (fun i => big[i]?)) (h : ws.all goodWord = true) : GoodIn big ws := fun w hw => ⟨mem_c qc qn hc hn w hw, good_of_word (List.all_eq_true.mp h w hw)⟩

set_option maxRecDepth 20000 in
theorem ggX0_remember_X1_copyFrom : GoodIn wsX0_remember wsX1_copyFrom := goodIn_c [12] [13, 14, 15, 16, 17, 18, 19, 20, 21, 22, 23, 24, 25, 29, 30, 31, 32, 33, 34, 35, 36, 37, 38] rfl (by decide +kernel) (by decide +kernel)
set_option maxRecDepth 20000 in
theorem gX0_remember_X1_copyFrom : GoodIn wsX0_remember (wsV RX0 24 RX1 yX1_copyFrom wsX1_copyFrom) := goodIn_app (goodIn_of _ (by decide +kernel)) ggX0_remember_X1_copyFrom
set_option maxRecDepth 20000 in
theorem ggX0_restore_X1_copyFrom : GoodIn wsX0_restore wsX1_copyFrom := goodIn_c [12] [13, 14, 15, 16, 17, 18, 19, 20, 21, 22, 23, 24, 25, 29, 30, 31, 32, 33, 34, 35, 36, 37, 38] rfl (by decide +kernel) (by decide +kernel)
set_option maxRecDepth 20000 in
theorem gX0_restore_X1_copyFrom : GoodIn wsX0_restore (wsV RX0 24 RX1 yX1_copyFrom wsX1_copyFrom) := goodIn_app (goodIn_of _ (by decide +kernel)) ggX0_restore_X1_copyFrom
set_option maxRecDepth 20000 in
theorem ggX1_begin_J7_fill_53178 : GoodIn wsX1_begin wsJ7_fill_53178 := goodIn_c [19] [] rfl (by decide +kernel) (by decide +kernel)
set_option maxRecDepth 20000 in
theorem gX1_begin_J7_fill_53178 : GoodIn wsX1_begin (va_wsS RX1 57 yJ7_fill_53178 wsJ7_fill_53178) := goodIn_app (goodIn_of _ (by decide +kernel)) ggX1_begin_J7_fill_53178
set_option maxRecDepth 20000 in
theorem ggX1_begin_X1_addToldPauses : GoodIn wsX1_begin wsX1_addToldPauses := goodIn_c [24, 33, 38, 43, 47] [3, 25, 26, 1, 27, 2, 28, 29, 30, 31, 32, 23, 12, 13, 14, 15, 34, 35, 36, 37, 39, 40, 41, 42, 44, 45, 46, 48, 49, 50, 51, 52, 53, 54, 55, 56, 57, 58, 59, 60, 61, 62, 63, 64, 65, 66, 67, 68, 69, 70, 71] rfl (by decide +kernel) (by decide +kernel)
set_option maxRecDepth 20000 in
theorem gX1_begin_X1_addToldPauses : GoodIn wsX1_begin (wsV RX1 63 RX1 yX1_addToldPauses wsX1_addToldPauses) := goodIn_app (goodIn_of _ (by decide +kernel)) ggX1_begin_X1_addToldPauses
set_option maxRecDepth 20000 in
theorem ggX1_addPause_X4_countedFor : GoodIn wsX1_addPause wsX4_countedFor := goodIn_c [11] [12, 33, 34, 35, 36, 37, 38, 39, 40, 41, 42, 43, 44] rfl (by decide +kernel) (by decide +kernel)
set_option maxRecDepth 20000 in
theorem gX1_addPause_X4_countedFor : GoodIn wsX1_addPause (wsV RX1 66 RX4 yX4_countedFor wsX4_countedFor) := goodIn_app (goodIn_of _ (by decide +kernel)) ggX1_addPause_X4_countedFor
set_option maxRecDepth 20000 in
theorem ggX1_addPause_X4_priceFor : GoodIn wsX1_addPause wsX4_priceFor := goodIn_c [16, 20] [12, 17, 18, 19, 10, 21, 22, 33, 34, 35, 36, 37, 38, 39, 40, 41, 42, 43, 44] rfl (by decide +kernel) (by decide +kernel)
set_option maxRecDepth 20000 in
theorem gX1_addPause_X4_priceFor : GoodIn wsX1_addPause (wsV RX1 70 RX4 yX4_priceFor wsX4_priceFor) := goodIn_app (goodIn_of _ (by decide +kernel)) ggX1_addPause_X4_priceFor
set_option maxRecDepth 20000 in
theorem ggX1_addToldPauses_X1_addPause : GoodIn wsX1_addToldPauses wsX1_addPause := goodIn_c [13, 22, 27, 31] [14, 15, 4, 16, 1, 17, 18, 19, 20, 21, 23, 24, 25, 26, 28, 29, 30, 32, 33, 34, 35, 36, 37, 38, 39, 40, 41, 42, 43, 44, 45, 46, 47, 48, 49, 50, 51, 52, 53, 54, 55] rfl (by decide +kernel) (by decide +kernel)
set_option maxRecDepth 20000 in
theorem gX1_addToldPauses_X1_addPause : GoodIn wsX1_addToldPauses (wsV RX1 89 RX1 yX1_addPause wsX1_addPause) := goodIn_app (goodIn_of _ (by decide +kernel)) ggX1_addToldPauses_X1_addPause
set_option maxRecDepth 20000 in
theorem ggX1_holdFair_X1_isFree : GoodIn wsX1_holdFair wsX1_isFree := goodIn_c [15] [16, 68, 69, 70, 71, 72, 73, 74, 75, 76, 77] rfl (by decide +kernel) (by decide +kernel)
set_option maxRecDepth 20000 in
theorem gX1_holdFair_X1_isFree : GoodIn wsX1_holdFair (wsV RX1 99 RX1 yX1_isFree wsX1_isFree) := goodIn_app (goodIn_of _ (by decide +kernel)) ggX1_holdFair_X1_isFree
set_option maxRecDepth 20000 in
theorem ggX1_holdFair_X1_sell : GoodIn wsX1_holdFair wsX1_sell := goodIn_c [20, 9, 26, 31, 35] [21, 4, 22, 6, 7, 8, 16, 23, 24, 25, 14, 1, 3, 27, 28, 29, 30, 32, 33, 34, 2, 68, 69, 70, 71, 72, 73, 74, 75, 76, 77, 78, 79, 80, 81, 82, 83, 84, 85, 86, 87, 88, 89] rfl (by decide +kernel) (by decide +kernel)
set_option maxRecDepth 20000 in
theorem gX1_holdFair_X1_sell : GoodIn wsX1_holdFair (wsV RX1 103 RX1 yX1_sell wsX1_sell) := goodIn_app (goodIn_of _ (by decide +kernel)) ggX1_holdFair_X1_sell
set_option maxRecDepth 20000 in
theorem ggX1_holdFair_X1_addToldPauses : GoodIn wsX1_holdFair wsX1_addToldPauses := goodIn_c [39, 49, 56, 61, 65] [1, 40, 41, 10, 42, 43, 44, 45, 46, 47, 48, 14, 50, 51, 27, 21, 52, 53, 54, 55, 57, 58, 59, 60, 62, 63, 64, 66, 67, 68, 69, 70, 71, 72, 73, 74, 75, 76, 77, 78, 79, 80, 81, 82, 83, 84, 85, 86, 87, 88, 89] rfl (by decide +kernel) (by decide +kernel)
set_option maxRecDepth 20000 in
theorem gX1_holdFair_X1_addToldPauses : GoodIn wsX1_holdFair (wsV RX1 63 RX1 yX1_addToldPauses wsX1_addToldPauses) := goodIn_app (goodIn_of _ (by decide +kernel)) ggX1_holdFair_X1_addToldPauses
set_option maxRecDepth 20000 in
theorem ggX1_holdFairs_X1_holdFair : GoodIn wsX1_holdFairs wsX1_holdFair := goodIn_c [5, 14, 19, 24, 30, 35, 39, 43, 53, 60, 65, 69] [6, 7, 8, 9, 10, 11, 12, 13, 15, 16, 17, 18, 4, 20, 21, 22, 23, 25, 26, 27, 28, 29, 31, 32, 33, 34, 36, 37, 38, 40, 41, 42, 44, 45, 46, 47, 48, 49, 50, 51, 52, 54, 55, 56, 57, 58, 59, 61, 62, 63, 64, 66, 67, 68, 70, 71, 72, 73, 74, 75, 76, 77, 78, 79, 80, 81, 82, 83, 84, 85, 86, 87, 88, 89, 90, 91, 92, 93] rfl (by decide +kernel) (by decide +kernel)
set_option maxRecDepth 20000 in
theorem gX1_holdFairs_X1_holdFair : GoodIn wsX1_holdFairs (wsV RX1 114 RX1 yX1_holdFair wsX1_holdFair) := goodIn_app (goodIn_of _ (by decide +kernel)) ggX1_holdFairs_X1_holdFair
set_option maxRecDepth 20000 in
theorem ggX1_fairsTillGone_X1_isFree : GoodIn wsX1_fairsTillGone wsX1_isFree := goodIn_c [5] [6, 72, 73, 74, 75, 76, 77, 78, 79, 80, 81] rfl (by decide +kernel) (by decide +kernel)
set_option maxRecDepth 20000 in
theorem gX1_fairsTillGone_X1_isFree : GoodIn wsX1_fairsTillGone (wsV RX1 99 RX1 yX1_isFree wsX1_isFree) := goodIn_app (goodIn_of _ (by decide +kernel)) ggX1_fairsTillGone_X1_isFree
set_option maxRecDepth 20000 in
theorem ggX1_fairsTillGone_X1_holdFair : GoodIn wsX1_fairsTillGone wsX1_holdFair := goodIn_c [10, 19, 5, 24, 30, 35, 39, 43, 53, 60, 65, 69] [11, 12, 13, 14, 15, 16, 17, 18, 20, 1, 2, 3, 4, 6, 21, 22, 23, 25, 26, 27, 28, 29, 31, 32, 33, 34, 36, 37, 38, 40, 41, 42, 44, 45, 46, 47, 48, 49, 50, 51, 52, 54, 55, 56, 57, 58, 59, 61, 62, 63, 64, 66, 67, 68, 70, 71, 72, 73, 74, 75, 76, 77, 78, 79, 80, 81, 82, 83, 84, 85, 86, 87, 88, 89, 90, 91, 92, 93] rfl (by decide +kernel) (by decide +kernel)
set_option maxRecDepth 20000 in
theorem gX1_fairsTillGone_X1_holdFair : GoodIn wsX1_fairsTillGone (wsV RX1 114 RX1 yX1_holdFair wsX1_holdFair) := goodIn_app (goodIn_of _ (by decide +kernel)) ggX1_fairsTillGone_X1_holdFair
set_option maxRecDepth 20000 in
theorem ggX1_sell_X1_claimantOf : GoodIn wsX1_sell wsX1_claimantOf := goodIn_c [13] [14, 15, 16, 26, 27, 28, 29, 30, 31, 32, 33, 34, 35, 36, 37, 38, 39, 40, 41, 42, 43, 44, 45, 46, 47] rfl (by decide +kernel) (by decide +kernel)
set_option maxRecDepth 20000 in
theorem gX1_sell_X1_claimantOf : GoodIn wsX1_sell (wsV RX1 118 RX1 yX1_claimantOf wsX1_claimantOf) := goodIn_app (goodIn_of _ (by decide +kernel)) ggX1_sell_X1_claimantOf
set_option maxRecDepth 20000 in
theorem ggX1_sell_X1_buyerInsteadOf : GoodIn wsX1_sell wsX1_buyerInsteadOf := goodIn_c [20, 24] [14, 15, 2, 21, 22, 23, 12, 25, 1, 26, 27, 28, 29, 30, 31, 32, 33, 34, 35, 36, 37, 38, 39, 40, 41, 42, 43, 44, 45, 46, 47] rfl (by decide +kernel) (by decide +kernel)
set_option maxRecDepth 20000 in
theorem gX1_sell_X1_buyerInsteadOf : GoodIn wsX1_sell (wsV RX1 122 RX1 yX1_buyerInsteadOf wsX1_buyerInsteadOf) := goodIn_app (goodIn_of _ (by decide +kernel)) ggX1_sell_X1_buyerInsteadOf
set_option maxRecDepth 20000 in
theorem ggX1_buyerInsteadOf_X1_dearestOf : GoodIn wsX1_buyerInsteadOf wsX1_dearestOf := goodIn_c [8] [1, 9, 10, 11, 12, 13, 14, 15, 16, 17, 18, 19, 20, 21, 22, 23, 24, 25, 26, 27, 28, 29, 30, 31, 32] rfl (by decide +kernel) (by decide +kernel)
set_option maxRecDepth 20000 in
theorem gX1_buyerInsteadOf_X1_dearestOf : GoodIn wsX1_buyerInsteadOf (wsV RX1 125 RX1 yX1_dearestOf wsX1_dearestOf) := goodIn_app (goodIn_of _ (by decide +kernel)) ggX1_buyerInsteadOf_X1_dearestOf
set_option maxRecDepth 20000 in
theorem ggX1_worthOf_X4_costIn : GoodIn wsX1_worthOf wsX4_costIn := goodIn_c [10] [11, 12, 23, 24, 25, 26, 27, 28, 29, 30, 31, 32, 33, 34] rfl (by decide +kernel) (by decide +kernel)
set_option maxRecDepth 20000 in
theorem gX1_worthOf_X4_costIn : GoodIn wsX1_worthOf (wsV RX1 128 RX4 yX4_costIn wsX4_costIn) := goodIn_app (goodIn_of _ (by decide +kernel)) ggX1_worthOf_X4_costIn
set_option maxRecDepth 20000 in
theorem ggX1_thingsGone_X1_isFree : GoodIn wsX1_thingsGone wsX1_isFree := goodIn_c [7] [8, 9, 10, 11, 12, 13, 14, 15, 16, 17, 18] rfl (by decide +kernel) (by decide +kernel)
set_option maxRecDepth 20000 in
theorem gX1_thingsGone_X1_isFree : GoodIn wsX1_thingsGone (wsV RX1 99 RX1 yX1_isFree wsX1_isFree) := goodIn_app (goodIn_of _ (by decide +kernel)) ggX1_thingsGone_X1_isFree
set_option maxRecDepth 20000 in
theorem ggX2_read_X4_clear : GoodIn wsX2_read wsX4_clear := goodIn_c [7] [8, 9, 10, 11, 12, 74, 75, 76, 77, 78, 79, 80, 81, 82, 83, 84, 85] rfl (by decide +kernel) (by decide +kernel)
set_option maxRecDepth 20000 in
theorem gX2_read_X4_clear : GoodIn wsX2_read (wsV RX2 15 RX4 yX4_clear wsX4_clear) := goodIn_app (goodIn_of _ (by decide +kernel)) ggX2_read_X4_clear
set_option maxRecDepth 20000 in
theorem ggX2_read_X2_readItem : GoodIn wsX2_read wsX2_readItem := goodIn_c [17, 21, 24, 28, 32] [1, 2, 18, 19, 20, 16, 22, 23, 25, 26, 27, 29, 30, 31, 72, 73] rfl (by decide +kernel) (by decide +kernel)
set_option maxRecDepth 20000 in
theorem gX2_read_X2_readItem : GoodIn wsX2_read (wsV RX2 24 RX2 yX2_readItem wsX2_readItem) := goodIn_app (goodIn_of _ (by decide +kernel)) ggX2_read_X2_readItem
set_option maxRecDepth 20000 in
theorem ggX2_read_X4_takeItem : GoodIn wsX2_read wsX4_takeItem := goodIn_c [36, 40, 46, 51, 59, 63, 67, 71] [37, 38, 39, 6, 8, 41, 42, 43, 44, 45, 9, 47, 48, 49, 50, 10, 52, 53, 54, 55, 56, 57, 58, 60, 61, 62, 64, 65, 66, 11, 68, 69, 70, 12, 74, 75, 76, 77, 78, 79, 80, 81, 82, 83, 84, 85] rfl (by decide +kernel) (by decide +kernel)
set_option maxRecDepth 20000 in
theorem gX2_read_X4_takeItem : GoodIn wsX2_read (wsV RX2 28 RX4 yX4_takeItem wsX4_takeItem) := goodIn_app (goodIn_of _ (by decide +kernel)) ggX2_read_X4_takeItem
set_option maxRecDepth 20000 in
theorem ggX2_readItem_X2_letterAt : GoodIn wsX2_readItem wsX2_letterAt := goodIn_c [7] [1, 19, 20] rfl (by decide +kernel) (by decide +kernel)
set_option maxRecDepth 20000 in
theorem gX2_readItem_X2_letterAt : GoodIn wsX2_readItem (wsV RX2 32 RX2 yX2_letterAt wsX2_letterAt) := goodIn_app (goodIn_of _ (by decide +kernel)) ggX2_readItem_X2_letterAt
set_option maxRecDepth 20000 in
theorem ggX2_readItem_X2_numbersDue : GoodIn wsX2_readItem wsX2_numbersDue := goodIn_c [10] [] rfl (by decide +kernel) (by decide +kernel)
set_option maxRecDepth 20000 in
theorem gX2_readItem_X2_numbersDue : GoodIn wsX2_readItem (va_wsS RX2 36 yX2_numbersDue wsX2_numbersDue) := goodIn_app (goodIn_of _ (by decide +kernel)) ggX2_readItem_X2_numbersDue
set_option maxRecDepth 20000 in
theorem ggX2_readItem_X2_readNumber : GoodIn wsX2_readItem wsX2_readNumber := goodIn_c [14, 18, 7] [15, 16, 17, 1, 3, 4, 5, 6, 19, 20] rfl (by decide +kernel) (by decide +kernel)
set_option maxRecDepth 20000 in
theorem gX2_readItem_X2_readNumber : GoodIn wsX2_readItem (wsV RX2 40 RX2 yX2_readNumber wsX2_readNumber) := goodIn_app (goodIn_of _ (by decide +kernel)) ggX2_readItem_X2_readNumber
set_option maxRecDepth 20000 in
theorem ggX2_readNumber_X2_letterAt : GoodIn wsX2_readNumber wsX2_letterAt := goodIn_c [10] [5, 11, 12] rfl (by decide +kernel) (by decide +kernel)
set_option maxRecDepth 20000 in
theorem gX2_readNumber_X2_letterAt : GoodIn wsX2_readNumber (wsV RX2 32 RX2 yX2_letterAt wsX2_letterAt) := goodIn_app (goodIn_of _ (by decide +kernel)) ggX2_readNumber_X2_letterAt
set_option maxRecDepth 20000 in
theorem ggX3_allHoldIn_X1_begin : GoodIn wsX3_allHoldIn wsX1_begin := goodIn_c [10, 29, 33, 42, 47, 52, 56] [11, 12, 13, 14, 15, 16, 17, 18, 19, 20, 21, 22, 23, 24, 25, 26, 27, 28, 30, 31, 32, 9, 34, 35, 36, 37, 38, 39, 40, 41, 43, 44, 45, 46, 48, 49, 50, 51, 53, 54, 55, 57, 58, 94, 95, 96, 97, 98, 99, 100, 101, 102, 103, 104, 105, 106, 107, 108, 109, 110, 111, 112, 113, 114, 115] rfl (by decide +kernel) (by decide +kernel)
set_option maxRecDepth 20000 in
theorem gX3_allHoldIn_X1_begin : GoodIn wsX3_allHoldIn (wsV RX3 25 RX1 yX1_begin wsX1_begin) := goodIn_app (goodIn_of _ (by decide +kernel)) ggX3_allHoldIn_X1_begin
set_option maxRecDepth 20000 in
theorem ggX3_allHoldIn_X1_holdFair : GoodIn wsX3_allHoldIn wsX1_holdFair := goodIn_c [62, 69, 73, 77, 81, 85, 89, 33, 42, 47, 52, 56] [13, 63, 64, 15, 65, 66, 67, 68, 11, 70, 71, 72, 9, 20, 74, 75, 76, 25, 21, 78, 79, 80, 24, 82, 83, 84, 86, 87, 88, 30, 31, 32, 34, 35, 36, 12, 37, 38, 39, 40, 41, 22, 23, 43, 44, 45, 46, 48, 49, 50, 51, 53, 54, 55, 57, 58, 94, 95, 96, 97, 98, 99, 100, 101, 102, 103, 104, 105, 106, 107, 108, 109, 110, 111, 112, 113, 114, 115] rfl (by decide +kernel) (by decide +kernel)
set_option maxRecDepth 20000 in
theorem gX3_allHoldIn_X1_holdFair : GoodIn wsX3_allHoldIn (wsV RX3 31 RX1 yX1_holdFair wsX1_holdFair) := goodIn_app (goodIn_of _ (by decide +kernel)) ggX3_allHoldIn_X1_holdFair
set_option maxRecDepth 20000 in
theorem ggX4_takeItem_X4_takePerson : GoodIn wsX4_takeItem wsX4_takePerson := goodIn_c [5] [6, 7, 8, 42, 43, 44, 45, 46, 47, 48, 49, 50, 51, 52, 53] rfl (by decide +kernel) (by decide +kernel)
set_option maxRecDepth 20000 in
theorem gX4_takeItem_X4_takePerson : GoodIn wsX4_takeItem (wsV RX4 49 RX4 yX4_takePerson wsX4_takePerson) := goodIn_app (goodIn_of _ (by decide +kernel)) ggX4_takeItem_X4_takePerson
set_option maxRecDepth 20000 in
theorem ggX4_takeItem_X4_takeThing : GoodIn wsX4_takeItem wsX4_takeThing := goodIn_c [12] [13, 14, 42, 43, 44, 45, 46, 47, 48, 49, 50, 51, 52, 53] rfl (by decide +kernel) (by decide +kernel)
set_option maxRecDepth 20000 in
theorem gX4_takeItem_X4_takeThing : GoodIn wsX4_takeItem (wsV RX4 53 RX4 yX4_takeThing wsX4_takeThing) := goodIn_app (goodIn_of _ (by decide +kernel)) ggX4_takeItem_X4_takeThing
set_option maxRecDepth 20000 in
theorem ggX4_takeItem_X4_takePause : GoodIn wsX4_takeItem wsX4_takePause := goodIn_c [18, 27, 31] [19, 20, 21, 22, 23, 24, 25, 26, 4, 6, 28, 29, 30, 13, 42, 43, 44, 45, 46, 47, 48, 49, 50, 51, 52, 53] rfl (by decide +kernel) (by decide +kernel)
set_option maxRecDepth 20000 in
theorem gX4_takeItem_X4_takePause : GoodIn wsX4_takeItem (wsV RX4 57 RX4 yX4_takePause wsX4_takePause) := goodIn_app (goodIn_of _ (by decide +kernel)) ggX4_takeItem_X4_takePause
set_option maxRecDepth 20000 in
theorem ggX4_takeItem_X4_takeEarned : GoodIn wsX4_takeItem wsX4_takeEarned := goodIn_c [35] [36, 42, 43, 44, 45, 46, 47, 48, 49, 50, 51, 52, 53] rfl (by decide +kernel) (by decide +kernel)
set_option maxRecDepth 20000 in
theorem gX4_takeItem_X4_takeEarned : GoodIn wsX4_takeItem (wsV RX4 61 RX4 yX4_takeEarned wsX4_takeEarned) := goodIn_app (goodIn_of _ (by decide +kernel)) ggX4_takeItem_X4_takeEarned
set_option maxRecDepth 20000 in
theorem ggX4_takeItem_X4_takeDearer : GoodIn wsX4_takeItem wsX4_takeDearer := goodIn_c [40] [41, 42, 43, 44, 45, 46, 47, 48, 49, 50, 51, 52, 53] rfl (by decide +kernel) (by decide +kernel)
set_option maxRecDepth 20000 in
theorem gX4_takeItem_X4_takeDearer : GoodIn wsX4_takeItem (wsV RX4 64 RX4 yX4_takeDearer wsX4_takeDearer) := goodIn_app (goodIn_of _ (by decide +kernel)) ggX4_takeItem_X4_takeDearer
set_option maxRecDepth 20000 in
theorem ggX4_takePause_X4_hasPerson : GoodIn wsX4_takePause wsX4_hasPerson := goodIn_c [10] [11, 17, 18, 19, 20, 21, 22, 23, 24, 25, 26, 27, 28] rfl (by decide +kernel) (by decide +kernel)
set_option maxRecDepth 20000 in
theorem gX4_takePause_X4_hasPerson : GoodIn wsX4_takePause (wsV RX4 67 RX4 yX4_hasPerson wsX4_hasPerson) := goodIn_app (goodIn_of _ (by decide +kernel)) ggX4_takePause_X4_hasPerson
set_option maxRecDepth 20000 in
theorem ggX4_takePause_X4_hasThing : GoodIn wsX4_takePause wsX4_hasThing := goodIn_c [15] [16, 17, 18, 19, 20, 21, 22, 23, 24, 25, 26, 27, 28] rfl (by decide +kernel) (by decide +kernel)
set_option maxRecDepth 20000 in
theorem gX4_takePause_X4_hasThing : GoodIn wsX4_takePause (wsV RX4 70 RX4 yX4_hasThing wsX4_hasThing) := goodIn_app (goodIn_of _ (by decide +kernel)) ggX4_takePause_X4_hasThing
set_option maxRecDepth 20000 in
theorem ggX4_priceFor_X4_costIn : GoodIn wsX4_priceFor wsX4_costIn := goodIn_c [6] [7, 8, 9, 10, 11, 12, 13, 14, 15, 16, 17, 18, 19, 20] rfl (by decide +kernel) (by decide +kernel)
set_option maxRecDepth 20000 in
theorem gX4_priceFor_X4_costIn : GoodIn wsX4_priceFor (wsV RX4 73 RX4 yX4_costIn wsX4_costIn) := goodIn_app (goodIn_of _ (by decide +kernel)) ggX4_priceFor_X4_costIn
set_option maxRecDepth 20000 in
theorem ggX5_init_X2_init : GoodIn wsX5_init wsX2_init := goodIn_c [31, 3] [32, 2, 4, 33, 250, 251] rfl (by decide +kernel) (by decide +kernel)
set_option maxRecDepth 20000 in
theorem gX5_init_X2_init_n15 : GoodIn wsX5_init (wsX2_init) := ggX5_init_X2_init
set_option maxRecDepth 20000 in
theorem ggX5_init_X4_init : GoodIn wsX5_init wsX4_init := goodIn_c [35, 3] [36, 2, 4, 37, 38, 39, 40, 41, 42, 43, 252, 253, 254, 255, 256, 257, 258, 259, 260, 261, 262, 263] rfl (by decide +kernel) (by decide +kernel)
set_option maxRecDepth 20000 in
theorem gX5_init_X4_init_n22 : GoodIn wsX5_init (wsX4_init) := ggX5_init_X4_init
set_option maxRecDepth 20000 in
theorem ggX5_init_X1_init : GoodIn wsX5_init wsX1_init := goodIn_c [46, 3] [47, 2, 48, 4, 49, 50, 51, 52, 53, 54, 55, 56, 57, 264, 265, 266, 267, 268, 269, 270, 271, 272, 273] rfl (by decide +kernel) (by decide +kernel)
set_option maxRecDepth 20000 in
theorem gX5_init_X1_init : GoodIn wsX5_init (wsX1_init) := ggX5_init_X1_init
set_option maxRecDepth 20000 in
theorem ggX5_init_X0_init : GoodIn wsX5_init wsX0_init := goodIn_c [60, 3, 46] [61, 2, 62, 63, 16, 17, 64, 45, 47, 48, 4, 49, 50, 51, 52, 53, 54, 55, 56, 57, 274, 275, 276, 264, 265, 266, 267, 268, 269, 270, 271, 272, 273] rfl (by decide +kernel) (by decide +kernel)
set_option maxRecDepth 20000 in
theorem gX5_init_X0_init : GoodIn wsX5_init (wsX0_init) := ggX5_init_X0_init
set_option maxRecDepth 20000 in
theorem ggX5_init_X3_init : GoodIn wsX5_init wsX3_init := goodIn_c [66, 3] [67, 2, 4, 68, 69, 70, 277, 278, 279, 280] rfl (by decide +kernel) (by decide +kernel)
set_option maxRecDepth 20000 in
theorem gX5_init_X3_init_n55 : GoodIn wsX5_init (wsX3_init) := ggX5_init_X3_init
set_option maxRecDepth 20000 in
theorem ggX5_init_X5_putFirstText : GoodIn wsX5_init wsX5_putFirstText := goodIn_c [75, 79, 84, 89, 95, 99, 103, 106, 111, 115, 118, 121, 125] [76, 77, 78, 29, 5, 80, 81, 82, 83, 85, 86, 87, 88, 90, 91, 92, 93, 94, 96, 97, 98, 100, 101, 102, 104, 105, 107, 108, 109, 110, 112, 113, 114, 116, 117, 119, 120, 122, 123, 124, 126, 127, 128, 239, 240, 241, 242, 243, 244, 245, 246, 247, 248, 249] rfl (by decide +kernel) (by decide +kernel)
set_option maxRecDepth 20000 in
theorem gX5_init_X5_putFirstText : GoodIn wsX5_init (wsV RX5 60 RX5 yX5_putFirstText wsX5_putFirstText) := goodIn_app (goodIn_of _ (by decide +kernel)) ggX5_init_X5_putFirstText
set_option maxRecDepth 20000 in
theorem ggX5_init_X5_layTheText : GoodIn wsX5_init wsX5_layTheText := goodIn_c [132, 139, 144, 153, 157, 160, 164, 167, 171, 175, 179, 183, 187, 191, 195, 199, 203, 213, 217, 226, 230, 234, 238] [9, 5, 29, 14, 18, 23, 133, 134, 28, 135, 136, 137, 138, 8, 140, 33, 141, 142, 143, 12, 145, 146, 147, 148, 149, 150, 151, 152, 154, 155, 156, 158, 159, 161, 162, 163, 165, 166, 78, 168, 169, 170, 172, 173, 174, 37, 38, 176, 177, 178, 39, 180, 181, 182, 40, 41, 42, 43, 184, 185, 186, 188, 189, 190, 192, 193, 194, 196, 197, 198, 200, 201, 202, 17, 204, 48, 57, 205, 49, 206, 207, 208, 209, 50, 51, 53, 54, 55, 56, 210, 211, 212, 214, 215, 216, 218, 219, 220, 221, 222, 223, 224, 225, 227, 228, 229, 231, 232, 233, 235, 236, 237, 239, 240, 241, 242, 243, 244, 245, 246, 247, 248, 249, 274, 275, 276, 277, 278, 279, 280, 250, 251, 252, 253, 254, 255, 256, 257, 258, 259, 260, 261, 262, 263, 264, 265, 266, 267, 268, 269, 270, 271, 272, 273] rfl (by decide +kernel) (by decide +kernel)
set_option maxRecDepth 20000 in
theorem gX5_init_X5_layTheText : GoodIn wsX5_init (wsV RX5 63 RX5 yX5_layTheText wsX5_layTheText) := goodIn_app (goodIn_of _ (by decide +kernel)) ggX5_init_X5_layTheText
set_option maxRecDepth 20000 in
theorem ggX5_fault_X2_read : GoodIn wsX5_fault wsX2_read := goodIn_c [9, 16, 25, 29, 32, 36, 40, 44, 48, 54, 59, 67, 71, 75, 79] [10, 11, 12, 13, 14, 15, 17, 18, 19, 20, 21, 22, 23, 24, 8, 26, 27, 28, 30, 31, 33, 34, 35, 37, 38, 39, 41, 42, 43, 45, 46, 47, 49, 50, 51, 52, 53, 55, 56, 57, 58, 60, 61, 62, 63, 64, 65, 66, 68, 69, 70, 72, 73, 74, 76, 77, 78, 91, 92, 93, 94, 95, 96, 97, 98, 99, 100, 101, 102, 103, 104] rfl (by decide +kernel) (by decide +kernel)
set_option maxRecDepth 20000 in
theorem gX5_fault_X2_read : GoodIn wsX5_fault (wsV RX5 70 RX2 yX2_read wsX2_read) := goodIn_app (goodIn_of _ (by decide +kernel)) ggX5_fault_X2_read
set_option maxRecDepth 20000 in
theorem ggX5_lay_X2_read : GoodIn wsX5_lay wsX2_read := goodIn_c [11, 18, 27, 31, 34, 38, 42, 46, 50, 56, 61, 69, 73, 77, 81] [12, 13, 14, 15, 16, 17, 19, 20, 21, 22, 23, 24, 25, 26, 10, 28, 29, 30, 32, 33, 35, 36, 37, 39, 40, 41, 43, 44, 45, 47, 48, 49, 51, 52, 53, 54, 55, 57, 58, 59, 60, 62, 63, 64, 65, 66, 67, 68, 70, 71, 72, 74, 75, 76, 78, 79, 80, 169, 170, 157, 158, 159, 160, 161, 162, 163, 164, 165, 166, 167, 168] rfl (by decide +kernel) (by decide +kernel)
set_option maxRecDepth 20000 in
theorem gX5_lay_X2_read : GoodIn wsX5_lay (wsV RX5 70 RX2 yX2_read wsX2_read) := goodIn_app (goodIn_of _ (by decide +kernel)) ggX5_lay_X2_read
set_option maxRecDepth 20000 in
theorem ggX5_lay_X4_canBeLaid : GoodIn wsX5_lay wsX4_canBeLaid := goodIn_c [85] [19, 20, 157, 158, 159, 160, 161, 162, 163, 164, 165, 166, 167, 168] rfl (by decide +kernel) (by decide +kernel)
set_option maxRecDepth 20000 in
theorem gX5_lay_X4_canBeLaid : GoodIn wsX5_lay (wsV RX5 74 RX4 yX4_canBeLaid wsX4_canBeLaid) := goodIn_app (goodIn_of _ (by decide +kernel)) ggX5_lay_X4_canBeLaid
set_option maxRecDepth 20000 in
theorem ggX5_lay_X5_layTheText : GoodIn wsX5_lay wsX5_layTheText := goodIn_c [90, 11, 18, 27, 31, 34, 38, 42, 46, 50, 56, 61, 69, 73, 77, 81, 101, 120, 124, 133, 137, 141, 145] [1, 2, 3, 5, 91, 92, 93, 94, 95, 96, 7, 8, 9, 10, 12, 13, 14, 15, 16, 17, 19, 20, 21, 22, 23, 24, 25, 26, 28, 29, 30, 32, 33, 35, 36, 37, 39, 40, 41, 43, 44, 45, 47, 48, 49, 51, 52, 53, 54, 55, 57, 58, 59, 60, 62, 63, 64, 65, 66, 67, 68, 70, 71, 72, 74, 75, 76, 78, 79, 80, 97, 98, 99, 100, 102, 103, 104, 105, 106, 107, 108, 109, 110, 111, 112, 113, 114, 115, 116, 117, 118, 119, 121, 122, 123, 125, 126, 127, 128, 129, 130, 131, 132, 134, 135, 136, 138, 139, 140, 142, 143, 144, 146, 147, 148, 149, 150, 151, 152, 153, 154, 155, 156, 171, 172, 173, 174, 175, 176, 177, 169, 170, 157, 158, 159, 160, 161, 162, 163, 164, 165, 166, 167, 168, 178, 179, 180, 181, 182, 183, 184, 185, 186, 187] rfl (by decide +kernel) (by decide +kernel)
set_option maxRecDepth 20000 in
theorem gX5_lay_X5_layTheText : GoodIn wsX5_lay (wsV RX5 63 RX5 yX5_layTheText wsX5_layTheText) := goodIn_app (goodIn_of _ (by decide +kernel)) ggX5_lay_X5_layTheText
set_option maxRecDepth 20000 in
theorem ggX5_person_X4_hasPerson : GoodIn wsX5_person wsX4_hasPerson := goodIn_c [9] [10, 42, 43, 44, 45, 46, 47, 48, 49, 50, 51, 52, 53] rfl (by decide +kernel) (by decide +kernel)
set_option maxRecDepth 20000 in
theorem gX5_person_X4_hasPerson : GoodIn wsX5_person (wsV RX5 81 RX4 yX4_hasPerson wsX4_hasPerson) := goodIn_app (goodIn_of _ (by decide +kernel)) ggX5_person_X4_hasPerson
set_option maxRecDepth 20000 in
theorem ggX5_person_X1_thingsOf : GoodIn wsX5_person wsX1_thingsOf := goodIn_c [15] [16, 17, 18, 54, 55, 56, 57, 58, 59, 60, 61, 62, 63, 42, 43, 44, 45, 46, 47, 48, 49, 50, 51, 52, 53] rfl (by decide +kernel) (by decide +kernel)
set_option maxRecDepth 20000 in
theorem gX5_person_X1_thingsOf : GoodIn wsX5_person (wsV RX5 91 RX1 yX1_thingsOf wsX1_thingsOf) := goodIn_app (goodIn_of _ (by decide +kernel)) ggX5_person_X1_thingsOf
set_option maxRecDepth 20000 in
theorem ggX5_person_X1_worthOf : GoodIn wsX5_person wsX1_worthOf := goodIn_c [22, 28] [23, 16, 17, 18, 24, 25, 26, 27, 8, 29, 30, 54, 55, 56, 57, 58, 59, 60, 61, 62, 63, 42, 43, 44, 45, 46, 47, 48, 49, 50, 51, 52, 53] rfl (by decide +kernel) (by decide +kernel)
set_option maxRecDepth 20000 in
theorem gX5_person_X1_worthOf : GoodIn wsX5_person (wsV RX5 95 RX1 yX1_worthOf wsX1_worthOf) := goodIn_app (goodIn_of _ (by decide +kernel)) ggX5_person_X1_worthOf
set_option maxRecDepth 20000 in
theorem ggX5_thing_X4_hasThing : GoodIn wsX5_thing wsX4_hasThing := goodIn_c [10] [11, 52, 53, 54, 55, 56, 57, 58, 59, 60, 61, 62, 63] rfl (by decide +kernel) (by decide +kernel)
set_option maxRecDepth 20000 in
theorem gX5_thing_X4_hasThing : GoodIn wsX5_thing (wsV RX5 98 RX4 yX4_hasThing wsX4_hasThing) := goodIn_app (goodIn_of _ (by decide +kernel)) ggX5_thing_X4_hasThing
set_option maxRecDepth 20000 in
theorem ggX5_thing_X4_costIn : GoodIn wsX5_thing wsX4_costIn := goodIn_c [15] [16, 17, 52, 53, 54, 55, 56, 57, 58, 59, 60, 61, 62, 63] rfl (by decide +kernel) (by decide +kernel)
set_option maxRecDepth 20000 in
theorem gX5_thing_X4_costIn : GoodIn wsX5_thing (wsV RX5 104 RX4 yX4_costIn wsX4_costIn) := goodIn_app (goodIn_of _ (by decide +kernel)) ggX5_thing_X4_costIn
set_option maxRecDepth 20000 in
theorem ggX5_thing_X1_isFree : GoodIn wsX5_thing wsX1_isFree := goodIn_c [22] [23, 42, 43, 44, 45, 46, 47, 48, 49, 50, 51] rfl (by decide +kernel) (by decide +kernel)
set_option maxRecDepth 20000 in
theorem gX5_thing_X1_isFree : GoodIn wsX5_thing (wsV RX5 114 RX1 yX1_isFree wsX1_isFree) := goodIn_app (goodIn_of _ (by decide +kernel)) ggX5_thing_X1_isFree
set_option maxRecDepth 20000 in
theorem ggX5_thing_X1_claimantOf : GoodIn wsX5_thing wsX1_claimantOf := goodIn_c [27] [28, 29, 30, 42, 43, 44, 45, 46, 47, 48, 49, 50, 51, 52, 53, 54, 55, 56, 57, 58, 59, 60, 61, 62, 63] rfl (by decide +kernel) (by decide +kernel)
set_option maxRecDepth 20000 in
theorem gX5_thing_X1_claimantOf : GoodIn wsX5_thing (wsV RX5 117 RX1 yX1_claimantOf wsX1_claimantOf) := goodIn_app (goodIn_of _ (by decide +kernel)) ggX5_thing_X1_claimantOf
set_option maxRecDepth 20000 in
theorem ggX5_nearly_X4_hasPerson : GoodIn wsX5_nearly wsX4_hasPerson := goodIn_c [11] [12, 39, 40, 41, 42, 43, 44, 45, 46, 47, 48, 49, 50] rfl (by decide +kernel) (by decide +kernel)
set_option maxRecDepth 20000 in
theorem gX5_nearly_X4_hasPerson : GoodIn wsX5_nearly (wsV RX5 81 RX4 yX4_hasPerson wsX4_hasPerson) := goodIn_app (goodIn_of _ (by decide +kernel)) ggX5_nearly_X4_hasPerson
set_option maxRecDepth 20000 in
theorem ggX5_nearly_X4_hasThing : GoodIn wsX5_nearly wsX4_hasThing := goodIn_c [16] [17, 39, 40, 41, 42, 43, 44, 45, 46, 47, 48, 49, 50] rfl (by decide +kernel) (by decide +kernel)
set_option maxRecDepth 20000 in
theorem gX5_nearly_X4_hasThing : GoodIn wsX5_nearly (wsV RX5 98 RX4 yX4_hasThing wsX4_hasThing) := goodIn_app (goodIn_of _ (by decide +kernel)) ggX5_nearly_X4_hasThing
set_option maxRecDepth 20000 in
theorem ggX5_pause_X4_hasPerson : GoodIn wsX5_pause wsX4_hasPerson := goodIn_c [9] [10, 87, 88, 89, 90, 91, 92, 93, 94, 95, 96, 97, 98] rfl (by decide +kernel) (by decide +kernel)
set_option maxRecDepth 20000 in
theorem gX5_pause_X4_hasPerson : GoodIn wsX5_pause (wsV RX5 81 RX4 yX4_hasPerson wsX4_hasPerson) := goodIn_app (goodIn_of _ (by decide +kernel)) ggX5_pause_X4_hasPerson
set_option maxRecDepth 20000 in
theorem ggX5_pause_X4_hasThing : GoodIn wsX5_pause wsX4_hasThing := goodIn_c [14] [15, 87, 88, 89, 90, 91, 92, 93, 94, 95, 96, 97, 98] rfl (by decide +kernel) (by decide +kernel)
set_option maxRecDepth 20000 in
theorem gX5_pause_X4_hasThing : GoodIn wsX5_pause (wsV RX5 98 RX4 yX4_hasThing wsX4_hasThing) := goodIn_app (goodIn_of _ (by decide +kernel)) ggX5_pause_X4_hasThing
set_option maxRecDepth 20000 in
theorem ggX5_pause_X0_remember : GoodIn wsX5_pause wsX0_remember := goodIn_c [20, 27, 32] [21, 22, 23, 24, 25, 26, 28, 29, 30, 31, 33, 34, 35, 36, 37, 38, 39, 40, 41, 42, 43, 44, 45, 99, 100, 101, 77, 78, 79, 80, 81, 82, 83, 84, 85, 86] rfl (by decide +kernel) (by decide +kernel)
set_option maxRecDepth 20000 in
theorem gX5_pause_X0_remember : GoodIn wsX5_pause (wsV RX5 133 RX0 yX0_remember wsX0_remember) := goodIn_app (goodIn_of _ (by decide +kernel)) ggX5_pause_X0_remember
set_option maxRecDepth 20000 in
theorem ggX5_pause_X1_addPause : GoodIn wsX5_pause wsX1_addPause := goodIn_c [49, 54, 59, 63] [42, 43, 33, 44, 50, 45, 51, 52, 53, 8, 55, 56, 57, 58, 60, 61, 62, 64, 65, 77, 78, 79, 80, 81, 82, 83, 84, 85, 86, 87, 88, 89, 90, 91, 92, 93, 94, 95, 96, 97, 98] rfl (by decide +kernel) (by decide +kernel)
set_option maxRecDepth 20000 in
theorem gX5_pause_X1_addPause : GoodIn wsX5_pause (wsV RX5 137 RX1 yX1_addPause wsX1_addPause) := goodIn_app (goodIn_of _ (by decide +kernel)) ggX5_pause_X1_addPause
set_option maxRecDepth 20000 in
theorem ggX5_fair_X0_remember : GoodIn wsX5_fair wsX0_remember := goodIn_c [8, 15, 20] [9, 10, 11, 12, 13, 14, 16, 17, 18, 19, 21, 22, 23, 24, 25, 26, 27, 28, 29, 30, 31, 32, 33, 113, 114, 115, 103, 104, 105, 106, 107, 108, 109, 110, 111, 112] rfl (by decide +kernel) (by decide +kernel)
set_option maxRecDepth 20000 in
theorem gX5_fair_X0_remember : GoodIn wsX5_fair (wsV RX5 133 RX0 yX0_remember wsX0_remember) := goodIn_app (goodIn_of _ (by decide +kernel)) ggX5_fair_X0_remember
set_option maxRecDepth 20000 in
theorem ggX5_fair_X1_holdFair : GoodIn wsX5_fair wsX1_holdFair := goodIn_c [37, 15, 46, 50, 54, 58, 62, 66, 75, 80, 85, 89] [38, 39, 40, 23, 41, 42, 13, 14, 21, 43, 44, 45, 19, 28, 47, 48, 49, 33, 29, 51, 52, 53, 32, 55, 56, 57, 59, 60, 61, 63, 64, 65, 67, 68, 69, 22, 70, 71, 72, 73, 74, 30, 31, 76, 77, 78, 79, 81, 82, 83, 84, 86, 87, 88, 90, 91, 103, 104, 105, 106, 107, 108, 109, 110, 111, 112, 116, 117, 118, 119, 120, 121, 122, 123, 124, 125, 126, 127] rfl (by decide +kernel) (by decide +kernel)
set_option maxRecDepth 20000 in
theorem gX5_fair_X1_holdFair : GoodIn wsX5_fair (wsV RX5 141 RX1 yX1_holdFair wsX1_holdFair) := goodIn_app (goodIn_of _ (by decide +kernel)) ggX5_fair_X1_holdFair
set_option maxRecDepth 20000 in
theorem ggX5_give_X4_hasPerson : GoodIn wsX5_give wsX4_hasPerson := goodIn_c [9] [10, 62, 63, 64, 65, 66, 67, 68, 69, 70, 71, 72, 73] rfl (by decide +kernel) (by decide +kernel)
set_option maxRecDepth 20000 in
theorem gX5_give_X4_hasPerson : GoodIn wsX5_give (wsV RX5 81 RX4 yX4_hasPerson wsX4_hasPerson) := goodIn_app (goodIn_of _ (by decide +kernel)) ggX5_give_X4_hasPerson
set_option maxRecDepth 20000 in
theorem ggX5_give_X0_remember : GoodIn wsX5_give wsX0_remember := goodIn_c [15, 22, 27] [16, 17, 18, 19, 20, 21, 23, 24, 25, 26, 28, 29, 30, 31, 32, 33, 34, 35, 36, 37, 38, 39, 40, 74, 75, 76, 52, 53, 54, 55, 56, 57, 58, 59, 60, 61] rfl (by decide +kernel) (by decide +kernel)
set_option maxRecDepth 20000 in
theorem gX5_give_X0_remember : GoodIn wsX5_give (wsV RX5 133 RX0 yX0_remember wsX0_remember) := goodIn_app (goodIn_of _ (by decide +kernel)) ggX5_give_X0_remember
set_option maxRecDepth 20000 in
theorem ggX5_undo_X0_restore : GoodIn wsX5_undo wsX0_restore := goodIn_c [8, 14, 20] [9, 10, 11, 12, 13, 15, 16, 17, 18, 19, 21, 22, 23, 24, 25, 26, 27, 28, 29, 30, 31, 32, 33, 45, 46, 47, 48, 49, 50, 51, 52, 53, 54, 55, 56, 57] rfl (by decide +kernel) (by decide +kernel)
set_option maxRecDepth 20000 in
theorem gX5_undo_X0_restore : GoodIn wsX5_undo (wsV RX5 148 RX0 yX0_restore wsX0_restore) := goodIn_app (goodIn_of _ (by decide +kernel)) ggX5_undo_X0_restore
set_option maxRecDepth 20000 in
theorem ggX5_behind_X4_hasThing : GoodIn wsX5_behind wsX4_hasThing := goodIn_c [9] [10, 114, 115, 116, 117, 118, 119, 120, 121, 122, 123, 124, 125] rfl (by decide +kernel) (by decide +kernel)
set_option maxRecDepth 20000 in
theorem gX5_behind_X4_hasThing : GoodIn wsX5_behind (wsV RX5 98 RX4 yX4_hasThing wsX4_hasThing) := goodIn_app (goodIn_of _ (by decide +kernel)) ggX5_behind_X4_hasThing
set_option maxRecDepth 20000 in
theorem ggX5_behind_X1_copyFrom : GoodIn wsX5_behind wsX1_copyFrom := goodIn_c [15] [16, 17, 18, 19, 20, 21, 22, 23, 24, 25, 26, 27, 28, 104, 105, 106, 107, 108, 109, 110, 111, 112, 113] rfl (by decide +kernel) (by decide +kernel)
set_option maxRecDepth 20000 in
theorem gX5_behind_X1_copyFrom : GoodIn wsX5_behind (wsV RX5 151 RX1 yX1_copyFrom wsX1_copyFrom) := goodIn_app (goodIn_of _ (by decide +kernel)) ggX5_behind_X1_copyFrom
set_option maxRecDepth 20000 in
theorem ggX5_behind_X1_holdFairs : GoodIn wsX5_behind wsX1_holdFairs := goodIn_c [32, 36, 44, 48, 52, 56, 60, 64, 68, 77, 81, 86, 90] [33, 34, 35, 14, 37, 38, 39, 18, 40, 41, 42, 43, 16, 45, 46, 47, 23, 49, 50, 51, 28, 24, 53, 54, 55, 27, 57, 58, 59, 61, 62, 63, 65, 66, 67, 69, 70, 71, 17, 72, 73, 74, 75, 76, 25, 26, 78, 79, 80, 8, 82, 83, 84, 85, 87, 88, 89, 91, 92, 104, 105, 106, 107, 108, 109, 110, 111, 112, 113, 114, 115, 116, 117, 118, 119, 120, 121, 122, 123, 124, 125] rfl (by decide +kernel) (by decide +kernel)
set_option maxRecDepth 20000 in
theorem gX5_behind_X1_holdFairs : GoodIn wsX5_behind (wsV RX5 154 RX1 yX1_holdFairs wsX1_holdFairs) := goodIn_app (goodIn_of _ (by decide +kernel)) ggX5_behind_X1_holdFairs
set_option maxRecDepth 20000 in
theorem ggX5_goes_X4_hasThing : GoodIn wsX5_goes wsX4_hasThing := goodIn_c [8] [9, 103, 104, 105, 106, 107, 108, 109, 110, 111, 112, 113, 114] rfl (by decide +kernel) (by decide +kernel)
set_option maxRecDepth 20000 in
theorem gX5_goes_X4_hasThing : GoodIn wsX5_goes (wsV RX5 98 RX4 yX4_hasThing wsX4_hasThing) := goodIn_app (goodIn_of _ (by decide +kernel)) ggX5_goes_X4_hasThing
set_option maxRecDepth 20000 in
theorem ggX5_goes_X1_copyFrom : GoodIn wsX5_goes wsX1_copyFrom := goodIn_c [14] [15, 16, 17, 18, 19, 20, 21, 22, 23, 24, 25, 26, 27, 115, 116, 117, 118, 119, 120, 121, 122, 123, 124] rfl (by decide +kernel) (by decide +kernel)
set_option maxRecDepth 20000 in
theorem gX5_goes_X1_copyFrom : GoodIn wsX5_goes (wsV RX5 151 RX1 yX1_copyFrom wsX1_copyFrom) := goodIn_app (goodIn_of _ (by decide +kernel)) ggX5_goes_X1_copyFrom
set_option maxRecDepth 20000 in
theorem ggX5_goes_X1_fairsTillGone : GoodIn wsX5_goes wsX1_fairsTillGone := goodIn_c [31, 35, 39, 47, 51, 55, 59, 63, 67, 76, 80, 85, 89] [32, 33, 34, 13, 22, 36, 37, 38, 40, 41, 42, 17, 43, 44, 45, 46, 15, 48, 49, 50, 27, 23, 52, 53, 54, 26, 56, 57, 58, 60, 61, 62, 64, 65, 66, 68, 69, 70, 16, 71, 72, 73, 74, 75, 24, 25, 77, 78, 79, 7, 81, 82, 83, 84, 86, 87, 88, 90, 91, 115, 116, 117, 118, 119, 120, 121, 122, 123, 124, 103, 104, 105, 106, 107, 108, 109, 110, 111, 112, 113, 114] rfl (by decide +kernel) (by decide +kernel)
set_option maxRecDepth 20000 in
theorem gX5_goes_X1_fairsTillGone : GoodIn wsX5_goes (wsV RX5 158 RX1 yX1_fairsTillGone wsX1_fairsTillGone) := goodIn_app (goodIn_of _ (by decide +kernel)) ggX5_goes_X1_fairsTillGone
set_option maxRecDepth 20000 in
theorem ggX5_never_X1_copyFrom : GoodIn wsX5_never wsX1_copyFrom := goodIn_c [9] [10, 11, 12, 13, 14, 15, 16, 17, 18, 19, 20, 21, 22, 112, 113, 114, 115, 116, 117, 118, 119, 120, 121] rfl (by decide +kernel) (by decide +kernel)
set_option maxRecDepth 20000 in
theorem gX5_never_X1_copyFrom : GoodIn wsX5_never (wsV RX5 151 RX1 yX1_copyFrom wsX1_copyFrom) := goodIn_app (goodIn_of _ (by decide +kernel)) ggX5_never_X1_copyFrom
set_option maxRecDepth 20000 in
theorem ggX5_never_X1_holdFairs : GoodIn wsX5_never wsX1_holdFairs := goodIn_c [26, 30, 38, 42, 46, 50, 54, 58, 62, 71, 76, 81, 85] [27, 28, 29, 8, 31, 32, 33, 12, 34, 35, 36, 37, 10, 39, 40, 41, 17, 43, 44, 45, 22, 18, 47, 48, 49, 21, 51, 52, 53, 55, 56, 57, 59, 60, 61, 63, 64, 65, 11, 66, 67, 68, 69, 70, 19, 20, 72, 73, 74, 75, 77, 78, 79, 80, 82, 83, 84, 86, 87, 112, 113, 114, 115, 116, 117, 118, 119, 120, 121, 100, 101, 102, 103, 104, 105, 106, 107, 108, 109, 110, 111] rfl (by decide +kernel) (by decide +kernel)
set_option maxRecDepth 20000 in
theorem gX5_never_X1_holdFairs : GoodIn wsX5_never (wsV RX5 154 RX1 yX1_holdFairs wsX1_holdFairs) := goodIn_app (goodIn_of _ (by decide +kernel)) ggX5_never_X1_holdFairs
set_option maxRecDepth 20000 in
theorem ggX5_never_X1_isFree : GoodIn wsX5_never wsX1_isFree := goodIn_c [42] [17, 112, 113, 114, 115, 116, 117, 118, 119, 120, 121] rfl (by decide +kernel) (by decide +kernel)
set_option maxRecDepth 20000 in
theorem gX5_never_X1_isFree : GoodIn wsX5_never (wsV RX5 114 RX1 yX1_isFree wsX1_isFree) := goodIn_app (goodIn_of _ (by decide +kernel)) ggX5_never_X1_isFree
set_option maxRecDepth 20000 in
theorem ggX5_stop_X4_hasPerson : GoodIn wsX5_stop wsX4_hasPerson := goodIn_c [9] [10, 120, 121, 122, 123, 124, 125, 126, 127, 128, 129, 130, 131] rfl (by decide +kernel) (by decide +kernel)
set_option maxRecDepth 20000 in
theorem gX5_stop_X4_hasPerson : GoodIn wsX5_stop (wsV RX5 81 RX4 yX4_hasPerson wsX4_hasPerson) := goodIn_app (goodIn_of _ (by decide +kernel)) ggX5_stop_X4_hasPerson
set_option maxRecDepth 20000 in
theorem ggX5_stop_X4_hasThing : GoodIn wsX5_stop wsX4_hasThing := goodIn_c [14] [15, 120, 121, 122, 123, 124, 125, 126, 127, 128, 129, 130, 131] rfl (by decide +kernel) (by decide +kernel)
set_option maxRecDepth 20000 in
theorem gX5_stop_X4_hasThing : GoodIn wsX5_stop (wsV RX5 98 RX4 yX4_hasThing wsX4_hasThing) := goodIn_app (goodIn_of _ (by decide +kernel)) ggX5_stop_X4_hasThing
set_option maxRecDepth 20000 in
theorem ggX5_stop_X1_copyFrom : GoodIn wsX5_stop wsX1_copyFrom := goodIn_c [20] [21, 22, 23, 24, 25, 26, 27, 28, 29, 30, 31, 32, 33, 110, 111, 112, 113, 114, 115, 116, 117, 118, 119] rfl (by decide +kernel) (by decide +kernel)
set_option maxRecDepth 20000 in
theorem gX5_stop_X1_copyFrom : GoodIn wsX5_stop (wsV RX5 151 RX1 yX1_copyFrom wsX1_copyFrom) := goodIn_app (goodIn_of _ (by decide +kernel)) ggX5_stop_X1_copyFrom
set_option maxRecDepth 20000 in
theorem ggX5_stop_X1_addPause : GoodIn wsX5_stop wsX1_addPause := goodIn_c [37, 42, 47, 51] [30, 31, 21, 32, 38, 33, 39, 40, 41, 8, 43, 44, 45, 46, 48, 49, 50, 52, 53, 110, 111, 112, 113, 114, 115, 116, 117, 118, 119, 120, 121, 122, 123, 124, 125, 126, 127, 128, 129, 130, 131] rfl (by decide +kernel) (by decide +kernel)
set_option maxRecDepth 20000 in
theorem gX5_stop_X1_addPause : GoodIn wsX5_stop (wsV RX5 137 RX1 yX1_addPause wsX1_addPause) := goodIn_app (goodIn_of _ (by decide +kernel)) ggX5_stop_X1_addPause
set_option maxRecDepth 20000 in
theorem ggX5_stop_X1_fairsTillGone : GoodIn wsX5_stop wsX1_fairsTillGone := goodIn_c [57, 61, 65, 72, 76, 80, 84, 88, 92, 37, 42, 47, 51] [58, 59, 60, 19, 28, 62, 63, 64, 38, 66, 67, 23, 68, 69, 70, 71, 21, 73, 74, 75, 33, 29, 77, 78, 79, 32, 81, 82, 83, 85, 86, 87, 89, 90, 91, 93, 94, 95, 22, 96, 97, 98, 35, 36, 30, 31, 39, 40, 41, 8, 43, 44, 45, 46, 48, 49, 50, 52, 53, 110, 111, 112, 113, 114, 115, 116, 117, 118, 119, 120, 121, 122, 123, 124, 125, 126, 127, 128, 129, 130, 131] rfl (by decide +kernel) (by decide +kernel)
set_option maxRecDepth 20000 in
theorem gX5_stop_X1_fairsTillGone : GoodIn wsX5_stop (wsV RX5 158 RX1 yX1_fairsTillGone wsX1_fairsTillGone) := goodIn_app (goodIn_of _ (by decide +kernel)) ggX5_stop_X1_fairsTillGone
set_option maxRecDepth 20000 in
theorem ggX5_rank_X4_hasPerson : GoodIn wsX5_rank wsX4_hasPerson := goodIn_c [9] [10, 30, 31, 32, 33, 34, 35, 36, 37, 38, 39, 40, 41] rfl (by decide +kernel) (by decide +kernel)
set_option maxRecDepth 20000 in
theorem gX5_rank_X4_hasPerson : GoodIn wsX5_rank (wsV RX5 81 RX4 yX4_hasPerson wsX4_hasPerson) := goodIn_app (goodIn_of _ (by decide +kernel)) ggX5_rank_X4_hasPerson
set_option maxRecDepth 20000 in
theorem ggX5_rank_X1_dearerTo : GoodIn wsX5_rank wsX1_dearerTo := goodIn_c [15] [16, 17, 18, 42, 43, 44, 45, 46, 47, 48, 49, 50, 51, 30, 31, 32, 33, 34, 35, 36, 37, 38, 39, 40, 41] rfl (by decide +kernel) (by decide +kernel)
set_option maxRecDepth 20000 in
theorem gX5_rank_X1_dearerTo : GoodIn wsX5_rank (wsV RX5 161 RX1 yX1_dearerTo wsX1_dearerTo) := goodIn_app (goodIn_of _ (by decide +kernel)) ggX5_rank_X1_dearerTo
set_option maxRecDepth 20000 in
theorem ggX5_wanted_X1_wantersOf : GoodIn wsX5_wanted wsX1_wantersOf := goodIn_c [8] [9, 10, 11, 35, 36, 37, 38, 39, 40, 41, 42, 43, 44, 23, 24, 25, 26, 27, 28, 29, 30, 31, 32, 33, 34] rfl (by decide +kernel) (by decide +kernel)
set_option maxRecDepth 20000 in
theorem gX5_wanted_X1_wantersOf : GoodIn wsX5_wanted (wsV RX5 164 RX1 yX1_wantersOf wsX1_wantersOf) := goodIn_app (goodIn_of _ (by decide +kernel)) ggX5_wanted_X1_wantersOf
set_option maxRecDepth 20000 in
theorem ggX5_seen_X4_hasThing : GoodIn wsX5_seen wsX4_hasThing := goodIn_c [8] [9, 39, 40, 41, 42, 43, 44, 45, 46, 47, 48, 49, 50] rfl (by decide +kernel) (by decide +kernel)
set_option maxRecDepth 20000 in
theorem gX5_seen_X4_hasThing : GoodIn wsX5_seen (wsV RX5 98 RX4 yX4_hasThing wsX4_hasThing) := goodIn_app (goodIn_of _ (by decide +kernel)) ggX5_seen_X4_hasThing
set_option maxRecDepth 20000 in
theorem ggX5_seen_X4_hasPerson : GoodIn wsX5_seen wsX4_hasPerson := goodIn_c [13] [14, 39, 40, 41, 42, 43, 44, 45, 46, 47, 48, 49, 50] rfl (by decide +kernel) (by decide +kernel)
set_option maxRecDepth 20000 in
theorem gX5_seen_X4_hasPerson : GoodIn wsX5_seen (wsV RX5 81 RX4 yX4_hasPerson wsX4_hasPerson) := goodIn_app (goodIn_of _ (by decide +kernel)) ggX5_seen_X4_hasPerson
set_option maxRecDepth 20000 in
theorem ggX5_seen_X3_add : GoodIn wsX5_seen wsX3_add := goodIn_c [19] [20, 21, 22, 23, 35, 36, 37, 38] rfl (by decide +kernel) (by decide +kernel)
set_option maxRecDepth 20000 in
theorem gX5_seen_X3_add : GoodIn wsX5_seen (wsV RX5 168 RX3 yX3_add wsX3_add) := goodIn_app (goodIn_of _ (by decide +kernel)) ggX5_seen_X3_add
set_option maxRecDepth 20000 in
theorem ggX5_feigned_X3_allHoldIn : GoodIn wsX5_feigned wsX3_allHoldIn := goodIn_c [9, 19, 38, 42, 51, 56, 61, 65, 71, 78, 82, 86, 90, 94, 98] [10, 11, 12, 13, 14, 15, 16, 17, 18, 20, 21, 22, 23, 24, 25, 26, 27, 28, 29, 30, 31, 32, 33, 34, 35, 36, 37, 39, 40, 41, 43, 44, 45, 46, 47, 48, 49, 50, 52, 53, 54, 55, 57, 58, 59, 60, 62, 63, 64, 66, 67, 68, 69, 70, 72, 73, 74, 75, 76, 77, 79, 80, 81, 83, 84, 85, 87, 88, 89, 91, 92, 93, 95, 96, 97, 122, 123, 124, 125, 126, 127, 128, 129, 130, 131, 132, 133, 134, 135, 110, 111, 112, 113, 114, 115, 116, 117, 118, 119, 120, 121] rfl (by decide +kernel) (by decide +kernel)
set_option maxRecDepth 20000 in
theorem gX5_feigned_X3_allHoldIn : GoodIn wsX5_feigned (wsV RX5 171 RX3 yX3_allHoldIn wsX3_allHoldIn) := goodIn_app (goodIn_of _ (by decide +kernel)) ggX5_feigned_X3_allHoldIn
set_option maxRecDepth 20000 in
theorem ggX5_counts_X4_hasPerson : GoodIn wsX5_counts wsX4_hasPerson := goodIn_c [10] [11, 36, 37, 38, 39, 40, 41, 42, 43, 44, 45, 46, 47] rfl (by decide +kernel) (by decide +kernel)
set_option maxRecDepth 20000 in
theorem gX5_counts_X4_hasPerson : GoodIn wsX5_counts (wsV RX5 81 RX4 yX4_hasPerson wsX4_hasPerson) := goodIn_app (goodIn_of _ (by decide +kernel)) ggX5_counts_X4_hasPerson
set_option maxRecDepth 20000 in
theorem ggX5_counts_X5_uncountedDraws : GoodIn wsX5_counts wsX5_uncountedDraws := goodIn_c [16, 20] [1, 17, 18, 19, 9, 21, 25, 26, 27, 28, 29, 30, 31, 32, 33, 34, 35, 36, 37, 38, 39, 40, 41, 42, 43, 44, 45, 46, 47] rfl (by decide +kernel) (by decide +kernel)
set_option maxRecDepth 20000 in
theorem gX5_counts_X5_uncountedDraws : GoodIn wsX5_counts (wsV RX5 178 RX5 yX5_uncountedDraws wsX5_uncountedDraws) := goodIn_app (goodIn_of _ (by decide +kernel)) ggX5_counts_X5_uncountedDraws
set_option maxRecDepth 20000 in
theorem ggX5_counts_X5_greatestDivisor : GoodIn wsX5_counts wsX5_greatestDivisor := goodIn_c [24] [] rfl (by decide +kernel) (by decide +kernel)
set_option maxRecDepth 20000 in
theorem gX5_counts_X5_greatestDivisor : GoodIn wsX5_counts (va_wsS RX5 181 yX5_greatestDivisor wsX5_greatestDivisor) := goodIn_app (goodIn_of _ (by decide +kernel)) ggX5_counts_X5_greatestDivisor
set_option maxRecDepth 20000 in
theorem ggX5_cheapest_X4_hasThing : GoodIn wsX5_cheapest wsX4_hasThing := goodIn_c [9] [10, 22, 23, 24, 25, 26, 27, 28, 29, 30, 31, 32, 33] rfl (by decide +kernel) (by decide +kernel)
set_option maxRecDepth 20000 in
theorem gX5_cheapest_X4_hasThing : GoodIn wsX5_cheapest (wsV RX5 98 RX4 yX4_hasThing wsX4_hasThing) := goodIn_app (goodIn_of _ (by decide +kernel)) ggX5_cheapest_X4_hasThing
set_option maxRecDepth 20000 in
theorem ggX5_greens_X1_copyFrom : GoodIn wsX5_greens wsX1_copyFrom := goodIn_c [7] [8, 9, 10, 11, 12, 13, 14, 15, 16, 17, 18, 19, 20, 117, 118, 119, 120, 121, 122, 123, 124, 125, 126] rfl (by decide +kernel) (by decide +kernel)
set_option maxRecDepth 20000 in
theorem gX5_greens_X1_copyFrom : GoodIn wsX5_greens (wsV RX5 151 RX1 yX1_copyFrom wsX1_copyFrom) := goodIn_app (goodIn_of _ (by decide +kernel)) ggX5_greens_X1_copyFrom
set_option maxRecDepth 20000 in
theorem ggX5_greens_X5_draw : GoodIn wsX5_greens wsX5_draw := goodIn_c [24] [25, 26, 27, 28] rfl (by decide +kernel) (by decide +kernel)
set_option maxRecDepth 20000 in
theorem gX5_greens_X5_draw : GoodIn wsX5_greens (va_wsS RX5 189 yX5_draw wsX5_draw) := goodIn_app (goodIn_of _ (by decide +kernel)) ggX5_greens_X5_draw
set_option maxRecDepth 20000 in
theorem ggX5_greens_X5_addDrawnPause : GoodIn wsX5_greens wsX5_addDrawnPause := goodIn_c [32, 39, 45, 50, 54] [33, 34, 35, 1, 36, 37, 38, 6, 17, 18, 8, 19, 40, 20, 41, 42, 43, 44, 46, 47, 48, 49, 51, 52, 53, 55, 56, 106, 107, 108, 109, 110, 111, 112, 113, 114, 115, 116, 127, 128, 129, 130, 131, 132, 133, 134, 135, 136, 137, 138, 117, 118, 119, 120, 121, 122, 123, 124, 125, 126] rfl (by decide +kernel) (by decide +kernel)
set_option maxRecDepth 20000 in
theorem gX5_greens_X5_addDrawnPause : GoodIn wsX5_greens (wsV RX5 192 RX5 yX5_addDrawnPause wsX5_addDrawnPause) := goodIn_app (goodIn_of _ (by decide +kernel)) ggX5_greens_X5_addDrawnPause
set_option maxRecDepth 20000 in
theorem ggX5_greens_X1_holdFair : GoodIn wsX5_greens wsX1_holdFair := goodIn_c [60, 67, 71, 75, 79, 83, 87, 91, 39, 45, 50, 54] [40, 61, 62, 10, 63, 64, 65, 66, 8, 68, 69, 70, 6, 15, 72, 73, 74, 20, 16, 76, 77, 78, 19, 80, 81, 82, 84, 85, 86, 88, 89, 90, 92, 93, 94, 9, 95, 96, 97, 37, 38, 17, 18, 41, 42, 43, 44, 46, 47, 48, 49, 51, 52, 53, 55, 56, 117, 118, 119, 120, 121, 122, 123, 124, 125, 126, 127, 128, 129, 130, 131, 132, 133, 134, 135, 136, 137, 138] rfl (by decide +kernel) (by decide +kernel)
set_option maxRecDepth 20000 in
theorem gX5_greens_X1_holdFair : GoodIn wsX5_greens (wsV RX5 141 RX1 yX1_holdFair wsX1_holdFair) := goodIn_app (goodIn_of _ (by decide +kernel)) ggX5_greens_X1_holdFair
set_option maxRecDepth 20000 in
theorem ggX5_greens_X1_thingsGone : GoodIn wsX5_greens wsX1_thingsGone := goodIn_c [101, 71] [40, 61, 68, 69, 70, 6, 15, 117, 118, 119, 120, 121, 122, 123, 124, 125, 126, 127, 128, 129, 130, 131, 132, 133, 134, 135, 136, 137, 138] rfl (by decide +kernel) (by decide +kernel)
set_option maxRecDepth 20000 in
theorem gX5_greens_X1_thingsGone : GoodIn wsX5_greens (wsV RX5 195 RX1 yX1_thingsGone wsX1_thingsGone) := goodIn_app (goodIn_of _ (by decide +kernel)) ggX5_greens_X1_thingsGone
set_option maxRecDepth 20000 in
theorem ggX5_greens_X1_coinsOfAll : GoodIn wsX5_greens wsX1_coinsOfAll := goodIn_c [105] [40, 62, 10, 117, 118, 119, 120, 121, 122, 123, 124, 125, 126, 127, 128, 129, 130, 131, 132, 133, 134, 135, 136, 137, 138] rfl (by decide +kernel) (by decide +kernel)
set_option maxRecDepth 20000 in
theorem gX5_greens_X1_coinsOfAll : GoodIn wsX5_greens (wsV RX5 198 RX1 yX1_coinsOfAll wsX1_coinsOfAll) := goodIn_app (goodIn_of _ (by decide +kernel)) ggX5_greens_X1_coinsOfAll
set_option maxRecDepth 20000 in
theorem ggX5_keep_X1_copyFrom : GoodIn wsX5_keep wsX1_copyFrom := goodIn_c [8] [9, 10, 11, 12, 13, 14, 15, 16, 17, 18, 19, 20, 21, 33, 34, 35, 36, 37, 38, 39, 40, 41, 42] rfl (by decide +kernel) (by decide +kernel)
set_option maxRecDepth 20000 in
theorem gX5_keep_X1_copyFrom : GoodIn wsX5_keep (wsV RX5 151 RX1 yX1_copyFrom wsX1_copyFrom) := goodIn_app (goodIn_of _ (by decide +kernel)) ggX5_keep_X1_copyFrom
set_option maxRecDepth 20000 in
theorem ggX5_back_X1_copyFrom : GoodIn wsX5_back wsX1_copyFrom := goodIn_c [10] [11, 12, 13, 14, 15, 16, 17, 18, 19, 20, 21, 22, 23, 38, 39, 40, 41, 42, 43, 44, 45, 46, 47] rfl (by decide +kernel) (by decide +kernel)
set_option maxRecDepth 20000 in
theorem gX5_back_X1_copyFrom : GoodIn wsX5_back (wsV RX5 151 RX1 yX1_copyFrom wsX1_copyFrom) := goodIn_app (goodIn_of _ (by decide +kernel)) ggX5_back_X1_copyFrom
set_option maxRecDepth 20000 in
theorem ggX5_count_X1_thingsGone : GoodIn wsX5_count wsX1_thingsGone := goodIn_c [16, 22] [17, 18, 19, 20, 21, 15, 23, 53, 54, 55, 56, 57, 58, 59, 60, 61, 62, 41, 42, 43, 44, 45, 46, 47, 48, 49, 50, 51, 52] rfl (by decide +kernel) (by decide +kernel)
set_option maxRecDepth 20000 in
theorem gX5_count_X1_thingsGone : GoodIn wsX5_count (wsV RX5 195 RX1 yX1_thingsGone wsX1_thingsGone) := goodIn_app (goodIn_of _ (by decide +kernel)) ggX5_count_X1_thingsGone
set_option maxRecDepth 20000 in
theorem ggX5_count_X1_coinsOfAll : GoodIn wsX5_count wsX1_coinsOfAll := goodIn_c [27] [17, 28, 29, 53, 54, 55, 56, 57, 58, 59, 60, 61, 62, 41, 42, 43, 44, 45, 46, 47, 48, 49, 50, 51, 52] rfl (by decide +kernel) (by decide +kernel)
set_option maxRecDepth 20000 in
theorem gX5_count_X1_coinsOfAll : GoodIn wsX5_count (wsV RX5 198 RX1 yX1_coinsOfAll wsX1_coinsOfAll) := goodIn_app (goodIn_of _ (by decide +kernel)) ggX5_count_X1_coinsOfAll
set_option maxRecDepth 20000 in
theorem ggX5_putFirstText_J0_length_8abf5 : GoodIn wsX5_putFirstText wsJ0_length_8abf5 := goodIn_c [11, 16] [12, 13, 14, 15, 10, 17, 18] rfl (by decide +kernel) (by decide +kernel)
set_option maxRecDepth 20000 in
theorem gX5_putFirstText_J0_length_8abf5 : GoodIn wsX5_putFirstText (wsV RX5 206 RJ0 yJ0_length_8abf5 wsJ0_length_8abf5) := goodIn_app (goodIn_of _ (by decide +kernel)) ggX5_putFirstText_J0_length_8abf5
set_option maxRecDepth 20000 in
theorem ggX5_putFirstText_J0_charAt_5068e : GoodIn wsX5_putFirstText wsJ0_charAt_5068e := goodIn_c [22, 26, 30, 33, 38, 42, 45, 48, 52] [12, 23, 24, 25, 10, 17, 18, 27, 28, 29, 31, 32, 34, 35, 36, 37, 39, 40, 41, 43, 44, 46, 47, 49, 50, 51, 53, 54, 55] rfl (by decide +kernel) (by decide +kernel)
set_option maxRecDepth 20000 in
theorem gX5_putFirstText_J0_charAt_5068e : GoodIn wsX5_putFirstText (wsV RX5 214 RJ0 yJ0_charAt_5068e wsJ0_charAt_5068e) := goodIn_app (goodIn_of _ (by decide +kernel)) ggX5_putFirstText_J0_charAt_5068e
set_option maxRecDepth 20000 in
theorem ggX5_layTheText_X2_read : GoodIn wsX5_layTheText wsX2_read := goodIn_c [15, 22, 31, 35, 38, 42, 46, 50, 54, 60, 65, 73, 77, 81, 85] [16, 17, 18, 19, 20, 21, 23, 24, 25, 26, 27, 28, 29, 30, 14, 32, 33, 34, 36, 37, 39, 40, 41, 43, 44, 45, 47, 48, 49, 51, 52, 53, 55, 56, 57, 58, 59, 61, 62, 63, 64, 66, 67, 68, 69, 70, 71, 72, 74, 75, 76, 78, 79, 80, 82, 83, 84, 153, 154, 155, 156, 157, 158, 159, 160, 161, 162, 163, 164, 165, 166] rfl (by decide +kernel) (by decide +kernel)
set_option maxRecDepth 20000 in
theorem gX5_layTheText_X2_read : GoodIn wsX5_layTheText (wsV RX5 70 RX2 yX2_read wsX2_read) := goodIn_app (goodIn_of _ (by decide +kernel)) ggX5_layTheText_X2_read
set_option maxRecDepth 20000 in
theorem ggX5_layTheText_X1_begin : GoodIn wsX5_layTheText wsX1_begin := goodIn_c [90, 109, 113, 122, 126, 130, 134] [91, 92, 93, 94, 95, 96, 97, 98, 99, 100, 101, 102, 103, 104, 105, 106, 107, 108, 110, 111, 112, 89, 114, 115, 116, 117, 118, 119, 120, 121, 123, 124, 125, 21, 55, 127, 128, 129, 131, 132, 133, 61, 27, 167, 168, 169, 170, 171, 172, 173, 174, 175, 176, 155, 156, 157, 158, 159, 160, 161, 162, 163, 164, 165, 166] rfl (by decide +kernel) (by decide +kernel)
set_option maxRecDepth 20000 in
theorem gX5_layTheText_X1_begin : GoodIn wsX5_layTheText (wsV RX5 218 RX1 yX1_begin wsX1_begin) := goodIn_app (goodIn_of _ (by decide +kernel)) ggX5_layTheText_X1_begin
set_option maxRecDepth 20000 in
theorem ggX5_uncountedDraws_X4_countedFor : GoodIn wsX5_uncountedDraws wsX4_countedFor := goodIn_c [6] [7, 19, 20, 21, 22, 23, 24, 25, 26, 27, 28, 29, 30] rfl (by decide +kernel) (by decide +kernel)
set_option maxRecDepth 20000 in
theorem gX5_uncountedDraws_X4_countedFor : GoodIn wsX5_uncountedDraws (wsV RX5 221 RX4 yX4_countedFor wsX4_countedFor) := goodIn_app (goodIn_of _ (by decide +kernel)) ggX5_uncountedDraws_X4_countedFor
set_option maxRecDepth 20000 in
theorem ggX5_addDrawnPause_X1_addPause : GoodIn wsX5_addDrawnPause wsX1_addPause := goodIn_c [9, 20, 25, 29] [10, 11, 12, 13, 14, 15, 16, 17, 18, 19, 21, 22, 23, 24, 26, 27, 28, 30, 31, 55, 56, 57, 58, 59, 60, 61, 62, 63, 64, 43, 44, 45, 46, 47, 48, 49, 50, 51, 52, 53, 54] rfl (by decide +kernel) (by decide +kernel)
set_option maxRecDepth 20000 in
theorem gX5_addDrawnPause_X1_addPause : GoodIn wsX5_addDrawnPause (wsV RX5 137 RX1 yX1_addPause wsX1_addPause) := goodIn_app (goodIn_of _ (by decide +kernel)) ggX5_addDrawnPause_X1_addPause
set_option maxRecDepth 20000 in
theorem ggX6_init_X6_begins : GoodIn wsX6_init wsX6_begins := goodIn_c [18] [7, 42, 43, 44, 45, 46, 47, 48, 49, 50, 51, 52, 53, 54, 55] rfl (by decide +kernel) (by decide +kernel)
set_option maxRecDepth 20000 in
theorem gX6_init_X6_begins : GoodIn wsX6_init (wsV RX6 38 RX6 yX6_begins wsX6_begins) := goodIn_app (goodIn_of _ (by decide +kernel)) ggX6_init_X6_begins
set_option maxRecDepth 20000 in
theorem ggX6_init_X6_personOf : GoodIn wsX6_init wsX6_personOf := goodIn_c [22] [7, 42, 43, 44, 45, 46, 47, 48, 49, 50, 51, 52, 53, 54, 55] rfl (by decide +kernel) (by decide +kernel)
set_option maxRecDepth 20000 in
theorem gX6_init_X6_personOf : GoodIn wsX6_init (wsV RX6 41 RX6 yX6_personOf wsX6_personOf) := goodIn_app (goodIn_of _ (by decide +kernel)) ggX6_init_X6_personOf
set_option maxRecDepth 20000 in
theorem ggX6_init_X6_thingOf : GoodIn wsX6_init wsX6_thingOf := goodIn_c [26] [7, 42, 43, 44, 45, 46, 47, 48, 49, 50, 51, 52, 53, 54, 55] rfl (by decide +kernel) (by decide +kernel)
set_option maxRecDepth 20000 in
theorem gX6_init_X6_thingOf : GoodIn wsX6_init (wsV RX6 45 RX6 yX6_thingOf wsX6_thingOf) := goodIn_app (goodIn_of _ (by decide +kernel)) ggX6_init_X6_thingOf
set_option maxRecDepth 20000 in
theorem ggX6_init_X6_pauseOf : GoodIn wsX6_init wsX6_pauseOf := goodIn_c [30] [7, 42, 43, 44, 45, 46, 47, 48, 49, 50, 51, 52, 53, 54, 55] rfl (by decide +kernel) (by decide +kernel)
set_option maxRecDepth 20000 in
theorem gX6_init_X6_pauseOf : GoodIn wsX6_init (wsV RX6 49 RX6 yX6_pauseOf wsX6_pauseOf) := goodIn_app (goodIn_of _ (by decide +kernel)) ggX6_init_X6_pauseOf
set_option maxRecDepth 20000 in
theorem ggX6_init_X6_lays : GoodIn wsX6_init wsX6_lays := goodIn_c [34, 41] [6, 7, 35, 36, 37, 38, 39, 40, 17, 8, 42, 43, 44, 45, 46, 47, 48, 49, 50, 51, 52, 53, 54, 55] rfl (by decide +kernel) (by decide +kernel)
set_option maxRecDepth 20000 in
theorem gX6_init_X6_lays : GoodIn wsX6_init (wsV RX6 53 RX6 yX6_lays wsX6_lays) := goodIn_app (goodIn_of _ (by decide +kernel)) ggX6_init_X6_lays
set_option maxRecDepth 20000 in
theorem ggX6_isPerson_X6_in : GoodIn wsX6_isPerson wsX6_in := goodIn_c [5] [] rfl (by decide +kernel) (by decide +kernel)
set_option maxRecDepth 20000 in
theorem gX6_isPerson_X6_in : GoodIn wsX6_isPerson (va_wsS RX6 56 yX6_in wsX6_in) := goodIn_app (goodIn_of _ (by decide +kernel)) ggX6_isPerson_X6_in
set_option maxRecDepth 20000 in
theorem ggX6_isThing_X6_in : GoodIn wsX6_isThing wsX6_in := goodIn_c [5] [] rfl (by decide +kernel) (by decide +kernel)
set_option maxRecDepth 20000 in
theorem gX6_isThing_X6_in : GoodIn wsX6_isThing (va_wsS RX6 56 yX6_in wsX6_in) := goodIn_app (goodIn_of _ (by decide +kernel)) ggX6_isThing_X6_in
set_option maxRecDepth 20000 in
theorem ggX6_write_X6_in : GoodIn wsX6_write wsX6_in := goodIn_c [6] [] rfl (by decide +kernel) (by decide +kernel)
set_option maxRecDepth 20000 in
theorem gX6_write_X6_in : GoodIn wsX6_write (va_wsS RX6 56 yX6_in wsX6_in) := goodIn_app (goodIn_of _ (by decide +kernel)) ggX6_write_X6_in
set_option maxRecDepth 20000 in
theorem ggX6_isFigure_X6_in : GoodIn wsX6_isFigure wsX6_in := goodIn_c [4] [] rfl (by decide +kernel) (by decide +kernel)
set_option maxRecDepth 20000 in
theorem gX6_isFigure_X6_in : GoodIn wsX6_isFigure (va_wsS RX6 56 yX6_in wsX6_in) := goodIn_app (goodIn_of _ (by decide +kernel)) ggX6_isFigure_X6_in
set_option maxRecDepth 20000 in
theorem ggX6_number_X6_letterAt : GoodIn wsX6_number wsX6_letterAt := goodIn_c [6] [7, 8, 15, 16, 17, 18, 19, 20, 21, 22, 23, 24, 25, 26, 27, 28] rfl (by decide +kernel) (by decide +kernel)
set_option maxRecDepth 20000 in
theorem gX6_number_X6_letterAt : GoodIn wsX6_number (wsV RX6 66 RX6 yX6_letterAt wsX6_letterAt) := goodIn_app (goodIn_of _ (by decide +kernel)) ggX6_number_X6_letterAt
set_option maxRecDepth 20000 in
theorem ggX6_number_X6_isFigure : GoodIn wsX6_number wsX6_isFigure := goodIn_c [11, 14] [12, 13, 5] rfl (by decide +kernel) (by decide +kernel)
set_option maxRecDepth 20000 in
theorem gX6_number_X6_isFigure : GoodIn wsX6_number (va_wsS RX6 70 yX6_isFigure wsX6_isFigure) := goodIn_app (goodIn_of _ (by decide +kernel)) ggX6_number_X6_isFigure
set_option maxRecDepth 20000 in
theorem ggX6_number_X6_in : GoodIn wsX6_number wsX6_in := goodIn_c [14] [] rfl (by decide +kernel) (by decide +kernel)
set_option maxRecDepth 20000 in
theorem gX6_number_X6_in : GoodIn wsX6_number (va_wsS RX6 56 yX6_in wsX6_in) := goodIn_app (goodIn_of _ (by decide +kernel)) ggX6_number_X6_in
set_option maxRecDepth 20000 in
theorem ggX6_readsItem_X6_number : GoodIn wsX6_readsItem wsX6_number := goodIn_c [6, 11, 16, 19] [7, 8, 9, 10, 5, 12, 13, 14, 15, 17, 18, 32, 33, 34, 35, 36, 37, 38, 39, 40, 41, 42, 43, 44, 45] rfl (by decide +kernel) (by decide +kernel)
set_option maxRecDepth 20000 in
theorem gX6_readsItem_X6_number : GoodIn wsX6_readsItem (wsV RX6 74 RX6 yX6_number wsX6_number) := goodIn_app (goodIn_of _ (by decide +kernel)) ggX6_readsItem_X6_number
set_option maxRecDepth 20000 in
theorem ggX6_readsItem_X6_personOf : GoodIn wsX6_readsItem wsX6_personOf := goodIn_c [23] [1, 32, 33, 34, 35, 36, 37, 38, 39, 40, 41, 42, 43, 44, 45] rfl (by decide +kernel) (by decide +kernel)
set_option maxRecDepth 20000 in
theorem gX6_readsItem_X6_personOf : GoodIn wsX6_readsItem (wsV RX6 41 RX6 yX6_personOf wsX6_personOf) := goodIn_app (goodIn_of _ (by decide +kernel)) ggX6_readsItem_X6_personOf
set_option maxRecDepth 20000 in
theorem ggX6_readsItem_X6_thingOf : GoodIn wsX6_readsItem wsX6_thingOf := goodIn_c [27] [1, 32, 33, 34, 35, 36, 37, 38, 39, 40, 41, 42, 43, 44, 45] rfl (by decide +kernel) (by decide +kernel)
set_option maxRecDepth 20000 in
theorem gX6_readsItem_X6_thingOf : GoodIn wsX6_readsItem (wsV RX6 45 RX6 yX6_thingOf wsX6_thingOf) := goodIn_app (goodIn_of _ (by decide +kernel)) ggX6_readsItem_X6_thingOf
set_option maxRecDepth 20000 in
theorem ggX6_readsItem_X6_pauseOf : GoodIn wsX6_readsItem wsX6_pauseOf := goodIn_c [31] [1, 32, 33, 34, 35, 36, 37, 38, 39, 40, 41, 42, 43, 44, 45] rfl (by decide +kernel) (by decide +kernel)
set_option maxRecDepth 20000 in
theorem gX6_readsItem_X6_pauseOf : GoodIn wsX6_readsItem (wsV RX6 49 RX6 yX6_pauseOf wsX6_pauseOf) := goodIn_app (goodIn_of _ (by decide +kernel)) ggX6_readsItem_X6_pauseOf
set_option maxRecDepth 20000 in
theorem ggX6_readsAll_X6_begins : GoodIn wsX6_readsAll wsX6_begins := goodIn_c [8] [9, 40, 41, 42, 43, 44, 45, 46, 47, 48, 49, 50, 51, 52, 53] rfl (by decide +kernel) (by decide +kernel)
set_option maxRecDepth 20000 in
theorem gX6_readsAll_X6_begins : GoodIn wsX6_readsAll (wsV RX6 38 RX6 yX6_begins wsX6_begins) := goodIn_app (goodIn_of _ (by decide +kernel)) ggX6_readsAll_X6_begins
set_option maxRecDepth 20000 in
theorem ggX6_readsAll_X6_readsItem : GoodIn wsX6_readsAll wsX6_readsItem := goodIn_c [13, 17, 21, 24, 27, 31, 35, 39] [9, 14, 15, 16, 7, 1, 18, 19, 20, 2, 3, 22, 23, 25, 26, 28, 29, 30, 32, 33, 34, 36, 37, 38, 40, 41, 42, 43, 44, 45, 46, 47, 48, 49, 50, 51, 52, 53] rfl (by decide +kernel) (by decide +kernel)
set_option maxRecDepth 20000 in
theorem gX6_readsAll_X6_readsItem : GoodIn wsX6_readsAll (wsV RX6 78 RX6 yX6_readsItem wsX6_readsItem) := goodIn_app (goodIn_of _ (by decide +kernel)) ggX6_readsAll_X6_readsItem
set_option maxRecDepth 20000 in
theorem ggX6_fault_X6_readsAll : GoodIn wsX6_fault wsX6_readsAll := goodIn_c [5, 12, 17, 21, 25, 28, 31, 35, 39, 43] [6, 7, 8, 9, 10, 11, 4, 13, 14, 15, 16, 18, 19, 20, 22, 23, 24, 26, 27, 29, 30, 32, 33, 34, 36, 37, 38, 40, 41, 42, 44, 45, 46, 47, 48, 49, 50, 51, 52, 53, 54, 55, 56, 57] rfl (by decide +kernel) (by decide +kernel)
set_option maxRecDepth 20000 in
theorem gX6_fault_X6_readsAll : GoodIn wsX6_fault (wsV RX6 81 RX6 yX6_readsAll wsX6_readsAll) := goodIn_app (goodIn_of _ (by decide +kernel)) ggX6_fault_X6_readsAll
set_option maxRecDepth 20000 in
theorem ggX6_lays_X6_starts : GoodIn wsX6_lays wsX6_starts := goodIn_c [10] [11, 1, 12, 13, 14, 15, 16, 17, 18, 19, 20, 21, 22, 23, 24, 25] rfl (by decide +kernel) (by decide +kernel)
set_option maxRecDepth 20000 in
theorem gX6_lays_X6_starts : GoodIn wsX6_lays (wsV RX6 85 RX6 yX6_starts wsX6_starts) := goodIn_app (goodIn_of _ (by decide +kernel)) ggX6_lays_X6_starts
set_option maxRecDepth 20000 in
theorem ggX6_lay_X6_readsAll : GoodIn wsX6_lay wsX6_readsAll := goodIn_c [7, 14, 18, 22, 26, 29, 32, 36, 40, 44] [8, 9, 10, 11, 12, 13, 6, 1, 15, 16, 17, 19, 20, 21, 23, 24, 25, 27, 28, 30, 31, 33, 34, 35, 37, 38, 39, 41, 42, 43, 57, 58, 59, 60, 61, 62, 63, 64, 65, 66, 67, 68, 69, 70] rfl (by decide +kernel) (by decide +kernel)
set_option maxRecDepth 20000 in
theorem gX6_lay_X6_readsAll : GoodIn wsX6_lay (wsV RX6 81 RX6 yX6_readsAll wsX6_readsAll) := goodIn_app (goodIn_of _ (by decide +kernel)) ggX6_lay_X6_readsAll
set_option maxRecDepth 20000 in
theorem ggX6_lay_X6_lays : GoodIn wsX6_lay wsX6_lays := goodIn_c [48, 55] [2, 1, 49, 50, 51, 52, 53, 54, 6, 56, 57, 58, 59, 60, 61, 62, 63, 64, 65, 66, 67, 68, 69, 70] rfl (by decide +kernel) (by decide +kernel)
set_option maxRecDepth 20000 in
theorem gX6_lay_X6_lays : GoodIn wsX6_lay (wsV RX6 53 RX6 yX6_lays wsX6_lays) := goodIn_app (goodIn_of _ (by decide +kernel)) ggX6_lay_X6_lays
set_option maxRecDepth 20000 in
theorem ggX6_pauseNow_X6_better : GoodIn wsX6_pauseNow wsX6_better := goodIn_c [7] [] rfl (by decide +kernel) (by decide +kernel)
set_option maxRecDepth 20000 in
theorem gX6_pauseNow_X6_better : GoodIn wsX6_pauseNow (va_wsS RX6 97 yX6_better wsX6_better) := goodIn_app (goodIn_of _ (by decide +kernel)) ggX6_pauseNow_X6_better
set_option maxRecDepth 20000 in
theorem ggX6_countedNow_X6_pauseNow : GoodIn wsX6_countedNow wsX6_pauseNow := goodIn_c [6, 11] [7, 1, 8, 9, 10, 5, 16, 17, 18, 19, 20, 21, 22, 23, 24, 25, 26, 27, 28, 29] rfl (by decide +kernel) (by decide +kernel)
set_option maxRecDepth 20000 in
theorem gX6_countedNow_X6_pauseNow : GoodIn wsX6_countedNow (wsV RX6 101 RX6 yX6_pauseNow wsX6_pauseNow) := goodIn_app (goodIn_of _ (by decide +kernel)) ggX6_countedNow_X6_pauseNow
set_option maxRecDepth 20000 in
theorem ggX6_countedNow_X6_countedOf : GoodIn wsX6_countedNow wsX6_countedOf := goodIn_c [15] [] rfl (by decide +kernel) (by decide +kernel)
set_option maxRecDepth 20000 in
theorem gX6_countedNow_X6_countedOf : GoodIn wsX6_countedNow (wsV RX6 104 RX6 yX6_countedOf wsX6_countedOf) := goodIn_app (goodIn_of _ (by decide +kernel)) ggX6_countedNow_X6_countedOf
set_option maxRecDepth 20000 in
theorem ggX6_isNearly_X6_countedNow : GoodIn wsX6_isNearly wsX6_countedNow := goodIn_c [5, 10, 15, 19] [6, 7, 8, 9, 4, 11, 12, 13, 14, 16, 17, 18, 20, 21, 22, 23, 24, 25, 26, 27, 28, 29, 30, 31, 32, 33] rfl (by decide +kernel) (by decide +kernel)
set_option maxRecDepth 20000 in
theorem gX6_isNearly_X6_countedNow : GoodIn wsX6_isNearly (wsV RX6 107 RX6 yX6_countedNow wsX6_countedNow) := goodIn_app (goodIn_of _ (by decide +kernel)) ggX6_isNearly_X6_countedNow
set_option maxRecDepth 20000 in
theorem ggX6_priceOf_X6_pauseNow : GoodIn wsX6_priceOf wsX6_pauseNow := goodIn_c [6, 11] [7, 1, 8, 9, 10, 5, 16, 17, 18, 19, 20, 21, 22, 23, 24, 25, 26, 27, 28, 29] rfl (by decide +kernel) (by decide +kernel)
set_option maxRecDepth 20000 in
theorem gX6_priceOf_X6_pauseNow : GoodIn wsX6_priceOf (wsV RX6 101 RX6 yX6_pauseNow wsX6_pauseNow) := goodIn_app (goodIn_of _ (by decide +kernel)) ggX6_priceOf_X6_pauseNow
set_option maxRecDepth 20000 in
theorem ggX6_priceOf_X6_costs : GoodIn wsX6_priceOf wsX6_costs := goodIn_c [15] [1, 16, 17, 18, 19, 20, 21, 22, 23, 24, 25, 26, 27, 28, 29] rfl (by decide +kernel) (by decide +kernel)
set_option maxRecDepth 20000 in
theorem gX6_priceOf_X6_costs : GoodIn wsX6_priceOf (wsV RX6 110 RX6 yX6_costs wsX6_costs) := goodIn_app (goodIn_of _ (by decide +kernel)) ggX6_priceOf_X6_costs
set_option maxRecDepth 20000 in
theorem ggX6_claim_X6_countedNow : GoodIn wsX6_claim wsX6_countedNow := goodIn_c [6, 10, 15, 19] [1, 7, 8, 9, 5, 11, 12, 13, 14, 16, 17, 18, 20, 21, 22, 23, 24, 25, 26, 27, 28, 29, 30, 31, 32, 33] rfl (by decide +kernel) (by decide +kernel)
set_option maxRecDepth 20000 in
theorem gX6_claim_X6_countedNow : GoodIn wsX6_claim (wsV RX6 107 RX6 yX6_countedNow wsX6_countedNow) := goodIn_app (goodIn_of _ (by decide +kernel)) ggX6_claim_X6_countedNow
set_option maxRecDepth 20000 in
theorem ggX6_person_X6_isPerson : GoodIn wsX6_person wsX6_isPerson := goodIn_c [7, 10] [2, 8, 9, 6, 19, 20, 21, 22, 23, 24, 25, 26, 27, 28, 29, 30, 31, 32] rfl (by decide +kernel) (by decide +kernel)
set_option maxRecDepth 20000 in
theorem gX6_person_X6_isPerson : GoodIn wsX6_person (wsV RX6 113 RX6 yX6_isPerson wsX6_isPerson) := goodIn_app (goodIn_of _ (by decide +kernel)) ggX6_person_X6_isPerson
set_option maxRecDepth 20000 in
theorem ggX6_person_X6_costs : GoodIn wsX6_person wsX6_costs := goodIn_c [14] [2, 19, 20, 21, 22, 23, 24, 25, 26, 27, 28, 29, 30, 31, 32] rfl (by decide +kernel) (by decide +kernel)
set_option maxRecDepth 20000 in
theorem gX6_person_X6_costs : GoodIn wsX6_person (wsV RX6 110 RX6 yX6_costs wsX6_costs) := goodIn_app (goodIn_of _ (by decide +kernel)) ggX6_person_X6_costs
set_option maxRecDepth 20000 in
theorem ggX6_person_X6_thingsOf : GoodIn wsX6_person wsX6_thingsOf := goodIn_c [18] [2, 1, 19, 20, 21, 22, 23, 24, 25, 26, 27, 28, 29, 30, 31, 32] rfl (by decide +kernel) (by decide +kernel)
set_option maxRecDepth 20000 in
theorem gX6_person_X6_thingsOf : GoodIn wsX6_person (wsV RX6 116 RX6 yX6_thingsOf wsX6_thingsOf) := goodIn_app (goodIn_of _ (by decide +kernel)) ggX6_person_X6_thingsOf
set_option maxRecDepth 20000 in
theorem ggX6_thing_X6_isThing : GoodIn wsX6_thing wsX6_isThing := goodIn_c [6, 10] [7, 8, 9, 5, 35, 36, 37, 38, 39, 40, 41, 42, 43, 44, 45, 46, 47, 48] rfl (by decide +kernel) (by decide +kernel)
set_option maxRecDepth 20000 in
theorem gX6_thing_X6_isThing : GoodIn wsX6_thing (wsV RX6 119 RX6 yX6_isThing wsX6_isThing) := goodIn_app (goodIn_of _ (by decide +kernel)) ggX6_thing_X6_isThing
set_option maxRecDepth 20000 in
theorem ggX6_thing_X6_costs : GoodIn wsX6_thing wsX6_costs := goodIn_c [14] [7, 35, 36, 37, 38, 39, 40, 41, 42, 43, 44, 45, 46, 47, 48] rfl (by decide +kernel) (by decide +kernel)
set_option maxRecDepth 20000 in
theorem gX6_thing_X6_costs : GoodIn wsX6_thing (wsV RX6 110 RX6 yX6_costs wsX6_costs) := goodIn_app (goodIn_of _ (by decide +kernel)) ggX6_thing_X6_costs
set_option maxRecDepth 20000 in
theorem ggX6_thing_X6_claim : GoodIn wsX6_thing wsX6_claim := goodIn_c [18, 22, 26, 30, 34] [7, 19, 20, 21, 5, 23, 24, 25, 1, 27, 28, 29, 31, 32, 33, 35, 36, 37, 38, 39, 40, 41, 42, 43, 44, 45, 46, 47, 48] rfl (by decide +kernel) (by decide +kernel)
set_option maxRecDepth 20000 in
theorem gX6_thing_X6_claim : GoodIn wsX6_thing (wsV RX6 122 RX6 yX6_claim wsX6_claim) := goodIn_app (goodIn_of _ (by decide +kernel)) ggX6_thing_X6_claim
set_option maxRecDepth 20000 in
theorem ggX6_nearly_X6_isPerson : GoodIn wsX6_nearly wsX6_isPerson := goodIn_c [5, 9] [6, 7, 8, 4, 43, 44, 45, 46, 47, 48, 49, 50, 51, 52, 53, 54, 55, 56] rfl (by decide +kernel) (by decide +kernel)
set_option maxRecDepth 20000 in
theorem gX6_nearly_X6_isPerson : GoodIn wsX6_nearly (wsV RX6 113 RX6 yX6_isPerson wsX6_isPerson) := goodIn_app (goodIn_of _ (by decide +kernel)) ggX6_nearly_X6_isPerson
set_option maxRecDepth 20000 in
theorem ggX6_nearly_X6_isThing : GoodIn wsX6_nearly wsX6_isThing := goodIn_c [13, 9] [6, 7, 8, 4, 43, 44, 45, 46, 47, 48, 49, 50, 51, 52, 53, 54, 55, 56] rfl (by decide +kernel) (by decide +kernel)
set_option maxRecDepth 20000 in
theorem gX6_nearly_X6_isThing : GoodIn wsX6_nearly (wsV RX6 119 RX6 yX6_isThing wsX6_isThing) := goodIn_app (goodIn_of _ (by decide +kernel)) ggX6_nearly_X6_isThing
set_option maxRecDepth 20000 in
theorem ggX6_nearly_X6_pauseNow : GoodIn wsX6_nearly wsX6_pauseNow := goodIn_c [17, 22] [18, 6, 19, 20, 21, 4, 43, 44, 45, 46, 47, 48, 49, 50, 51, 52, 53, 54, 55, 56] rfl (by decide +kernel) (by decide +kernel)
set_option maxRecDepth 20000 in
theorem gX6_nearly_X6_pauseNow : GoodIn wsX6_nearly (wsV RX6 101 RX6 yX6_pauseNow wsX6_pauseNow) := goodIn_app (goodIn_of _ (by decide +kernel)) ggX6_nearly_X6_pauseNow
set_option maxRecDepth 20000 in
theorem ggX6_nearly_X6_countedNow : GoodIn wsX6_nearly wsX6_countedNow := goodIn_c [26, 17, 22, 30] [6, 14, 15, 16, 4, 18, 19, 20, 21, 27, 28, 29, 43, 44, 45, 46, 47, 48, 49, 50, 51, 52, 53, 54, 55, 56] rfl (by decide +kernel) (by decide +kernel)
set_option maxRecDepth 20000 in
theorem gX6_nearly_X6_countedNow : GoodIn wsX6_nearly (wsV RX6 107 RX6 yX6_countedNow wsX6_countedNow) := goodIn_app (goodIn_of _ (by decide +kernel)) ggX6_nearly_X6_countedNow
set_option maxRecDepth 20000 in
theorem ggX6_nearly_X6_isNearly : GoodIn wsX6_nearly wsX6_isNearly := goodIn_c [34, 26, 17, 22, 30] [23, 24, 25, 4, 6, 14, 15, 16, 18, 19, 20, 21, 27, 28, 29, 43, 44, 45, 46, 47, 48, 49, 50, 51, 52, 53, 54, 55, 56] rfl (by decide +kernel) (by decide +kernel)
set_option maxRecDepth 20000 in
theorem gX6_nearly_X6_isNearly : GoodIn wsX6_nearly (wsV RX6 125 RX6 yX6_isNearly wsX6_isNearly) := goodIn_app (goodIn_of _ (by decide +kernel)) ggX6_nearly_X6_isNearly
set_option maxRecDepth 20000 in
theorem ggX6_nearly_X6_priceOf : GoodIn wsX6_nearly wsX6_priceOf := goodIn_c [38, 17, 22, 42] [6, 14, 15, 16, 4, 18, 19, 20, 21, 39, 40, 41, 43, 44, 45, 46, 47, 48, 49, 50, 51, 52, 53, 54, 55, 56] rfl (by decide +kernel) (by decide +kernel)
set_option maxRecDepth 20000 in
theorem gX6_nearly_X6_priceOf : GoodIn wsX6_nearly (wsV RX6 129 RX6 yX6_priceOf wsX6_priceOf) := goodIn_app (goodIn_of _ (by decide +kernel)) ggX6_nearly_X6_priceOf
set_option maxRecDepth 20000 in
theorem ggX6_pauses_X6_better : GoodIn wsX6_pauses wsX6_better := goodIn_c [5] [] rfl (by decide +kernel) (by decide +kernel)
set_option maxRecDepth 20000 in
theorem gX6_pauses_X6_better : GoodIn wsX6_pauses (va_wsS RX6 97 yX6_better wsX6_better) := goodIn_app (goodIn_of _ (by decide +kernel)) ggX6_pauses_X6_better
set_option maxRecDepth 20000 in
theorem ggX6_pause_X6_isPerson : GoodIn wsX6_pause wsX6_isPerson := goodIn_c [5, 9] [6, 7, 8, 4, 41, 42, 43, 44, 45, 46, 47, 48, 49, 50, 51, 52, 53, 54] rfl (by decide +kernel) (by decide +kernel)
set_option maxRecDepth 20000 in
theorem gX6_pause_X6_isPerson : GoodIn wsX6_pause (wsV RX6 113 RX6 yX6_isPerson wsX6_isPerson) := goodIn_app (goodIn_of _ (by decide +kernel)) ggX6_pause_X6_isPerson
set_option maxRecDepth 20000 in
theorem ggX6_pause_X6_isThing : GoodIn wsX6_pause wsX6_isThing := goodIn_c [13, 9] [6, 7, 8, 4, 41, 42, 43, 44, 45, 46, 47, 48, 49, 50, 51, 52, 53, 54] rfl (by decide +kernel) (by decide +kernel)
set_option maxRecDepth 20000 in
theorem gX6_pause_X6_isThing : GoodIn wsX6_pause (wsV RX6 119 RX6 yX6_isThing wsX6_isThing) := goodIn_app (goodIn_of _ (by decide +kernel)) ggX6_pause_X6_isThing
set_option maxRecDepth 20000 in
theorem ggX6_pause_X6_in : GoodIn wsX6_pause wsX6_in := goodIn_c [9] [] rfl (by decide +kernel) (by decide +kernel)
set_option maxRecDepth 20000 in
theorem gX6_pause_X6_in : GoodIn wsX6_pause (va_wsS RX6 56 yX6_in wsX6_in) := goodIn_app (goodIn_of _ (by decide +kernel)) ggX6_pause_X6_in
set_option maxRecDepth 20000 in
theorem ggX6_pause_X6_keeps : GoodIn wsX6_pause wsX6_keeps := goodIn_c [17] [18, 19, 20, 41, 42, 43, 44, 45, 46, 47, 48, 49, 50, 51, 52, 53, 54] rfl (by decide +kernel) (by decide +kernel)
set_option maxRecDepth 20000 in
theorem gX6_pause_X6_keeps : GoodIn wsX6_pause (wsV RX6 132 RX6 yX6_keeps wsX6_keeps) := goodIn_app (goodIn_of _ (by decide +kernel)) ggX6_pause_X6_keeps
set_option maxRecDepth 20000 in
theorem ggX6_pause_X6_pauses : GoodIn wsX6_pause wsX6_pauses := goodIn_c [24, 27] [20, 25, 26, 4, 41, 42, 43, 44, 45, 46, 47, 48, 49, 50, 51, 52, 53, 54] rfl (by decide +kernel) (by decide +kernel)
set_option maxRecDepth 20000 in
theorem gX6_pause_X6_pauses : GoodIn wsX6_pause (wsV RX6 135 RX6 yX6_pauses wsX6_pauses) := goodIn_app (goodIn_of _ (by decide +kernel)) ggX6_pause_X6_pauses
set_option maxRecDepth 20000 in
theorem ggX6_pause_X6_countedNow : GoodIn wsX6_pause wsX6_countedNow := goodIn_c [31, 35, 27, 40] [6, 32, 33, 34, 4, 20, 36, 25, 26, 37, 38, 39, 41, 42, 43, 44, 45, 46, 47, 48, 49, 50, 51, 52, 53, 54] rfl (by decide +kernel) (by decide +kernel)
set_option maxRecDepth 20000 in
theorem gX6_pause_X6_countedNow : GoodIn wsX6_pause (wsV RX6 107 RX6 yX6_countedNow wsX6_countedNow) := goodIn_app (goodIn_of _ (by decide +kernel)) ggX6_pause_X6_countedNow
set_option maxRecDepth 20000 in
theorem ggX6_dearest_X6_isNearly : GoodIn wsX6_dearest wsX6_isNearly := goodIn_c [6, 10, 14, 19, 23] [7, 8, 9, 5, 1, 11, 12, 13, 15, 16, 17, 18, 20, 21, 22, 32, 33, 34, 35, 36, 37, 38, 39, 40, 41, 42, 43, 44, 45] rfl (by decide +kernel) (by decide +kernel)
set_option maxRecDepth 20000 in
theorem gX6_dearest_X6_isNearly : GoodIn wsX6_dearest (wsV RX6 125 RX6 yX6_isNearly wsX6_isNearly) := goodIn_app (goodIn_of _ (by decide +kernel)) ggX6_dearest_X6_isNearly
set_option maxRecDepth 20000 in
theorem ggX6_dearest_X6_priceOf : GoodIn wsX6_dearest wsX6_priceOf := goodIn_c [27, 14, 19, 31] [1, 11, 12, 13, 5, 15, 16, 17, 18, 28, 29, 30, 32, 33, 34, 35, 36, 37, 38, 39, 40, 41, 42, 43, 44, 45] rfl (by decide +kernel) (by decide +kernel)
set_option maxRecDepth 20000 in
theorem gX6_dearest_X6_priceOf : GoodIn wsX6_dearest (wsV RX6 129 RX6 yX6_priceOf wsX6_priceOf) := goodIn_app (goodIn_of _ (by decide +kernel)) ggX6_dearest_X6_priceOf
set_option maxRecDepth 20000 in
theorem ggX6_offers_X6_priceOf : GoodIn wsX6_offers wsX6_priceOf := goodIn_c [7, 11, 15, 19] [2, 8, 9, 10, 6, 1, 12, 13, 14, 16, 17, 18, 40, 41, 42, 43, 44, 45, 46, 47, 48, 49, 50, 51, 52, 53] rfl (by decide +kernel) (by decide +kernel)
set_option maxRecDepth 20000 in
theorem gX6_offers_X6_priceOf : GoodIn wsX6_offers (wsV RX6 129 RX6 yX6_priceOf wsX6_priceOf) := goodIn_app (goodIn_of _ (by decide +kernel)) ggX6_offers_X6_priceOf
set_option maxRecDepth 20000 in
theorem ggX6_offers_X6_sells : GoodIn wsX6_offers wsX6_sells := goodIn_c [23] [1, 40, 41, 42, 43, 44, 45, 46, 47, 48, 49, 50, 51, 52, 53] rfl (by decide +kernel) (by decide +kernel)
set_option maxRecDepth 20000 in
theorem gX6_offers_X6_sells : GoodIn wsX6_offers (wsV RX6 139 RX6 yX6_sells wsX6_sells) := goodIn_app (goodIn_of _ (by decide +kernel)) ggX6_offers_X6_sells
set_option maxRecDepth 20000 in
theorem ggX6_offers_X6_dearest : GoodIn wsX6_offers wsX6_dearest := goodIn_c [27, 31, 35, 11, 15, 39, 7, 19] [2, 28, 29, 30, 6, 32, 33, 34, 8, 9, 10, 1, 12, 13, 14, 36, 37, 38, 3, 4, 5, 16, 17, 18, 40, 41, 42, 43, 44, 45, 46, 47, 48, 49, 50, 51, 52, 53] rfl (by decide +kernel) (by decide +kernel)
set_option maxRecDepth 20000 in
theorem gX6_offers_X6_dearest : GoodIn wsX6_offers (wsV RX6 142 RX6 yX6_dearest wsX6_dearest) := goodIn_app (goodIn_of _ (by decide +kernel)) ggX6_offers_X6_dearest
set_option maxRecDepth 20000 in
theorem ggX6_holds_X6_claim : GoodIn wsX6_holds wsX6_claim := goodIn_c [7, 11, 15, 19, 23] [1, 8, 9, 10, 6, 12, 13, 14, 2, 16, 17, 18, 20, 21, 22, 48, 49, 50, 51, 52, 53, 54, 55, 56, 57, 58, 59, 60, 61] rfl (by decide +kernel) (by decide +kernel)
set_option maxRecDepth 20000 in
theorem gX6_holds_X6_claim : GoodIn wsX6_holds (wsV RX6 122 RX6 yX6_claim wsX6_claim) := goodIn_app (goodIn_of _ (by decide +kernel)) ggX6_holds_X6_claim
set_option maxRecDepth 20000 in
theorem ggX6_holds_X6_offers : GoodIn wsX6_holds wsX6_offers := goodIn_c [27, 31, 15, 19, 35, 39, 43, 47, 11, 23] [2, 1, 28, 29, 30, 6, 12, 13, 14, 16, 17, 18, 32, 33, 34, 36, 37, 38, 40, 41, 42, 44, 45, 46, 8, 9, 10, 20, 21, 22, 48, 49, 50, 51, 52, 53, 54, 55, 56, 57, 58, 59, 60, 61] rfl (by decide +kernel) (by decide +kernel)
set_option maxRecDepth 20000 in
theorem gX6_holds_X6_offers : GoodIn wsX6_holds (wsV RX6 145 RX6 yX6_offers wsX6_offers) := goodIn_app (goodIn_of _ (by decide +kernel)) ggX6_holds_X6_offers
set_option maxRecDepth 20000 in
theorem ggX6_fair_X6_keeps : GoodIn wsX6_fair wsX6_keeps := goodIn_c [6] [7, 8, 1, 58, 59, 60, 61, 62, 63, 64, 65, 66, 67, 68, 69, 70, 71] rfl (by decide +kernel) (by decide +kernel)
set_option maxRecDepth 20000 in
theorem gX6_fair_X6_keeps : GoodIn wsX6_fair (wsV RX6 132 RX6 yX6_keeps wsX6_keeps) := goodIn_app (goodIn_of _ (by decide +kernel)) ggX6_fair_X6_keeps
set_option maxRecDepth 20000 in
theorem ggX6_fair_X6_holds : GoodIn wsX6_fair wsX6_holds := goodIn_c [12, 17, 21, 25, 29, 33, 37, 41, 45, 49, 53, 57] [13, 1, 14, 15, 16, 5, 18, 19, 20, 22, 23, 24, 26, 27, 28, 30, 31, 32, 34, 35, 36, 38, 39, 40, 42, 43, 44, 46, 47, 48, 50, 51, 52, 54, 55, 56, 58, 59, 60, 61, 62, 63, 64, 65, 66, 67, 68, 69, 70, 71] rfl (by decide +kernel) (by decide +kernel)
set_option maxRecDepth 20000 in
theorem gX6_fair_X6_holds : GoodIn wsX6_fair (wsV RX6 148 RX6 yX6_holds wsX6_holds) := goodIn_app (goodIn_of _ (by decide +kernel)) ggX6_fair_X6_holds
set_option maxRecDepth 20000 in
theorem ggX6_give_X6_isPerson : GoodIn wsX6_give wsX6_isPerson := goodIn_c [6, 10] [7, 8, 9, 5, 17, 18, 19, 20, 21, 22, 23, 24, 25, 26, 27, 28, 29, 30] rfl (by decide +kernel) (by decide +kernel)
set_option maxRecDepth 20000 in
theorem gX6_give_X6_isPerson : GoodIn wsX6_give (wsV RX6 113 RX6 yX6_isPerson wsX6_isPerson) := goodIn_app (goodIn_of _ (by decide +kernel)) ggX6_give_X6_isPerson
set_option maxRecDepth 20000 in
theorem ggX6_give_X6_in : GoodIn wsX6_give wsX6_in := goodIn_c [10] [] rfl (by decide +kernel) (by decide +kernel)
set_option maxRecDepth 20000 in
theorem gX6_give_X6_in : GoodIn wsX6_give (va_wsS RX6 56 yX6_in wsX6_in) := goodIn_app (goodIn_of _ (by decide +kernel)) ggX6_give_X6_in
set_option maxRecDepth 20000 in
theorem ggX6_give_X6_keeps : GoodIn wsX6_give wsX6_keeps := goodIn_c [14] [15, 16, 1, 17, 18, 19, 20, 21, 22, 23, 24, 25, 26, 27, 28, 29, 30] rfl (by decide +kernel) (by decide +kernel)
set_option maxRecDepth 20000 in
theorem gX6_give_X6_keeps : GoodIn wsX6_give (wsV RX6 132 RX6 yX6_keeps wsX6_keeps) := goodIn_app (goodIn_of _ (by decide +kernel)) ggX6_give_X6_keeps
set_option maxRecDepth 20000 in
theorem ggX6_whoseBehind_X6_holds : GoodIn wsX6_whoseBehind wsX6_holds := goodIn_c [6, 11, 15, 19, 23, 27, 31, 35, 39, 43, 47, 51] [7, 1, 8, 9, 10, 5, 12, 13, 14, 16, 17, 18, 20, 21, 22, 24, 25, 26, 28, 29, 30, 32, 33, 34, 36, 37, 38, 40, 41, 42, 44, 45, 46, 48, 49, 50, 57, 58, 59, 60, 61, 62, 63, 64, 65, 66, 67, 68, 69, 70] rfl (by decide +kernel) (by decide +kernel)
set_option maxRecDepth 20000 in
theorem gX6_whoseBehind_X6_holds : GoodIn wsX6_whoseBehind (wsV RX6 148 RX6 yX6_holds wsX6_holds) := goodIn_app (goodIn_of _ (by decide +kernel)) ggX6_whoseBehind_X6_holds
set_option maxRecDepth 20000 in
theorem ggX6_whoseBehind_X6_lets : GoodIn wsX6_whoseBehind wsX6_lets := goodIn_c [55] [1, 56, 57, 58, 59, 60, 61, 62, 63, 64, 65, 66, 67, 68, 69, 70] rfl (by decide +kernel) (by decide +kernel)
set_option maxRecDepth 20000 in
theorem gX6_whoseBehind_X6_lets : GoodIn wsX6_whoseBehind (wsV RX6 151 RX6 yX6_lets wsX6_lets) := goodIn_app (goodIn_of _ (by decide +kernel)) ggX6_whoseBehind_X6_lets
set_option maxRecDepth 20000 in
theorem ggX6_goesBehind_X6_holds : GoodIn wsX6_goesBehind wsX6_holds := goodIn_c [6, 11, 15, 19, 23, 27, 31, 35, 39, 43, 47, 51] [7, 1, 8, 9, 10, 5, 12, 13, 14, 16, 17, 18, 20, 21, 22, 24, 25, 26, 28, 29, 30, 32, 33, 34, 36, 37, 38, 40, 41, 42, 44, 45, 46, 48, 49, 50, 57, 58, 59, 60, 61, 62, 63, 64, 65, 66, 67, 68, 69, 70] rfl (by decide +kernel) (by decide +kernel)
set_option maxRecDepth 20000 in
theorem gX6_goesBehind_X6_holds : GoodIn wsX6_goesBehind (wsV RX6 148 RX6 yX6_holds wsX6_holds) := goodIn_app (goodIn_of _ (by decide +kernel)) ggX6_goesBehind_X6_holds
set_option maxRecDepth 20000 in
theorem ggX6_goesBehind_X6_lets : GoodIn wsX6_goesBehind wsX6_lets := goodIn_c [55] [1, 56, 57, 58, 59, 60, 61, 62, 63, 64, 65, 66, 67, 68, 69, 70] rfl (by decide +kernel) (by decide +kernel)
set_option maxRecDepth 20000 in
theorem gX6_goesBehind_X6_lets : GoodIn wsX6_goesBehind (wsV RX6 151 RX6 yX6_lets wsX6_lets) := goodIn_app (goodIn_of _ (by decide +kernel)) ggX6_goesBehind_X6_lets
set_option maxRecDepth 20000 in
theorem ggX6_behind_X6_isThing : GoodIn wsX6_behind wsX6_isThing := goodIn_c [5, 9] [6, 7, 8, 4, 72, 73, 74, 75, 76, 77, 78, 79, 80, 81, 82, 83, 84, 85] rfl (by decide +kernel) (by decide +kernel)
set_option maxRecDepth 20000 in
theorem gX6_behind_X6_isThing : GoodIn wsX6_behind (wsV RX6 119 RX6 yX6_isThing wsX6_isThing) := goodIn_app (goodIn_of _ (by decide +kernel)) ggX6_behind_X6_isThing
set_option maxRecDepth 20000 in
theorem ggX6_behind_X6_in : GoodIn wsX6_behind wsX6_in := goodIn_c [9] [] rfl (by decide +kernel) (by decide +kernel)
set_option maxRecDepth 20000 in
theorem gX6_behind_X6_in : GoodIn wsX6_behind (va_wsS RX6 56 yX6_in wsX6_in) := goodIn_app (goodIn_of _ (by decide +kernel)) ggX6_behind_X6_in
set_option maxRecDepth 20000 in
theorem ggX6_behind_X6_remembers : GoodIn wsX6_behind wsX6_remembers := goodIn_c [13] [14, 15, 72, 73, 74, 75, 76, 77, 78, 79, 80, 81, 82, 83, 84, 85] rfl (by decide +kernel) (by decide +kernel)
set_option maxRecDepth 20000 in
theorem gX6_behind_X6_remembers : GoodIn wsX6_behind (wsV RX6 154 RX6 yX6_remembers wsX6_remembers) := goodIn_app (goodIn_of _ (by decide +kernel)) ggX6_behind_X6_remembers
set_option maxRecDepth 20000 in
theorem ggX6_behind_X6_whoseBehind : GoodIn wsX6_behind wsX6_whoseBehind := goodIn_c [19, 23, 27, 31, 35, 39, 43, 47, 51, 55, 59, 63, 67, 71] [15, 20, 21, 22, 4, 6, 24, 25, 26, 28, 29, 30, 32, 33, 34, 36, 37, 38, 40, 41, 42, 44, 45, 46, 48, 49, 50, 52, 53, 54, 56, 57, 58, 60, 61, 62, 64, 65, 66, 68, 69, 70, 14, 72, 73, 74, 75, 76, 77, 78, 79, 80, 81, 82, 83, 84, 85] rfl (by decide +kernel) (by decide +kernel)
set_option maxRecDepth 20000 in
theorem gX6_behind_X6_whoseBehind : GoodIn wsX6_behind (wsV RX6 157 RX6 yX6_whoseBehind wsX6_whoseBehind) := goodIn_app (goodIn_of _ (by decide +kernel)) ggX6_behind_X6_whoseBehind
set_option maxRecDepth 20000 in
theorem ggX6_goes_X6_isThing : GoodIn wsX6_goes wsX6_isThing := goodIn_c [5, 9] [6, 7, 8, 4, 72, 73, 74, 75, 76, 77, 78, 79, 80, 81, 82, 83, 84, 85] rfl (by decide +kernel) (by decide +kernel)
set_option maxRecDepth 20000 in
theorem gX6_goes_X6_isThing : GoodIn wsX6_goes (wsV RX6 119 RX6 yX6_isThing wsX6_isThing) := goodIn_app (goodIn_of _ (by decide +kernel)) ggX6_goes_X6_isThing
set_option maxRecDepth 20000 in
theorem ggX6_goes_X6_remembers : GoodIn wsX6_goes wsX6_remembers := goodIn_c [13] [14, 15, 72, 73, 74, 75, 76, 77, 78, 79, 80, 81, 82, 83, 84, 85] rfl (by decide +kernel) (by decide +kernel)
set_option maxRecDepth 20000 in
theorem gX6_goes_X6_remembers : GoodIn wsX6_goes (wsV RX6 154 RX6 yX6_remembers wsX6_remembers) := goodIn_app (goodIn_of _ (by decide +kernel)) ggX6_goes_X6_remembers
set_option maxRecDepth 20000 in
theorem ggX6_goes_X6_goesBehind : GoodIn wsX6_goes wsX6_goesBehind := goodIn_c [19, 23, 27, 31, 35, 39, 43, 47, 51, 55, 59, 63, 67, 71] [15, 20, 21, 22, 4, 6, 24, 25, 26, 28, 29, 30, 32, 33, 34, 36, 37, 38, 40, 41, 42, 44, 45, 46, 48, 49, 50, 52, 53, 54, 56, 57, 58, 60, 61, 62, 64, 65, 66, 68, 69, 70, 14, 72, 73, 74, 75, 76, 77, 78, 79, 80, 81, 82, 83, 84, 85] rfl (by decide +kernel) (by decide +kernel)
set_option maxRecDepth 20000 in
theorem gX6_goes_X6_goesBehind : GoodIn wsX6_goes (wsV RX6 160 RX6 yX6_goesBehind wsX6_goesBehind) := goodIn_app (goodIn_of _ (by decide +kernel)) ggX6_goes_X6_goesBehind
set_option maxRecDepth 20000 in
theorem ggX6_never_X6_behind : GoodIn wsX6_never wsX6_behind := goodIn_c [6, 10, 13, 17, 23, 27, 31, 35, 39, 43, 47, 51, 55, 59, 63, 67, 71, 75] [7, 8, 9, 5, 1, 11, 12, 14, 15, 16, 18, 19, 20, 21, 22, 24, 25, 26, 28, 29, 30, 32, 33, 34, 36, 37, 38, 40, 41, 42, 44, 45, 46, 48, 49, 50, 52, 53, 54, 56, 57, 58, 60, 61, 62, 64, 65, 66, 68, 69, 70, 72, 73, 74, 76, 77, 78, 79, 80, 81, 82, 83, 84, 85, 86, 87, 88, 89] rfl (by decide +kernel) (by decide +kernel)
set_option maxRecDepth 20000 in
theorem gX6_never_X6_behind : GoodIn wsX6_never (wsV RX6 163 RX6 yX6_behind wsX6_behind) := goodIn_app (goodIn_of _ (by decide +kernel)) ggX6_never_X6_behind
set_option maxRecDepth 20000 in
theorem ggX6_stop_X6_isPerson : GoodIn wsX6_stop wsX6_isPerson := goodIn_c [5, 9] [6, 7, 8, 4, 84, 85, 86, 87, 88, 89, 90, 91, 92, 93, 94, 95, 96, 97] rfl (by decide +kernel) (by decide +kernel)
set_option maxRecDepth 20000 in
theorem gX6_stop_X6_isPerson : GoodIn wsX6_stop (wsV RX6 113 RX6 yX6_isPerson wsX6_isPerson) := goodIn_app (goodIn_of _ (by decide +kernel)) ggX6_stop_X6_isPerson
set_option maxRecDepth 20000 in
theorem ggX6_stop_X6_isThing : GoodIn wsX6_stop wsX6_isThing := goodIn_c [13, 9] [6, 7, 8, 4, 84, 85, 86, 87, 88, 89, 90, 91, 92, 93, 94, 95, 96, 97] rfl (by decide +kernel) (by decide +kernel)
set_option maxRecDepth 20000 in
theorem gX6_stop_X6_isThing : GoodIn wsX6_stop (wsV RX6 119 RX6 yX6_isThing wsX6_isThing) := goodIn_app (goodIn_of _ (by decide +kernel)) ggX6_stop_X6_isThing
set_option maxRecDepth 20000 in
theorem ggX6_stop_X6_in : GoodIn wsX6_stop wsX6_in := goodIn_c [9] [] rfl (by decide +kernel) (by decide +kernel)
set_option maxRecDepth 20000 in
theorem gX6_stop_X6_in : GoodIn wsX6_stop (va_wsS RX6 56 yX6_in wsX6_in) := goodIn_app (goodIn_of _ (by decide +kernel)) ggX6_stop_X6_in
set_option maxRecDepth 20000 in
theorem ggX6_stop_X6_remembers : GoodIn wsX6_stop wsX6_remembers := goodIn_c [17] [18, 19, 84, 85, 86, 87, 88, 89, 90, 91, 92, 93, 94, 95, 96, 97] rfl (by decide +kernel) (by decide +kernel)
set_option maxRecDepth 20000 in
theorem gX6_stop_X6_remembers : GoodIn wsX6_stop (wsV RX6 154 RX6 yX6_remembers wsX6_remembers) := goodIn_app (goodIn_of _ (by decide +kernel)) ggX6_stop_X6_remembers
set_option maxRecDepth 20000 in
theorem ggX6_stop_X6_whoseBehind : GoodIn wsX6_stop wsX6_whoseBehind := goodIn_c [23, 27, 31, 35, 39, 43, 47, 51, 55, 59, 63, 67, 71, 75] [19, 24, 25, 26, 4, 6, 28, 29, 30, 32, 33, 34, 36, 37, 38, 40, 41, 42, 44, 45, 46, 48, 49, 50, 52, 53, 54, 56, 57, 58, 60, 61, 62, 64, 65, 66, 68, 69, 70, 72, 73, 74, 18, 84, 85, 86, 87, 88, 89, 90, 91, 92, 93, 94, 95, 96, 97] rfl (by decide +kernel) (by decide +kernel)
set_option maxRecDepth 20000 in
theorem gX6_stop_X6_whoseBehind : GoodIn wsX6_stop (wsV RX6 157 RX6 yX6_whoseBehind wsX6_whoseBehind) := goodIn_app (goodIn_of _ (by decide +kernel)) ggX6_stop_X6_whoseBehind
set_option maxRecDepth 20000 in
theorem ggX6_stop_X6_goesBehind : GoodIn wsX6_stop wsX6_goesBehind := goodIn_c [79, 27, 31, 35, 39, 43, 47, 51, 55, 59, 63, 67, 71, 75] [19, 24, 25, 26, 4, 6, 28, 29, 30, 32, 33, 34, 36, 37, 38, 40, 41, 42, 44, 45, 46, 48, 49, 50, 52, 53, 54, 56, 57, 58, 60, 61, 62, 64, 65, 66, 68, 69, 70, 72, 73, 74, 18, 84, 85, 86, 87, 88, 89, 90, 91, 92, 93, 94, 95, 96, 97] rfl (by decide +kernel) (by decide +kernel)
set_option maxRecDepth 20000 in
theorem gX6_stop_X6_goesBehind : GoodIn wsX6_stop (wsV RX6 160 RX6 yX6_goesBehind wsX6_goesBehind) := goodIn_app (goodIn_of _ (by decide +kernel)) ggX6_stop_X6_goesBehind
set_option maxRecDepth 20000 in
theorem ggX6_stop_X6_pauses : GoodIn wsX6_stop wsX6_pauses := goodIn_c [83, 43] [19, 41, 42, 4, 84, 85, 86, 87, 88, 89, 90, 91, 92, 93, 94, 95, 96, 97] rfl (by decide +kernel) (by decide +kernel)
set_option maxRecDepth 20000 in
theorem gX6_stop_X6_pauses : GoodIn wsX6_stop (wsV RX6 135 RX6 yX6_pauses wsX6_pauses) := goodIn_app (goodIn_of _ (by decide +kernel)) ggX6_stop_X6_pauses
set_option maxRecDepth 20000 in
theorem ggX6_rank_X6_isPerson : GoodIn wsX6_rank wsX6_isPerson := goodIn_c [6, 9] [1, 7, 8, 5, 39, 40, 41, 42, 43, 44, 45, 46, 47, 48, 49, 50, 51, 52] rfl (by decide +kernel) (by decide +kernel)
set_option maxRecDepth 20000 in
theorem gX6_rank_X6_isPerson : GoodIn wsX6_rank (wsV RX6 113 RX6 yX6_isPerson wsX6_isPerson) := goodIn_app (goodIn_of _ (by decide +kernel)) ggX6_rank_X6_isPerson
set_option maxRecDepth 20000 in
theorem ggX6_rank_X6_isNearly : GoodIn wsX6_rank wsX6_isNearly := goodIn_c [13, 17, 21, 26, 30] [14, 15, 16, 5, 1, 18, 19, 20, 22, 23, 24, 25, 27, 28, 29, 39, 40, 41, 42, 43, 44, 45, 46, 47, 48, 49, 50, 51, 52] rfl (by decide +kernel) (by decide +kernel)
set_option maxRecDepth 20000 in
theorem gX6_rank_X6_isNearly : GoodIn wsX6_rank (wsV RX6 125 RX6 yX6_isNearly wsX6_isNearly) := goodIn_app (goodIn_of _ (by decide +kernel)) ggX6_rank_X6_isNearly
set_option maxRecDepth 20000 in
theorem ggX6_rank_X6_priceOf : GoodIn wsX6_rank wsX6_priceOf := goodIn_c [34, 21, 26, 38] [1, 18, 19, 20, 5, 22, 23, 24, 25, 35, 36, 37, 39, 40, 41, 42, 43, 44, 45, 46, 47, 48, 49, 50, 51, 52] rfl (by decide +kernel) (by decide +kernel)
set_option maxRecDepth 20000 in
theorem gX6_rank_X6_priceOf : GoodIn wsX6_rank (wsV RX6 129 RX6 yX6_priceOf wsX6_priceOf) := goodIn_app (goodIn_of _ (by decide +kernel)) ggX6_rank_X6_priceOf
set_option maxRecDepth 20000 in
theorem ggX6_wants_X6_isNearly : GoodIn wsX6_wants wsX6_isNearly := goodIn_c [6, 10, 14, 19, 23] [7, 8, 9, 5, 1, 11, 12, 13, 15, 16, 17, 18, 20, 21, 22, 24, 25, 26, 27, 28, 29, 30, 31, 32, 33, 34, 35, 36, 37] rfl (by decide +kernel) (by decide +kernel)
set_option maxRecDepth 20000 in
theorem gX6_wants_X6_isNearly : GoodIn wsX6_wants (wsV RX6 125 RX6 yX6_isNearly wsX6_isNearly) := goodIn_app (goodIn_of _ (by decide +kernel)) ggX6_wants_X6_isNearly
set_option maxRecDepth 20000 in
theorem ggX6_wanted_X6_in : GoodIn wsX6_wanted wsX6_in := goodIn_c [5] [] rfl (by decide +kernel) (by decide +kernel)
set_option maxRecDepth 20000 in
theorem gX6_wanted_X6_in : GoodIn wsX6_wanted (va_wsS RX6 56 yX6_in wsX6_in) := goodIn_app (goodIn_of _ (by decide +kernel)) ggX6_wanted_X6_in
set_option maxRecDepth 20000 in
theorem ggX6_wanted_X6_wants : GoodIn wsX6_wanted wsX6_wants := goodIn_c [9, 13, 17, 21, 26, 30] [1, 10, 11, 12, 4, 14, 15, 16, 18, 19, 20, 22, 23, 24, 25, 27, 28, 29, 31, 32, 33, 34, 35, 36, 37, 38, 39, 40, 41, 42, 43, 44] rfl (by decide +kernel) (by decide +kernel)
set_option maxRecDepth 20000 in
theorem gX6_wanted_X6_wants : GoodIn wsX6_wanted (wsV RX6 166 RX6 yX6_wants wsX6_wants) := goodIn_app (goodIn_of _ (by decide +kernel)) ggX6_wanted_X6_wants
set_option maxRecDepth 20000 in
theorem ggX6_seen_X6_isThing : GoodIn wsX6_seen wsX6_isThing := goodIn_c [7, 11] [8, 9, 10, 6, 16, 17, 18, 19, 20, 21, 22, 23, 24, 25, 26, 27, 28, 29] rfl (by decide +kernel) (by decide +kernel)
set_option maxRecDepth 20000 in
theorem gX6_seen_X6_isThing : GoodIn wsX6_seen (wsV RX6 119 RX6 yX6_isThing wsX6_isThing) := goodIn_app (goodIn_of _ (by decide +kernel)) ggX6_seen_X6_isThing
set_option maxRecDepth 20000 in
theorem ggX6_seen_X6_isPerson : GoodIn wsX6_seen wsX6_isPerson := goodIn_c [15, 11] [8, 9, 10, 6, 16, 17, 18, 19, 20, 21, 22, 23, 24, 25, 26, 27, 28, 29] rfl (by decide +kernel) (by decide +kernel)
set_option maxRecDepth 20000 in
theorem gX6_seen_X6_isPerson : GoodIn wsX6_seen (wsV RX6 113 RX6 yX6_isPerson wsX6_isPerson) := goodIn_app (goodIn_of _ (by decide +kernel)) ggX6_seen_X6_isPerson
set_option maxRecDepth 20000 in
theorem ggX6_seen_X6_in : GoodIn wsX6_seen wsX6_in := goodIn_c [11] [] rfl (by decide +kernel) (by decide +kernel)
set_option maxRecDepth 20000 in
theorem gX6_seen_X6_in : GoodIn wsX6_seen (va_wsS RX6 56 yX6_in wsX6_in) := goodIn_app (goodIn_of _ (by decide +kernel)) ggX6_seen_X6_in
set_option maxRecDepth 20000 in
theorem ggX6_isSo_X6_remembers : GoodIn wsX6_isSo wsX6_remembers := goodIn_c [9] [10, 4, 67, 68, 69, 70, 71, 72, 73, 74, 75, 76, 77, 78, 79, 80] rfl (by decide +kernel) (by decide +kernel)
set_option maxRecDepth 20000 in
theorem gX6_isSo_X6_remembers : GoodIn wsX6_isSo (wsV RX6 154 RX6 yX6_remembers wsX6_remembers) := goodIn_app (goodIn_of _ (by decide +kernel)) ggX6_isSo_X6_remembers
set_option maxRecDepth 20000 in
theorem ggX6_isSo_X6_starts : GoodIn wsX6_isSo wsX6_starts := goodIn_c [14] [4, 15, 67, 68, 69, 70, 71, 72, 73, 74, 75, 76, 77, 78, 79, 80] rfl (by decide +kernel) (by decide +kernel)
set_option maxRecDepth 20000 in
theorem gX6_isSo_X6_starts : GoodIn wsX6_isSo (wsV RX6 85 RX6 yX6_starts wsX6_starts) := goodIn_app (goodIn_of _ (by decide +kernel)) ggX6_isSo_X6_starts
set_option maxRecDepth 20000 in
theorem ggX6_isSo_X6_holds : GoodIn wsX6_isSo wsX6_holds := goodIn_c [19, 23, 27, 31, 34, 38, 42, 46, 50, 54, 58, 62] [15, 4, 20, 21, 22, 8, 24, 25, 26, 28, 29, 30, 1, 32, 33, 35, 36, 37, 39, 40, 41, 43, 44, 45, 47, 48, 49, 51, 52, 53, 55, 56, 57, 59, 60, 61, 67, 68, 69, 70, 71, 72, 73, 74, 75, 76, 77, 78, 79, 80] rfl (by decide +kernel) (by decide +kernel)
set_option maxRecDepth 20000 in
theorem gX6_isSo_X6_holds : GoodIn wsX6_isSo (wsV RX6 148 RX6 yX6_holds wsX6_holds) := goodIn_app (goodIn_of _ (by decide +kernel)) ggX6_isSo_X6_holds
set_option maxRecDepth 20000 in
theorem ggX6_isSo_X6_lets : GoodIn wsX6_isSo wsX6_lets := goodIn_c [66] [4, 10, 67, 68, 69, 70, 71, 72, 73, 74, 75, 76, 77, 78, 79, 80] rfl (by decide +kernel) (by decide +kernel)
set_option maxRecDepth 20000 in
theorem gX6_isSo_X6_lets : GoodIn wsX6_isSo (wsV RX6 151 RX6 yX6_lets wsX6_lets) := goodIn_app (goodIn_of _ (by decide +kernel)) ggX6_isSo_X6_lets
set_option maxRecDepth 20000 in
theorem ggX6_feigned_X6_in : GoodIn wsX6_feigned wsX6_in := goodIn_c [5] [] rfl (by decide +kernel) (by decide +kernel)
set_option maxRecDepth 20000 in
theorem gX6_feigned_X6_in : GoodIn wsX6_feigned (va_wsS RX6 56 yX6_in wsX6_in) := goodIn_app (goodIn_of _ (by decide +kernel)) ggX6_feigned_X6_in
set_option maxRecDepth 20000 in
theorem ggX6_feigned_X6_isSo : GoodIn wsX6_feigned wsX6_isSo := goodIn_c [9, 17, 22, 26, 30, 34, 38, 41, 45, 49, 53, 57, 61, 65, 69, 73] [10, 11, 12, 13, 14, 15, 16, 4, 18, 19, 20, 21, 1, 23, 24, 25, 27, 28, 29, 31, 32, 33, 35, 36, 37, 39, 40, 42, 43, 44, 46, 47, 48, 50, 51, 52, 54, 55, 56, 58, 59, 60, 62, 63, 64, 66, 67, 68, 70, 71, 72, 74, 75, 76, 77, 78, 79, 80, 81, 82, 83, 84, 85, 86, 87] rfl (by decide +kernel) (by decide +kernel)
set_option maxRecDepth 20000 in
theorem gX6_feigned_X6_isSo : GoodIn wsX6_feigned (wsV RX6 169 RX6 yX6_isSo wsX6_isSo) := goodIn_app (goodIn_of _ (by decide +kernel)) ggX6_feigned_X6_isSo
set_option maxRecDepth 20000 in
theorem ggX6_counts_X6_isPerson : GoodIn wsX6_counts wsX6_isPerson := goodIn_c [6, 9] [1, 7, 8, 5, 14, 15, 16, 17, 18, 19, 20, 21, 22, 23, 24, 25, 26, 27] rfl (by decide +kernel) (by decide +kernel)
set_option maxRecDepth 20000 in
theorem gX6_counts_X6_isPerson : GoodIn wsX6_counts (wsV RX6 113 RX6 yX6_isPerson wsX6_isPerson) := goodIn_app (goodIn_of _ (by decide +kernel)) ggX6_counts_X6_isPerson
set_option maxRecDepth 20000 in
theorem ggX6_counts_X6_in : GoodIn wsX6_counts wsX6_in := goodIn_c [9] [] rfl (by decide +kernel) (by decide +kernel)
set_option maxRecDepth 20000 in
theorem gX6_counts_X6_in : GoodIn wsX6_counts (va_wsS RX6 56 yX6_in wsX6_in) := goodIn_app (goodIn_of _ (by decide +kernel)) ggX6_counts_X6_in
set_option maxRecDepth 20000 in
theorem ggX6_counts_X6_countedOf : GoodIn wsX6_counts wsX6_countedOf := goodIn_c [13] [] rfl (by decide +kernel) (by decide +kernel)
set_option maxRecDepth 20000 in
theorem gX6_counts_X6_countedOf : GoodIn wsX6_counts (wsV RX6 104 RX6 yX6_countedOf wsX6_countedOf) := goodIn_app (goodIn_of _ (by decide +kernel)) ggX6_counts_X6_countedOf
set_option maxRecDepth 20000 in
theorem ggX6_cheapest_X6_isThing : GoodIn wsX6_cheapest wsX6_isThing := goodIn_c [6, 9] [1, 7, 8, 5, 39, 40, 41, 42, 43, 44, 45, 46, 47, 48, 49, 50, 51, 52] rfl (by decide +kernel) (by decide +kernel)
set_option maxRecDepth 20000 in
theorem gX6_cheapest_X6_isThing : GoodIn wsX6_cheapest (wsV RX6 119 RX6 yX6_isThing wsX6_isThing) := goodIn_app (goodIn_of _ (by decide +kernel)) ggX6_cheapest_X6_isThing
set_option maxRecDepth 20000 in
theorem ggX6_cheapest_X6_in : GoodIn wsX6_cheapest wsX6_in := goodIn_c [9] [] rfl (by decide +kernel) (by decide +kernel)
set_option maxRecDepth 20000 in
theorem gX6_cheapest_X6_in : GoodIn wsX6_cheapest (va_wsS RX6 56 yX6_in wsX6_in) := goodIn_app (goodIn_of _ (by decide +kernel)) ggX6_cheapest_X6_in
set_option maxRecDepth 20000 in
theorem ggX6_cheapest_X6_isNearly : GoodIn wsX6_cheapest wsX6_isNearly := goodIn_c [13, 17, 21, 26, 30] [14, 15, 16, 5, 1, 18, 19, 20, 22, 23, 24, 25, 27, 28, 29, 39, 40, 41, 42, 43, 44, 45, 46, 47, 48, 49, 50, 51, 52] rfl (by decide +kernel) (by decide +kernel)
set_option maxRecDepth 20000 in
theorem gX6_cheapest_X6_isNearly : GoodIn wsX6_cheapest (wsV RX6 125 RX6 yX6_isNearly wsX6_isNearly) := goodIn_app (goodIn_of _ (by decide +kernel)) ggX6_cheapest_X6_isNearly
set_option maxRecDepth 20000 in
theorem ggX6_cheapest_X6_priceOf : GoodIn wsX6_cheapest wsX6_priceOf := goodIn_c [34, 21, 26, 38] [1, 18, 19, 20, 5, 22, 23, 24, 25, 35, 36, 37, 39, 40, 41, 42, 43, 44, 45, 46, 47, 48, 49, 50, 51, 52] rfl (by decide +kernel) (by decide +kernel)
set_option maxRecDepth 20000 in
theorem gX6_cheapest_X6_priceOf : GoodIn wsX6_cheapest (wsV RX6 129 RX6 yX6_priceOf wsX6_priceOf) := goodIn_app (goodIn_of _ (by decide +kernel)) ggX6_cheapest_X6_priceOf
set_option maxRecDepth 20000 in
theorem ggX6_greens_X6_in : GoodIn wsX6_greens wsX6_in := goodIn_c [8] [] rfl (by decide +kernel) (by decide +kernel)
set_option maxRecDepth 20000 in
theorem gX6_greens_X6_in : GoodIn wsX6_greens (va_wsS RX6 56 yX6_in wsX6_in) := goodIn_app (goodIn_of _ (by decide +kernel)) ggX6_greens_X6_in
set_option maxRecDepth 20000 in
theorem ggX6_greens_X6_remembers : GoodIn wsX6_greens wsX6_remembers := goodIn_c [12] [13, 14, 79, 80, 81, 82, 83, 84, 85, 86, 87, 88, 89, 90, 91, 92] rfl (by decide +kernel) (by decide +kernel)
set_option maxRecDepth 20000 in
theorem gX6_greens_X6_remembers : GoodIn wsX6_greens (wsV RX6 154 RX6 yX6_remembers wsX6_remembers) := goodIn_app (goodIn_of _ (by decide +kernel)) ggX6_greens_X6_remembers
set_option maxRecDepth 20000 in
theorem ggX6_greens_X6_pauses : GoodIn wsX6_greens wsX6_pauses := goodIn_c [18, 21] [14, 19, 20, 7, 79, 80, 81, 82, 83, 84, 85, 86, 87, 88, 89, 90, 91, 92] rfl (by decide +kernel) (by decide +kernel)
set_option maxRecDepth 20000 in
theorem gX6_greens_X6_pauses : GoodIn wsX6_greens (wsV RX6 135 RX6 yX6_pauses wsX6_pauses) := goodIn_app (goodIn_of _ (by decide +kernel)) ggX6_greens_X6_pauses
set_option maxRecDepth 20000 in
theorem ggX6_greens_X6_holds : GoodIn wsX6_greens wsX6_holds := goodIn_c [25, 29, 33, 37, 21, 42, 46, 50, 54, 58, 62, 66] [4, 14, 26, 27, 28, 7, 30, 31, 32, 34, 35, 36, 38, 19, 20, 39, 40, 41, 43, 44, 45, 47, 48, 49, 51, 52, 53, 55, 56, 57, 59, 60, 61, 63, 64, 65, 79, 80, 81, 82, 83, 84, 85, 86, 87, 88, 89, 90, 91, 92] rfl (by decide +kernel) (by decide +kernel)
set_option maxRecDepth 20000 in
theorem gX6_greens_X6_holds : GoodIn wsX6_greens (wsV RX6 148 RX6 yX6_holds wsX6_holds) := goodIn_app (goodIn_of _ (by decide +kernel)) ggX6_greens_X6_holds
set_option maxRecDepth 20000 in
theorem ggX6_greens_X6_taken : GoodIn wsX6_greens wsX6_taken := goodIn_c [70] [4, 14, 79, 80, 81, 82, 83, 84, 85, 86, 87, 88, 89, 90, 91, 92] rfl (by decide +kernel) (by decide +kernel)
set_option maxRecDepth 20000 in
theorem gX6_greens_X6_taken : GoodIn wsX6_greens (wsV RX6 178 RX6 yX6_taken wsX6_taken) := goodIn_app (goodIn_of _ (by decide +kernel)) ggX6_greens_X6_taken
set_option maxRecDepth 20000 in
theorem ggX6_greens_X6_allCoins : GoodIn wsX6_greens wsX6_allCoins := goodIn_c [74] [4, 14, 79, 80, 81, 82, 83, 84, 85, 86, 87, 88, 89, 90, 91, 92] rfl (by decide +kernel) (by decide +kernel)
set_option maxRecDepth 20000 in
theorem gX6_greens_X6_allCoins : GoodIn wsX6_greens (wsV RX6 181 RX6 yX6_allCoins wsX6_allCoins) := goodIn_app (goodIn_of _ (by decide +kernel)) ggX6_greens_X6_allCoins
set_option maxRecDepth 20000 in
theorem ggX6_greens_X6_lets : GoodIn wsX6_greens wsX6_lets := goodIn_c [78] [14, 13, 79, 80, 81, 82, 83, 84, 85, 86, 87, 88, 89, 90, 91, 92] rfl (by decide +kernel) (by decide +kernel)
set_option maxRecDepth 20000 in
theorem gX6_greens_X6_lets : GoodIn wsX6_greens (wsV RX6 151 RX6 yX6_lets wsX6_lets) := goodIn_app (goodIn_of _ (by decide +kernel)) ggX6_greens_X6_lets
set_option maxRecDepth 20000 in
theorem ggX6_count_X6_taken : GoodIn wsX6_count wsX6_taken := goodIn_c [11] [1, 2, 16, 17, 18, 19, 20, 21, 22, 23, 24, 25, 26, 27, 28, 29] rfl (by decide +kernel) (by decide +kernel)
set_option maxRecDepth 20000 in
theorem gX6_count_X6_taken : GoodIn wsX6_count (wsV RX6 178 RX6 yX6_taken wsX6_taken) := goodIn_app (goodIn_of _ (by decide +kernel)) ggX6_count_X6_taken
set_option maxRecDepth 20000 in
theorem ggX6_count_X6_allCoins : GoodIn wsX6_count wsX6_allCoins := goodIn_c [15] [1, 2, 16, 17, 18, 19, 20, 21, 22, 23, 24, 25, 26, 27, 28, 29] rfl (by decide +kernel) (by decide +kernel)
set_option maxRecDepth 20000 in
theorem gX6_count_X6_allCoins : GoodIn wsX6_count (wsV RX6 181 RX6 yX6_allCoins wsX6_allCoins) := goodIn_app (goodIn_of _ (by decide +kernel)) ggX6_count_X6_allCoins
set_option maxRecDepth 20000 in
theorem ggJ0_length_8abf5_J0_coder_7d493 : GoodIn wsJ0_length_8abf5 wsJ0_coder_7d493 := goodIn_c [6] [7, 8] rfl (by decide +kernel) (by decide +kernel)
set_option maxRecDepth 20000 in
theorem gJ0_length_8abf5_J0_coder_7d493 : GoodIn wsJ0_length_8abf5 (wsV RJ0 335 RJ0 yJ0_coder_7d493 wsJ0_coder_7d493) := goodIn_app (goodIn_of _ (by decide +kernel)) ggJ0_length_8abf5_J0_coder_7d493
set_option maxRecDepth 20000 in
theorem ggJ0_charAt_5068e_J0_isLatin1_aae02 : GoodIn wsJ0_charAt_5068e wsJ0_isLatin1_aae02 := goodIn_c [6] [7, 8] rfl (by decide +kernel) (by decide +kernel)
set_option maxRecDepth 20000 in
theorem gJ0_charAt_5068e_J0_isLatin1_aae02 : GoodIn wsJ0_charAt_5068e (wsV RJ0 492 RJ0 yJ0_isLatin1_aae02 wsJ0_isLatin1_aae02) := goodIn_app (goodIn_of _ (by decide +kernel)) ggJ0_charAt_5068e_J0_isLatin1_aae02
set_option maxRecDepth 20000 in
theorem ggJ0_charAt_5068e_J1_charAt_3b067 : GoodIn wsJ0_charAt_5068e wsJ1_charAt_3b067 := goodIn_c [12, 15, 20] [13, 14, 5, 16, 17, 18, 19] rfl (by decide +kernel) (by decide +kernel)
set_option maxRecDepth 20000 in
theorem gJ0_charAt_5068e_J1_charAt_3b067 : GoodIn wsJ0_charAt_5068e (va_wsS RJ0 495 yJ1_charAt_3b067 wsJ1_charAt_3b067) := goodIn_app (goodIn_of _ (by decide +kernel)) ggJ0_charAt_5068e_J1_charAt_3b067
set_option maxRecDepth 20000 in
theorem ggJ0_charAt_5068e_J2_charAt_3b067 : GoodIn wsJ0_charAt_5068e wsJ2_charAt_3b067 := goodIn_c [24, 27, 30, 15, 20, 34] [25, 26, 23, 28, 29, 31, 14, 5, 16, 17, 18, 19, 32, 33, 35, 36, 37] rfl (by decide +kernel) (by decide +kernel)
set_option maxRecDepth 20000 in
theorem gJ0_charAt_5068e_J2_charAt_3b067 : GoodIn wsJ0_charAt_5068e (va_wsS RJ0 498 yJ2_charAt_3b067 wsJ2_charAt_3b067) := goodIn_app (goodIn_of _ (by decide +kernel)) ggJ0_charAt_5068e_J2_charAt_3b067
set_option maxRecDepth 20000 in
theorem ggJ0_checkIndex_df160_J3_checkIndex_8e157 : GoodIn wsJ0_checkIndex_df160 wsJ3_checkIndex_8e157 := goodIn_c [5] [] rfl (by decide +kernel) (by decide +kernel)
set_option maxRecDepth 20000 in
theorem gJ0_checkIndex_df160_J3_checkIndex_8e157 : GoodIn wsJ0_checkIndex_df160 (va_wsS RJ0 1059 yJ3_checkIndex_8e157 wsJ3_checkIndex_8e157) := goodIn_app (goodIn_of _ (by decide +kernel)) ggJ0_checkIndex_df160_J3_checkIndex_8e157
set_option maxRecDepth 20000 in
theorem ggJ1_charAt_3b067_J0_checkIndex_df160 : GoodIn wsJ1_charAt_3b067 wsJ0_checkIndex_df160 := goodIn_c [4, 9] [5, 6, 7, 8] rfl (by decide +kernel) (by decide +kernel)
set_option maxRecDepth 20000 in
theorem gJ1_charAt_3b067_J0_checkIndex_df160 : GoodIn wsJ1_charAt_3b067 (va_wsS RJ1 9 yJ0_checkIndex_df160 wsJ0_checkIndex_df160) := goodIn_app (goodIn_of _ (by decide +kernel)) ggJ1_charAt_3b067_J0_checkIndex_df160
set_option maxRecDepth 20000 in
theorem ggJ2_getChar_3b067_J2_length_9d52b : GoodIn wsJ2_getChar_3b067 wsJ2_length_9d52b := goodIn_c [7] [] rfl (by decide +kernel) (by decide +kernel)
set_option maxRecDepth 20000 in
theorem gJ2_getChar_3b067_J2_length_9d52b : GoodIn wsJ2_getChar_3b067 (va_wsS RJ2 48 yJ2_length_9d52b wsJ2_length_9d52b) := goodIn_app (goodIn_of _ (by decide +kernel)) ggJ2_getChar_3b067_J2_length_9d52b
set_option maxRecDepth 20000 in
theorem ggJ2_charAt_3b067_J2_checkIndex_2214a : GoodIn wsJ2_charAt_3b067 wsJ2_checkIndex_2214a := goodIn_c [4, 7, 11, 16] [5, 6, 3, 8, 9, 10, 12, 13, 14, 15] rfl (by decide +kernel) (by decide +kernel)
set_option maxRecDepth 20000 in
theorem gJ2_charAt_3b067_J2_checkIndex_2214a : GoodIn wsJ2_charAt_3b067 (va_wsS RJ2 67 yJ2_checkIndex_2214a wsJ2_checkIndex_2214a) := goodIn_app (goodIn_of _ (by decide +kernel)) ggJ2_charAt_3b067_J2_checkIndex_2214a
set_option maxRecDepth 20000 in
theorem ggJ2_charAt_3b067_J2_getChar_3b067 : GoodIn wsJ2_charAt_3b067 wsJ2_getChar_3b067 := goodIn_c [19, 7] [20, 21, 22, 5, 6, 3] rfl (by decide +kernel) (by decide +kernel)
set_option maxRecDepth 20000 in
theorem gJ2_charAt_3b067_J2_getChar_3b067 : GoodIn wsJ2_charAt_3b067 (va_wsS RJ2 71 yJ2_getChar_3b067 wsJ2_getChar_3b067) := goodIn_app (goodIn_of _ (by decide +kernel)) ggJ2_charAt_3b067_J2_getChar_3b067
set_option maxRecDepth 20000 in
theorem ggJ2_checkIndex_2214a_J2_length_9d52b : GoodIn wsJ2_checkIndex_2214a wsJ2_length_9d52b := goodIn_c [4] [] rfl (by decide +kernel) (by decide +kernel)
set_option maxRecDepth 20000 in
theorem gJ2_checkIndex_2214a_J2_length_9d52b : GoodIn wsJ2_checkIndex_2214a (va_wsS RJ2 48 yJ2_length_9d52b wsJ2_length_9d52b) := goodIn_app (goodIn_of _ (by decide +kernel)) ggJ2_checkIndex_2214a_J2_length_9d52b
set_option maxRecDepth 20000 in
theorem ggJ2_checkIndex_2214a_J0_checkIndex_df160 : GoodIn wsJ2_checkIndex_2214a wsJ0_checkIndex_df160 := goodIn_c [8, 13] [9, 10, 11, 12] rfl (by decide +kernel) (by decide +kernel)
set_option maxRecDepth 20000 in
theorem gJ2_checkIndex_2214a_J0_checkIndex_df160 : GoodIn wsJ2_checkIndex_2214a (va_wsS RJ2 414 yJ0_checkIndex_df160 wsJ0_checkIndex_df160) := goodIn_app (goodIn_of _ (by decide +kernel)) ggJ2_checkIndex_2214a_J0_checkIndex_df160
set_option maxRecDepth 20000 in
theorem ggL_law_X5_init : GoodIn wsL_law wsX5_init := goodIn_c [8, 11, 39, 43, 54, 68, 74, 82, 86, 91, 96, 102, 106, 110, 113, 118, 122, 125, 128, 132, 139, 146, 151, 160, 164, 167, 171, 174, 178, 182, 186, 190, 194, 198, 202, 206, 210, 220, 224, 233, 237, 241, 245] [9, 10, 12, 13, 14, 15, 16, 17, 18, 19, 20, 21, 22, 23, 24, 25, 26, 27, 28, 29, 30, 31, 32, 33, 34, 35, 36, 37, 38, 40, 41, 42, 44, 45, 46, 47, 48, 49, 50, 51, 52, 53, 55, 56, 57, 58, 59, 60, 61, 62, 63, 64, 65, 66, 67, 69, 70, 71, 72, 73, 75, 76, 77, 78, 79, 80, 81, 2, 83, 84, 85, 87, 88, 89, 90, 92, 93, 94, 95, 97, 98, 99, 100, 101, 103, 104, 105, 107, 108, 109, 111, 112, 114, 115, 116, 117, 119, 120, 121, 123, 124, 126, 127, 129, 130, 131, 133, 134, 135, 136, 137, 138, 140, 141, 142, 143, 144, 145, 147, 148, 149, 150, 152, 153, 154, 155, 156, 157, 158, 159, 161, 162, 163, 165, 166, 168, 169, 170, 172, 173, 175, 176, 177, 179, 180, 181, 183, 184, 185, 187, 188, 189, 191, 192, 193, 195, 196, 197, 199, 200, 201, 203, 204, 205, 207, 208, 209, 211, 212, 213, 214, 215, 216, 217, 218, 219, 221, 222, 223, 225, 226, 227, 228, 229, 230, 231, 232, 234, 235, 236, 238, 239, 240, 242, 243, 244, 753, 754, 755, 756, 757, 758, 759, 760, 761, 762, 763, 778, 779, 780, 781, 782, 783, 784, 785, 786, 787, 788, 789, 790, 791, 792, 793, 794, 795, 796, 797, 798, 799, 800, 801, 802, 803, 804, 805, 806, 807, 808] rfl (by decide +kernel) (by decide +kernel)
set_option maxRecDepth 20000 in
theorem gL_law_X5_init : GoodIn wsL_law (wsX5_init) := ggL_law_X5_init
set_option maxRecDepth 20000 in
theorem ggL_law_X6_init : GoodIn wsL_law wsX6_init := goodIn_c [248, 11, 262, 266, 270, 274, 278, 285] [249, 10, 12, 250, 251, 252, 253, 254, 255, 256, 257, 258, 259, 260, 261, 5, 263, 264, 265, 267, 268, 269, 271, 272, 273, 275, 276, 277, 279, 280, 281, 282, 283, 284, 764, 765, 766, 767, 768, 769, 770, 771, 772, 773, 774, 775, 776, 777] rfl (by decide +kernel) (by decide +kernel)
set_option maxRecDepth 20000 in
theorem gL_law_X6_init : GoodIn wsL_law (wsX6_init) := ggL_law_X6_init
set_option maxRecDepth 20000 in
theorem ggL_law_X5_write : GoodIn wsL_law wsX5_write := goodIn_c [289] [37, 13, 753, 754, 755, 756, 757, 758, 759, 760, 761, 762, 763] rfl (by decide +kernel) (by decide +kernel)
set_option maxRecDepth 20000 in
theorem gL_law_X5_write : GoodIn wsL_law (wsV RL 13 RX5 yX5_write wsX5_write) := goodIn_app (goodIn_of _ (by decide +kernel)) ggL_law_X5_write
set_option maxRecDepth 20000 in
theorem ggL_law_X6_write : GoodIn wsL_law wsX6_write := goodIn_c [293, 297] [294, 250, 295, 296, 5, 764, 765, 766, 767, 768, 769, 770, 771, 772, 773, 774, 775, 776, 777] rfl (by decide +kernel) (by decide +kernel)
set_option maxRecDepth 20000 in
theorem gL_law_X6_write : GoodIn wsL_law (wsV RL 17 RX6 yX6_write wsX6_write) := goodIn_app (goodIn_of _ (by decide +kernel)) ggL_law_X6_write
set_option maxRecDepth 20000 in
theorem ggL_law_X5_wipe : GoodIn wsL_law wsX5_wipe := goodIn_c [301] [37, 753, 754, 755, 756, 757, 758, 759, 760, 761, 762, 763] rfl (by decide +kernel) (by decide +kernel)
set_option maxRecDepth 20000 in
theorem gL_law_X5_wipe : GoodIn wsL_law (wsV RL 18 RX5 yX5_wipe wsX5_wipe) := goodIn_app (goodIn_of _ (by decide +kernel)) ggL_law_X5_wipe
set_option maxRecDepth 20000 in
theorem ggL_law_X6_wipe : GoodIn wsL_law wsX6_wipe := goodIn_c [305] [294, 764, 765, 766, 767, 768, 769, 770, 771, 772, 773, 774, 775, 776, 777] rfl (by decide +kernel) (by decide +kernel)
set_option maxRecDepth 20000 in
theorem gL_law_X6_wipe : GoodIn wsL_law (wsV RL 22 RX6 yX6_wipe wsX6_wipe) := goodIn_app (goodIn_of _ (by decide +kernel)) ggL_law_X6_wipe
set_option maxRecDepth 20000 in
theorem ggL_law_X5_fault : GoodIn wsL_law wsX5_fault := goodIn_c [309, 146, 151, 160, 164, 167, 171, 174, 178, 182, 186, 190, 194, 198, 202, 206] [17, 13, 37, 21, 143, 144, 145, 16, 147, 41, 148, 149, 150, 20, 152, 153, 154, 155, 156, 157, 158, 159, 161, 162, 163, 165, 166, 168, 169, 170, 172, 173, 85, 175, 176, 177, 179, 180, 181, 45, 46, 183, 184, 185, 47, 187, 188, 189, 48, 49, 50, 51, 191, 192, 193, 195, 196, 197, 199, 200, 201, 203, 204, 205, 753, 754, 755, 756, 757, 758, 759, 760, 761, 762, 763, 778, 779, 780, 781, 782, 783, 784, 785, 786, 787, 788, 789, 790, 791] rfl (by decide +kernel) (by decide +kernel)
set_option maxRecDepth 20000 in
theorem gL_law_X5_fault : GoodIn wsL_law (wsV RL 23 RX5 yX5_fault wsX5_fault) := goodIn_app (goodIn_of _ (by decide +kernel)) ggL_law_X5_fault
set_option maxRecDepth 20000 in
theorem ggL_law_X6_fault : GoodIn wsL_law wsX6_fault := goodIn_c [313, 317, 262, 322, 326, 330, 333, 297, 266, 270, 274] [314, 315, 316, 5, 318, 294, 250, 259, 260, 261, 252, 319, 320, 321, 323, 324, 325, 327, 328, 329, 331, 332, 295, 296, 263, 264, 265, 267, 268, 269, 271, 272, 273, 764, 765, 766, 767, 768, 769, 770, 771, 772, 773, 774, 775, 776, 777] rfl (by decide +kernel) (by decide +kernel)
set_option maxRecDepth 20000 in
theorem gL_law_X6_fault : GoodIn wsL_law (wsV RL 26 RX6 yX6_fault wsX6_fault) := goodIn_app (goodIn_of _ (by decide +kernel)) ggL_law_X6_fault
set_option maxRecDepth 20000 in
theorem ggL_law_X5_lay : GoodIn wsL_law wsX5_lay := goodIn_c [337, 146, 151, 160, 164, 167, 171, 174, 178, 182, 186, 190, 194, 198, 202, 206, 342, 139, 210, 220, 224, 233, 237, 241, 245] [17, 13, 37, 21, 22, 338, 143, 144, 145, 16, 147, 41, 148, 149, 150, 20, 152, 153, 154, 155, 156, 157, 158, 159, 161, 162, 163, 165, 166, 168, 169, 170, 172, 173, 85, 175, 176, 177, 179, 180, 181, 45, 46, 183, 184, 185, 47, 187, 188, 189, 48, 49, 50, 51, 191, 192, 193, 195, 196, 197, 199, 200, 201, 203, 204, 205, 339, 340, 341, 136, 137, 138, 2, 26, 31, 140, 141, 36, 142, 207, 208, 209, 25, 211, 56, 65, 212, 57, 213, 214, 215, 216, 58, 59, 61, 62, 63, 64, 217, 218, 219, 221, 222, 223, 225, 226, 227, 228, 229, 230, 231, 232, 234, 235, 236, 238, 239, 240, 242, 243, 244, 753, 754, 755, 756, 757, 758, 759, 760, 761, 762, 763, 780, 781, 782, 783, 784, 785, 786, 787, 788, 789, 790, 791, 778, 779, 802, 803, 804, 805, 806, 807, 808, 792, 793, 794, 795, 796, 797, 798, 799, 800, 801] rfl (by decide +kernel) (by decide +kernel)
set_option maxRecDepth 20000 in
theorem gL_law_X5_lay : GoodIn wsL_law (wsV RL 27 RX5 yX5_lay wsX5_lay) := goodIn_app (goodIn_of _ (by decide +kernel)) ggL_law_X5_lay
set_option maxRecDepth 20000 in
theorem ggL_law_X6_lay : GoodIn wsL_law wsX6_lay := goodIn_c [346, 317, 262, 322, 326, 330, 333, 297, 266, 270, 274, 278, 285] [252, 251, 314, 315, 316, 5, 318, 294, 250, 259, 260, 261, 319, 320, 321, 323, 324, 325, 327, 328, 329, 331, 332, 295, 296, 263, 264, 265, 267, 268, 269, 271, 272, 273, 275, 276, 277, 279, 280, 281, 282, 283, 284, 253, 764, 765, 766, 767, 768, 769, 770, 771, 772, 773, 774, 775, 776, 777] rfl (by decide +kernel) (by decide +kernel)
set_option maxRecDepth 20000 in
theorem gL_law_X6_lay : GoodIn wsL_law (wsV RL 30 RX6 yX6_lay wsX6_lay) := goodIn_app (goodIn_of _ (by decide +kernel)) ggL_law_X6_lay
set_option maxRecDepth 20000 in
theorem ggL_law_X5_person : GoodIn wsL_law wsX5_person := goodIn_c [350, 194, 357, 362, 245] [22, 351, 26, 352, 353, 192, 193, 20, 152, 354, 355, 356, 25, 65, 358, 58, 359, 360, 361, 57, 211, 363, 243, 244, 47, 156, 753, 754, 755, 756, 757, 758, 759, 760, 761, 762, 763, 780, 781, 782, 783, 784, 785, 786, 787, 788, 789, 790, 791, 792, 793, 794, 795, 796, 797, 798, 799, 800, 801] rfl (by decide +kernel) (by decide +kernel)
set_option maxRecDepth 20000 in
theorem gL_law_X5_person : GoodIn wsL_law (wsV RL 31 RX5 yX5_person wsX5_person) := goodIn_app (goodIn_of _ (by decide +kernel)) ggL_law_X5_person
set_option maxRecDepth 20000 in
theorem ggL_law_X6_person : GoodIn wsL_law wsX6_person := goodIn_c [367, 371, 297, 375, 379] [253, 251, 368, 369, 370, 5, 295, 296, 372, 373, 374, 376, 377, 378, 764, 765, 766, 767, 768, 769, 770, 771, 772, 773, 774, 775, 776, 777] rfl (by decide +kernel) (by decide +kernel)
set_option maxRecDepth 20000 in
theorem gL_law_X6_person : GoodIn wsL_law (wsV RL 35 RX6 yX6_person wsX6_person) := goodIn_app (goodIn_of _ (by decide +kernel)) ggL_law_X6_person
set_option maxRecDepth 20000 in
theorem ggL_law_X5_thing : GoodIn wsL_law wsX5_thing := goodIn_c [383, 198, 245, 392, 396] [22, 26, 384, 385, 386, 387, 196, 197, 20, 153, 388, 243, 244, 47, 156, 389, 390, 391, 25, 58, 393, 394, 395, 65, 397, 63, 753, 754, 755, 756, 757, 758, 759, 760, 761, 762, 763, 792, 793, 794, 795, 796, 797, 798, 799, 800, 801, 780, 781, 782, 783, 784, 785, 786, 787, 788, 789, 790, 791] rfl (by decide +kernel) (by decide +kernel)
set_option maxRecDepth 20000 in
theorem gL_law_X5_thing : GoodIn wsL_law (wsV RL 36 RX5 yX5_thing wsX5_thing) := goodIn_app (goodIn_of _ (by decide +kernel)) ggL_law_X5_thing
set_option maxRecDepth 20000 in
theorem ggL_law_X6_thing : GoodIn wsL_law wsX6_thing := goodIn_c [401, 405, 297, 375, 409, 413, 417, 420, 424] [253, 402, 403, 404, 5, 251, 295, 296, 372, 373, 374, 406, 407, 408, 410, 411, 412, 414, 415, 416, 257, 418, 419, 421, 422, 423, 764, 765, 766, 767, 768, 769, 770, 771, 772, 773, 774, 775, 776, 777] rfl (by decide +kernel) (by decide +kernel)
set_option maxRecDepth 20000 in
theorem gL_law_X6_thing : GoodIn wsL_law (wsV RL 39 RX6 yX6_thing wsX6_thing) := goodIn_app (goodIn_of _ (by decide +kernel)) ggL_law_X6_thing
set_option maxRecDepth 20000 in
theorem ggL_law_X5_nearly : GoodIn wsL_law wsX5_nearly := goodIn_c [428, 194, 198] [22, 26, 429, 430, 431, 432, 353, 192, 193, 20, 152, 387, 196, 197, 153, 753, 754, 755, 756, 757, 758, 759, 760, 761, 762, 763, 792, 793, 794, 795, 796, 797, 798, 799, 800, 801, 780, 781, 782, 783, 784, 785, 786, 787, 788, 789, 790, 791] rfl (by decide +kernel) (by decide +kernel)
set_option maxRecDepth 20000 in
theorem gL_law_X5_nearly : GoodIn wsL_law (wsV RL 40 RX5 yX5_nearly wsX5_nearly) := goodIn_app (goodIn_of _ (by decide +kernel)) ggL_law_X5_nearly
set_option maxRecDepth 20000 in
theorem ggL_law_X6_nearly : GoodIn wsL_law wsX6_nearly := goodIn_c [436, 371, 297, 405, 417, 420, 413, 424, 440, 444, 375] [368, 369, 370, 5, 251, 295, 296, 402, 403, 404, 414, 415, 416, 253, 257, 418, 419, 410, 411, 412, 421, 422, 423, 437, 438, 439, 441, 442, 443, 372, 373, 374, 764, 765, 766, 767, 768, 769, 770, 771, 772, 773, 774, 775, 776, 777] rfl (by decide +kernel) (by decide +kernel)
set_option maxRecDepth 20000 in
theorem gL_law_X6_nearly : GoodIn wsL_law (wsV RL 44 RX6 yX6_nearly wsX6_nearly) := goodIn_app (goodIn_of _ (by decide +kernel)) ggL_law_X6_nearly
set_option maxRecDepth 20000 in
theorem ggL_law_X5_pause : GoodIn wsL_law wsX5_pause := goodIn_c [448, 194, 198, 452, 86, 459, 233, 237, 241, 245] [22, 31, 26, 430, 353, 192, 193, 20, 152, 387, 196, 197, 153, 449, 450, 451, 30, 71, 453, 454, 455, 84, 85, 456, 457, 458, 25, 211, 56, 57, 213, 214, 215, 216, 58, 59, 61, 62, 63, 64, 460, 231, 232, 65, 234, 235, 236, 45, 238, 239, 240, 242, 243, 244, 47, 156, 753, 754, 755, 756, 757, 758, 759, 760, 761, 762, 763, 792, 793, 794, 795, 796, 797, 798, 799, 800, 801, 780, 781, 782, 783, 784, 785, 786, 787, 788, 789, 790, 791, 802, 803, 804] rfl (by decide +kernel) (by decide +kernel)
set_option maxRecDepth 20000 in
theorem gL_law_X5_pause : GoodIn wsL_law (wsV RL 45 RX5 yX5_pause wsX5_pause) := goodIn_app (goodIn_of _ (by decide +kernel)) ggL_law_X5_pause
set_option maxRecDepth 20000 in
theorem ggL_law_X6_pause : GoodIn wsL_law wsX6_pause := goodIn_c [464, 371, 297, 405, 468, 472, 420, 413, 417, 424] [368, 369, 370, 5, 251, 295, 296, 402, 403, 404, 465, 466, 467, 279, 254, 253, 469, 470, 471, 418, 419, 410, 411, 412, 414, 415, 416, 257, 421, 422, 423, 764, 765, 766, 767, 768, 769, 770, 771, 772, 773, 774, 775, 776, 777] rfl (by decide +kernel) (by decide +kernel)
set_option maxRecDepth 20000 in
theorem gL_law_X6_pause : GoodIn wsL_law (wsV RL 48 RX6 yX6_pause wsX6_pause) := goodIn_app (goodIn_of _ (by decide +kernel)) ggL_law_X6_pause
set_option maxRecDepth 20000 in
theorem ggL_law_X5_fair : GoodIn wsL_law wsX5_fair := goodIn_c [476, 452, 86, 459, 480, 392, 487, 396, 492, 496, 224, 233, 237, 241, 245] [26, 384, 31, 449, 450, 451, 30, 71, 453, 454, 455, 84, 85, 456, 457, 458, 25, 211, 56, 57, 213, 214, 215, 216, 58, 59, 61, 62, 63, 64, 477, 478, 479, 65, 358, 397, 481, 482, 483, 390, 391, 484, 485, 486, 488, 394, 395, 489, 490, 491, 493, 494, 495, 221, 222, 223, 225, 226, 227, 228, 229, 230, 231, 232, 234, 235, 236, 20, 45, 238, 239, 240, 242, 243, 244, 47, 156, 753, 754, 755, 756, 757, 758, 759, 760, 761, 762, 763, 792, 793, 794, 795, 796, 797, 798, 799, 800, 801, 802, 803, 804, 780, 781, 782, 783, 784, 785, 786, 787, 788, 789, 790, 791] rfl (by decide +kernel) (by decide +kernel)
set_option maxRecDepth 20000 in
theorem gL_law_X5_fair : GoodIn wsL_law (wsV RL 49 RX5 yX5_fair wsX5_fair) := goodIn_app (goodIn_of _ (by decide +kernel)) ggL_law_X5_fair
set_option maxRecDepth 20000 in
theorem ggL_law_X6_fair : GoodIn wsL_law wsX6_fair := goodIn_c [500, 468, 504, 409, 413, 417, 420, 424, 508, 444, 375, 512, 516, 440] [253, 465, 466, 467, 5, 279, 254, 501, 502, 503, 251, 406, 407, 408, 410, 411, 412, 414, 415, 416, 257, 418, 419, 421, 422, 423, 505, 506, 507, 441, 442, 443, 372, 373, 374, 509, 510, 511, 513, 514, 515, 437, 438, 439, 764, 765, 766, 767, 768, 769, 770, 771, 772, 773, 774, 775, 776, 777] rfl (by decide +kernel) (by decide +kernel)
set_option maxRecDepth 20000 in
theorem gL_law_X6_fair : GoodIn wsL_law (wsV RL 52 RX6 yX6_fair wsX6_fair) := goodIn_app (goodIn_of _ (by decide +kernel)) ggL_law_X6_fair
set_option maxRecDepth 20000 in
theorem ggL_law_X5_give : GoodIn wsL_law wsX5_give := goodIn_c [520, 194, 452, 86, 459] [22, 26, 352, 31, 353, 192, 193, 20, 152, 449, 450, 451, 30, 71, 453, 454, 455, 84, 85, 456, 457, 458, 25, 211, 56, 57, 213, 214, 215, 216, 58, 59, 61, 62, 63, 64, 753, 754, 755, 756, 757, 758, 759, 760, 761, 762, 763, 792, 793, 794, 795, 796, 797, 798, 799, 800, 801, 780, 781, 782, 783, 784, 785, 786, 787, 788, 789, 790, 791, 802, 803, 804] rfl (by decide +kernel) (by decide +kernel)
set_option maxRecDepth 20000 in
theorem gL_law_X5_give : GoodIn wsL_law (wsV RL 53 RX5 yX5_give wsX5_give) := goodIn_app (goodIn_of _ (by decide +kernel)) ggL_law_X5_give
set_option maxRecDepth 20000 in
theorem ggL_law_X6_give : GoodIn wsL_law wsX6_give := goodIn_c [524, 371, 297, 468] [253, 368, 369, 370, 5, 251, 295, 296, 465, 466, 467, 279, 254, 764, 765, 766, 767, 768, 769, 770, 771, 772, 773, 774, 775, 776, 777] rfl (by decide +kernel) (by decide +kernel)
set_option maxRecDepth 20000 in
theorem gL_law_X6_give : GoodIn wsL_law (wsV RL 56 RX6 yX6_give wsX6_give) := goodIn_app (goodIn_of _ (by decide +kernel)) ggL_law_X6_give
set_option maxRecDepth 20000 in
theorem ggL_law_X5_undo : GoodIn wsL_law wsX5_undo := goodIn_c [528, 532, 174, 459] [31, 140, 26, 529, 530, 531, 30, 453, 454, 533, 173, 85, 71, 456, 457, 458, 25, 211, 56, 57, 213, 214, 215, 216, 58, 59, 61, 62, 63, 64, 753, 754, 755, 756, 757, 758, 759, 760, 761, 762, 763, 802, 803, 804, 792, 793, 794, 795, 796, 797, 798, 799, 800, 801] rfl (by decide +kernel) (by decide +kernel)
set_option maxRecDepth 20000 in
theorem gL_law_X5_undo : GoodIn wsL_law (wsV RL 57 RX5 yX5_undo wsX5_undo) := goodIn_app (goodIn_of _ (by decide +kernel)) ggL_law_X5_undo
set_option maxRecDepth 20000 in
theorem ggL_law_X6_undo : GoodIn wsL_law wsX6_undo := goodIn_c [537] [279, 253, 254, 764, 765, 766, 767, 768, 769, 770, 771, 772, 773, 774, 775, 776, 777] rfl (by decide +kernel) (by decide +kernel)
set_option maxRecDepth 20000 in
theorem gL_law_X6_undo : GoodIn wsL_law (wsV RL 60 RX6 yX6_undo wsX6_undo) := goodIn_app (goodIn_of _ (by decide +kernel)) ggL_law_X6_undo
set_option maxRecDepth 20000 in
theorem ggL_law_X5_behind : GoodIn wsL_law wsX5_behind := goodIn_c [541, 198, 459, 546, 480, 86, 392, 487, 396, 492, 496, 224, 233, 237, 241, 245] [22, 27, 26, 385, 387, 196, 197, 20, 153, 542, 457, 458, 25, 211, 56, 57, 213, 214, 215, 216, 58, 59, 61, 62, 63, 64, 543, 544, 545, 547, 478, 479, 65, 358, 397, 481, 482, 84, 85, 483, 390, 391, 484, 485, 486, 488, 394, 395, 489, 490, 491, 493, 494, 495, 221, 222, 223, 225, 226, 227, 228, 229, 230, 231, 232, 234, 235, 236, 45, 238, 239, 240, 242, 243, 244, 47, 156, 753, 754, 755, 756, 757, 758, 759, 760, 761, 762, 763, 792, 793, 794, 795, 796, 797, 798, 799, 800, 801, 780, 781, 782, 783, 784, 785, 786, 787, 788, 789, 790, 791] rfl (by decide +kernel) (by decide +kernel)
set_option maxRecDepth 20000 in
theorem gL_law_X5_behind : GoodIn wsL_law (wsV RL 61 RX5 yX5_behind wsX5_behind) := goodIn_app (goodIn_of _ (by decide +kernel)) ggL_law_X5_behind
set_option maxRecDepth 20000 in
theorem ggL_law_X6_behind : GoodIn wsL_law wsX6_behind := goodIn_c [551, 405, 297, 555, 559, 504, 409, 413, 417, 420, 424, 508, 444, 375, 512, 516, 440, 563] [402, 403, 404, 5, 251, 295, 296, 552, 553, 554, 258, 253, 556, 557, 558, 501, 502, 503, 406, 407, 408, 410, 411, 412, 414, 415, 416, 257, 418, 419, 421, 422, 423, 505, 506, 507, 441, 442, 443, 372, 373, 374, 509, 510, 511, 513, 514, 515, 437, 438, 439, 560, 561, 562, 764, 765, 766, 767, 768, 769, 770, 771, 772, 773, 774, 775, 776, 777] rfl (by decide +kernel) (by decide +kernel)
set_option maxRecDepth 20000 in
theorem gL_law_X6_behind : GoodIn wsL_law (wsV RL 64 RX6 yX6_behind wsX6_behind) := goodIn_app (goodIn_of _ (by decide +kernel)) ggL_law_X6_behind
set_option maxRecDepth 20000 in
theorem ggL_law_X5_goes : GoodIn wsL_law wsX5_goes := goodIn_c [567, 198, 459, 571, 392, 480, 86, 487, 396, 492, 496, 224, 233, 237, 241, 245] [22, 27, 26, 387, 196, 197, 20, 153, 542, 457, 458, 25, 211, 56, 57, 213, 214, 215, 216, 58, 59, 61, 62, 63, 64, 568, 569, 570, 483, 390, 391, 547, 478, 479, 65, 358, 397, 481, 482, 84, 85, 484, 485, 486, 488, 394, 395, 489, 490, 491, 493, 494, 495, 221, 222, 223, 225, 226, 227, 228, 229, 230, 231, 232, 234, 235, 236, 45, 238, 239, 240, 242, 243, 244, 47, 156, 753, 754, 755, 756, 757, 758, 759, 760, 761, 762, 763, 780, 781, 782, 783, 784, 785, 786, 787, 788, 789, 790, 791, 792, 793, 794, 795, 796, 797, 798, 799, 800, 801] rfl (by decide +kernel) (by decide +kernel)
set_option maxRecDepth 20000 in
theorem gL_law_X5_goes : GoodIn wsL_law (wsV RL 65 RX5 yX5_goes wsX5_goes) := goodIn_app (goodIn_of _ (by decide +kernel)) ggL_law_X5_goes
set_option maxRecDepth 20000 in
theorem ggL_law_X6_goes : GoodIn wsL_law wsX6_goes := goodIn_c [575, 405, 297, 555, 579, 504, 409, 413, 417, 420, 424, 508, 444, 375, 512, 516, 440, 563] [402, 403, 404, 5, 251, 295, 296, 552, 553, 554, 258, 253, 576, 577, 578, 501, 502, 503, 406, 407, 408, 410, 411, 412, 414, 415, 416, 257, 418, 419, 421, 422, 423, 505, 506, 507, 441, 442, 443, 372, 373, 374, 509, 510, 511, 513, 514, 515, 437, 438, 439, 560, 561, 562, 764, 765, 766, 767, 768, 769, 770, 771, 772, 773, 774, 775, 776, 777] rfl (by decide +kernel) (by decide +kernel)
set_option maxRecDepth 20000 in
theorem gL_law_X6_goes : GoodIn wsL_law (wsV RL 68 RX6 yX6_goes wsX6_goes) := goodIn_app (goodIn_of _ (by decide +kernel)) ggL_law_X6_goes
set_option maxRecDepth 20000 in
theorem ggL_law_X5_never : GoodIn wsL_law wsX5_never := goodIn_c [583, 459, 546, 480, 86, 392, 487, 396, 492, 496, 224, 233, 237, 241, 245] [27, 26, 22, 338, 542, 457, 458, 25, 211, 56, 57, 213, 214, 215, 216, 58, 59, 61, 62, 63, 64, 543, 544, 545, 547, 478, 479, 65, 358, 397, 481, 482, 84, 85, 483, 390, 391, 484, 485, 486, 488, 394, 395, 489, 490, 491, 493, 494, 495, 221, 222, 223, 225, 226, 227, 228, 229, 230, 231, 232, 234, 235, 236, 20, 45, 238, 239, 240, 242, 243, 244, 47, 156, 389, 753, 754, 755, 756, 757, 758, 759, 760, 761, 762, 763, 780, 781, 782, 783, 784, 785, 786, 787, 788, 789, 790, 791, 792, 793, 794, 795, 796, 797, 798, 799, 800, 801] rfl (by decide +kernel) (by decide +kernel)
set_option maxRecDepth 20000 in
theorem gL_law_X5_never : GoodIn wsL_law (wsV RL 69 RX5 yX5_never wsX5_never) := goodIn_app (goodIn_of _ (by decide +kernel)) ggL_law_X5_never
set_option maxRecDepth 20000 in
theorem ggL_law_X6_never : GoodIn wsL_law wsX6_never := goodIn_c [587, 551, 405, 297, 555, 559, 504, 409, 413, 417, 420, 424, 508, 444, 375, 512, 516, 440, 563] [251, 588, 549, 550, 5, 402, 403, 404, 295, 296, 552, 553, 554, 258, 253, 556, 557, 558, 501, 502, 503, 406, 407, 408, 410, 411, 412, 414, 415, 416, 257, 418, 419, 421, 422, 423, 505, 506, 507, 441, 442, 443, 372, 373, 374, 509, 510, 511, 513, 514, 515, 437, 438, 439, 560, 561, 562, 764, 765, 766, 767, 768, 769, 770, 771, 772, 773, 774, 775, 776, 777] rfl (by decide +kernel) (by decide +kernel)
set_option maxRecDepth 20000 in
theorem gL_law_X6_never : GoodIn wsL_law (wsV RL 72 RX6 yX6_never wsX6_never) := goodIn_app (goodIn_of _ (by decide +kernel)) ggL_law_X6_never
set_option maxRecDepth 20000 in
theorem ggL_law_X5_stop : GoodIn wsL_law wsX5_stop := goodIn_c [592, 194, 198, 459, 233, 237, 241, 245, 571, 392, 480, 86, 487, 396, 492, 496, 224] [22, 27, 26, 385, 353, 192, 193, 20, 152, 387, 196, 197, 153, 542, 457, 458, 25, 211, 56, 57, 213, 214, 215, 216, 58, 59, 61, 62, 63, 64, 460, 231, 232, 65, 234, 235, 236, 45, 238, 239, 240, 242, 243, 244, 47, 156, 568, 569, 570, 483, 390, 391, 547, 478, 479, 358, 397, 481, 482, 84, 85, 484, 485, 486, 488, 394, 395, 489, 490, 491, 493, 494, 495, 221, 222, 223, 225, 226, 227, 228, 229, 230, 753, 754, 755, 756, 757, 758, 759, 760, 761, 762, 763, 792, 793, 794, 795, 796, 797, 798, 799, 800, 801, 780, 781, 782, 783, 784, 785, 786, 787, 788, 789, 790, 791] rfl (by decide +kernel) (by decide +kernel)
set_option maxRecDepth 20000 in
theorem gL_law_X5_stop : GoodIn wsL_law (wsV RL 73 RX5 yX5_stop wsX5_stop) := goodIn_app (goodIn_of _ (by decide +kernel)) ggL_law_X5_stop
set_option maxRecDepth 20000 in
theorem ggL_law_X6_stop : GoodIn wsL_law wsX6_stop := goodIn_c [596, 371, 297, 405, 555, 559, 504, 409, 413, 417, 420, 424, 508, 444, 375, 512, 516, 440, 563, 579, 472] [368, 369, 370, 5, 251, 295, 296, 402, 403, 404, 552, 553, 554, 258, 253, 556, 557, 558, 501, 502, 503, 406, 407, 408, 410, 411, 412, 414, 415, 416, 257, 418, 419, 421, 422, 423, 505, 506, 507, 441, 442, 443, 372, 373, 374, 509, 510, 511, 513, 514, 515, 437, 438, 439, 560, 561, 562, 576, 577, 578, 469, 470, 471, 764, 765, 766, 767, 768, 769, 770, 771, 772, 773, 774, 775, 776, 777] rfl (by decide +kernel) (by decide +kernel)
set_option maxRecDepth 20000 in
theorem gL_law_X6_stop : GoodIn wsL_law (wsV RL 76 RX6 yX6_stop wsX6_stop) := goodIn_app (goodIn_of _ (by decide +kernel)) ggL_law_X6_stop
set_option maxRecDepth 20000 in
theorem ggL_law_X5_rank : GoodIn wsL_law wsX5_rank := goodIn_c [600, 194, 604] [22, 338, 26, 432, 353, 192, 193, 20, 152, 601, 602, 603, 25, 65, 358, 64, 753, 754, 755, 756, 757, 758, 759, 760, 761, 762, 763, 780, 781, 782, 783, 784, 785, 786, 787, 788, 789, 790, 791, 792, 793, 794, 795, 796, 797, 798, 799, 800, 801] rfl (by decide +kernel) (by decide +kernel)
set_option maxRecDepth 20000 in
theorem gL_law_X5_rank : GoodIn wsL_law (wsV RL 77 RX5 yX5_rank wsX5_rank) := goodIn_app (goodIn_of _ (by decide +kernel)) ggL_law_X5_rank
set_option maxRecDepth 20000 in
theorem ggL_law_X6_rank : GoodIn wsL_law wsX6_rank := goodIn_c [608, 371, 297, 440, 413, 417, 420, 424, 444, 375] [251, 368, 369, 370, 5, 295, 296, 437, 438, 439, 410, 411, 412, 414, 415, 416, 253, 257, 418, 419, 421, 422, 423, 441, 442, 443, 372, 373, 374, 764, 765, 766, 767, 768, 769, 770, 771, 772, 773, 774, 775, 776, 777] rfl (by decide +kernel) (by decide +kernel)
set_option maxRecDepth 20000 in
theorem gL_law_X6_rank : GoodIn wsL_law (wsV RL 80 RX6 yX6_rank wsX6_rank) := goodIn_app (goodIn_of _ (by decide +kernel)) ggL_law_X6_rank
set_option maxRecDepth 20000 in
theorem ggL_law_X5_wanted : GoodIn wsL_law wsX5_wanted := goodIn_c [612, 616] [22, 338, 26, 613, 614, 615, 25, 65, 397, 64, 753, 754, 755, 756, 757, 758, 759, 760, 761, 762, 763, 780, 781, 782, 783, 784, 785, 786, 787, 788, 789, 790, 791, 792, 793, 794, 795, 796, 797, 798, 799, 800, 801] rfl (by decide +kernel) (by decide +kernel)
set_option maxRecDepth 20000 in
theorem gL_law_X5_wanted : GoodIn wsL_law (wsV RL 81 RX5 yX5_wanted wsX5_wanted) := goodIn_app (goodIn_of _ (by decide +kernel)) ggL_law_X5_wanted
set_option maxRecDepth 20000 in
theorem ggL_law_X6_wanted : GoodIn wsL_law wsX6_wanted := goodIn_c [620, 297, 624, 440, 413, 417, 420, 424] [251, 295, 296, 5, 621, 622, 623, 437, 438, 439, 410, 411, 412, 414, 415, 416, 253, 257, 418, 419, 421, 422, 423, 764, 765, 766, 767, 768, 769, 770, 771, 772, 773, 774, 775, 776, 777] rfl (by decide +kernel) (by decide +kernel)
set_option maxRecDepth 20000 in
theorem gL_law_X6_wanted : GoodIn wsL_law (wsV RL 84 RX6 yX6_wanted wsX6_wanted) := goodIn_app (goodIn_of _ (by decide +kernel)) ggL_law_X6_wanted
set_option maxRecDepth 20000 in
theorem ggL_law_X5_seen : GoodIn wsL_law wsX5_seen := goodIn_c [628, 198, 194, 632] [22, 36, 142, 387, 196, 197, 20, 153, 353, 192, 193, 152, 629, 630, 631, 35, 633, 76, 77, 78, 753, 754, 755, 756, 757, 758, 759, 760, 761, 762, 763, 805, 806, 807, 808, 780, 781, 782, 783, 784, 785, 786, 787, 788, 789, 790, 791] rfl (by decide +kernel) (by decide +kernel)
set_option maxRecDepth 20000 in
theorem gL_law_X5_seen : GoodIn wsL_law (wsV RL 85 RX5 yX5_seen wsX5_seen) := goodIn_app (goodIn_of _ (by decide +kernel)) ggL_law_X5_seen
set_option maxRecDepth 20000 in
theorem ggL_law_X6_seen : GoodIn wsL_law wsX6_seen := goodIn_c [637, 405, 297, 371] [281, 256, 402, 403, 404, 5, 251, 295, 296, 368, 369, 370, 764, 765, 766, 767, 768, 769, 770, 771, 772, 773, 774, 775, 776, 777] rfl (by decide +kernel) (by decide +kernel)
set_option maxRecDepth 20000 in
theorem gL_law_X6_seen : GoodIn wsL_law (wsV RL 88 RX6 yX6_seen wsX6_seen) := goodIn_app (goodIn_of _ (by decide +kernel)) ggL_law_X6_seen
set_option maxRecDepth 20000 in
theorem ggL_law_X5_forget : GoodIn wsL_law wsX5_forget := goodIn_c [641] [36, 142, 753, 754, 755, 756, 757, 758, 759, 760, 761, 762, 763, 805, 806, 807, 808] rfl (by decide +kernel) (by decide +kernel)
set_option maxRecDepth 20000 in
theorem gL_law_X5_forget : GoodIn wsL_law (wsV RL 89 RX5 yX5_forget wsX5_forget) := goodIn_app (goodIn_of _ (by decide +kernel)) ggL_law_X5_forget
set_option maxRecDepth 20000 in
theorem ggL_law_X6_forget : GoodIn wsL_law wsX6_forget := goodIn_c [645] [281, 764, 765, 766, 767, 768, 769, 770, 771, 772, 773, 774, 775, 776, 777] rfl (by decide +kernel) (by decide +kernel)
set_option maxRecDepth 20000 in
theorem gL_law_X6_forget : GoodIn wsL_law (wsV RL 92 RX6 yX6_forget wsX6_forget) := goodIn_app (goodIn_of _ (by decide +kernel)) ggL_law_X6_forget
set_option maxRecDepth 20000 in
theorem ggL_law_X5_feigned : GoodIn wsL_law wsX5_feigned := goodIn_c [649, 654, 210, 220, 224, 233, 237, 241, 245, 480, 86, 392, 487, 396, 492, 496] [36, 27, 22, 650, 651, 652, 653, 35, 633, 78, 655, 76, 77, 656, 208, 209, 25, 211, 56, 65, 212, 57, 213, 214, 215, 216, 58, 59, 61, 62, 63, 64, 217, 218, 219, 221, 222, 223, 225, 226, 227, 228, 229, 230, 231, 232, 234, 235, 236, 20, 45, 238, 239, 240, 242, 243, 244, 47, 156, 657, 478, 479, 358, 397, 481, 482, 84, 85, 483, 390, 391, 484, 485, 486, 488, 394, 395, 489, 490, 491, 493, 494, 495, 753, 754, 755, 756, 757, 758, 759, 760, 761, 762, 763, 780, 781, 782, 783, 784, 785, 786, 787, 788, 789, 790, 791, 805, 806, 807, 808, 792, 793, 794, 795, 796, 797, 798, 799, 800, 801] rfl (by decide +kernel) (by decide +kernel)
set_option maxRecDepth 20000 in
theorem gL_law_X5_feigned : GoodIn wsL_law (wsV RL 93 RX5 yX5_feigned wsX5_feigned) := goodIn_app (goodIn_of _ (by decide +kernel)) ggL_law_X5_feigned
set_option maxRecDepth 20000 in
theorem ggL_law_X6_feigned : GoodIn wsL_law wsX6_feigned := goodIn_c [661, 297, 665, 555, 285, 504, 409, 413, 417, 420, 424, 508, 444, 375, 512, 516, 440, 563] [251, 295, 296, 5, 662, 663, 664, 257, 281, 256, 253, 552, 553, 554, 258, 282, 283, 284, 501, 502, 503, 406, 407, 408, 410, 411, 412, 414, 415, 416, 418, 419, 421, 422, 423, 505, 506, 507, 441, 442, 443, 372, 373, 374, 509, 510, 511, 513, 514, 515, 437, 438, 439, 560, 561, 562, 764, 765, 766, 767, 768, 769, 770, 771, 772, 773, 774, 775, 776, 777] rfl (by decide +kernel) (by decide +kernel)
set_option maxRecDepth 20000 in
theorem gL_law_X6_feigned : GoodIn wsL_law (wsV RL 96 RX6 yX6_feigned wsX6_feigned) := goodIn_app (goodIn_of _ (by decide +kernel)) ggL_law_X6_feigned
set_option maxRecDepth 20000 in
theorem ggL_law_X5_counts : GoodIn wsL_law wsX5_counts := goodIn_c [669, 174, 194, 674, 237, 678] [22, 670, 173, 85, 353, 192, 193, 20, 152, 671, 672, 673, 2, 675, 235, 236, 45, 676, 677, 753, 754, 755, 756, 757, 758, 759, 760, 761, 762, 763, 780, 781, 782, 783, 784, 785, 786, 787, 788, 789, 790, 791] rfl (by decide +kernel) (by decide +kernel)
set_option maxRecDepth 20000 in
theorem gL_law_X5_counts : GoodIn wsL_law (wsV RL 97 RX5 yX5_counts wsX5_counts) := goodIn_app (goodIn_of _ (by decide +kernel)) ggL_law_X5_counts
set_option maxRecDepth 20000 in
theorem ggL_law_X6_counts : GoodIn wsL_law wsX6_counts := goodIn_c [682, 371, 297, 424] [251, 368, 369, 370, 5, 295, 296, 421, 422, 423, 764, 765, 766, 767, 768, 769, 770, 771, 772, 773, 774, 775, 776, 777] rfl (by decide +kernel) (by decide +kernel)
set_option maxRecDepth 20000 in
theorem gL_law_X6_counts : GoodIn wsL_law (wsV RL 100 RX6 yX6_counts wsX6_counts) := goodIn_app (goodIn_of _ (by decide +kernel)) ggL_law_X6_counts
set_option maxRecDepth 20000 in
theorem ggL_law_X5_cheapest : GoodIn wsL_law wsX5_cheapest := goodIn_c [686, 198] [22, 650, 26, 432, 387, 196, 197, 20, 153, 753, 754, 755, 756, 757, 758, 759, 760, 761, 762, 763, 780, 781, 782, 783, 784, 785, 786, 787, 788, 789, 790, 791, 792, 793, 794, 795, 796, 797, 798, 799, 800, 801] rfl (by decide +kernel) (by decide +kernel)
set_option maxRecDepth 20000 in
theorem gL_law_X5_cheapest : GoodIn wsL_law (wsV RL 101 RX5 yX5_cheapest wsX5_cheapest) := goodIn_app (goodIn_of _ (by decide +kernel)) ggL_law_X5_cheapest
set_option maxRecDepth 20000 in
theorem ggL_law_X6_cheapest : GoodIn wsL_law wsX6_cheapest := goodIn_c [690, 405, 297, 440, 413, 417, 420, 424, 444, 375] [251, 402, 403, 404, 5, 295, 296, 437, 438, 439, 410, 411, 412, 414, 415, 416, 253, 257, 418, 419, 421, 422, 423, 441, 442, 443, 372, 373, 374, 764, 765, 766, 767, 768, 769, 770, 771, 772, 773, 774, 775, 776, 777] rfl (by decide +kernel) (by decide +kernel)
set_option maxRecDepth 20000 in
theorem gL_law_X6_cheapest : GoodIn wsL_law (wsV RL 104 RX6 yX6_cheapest wsX6_cheapest) := goodIn_app (goodIn_of _ (by decide +kernel)) ggL_law_X6_cheapest
set_option maxRecDepth 20000 in
theorem ggL_law_X5_greens : GoodIn wsL_law wsX5_greens := goodIn_c [694, 459, 697, 705, 233, 237, 241, 245, 480, 86, 392, 487, 396, 492, 496, 224, 709, 713] [27, 26, 542, 457, 458, 25, 211, 56, 57, 213, 214, 215, 216, 58, 59, 61, 62, 63, 64, 695, 696, 2, 698, 699, 700, 701, 702, 703, 704, 22, 650, 338, 460, 231, 232, 65, 234, 235, 236, 20, 45, 238, 239, 240, 242, 243, 244, 47, 156, 477, 478, 479, 358, 397, 481, 482, 84, 85, 483, 390, 391, 484, 485, 486, 488, 394, 395, 489, 490, 491, 493, 494, 495, 221, 222, 223, 225, 226, 227, 228, 229, 230, 706, 707, 708, 710, 711, 712, 753, 754, 755, 756, 757, 758, 759, 760, 761, 762, 763, 792, 793, 794, 795, 796, 797, 798, 799, 800, 801, 780, 781, 782, 783, 784, 785, 786, 787, 788, 789, 790, 791] rfl (by decide +kernel) (by decide +kernel)
set_option maxRecDepth 20000 in
theorem gL_law_X5_greens : GoodIn wsL_law (wsV RL 105 RX5 yX5_greens wsX5_greens) := goodIn_app (goodIn_of _ (by decide +kernel)) ggL_law_X5_greens
set_option maxRecDepth 20000 in
theorem ggL_law_X6_greens : GoodIn wsL_law wsX6_greens := goodIn_c [717, 297, 555, 472, 420, 504, 409, 413, 417, 424, 508, 444, 375, 512, 516, 440, 724, 728, 563] [718, 719, 720, 251, 295, 296, 5, 552, 553, 554, 258, 253, 469, 470, 471, 418, 419, 501, 502, 503, 406, 407, 408, 410, 411, 412, 414, 415, 416, 257, 421, 422, 423, 505, 506, 507, 441, 442, 443, 372, 373, 374, 509, 510, 511, 513, 514, 515, 437, 438, 439, 721, 722, 723, 725, 726, 727, 560, 561, 562, 764, 765, 766, 767, 768, 769, 770, 771, 772, 773, 774, 775, 776, 777] rfl (by decide +kernel) (by decide +kernel)
set_option maxRecDepth 20000 in
theorem gL_law_X6_greens : GoodIn wsL_law (wsV RL 108 RX6 yX6_greens wsX6_greens) := goodIn_app (goodIn_of _ (by decide +kernel)) ggL_law_X6_greens
set_option maxRecDepth 20000 in
theorem ggL_law_X5_keep : GoodIn wsL_law wsX5_keep := goodIn_c [732, 459] [141, 32, 26, 542, 457, 458, 25, 211, 56, 57, 213, 214, 215, 216, 58, 59, 61, 62, 63, 64, 753, 754, 755, 756, 757, 758, 759, 760, 761, 762, 763, 792, 793, 794, 795, 796, 797, 798, 799, 800, 801] rfl (by decide +kernel) (by decide +kernel)
set_option maxRecDepth 20000 in
theorem gL_law_X5_keep : GoodIn wsL_law (wsV RL 109 RX5 yX5_keep wsX5_keep) := goodIn_app (goodIn_of _ (by decide +kernel)) ggL_law_X5_keep
set_option maxRecDepth 20000 in
theorem ggL_law_X6_keep : GoodIn wsL_law wsX6_keep := goodIn_c [736] [280, 255, 253, 764, 765, 766, 767, 768, 769, 770, 771, 772, 773, 774, 775, 776, 777] rfl (by decide +kernel) (by decide +kernel)
set_option maxRecDepth 20000 in
theorem gL_law_X6_keep : GoodIn wsL_law (wsV RL 112 RX6 yX6_keep wsX6_keep) := goodIn_app (goodIn_of _ (by decide +kernel)) ggL_law_X6_keep
set_option maxRecDepth 20000 in
theorem ggL_law_X5_back : GoodIn wsL_law wsX5_back := goodIn_c [740, 459] [141, 26, 32, 31, 140, 542, 457, 458, 25, 211, 56, 57, 213, 214, 215, 216, 58, 59, 61, 62, 63, 64, 753, 754, 755, 756, 757, 758, 759, 760, 761, 762, 763, 802, 803, 804, 792, 793, 794, 795, 796, 797, 798, 799, 800, 801] rfl (by decide +kernel) (by decide +kernel)
set_option maxRecDepth 20000 in
theorem gL_law_X5_back : GoodIn wsL_law (wsV RL 113 RX5 yX5_back wsX5_back) := goodIn_app (goodIn_of _ (by decide +kernel)) ggL_law_X5_back
set_option maxRecDepth 20000 in
theorem ggL_law_X6_back : GoodIn wsL_law wsX6_back := goodIn_c [744] [280, 253, 255, 279, 764, 765, 766, 767, 768, 769, 770, 771, 772, 773, 774, 775, 776, 777] rfl (by decide +kernel) (by decide +kernel)
set_option maxRecDepth 20000 in
theorem gL_law_X6_back : GoodIn wsL_law (wsV RL 116 RX6 yX6_back wsX6_back) := goodIn_app (goodIn_of _ (by decide +kernel)) ggL_law_X6_back
set_option maxRecDepth 20000 in
theorem ggL_law_X5_count : GoodIn wsL_law wsX5_count := goodIn_c [748, 709, 392, 713] [22, 650, 338, 26, 384, 36, 142, 31, 140, 141, 37, 706, 707, 708, 25, 65, 358, 483, 390, 391, 58, 710, 711, 712, 397, 57, 753, 754, 755, 756, 757, 758, 759, 760, 761, 762, 763, 780, 781, 782, 783, 784, 785, 786, 787, 788, 789, 790, 791, 792, 793, 794, 795, 796, 797, 798, 799, 800, 801, 805, 806, 807, 808, 802, 803, 804] rfl (by decide +kernel) (by decide +kernel)
set_option maxRecDepth 20000 in
theorem gL_law_X5_count : GoodIn wsL_law (wsV RL 117 RX5 yX5_count wsX5_count) := goodIn_app (goodIn_of _ (by decide +kernel)) ggL_law_X5_count
set_option maxRecDepth 20000 in
theorem ggL_law_X6_count : GoodIn wsL_law wsX6_count := goodIn_c [752, 724, 728] [251, 253, 281, 279, 280, 294, 721, 722, 723, 5, 725, 726, 727, 764, 765, 766, 767, 768, 769, 770, 771, 772, 773, 774, 775, 776, 777] rfl (by decide +kernel) (by decide +kernel)
set_option maxRecDepth 20000 in
theorem gL_law_X6_count : GoodIn wsL_law (wsV RL 120 RX6 yX6_count wsX6_count) := goodIn_app (goodIn_of _ (by decide +kernel)) ggL_law_X6_count
