theorem ym_tm (k : Nat) {w : Cond} {i : Nat} (h : [tables_1_1, tables_1_2, tables_1_3, tables_1_4, tables_1_5, tables_1_6][k]?.bind (fun l => l[i]?) = some w) : w ∈ lw_tbl := by
  refine List.mem_append_right _ ?_
  match k, h with
  | 0, h => exact List.mem_append_left _ (List.mem_of_getElem? h)
  | 1, h => exact List.mem_append_right _ (List.mem_append_left _ (List.mem_of_getElem? h))
  | 2, h => exact List.mem_append_right _ (List.mem_append_right _ (List.mem_append_left _ (List.mem_of_getElem? h)))
  | 3, h => exact List.mem_append_right _ (List.mem_append_right _ (List.mem_append_right _ (List.mem_append_left _ (List.mem_of_getElem? h))))
  | 4, h => exact List.mem_append_right _ (List.mem_append_right _ (List.mem_append_right _ (List.mem_append_right _ (List.mem_append_left _ (List.mem_of_getElem? h)))))
  | 5, h => exact List.mem_append_right _ (List.mem_append_right _ (List.mem_append_right _ (List.mem_append_right _ (List.mem_append_right _ (List.mem_of_getElem? h)))))
  | k + 6, h => simp at h
theorem ym_tg {k i : Nat} {w : Cond} (h : [tables_1_1, tables_1_2, tables_1_3, tables_1_4, tables_1_5, tables_1_6][k]?.bind (fun l => l[i]?) = some w) (hg : goodWord w = true) : w ∈ ym_T := List.mem_filter.mpr ⟨ym_tm k h, hg⟩
theorem ym_tn {k i : Nat} {w : Cond} (h : [tables_1_1, tables_1_2, tables_1_3, tables_1_4, tables_1_5, tables_1_6][k]?.bind (fun l => l[i]?) = some w) (hg : ym_nf w = true) : w ∈ ym_N := List.mem_filter.mpr ⟨ym_tm k h, hg⟩
theorem ym_ts {i : Nat} {w : Cond} (h : (k2_sels lw_privs)[i]? = some w) (hg : goodWord w = true) : w ∈ ym_T := List.mem_filter.mpr ⟨List.mem_append_left _ (List.mem_of_getElem? h), hg⟩
def g_J7_copyOf_59c91 : ym_G := (yJ7_copyOf_59c91, cJ7_copyOf_59c91, 3, (some (FieldType.array FieldType.int)))
def g_J7_copyOf_c38d5 : ym_G := (yJ7_copyOf_c38d5, cJ7_copyOf_c38d5, 3, (some (FieldType.array FieldType.long)))
def g_X2_get : ym_G := (yX2_get, cX2_get, 2, (some FieldType.long))
def g_X3_note : ym_G := (yX3_note, cX3_note, 6, none)
def g_X2_put : ym_G := (yX2_put, cX2_put, 4, none)
def g_X0_add : ym_G := (yX0_add, cX0_add, 3, none)
def g_X0_balanceNow : ym_G := (yX0_balanceNow, cX0_balanceNow, 1, (some FieldType.long))
def g_X2_init : ym_G := (yX2_init, cX2_init, 3, none)
def g_X0_init : ym_G := (yX0_init, cX0_init, 6, none)
def g_X0_isPaper : ym_G := (yX0_isPaper, cX0_isPaper, 1, (some FieldType.boolean))
def g_X1_run : ym_G := (yX1_run, cX1_run, 2, none)
def g_X4_wasOpened : ym_G := (yX4_wasOpened, cX4_wasOpened, 1, (some FieldType.boolean))
def g_X5_rows : ym_G := (yX5_rows, cX5_rows, 1, (some FieldType.int))
def g_X5_at : ym_G := (yX5_at, cX5_at, 3, (some FieldType.long))
def g_X4_standingBidder : ym_G := (yX4_standingBidder, cX4_standingBidder, 1, (some FieldType.int))
def g_X4_startNow : ym_G := (yX4_startNow, cX4_startNow, 1, (some FieldType.long))
def g_X4_standingSum : ym_G := (yX4_standingSum, cX4_standingSum, 1, (some FieldType.long))
def g_X6_after : ym_G := (yX6_after, cX6_after, 7, (some FieldType.long))
def g_X1_askFor : ym_G := (yX1_askFor, cX1_askFor, 3, (some FieldType.long))
def g_X1_isSold : ym_G := (yX1_isSold, cX1_isSold, 3, (some FieldType.boolean))
def g_X1_piecesOf : ym_G := (yX1_piecesOf, cX1_piecesOf, 2, (some FieldType.long))
def g_X1_bringsIfSold : ym_G := (yX1_bringsIfSold, cX1_bringsIfSold, 2, (some FieldType.long))
def g_X1_forgetTrace : ym_G := (yX1_forgetTrace, cX1_forgetTrace, 1, none)
def g_X1_init : ym_G := (yX1_init, cX1_init, 2, none)
def g_X4_stateNow : ym_G := (yX4_stateNow, cX4_stateNow, 1, (some FieldType.int))
def g_X4_isNewOrCalled : ym_G := (yX4_isNewOrCalled, cX4_isNewOrCalled, 1, (some FieldType.boolean))
def g_X5_rowOf : ym_G := (yX5_rowOf, cX5_rowOf, 4, (some FieldType.int))
def g_X1_written : ym_G := (yX1_written, cX1_written, 9, (some FieldType.long))
def g_X1_mayBid : ym_G := (yX1_mayBid, cX1_mayBid, 9, (some FieldType.boolean))
def g_X1_ranAt : ym_G := (yX1_ranAt, cX1_ranAt, 2, (some FieldType.int))
def g_X2_set : ym_G := (yX2_set, cX2_set, 4, none)
def g_X3_depth : ym_G := (yX3_depth, cX3_depth, 1, (some FieldType.int))
def g_X3_init : ym_G := (yX3_init, cX3_init, 1, none)
def g_X3_keepBatch : ym_G := (yX3_keepBatch, cX3_keepBatch, 1, none)
def g_X3_openBatch : ym_G := (yX3_openBatch, cX3_openBatch, 1, none)
def g_X3_takeBackTo : ym_G := (yX3_takeBackTo, cX3_takeBackTo, 5, none)
def g_X3_takeBackAll : ym_G := (yX3_takeBackAll, cX3_takeBackAll, 1, none)
def g_X3_takeBackBatch : ym_G := (yX3_takeBackBatch, cX3_takeBackBatch, 1, none)
def g_X5_addRow : ym_G := (yX5_addRow, cX5_addRow, 2, (some FieldType.int))
def g_X5_put : ym_G := (yX5_put, cX5_put, 5, none)
def g_X4_enter : ym_G := (yX4_enter, cX4_enter, 5, none)
def g_X4_enterBid : ym_G := (yX4_enterBid, cX4_enterBid, 5, none)
def g_X4_isLimit : ym_G := (yX4_isLimit, cX4_isLimit, 2, (some FieldType.boolean))
def g_X4_rivalSum : ym_G := (yX4_rivalSum, cX4_rivalSum, 2, (some FieldType.long))
def g_X4_rivalNumber : ym_G := (yX4_rivalNumber, cX4_rivalNumber, 2, (some FieldType.long))
def g_X4_goesAhead : ym_G := (yX4_goesAhead, cX4_goesAhead, 3, (some FieldType.boolean))
def g_X4_isRival : ym_G := (yX4_isRival, cX4_isRival, 2, (some FieldType.boolean))
def g_X4_greatestRival : ym_G := (yX4_greatestRival, cX4_greatestRival, 5, (some FieldType.int))
def g_X4_hasBidderAlready : ym_G := (yX4_hasBidderAlready, cX4_hasBidderAlready, 2, (some FieldType.boolean))
def g_X4_hasBook : ym_G := (yX4_hasBook, cX4_hasBook, 1, (some FieldType.boolean))
def g_X5_init : ym_G := (yX5_init, cX5_init, 3, none)
def g_X4_init : ym_G := (yX4_init, cX4_init, 7, none)
def g_X4_isJoined : ym_G := (yX4_isJoined, cX4_isJoined, 1, (some FieldType.boolean))
def g_X4_isOpen : ym_G := (yX4_isOpen, cX4_isOpen, 1, (some FieldType.boolean))
def g_X4_isRaised : ym_G := (yX4_isRaised, cX4_isRaised, 1, (some FieldType.boolean))
def g_X4_partNumber : ym_G := (yX4_partNumber, cX4_partNumber, 3, (some FieldType.int))
def g_X5_clear : ym_G := (yX5_clear, cX5_clear, 1, none)
def g_X4_renew : ym_G := (yX4_renew, cX4_renew, 4, none)
def g_X4_tellWinner : ym_G := (yX4_tellWinner, cX4_tellWinner, 8, none)
def g_X4_whyNotOpen : ym_G := (yX4_whyNotOpen, cX4_whyNotOpen, 1, (some FieldType.int))
def g_X4_writeLimit : ym_G := (yX4_writeLimit, cX4_writeLimit, 6, none)
def g_X6_add : ym_G := (yX6_add, cX6_add, 6, none)
def g_X6_init : ym_G := (yX6_init, cX6_init, 2, none)
def g_X6_lastFrom : ym_G := (yX6_lastFrom, cX6_lastFrom, 1, (some FieldType.long))
def g_X6_premiumTimesRate : ym_G := (yX6_premiumTimesRate, cX6_premiumTimesRate, 9, (some FieldType.long))
def g_X6_rows : ym_G := (yX6_rows, cX6_rows, 1, (some FieldType.int))
def g_X7_account : ym_G := (yX7_account, cX7_account, 2, (some FieldType.long))
def g_X7_refuse : ym_G := (yX7_refuse, cX7_refuse, 2, (some FieldType.long))
def g_X7_addTableRow : ym_G := (yX7_addTableRow, cX7_addTableRow, 6, (some FieldType.long))
def g_X7_startAct : ym_G := (yX7_startAct, cX7_startAct, 1, none)
def g_X7_lotsMade : ym_G := (yX7_lotsMade, cX7_lotsMade, 1, (some FieldType.int))
def g_X7_lotAt : ym_G := (yX7_lotAt, cX7_lotAt, 2, (some (FieldType.object "AuctionRoom$Lot")))
def g_X7_whyNoLot : ym_G := (yX7_whyNoLot, cX7_whyNoLot, 1, (some FieldType.int))
def g_X7_ask : ym_G := (yX7_ask, cX7_ask, 3, (some FieldType.long))
def g_X7_askPapers : ym_G := (yX7_askPapers, cX7_askPapers, 9, none)
def g_X7_biddersMade : ym_G := (yX7_biddersMade, cX7_biddersMade, 1, (some FieldType.int))
def g_X7_bidderWith : ym_G := (yX7_bidderWith, cX7_bidderWith, 2, (some (FieldType.object "AuctionRoom$Bidder")))
def g_X7_balance : ym_G := (yX7_balance, cX7_balance, 3, (some FieldType.long))
def g_X7_batch : ym_G := (yX7_batch, cX7_batch, 1, (some FieldType.long))
def g_X7_batches : ym_G := (yX7_batches, cX7_batches, 1, (some FieldType.int))
def g_X7_isSum : ym_G := (yX7_isSum, cX7_isSum, 2, (some FieldType.boolean))
def g_X7_whyNoBidder : ym_G := (yX7_whyNoBidder, cX7_whyNoBidder, 1, (some FieldType.int))
def g_X7_bid : ym_G := (yX7_bid, cX7_bid, 7, (some FieldType.long))
def g_X7_isMoney : ym_G := (yX7_isMoney, cX7_isMoney, 2, (some FieldType.boolean))
def g_X7_bidder : ym_G := (yX7_bidder, cX7_bidder, 5, (some FieldType.long))
def g_X7_readEntry : ym_G := (yX7_readEntry, cX7_readEntry, 5, (some FieldType.long))
def g_X7_bidderAt : ym_G := (yX7_bidderAt, cX7_bidderAt, 3, (some FieldType.long))
def g_X7_bidderKind : ym_G := (yX7_bidderKind, cX7_bidderKind, 3, (some FieldType.int))
def g_X7_bookTo : ym_G := (yX7_bookTo, cX7_bookTo, 4, none)
def g_X7_bookToBidder : ym_G := (yX7_bookToBidder, cX7_bookToBidder, 5, none)
def g_X7_call : ym_G := (yX7_call, cX7_call, 3, (some FieldType.long))
def g_X7_cause : ym_G := (yX7_cause, cX7_cause, 4, (some FieldType.int))
def g_X7_isRate : ym_G := (yX7_isRate, cX7_isRate, 1, (some FieldType.boolean))
def g_X7_cut : ym_G := (yX7_cut, cX7_cut, 6, (some FieldType.long))
def g_X7_entries : ym_G := (yX7_entries, cX7_entries, 3, (some FieldType.int))
def g_X7_digestLot : ym_G := (yX7_digestLot, cX7_digestLot, 7, (some FieldType.long))
def g_X7_digest : ym_G := (yX7_digest, cX7_digest, 5, (some FieldType.long))
def g_X7_end : ym_G := (yX7_end, cX7_end, 1, (some FieldType.long))
def g_X7_evenCents : ym_G := (yX7_evenCents, cX7_evenCents, 7, (some FieldType.long))
def g_X7_shareOut : ym_G := (yX7_shareOut, cX7_shareOut, 10, none)
def g_X7_finish : ym_G := (yX7_finish, cX7_finish, 10, none)
def g_X7_hammer : ym_G := (yX7_hammer, cX7_hammer, 5, (some FieldType.long))
def g_X7_init : ym_G := (yX7_init, cX7_init, 1, none)
def g_X7_join : ym_G := (yX7_join, cX7_join, 7, (some FieldType.long))
def g_X7_kindOf : ym_G := (yX7_kindOf, cX7_kindOf, 3, (some FieldType.int))
def g_X7_lacksSeller : ym_G := (yX7_lacksSeller, cX7_lacksSeller, 4, (some FieldType.boolean))
def g_X7_limit : ym_G := (yX7_limit, cX7_limit, 7, (some FieldType.long))
def g_X7_lot : ym_G := (yX7_lot, cX7_lot, 7, (some FieldType.long))
def g_X7_numbers : ym_G := (yX7_numbers, cX7_numbers, 2, (some FieldType.int))
def g_X7_open : ym_G := (yX7_open, cX7_open, 3, (some FieldType.long))
def g_X7_part : ym_G := (yX7_part, cX7_part, 4, none)
def g_X7_pay : ym_G := (yX7_pay, cX7_pay, 5, (some FieldType.long))
def g_X7_payOut : ym_G := (yX7_payOut, cX7_payOut, 5, (some FieldType.long))
def g_X7_premium : ym_G := (yX7_premium, cX7_premium, 4, (some FieldType.long))
def g_X7_reoffer : ym_G := (yX7_reoffer, cX7_reoffer, 5, (some FieldType.long))
def g_X7_seller : ym_G := (yX7_seller, cX7_seller, 4, (some FieldType.long))
def g_X7_settle : ym_G := (yX7_settle, cX7_settle, 11, (some FieldType.long))
def g_X7_stands : ym_G := (yX7_stands, cX7_stands, 3, (some FieldType.int))
def g_X7_state : ym_G := (yX7_state, cX7_state, 3, (some FieldType.int))
def g_X7_step : ym_G := (yX7_step, cX7_step, 5, (some FieldType.long))
def g_X7_sum : ym_G := (yX7_sum, cX7_sum, 3, (some FieldType.long))
def g_X7_sumAt : ym_G := (yX7_sumAt, cX7_sumAt, 3, (some FieldType.long))
def g_X7_take : ym_G := (yX7_take, cX7_take, 5, (some FieldType.long))
def g_X7_tax : ym_G := (yX7_tax, cX7_tax, 5, (some FieldType.long))
def g_X7_tick : ym_G := (yX7_tick, cX7_tick, 9, (some FieldType.long))
def g_X7_total : ym_G := (yX7_total, cX7_total, 5, (some FieldType.long))
def g_X7_trace : ym_G := (yX7_trace, cX7_trace, 2, (some FieldType.int))
def g_X7_tries : ym_G := (yX7_tries, cX7_tries, 1, (some FieldType.int))
def g_X7_undo : ym_G := (yX7_undo, cX7_undo, 1, (some FieldType.long))
def g_X7_why : ym_G := (yX7_why, cX7_why, 1, (some FieldType.int))
def g_X8_account : ym_G := (yX8_account, cX8_account, 2, (some FieldType.long))
def g_X8_newBidder : ym_G := (yX8_newBidder, cX8_newBidder, 4, (some FieldType.long))
def g_X8_isSum : ym_G := (yX8_isSum, cX8_isSum, 2, (some FieldType.boolean))
def g_X8_renew : ym_G := (yX8_renew, cX8_renew, 4, none)
def g_X8_newLot : ym_G := (yX8_newLot, cX8_newLot, 7, (some FieldType.long))
def g_X8_noLot : ym_G := (yX8_noLot, cX8_noLot, 2, (some FieldType.int))
def g_X8_noBidder : ym_G := (yX8_noBidder, cX8_noBidder, 2, (some FieldType.int))
def g_X8_newSeller : ym_G := (yX8_newSeller, cX8_newSeller, 4, (some FieldType.long))
def g_X8_isRate : ym_G := (yX8_isRate, cX8_isRate, 1, (some FieldType.boolean))
def g_X8_newCut : ym_G := (yX8_newCut, cX8_newCut, 4, (some FieldType.long))
def g_X8_newStep : ym_G := (yX8_newStep, cX8_newStep, 5, (some FieldType.long))
def g_X8_newBracket : ym_G := (yX8_newBracket, cX8_newBracket, 4, (some FieldType.long))
def g_X8_newTax : ym_G := (yX8_newTax, cX8_newTax, 4, (some FieldType.long))
def g_X8_isPlain : ym_G := (yX8_isPlain, cX8_isPlain, 2, (some FieldType.boolean))
def g_X8_isAhead : ym_G := (yX8_isAhead, cX8_isAhead, 6, (some FieldType.boolean))
def g_X8_after : ym_G := (yX8_after, cX8_after, 6, (some FieldType.long))
def g_X8_standing : ym_G := (yX8_standing, cX8_standing, 2, (some FieldType.int))
def g_X8_standingSum : ym_G := (yX8_standingSum, cX8_standingSum, 2, (some FieldType.long))
def g_X8_longer : ym_G := (yX8_longer, cX8_longer, 3, (some (FieldType.array FieldType.int)))
def g_X8_longer_ : ym_G := (yX8_longer_, cX8_longer_, 3, (some (FieldType.array FieldType.long)))
def g_X8_enter : ym_G := (yX8_enter, cX8_enter, 5, none)
def g_X8_askPapers : ym_G := (yX8_askPapers, cX8_askPapers, 12, none)
def g_X8_called : ym_G := (yX8_called, cX8_called, 2, (some FieldType.long))
def g_X8_notOpen : ym_G := (yX8_notOpen, cX8_notOpen, 2, (some FieldType.int))
def g_X8_hasEntry : ym_G := (yX8_hasEntry, cX8_hasEntry, 4, (some FieldType.boolean))
def g_X8_mark : ym_G := (yX8_mark, cX8_mark, 2, none)
def g_X8_askOf : ym_G := (yX8_askOf, cX8_askOf, 2, (some FieldType.long))
def g_X8_piecesOf : ym_G := (yX8_piecesOf, cX8_piecesOf, 2, (some FieldType.long))
def g_X8_limitOf : ym_G := (yX8_limitOf, cX8_limitOf, 4, (some FieldType.int))
def g_X8_mayAgent : ym_G := (yX8_mayAgent, cX8_mayAgent, 9, (some FieldType.boolean))
def g_X8_may : ym_G := (yX8_may, cX8_may, 5, (some FieldType.boolean))
def g_X8_number : ym_G := (yX8_number, cX8_number, 1, (some FieldType.int))
def g_X8_bidden : ym_G := (yX8_bidden, cX8_bidden, 6, (some FieldType.long))
def g_X8_written : ym_G := (yX8_written, cX8_written, 7, (some FieldType.long))
def g_X8_noLotOf : ym_G := (yX8_noLotOf, cX8_noLotOf, 3, (some FieldType.int))
def g_X8_opened : ym_G := (yX8_opened, cX8_opened, 6, (some FieldType.long))
def g_X8_ticked : ym_G := (yX8_ticked, cX8_ticked, 6, (some FieldType.long))
def g_X8_took : ym_G := (yX8_took, cX8_took, 3, (some FieldType.long))
def g_X8_soldOf : ym_G := (yX8_soldOf, cX8_soldOf, 2, (some FieldType.boolean))
def g_X8_even : ym_G := (yX8_even, cX8_even, 6, (some FieldType.long))
def g_X8_premiumOf : ym_G := (yX8_premiumOf, cX8_premiumOf, 8, (some FieldType.long))
def g_X8_sell : ym_G := (yX8_sell, cX8_sell, 15, (some FieldType.long))
def g_X8_hammered : ym_G := (yX8_hammered, cX8_hammered, 4, (some FieldType.long))
def g_X8_joined : ym_G := (yX8_joined, cX8_joined, 4, (some FieldType.long))
def g_X8_wouldBring : ym_G := (yX8_wouldBring, cX8_wouldBring, 2, (some FieldType.long))
def g_X8_settled : ym_G := (yX8_settled, cX8_settled, 21, (some FieldType.long))
def g_X8_offered : ym_G := (yX8_offered, cX8_offered, 5, (some FieldType.long))
def g_X8_paid : ym_G := (yX8_paid, cX8_paid, 4, (some FieldType.long))
def g_X8_paidOut : ym_G := (yX8_paidOut, cX8_paidOut, 4, (some FieldType.long))
def g_X8_asked : ym_G := (yX8_asked, cX8_asked, 2, (some FieldType.long))
def g_X8_entryAt : ym_G := (yX8_entryAt, cX8_entryAt, 6, (some FieldType.long))
def g_X8_opensBatch : ym_G := (yX8_opensBatch, cX8_opensBatch, 1, (some FieldType.long))
def g_X8_endsBatch : ym_G := (yX8_endsBatch, cX8_endsBatch, 1, (some FieldType.long))
def g_X8_undoes : ym_G := (yX8_undoes, cX8_undoes, 1, (some FieldType.long))
def g_X8_doneElse : ym_G := (yX8_doneElse, cX8_doneElse, 7, (some FieldType.long))
def g_X8_done : ym_G := (yX8_done, cX8_done, 9, (some FieldType.long))
def g_X8_back : ym_G := (yX8_back, cX8_back, 5, none)
def g_X8_note : ym_G := (yX8_note, cX8_note, 9, none)
def g_X8_act : ym_G := (yX8_act, cX8_act, 11, (some FieldType.long))
def g_X8_ask : ym_G := (yX8_ask, cX8_ask, 2, (some FieldType.long))
def g_X8_isBidder : ym_G := (yX8_isBidder, cX8_isBidder, 2, (some FieldType.boolean))
def g_X8_balance : ym_G := (yX8_balance, cX8_balance, 2, (some FieldType.long))
def g_X8_batch : ym_G := (yX8_batch, cX8_batch, 1, (some FieldType.long))
def g_X8_batches : ym_G := (yX8_batches, cX8_batches, 1, (some FieldType.int))
def g_X8_bid : ym_G := (yX8_bid, cX8_bid, 5, (some FieldType.long))
def g_X8_bidder : ym_G := (yX8_bidder, cX8_bidder, 4, (some FieldType.long))
def g_X8_bidderAt : ym_G := (yX8_bidderAt, cX8_bidderAt, 3, (some FieldType.long))
def g_X8_bidderKind : ym_G := (yX8_bidderKind, cX8_bidderKind, 2, (some FieldType.int))
def g_X8_call : ym_G := (yX8_call, cX8_call, 2, (some FieldType.long))
def g_X8_isLot : ym_G := (yX8_isLot, cX8_isLot, 2, (some FieldType.boolean))
def g_X8_cause : ym_G := (yX8_cause, cX8_cause, 3, (some FieldType.int))
def g_X8_cut : ym_G := (yX8_cut, cX8_cut, 3, (some FieldType.long))
def g_X8_digest : ym_G := (yX8_digest, cX8_digest, 4, (some FieldType.long))
def g_X8_end : ym_G := (yX8_end, cX8_end, 1, (some FieldType.long))
def g_X8_entries : ym_G := (yX8_entries, cX8_entries, 2, (some FieldType.int))
def g_X8_hammer : ym_G := (yX8_hammer, cX8_hammer, 2, (some FieldType.long))
def g_X8_init : ym_G := (yX8_init, cX8_init, 1, none)
def g_X8_join : ym_G := (yX8_join, cX8_join, 4, (some FieldType.long))
def g_X8_kindOf : ym_G := (yX8_kindOf, cX8_kindOf, 2, (some FieldType.int))
def g_X8_limit : ym_G := (yX8_limit, cX8_limit, 5, (some FieldType.long))
def g_X8_lot : ym_G := (yX8_lot, cX8_lot, 6, (some FieldType.long))
def g_X8_numbers : ym_G := (yX8_numbers, cX8_numbers, 2, (some FieldType.int))
def g_X8_open : ym_G := (yX8_open, cX8_open, 2, (some FieldType.long))
def g_X8_pay : ym_G := (yX8_pay, cX8_pay, 4, (some FieldType.long))
def g_X8_payOut : ym_G := (yX8_payOut, cX8_payOut, 4, (some FieldType.long))
def g_X8_premium : ym_G := (yX8_premium, cX8_premium, 4, (some FieldType.long))
def g_X8_reoffer : ym_G := (yX8_reoffer, cX8_reoffer, 4, (some FieldType.long))
def g_X8_seller : ym_G := (yX8_seller, cX8_seller, 3, (some FieldType.long))
def g_X8_settle : ym_G := (yX8_settle, cX8_settle, 2, (some FieldType.long))
def g_X8_stands : ym_G := (yX8_stands, cX8_stands, 2, (some FieldType.int))
def g_X8_state : ym_G := (yX8_state, cX8_state, 2, (some FieldType.int))
def g_X8_step : ym_G := (yX8_step, cX8_step, 5, (some FieldType.long))
def g_X8_sum : ym_G := (yX8_sum, cX8_sum, 2, (some FieldType.long))
def g_X8_sumAt : ym_G := (yX8_sumAt, cX8_sumAt, 3, (some FieldType.long))
def g_X8_take : ym_G := (yX8_take, cX8_take, 3, (some FieldType.long))
def g_X8_tax : ym_G := (yX8_tax, cX8_tax, 3, (some FieldType.long))
def g_X8_tick : ym_G := (yX8_tick, cX8_tick, 4, (some FieldType.long))
def g_X8_total : ym_G := (yX8_total, cX8_total, 4, (some FieldType.long))
def g_X8_trace : ym_G := (yX8_trace, cX8_trace, 2, (some FieldType.int))
def g_X8_tries : ym_G := (yX8_tries, cX8_tries, 1, (some FieldType.int))
def g_X8_undo : ym_G := (yX8_undo, cX8_undo, 1, (some FieldType.long))
def g_X8_why : ym_G := (yX8_why, cX8_why, 1, (some FieldType.int))
def g_L_law : ym_G := (x, code, maxLocals, ret)
set_option maxRecDepth 20000 in
theorem wd_0 : Cond.selects "AuctionRoom" ⟨"AuctionRoom", "startAct", "()V"⟩ ⟨"AuctionRoom", "startAct", "()V"⟩ ∈ ym_T := ym_ts (i := 0) rfl rfl
set_option maxRecDepth 20000 in
theorem wd_1 : Cond.selects "AuctionRoom" ⟨"AuctionRoom", "refuse", "(I)J"⟩ ⟨"AuctionRoom", "refuse", "(I)J"⟩ ∈ ym_T := ym_ts (i := 1) rfl rfl
set_option maxRecDepth 20000 in
theorem wd_2 : Cond.selects "AuctionRoom$Journal" ⟨"AuctionRoom$Journal", "takeBackTo", "(I)V"⟩ ⟨"AuctionRoom$Journal", "takeBackTo", "(I)V"⟩ ∈ ym_T := ym_ts (i := 2) rfl rfl
set_option maxRecDepth 20000 in
theorem wd_3 : Cond.selects "AuctionRoom" ⟨"AuctionRoom", "biddersMade", "()I"⟩ ⟨"AuctionRoom", "biddersMade", "()I"⟩ ∈ ym_T := ym_ts (i := 3) rfl rfl
set_option maxRecDepth 20000 in
theorem wd_4 : Cond.selects "AuctionRoom" ⟨"AuctionRoom", "lotsMade", "()I"⟩ ⟨"AuctionRoom", "lotsMade", "()I"⟩ ∈ ym_T := ym_ts (i := 4) rfl rfl
set_option maxRecDepth 20000 in
theorem wd_5 : Cond.selects "AuctionRoom" ⟨"AuctionRoom", "lotAt", "(I)LAuctionRoom$Lot;"⟩ ⟨"AuctionRoom", "lotAt", "(I)LAuctionRoom$Lot;"⟩ ∈ ym_T := ym_ts (i := 5) rfl rfl
set_option maxRecDepth 20000 in
theorem wd_6 : Cond.selects "AuctionRoom" ⟨"AuctionRoom", "bidderWith", "(I)LAuctionRoom$Bidder;"⟩ ⟨"AuctionRoom", "bidderWith", "(I)LAuctionRoom$Bidder;"⟩ ∈ ym_T := ym_ts (i := 6) rfl rfl
set_option maxRecDepth 20000 in
theorem wd_7 : Cond.selects "AuctionRoom" ⟨"AuctionRoom", "addTableRow", "(LAuctionRoom$Table;JJ)J"⟩ ⟨"AuctionRoom", "addTableRow", "(LAuctionRoom$Table;JJ)J"⟩ ∈ ym_T := ym_ts (i := 7) rfl rfl
set_option maxRecDepth 20000 in
theorem wd_8 : Cond.selects "AuctionRoom" ⟨"AuctionRoom", "askPapers", "(LAuctionRoom$Lot;)V"⟩ ⟨"AuctionRoom", "askPapers", "(LAuctionRoom$Lot;)V"⟩ ∈ ym_T := ym_ts (i := 8) rfl rfl
set_option maxRecDepth 20000 in
theorem wd_9 : Cond.selects "AuctionRoom$Lot" ⟨"AuctionRoom$Lot", "goesAhead", "(II)Z"⟩ ⟨"AuctionRoom$Lot", "goesAhead", "(II)Z"⟩ ∈ ym_T := ym_ts (i := 9) rfl rfl
set_option maxRecDepth 20000 in
theorem wd_10 : Cond.selects "AuctionRoom$Bodies" ⟨"AuctionRoom$Bodies", "run", "(I)V"⟩ ⟨"AuctionRoom$Bodies", "run", "(I)V"⟩ ∈ ym_T := ym_ts (i := 10) rfl rfl
set_option maxRecDepth 20000 in
theorem wd_11 : Cond.selects "AuctionRoom$Bodies" ⟨"AuctionRoom$Bodies", "written", "(I[LAuctionRoom$Lot;I)J"⟩ ⟨"AuctionRoom$Bodies", "written", "(I[LAuctionRoom$Lot;I)J"⟩ ∈ ym_T := ym_ts (i := 11) rfl rfl
set_option maxRecDepth 20000 in
theorem wd_12 : Cond.selects "AuctionRoom" ⟨"AuctionRoom", "readEntry", "(III)J"⟩ ⟨"AuctionRoom", "readEntry", "(III)J"⟩ ∈ ym_T := ym_ts (i := 12) rfl rfl
set_option maxRecDepth 20000 in
theorem wd_13 : Cond.selects "AuctionRoom$Bodies" ⟨"AuctionRoom$Bodies", "isSold", "(LAuctionRoom$Lot;)Z"⟩ ⟨"AuctionRoom$Bodies", "isSold", "(LAuctionRoom$Lot;)Z"⟩ ∈ ym_T := ym_ts (i := 13) rfl rfl
set_option maxRecDepth 20000 in
theorem wd_14 : Cond.selects "AuctionRoom" ⟨"AuctionRoom", "finish", "(LAuctionRoom$Lot;J)V"⟩ ⟨"AuctionRoom", "finish", "(LAuctionRoom$Lot;J)V"⟩ ∈ ym_T := ym_ts (i := 14) rfl rfl
set_option maxRecDepth 20000 in
theorem wd_15 : Cond.selects "AuctionRoom" ⟨"AuctionRoom", "bookToBidder", "(IJ)V"⟩ ⟨"AuctionRoom", "bookToBidder", "(IJ)V"⟩ ∈ ym_T := ym_ts (i := 15) rfl rfl
set_option maxRecDepth 20000 in
theorem wd_16 : Cond.selects "AuctionRoom" ⟨"AuctionRoom", "bookTo", "(IJ)V"⟩ ⟨"AuctionRoom", "bookTo", "(IJ)V"⟩ ∈ ym_T := ym_ts (i := 16) rfl rfl
set_option maxRecDepth 20000 in
theorem wd_17 : Cond.selects "AuctionRoom" ⟨"AuctionRoom", "shareOut", "(LAuctionRoom$Sheet;J)V"⟩ ⟨"AuctionRoom", "shareOut", "(LAuctionRoom$Sheet;J)V"⟩ ∈ ym_T := ym_ts (i := 17) rfl rfl
set_option maxRecDepth 20000 in
theorem wd_18 : Cond.selects "AuctionRoom" ⟨"AuctionRoom", "lacksSeller", "(LAuctionRoom$Lot;J)Z"⟩ ⟨"AuctionRoom", "lacksSeller", "(LAuctionRoom$Lot;J)Z"⟩ ∈ ym_T := ym_ts (i := 18) rfl rfl
set_option maxRecDepth 20000 in
theorem wd_19 : Cond.selects "AuctionRoom" ⟨"AuctionRoom", "part", "(LAuctionRoom$Lot;)V"⟩ ⟨"AuctionRoom", "part", "(LAuctionRoom$Lot;)V"⟩ ∈ ym_T := ym_ts (i := 19) rfl rfl
set_option maxRecDepth 20000 in
theorem wd_20 : Cond.selects "AuctionRoom" ⟨"AuctionRoom", "digestLot", "(JI)J"⟩ ⟨"AuctionRoom", "digestLot", "(JI)J"⟩ ∈ ym_T := ym_ts (i := 20) rfl rfl
set_option maxRecDepth 20000 in
theorem wd_21 : Cond.selects "AuctionRoomModel" ⟨"AuctionRoomModel", "act", "(IIIIJJ)J"⟩ ⟨"AuctionRoomModel", "act", "(IIIIJJ)J"⟩ ∈ ym_T := ym_ts (i := 21) rfl rfl
set_option maxRecDepth 20000 in
theorem wd_22 : Cond.selects "AuctionRoomModel" ⟨"AuctionRoomModel", "done", "(IIIIJJ)J"⟩ ⟨"AuctionRoomModel", "done", "(IIIIJJ)J"⟩ ∈ ym_T := ym_ts (i := 22) rfl rfl
set_option maxRecDepth 20000 in
theorem wd_23 : Cond.selects "AuctionRoomModel" ⟨"AuctionRoomModel", "newBidder", "(IJ)J"⟩ ⟨"AuctionRoomModel", "newBidder", "(IJ)J"⟩ ∈ ym_T := ym_ts (i := 23) rfl rfl
set_option maxRecDepth 20000 in
theorem wd_24 : Cond.selects "AuctionRoomModel" ⟨"AuctionRoomModel", "newLot", "(IJJ)J"⟩ ⟨"AuctionRoomModel", "newLot", "(IJJ)J"⟩ ∈ ym_T := ym_ts (i := 24) rfl rfl
set_option maxRecDepth 20000 in
theorem wd_25 : Cond.selects "AuctionRoomModel" ⟨"AuctionRoomModel", "renew", "(IJ)V"⟩ ⟨"AuctionRoomModel", "renew", "(IJ)V"⟩ ∈ ym_T := ym_ts (i := 25) rfl rfl
set_option maxRecDepth 20000 in
theorem wd_26 : Cond.selects "AuctionRoomModel" ⟨"AuctionRoomModel", "newSeller", "(II)J"⟩ ⟨"AuctionRoomModel", "newSeller", "(II)J"⟩ ∈ ym_T := ym_ts (i := 26) rfl rfl
set_option maxRecDepth 20000 in
theorem wd_27 : Cond.selects "AuctionRoomModel" ⟨"AuctionRoomModel", "noLot", "(I)I"⟩ ⟨"AuctionRoomModel", "noLot", "(I)I"⟩ ∈ ym_T := ym_ts (i := 27) rfl rfl
set_option maxRecDepth 20000 in
theorem wd_28 : Cond.selects "AuctionRoomModel" ⟨"AuctionRoomModel", "noBidder", "(I)I"⟩ ⟨"AuctionRoomModel", "noBidder", "(I)I"⟩ ∈ ym_T := ym_ts (i := 28) rfl rfl
set_option maxRecDepth 20000 in
theorem wd_29 : Cond.selects "AuctionRoomModel" ⟨"AuctionRoomModel", "newCut", "(II)J"⟩ ⟨"AuctionRoomModel", "newCut", "(II)J"⟩ ∈ ym_T := ym_ts (i := 29) rfl rfl
set_option maxRecDepth 20000 in
theorem wd_30 : Cond.selects "AuctionRoomModel" ⟨"AuctionRoomModel", "newStep", "(JJ)J"⟩ ⟨"AuctionRoomModel", "newStep", "(JJ)J"⟩ ∈ ym_T := ym_ts (i := 30) rfl rfl
set_option maxRecDepth 20000 in
theorem wd_31 : Cond.selects "AuctionRoomModel" ⟨"AuctionRoomModel", "newBracket", "(JI)J"⟩ ⟨"AuctionRoomModel", "newBracket", "(JI)J"⟩ ∈ ym_T := ym_ts (i := 31) rfl rfl
set_option maxRecDepth 20000 in
theorem wd_32 : Cond.selects "AuctionRoomModel" ⟨"AuctionRoomModel", "newTax", "(II)J"⟩ ⟨"AuctionRoomModel", "newTax", "(II)J"⟩ ∈ ym_T := ym_ts (i := 32) rfl rfl
set_option maxRecDepth 20000 in
theorem wd_33 : Cond.selects "AuctionRoomModel" ⟨"AuctionRoomModel", "called", "(I)J"⟩ ⟨"AuctionRoomModel", "called", "(I)J"⟩ ∈ ym_T := ym_ts (i := 33) rfl rfl
set_option maxRecDepth 20000 in
theorem wd_34 : Cond.selects "AuctionRoomModel" ⟨"AuctionRoomModel", "askPapers", "(I)V"⟩ ⟨"AuctionRoomModel", "askPapers", "(I)V"⟩ ∈ ym_T := ym_ts (i := 34) rfl rfl
set_option maxRecDepth 20000 in
theorem wd_35 : Cond.selects "AuctionRoomModel" ⟨"AuctionRoomModel", "isPlain", "(I)Z"⟩ ⟨"AuctionRoomModel", "isPlain", "(I)Z"⟩ ∈ ym_T := ym_ts (i := 35) rfl rfl
set_option maxRecDepth 20000 in
theorem wd_36 : Cond.selects "AuctionRoomModel" ⟨"AuctionRoomModel", "after", "(J)J"⟩ ⟨"AuctionRoomModel", "after", "(J)J"⟩ ∈ ym_T := ym_ts (i := 36) rfl rfl
set_option maxRecDepth 20000 in
theorem wd_37 : Cond.selects "AuctionRoomModel" ⟨"AuctionRoomModel", "standing", "(I)I"⟩ ⟨"AuctionRoomModel", "standing", "(I)I"⟩ ∈ ym_T := ym_ts (i := 37) rfl rfl
set_option maxRecDepth 20000 in
theorem wd_38 : Cond.selects "AuctionRoomModel" ⟨"AuctionRoomModel", "standingSum", "(I)J"⟩ ⟨"AuctionRoomModel", "standingSum", "(I)J"⟩ ∈ ym_T := ym_ts (i := 38) rfl rfl
set_option maxRecDepth 20000 in
theorem wd_39 : Cond.selects "AuctionRoomModel" ⟨"AuctionRoomModel", "enter", "(IIJ)V"⟩ ⟨"AuctionRoomModel", "enter", "(IIJ)V"⟩ ∈ ym_T := ym_ts (i := 39) rfl rfl
set_option maxRecDepth 20000 in
theorem wd_40 : Cond.selects "AuctionRoomModel" ⟨"AuctionRoomModel", "bidden", "(IIJ)J"⟩ ⟨"AuctionRoomModel", "bidden", "(IIJ)J"⟩ ∈ ym_T := ym_ts (i := 40) rfl rfl
set_option maxRecDepth 20000 in
theorem wd_41 : Cond.selects "AuctionRoomModel" ⟨"AuctionRoomModel", "notOpen", "(I)I"⟩ ⟨"AuctionRoomModel", "notOpen", "(I)I"⟩ ∈ ym_T := ym_ts (i := 41) rfl rfl
set_option maxRecDepth 20000 in
theorem wd_42 : Cond.selects "AuctionRoomModel" ⟨"AuctionRoomModel", "hasEntry", "(II)Z"⟩ ⟨"AuctionRoomModel", "hasEntry", "(II)Z"⟩ ∈ ym_T := ym_ts (i := 42) rfl rfl
set_option maxRecDepth 20000 in
theorem wd_43 : Cond.selects "AuctionRoomModel" ⟨"AuctionRoomModel", "askOf", "(I)J"⟩ ⟨"AuctionRoomModel", "askOf", "(I)J"⟩ ∈ ym_T := ym_ts (i := 43) rfl rfl
set_option maxRecDepth 20000 in
theorem wd_44 : Cond.selects "AuctionRoomModel" ⟨"AuctionRoomModel", "mark", "(I)V"⟩ ⟨"AuctionRoomModel", "mark", "(I)V"⟩ ∈ ym_T := ym_ts (i := 44) rfl rfl
set_option maxRecDepth 20000 in
theorem wd_45 : Cond.selects "AuctionRoomModel" ⟨"AuctionRoomModel", "may", "(IIJ)Z"⟩ ⟨"AuctionRoomModel", "may", "(IIJ)Z"⟩ ∈ ym_T := ym_ts (i := 45) rfl rfl
set_option maxRecDepth 20000 in
theorem wd_46 : Cond.selects "AuctionRoomModel" ⟨"AuctionRoomModel", "mayAgent", "(IIJ)Z"⟩ ⟨"AuctionRoomModel", "mayAgent", "(IIJ)Z"⟩ ∈ ym_T := ym_ts (i := 46) rfl rfl
set_option maxRecDepth 20000 in
theorem wd_47 : Cond.selects "AuctionRoomModel" ⟨"AuctionRoomModel", "piecesOf", "(I)J"⟩ ⟨"AuctionRoomModel", "piecesOf", "(I)J"⟩ ∈ ym_T := ym_ts (i := 47) rfl rfl
set_option maxRecDepth 20000 in
theorem wd_48 : Cond.selects "AuctionRoomModel" ⟨"AuctionRoomModel", "limitOf", "(II)I"⟩ ⟨"AuctionRoomModel", "limitOf", "(II)I"⟩ ∈ ym_T := ym_ts (i := 48) rfl rfl
set_option maxRecDepth 20000 in
theorem wd_49 : Cond.selects "AuctionRoomModel" ⟨"AuctionRoomModel", "number", "()I"⟩ ⟨"AuctionRoomModel", "number", "()I"⟩ ∈ ym_T := ym_ts (i := 49) rfl rfl
set_option maxRecDepth 20000 in
theorem wd_50 : Cond.selects "AuctionRoomModel" ⟨"AuctionRoomModel", "written", "(IIJ)J"⟩ ⟨"AuctionRoomModel", "written", "(IIJ)J"⟩ ∈ ym_T := ym_ts (i := 50) rfl rfl
set_option maxRecDepth 20000 in
theorem wd_51 : Cond.selects "AuctionRoomModel" ⟨"AuctionRoomModel", "opened", "(I)J"⟩ ⟨"AuctionRoomModel", "opened", "(I)J"⟩ ∈ ym_T := ym_ts (i := 51) rfl rfl
set_option maxRecDepth 20000 in
theorem wd_52 : Cond.selects "AuctionRoomModel" ⟨"AuctionRoomModel", "noLotOf", "(II)I"⟩ ⟨"AuctionRoomModel", "noLotOf", "(II)I"⟩ ∈ ym_T := ym_ts (i := 52) rfl rfl
set_option maxRecDepth 20000 in
theorem wd_53 : Cond.selects "AuctionRoomModel" ⟨"AuctionRoomModel", "ticked", "(IJ)J"⟩ ⟨"AuctionRoomModel", "ticked", "(IJ)J"⟩ ∈ ym_T := ym_ts (i := 53) rfl rfl
set_option maxRecDepth 20000 in
theorem wd_54 : Cond.selects "AuctionRoomModel" ⟨"AuctionRoomModel", "took", "(II)J"⟩ ⟨"AuctionRoomModel", "took", "(II)J"⟩ ∈ ym_T := ym_ts (i := 54) rfl rfl
set_option maxRecDepth 20000 in
theorem wd_55 : Cond.selects "AuctionRoomModel" ⟨"AuctionRoomModel", "doneElse", "(IIIIJ)J"⟩ ⟨"AuctionRoomModel", "doneElse", "(IIIIJ)J"⟩ ∈ ym_T := ym_ts (i := 55) rfl rfl
set_option maxRecDepth 20000 in
theorem wd_56 : Cond.selects "AuctionRoomModel" ⟨"AuctionRoomModel", "hammered", "(I)J"⟩ ⟨"AuctionRoomModel", "hammered", "(I)J"⟩ ∈ ym_T := ym_ts (i := 56) rfl rfl
set_option maxRecDepth 20000 in
theorem wd_57 : Cond.selects "AuctionRoomModel" ⟨"AuctionRoomModel", "soldOf", "(I)Z"⟩ ⟨"AuctionRoomModel", "soldOf", "(I)Z"⟩ ∈ ym_T := ym_ts (i := 57) rfl rfl
set_option maxRecDepth 20000 in
theorem wd_58 : Cond.selects "AuctionRoomModel" ⟨"AuctionRoomModel", "sell", "(IJ)J"⟩ ⟨"AuctionRoomModel", "sell", "(IJ)J"⟩ ∈ ym_T := ym_ts (i := 58) rfl rfl
set_option maxRecDepth 20000 in
theorem wd_59 : Cond.selects "AuctionRoomModel" ⟨"AuctionRoomModel", "premiumOf", "(J)J"⟩ ⟨"AuctionRoomModel", "premiumOf", "(J)J"⟩ ∈ ym_T := ym_ts (i := 59) rfl rfl
set_option maxRecDepth 20000 in
theorem wd_60 : Cond.selects "AuctionRoomModel" ⟨"AuctionRoomModel", "joined", "(III)J"⟩ ⟨"AuctionRoomModel", "joined", "(III)J"⟩ ∈ ym_T := ym_ts (i := 60) rfl rfl
set_option maxRecDepth 20000 in
theorem wd_61 : Cond.selects "AuctionRoomModel" ⟨"AuctionRoomModel", "settled", "(I)J"⟩ ⟨"AuctionRoomModel", "settled", "(I)J"⟩ ∈ ym_T := ym_ts (i := 61) rfl rfl
set_option maxRecDepth 20000 in
theorem wd_62 : Cond.selects "AuctionRoomModel" ⟨"AuctionRoomModel", "wouldBring", "(I)J"⟩ ⟨"AuctionRoomModel", "wouldBring", "(I)J"⟩ ∈ ym_T := ym_ts (i := 62) rfl rfl
set_option maxRecDepth 20000 in
theorem wd_63 : Cond.selects "AuctionRoomModel" ⟨"AuctionRoomModel", "offered", "(IJ)J"⟩ ⟨"AuctionRoomModel", "offered", "(IJ)J"⟩ ∈ ym_T := ym_ts (i := 63) rfl rfl
set_option maxRecDepth 20000 in
theorem wd_64 : Cond.selects "AuctionRoomModel" ⟨"AuctionRoomModel", "paid", "(IJ)J"⟩ ⟨"AuctionRoomModel", "paid", "(IJ)J"⟩ ∈ ym_T := ym_ts (i := 64) rfl rfl
set_option maxRecDepth 20000 in
theorem wd_65 : Cond.selects "AuctionRoomModel" ⟨"AuctionRoomModel", "paidOut", "(IJ)J"⟩ ⟨"AuctionRoomModel", "paidOut", "(IJ)J"⟩ ∈ ym_T := ym_ts (i := 65) rfl rfl
set_option maxRecDepth 20000 in
theorem wd_66 : Cond.selects "AuctionRoomModel" ⟨"AuctionRoomModel", "asked", "(I)J"⟩ ⟨"AuctionRoomModel", "asked", "(I)J"⟩ ∈ ym_T := ym_ts (i := 66) rfl rfl
set_option maxRecDepth 20000 in
theorem wd_67 : Cond.selects "AuctionRoomModel" ⟨"AuctionRoomModel", "entryAt", "(III)J"⟩ ⟨"AuctionRoomModel", "entryAt", "(III)J"⟩ ∈ ym_T := ym_ts (i := 67) rfl rfl
set_option maxRecDepth 20000 in
theorem wd_68 : Cond.selects "AuctionRoomModel" ⟨"AuctionRoomModel", "opensBatch", "()J"⟩ ⟨"AuctionRoomModel", "opensBatch", "()J"⟩ ∈ ym_T := ym_ts (i := 68) rfl rfl
set_option maxRecDepth 20000 in
theorem wd_69 : Cond.selects "AuctionRoomModel" ⟨"AuctionRoomModel", "endsBatch", "()J"⟩ ⟨"AuctionRoomModel", "endsBatch", "()J"⟩ ∈ ym_T := ym_ts (i := 69) rfl rfl
set_option maxRecDepth 20000 in
theorem wd_70 : Cond.selects "AuctionRoomModel" ⟨"AuctionRoomModel", "undoes", "()J"⟩ ⟨"AuctionRoomModel", "undoes", "()J"⟩ ∈ ym_T := ym_ts (i := 70) rfl rfl
set_option maxRecDepth 20000 in
theorem wd_71 : Cond.selects "AuctionRoomModel" ⟨"AuctionRoomModel", "back", "(I)V"⟩ ⟨"AuctionRoomModel", "back", "(I)V"⟩ ∈ ym_T := ym_ts (i := 71) rfl rfl
set_option maxRecDepth 20000 in
theorem wd_72 : Cond.selects "AuctionRoomModel" ⟨"AuctionRoomModel", "note", "(IIIIJJ)V"⟩ ⟨"AuctionRoomModel", "note", "(IIIIJJ)V"⟩ ∈ ym_T := ym_ts (i := 72) rfl rfl
set_option maxRecDepth 20000 in
theorem wd_73 : Cond.selects "AuctionRoomModel" ⟨"AuctionRoomModel", "isLot", "(I)Z"⟩ ⟨"AuctionRoomModel", "isLot", "(I)Z"⟩ ∈ ym_T := ym_ts (i := 73) rfl rfl
set_option maxRecDepth 20000 in
theorem wd_74 : Cond.selects "AuctionRoomModel" ⟨"AuctionRoomModel", "isBidder", "(I)Z"⟩ ⟨"AuctionRoomModel", "isBidder", "(I)Z"⟩ ∈ ym_T := ym_ts (i := 74) rfl rfl
set_option maxRecDepth 20000 in
theorem wd_76 : Cond.initialized "AuctionRoom" ∈ ym_T := ym_tg (k := 0) (i := 1) rfl rfl
set_option maxRecDepth 20000 in
theorem wd_77 : Cond.initialized "AuctionRoom$Journal" ∈ ym_T := ym_tg (k := 0) (i := 2) rfl rfl
set_option maxRecDepth 20000 in
theorem wd_78 : Cond.initialized "AuctionRoom$Cells" ∈ ym_T := ym_tg (k := 0) (i := 3) rfl rfl
set_option maxRecDepth 20000 in
theorem wd_79 : Cond.initialized "java/lang/Math" ∈ ym_T := ym_tg (k := 0) (i := 4) rfl rfl
set_option maxRecDepth 20000 in
theorem wd_80 : Cond.initialized "AuctionRoom$Table" ∈ ym_T := ym_tg (k := 0) (i := 5) rfl rfl
set_option maxRecDepth 20000 in
theorem wd_81 : Cond.initialized "AuctionRoom$Sheet" ∈ ym_T := ym_tg (k := 0) (i := 6) rfl rfl
set_option maxRecDepth 20000 in
theorem wd_82 : Cond.initialized "AuctionRoom$Bodies" ∈ ym_T := ym_tg (k := 0) (i := 7) rfl rfl
set_option maxRecDepth 20000 in
theorem wd_83 : Cond.initialized "AuctionRoomModel" ∈ ym_T := ym_tg (k := 0) (i := 8) rfl rfl
set_option maxRecDepth 20000 in
theorem wd_84 : Cond.initialized "AuctionRoom$Bidder" ∈ ym_T := ym_tg (k := 0) (i := 9) rfl rfl
set_option maxRecDepth 20000 in
theorem wd_85 : Cond.initialized "java/util/Arrays" ∈ ym_T := ym_tg (k := 0) (i := 10) rfl rfl
set_option maxRecDepth 20000 in
theorem wd_86 : Cond.initialized "java/lang/System" ∈ ym_T := ym_tg (k := 0) (i := 11) rfl rfl
set_option maxRecDepth 20000 in
theorem wd_87 : Cond.initialized "AuctionRoom$Lot" ∈ ym_T := ym_tg (k := 0) (i := 12) rfl rfl
set_option maxRecDepth 20000 in
theorem wd_88 : Cond.classLink "AuctionRoomLaw" 7 "AuctionRoom" ∈ ym_T := ym_tg (k := 0) (i := 13) rfl rfl
set_option maxRecDepth 20000 in
theorem wd_89 : Cond.instantiable "AuctionRoom" 10 ∈ ym_T := ym_tg (k := 0) (i := 14) rfl rfl
set_option maxRecDepth 20000 in
theorem wd_90 : Cond.methodLink "AuctionRoomLaw" 9 ⟨"AuctionRoom", "<init>", "()V"⟩ ∈ ym_T := ym_tg (k := 0) (i := 15) rfl rfl
set_option maxRecDepth 20000 in
theorem wd_91 : Cond.instanceMethod ⟨"AuctionRoom", "<init>", "()V"⟩ ∈ ym_T := ym_tg (k := 0) (i := 16) rfl rfl
set_option maxRecDepth 20000 in
theorem wd_92 : Cond.code yX7_init cX7_init 1 none ∈ ym_T := ym_tg (k := 0) (i := 17) rfl rfl
set_option maxRecDepth 20000 in
theorem wd_93 : Cond.methodLink "AuctionRoom" 3 ⟨"java/lang/Object", "<init>", "()V"⟩ ∈ ym_T := ym_tg (k := 0) (i := 18) rfl rfl
set_option maxRecDepth 20000 in
theorem wd_94 : Cond.instanceMethod objectInit ∈ ym_T := ym_tg (k := 0) (i := 19) rfl rfl
set_option maxRecDepth 20000 in
theorem wd_95 : Cond.code objectInit ⟨#[0xb1]⟩ 1 none ∈ ym_T := ym_tg (k := 0) (i := 20) rfl rfl
set_option maxRecDepth 20000 in
theorem wd_96 : Cond.classLink "AuctionRoom" 9 "AuctionRoom$Journal" ∈ ym_T := ym_tg (k := 0) (i := 21) rfl rfl
set_option maxRecDepth 20000 in
theorem wd_97 : Cond.instantiable "AuctionRoom$Journal" 6 ∈ ym_T := ym_tg (k := 0) (i := 22) rfl rfl
set_option maxRecDepth 20000 in
theorem wd_98 : Cond.methodLinkNest "AuctionRoom" 11 ⟨"AuctionRoom$Journal", "<init>", "()V"⟩ "AuctionRoom" ∈ ym_N := ym_tn (k := 0) (i := 23) rfl rfl
set_option maxRecDepth 20000 in
theorem wd_99 : Cond.instanceMethod ⟨"AuctionRoom$Journal", "<init>", "()V"⟩ ∈ ym_T := ym_tg (k := 0) (i := 24) rfl rfl
set_option maxRecDepth 20000 in
theorem wd_100 : Cond.code yX3_init cX3_init 1 none ∈ ym_T := ym_tg (k := 0) (i := 25) rfl rfl
set_option maxRecDepth 20000 in
theorem wd_101 : Cond.methodLink "AuctionRoom$Journal" 3 ⟨"java/lang/Object", "<init>", "()V"⟩ ∈ ym_T := ym_tg (k := 0) (i := 26) rfl rfl
set_option maxRecDepth 20000 in
theorem wd_102 : Cond.classLink "AuctionRoom$Journal" 9 "AuctionRoom$Cells" ∈ ym_T := ym_tg (k := 0) (i := 27) rfl rfl
set_option maxRecDepth 20000 in
theorem wd_103 : Cond.arrayOver (.object "AuctionRoom$Cells") ∈ ym_N := ym_tn (k := 0) (i := 28) rfl rfl
set_option maxRecDepth 20000 in
theorem wd_104 : Cond.fieldLink "AuctionRoom$Journal" 11 "AuctionRoom$Journal" "whose" "[LAuctionRoom$Cells;" ∈ ym_T := ym_tg (k := 0) (i := 29) rfl rfl
set_option maxRecDepth 20000 in
theorem wd_105 : Cond.fieldLink "AuctionRoom$Journal" 17 "AuctionRoom$Journal" "where" "[I" ∈ ym_T := ym_tg (k := 0) (i := 30) rfl rfl
set_option maxRecDepth 20000 in
theorem wd_106 : Cond.fieldLink "AuctionRoom$Journal" 21 "AuctionRoom$Journal" "before" "[J" ∈ ym_T := ym_tg (k := 0) (i := 31) rfl rfl
set_option maxRecDepth 20000 in
theorem wd_107 : Cond.fieldLink "AuctionRoom$Journal" 32 "AuctionRoom$Journal" "length" "I" ∈ ym_T := ym_tg (k := 0) (i := 32) rfl rfl
set_option maxRecDepth 20000 in
theorem wd_108 : Cond.fieldLink "AuctionRoom$Journal" 25 "AuctionRoom$Journal" "marks" "[I" ∈ ym_T := ym_tg (k := 0) (i := 33) rfl rfl
set_option maxRecDepth 20000 in
theorem wd_109 : Cond.fieldLink "AuctionRoom$Journal" 28 "AuctionRoom$Journal" "depth" "I" ∈ ym_T := ym_tg (k := 0) (i := 34) rfl rfl
set_option maxRecDepth 20000 in
theorem wd_123 : Cond.arrayClass .int ∈ ym_T := ym_tg (k := 0) (i := 48) rfl rfl
set_option maxRecDepth 20000 in
theorem wd_124 : Cond.arrayClass .long ∈ ym_T := ym_tg (k := 0) (i := 49) rfl rfl
set_option maxRecDepth 20000 in
theorem wd_125 : Cond.classLink "AuctionRoom" 16 "AuctionRoom$Cells" ∈ ym_T := ym_tg (k := 0) (i := 50) rfl rfl
set_option maxRecDepth 20000 in
theorem wd_126 : Cond.instantiable "AuctionRoom$Cells" 2 ∈ ym_T := ym_tg (k := 0) (i := 51) rfl rfl
set_option maxRecDepth 20000 in
theorem wd_127 : Cond.methodLink "AuctionRoom" 18 ⟨"AuctionRoom$Cells", "<init>", "(LAuctionRoom$Journal;I)V"⟩ ∈ ym_T := ym_tg (k := 0) (i := 52) rfl rfl
set_option maxRecDepth 20000 in
theorem wd_128 : Cond.instanceMethod ⟨"AuctionRoom$Cells", "<init>", "(LAuctionRoom$Journal;I)V"⟩ ∈ ym_T := ym_tg (k := 0) (i := 53) rfl rfl
set_option maxRecDepth 20000 in
theorem wd_129 : Cond.code yX2_init cX2_init 3 none ∈ ym_T := ym_tg (k := 0) (i := 54) rfl rfl
set_option maxRecDepth 20000 in
theorem wd_130 : Cond.methodLink "AuctionRoom$Cells" 3 ⟨"java/lang/Object", "<init>", "()V"⟩ ∈ ym_T := ym_tg (k := 0) (i := 55) rfl rfl
set_option maxRecDepth 20000 in
theorem wd_131 : Cond.methodLink "AuctionRoom$Cells" 15 ⟨"java/lang/Math", "max", "(II)I"⟩ ∈ ym_T := ym_tg (k := 0) (i := 56) rfl rfl
set_option maxRecDepth 20000 in
theorem wd_132 : Cond.static ⟨"java/lang/Math", "max", "(II)I"⟩ ∈ ym_T := ym_tg (k := 0) (i := 57) rfl rfl
set_option maxRecDepth 20000 in
theorem wd_133 : Cond.code yJ9_max_7cf53 cJ9_max_7cf53 2 (some FieldType.int) ∈ ym_T := ym_tg (k := 0) (i := 58) rfl rfl
set_option maxRecDepth 20000 in
theorem wd_134 : Cond.fieldLink "AuctionRoom$Cells" 9 "AuctionRoom$Cells" "journal" "LAuctionRoom$Journal;" ∈ ym_T := ym_tg (k := 0) (i := 59) rfl rfl
set_option maxRecDepth 20000 in
theorem wd_135 : Cond.fieldLink "AuctionRoom$Cells" 21 "AuctionRoom$Cells" "values" "[J" ∈ ym_T := ym_tg (k := 0) (i := 60) rfl rfl
set_option maxRecDepth 20000 in
theorem wd_141 : Cond.classLink "AuctionRoom" 25 "AuctionRoom$Table" ∈ ym_T := ym_tg (k := 0) (i := 66) rfl rfl
set_option maxRecDepth 20000 in
theorem wd_142 : Cond.instantiable "AuctionRoom$Table" 1 ∈ ym_T := ym_tg (k := 0) (i := 67) rfl rfl
set_option maxRecDepth 20000 in
theorem wd_143 : Cond.methodLink "AuctionRoom" 27 ⟨"AuctionRoom$Table", "<init>", "(LAuctionRoom$Journal;)V"⟩ ∈ ym_T := ym_tg (k := 0) (i := 68) rfl rfl
set_option maxRecDepth 20000 in
theorem wd_144 : Cond.instanceMethod ⟨"AuctionRoom$Table", "<init>", "(LAuctionRoom$Journal;)V"⟩ ∈ ym_T := ym_tg (k := 0) (i := 69) rfl rfl
set_option maxRecDepth 20000 in
theorem wd_145 : Cond.code yX6_init cX6_init 2 none ∈ ym_T := ym_tg (k := 0) (i := 70) rfl rfl
set_option maxRecDepth 20000 in
theorem wd_146 : Cond.methodLink "AuctionRoom$Table" 1 ⟨"java/lang/Object", "<init>", "()V"⟩ ∈ ym_T := ym_tg (k := 0) (i := 71) rfl rfl
set_option maxRecDepth 20000 in
theorem wd_147 : Cond.classLink "AuctionRoom$Table" 7 "AuctionRoom$Sheet" ∈ ym_T := ym_tg (k := 0) (i := 72) rfl rfl
set_option maxRecDepth 20000 in
theorem wd_148 : Cond.instantiable "AuctionRoom$Sheet" 2 ∈ ym_T := ym_tg (k := 0) (i := 73) rfl rfl
set_option maxRecDepth 20000 in
theorem wd_149 : Cond.methodLink "AuctionRoom$Table" 9 ⟨"AuctionRoom$Sheet", "<init>", "(LAuctionRoom$Journal;I)V"⟩ ∈ ym_T := ym_tg (k := 0) (i := 74) rfl rfl
set_option maxRecDepth 20000 in
theorem wd_150 : Cond.instanceMethod ⟨"AuctionRoom$Sheet", "<init>", "(LAuctionRoom$Journal;I)V"⟩ ∈ ym_T := ym_tg (k := 0) (i := 75) rfl rfl
set_option maxRecDepth 20000 in
theorem wd_151 : Cond.code yX5_init cX5_init 3 none ∈ ym_T := ym_tg (k := 0) (i := 76) rfl rfl
set_option maxRecDepth 20000 in
theorem wd_152 : Cond.methodLink "AuctionRoom$Sheet" 3 ⟨"java/lang/Object", "<init>", "()V"⟩ ∈ ym_T := ym_tg (k := 0) (i := 77) rfl rfl
set_option maxRecDepth 20000 in
theorem wd_153 : Cond.classLink "AuctionRoom$Sheet" 9 "AuctionRoom$Cells" ∈ ym_T := ym_tg (k := 0) (i := 78) rfl rfl
set_option maxRecDepth 20000 in
theorem wd_154 : Cond.methodLink "AuctionRoom$Sheet" 11 ⟨"AuctionRoom$Cells", "<init>", "(LAuctionRoom$Journal;I)V"⟩ ∈ ym_T := ym_tg (k := 0) (i := 79) rfl rfl
set_option maxRecDepth 20000 in
theorem wd_155 : Cond.fieldLink "AuctionRoom$Sheet" 14 "AuctionRoom$Sheet" "cells" "LAuctionRoom$Cells;" ∈ ym_T := ym_tg (k := 0) (i := 80) rfl rfl
set_option maxRecDepth 20000 in
theorem wd_156 : Cond.fieldLink "AuctionRoom$Sheet" 20 "AuctionRoom$Sheet" "width" "I" ∈ ym_T := ym_tg (k := 0) (i := 81) rfl rfl
set_option maxRecDepth 20000 in
theorem wd_162 : Cond.fieldLink "AuctionRoom$Table" 12 "AuctionRoom$Table" "sheet" "LAuctionRoom$Sheet;" ∈ ym_T := ym_tg (k := 0) (i := 87) rfl rfl
set_option maxRecDepth 20000 in
theorem wd_166 : Cond.classLink "AuctionRoom" 37 "AuctionRoom$Bodies" ∈ ym_T := ym_tg (k := 0) (i := 91) rfl rfl
set_option maxRecDepth 20000 in
theorem wd_167 : Cond.instantiable "AuctionRoom$Bodies" 3 ∈ ym_T := ym_tg (k := 0) (i := 92) rfl rfl
set_option maxRecDepth 20000 in
theorem wd_168 : Cond.methodLink "AuctionRoom" 39 ⟨"AuctionRoom$Bodies", "<init>", "(LAuctionRoom$Table;)V"⟩ ∈ ym_T := ym_tg (k := 0) (i := 93) rfl rfl
set_option maxRecDepth 20000 in
theorem wd_169 : Cond.instanceMethod ⟨"AuctionRoom$Bodies", "<init>", "(LAuctionRoom$Table;)V"⟩ ∈ ym_T := ym_tg (k := 0) (i := 94) rfl rfl
set_option maxRecDepth 20000 in
theorem wd_170 : Cond.code yX1_init cX1_init 2 none ∈ ym_T := ym_tg (k := 0) (i := 95) rfl rfl
set_option maxRecDepth 20000 in
theorem wd_171 : Cond.methodLink "AuctionRoom$Bodies" 3 ⟨"java/lang/Object", "<init>", "()V"⟩ ∈ ym_T := ym_tg (k := 0) (i := 96) rfl rfl
set_option maxRecDepth 20000 in
theorem wd_172 : Cond.fieldLink "AuctionRoom$Bodies" 15 "AuctionRoom$Bodies" "steps" "LAuctionRoom$Table;" ∈ ym_T := ym_tg (k := 0) (i := 97) rfl rfl
set_option maxRecDepth 20000 in
theorem wd_173 : Cond.fieldLink "AuctionRoom$Bodies" 9 "AuctionRoom$Bodies" "ran" "[I" ∈ ym_T := ym_tg (k := 0) (i := 98) rfl rfl
set_option maxRecDepth 20000 in
theorem wd_174 : Cond.fieldLink "AuctionRoom$Bodies" 19 "AuctionRoom$Bodies" "count" "I" ∈ ym_T := ym_tg (k := 0) (i := 99) rfl rfl
set_option maxRecDepth 20000 in
theorem wd_182 : Cond.classLink "AuctionRoom" 46 "AuctionRoom$Bidder" ∈ ym_T := ym_tg (k := 0) (i := 107) rfl rfl
set_option maxRecDepth 20000 in
theorem wd_183 : Cond.arrayOver (.object "AuctionRoom$Bidder") ∈ ym_N := ym_tn (k := 0) (i := 108) rfl rfl
set_option maxRecDepth 20000 in
theorem wd_184 : Cond.classLink "AuctionRoom" 52 "AuctionRoom$Lot" ∈ ym_T := ym_tg (k := 0) (i := 109) rfl rfl
set_option maxRecDepth 20000 in
theorem wd_185 : Cond.arrayOver (.object "AuctionRoom$Lot") ∈ ym_N := ym_tn (k := 0) (i := 110) rfl rfl
set_option maxRecDepth 20000 in
theorem wd_186 : Cond.fieldLink "AuctionRoom" 12 "AuctionRoom" "journal" "LAuctionRoom$Journal;" ∈ ym_T := ym_tg (k := 0) (i := 111) rfl rfl
set_option maxRecDepth 20000 in
theorem wd_187 : Cond.fieldLink "AuctionRoom" 21 "AuctionRoom" "facts" "LAuctionRoom$Cells;" ∈ ym_T := ym_tg (k := 0) (i := 112) rfl rfl
set_option maxRecDepth 20000 in
theorem wd_188 : Cond.fieldLink "AuctionRoom" 30 "AuctionRoom" "steps" "LAuctionRoom$Table;" ∈ ym_T := ym_tg (k := 0) (i := 113) rfl rfl
set_option maxRecDepth 20000 in
theorem wd_189 : Cond.fieldLink "AuctionRoom" 34 "AuctionRoom" "brackets" "LAuctionRoom$Table;" ∈ ym_T := ym_tg (k := 0) (i := 114) rfl rfl
set_option maxRecDepth 20000 in
theorem wd_190 : Cond.fieldLink "AuctionRoom" 42 "AuctionRoom" "bodies" "LAuctionRoom$Bodies;" ∈ ym_T := ym_tg (k := 0) (i := 115) rfl rfl
set_option maxRecDepth 20000 in
theorem wd_191 : Cond.fieldLink "AuctionRoom" 48 "AuctionRoom" "bidders" "[LAuctionRoom$Bidder;" ∈ ym_T := ym_tg (k := 0) (i := 116) rfl rfl
set_option maxRecDepth 20000 in
theorem wd_192 : Cond.fieldLink "AuctionRoom" 54 "AuctionRoom" "lots" "[LAuctionRoom$Lot;" ∈ ym_T := ym_tg (k := 0) (i := 117) rfl rfl
set_option maxRecDepth 20000 in
theorem wd_193 : Cond.fieldLink "AuctionRoom" 176 "AuctionRoom" "bidNumbers" "I" ∈ ym_T := ym_tg (k := 0) (i := 118) rfl rfl
set_option maxRecDepth 20000 in
theorem wd_194 : Cond.fieldLink "AuctionRoom" 276 "AuctionRoom" "acts" "I" ∈ ym_T := ym_tg (k := 0) (i := 119) rfl rfl
set_option maxRecDepth 20000 in
theorem wd_195 : Cond.fieldLink "AuctionRoom" 279 "AuctionRoom" "reason" "I" ∈ ym_T := ym_tg (k := 0) (i := 120) rfl rfl
set_option maxRecDepth 20000 in
theorem wd_217 : Cond.methodLink "AuctionRoomLaw" 15 ⟨"AuctionRoom", "bidder", "(IJ)J"⟩ ∈ ym_T := ym_tg (k := 0) (i := 142) rfl rfl
set_option maxRecDepth 20000 in
theorem wd_218 : Cond.instanceMethod ⟨"AuctionRoom", "bidder", "(IJ)J"⟩ ∈ ym_T := ym_tg (k := 0) (i := 143) rfl rfl
set_option maxRecDepth 20000 in
theorem wd_219 : Cond.selects "AuctionRoom" ⟨"AuctionRoom", "bidder", "(IJ)J"⟩ ⟨"AuctionRoom", "bidder", "(IJ)J"⟩ ∈ ym_T := ym_tg (k := 0) (i := 144) rfl rfl
set_option maxRecDepth 20000 in
theorem wd_220 : Cond.code yX7_bidder cX7_bidder 5 (some FieldType.long) ∈ ym_T := ym_tg (k := 0) (i := 145) rfl rfl
set_option maxRecDepth 20000 in
theorem wd_221 : Cond.methodLink "AuctionRoom" 58 ⟨"AuctionRoom", "startAct", "()V"⟩ ∈ ym_T := ym_tg (k := 0) (i := 146) rfl rfl
set_option maxRecDepth 20000 in
theorem wd_223 : Cond.instanceMethod ⟨"AuctionRoom", "startAct", "()V"⟩ ∈ ym_T := ym_tg (k := 0) (i := 148) rfl rfl
set_option maxRecDepth 20000 in
theorem wd_224 : Cond.code yX7_startAct cX7_startAct 1 none ∈ ym_T := ym_tg (k := 0) (i := 149) rfl rfl
set_option maxRecDepth 20000 in
theorem wd_225 : Cond.methodLink "AuctionRoom" 303 ⟨"AuctionRoom$Bodies", "forgetTrace", "()V"⟩ ∈ ym_T := ym_tg (k := 0) (i := 150) rfl rfl
set_option maxRecDepth 20000 in
theorem wd_226 : Cond.instanceMethod ⟨"AuctionRoom$Bodies", "forgetTrace", "()V"⟩ ∈ ym_T := ym_tg (k := 0) (i := 151) rfl rfl
set_option maxRecDepth 20000 in
theorem wd_227 : Cond.selects "AuctionRoom$Bodies" ⟨"AuctionRoom$Bodies", "forgetTrace", "()V"⟩ ⟨"AuctionRoom$Bodies", "forgetTrace", "()V"⟩ ∈ ym_T := ym_tg (k := 0) (i := 152) rfl rfl
set_option maxRecDepth 20000 in
theorem wd_228 : Cond.code yX1_forgetTrace cX1_forgetTrace 1 none ∈ ym_T := ym_tg (k := 0) (i := 153) rfl rfl
set_option maxRecDepth 20000 in
theorem wd_229 : Cond.methodLink "AuctionRoom" 61 ⟨"AuctionRoom", "refuse", "(I)J"⟩ ∈ ym_T := ym_tg (k := 0) (i := 154) rfl rfl
set_option maxRecDepth 20000 in
theorem wd_231 : Cond.instanceMethod ⟨"AuctionRoom", "refuse", "(I)J"⟩ ∈ ym_T := ym_tg (k := 0) (i := 156) rfl rfl
set_option maxRecDepth 20000 in
theorem wd_232 : Cond.code yX7_refuse cX7_refuse 2 (some FieldType.long) ∈ ym_T := ym_tg (k := 0) (i := 157) rfl rfl
set_option maxRecDepth 20000 in
theorem wd_233 : Cond.methodLink "AuctionRoom" 306 ⟨"AuctionRoom$Journal", "takeBackAll", "()V"⟩ ∈ ym_T := ym_tg (k := 0) (i := 158) rfl rfl
set_option maxRecDepth 20000 in
theorem wd_234 : Cond.instanceMethod ⟨"AuctionRoom$Journal", "takeBackAll", "()V"⟩ ∈ ym_T := ym_tg (k := 0) (i := 159) rfl rfl
set_option maxRecDepth 20000 in
theorem wd_235 : Cond.selects "AuctionRoom$Journal" ⟨"AuctionRoom$Journal", "takeBackAll", "()V"⟩ ⟨"AuctionRoom$Journal", "takeBackAll", "()V"⟩ ∈ ym_T := ym_tg (k := 0) (i := 160) rfl rfl
set_option maxRecDepth 20000 in
theorem wd_236 : Cond.code yX3_takeBackAll cX3_takeBackAll 1 none ∈ ym_T := ym_tg (k := 0) (i := 161) rfl rfl
set_option maxRecDepth 20000 in
theorem wd_237 : Cond.methodLink "AuctionRoom$Journal" 51 ⟨"AuctionRoom$Journal", "takeBackTo", "(I)V"⟩ ∈ ym_T := ym_tg (k := 0) (i := 162) rfl rfl
set_option maxRecDepth 20000 in
theorem wd_239 : Cond.instanceMethod ⟨"AuctionRoom$Journal", "takeBackTo", "(I)V"⟩ ∈ ym_T := ym_tg (k := 0) (i := 164) rfl rfl
set_option maxRecDepth 20000 in
theorem wd_240 : Cond.code yX3_takeBackTo cX3_takeBackTo 5 none ∈ ym_T := ym_tg (k := 0) (i := 165) rfl rfl
set_option maxRecDepth 20000 in
theorem wd_241 : Cond.methodLink "AuctionRoom$Journal" 55 ⟨"AuctionRoom$Cells", "set", "(IJ)V"⟩ ∈ ym_T := ym_tg (k := 0) (i := 166) rfl rfl
set_option maxRecDepth 20000 in
theorem wd_242 : Cond.instanceMethod ⟨"AuctionRoom$Cells", "set", "(IJ)V"⟩ ∈ ym_T := ym_tg (k := 0) (i := 167) rfl rfl
set_option maxRecDepth 20000 in
theorem wd_243 : Cond.selects "AuctionRoom$Cells" ⟨"AuctionRoom$Cells", "set", "(IJ)V"⟩ ⟨"AuctionRoom$Cells", "set", "(IJ)V"⟩ ∈ ym_T := ym_tg (k := 0) (i := 168) rfl rfl
set_option maxRecDepth 20000 in
theorem wd_244 : Cond.code yX2_set cX2_set 4 none ∈ ym_T := ym_tg (k := 0) (i := 169) rfl rfl
set_option maxRecDepth 20000 in
theorem wd_245 : Cond.methodLink "AuctionRoom" 65 ⟨"AuctionRoom", "isMoney", "(J)Z"⟩ ∈ ym_T := ym_tg (k := 0) (i := 170) rfl rfl
set_option maxRecDepth 20000 in
theorem wd_246 : Cond.static ⟨"AuctionRoom", "isMoney", "(J)Z"⟩ ∈ ym_T := ym_tg (k := 0) (i := 171) rfl rfl
set_option maxRecDepth 20000 in
theorem wd_247 : Cond.code yX7_isMoney cX7_isMoney 2 (some FieldType.boolean) ∈ ym_T := ym_tg (k := 0) (i := 172) rfl rfl
set_option maxRecDepth 20000 in
theorem wd_248 : Cond.constantLong "AuctionRoom" 309 1000000000000 ∈ ym_T := ym_tg (k := 0) (i := 173) rfl rfl
set_option maxRecDepth 20000 in
theorem wd_249 : Cond.methodLink "AuctionRoom" 69 ⟨"AuctionRoom", "biddersMade", "()I"⟩ ∈ ym_T := ym_tg (k := 0) (i := 174) rfl rfl
set_option maxRecDepth 20000 in
theorem wd_251 : Cond.instanceMethod ⟨"AuctionRoom", "biddersMade", "()I"⟩ ∈ ym_T := ym_tg (k := 0) (i := 176) rfl rfl
set_option maxRecDepth 20000 in
theorem wd_252 : Cond.code yX7_biddersMade cX7_biddersMade 1 (some FieldType.int) ∈ ym_T := ym_tg (k := 0) (i := 177) rfl rfl
set_option maxRecDepth 20000 in
theorem wd_253 : Cond.methodLink "AuctionRoom" 130 ⟨"AuctionRoom$Cells", "get", "(I)J"⟩ ∈ ym_T := ym_tg (k := 0) (i := 178) rfl rfl
set_option maxRecDepth 20000 in
theorem wd_254 : Cond.instanceMethod ⟨"AuctionRoom$Cells", "get", "(I)J"⟩ ∈ ym_T := ym_tg (k := 0) (i := 179) rfl rfl
set_option maxRecDepth 20000 in
theorem wd_255 : Cond.selects "AuctionRoom$Cells" ⟨"AuctionRoom$Cells", "get", "(I)J"⟩ ⟨"AuctionRoom$Cells", "get", "(I)J"⟩ ∈ ym_T := ym_tg (k := 0) (i := 180) rfl rfl
set_option maxRecDepth 20000 in
theorem wd_256 : Cond.code yX2_get cX2_get 2 (some FieldType.long) ∈ ym_T := ym_tg (k := 0) (i := 181) rfl rfl
set_option maxRecDepth 20000 in
theorem wd_257 : Cond.instantiable "AuctionRoom$Bidder" 4 ∈ ym_T := ym_tg (k := 0) (i := 182) rfl rfl
set_option maxRecDepth 20000 in
theorem wd_258 : Cond.methodLink "AuctionRoom" 73 ⟨"AuctionRoom$Bidder", "<init>", "(LAuctionRoom$Journal;IIJ)V"⟩ ∈ ym_T := ym_tg (k := 0) (i := 183) rfl rfl
set_option maxRecDepth 20000 in
theorem wd_259 : Cond.instanceMethod ⟨"AuctionRoom$Bidder", "<init>", "(LAuctionRoom$Journal;IIJ)V"⟩ ∈ ym_T := ym_tg (k := 0) (i := 184) rfl rfl
set_option maxRecDepth 20000 in
theorem wd_260 : Cond.code yX0_init cX0_init 6 none ∈ ym_T := ym_tg (k := 0) (i := 185) rfl rfl
set_option maxRecDepth 20000 in
theorem wd_261 : Cond.methodLink "AuctionRoom$Bidder" 3 ⟨"java/lang/Object", "<init>", "()V"⟩ ∈ ym_T := ym_tg (k := 0) (i := 186) rfl rfl
set_option maxRecDepth 20000 in
theorem wd_262 : Cond.classLink "AuctionRoom$Bidder" 22 "AuctionRoom$Cells" ∈ ym_T := ym_tg (k := 0) (i := 187) rfl rfl
set_option maxRecDepth 20000 in
theorem wd_263 : Cond.methodLink "AuctionRoom$Bidder" 24 ⟨"AuctionRoom$Cells", "<init>", "(LAuctionRoom$Journal;I)V"⟩ ∈ ym_T := ym_tg (k := 0) (i := 188) rfl rfl
set_option maxRecDepth 20000 in
theorem wd_264 : Cond.fieldLink "AuctionRoom$Bidder" 9 "AuctionRoom$Bidder" "kind" "I" ∈ ym_T := ym_tg (k := 0) (i := 189) rfl rfl
set_option maxRecDepth 20000 in
theorem wd_265 : Cond.fieldLinkNest "AuctionRoom$Bodies" 63 "AuctionRoom$Bidder" "kind" "I" "AuctionRoom" ∈ ym_N := ym_tn (k := 0) (i := 190) rfl rfl
set_option maxRecDepth 20000 in
theorem wd_266 : Cond.fieldLinkNest "AuctionRoom" 214 "AuctionRoom$Bidder" "kind" "I" "AuctionRoom" ∈ ym_N := ym_tn (k := 0) (i := 191) rfl rfl
set_option maxRecDepth 20000 in
theorem wd_267 : Cond.fieldLink "AuctionRoom$Bidder" 15 "AuctionRoom$Bidder" "number" "I" ∈ ym_T := ym_tg (k := 0) (i := 192) rfl rfl
set_option maxRecDepth 20000 in
theorem wd_268 : Cond.fieldLinkNest "AuctionRoom$Bodies" 74 "AuctionRoom$Bidder" "number" "I" "AuctionRoom" ∈ ym_N := ym_tn (k := 0) (i := 193) rfl rfl
set_option maxRecDepth 20000 in
theorem wd_269 : Cond.fieldLink "AuctionRoom$Bidder" 18 "AuctionRoom$Bidder" "purse" "J" ∈ ym_T := ym_tg (k := 0) (i := 194) rfl rfl
set_option maxRecDepth 20000 in
theorem wd_270 : Cond.fieldLinkNest "AuctionRoom$Bodies" 81 "AuctionRoom$Bidder" "purse" "J" "AuctionRoom" ∈ ym_N := ym_tn (k := 0) (i := 195) rfl rfl
set_option maxRecDepth 20000 in
theorem wd_271 : Cond.fieldLink "AuctionRoom$Bidder" 27 "AuctionRoom$Bidder" "facts" "LAuctionRoom$Cells;" ∈ ym_T := ym_tg (k := 0) (i := 196) rfl rfl
set_option maxRecDepth 20000 in
theorem wd_281 : Cond.methodLink "AuctionRoom" 76 ⟨"AuctionRoom$Cells", "put", "(IJ)V"⟩ ∈ ym_T := ym_tg (k := 0) (i := 206) rfl rfl
set_option maxRecDepth 20000 in
theorem wd_282 : Cond.instanceMethod ⟨"AuctionRoom$Cells", "put", "(IJ)V"⟩ ∈ ym_T := ym_tg (k := 0) (i := 207) rfl rfl
set_option maxRecDepth 20000 in
theorem wd_283 : Cond.selects "AuctionRoom$Cells" ⟨"AuctionRoom$Cells", "put", "(IJ)V"⟩ ⟨"AuctionRoom$Cells", "put", "(IJ)V"⟩ ∈ ym_T := ym_tg (k := 0) (i := 208) rfl rfl
set_option maxRecDepth 20000 in
theorem wd_284 : Cond.code yX2_put cX2_put 4 none ∈ ym_T := ym_tg (k := 0) (i := 209) rfl rfl
set_option maxRecDepth 20000 in
theorem wd_285 : Cond.methodLink "AuctionRoom$Cells" 25 ⟨"java/util/Arrays", "copyOf", "([JI)[J"⟩ ∈ ym_T := ym_tg (k := 0) (i := 210) rfl rfl
set_option maxRecDepth 20000 in
theorem wd_286 : Cond.static ⟨"java/util/Arrays", "copyOf", "([JI)[J"⟩ ∈ ym_T := ym_tg (k := 0) (i := 211) rfl rfl
set_option maxRecDepth 20000 in
theorem wd_287 : Cond.code yJ7_copyOf_c38d5 cJ7_copyOf_c38d5 3 (some (FieldType.array FieldType.long)) ∈ ym_T := ym_tg (k := 0) (i := 212) rfl rfl
set_option maxRecDepth 20000 in
theorem wd_295 : Cond.methodLink "java/util/Arrays" 304 ⟨"java/lang/Math", "min", "(II)I"⟩ ∈ ym_T := ym_tg (k := 0) (i := 220) rfl rfl
set_option maxRecDepth 20000 in
theorem wd_296 : Cond.static ⟨"java/lang/Math", "min", "(II)I"⟩ ∈ ym_T := ym_tg (k := 0) (i := 221) rfl rfl
set_option maxRecDepth 20000 in
theorem wd_297 : Cond.code yJ9_min_7cf53 cJ9_min_7cf53 2 (some FieldType.int) ∈ ym_T := ym_tg (k := 0) (i := 222) rfl rfl
set_option maxRecDepth 20000 in
theorem wd_298 : Cond.methodLink "java/util/Arrays" 150 ⟨"java/lang/System", "arraycopy", "(Ljava/lang/Object;ILjava/lang/Object;II)V"⟩ ∈ ym_T := ym_tg (k := 0) (i := 223) rfl rfl
set_option maxRecDepth 20000 in
theorem wd_299 : Cond.static ⟨"java/lang/System", "arraycopy", "(Ljava/lang/Object;ILjava/lang/Object;II)V"⟩ ∈ ym_T := ym_tg (k := 0) (i := 224) rfl rfl
set_option maxRecDepth 20000 in
theorem wd_300 : Cond.native ⟨"java/lang/System", "arraycopy", "(Ljava/lang/Object;ILjava/lang/Object;II)V"⟩ ∈ ym_T := ym_tg (k := 0) (i := 225) rfl rfl
set_option maxRecDepth 20000 in
theorem wd_301 : Cond.methodLink "AuctionRoom$Cells" 31 ⟨"AuctionRoom$Journal", "note", "(LAuctionRoom$Cells;IJ)V"⟩ ∈ ym_T := ym_tg (k := 0) (i := 226) rfl rfl
set_option maxRecDepth 20000 in
theorem wd_302 : Cond.instanceMethod ⟨"AuctionRoom$Journal", "note", "(LAuctionRoom$Cells;IJ)V"⟩ ∈ ym_T := ym_tg (k := 0) (i := 227) rfl rfl
set_option maxRecDepth 20000 in
theorem wd_303 : Cond.selects "AuctionRoom$Journal" ⟨"AuctionRoom$Journal", "note", "(LAuctionRoom$Cells;IJ)V"⟩ ⟨"AuctionRoom$Journal", "note", "(LAuctionRoom$Cells;IJ)V"⟩ ∈ ym_T := ym_tg (k := 0) (i := 228) rfl rfl
set_option maxRecDepth 20000 in
theorem wd_304 : Cond.code yX3_note cX3_note 6 none ∈ ym_T := ym_tg (k := 0) (i := 229) rfl rfl
set_option maxRecDepth 20000 in
theorem wd_305 : Cond.constant "AuctionRoom$Journal" 35 65536 ∈ ym_T := ym_tg (k := 0) (i := 230) rfl rfl
set_option maxRecDepth 20000 in
theorem wd_306 : Cond.methodLink "AuctionRoom$Journal" 36 ⟨"java/lang/System", "arraycopy", "(Ljava/lang/Object;ILjava/lang/Object;II)V"⟩ ∈ ym_T := ym_tg (k := 0) (i := 231) rfl rfl
set_option maxRecDepth 20000 in
theorem wd_307 : Cond.methodLink "AuctionRoom$Journal" 42 ⟨"java/util/Arrays", "copyOf", "([II)[I"⟩ ∈ ym_T := ym_tg (k := 0) (i := 232) rfl rfl
set_option maxRecDepth 20000 in
theorem wd_308 : Cond.static ⟨"java/util/Arrays", "copyOf", "([II)[I"⟩ ∈ ym_T := ym_tg (k := 0) (i := 233) rfl rfl
set_option maxRecDepth 20000 in
theorem wd_309 : Cond.code yJ7_copyOf_59c91 cJ7_copyOf_59c91 3 (some (FieldType.array FieldType.int)) ∈ ym_T := ym_tg (k := 0) (i := 234) rfl rfl
set_option maxRecDepth 20000 in
theorem wd_315 : Cond.methodLink "AuctionRoom$Journal" 48 ⟨"java/util/Arrays", "copyOf", "([JI)[J"⟩ ∈ ym_T := ym_tg (k := 1) (i := 0) rfl rfl
set_option maxRecDepth 20000 in
theorem wd_316 : Cond.methodLink "AuctionRoomLaw" 20 ⟨"AuctionRoom", "lot", "(IJJ)J"⟩ ∈ ym_T := ym_tg (k := 1) (i := 1) rfl rfl
set_option maxRecDepth 20000 in
theorem wd_317 : Cond.instanceMethod ⟨"AuctionRoom", "lot", "(IJJ)J"⟩ ∈ ym_T := ym_tg (k := 1) (i := 2) rfl rfl
set_option maxRecDepth 20000 in
theorem wd_318 : Cond.selects "AuctionRoom" ⟨"AuctionRoom", "lot", "(IJJ)J"⟩ ⟨"AuctionRoom", "lot", "(IJJ)J"⟩ ∈ ym_T := ym_tg (k := 1) (i := 3) rfl rfl
set_option maxRecDepth 20000 in
theorem wd_319 : Cond.code yX7_lot cX7_lot 7 (some FieldType.long) ∈ ym_T := ym_tg (k := 1) (i := 4) rfl rfl
set_option maxRecDepth 20000 in
theorem wd_320 : Cond.methodLink "AuctionRoom" 80 ⟨"AuctionRoom", "isSum", "(J)Z"⟩ ∈ ym_T := ym_tg (k := 1) (i := 5) rfl rfl
set_option maxRecDepth 20000 in
theorem wd_321 : Cond.static ⟨"AuctionRoom", "isSum", "(J)Z"⟩ ∈ ym_T := ym_tg (k := 1) (i := 6) rfl rfl
set_option maxRecDepth 20000 in
theorem wd_322 : Cond.code yX7_isSum cX7_isSum 2 (some FieldType.boolean) ∈ ym_T := ym_tg (k := 1) (i := 7) rfl rfl
set_option maxRecDepth 20000 in
theorem wd_323 : Cond.methodLink "AuctionRoom" 83 ⟨"AuctionRoom", "lotsMade", "()I"⟩ ∈ ym_T := ym_tg (k := 1) (i := 8) rfl rfl
set_option maxRecDepth 20000 in
theorem wd_325 : Cond.instanceMethod ⟨"AuctionRoom", "lotsMade", "()I"⟩ ∈ ym_T := ym_tg (k := 1) (i := 10) rfl rfl
set_option maxRecDepth 20000 in
theorem wd_326 : Cond.code yX7_lotsMade cX7_lotsMade 1 (some FieldType.int) ∈ ym_T := ym_tg (k := 1) (i := 11) rfl rfl
set_option maxRecDepth 20000 in
theorem wd_327 : Cond.instantiable "AuctionRoom$Lot" 6 ∈ ym_T := ym_tg (k := 1) (i := 12) rfl rfl
set_option maxRecDepth 20000 in
theorem wd_328 : Cond.methodLink "AuctionRoom" 86 ⟨"AuctionRoom$Lot", "<init>", "(LAuctionRoom$Journal;IJJ)V"⟩ ∈ ym_T := ym_tg (k := 1) (i := 13) rfl rfl
set_option maxRecDepth 20000 in
theorem wd_329 : Cond.instanceMethod ⟨"AuctionRoom$Lot", "<init>", "(LAuctionRoom$Journal;IJJ)V"⟩ ∈ ym_T := ym_tg (k := 1) (i := 14) rfl rfl
set_option maxRecDepth 20000 in
theorem wd_330 : Cond.code yX4_init cX4_init 7 none ∈ ym_T := ym_tg (k := 1) (i := 15) rfl rfl
set_option maxRecDepth 20000 in
theorem wd_331 : Cond.methodLink "AuctionRoom$Lot" 3 ⟨"java/lang/Object", "<init>", "()V"⟩ ∈ ym_T := ym_tg (k := 1) (i := 16) rfl rfl
set_option maxRecDepth 20000 in
theorem wd_332 : Cond.classLink "AuctionRoom$Lot" 19 "AuctionRoom$Cells" ∈ ym_T := ym_tg (k := 1) (i := 17) rfl rfl
set_option maxRecDepth 20000 in
theorem wd_333 : Cond.methodLink "AuctionRoom$Lot" 21 ⟨"AuctionRoom$Cells", "<init>", "(LAuctionRoom$Journal;I)V"⟩ ∈ ym_T := ym_tg (k := 1) (i := 18) rfl rfl
set_option maxRecDepth 20000 in
theorem wd_334 : Cond.classLink "AuctionRoom$Lot" 28 "AuctionRoom$Sheet" ∈ ym_T := ym_tg (k := 1) (i := 19) rfl rfl
set_option maxRecDepth 20000 in
theorem wd_335 : Cond.methodLink "AuctionRoom$Lot" 30 ⟨"AuctionRoom$Sheet", "<init>", "(LAuctionRoom$Journal;I)V"⟩ ∈ ym_T := ym_tg (k := 1) (i := 20) rfl rfl
set_option maxRecDepth 20000 in
theorem wd_336 : Cond.methodLink "AuctionRoom$Lot" 41 ⟨"AuctionRoom$Cells", "set", "(IJ)V"⟩ ∈ ym_T := ym_tg (k := 1) (i := 21) rfl rfl
set_option maxRecDepth 20000 in
theorem wd_337 : Cond.constantLong "AuctionRoom$Lot" 45 (-1) ∈ ym_T := ym_tg (k := 1) (i := 22) rfl rfl
set_option maxRecDepth 20000 in
theorem wd_338 : Cond.fieldLink "AuctionRoom$Lot" 9 "AuctionRoom$Lot" "kind" "I" ∈ ym_T := ym_tg (k := 1) (i := 23) rfl rfl
set_option maxRecDepth 20000 in
theorem wd_339 : Cond.fieldLinkNest "AuctionRoom$Bodies" 23 "AuctionRoom$Lot" "kind" "I" "AuctionRoom" ∈ ym_N := ym_tn (k := 1) (i := 24) rfl rfl
set_option maxRecDepth 20000 in
theorem wd_340 : Cond.fieldLinkNest "AuctionRoom" 137 "AuctionRoom$Lot" "kind" "I" "AuctionRoom" ∈ ym_N := ym_tn (k := 1) (i := 25) rfl rfl
set_option maxRecDepth 20000 in
theorem wd_341 : Cond.fieldLink "AuctionRoom$Lot" 15 "AuctionRoom$Lot" "reserve" "J" ∈ ym_T := ym_tg (k := 1) (i := 26) rfl rfl
set_option maxRecDepth 20000 in
theorem wd_342 : Cond.fieldLinkNest "AuctionRoom$Bodies" 66 "AuctionRoom$Lot" "reserve" "J" "AuctionRoom" ∈ ym_N := ym_tn (k := 1) (i := 27) rfl rfl
set_option maxRecDepth 20000 in
theorem wd_343 : Cond.fieldLinkNest "AuctionRoom" 204 "AuctionRoom$Lot" "reserve" "J" "AuctionRoom" ∈ ym_N := ym_tn (k := 1) (i := 28) rfl rfl
set_option maxRecDepth 20000 in
theorem wd_344 : Cond.fieldLink "AuctionRoom$Lot" 24 "AuctionRoom$Lot" "facts" "LAuctionRoom$Cells;" ∈ ym_T := ym_tg (k := 1) (i := 29) rfl rfl
set_option maxRecDepth 20000 in
theorem wd_345 : Cond.fieldLinkNest "AuctionRoom$Bodies" 32 "AuctionRoom$Lot" "facts" "LAuctionRoom$Cells;" "AuctionRoom" ∈ ym_N := ym_tn (k := 1) (i := 30) rfl rfl
set_option maxRecDepth 20000 in
theorem wd_346 : Cond.fieldLinkNest "AuctionRoom" 129 "AuctionRoom$Lot" "facts" "LAuctionRoom$Cells;" "AuctionRoom" ∈ ym_N := ym_tn (k := 1) (i := 31) rfl rfl
set_option maxRecDepth 20000 in
theorem wd_347 : Cond.fieldLink "AuctionRoom$Lot" 31 "AuctionRoom$Lot" "book" "LAuctionRoom$Sheet;" ∈ ym_T := ym_tg (k := 1) (i := 32) rfl rfl
set_option maxRecDepth 20000 in
theorem wd_348 : Cond.fieldLinkNest "AuctionRoom" 149 "AuctionRoom$Lot" "book" "LAuctionRoom$Sheet;" "AuctionRoom" ∈ ym_N := ym_tn (k := 1) (i := 33) rfl rfl
set_option maxRecDepth 20000 in
theorem wd_349 : Cond.fieldLink "AuctionRoom$Lot" 35 "AuctionRoom$Lot" "limits" "LAuctionRoom$Sheet;" ∈ ym_T := ym_tg (k := 1) (i := 34) rfl rfl
set_option maxRecDepth 20000 in
theorem wd_350 : Cond.fieldLinkNest "AuctionRoom$Bodies" 88 "AuctionRoom$Lot" "limits" "LAuctionRoom$Sheet;" "AuctionRoom" ∈ ym_N := ym_tn (k := 1) (i := 35) rfl rfl
set_option maxRecDepth 20000 in
theorem wd_351 : Cond.fieldLinkNest "AuctionRoom" 189 "AuctionRoom$Lot" "limits" "LAuctionRoom$Sheet;" "AuctionRoom" ∈ ym_N := ym_tn (k := 1) (i := 36) rfl rfl
set_option maxRecDepth 20000 in
theorem wd_352 : Cond.fieldLink "AuctionRoom$Lot" 38 "AuctionRoom$Lot" "sellers" "LAuctionRoom$Sheet;" ∈ ym_T := ym_tg (k := 1) (i := 37) rfl rfl
set_option maxRecDepth 20000 in
theorem wd_353 : Cond.fieldLinkNest "AuctionRoom" 107 "AuctionRoom$Lot" "sellers" "LAuctionRoom$Sheet;" "AuctionRoom" ∈ ym_N := ym_tn (k := 1) (i := 38) rfl rfl
set_option maxRecDepth 20000 in
theorem wd_367 : Cond.methodLink "AuctionRoomLaw" 25 ⟨"AuctionRoom", "seller", "(II)J"⟩ ∈ ym_T := ym_tg (k := 1) (i := 52) rfl rfl
set_option maxRecDepth 20000 in
theorem wd_368 : Cond.instanceMethod ⟨"AuctionRoom", "seller", "(II)J"⟩ ∈ ym_T := ym_tg (k := 1) (i := 53) rfl rfl
set_option maxRecDepth 20000 in
theorem wd_369 : Cond.selects "AuctionRoom" ⟨"AuctionRoom", "seller", "(II)J"⟩ ⟨"AuctionRoom", "seller", "(II)J"⟩ ∈ ym_T := ym_tg (k := 1) (i := 54) rfl rfl
set_option maxRecDepth 20000 in
theorem wd_370 : Cond.code yX7_seller cX7_seller 4 (some FieldType.long) ∈ ym_T := ym_tg (k := 1) (i := 55) rfl rfl
set_option maxRecDepth 20000 in
theorem wd_371 : Cond.methodLink "AuctionRoom" 89 ⟨"AuctionRoom", "lotAt", "(I)LAuctionRoom$Lot;"⟩ ∈ ym_T := ym_tg (k := 1) (i := 56) rfl rfl
set_option maxRecDepth 20000 in
theorem wd_373 : Cond.instanceMethod ⟨"AuctionRoom", "lotAt", "(I)LAuctionRoom$Lot;"⟩ ∈ ym_T := ym_tg (k := 1) (i := 58) rfl rfl
set_option maxRecDepth 20000 in
theorem wd_374 : Cond.code yX7_lotAt cX7_lotAt 2 (some (FieldType.object "AuctionRoom$Lot")) ∈ ym_T := ym_tg (k := 1) (i := 59) rfl rfl
set_option maxRecDepth 20000 in
theorem wd_375 : Cond.methodLink "AuctionRoom" 93 ⟨"AuctionRoom", "whyNoLot", "(I)I"⟩ ∈ ym_T := ym_tg (k := 1) (i := 60) rfl rfl
set_option maxRecDepth 20000 in
theorem wd_376 : Cond.static ⟨"AuctionRoom", "whyNoLot", "(I)I"⟩ ∈ ym_T := ym_tg (k := 1) (i := 61) rfl rfl
set_option maxRecDepth 20000 in
theorem wd_377 : Cond.code yX7_whyNoLot cX7_whyNoLot 1 (some FieldType.int) ∈ ym_T := ym_tg (k := 1) (i := 62) rfl rfl
set_option maxRecDepth 20000 in
theorem wd_378 : Cond.methodLink "AuctionRoom" 97 ⟨"AuctionRoom", "bidderWith", "(I)LAuctionRoom$Bidder;"⟩ ∈ ym_T := ym_tg (k := 1) (i := 63) rfl rfl
set_option maxRecDepth 20000 in
theorem wd_380 : Cond.instanceMethod ⟨"AuctionRoom", "bidderWith", "(I)LAuctionRoom$Bidder;"⟩ ∈ ym_T := ym_tg (k := 1) (i := 65) rfl rfl
set_option maxRecDepth 20000 in
theorem wd_381 : Cond.code yX7_bidderWith cX7_bidderWith 2 (some (FieldType.object "AuctionRoom$Bidder")) ∈ ym_T := ym_tg (k := 1) (i := 66) rfl rfl
set_option maxRecDepth 20000 in
theorem wd_382 : Cond.methodLink "AuctionRoom" 101 ⟨"AuctionRoom", "whyNoBidder", "(I)I"⟩ ∈ ym_T := ym_tg (k := 1) (i := 67) rfl rfl
set_option maxRecDepth 20000 in
theorem wd_383 : Cond.static ⟨"AuctionRoom", "whyNoBidder", "(I)I"⟩ ∈ ym_T := ym_tg (k := 1) (i := 68) rfl rfl
set_option maxRecDepth 20000 in
theorem wd_384 : Cond.code yX7_whyNoBidder cX7_whyNoBidder 1 (some FieldType.int) ∈ ym_T := ym_tg (k := 1) (i := 69) rfl rfl
set_option maxRecDepth 20000 in
theorem wd_385 : Cond.methodLink "AuctionRoom" 104 ⟨"AuctionRoom$Lot", "stateNow", "()I"⟩ ∈ ym_T := ym_tg (k := 1) (i := 70) rfl rfl
set_option maxRecDepth 20000 in
theorem wd_386 : Cond.instanceMethod ⟨"AuctionRoom$Lot", "stateNow", "()I"⟩ ∈ ym_T := ym_tg (k := 1) (i := 71) rfl rfl
set_option maxRecDepth 20000 in
theorem wd_387 : Cond.selects "AuctionRoom$Lot" ⟨"AuctionRoom$Lot", "stateNow", "()I"⟩ ⟨"AuctionRoom$Lot", "stateNow", "()I"⟩ ∈ ym_T := ym_tg (k := 1) (i := 72) rfl rfl
set_option maxRecDepth 20000 in
theorem wd_388 : Cond.code yX4_stateNow cX4_stateNow 1 (some FieldType.int) ∈ ym_T := ym_tg (k := 1) (i := 73) rfl rfl
set_option maxRecDepth 20000 in
theorem wd_389 : Cond.methodLink "AuctionRoom$Lot" 47 ⟨"AuctionRoom$Cells", "get", "(I)J"⟩ ∈ ym_T := ym_tg (k := 1) (i := 74) rfl rfl
set_option maxRecDepth 20000 in
theorem wd_390 : Cond.methodLink "AuctionRoom" 111 ⟨"AuctionRoom$Sheet", "rowOf", "(I)I"⟩ ∈ ym_T := ym_tg (k := 1) (i := 75) rfl rfl
set_option maxRecDepth 20000 in
theorem wd_391 : Cond.instanceMethod ⟨"AuctionRoom$Sheet", "rowOf", "(I)I"⟩ ∈ ym_T := ym_tg (k := 1) (i := 76) rfl rfl
set_option maxRecDepth 20000 in
theorem wd_392 : Cond.selects "AuctionRoom$Sheet" ⟨"AuctionRoom$Sheet", "rowOf", "(I)I"⟩ ⟨"AuctionRoom$Sheet", "rowOf", "(I)I"⟩ ∈ ym_T := ym_tg (k := 1) (i := 77) rfl rfl
set_option maxRecDepth 20000 in
theorem wd_393 : Cond.code yX5_rowOf cX5_rowOf 4 (some FieldType.int) ∈ ym_T := ym_tg (k := 1) (i := 78) rfl rfl
set_option maxRecDepth 20000 in
theorem wd_394 : Cond.methodLink "AuctionRoom$Sheet" 28 ⟨"AuctionRoom$Sheet", "rows", "()I"⟩ ∈ ym_T := ym_tg (k := 1) (i := 79) rfl rfl
set_option maxRecDepth 20000 in
theorem wd_395 : Cond.instanceMethod ⟨"AuctionRoom$Sheet", "rows", "()I"⟩ ∈ ym_T := ym_tg (k := 1) (i := 80) rfl rfl
set_option maxRecDepth 20000 in
theorem wd_396 : Cond.selects "AuctionRoom$Sheet" ⟨"AuctionRoom$Sheet", "rows", "()I"⟩ ⟨"AuctionRoom$Sheet", "rows", "()I"⟩ ∈ ym_T := ym_tg (k := 1) (i := 81) rfl rfl
set_option maxRecDepth 20000 in
theorem wd_397 : Cond.code yX5_rows cX5_rows 1 (some FieldType.int) ∈ ym_T := ym_tg (k := 1) (i := 82) rfl rfl
set_option maxRecDepth 20000 in
theorem wd_398 : Cond.methodLink "AuctionRoom$Sheet" 24 ⟨"AuctionRoom$Cells", "get", "(I)J"⟩ ∈ ym_T := ym_tg (k := 1) (i := 83) rfl rfl
set_option maxRecDepth 20000 in
theorem wd_399 : Cond.methodLink "AuctionRoom$Sheet" 36 ⟨"AuctionRoom$Sheet", "at", "(II)J"⟩ ∈ ym_T := ym_tg (k := 1) (i := 84) rfl rfl
set_option maxRecDepth 20000 in
theorem wd_400 : Cond.instanceMethod ⟨"AuctionRoom$Sheet", "at", "(II)J"⟩ ∈ ym_T := ym_tg (k := 1) (i := 85) rfl rfl
set_option maxRecDepth 20000 in
theorem wd_401 : Cond.selects "AuctionRoom$Sheet" ⟨"AuctionRoom$Sheet", "at", "(II)J"⟩ ⟨"AuctionRoom$Sheet", "at", "(II)J"⟩ ∈ ym_T := ym_tg (k := 1) (i := 86) rfl rfl
set_option maxRecDepth 20000 in
theorem wd_402 : Cond.code yX5_at cX5_at 3 (some FieldType.long) ∈ ym_T := ym_tg (k := 1) (i := 87) rfl rfl
set_option maxRecDepth 20000 in
theorem wd_403 : Cond.methodLink "AuctionRoom" 116 ⟨"AuctionRoom$Sheet", "rows", "()I"⟩ ∈ ym_T := ym_tg (k := 1) (i := 88) rfl rfl
set_option maxRecDepth 20000 in
theorem wd_404 : Cond.methodLink "AuctionRoom" 119 ⟨"AuctionRoom$Sheet", "addRow", "()I"⟩ ∈ ym_T := ym_tg (k := 1) (i := 89) rfl rfl
set_option maxRecDepth 20000 in
theorem wd_405 : Cond.instanceMethod ⟨"AuctionRoom$Sheet", "addRow", "()I"⟩ ∈ ym_T := ym_tg (k := 1) (i := 90) rfl rfl
set_option maxRecDepth 20000 in
theorem wd_406 : Cond.selects "AuctionRoom$Sheet" ⟨"AuctionRoom$Sheet", "addRow", "()I"⟩ ⟨"AuctionRoom$Sheet", "addRow", "()I"⟩ ∈ ym_T := ym_tg (k := 1) (i := 91) rfl rfl
set_option maxRecDepth 20000 in
theorem wd_407 : Cond.code yX5_addRow cX5_addRow 2 (some FieldType.int) ∈ ym_T := ym_tg (k := 1) (i := 92) rfl rfl
set_option maxRecDepth 20000 in
theorem wd_408 : Cond.methodLink "AuctionRoom$Sheet" 32 ⟨"AuctionRoom$Cells", "put", "(IJ)V"⟩ ∈ ym_T := ym_tg (k := 1) (i := 93) rfl rfl
set_option maxRecDepth 20000 in
theorem wd_409 : Cond.methodLink "AuctionRoom" 122 ⟨"AuctionRoom$Sheet", "put", "(IIJ)V"⟩ ∈ ym_T := ym_tg (k := 1) (i := 94) rfl rfl
set_option maxRecDepth 20000 in
theorem wd_410 : Cond.instanceMethod ⟨"AuctionRoom$Sheet", "put", "(IIJ)V"⟩ ∈ ym_T := ym_tg (k := 1) (i := 95) rfl rfl
set_option maxRecDepth 20000 in
theorem wd_411 : Cond.selects "AuctionRoom$Sheet" ⟨"AuctionRoom$Sheet", "put", "(IIJ)V"⟩ ⟨"AuctionRoom$Sheet", "put", "(IIJ)V"⟩ ∈ ym_T := ym_tg (k := 1) (i := 96) rfl rfl
set_option maxRecDepth 20000 in
theorem wd_412 : Cond.code yX5_put cX5_put 5 none ∈ ym_T := ym_tg (k := 1) (i := 97) rfl rfl
set_option maxRecDepth 20000 in
theorem wd_413 : Cond.methodLink "AuctionRoomLaw" 30 ⟨"AuctionRoom", "cut", "(II)J"⟩ ∈ ym_T := ym_tg (k := 1) (i := 98) rfl rfl
set_option maxRecDepth 20000 in
theorem wd_414 : Cond.instanceMethod ⟨"AuctionRoom", "cut", "(II)J"⟩ ∈ ym_T := ym_tg (k := 1) (i := 99) rfl rfl
set_option maxRecDepth 20000 in
theorem wd_415 : Cond.selects "AuctionRoom" ⟨"AuctionRoom", "cut", "(II)J"⟩ ⟨"AuctionRoom", "cut", "(II)J"⟩ ∈ ym_T := ym_tg (k := 1) (i := 100) rfl rfl
set_option maxRecDepth 20000 in
theorem wd_416 : Cond.code yX7_cut cX7_cut 6 (some FieldType.long) ∈ ym_T := ym_tg (k := 1) (i := 101) rfl rfl
set_option maxRecDepth 20000 in
theorem wd_417 : Cond.methodLink "AuctionRoom" 125 ⟨"AuctionRoom", "isRate", "(I)Z"⟩ ∈ ym_T := ym_tg (k := 1) (i := 102) rfl rfl
set_option maxRecDepth 20000 in
theorem wd_418 : Cond.static ⟨"AuctionRoom", "isRate", "(I)Z"⟩ ∈ ym_T := ym_tg (k := 1) (i := 103) rfl rfl
set_option maxRecDepth 20000 in
theorem wd_419 : Cond.code yX7_isRate cX7_isRate 1 (some FieldType.boolean) ∈ ym_T := ym_tg (k := 1) (i := 104) rfl rfl
set_option maxRecDepth 20000 in
theorem wd_420 : Cond.methodLink "AuctionRoomLaw" 34 ⟨"AuctionRoom", "step", "(JJ)J"⟩ ∈ ym_T := ym_tg (k := 1) (i := 105) rfl rfl
set_option maxRecDepth 20000 in
theorem wd_421 : Cond.instanceMethod ⟨"AuctionRoom", "step", "(JJ)J"⟩ ∈ ym_T := ym_tg (k := 1) (i := 106) rfl rfl
set_option maxRecDepth 20000 in
theorem wd_422 : Cond.selects "AuctionRoom" ⟨"AuctionRoom", "step", "(JJ)J"⟩ ⟨"AuctionRoom", "step", "(JJ)J"⟩ ∈ ym_T := ym_tg (k := 1) (i := 107) rfl rfl
set_option maxRecDepth 20000 in
theorem wd_423 : Cond.code yX7_step cX7_step 5 (some FieldType.long) ∈ ym_T := ym_tg (k := 1) (i := 108) rfl rfl
set_option maxRecDepth 20000 in
theorem wd_424 : Cond.methodLink "AuctionRoom" 133 ⟨"AuctionRoom", "addTableRow", "(LAuctionRoom$Table;JJ)J"⟩ ∈ ym_T := ym_tg (k := 1) (i := 109) rfl rfl
set_option maxRecDepth 20000 in
theorem wd_426 : Cond.instanceMethod ⟨"AuctionRoom", "addTableRow", "(LAuctionRoom$Table;JJ)J"⟩ ∈ ym_T := ym_tg (k := 1) (i := 111) rfl rfl
set_option maxRecDepth 20000 in
theorem wd_427 : Cond.code yX7_addTableRow cX7_addTableRow 6 (some FieldType.long) ∈ ym_T := ym_tg (k := 1) (i := 112) rfl rfl
set_option maxRecDepth 20000 in
theorem wd_428 : Cond.methodLink "AuctionRoom" 299 ⟨"AuctionRoom$Table", "rows", "()I"⟩ ∈ ym_T := ym_tg (k := 1) (i := 113) rfl rfl
set_option maxRecDepth 20000 in
theorem wd_429 : Cond.instanceMethod ⟨"AuctionRoom$Table", "rows", "()I"⟩ ∈ ym_T := ym_tg (k := 1) (i := 114) rfl rfl
set_option maxRecDepth 20000 in
theorem wd_430 : Cond.selects "AuctionRoom$Table" ⟨"AuctionRoom$Table", "rows", "()I"⟩ ⟨"AuctionRoom$Table", "rows", "()I"⟩ ∈ ym_T := ym_tg (k := 1) (i := 115) rfl rfl
set_option maxRecDepth 20000 in
theorem wd_431 : Cond.code yX6_rows cX6_rows 1 (some FieldType.int) ∈ ym_T := ym_tg (k := 1) (i := 116) rfl rfl
set_option maxRecDepth 20000 in
theorem wd_432 : Cond.methodLink "AuctionRoom$Table" 18 ⟨"AuctionRoom$Sheet", "rows", "()I"⟩ ∈ ym_T := ym_tg (k := 1) (i := 117) rfl rfl
set_option maxRecDepth 20000 in
theorem wd_433 : Cond.methodLink "AuctionRoom" 315 ⟨"AuctionRoom$Table", "lastFrom", "()J"⟩ ∈ ym_T := ym_tg (k := 1) (i := 118) rfl rfl
set_option maxRecDepth 20000 in
theorem wd_434 : Cond.instanceMethod ⟨"AuctionRoom$Table", "lastFrom", "()J"⟩ ∈ ym_T := ym_tg (k := 1) (i := 119) rfl rfl
set_option maxRecDepth 20000 in
theorem wd_435 : Cond.selects "AuctionRoom$Table" ⟨"AuctionRoom$Table", "lastFrom", "()J"⟩ ⟨"AuctionRoom$Table", "lastFrom", "()J"⟩ ∈ ym_T := ym_tg (k := 1) (i := 120) rfl rfl
set_option maxRecDepth 20000 in
theorem wd_436 : Cond.code yX6_lastFrom cX6_lastFrom 1 (some FieldType.long) ∈ ym_T := ym_tg (k := 1) (i := 121) rfl rfl
set_option maxRecDepth 20000 in
theorem wd_437 : Cond.methodLink "AuctionRoom$Table" 22 ⟨"AuctionRoom$Sheet", "at", "(II)J"⟩ ∈ ym_T := ym_tg (k := 1) (i := 122) rfl rfl
set_option maxRecDepth 20000 in
theorem wd_438 : Cond.methodLink "AuctionRoom" 318 ⟨"AuctionRoom$Table", "add", "(JJ)V"⟩ ∈ ym_T := ym_tg (k := 1) (i := 123) rfl rfl
set_option maxRecDepth 20000 in
theorem wd_439 : Cond.instanceMethod ⟨"AuctionRoom$Table", "add", "(JJ)V"⟩ ∈ ym_T := ym_tg (k := 1) (i := 124) rfl rfl
set_option maxRecDepth 20000 in
theorem wd_440 : Cond.selects "AuctionRoom$Table" ⟨"AuctionRoom$Table", "add", "(JJ)V"⟩ ⟨"AuctionRoom$Table", "add", "(JJ)V"⟩ ∈ ym_T := ym_tg (k := 1) (i := 125) rfl rfl
set_option maxRecDepth 20000 in
theorem wd_441 : Cond.code yX6_add cX6_add 6 none ∈ ym_T := ym_tg (k := 1) (i := 126) rfl rfl
set_option maxRecDepth 20000 in
theorem wd_442 : Cond.methodLink "AuctionRoom$Table" 26 ⟨"AuctionRoom$Sheet", "addRow", "()I"⟩ ∈ ym_T := ym_tg (k := 1) (i := 127) rfl rfl
set_option maxRecDepth 20000 in
theorem wd_443 : Cond.methodLink "AuctionRoom$Table" 29 ⟨"AuctionRoom$Sheet", "put", "(IIJ)V"⟩ ∈ ym_T := ym_tg (k := 1) (i := 128) rfl rfl
set_option maxRecDepth 20000 in
theorem wd_444 : Cond.methodLink "AuctionRoomLaw" 39 ⟨"AuctionRoom", "premium", "(JI)J"⟩ ∈ ym_T := ym_tg (k := 1) (i := 129) rfl rfl
set_option maxRecDepth 20000 in
theorem wd_445 : Cond.instanceMethod ⟨"AuctionRoom", "premium", "(JI)J"⟩ ∈ ym_T := ym_tg (k := 1) (i := 130) rfl rfl
set_option maxRecDepth 20000 in
theorem wd_446 : Cond.selects "AuctionRoom" ⟨"AuctionRoom", "premium", "(JI)J"⟩ ⟨"AuctionRoom", "premium", "(JI)J"⟩ ∈ ym_T := ym_tg (k := 1) (i := 131) rfl rfl
set_option maxRecDepth 20000 in
theorem wd_447 : Cond.code yX7_premium cX7_premium 4 (some FieldType.long) ∈ ym_T := ym_tg (k := 1) (i := 132) rfl rfl
set_option maxRecDepth 20000 in
theorem wd_448 : Cond.methodLink "AuctionRoomLaw" 44 ⟨"AuctionRoom", "tax", "(II)J"⟩ ∈ ym_T := ym_tg (k := 1) (i := 133) rfl rfl
set_option maxRecDepth 20000 in
theorem wd_449 : Cond.instanceMethod ⟨"AuctionRoom", "tax", "(II)J"⟩ ∈ ym_T := ym_tg (k := 1) (i := 134) rfl rfl
set_option maxRecDepth 20000 in
theorem wd_450 : Cond.selects "AuctionRoom" ⟨"AuctionRoom", "tax", "(II)J"⟩ ⟨"AuctionRoom", "tax", "(II)J"⟩ ∈ ym_T := ym_tg (k := 1) (i := 135) rfl rfl
set_option maxRecDepth 20000 in
theorem wd_451 : Cond.code yX7_tax cX7_tax 5 (some FieldType.long) ∈ ym_T := ym_tg (k := 1) (i := 136) rfl rfl
set_option maxRecDepth 20000 in
theorem wd_452 : Cond.methodLink "AuctionRoomLaw" 48 ⟨"AuctionRoom", "call", "(I)J"⟩ ∈ ym_T := ym_tg (k := 1) (i := 137) rfl rfl
set_option maxRecDepth 20000 in
theorem wd_453 : Cond.instanceMethod ⟨"AuctionRoom", "call", "(I)J"⟩ ∈ ym_T := ym_tg (k := 1) (i := 138) rfl rfl
set_option maxRecDepth 20000 in
theorem wd_454 : Cond.selects "AuctionRoom" ⟨"AuctionRoom", "call", "(I)J"⟩ ⟨"AuctionRoom", "call", "(I)J"⟩ ∈ ym_T := ym_tg (k := 1) (i := 139) rfl rfl
set_option maxRecDepth 20000 in
theorem wd_455 : Cond.code yX7_call cX7_call 3 (some FieldType.long) ∈ ym_T := ym_tg (k := 1) (i := 140) rfl rfl
set_option maxRecDepth 20000 in
theorem wd_456 : Cond.methodLink "AuctionRoom" 141 ⟨"AuctionRoom$Lot", "startNow", "()J"⟩ ∈ ym_T := ym_tg (k := 1) (i := 141) rfl rfl
set_option maxRecDepth 20000 in
theorem wd_457 : Cond.instanceMethod ⟨"AuctionRoom$Lot", "startNow", "()J"⟩ ∈ ym_T := ym_tg (k := 1) (i := 142) rfl rfl
set_option maxRecDepth 20000 in
theorem wd_458 : Cond.selects "AuctionRoom$Lot" ⟨"AuctionRoom$Lot", "startNow", "()J"⟩ ⟨"AuctionRoom$Lot", "startNow", "()J"⟩ ∈ ym_T := ym_tg (k := 1) (i := 143) rfl rfl
set_option maxRecDepth 20000 in
theorem wd_459 : Cond.code yX4_startNow cX4_startNow 1 (some FieldType.long) ∈ ym_T := ym_tg (k := 1) (i := 144) rfl rfl
set_option maxRecDepth 20000 in
theorem wd_460 : Cond.methodLink "AuctionRoom" 145 ⟨"AuctionRoom", "askPapers", "(LAuctionRoom$Lot;)V"⟩ ∈ ym_T := ym_tg (k := 1) (i := 145) rfl rfl
set_option maxRecDepth 20000 in
theorem wd_462 : Cond.instanceMethod ⟨"AuctionRoom", "askPapers", "(LAuctionRoom$Lot;)V"⟩ ∈ ym_T := ym_tg (k := 1) (i := 147) rfl rfl
set_option maxRecDepth 20000 in
theorem wd_463 : Cond.code yX7_askPapers cX7_askPapers 9 none ∈ ym_T := ym_tg (k := 1) (i := 148) rfl rfl
set_option maxRecDepth 20000 in
theorem wd_464 : Cond.methodLink "AuctionRoom" 183 ⟨"AuctionRoom$Lot", "isRaised", "()Z"⟩ ∈ ym_T := ym_tg (k := 1) (i := 149) rfl rfl
set_option maxRecDepth 20000 in
theorem wd_465 : Cond.instanceMethod ⟨"AuctionRoom$Lot", "isRaised", "()Z"⟩ ∈ ym_T := ym_tg (k := 1) (i := 150) rfl rfl
set_option maxRecDepth 20000 in
theorem wd_466 : Cond.selects "AuctionRoom$Lot" ⟨"AuctionRoom$Lot", "isRaised", "()Z"⟩ ⟨"AuctionRoom$Lot", "isRaised", "()Z"⟩ ∈ ym_T := ym_tg (k := 1) (i := 151) rfl rfl
set_option maxRecDepth 20000 in
theorem wd_467 : Cond.code yX4_isRaised cX4_isRaised 1 (some FieldType.boolean) ∈ ym_T := ym_tg (k := 1) (i := 152) rfl rfl
set_option maxRecDepth 20000 in
theorem wd_468 : Cond.methodLink "AuctionRoom" 325 ⟨"AuctionRoom$Lot", "greatestRival", "(I)I"⟩ ∈ ym_T := ym_tg (k := 1) (i := 153) rfl rfl
set_option maxRecDepth 20000 in
theorem wd_469 : Cond.instanceMethod ⟨"AuctionRoom$Lot", "greatestRival", "(I)I"⟩ ∈ ym_T := ym_tg (k := 1) (i := 154) rfl rfl
set_option maxRecDepth 20000 in
theorem wd_470 : Cond.selects "AuctionRoom$Lot" ⟨"AuctionRoom$Lot", "greatestRival", "(I)I"⟩ ⟨"AuctionRoom$Lot", "greatestRival", "(I)I"⟩ ∈ ym_T := ym_tg (k := 1) (i := 155) rfl rfl
set_option maxRecDepth 20000 in
theorem wd_471 : Cond.code yX4_greatestRival cX4_greatestRival 5 (some FieldType.int) ∈ ym_T := ym_tg (k := 1) (i := 156) rfl rfl
set_option maxRecDepth 20000 in
theorem wd_472 : Cond.methodLink "AuctionRoom$Lot" 62 ⟨"AuctionRoom$Sheet", "rows", "()I"⟩ ∈ ym_T := ym_tg (k := 1) (i := 157) rfl rfl
set_option maxRecDepth 20000 in
theorem wd_473 : Cond.methodLink "AuctionRoom$Lot" 102 ⟨"AuctionRoom$Lot", "isRival", "(I)Z"⟩ ∈ ym_T := ym_tg (k := 1) (i := 158) rfl rfl
set_option maxRecDepth 20000 in
theorem wd_474 : Cond.instanceMethod ⟨"AuctionRoom$Lot", "isRival", "(I)Z"⟩ ∈ ym_T := ym_tg (k := 1) (i := 159) rfl rfl
set_option maxRecDepth 20000 in
theorem wd_475 : Cond.selects "AuctionRoom$Lot" ⟨"AuctionRoom$Lot", "isRival", "(I)Z"⟩ ⟨"AuctionRoom$Lot", "isRival", "(I)Z"⟩ ∈ ym_T := ym_tg (k := 1) (i := 160) rfl rfl
set_option maxRecDepth 20000 in
theorem wd_476 : Cond.code yX4_isRival cX4_isRival 2 (some FieldType.boolean) ∈ ym_T := ym_tg (k := 1) (i := 161) rfl rfl
set_option maxRecDepth 20000 in
theorem wd_477 : Cond.methodLink "AuctionRoom$Lot" 98 ⟨"AuctionRoom$Lot", "isLimit", "(I)Z"⟩ ∈ ym_T := ym_tg (k := 1) (i := 162) rfl rfl
set_option maxRecDepth 20000 in
theorem wd_478 : Cond.instanceMethod ⟨"AuctionRoom$Lot", "isLimit", "(I)Z"⟩ ∈ ym_T := ym_tg (k := 1) (i := 163) rfl rfl
set_option maxRecDepth 20000 in
theorem wd_479 : Cond.selects "AuctionRoom$Lot" ⟨"AuctionRoom$Lot", "isLimit", "(I)Z"⟩ ⟨"AuctionRoom$Lot", "isLimit", "(I)Z"⟩ ∈ ym_T := ym_tg (k := 1) (i := 164) rfl rfl
set_option maxRecDepth 20000 in
theorem wd_480 : Cond.code yX4_isLimit cX4_isLimit 2 (some FieldType.boolean) ∈ ym_T := ym_tg (k := 1) (i := 165) rfl rfl
set_option maxRecDepth 20000 in
theorem wd_481 : Cond.methodLink "AuctionRoom$Lot" 65 ⟨"AuctionRoom$Sheet", "at", "(II)J"⟩ ∈ ym_T := ym_tg (k := 1) (i := 166) rfl rfl
set_option maxRecDepth 20000 in
theorem wd_482 : Cond.methodLink "AuctionRoom$Lot" 94 ⟨"AuctionRoom$Lot", "startNow", "()J"⟩ ∈ ym_T := ym_tg (k := 1) (i := 167) rfl rfl
set_option maxRecDepth 20000 in
theorem wd_483 : Cond.methodLink "AuctionRoom$Lot" 105 ⟨"AuctionRoom$Lot", "goesAhead", "(II)Z"⟩ ∈ ym_T := ym_tg (k := 1) (i := 168) rfl rfl
set_option maxRecDepth 20000 in
theorem wd_485 : Cond.instanceMethod ⟨"AuctionRoom$Lot", "goesAhead", "(II)Z"⟩ ∈ ym_T := ym_tg (k := 1) (i := 170) rfl rfl
set_option maxRecDepth 20000 in
theorem wd_486 : Cond.code yX4_goesAhead cX4_goesAhead 3 (some FieldType.boolean) ∈ ym_T := ym_tg (k := 1) (i := 171) rfl rfl
set_option maxRecDepth 20000 in
theorem wd_487 : Cond.methodLink "AuctionRoom$Lot" 109 ⟨"AuctionRoom$Lot", "rivalSum", "(I)J"⟩ ∈ ym_T := ym_tg (k := 1) (i := 172) rfl rfl
set_option maxRecDepth 20000 in
theorem wd_488 : Cond.instanceMethod ⟨"AuctionRoom$Lot", "rivalSum", "(I)J"⟩ ∈ ym_T := ym_tg (k := 1) (i := 173) rfl rfl
set_option maxRecDepth 20000 in
theorem wd_489 : Cond.selects "AuctionRoom$Lot" ⟨"AuctionRoom$Lot", "rivalSum", "(I)J"⟩ ⟨"AuctionRoom$Lot", "rivalSum", "(I)J"⟩ ∈ ym_T := ym_tg (k := 1) (i := 174) rfl rfl
set_option maxRecDepth 20000 in
theorem wd_490 : Cond.code yX4_rivalSum cX4_rivalSum 2 (some FieldType.long) ∈ ym_T := ym_tg (k := 1) (i := 175) rfl rfl
set_option maxRecDepth 20000 in
theorem wd_491 : Cond.methodLink "AuctionRoom$Lot" 112 ⟨"AuctionRoom$Lot", "rivalNumber", "(I)J"⟩ ∈ ym_T := ym_tg (k := 1) (i := 176) rfl rfl
set_option maxRecDepth 20000 in
theorem wd_492 : Cond.instanceMethod ⟨"AuctionRoom$Lot", "rivalNumber", "(I)J"⟩ ∈ ym_T := ym_tg (k := 1) (i := 177) rfl rfl
set_option maxRecDepth 20000 in
theorem wd_493 : Cond.selects "AuctionRoom$Lot" ⟨"AuctionRoom$Lot", "rivalNumber", "(I)J"⟩ ⟨"AuctionRoom$Lot", "rivalNumber", "(I)J"⟩ ∈ ym_T := ym_tg (k := 1) (i := 178) rfl rfl
set_option maxRecDepth 20000 in
theorem wd_494 : Cond.code yX4_rivalNumber cX4_rivalNumber 2 (some FieldType.long) ∈ ym_T := ym_tg (k := 1) (i := 179) rfl rfl
set_option maxRecDepth 20000 in
theorem wd_495 : Cond.methodLink "AuctionRoom" 328 ⟨"AuctionRoom$Lot", "rivalNumber", "(I)J"⟩ ∈ ym_T := ym_tg (k := 1) (i := 180) rfl rfl
set_option maxRecDepth 20000 in
theorem wd_496 : Cond.methodLink "AuctionRoom" 331 ⟨"AuctionRoom$Lot", "isLimit", "(I)Z"⟩ ∈ ym_T := ym_tg (k := 1) (i := 181) rfl rfl
set_option maxRecDepth 20000 in
theorem wd_497 : Cond.methodLink "AuctionRoom" 334 ⟨"AuctionRoom$Lot", "rivalSum", "(I)J"⟩ ∈ ym_T := ym_tg (k := 1) (i := 182) rfl rfl
set_option maxRecDepth 20000 in
theorem wd_498 : Cond.methodLink "AuctionRoom" 337 ⟨"AuctionRoom$Table", "after", "(J)J"⟩ ∈ ym_T := ym_tg (k := 1) (i := 183) rfl rfl
set_option maxRecDepth 20000 in
theorem wd_499 : Cond.instanceMethod ⟨"AuctionRoom$Table", "after", "(J)J"⟩ ∈ ym_T := ym_tg (k := 1) (i := 184) rfl rfl
set_option maxRecDepth 20000 in
theorem wd_500 : Cond.selects "AuctionRoom$Table" ⟨"AuctionRoom$Table", "after", "(J)J"⟩ ⟨"AuctionRoom$Table", "after", "(J)J"⟩ ∈ ym_T := ym_tg (k := 1) (i := 185) rfl rfl
set_option maxRecDepth 20000 in
theorem wd_501 : Cond.code yX6_after cX6_after 7 (some FieldType.long) ∈ ym_T := ym_tg (k := 1) (i := 186) rfl rfl
set_option maxRecDepth 20000 in
theorem wd_502 : Cond.methodLink "AuctionRoom" 208 ⟨"java/lang/Math", "max", "(JJ)J"⟩ ∈ ym_T := ym_tg (k := 1) (i := 187) rfl rfl
set_option maxRecDepth 20000 in
theorem wd_503 : Cond.static ⟨"java/lang/Math", "max", "(JJ)J"⟩ ∈ ym_T := ym_tg (k := 1) (i := 188) rfl rfl
set_option maxRecDepth 20000 in
theorem wd_504 : Cond.code yJ9_max_f86c9 cJ9_max_f86c9 4 (some FieldType.long) ∈ ym_T := ym_tg (k := 1) (i := 189) rfl rfl
set_option maxRecDepth 20000 in
theorem wd_505 : Cond.methodLink "AuctionRoom" 341 ⟨"java/lang/Math", "min", "(JJ)J"⟩ ∈ ym_T := ym_tg (k := 1) (i := 190) rfl rfl
set_option maxRecDepth 20000 in
theorem wd_506 : Cond.static ⟨"java/lang/Math", "min", "(JJ)J"⟩ ∈ ym_T := ym_tg (k := 1) (i := 191) rfl rfl
set_option maxRecDepth 20000 in
theorem wd_507 : Cond.code yJ9_min_f86c9 cJ9_min_f86c9 4 (some FieldType.long) ∈ ym_T := ym_tg (k := 1) (i := 192) rfl rfl
set_option maxRecDepth 20000 in
theorem wd_508 : Cond.methodLink "AuctionRoom" 321 ⟨"AuctionRoom$Sheet", "at", "(II)J"⟩ ∈ ym_T := ym_tg (k := 1) (i := 193) rfl rfl
set_option maxRecDepth 20000 in
theorem wd_509 : Cond.methodLink "AuctionRoom" 201 ⟨"AuctionRoom$Lot", "standingBidder", "()I"⟩ ∈ ym_T := ym_tg (k := 1) (i := 194) rfl rfl
set_option maxRecDepth 20000 in
theorem wd_510 : Cond.instanceMethod ⟨"AuctionRoom$Lot", "standingBidder", "()I"⟩ ∈ ym_T := ym_tg (k := 1) (i := 195) rfl rfl
set_option maxRecDepth 20000 in
theorem wd_511 : Cond.selects "AuctionRoom$Lot" ⟨"AuctionRoom$Lot", "standingBidder", "()I"⟩ ⟨"AuctionRoom$Lot", "standingBidder", "()I"⟩ ∈ ym_T := ym_tg (k := 1) (i := 196) rfl rfl
set_option maxRecDepth 20000 in
theorem wd_512 : Cond.code yX4_standingBidder cX4_standingBidder 1 (some FieldType.int) ∈ ym_T := ym_tg (k := 1) (i := 197) rfl rfl
set_option maxRecDepth 20000 in
theorem wd_513 : Cond.methodLink "AuctionRoom$Lot" 59 ⟨"AuctionRoom$Lot", "wasOpened", "()Z"⟩ ∈ ym_T := ym_tg (k := 1) (i := 198) rfl rfl
set_option maxRecDepth 20000 in
theorem wd_514 : Cond.instanceMethod ⟨"AuctionRoom$Lot", "wasOpened", "()Z"⟩ ∈ ym_T := ym_tg (k := 1) (i := 199) rfl rfl
set_option maxRecDepth 20000 in
theorem wd_515 : Cond.selects "AuctionRoom$Lot" ⟨"AuctionRoom$Lot", "wasOpened", "()Z"⟩ ⟨"AuctionRoom$Lot", "wasOpened", "()Z"⟩ ∈ ym_T := ym_tg (k := 1) (i := 200) rfl rfl
set_option maxRecDepth 20000 in
theorem wd_516 : Cond.code yX4_wasOpened cX4_wasOpened 1 (some FieldType.boolean) ∈ ym_T := ym_tg (k := 1) (i := 201) rfl rfl
set_option maxRecDepth 20000 in
theorem wd_517 : Cond.methodLink "AuctionRoom" 198 ⟨"AuctionRoom$Lot", "standingSum", "()J"⟩ ∈ ym_T := ym_tg (k := 1) (i := 202) rfl rfl
set_option maxRecDepth 20000 in
theorem wd_518 : Cond.instanceMethod ⟨"AuctionRoom$Lot", "standingSum", "()J"⟩ ∈ ym_T := ym_tg (k := 1) (i := 203) rfl rfl
set_option maxRecDepth 20000 in
theorem wd_519 : Cond.selects "AuctionRoom$Lot" ⟨"AuctionRoom$Lot", "standingSum", "()J"⟩ ⟨"AuctionRoom$Lot", "standingSum", "()J"⟩ ∈ ym_T := ym_tg (k := 1) (i := 204) rfl rfl
set_option maxRecDepth 20000 in
theorem wd_520 : Cond.code yX4_standingSum cX4_standingSum 1 (some FieldType.long) ∈ ym_T := ym_tg (k := 1) (i := 205) rfl rfl
set_option maxRecDepth 20000 in
theorem wd_521 : Cond.methodLink "AuctionRoom" 215 ⟨"AuctionRoom$Lot", "enter", "(IJ)V"⟩ ∈ ym_T := ym_tg (k := 1) (i := 206) rfl rfl
set_option maxRecDepth 20000 in
theorem wd_522 : Cond.instanceMethod ⟨"AuctionRoom$Lot", "enter", "(IJ)V"⟩ ∈ ym_T := ym_tg (k := 1) (i := 207) rfl rfl
set_option maxRecDepth 20000 in
theorem wd_523 : Cond.selects "AuctionRoom$Lot" ⟨"AuctionRoom$Lot", "enter", "(IJ)V"⟩ ⟨"AuctionRoom$Lot", "enter", "(IJ)V"⟩ ∈ ym_T := ym_tg (k := 1) (i := 208) rfl rfl
set_option maxRecDepth 20000 in
theorem wd_524 : Cond.code yX4_enter cX4_enter 5 none ∈ ym_T := ym_tg (k := 1) (i := 209) rfl rfl
set_option maxRecDepth 20000 in
theorem wd_525 : Cond.methodLink "AuctionRoom$Lot" 76 ⟨"AuctionRoom$Sheet", "addRow", "()I"⟩ ∈ ym_T := ym_tg (k := 1) (i := 210) rfl rfl
set_option maxRecDepth 20000 in
theorem wd_526 : Cond.methodLink "AuctionRoom$Lot" 79 ⟨"AuctionRoom$Sheet", "put", "(IIJ)V"⟩ ∈ ym_T := ym_tg (k := 1) (i := 211) rfl rfl
set_option maxRecDepth 20000 in
theorem wd_527 : Cond.methodLink "AuctionRoomLaw" 53 ⟨"AuctionRoom", "bid", "(IIJ)J"⟩ ∈ ym_T := ym_tg (k := 1) (i := 212) rfl rfl
set_option maxRecDepth 20000 in
theorem wd_528 : Cond.instanceMethod ⟨"AuctionRoom", "bid", "(IIJ)J"⟩ ∈ ym_T := ym_tg (k := 1) (i := 213) rfl rfl
set_option maxRecDepth 20000 in
theorem wd_529 : Cond.selects "AuctionRoom" ⟨"AuctionRoom", "bid", "(IIJ)J"⟩ ⟨"AuctionRoom", "bid", "(IIJ)J"⟩ ∈ ym_T := ym_tg (k := 1) (i := 214) rfl rfl
set_option maxRecDepth 20000 in
theorem wd_530 : Cond.code yX7_bid cX7_bid 7 (some FieldType.long) ∈ ym_T := ym_tg (k := 1) (i := 215) rfl rfl
set_option maxRecDepth 20000 in
theorem wd_531 : Cond.methodLink "AuctionRoom" 152 ⟨"AuctionRoom$Bidder", "isPaper", "()Z"⟩ ∈ ym_T := ym_tg (k := 1) (i := 216) rfl rfl
set_option maxRecDepth 20000 in
theorem wd_532 : Cond.instanceMethod ⟨"AuctionRoom$Bidder", "isPaper", "()Z"⟩ ∈ ym_T := ym_tg (k := 1) (i := 217) rfl rfl
set_option maxRecDepth 20000 in
theorem wd_533 : Cond.selects "AuctionRoom$Bidder" ⟨"AuctionRoom$Bidder", "isPaper", "()Z"⟩ ⟨"AuctionRoom$Bidder", "isPaper", "()Z"⟩ ∈ ym_T := ym_tg (k := 1) (i := 218) rfl rfl
set_option maxRecDepth 20000 in
theorem wd_534 : Cond.code yX0_isPaper cX0_isPaper 1 (some FieldType.boolean) ∈ ym_T := ym_tg (k := 1) (i := 219) rfl rfl
set_option maxRecDepth 20000 in
theorem wd_535 : Cond.methodLink "AuctionRoom" 156 ⟨"AuctionRoom$Lot", "isOpen", "()Z"⟩ ∈ ym_T := ym_tg (k := 1) (i := 220) rfl rfl
set_option maxRecDepth 20000 in
theorem wd_536 : Cond.instanceMethod ⟨"AuctionRoom$Lot", "isOpen", "()Z"⟩ ∈ ym_T := ym_tg (k := 1) (i := 221) rfl rfl
set_option maxRecDepth 20000 in
theorem wd_537 : Cond.selects "AuctionRoom$Lot" ⟨"AuctionRoom$Lot", "isOpen", "()Z"⟩ ⟨"AuctionRoom$Lot", "isOpen", "()Z"⟩ ∈ ym_T := ym_tg (k := 1) (i := 222) rfl rfl
set_option maxRecDepth 20000 in
theorem wd_538 : Cond.code yX4_isOpen cX4_isOpen 1 (some FieldType.boolean) ∈ ym_T := ym_tg (k := 1) (i := 223) rfl rfl
set_option maxRecDepth 20000 in
theorem wd_539 : Cond.methodLink "AuctionRoom$Lot" 51 ⟨"AuctionRoom$Lot", "stateNow", "()I"⟩ ∈ ym_T := ym_tg (k := 1) (i := 224) rfl rfl
set_option maxRecDepth 20000 in
theorem wd_540 : Cond.methodLink "AuctionRoom" 159 ⟨"AuctionRoom$Lot", "whyNotOpen", "()I"⟩ ∈ ym_T := ym_tg (k := 1) (i := 225) rfl rfl
set_option maxRecDepth 20000 in
theorem wd_541 : Cond.instanceMethod ⟨"AuctionRoom$Lot", "whyNotOpen", "()I"⟩ ∈ ym_T := ym_tg (k := 1) (i := 226) rfl rfl
set_option maxRecDepth 20000 in
theorem wd_542 : Cond.selects "AuctionRoom$Lot" ⟨"AuctionRoom$Lot", "whyNotOpen", "()I"⟩ ⟨"AuctionRoom$Lot", "whyNotOpen", "()I"⟩ ∈ ym_T := ym_tg (k := 1) (i := 227) rfl rfl
set_option maxRecDepth 20000 in
theorem wd_543 : Cond.code yX4_whyNotOpen cX4_whyNotOpen 1 (some FieldType.int) ∈ ym_T := ym_tg (k := 1) (i := 228) rfl rfl
set_option maxRecDepth 20000 in
theorem wd_544 : Cond.methodLink "AuctionRoom$Lot" 55 ⟨"AuctionRoom$Lot", "hasBook", "()Z"⟩ ∈ ym_T := ym_tg (k := 1) (i := 229) rfl rfl
set_option maxRecDepth 20000 in
theorem wd_545 : Cond.instanceMethod ⟨"AuctionRoom$Lot", "hasBook", "()Z"⟩ ∈ ym_T := ym_tg (k := 1) (i := 230) rfl rfl
set_option maxRecDepth 20000 in
theorem wd_546 : Cond.selects "AuctionRoom$Lot" ⟨"AuctionRoom$Lot", "hasBook", "()Z"⟩ ⟨"AuctionRoom$Lot", "hasBook", "()Z"⟩ ∈ ym_T := ym_tg (k := 1) (i := 231) rfl rfl
set_option maxRecDepth 20000 in
theorem wd_547 : Cond.code yX4_hasBook cX4_hasBook 1 (some FieldType.boolean) ∈ ym_T := ym_tg (k := 1) (i := 232) rfl rfl
set_option maxRecDepth 20000 in
theorem wd_548 : Cond.methodLink "AuctionRoom" 162 ⟨"AuctionRoom$Lot", "wasOpened", "()Z"⟩ ∈ ym_T := ym_tg (k := 1) (i := 233) rfl rfl
set_option maxRecDepth 20000 in
theorem wd_549 : Cond.methodLink "AuctionRoom" 165 ⟨"AuctionRoom$Lot", "hasBidderAlready", "(I)Z"⟩ ∈ ym_T := ym_tg (k := 1) (i := 234) rfl rfl
set_option maxRecDepth 20000 in
theorem wd_550 : Cond.instanceMethod ⟨"AuctionRoom$Lot", "hasBidderAlready", "(I)Z"⟩ ∈ ym_T := ym_tg (k := 1) (i := 235) rfl rfl
set_option maxRecDepth 20000 in
theorem wd_551 : Cond.selects "AuctionRoom$Lot" ⟨"AuctionRoom$Lot", "hasBidderAlready", "(I)Z"⟩ ⟨"AuctionRoom$Lot", "hasBidderAlready", "(I)Z"⟩ ∈ ym_T := ym_tg (k := 1) (i := 236) rfl rfl
set_option maxRecDepth 20000 in
theorem wd_552 : Cond.code yX4_hasBidderAlready cX4_hasBidderAlready 2 (some FieldType.boolean) ∈ ym_T := ym_tg (k := 1) (i := 237) rfl rfl
set_option maxRecDepth 20000 in
theorem wd_553 : Cond.methodLink "AuctionRoom$Lot" 69 ⟨"AuctionRoom$Sheet", "rowOf", "(I)I"⟩ ∈ ym_T := ym_tg (k := 1) (i := 238) rfl rfl
set_option maxRecDepth 20000 in
theorem wd_554 : Cond.methodLink "AuctionRoom$Lot" 73 ⟨"AuctionRoom$Lot", "standingBidder", "()I"⟩ ∈ ym_T := ym_tg (k := 1) (i := 239) rfl rfl
set_option maxRecDepth 20000 in
theorem wd_555 : Cond.methodLink "AuctionRoom" 168 ⟨"AuctionRoom$Bodies", "askFor", "(LAuctionRoom$Lot;)J"⟩ ∈ ym_T := ym_tg (k := 2) (i := 0) rfl rfl
set_option maxRecDepth 20000 in
theorem wd_556 : Cond.instanceMethod ⟨"AuctionRoom$Bodies", "askFor", "(LAuctionRoom$Lot;)J"⟩ ∈ ym_T := ym_tg (k := 2) (i := 1) rfl rfl
set_option maxRecDepth 20000 in
theorem wd_557 : Cond.selects "AuctionRoom$Bodies" ⟨"AuctionRoom$Bodies", "askFor", "(LAuctionRoom$Lot;)J"⟩ ⟨"AuctionRoom$Bodies", "askFor", "(LAuctionRoom$Lot;)J"⟩ ∈ ym_T := ym_tg (k := 2) (i := 2) rfl rfl
set_option maxRecDepth 20000 in
theorem wd_558 : Cond.code yX1_askFor cX1_askFor 3 (some FieldType.long) ∈ ym_T := ym_tg (k := 2) (i := 3) rfl rfl
set_option maxRecDepth 20000 in
theorem wd_559 : Cond.methodLink "AuctionRoom$Bodies" 28 ⟨"AuctionRoom$Bodies", "run", "(I)V"⟩ ∈ ym_T := ym_tg (k := 2) (i := 4) rfl rfl
set_option maxRecDepth 20000 in
theorem wd_561 : Cond.instanceMethod ⟨"AuctionRoom$Bodies", "run", "(I)V"⟩ ∈ ym_T := ym_tg (k := 2) (i := 6) rfl rfl
set_option maxRecDepth 20000 in
theorem wd_562 : Cond.code yX1_run cX1_run 2 none ∈ ym_T := ym_tg (k := 2) (i := 7) rfl rfl
set_option maxRecDepth 20000 in
theorem wd_563 : Cond.methodLink "AuctionRoom$Bodies" 36 ⟨"AuctionRoom$Cells", "get", "(I)J"⟩ ∈ ym_T := ym_tg (k := 2) (i := 8) rfl rfl
set_option maxRecDepth 20000 in
theorem wd_564 : Cond.methodLink "AuctionRoom$Bodies" 42 ⟨"AuctionRoom$Lot", "standingBidder", "()I"⟩ ∈ ym_T := ym_tg (k := 2) (i := 9) rfl rfl
set_option maxRecDepth 20000 in
theorem wd_565 : Cond.methodLink "AuctionRoom$Bodies" 46 ⟨"AuctionRoom$Lot", "startNow", "()J"⟩ ∈ ym_T := ym_tg (k := 2) (i := 10) rfl rfl
set_option maxRecDepth 20000 in
theorem wd_566 : Cond.methodLink "AuctionRoom$Bodies" 50 ⟨"AuctionRoom$Lot", "standingSum", "()J"⟩ ∈ ym_T := ym_tg (k := 2) (i := 11) rfl rfl
set_option maxRecDepth 20000 in
theorem wd_567 : Cond.methodLink "AuctionRoom$Bodies" 53 ⟨"AuctionRoom$Table", "after", "(J)J"⟩ ∈ ym_T := ym_tg (k := 2) (i := 12) rfl rfl
set_option maxRecDepth 20000 in
theorem wd_568 : Cond.methodLink "AuctionRoom" 172 ⟨"AuctionRoom$Bodies", "mayBid", "(LAuctionRoom$Bidder;LAuctionRoom$Lot;J[LAuctionRoom$Lot;I)Z"⟩ ∈ ym_T := ym_tg (k := 2) (i := 13) rfl rfl
set_option maxRecDepth 20000 in
theorem wd_569 : Cond.instanceMethod ⟨"AuctionRoom$Bodies", "mayBid", "(LAuctionRoom$Bidder;LAuctionRoom$Lot;J[LAuctionRoom$Lot;I)Z"⟩ ∈ ym_T := ym_tg (k := 2) (i := 14) rfl rfl
set_option maxRecDepth 20000 in
theorem wd_570 : Cond.selects "AuctionRoom$Bodies" ⟨"AuctionRoom$Bodies", "mayBid", "(LAuctionRoom$Bidder;LAuctionRoom$Lot;J[LAuctionRoom$Lot;I)Z"⟩ ⟨"AuctionRoom$Bodies", "mayBid", "(LAuctionRoom$Bidder;LAuctionRoom$Lot;J[LAuctionRoom$Lot;I)Z"⟩ ∈ ym_T := ym_tg (k := 2) (i := 15) rfl rfl
set_option maxRecDepth 20000 in
theorem wd_571 : Cond.code yX1_mayBid cX1_mayBid 9 (some FieldType.boolean) ∈ ym_T := ym_tg (k := 2) (i := 16) rfl rfl
set_option maxRecDepth 20000 in
theorem wd_572 : Cond.methodLink "AuctionRoom$Bodies" 70 ⟨"AuctionRoom$Bodies", "piecesOf", "(LAuctionRoom$Lot;)J"⟩ ∈ ym_T := ym_tg (k := 2) (i := 17) rfl rfl
set_option maxRecDepth 20000 in
theorem wd_573 : Cond.instanceMethod ⟨"AuctionRoom$Bodies", "piecesOf", "(LAuctionRoom$Lot;)J"⟩ ∈ ym_T := ym_tg (k := 2) (i := 18) rfl rfl
set_option maxRecDepth 20000 in
theorem wd_574 : Cond.selects "AuctionRoom$Bodies" ⟨"AuctionRoom$Bodies", "piecesOf", "(LAuctionRoom$Lot;)J"⟩ ⟨"AuctionRoom$Bodies", "piecesOf", "(LAuctionRoom$Lot;)J"⟩ ∈ ym_T := ym_tg (k := 2) (i := 19) rfl rfl
set_option maxRecDepth 20000 in
theorem wd_575 : Cond.code yX1_piecesOf cX1_piecesOf 2 (some FieldType.long) ∈ ym_T := ym_tg (k := 2) (i := 20) rfl rfl
set_option maxRecDepth 20000 in
theorem wd_576 : Cond.constantLong "AuctionRoom$Bodies" 59 12 ∈ ym_T := ym_tg (k := 2) (i := 21) rfl rfl
set_option maxRecDepth 20000 in
theorem wd_577 : Cond.constantLong "AuctionRoom$Bodies" 61 2 ∈ ym_T := ym_tg (k := 2) (i := 22) rfl rfl
set_option maxRecDepth 20000 in
theorem wd_578 : Cond.methodLink "AuctionRoom$Bodies" 77 ⟨"AuctionRoom$Bodies", "written", "(I[LAuctionRoom$Lot;I)J"⟩ ∈ ym_T := ym_tg (k := 2) (i := 23) rfl rfl
set_option maxRecDepth 20000 in
theorem wd_580 : Cond.instanceMethod ⟨"AuctionRoom$Bodies", "written", "(I[LAuctionRoom$Lot;I)J"⟩ ∈ ym_T := ym_tg (k := 2) (i := 25) rfl rfl
set_option maxRecDepth 20000 in
theorem wd_581 : Cond.code yX1_written cX1_written 9 (some FieldType.long) ∈ ym_T := ym_tg (k := 2) (i := 26) rfl rfl
set_option maxRecDepth 20000 in
theorem wd_582 : Cond.methodLink "AuctionRoom$Bodies" 84 ⟨"AuctionRoom$Lot", "isNewOrCalled", "()Z"⟩ ∈ ym_T := ym_tg (k := 2) (i := 27) rfl rfl
set_option maxRecDepth 20000 in
theorem wd_583 : Cond.instanceMethod ⟨"AuctionRoom$Lot", "isNewOrCalled", "()Z"⟩ ∈ ym_T := ym_tg (k := 2) (i := 28) rfl rfl
set_option maxRecDepth 20000 in
theorem wd_584 : Cond.selects "AuctionRoom$Lot" ⟨"AuctionRoom$Lot", "isNewOrCalled", "()Z"⟩ ⟨"AuctionRoom$Lot", "isNewOrCalled", "()Z"⟩ ∈ ym_T := ym_tg (k := 2) (i := 29) rfl rfl
set_option maxRecDepth 20000 in
theorem wd_585 : Cond.code yX4_isNewOrCalled cX4_isNewOrCalled 1 (some FieldType.boolean) ∈ ym_T := ym_tg (k := 2) (i := 30) rfl rfl
set_option maxRecDepth 20000 in
theorem wd_586 : Cond.methodLink "AuctionRoom$Bodies" 92 ⟨"AuctionRoom$Sheet", "rowOf", "(I)I"⟩ ∈ ym_T := ym_tg (k := 2) (i := 31) rfl rfl
set_option maxRecDepth 20000 in
theorem wd_587 : Cond.methodLink "AuctionRoom$Bodies" 98 ⟨"AuctionRoom$Sheet", "at", "(II)J"⟩ ∈ ym_T := ym_tg (k := 2) (i := 32) rfl rfl
set_option maxRecDepth 20000 in
theorem wd_588 : Cond.methodLink "AuctionRoom" 179 ⟨"AuctionRoom$Lot", "enterBid", "(IJI)V"⟩ ∈ ym_T := ym_tg (k := 2) (i := 33) rfl rfl
set_option maxRecDepth 20000 in
theorem wd_589 : Cond.instanceMethod ⟨"AuctionRoom$Lot", "enterBid", "(IJI)V"⟩ ∈ ym_T := ym_tg (k := 2) (i := 34) rfl rfl
set_option maxRecDepth 20000 in
theorem wd_590 : Cond.selects "AuctionRoom$Lot" ⟨"AuctionRoom$Lot", "enterBid", "(IJI)V"⟩ ⟨"AuctionRoom$Lot", "enterBid", "(IJI)V"⟩ ∈ ym_T := ym_tg (k := 2) (i := 35) rfl rfl
set_option maxRecDepth 20000 in
theorem wd_591 : Cond.code yX4_enterBid cX4_enterBid 5 none ∈ ym_T := ym_tg (k := 2) (i := 36) rfl rfl
set_option maxRecDepth 20000 in
theorem wd_592 : Cond.methodLink "AuctionRoom$Lot" 83 ⟨"AuctionRoom$Lot", "enter", "(IJ)V"⟩ ∈ ym_T := ym_tg (k := 2) (i := 37) rfl rfl
set_option maxRecDepth 20000 in
theorem wd_593 : Cond.methodLink "AuctionRoom$Lot" 86 ⟨"AuctionRoom$Cells", "put", "(IJ)V"⟩ ∈ ym_T := ym_tg (k := 2) (i := 38) rfl rfl
set_option maxRecDepth 20000 in
theorem wd_594 : Cond.methodLink "AuctionRoomLaw" 58 ⟨"AuctionRoom", "limit", "(IIJ)J"⟩ ∈ ym_T := ym_tg (k := 2) (i := 39) rfl rfl
set_option maxRecDepth 20000 in
theorem wd_595 : Cond.instanceMethod ⟨"AuctionRoom", "limit", "(IIJ)J"⟩ ∈ ym_T := ym_tg (k := 2) (i := 40) rfl rfl
set_option maxRecDepth 20000 in
theorem wd_596 : Cond.selects "AuctionRoom" ⟨"AuctionRoom", "limit", "(IIJ)J"⟩ ⟨"AuctionRoom", "limit", "(IIJ)J"⟩ ∈ ym_T := ym_tg (k := 2) (i := 41) rfl rfl
set_option maxRecDepth 20000 in
theorem wd_597 : Cond.code yX7_limit cX7_limit 7 (some FieldType.long) ∈ ym_T := ym_tg (k := 2) (i := 42) rfl rfl
set_option maxRecDepth 20000 in
theorem wd_598 : Cond.methodLink "AuctionRoom" 186 ⟨"AuctionRoom$Lot", "isNewOrCalled", "()Z"⟩ ∈ ym_T := ym_tg (k := 2) (i := 43) rfl rfl
set_option maxRecDepth 20000 in
theorem wd_599 : Cond.methodLink "AuctionRoom" 192 ⟨"AuctionRoom$Lot", "writeLimit", "(IJI)V"⟩ ∈ ym_T := ym_tg (k := 2) (i := 44) rfl rfl
set_option maxRecDepth 20000 in
theorem wd_600 : Cond.instanceMethod ⟨"AuctionRoom$Lot", "writeLimit", "(IJI)V"⟩ ∈ ym_T := ym_tg (k := 2) (i := 45) rfl rfl
set_option maxRecDepth 20000 in
theorem wd_601 : Cond.selects "AuctionRoom$Lot" ⟨"AuctionRoom$Lot", "writeLimit", "(IJI)V"⟩ ⟨"AuctionRoom$Lot", "writeLimit", "(IJI)V"⟩ ∈ ym_T := ym_tg (k := 2) (i := 46) rfl rfl
set_option maxRecDepth 20000 in
theorem wd_602 : Cond.code yX4_writeLimit cX4_writeLimit 6 none ∈ ym_T := ym_tg (k := 2) (i := 47) rfl rfl
set_option maxRecDepth 20000 in
theorem wd_603 : Cond.methodLink "AuctionRoomLaw" 62 ⟨"AuctionRoom", "ask", "(I)J"⟩ ∈ ym_T := ym_tg (k := 2) (i := 48) rfl rfl
set_option maxRecDepth 20000 in
theorem wd_604 : Cond.instanceMethod ⟨"AuctionRoom", "ask", "(I)J"⟩ ∈ ym_T := ym_tg (k := 2) (i := 49) rfl rfl
set_option maxRecDepth 20000 in
theorem wd_605 : Cond.selects "AuctionRoom" ⟨"AuctionRoom", "ask", "(I)J"⟩ ⟨"AuctionRoom", "ask", "(I)J"⟩ ∈ ym_T := ym_tg (k := 2) (i := 50) rfl rfl
set_option maxRecDepth 20000 in
theorem wd_606 : Cond.code yX7_ask cX7_ask 3 (some FieldType.long) ∈ ym_T := ym_tg (k := 2) (i := 51) rfl rfl
set_option maxRecDepth 20000 in
theorem wd_607 : Cond.methodLink "AuctionRoomLaw" 66 ⟨"AuctionRoom", "open", "(I)J"⟩ ∈ ym_T := ym_tg (k := 2) (i := 52) rfl rfl
set_option maxRecDepth 20000 in
theorem wd_608 : Cond.instanceMethod ⟨"AuctionRoom", "open", "(I)J"⟩ ∈ ym_T := ym_tg (k := 2) (i := 53) rfl rfl
set_option maxRecDepth 20000 in
theorem wd_609 : Cond.selects "AuctionRoom" ⟨"AuctionRoom", "open", "(I)J"⟩ ⟨"AuctionRoom", "open", "(I)J"⟩ ∈ ym_T := ym_tg (k := 2) (i := 54) rfl rfl
set_option maxRecDepth 20000 in
theorem wd_610 : Cond.code yX7_open cX7_open 3 (some FieldType.long) ∈ ym_T := ym_tg (k := 2) (i := 55) rfl rfl
set_option maxRecDepth 20000 in
theorem wd_611 : Cond.methodLink "AuctionRoom" 195 ⟨"AuctionRoom$Lot", "tellWinner", "()V"⟩ ∈ ym_T := ym_tg (k := 2) (i := 56) rfl rfl
set_option maxRecDepth 20000 in
theorem wd_612 : Cond.instanceMethod ⟨"AuctionRoom$Lot", "tellWinner", "()V"⟩ ∈ ym_T := ym_tg (k := 2) (i := 57) rfl rfl
set_option maxRecDepth 20000 in
theorem wd_613 : Cond.selects "AuctionRoom$Lot" ⟨"AuctionRoom$Lot", "tellWinner", "()V"⟩ ⟨"AuctionRoom$Lot", "tellWinner", "()V"⟩ ∈ ym_T := ym_tg (k := 2) (i := 58) rfl rfl
set_option maxRecDepth 20000 in
theorem wd_614 : Cond.code yX4_tellWinner cX4_tellWinner 8 none ∈ ym_T := ym_tg (k := 2) (i := 59) rfl rfl
set_option maxRecDepth 20000 in
theorem wd_615 : Cond.methodLink "AuctionRoom$Lot" 88 ⟨"java/lang/Math", "max", "(JJ)J"⟩ ∈ ym_T := ym_tg (k := 2) (i := 60) rfl rfl
set_option maxRecDepth 20000 in
theorem wd_616 : Cond.methodLink "AuctionRoomLaw" 70 ⟨"AuctionRoom", "tick", "(IJ)J"⟩ ∈ ym_T := ym_tg (k := 2) (i := 61) rfl rfl
set_option maxRecDepth 20000 in
theorem wd_617 : Cond.instanceMethod ⟨"AuctionRoom", "tick", "(IJ)J"⟩ ∈ ym_T := ym_tg (k := 2) (i := 62) rfl rfl
set_option maxRecDepth 20000 in
theorem wd_618 : Cond.selects "AuctionRoom" ⟨"AuctionRoom", "tick", "(IJ)J"⟩ ⟨"AuctionRoom", "tick", "(IJ)J"⟩ ∈ ym_T := ym_tg (k := 2) (i := 63) rfl rfl
set_option maxRecDepth 20000 in
theorem wd_619 : Cond.code yX7_tick cX7_tick 9 (some FieldType.long) ∈ ym_T := ym_tg (k := 2) (i := 64) rfl rfl
set_option maxRecDepth 20000 in
theorem wd_620 : Cond.methodLink "AuctionRoomLaw" 74 ⟨"AuctionRoom", "take", "(II)J"⟩ ∈ ym_T := ym_tg (k := 2) (i := 65) rfl rfl
set_option maxRecDepth 20000 in
theorem wd_621 : Cond.instanceMethod ⟨"AuctionRoom", "take", "(II)J"⟩ ∈ ym_T := ym_tg (k := 2) (i := 66) rfl rfl
set_option maxRecDepth 20000 in
theorem wd_622 : Cond.selects "AuctionRoom" ⟨"AuctionRoom", "take", "(II)J"⟩ ⟨"AuctionRoom", "take", "(II)J"⟩ ∈ ym_T := ym_tg (k := 2) (i := 67) rfl rfl
set_option maxRecDepth 20000 in
theorem wd_623 : Cond.code yX7_take cX7_take 5 (some FieldType.long) ∈ ym_T := ym_tg (k := 2) (i := 68) rfl rfl
set_option maxRecDepth 20000 in
theorem wd_624 : Cond.methodLink "AuctionRoomLaw" 78 ⟨"AuctionRoom", "bidderAt", "(II)J"⟩ ∈ ym_T := ym_tg (k := 2) (i := 69) rfl rfl
set_option maxRecDepth 20000 in
theorem wd_625 : Cond.instanceMethod ⟨"AuctionRoom", "bidderAt", "(II)J"⟩ ∈ ym_T := ym_tg (k := 2) (i := 70) rfl rfl
set_option maxRecDepth 20000 in
theorem wd_626 : Cond.selects "AuctionRoom" ⟨"AuctionRoom", "bidderAt", "(II)J"⟩ ⟨"AuctionRoom", "bidderAt", "(II)J"⟩ ∈ ym_T := ym_tg (k := 2) (i := 71) rfl rfl
set_option maxRecDepth 20000 in
theorem wd_627 : Cond.code yX7_bidderAt cX7_bidderAt 3 (some FieldType.long) ∈ ym_T := ym_tg (k := 2) (i := 72) rfl rfl
set_option maxRecDepth 20000 in
theorem wd_628 : Cond.methodLink "AuctionRoom" 218 ⟨"AuctionRoom", "readEntry", "(III)J"⟩ ∈ ym_T := ym_tg (k := 2) (i := 73) rfl rfl
set_option maxRecDepth 20000 in
theorem wd_630 : Cond.instanceMethod ⟨"AuctionRoom", "readEntry", "(III)J"⟩ ∈ ym_T := ym_tg (k := 2) (i := 75) rfl rfl
set_option maxRecDepth 20000 in
theorem wd_631 : Cond.code yX7_readEntry cX7_readEntry 5 (some FieldType.long) ∈ ym_T := ym_tg (k := 2) (i := 76) rfl rfl
set_option maxRecDepth 20000 in
theorem wd_632 : Cond.methodLink "AuctionRoom" 270 ⟨"AuctionRoom$Lot", "hasBook", "()Z"⟩ ∈ ym_T := ym_tg (k := 2) (i := 77) rfl rfl
set_option maxRecDepth 20000 in
theorem wd_633 : Cond.methodLink "AuctionRoomLaw" 82 ⟨"AuctionRoom", "sumAt", "(II)J"⟩ ∈ ym_T := ym_tg (k := 2) (i := 78) rfl rfl
set_option maxRecDepth 20000 in
theorem wd_634 : Cond.instanceMethod ⟨"AuctionRoom", "sumAt", "(II)J"⟩ ∈ ym_T := ym_tg (k := 2) (i := 79) rfl rfl
set_option maxRecDepth 20000 in
theorem wd_635 : Cond.selects "AuctionRoom" ⟨"AuctionRoom", "sumAt", "(II)J"⟩ ⟨"AuctionRoom", "sumAt", "(II)J"⟩ ∈ ym_T := ym_tg (k := 2) (i := 80) rfl rfl
set_option maxRecDepth 20000 in
theorem wd_636 : Cond.code yX7_sumAt cX7_sumAt 3 (some FieldType.long) ∈ ym_T := ym_tg (k := 2) (i := 81) rfl rfl
set_option maxRecDepth 20000 in
theorem wd_637 : Cond.methodLink "AuctionRoomLaw" 86 ⟨"AuctionRoom", "hammer", "(I)J"⟩ ∈ ym_T := ym_tg (k := 2) (i := 82) rfl rfl
set_option maxRecDepth 20000 in
theorem wd_638 : Cond.instanceMethod ⟨"AuctionRoom", "hammer", "(I)J"⟩ ∈ ym_T := ym_tg (k := 2) (i := 83) rfl rfl
set_option maxRecDepth 20000 in
theorem wd_639 : Cond.selects "AuctionRoom" ⟨"AuctionRoom", "hammer", "(I)J"⟩ ⟨"AuctionRoom", "hammer", "(I)J"⟩ ∈ ym_T := ym_tg (k := 2) (i := 84) rfl rfl
set_option maxRecDepth 20000 in
theorem wd_640 : Cond.code yX7_hammer cX7_hammer 5 (some FieldType.long) ∈ ym_T := ym_tg (k := 2) (i := 85) rfl rfl
set_option maxRecDepth 20000 in
theorem wd_641 : Cond.methodLink "AuctionRoom" 222 ⟨"AuctionRoom$Lot", "isJoined", "()Z"⟩ ∈ ym_T := ym_tg (k := 2) (i := 86) rfl rfl
set_option maxRecDepth 20000 in
theorem wd_642 : Cond.instanceMethod ⟨"AuctionRoom$Lot", "isJoined", "()Z"⟩ ∈ ym_T := ym_tg (k := 2) (i := 87) rfl rfl
set_option maxRecDepth 20000 in
theorem wd_643 : Cond.selects "AuctionRoom$Lot" ⟨"AuctionRoom$Lot", "isJoined", "()Z"⟩ ⟨"AuctionRoom$Lot", "isJoined", "()Z"⟩ ∈ ym_T := ym_tg (k := 2) (i := 88) rfl rfl
set_option maxRecDepth 20000 in
theorem wd_644 : Cond.code yX4_isJoined cX4_isJoined 1 (some FieldType.boolean) ∈ ym_T := ym_tg (k := 2) (i := 89) rfl rfl
set_option maxRecDepth 20000 in
theorem wd_645 : Cond.methodLink "AuctionRoom" 225 ⟨"AuctionRoom$Bodies", "bringsIfSold", "(LAuctionRoom$Lot;)J"⟩ ∈ ym_T := ym_tg (k := 2) (i := 90) rfl rfl
set_option maxRecDepth 20000 in
theorem wd_646 : Cond.instanceMethod ⟨"AuctionRoom$Bodies", "bringsIfSold", "(LAuctionRoom$Lot;)J"⟩ ∈ ym_T := ym_tg (k := 2) (i := 91) rfl rfl
set_option maxRecDepth 20000 in
theorem wd_647 : Cond.selects "AuctionRoom$Bodies" ⟨"AuctionRoom$Bodies", "bringsIfSold", "(LAuctionRoom$Lot;)J"⟩ ⟨"AuctionRoom$Bodies", "bringsIfSold", "(LAuctionRoom$Lot;)J"⟩ ∈ ym_T := ym_tg (k := 2) (i := 92) rfl rfl
set_option maxRecDepth 20000 in
theorem wd_648 : Cond.code yX1_bringsIfSold cX1_bringsIfSold 2 (some FieldType.long) ∈ ym_T := ym_tg (k := 2) (i := 93) rfl rfl
set_option maxRecDepth 20000 in
theorem wd_649 : Cond.methodLink "AuctionRoom$Bodies" 102 ⟨"AuctionRoom$Bodies", "isSold", "(LAuctionRoom$Lot;)Z"⟩ ∈ ym_T := ym_tg (k := 2) (i := 94) rfl rfl
set_option maxRecDepth 20000 in
theorem wd_651 : Cond.instanceMethod ⟨"AuctionRoom$Bodies", "isSold", "(LAuctionRoom$Lot;)Z"⟩ ∈ ym_T := ym_tg (k := 2) (i := 96) rfl rfl
set_option maxRecDepth 20000 in
theorem wd_652 : Cond.code yX1_isSold cX1_isSold 3 (some FieldType.boolean) ∈ ym_T := ym_tg (k := 2) (i := 97) rfl rfl
set_option maxRecDepth 20000 in
theorem wd_653 : Cond.methodLink "AuctionRoom" 228 ⟨"AuctionRoom", "finish", "(LAuctionRoom$Lot;J)V"⟩ ∈ ym_T := ym_tg (k := 2) (i := 98) rfl rfl
set_option maxRecDepth 20000 in
theorem wd_655 : Cond.instanceMethod ⟨"AuctionRoom", "finish", "(LAuctionRoom$Lot;J)V"⟩ ∈ ym_T := ym_tg (k := 2) (i := 100) rfl rfl
set_option maxRecDepth 20000 in
theorem wd_656 : Cond.code yX7_finish cX7_finish 10 none ∈ ym_T := ym_tg (k := 2) (i := 101) rfl rfl
set_option maxRecDepth 20000 in
theorem wd_657 : Cond.constantLong "AuctionRoom" 313 2 ∈ ym_T := ym_tg (k := 2) (i := 102) rfl rfl
set_option maxRecDepth 20000 in
theorem wd_658 : Cond.constantLong "AuctionRoom" 347 3 ∈ ym_T := ym_tg (k := 2) (i := 103) rfl rfl
set_option maxRecDepth 20000 in
theorem wd_659 : Cond.methodLink "AuctionRoom" 349 ⟨"AuctionRoom$Table", "premiumTimesRate", "(J)J"⟩ ∈ ym_T := ym_tg (k := 2) (i := 104) rfl rfl
set_option maxRecDepth 20000 in
theorem wd_660 : Cond.instanceMethod ⟨"AuctionRoom$Table", "premiumTimesRate", "(J)J"⟩ ∈ ym_T := ym_tg (k := 2) (i := 105) rfl rfl
set_option maxRecDepth 20000 in
theorem wd_661 : Cond.selects "AuctionRoom$Table" ⟨"AuctionRoom$Table", "premiumTimesRate", "(J)J"⟩ ⟨"AuctionRoom$Table", "premiumTimesRate", "(J)J"⟩ ∈ ym_T := ym_tg (k := 2) (i := 106) rfl rfl
set_option maxRecDepth 20000 in
theorem wd_662 : Cond.code yX6_premiumTimesRate cX6_premiumTimesRate 9 (some FieldType.long) ∈ ym_T := ym_tg (k := 2) (i := 107) rfl rfl
set_option maxRecDepth 20000 in
theorem wd_663 : Cond.methodLink "AuctionRoom$Table" 33 ⟨"java/lang/Math", "min", "(JJ)J"⟩ ∈ ym_T := ym_tg (k := 2) (i := 108) rfl rfl
set_option maxRecDepth 20000 in
theorem wd_664 : Cond.methodLink "AuctionRoom" 352 ⟨"AuctionRoom", "evenCents", "(J)J"⟩ ∈ ym_T := ym_tg (k := 2) (i := 109) rfl rfl
set_option maxRecDepth 20000 in
theorem wd_665 : Cond.static ⟨"AuctionRoom", "evenCents", "(J)J"⟩ ∈ ym_T := ym_tg (k := 2) (i := 110) rfl rfl
set_option maxRecDepth 20000 in
theorem wd_666 : Cond.code yX7_evenCents cX7_evenCents 7 (some FieldType.long) ∈ ym_T := ym_tg (k := 2) (i := 111) rfl rfl
set_option maxRecDepth 20000 in
theorem wd_667 : Cond.constantLong "AuctionRoom" 311 10000 ∈ ym_T := ym_tg (k := 2) (i := 112) rfl rfl
set_option maxRecDepth 20000 in
theorem wd_668 : Cond.methodLink "AuctionRoom" 355 ⟨"AuctionRoom", "bookToBidder", "(IJ)V"⟩ ∈ ym_T := ym_tg (k := 2) (i := 113) rfl rfl
set_option maxRecDepth 20000 in
theorem wd_670 : Cond.instanceMethod ⟨"AuctionRoom", "bookToBidder", "(IJ)V"⟩ ∈ ym_T := ym_tg (k := 2) (i := 115) rfl rfl
set_option maxRecDepth 20000 in
theorem wd_671 : Cond.code yX7_bookToBidder cX7_bookToBidder 5 none ∈ ym_T := ym_tg (k := 2) (i := 116) rfl rfl
set_option maxRecDepth 20000 in
theorem wd_672 : Cond.methodLink "AuctionRoom" 252 ⟨"AuctionRoom$Bidder", "add", "(J)V"⟩ ∈ ym_T := ym_tg (k := 2) (i := 117) rfl rfl
set_option maxRecDepth 20000 in
theorem wd_673 : Cond.instanceMethod ⟨"AuctionRoom$Bidder", "add", "(J)V"⟩ ∈ ym_T := ym_tg (k := 2) (i := 118) rfl rfl
set_option maxRecDepth 20000 in
theorem wd_674 : Cond.selects "AuctionRoom$Bidder" ⟨"AuctionRoom$Bidder", "add", "(J)V"⟩ ⟨"AuctionRoom$Bidder", "add", "(J)V"⟩ ∈ ym_T := ym_tg (k := 2) (i := 119) rfl rfl
set_option maxRecDepth 20000 in
theorem wd_675 : Cond.code yX0_add cX0_add 3 none ∈ ym_T := ym_tg (k := 2) (i := 120) rfl rfl
set_option maxRecDepth 20000 in
theorem wd_676 : Cond.methodLink "AuctionRoom$Bidder" 31 ⟨"AuctionRoom$Cells", "get", "(I)J"⟩ ∈ ym_T := ym_tg (k := 2) (i := 121) rfl rfl
set_option maxRecDepth 20000 in
theorem wd_677 : Cond.methodLink "AuctionRoom$Bidder" 35 ⟨"AuctionRoom$Cells", "put", "(IJ)V"⟩ ∈ ym_T := ym_tg (k := 2) (i := 122) rfl rfl
set_option maxRecDepth 20000 in
theorem wd_678 : Cond.methodLink "AuctionRoom" 255 ⟨"AuctionRoom", "bookTo", "(IJ)V"⟩ ∈ ym_T := ym_tg (k := 2) (i := 123) rfl rfl
set_option maxRecDepth 20000 in
theorem wd_680 : Cond.instanceMethod ⟨"AuctionRoom", "bookTo", "(IJ)V"⟩ ∈ ym_T := ym_tg (k := 2) (i := 125) rfl rfl
set_option maxRecDepth 20000 in
theorem wd_681 : Cond.code yX7_bookTo cX7_bookTo 4 none ∈ ym_T := ym_tg (k := 2) (i := 126) rfl rfl
set_option maxRecDepth 20000 in
theorem wd_682 : Cond.methodLink "AuctionRoom" 358 ⟨"AuctionRoom", "shareOut", "(LAuctionRoom$Sheet;J)V"⟩ ∈ ym_T := ym_tg (k := 2) (i := 127) rfl rfl
set_option maxRecDepth 20000 in
theorem wd_684 : Cond.instanceMethod ⟨"AuctionRoom", "shareOut", "(LAuctionRoom$Sheet;J)V"⟩ ∈ ym_T := ym_tg (k := 2) (i := 129) rfl rfl
set_option maxRecDepth 20000 in
theorem wd_685 : Cond.code yX7_shareOut cX7_shareOut 10 none ∈ ym_T := ym_tg (k := 2) (i := 130) rfl rfl
set_option maxRecDepth 20000 in
theorem wd_686 : Cond.methodLink "AuctionRoomLaw" 90 ⟨"AuctionRoom", "join", "(III)J"⟩ ∈ ym_T := ym_tg (k := 2) (i := 131) rfl rfl
set_option maxRecDepth 20000 in
theorem wd_687 : Cond.instanceMethod ⟨"AuctionRoom", "join", "(III)J"⟩ ∈ ym_T := ym_tg (k := 2) (i := 132) rfl rfl
set_option maxRecDepth 20000 in
theorem wd_688 : Cond.selects "AuctionRoom" ⟨"AuctionRoom", "join", "(III)J"⟩ ⟨"AuctionRoom", "join", "(III)J"⟩ ∈ ym_T := ym_tg (k := 2) (i := 133) rfl rfl
set_option maxRecDepth 20000 in
theorem wd_689 : Cond.code yX7_join cX7_join 7 (some FieldType.long) ∈ ym_T := ym_tg (k := 2) (i := 134) rfl rfl
set_option maxRecDepth 20000 in
theorem wd_690 : Cond.methodLink "AuctionRoomLaw" 95 ⟨"AuctionRoom", "settle", "(I)J"⟩ ∈ ym_T := ym_tg (k := 2) (i := 135) rfl rfl
set_option maxRecDepth 20000 in
theorem wd_691 : Cond.instanceMethod ⟨"AuctionRoom", "settle", "(I)J"⟩ ∈ ym_T := ym_tg (k := 2) (i := 136) rfl rfl
set_option maxRecDepth 20000 in
theorem wd_692 : Cond.selects "AuctionRoom" ⟨"AuctionRoom", "settle", "(I)J"⟩ ⟨"AuctionRoom", "settle", "(I)J"⟩ ∈ ym_T := ym_tg (k := 2) (i := 137) rfl rfl
set_option maxRecDepth 20000 in
theorem wd_693 : Cond.code yX7_settle cX7_settle 11 (some FieldType.long) ∈ ym_T := ym_tg (k := 2) (i := 138) rfl rfl
set_option maxRecDepth 20000 in
theorem wd_694 : Cond.methodLink "AuctionRoom" 232 ⟨"AuctionRoom$Lot", "partNumber", "(II)I"⟩ ∈ ym_T := ym_tg (k := 2) (i := 139) rfl rfl
set_option maxRecDepth 20000 in
theorem wd_695 : Cond.instanceMethod ⟨"AuctionRoom$Lot", "partNumber", "(II)I"⟩ ∈ ym_T := ym_tg (k := 2) (i := 140) rfl rfl
set_option maxRecDepth 20000 in
theorem wd_696 : Cond.selects "AuctionRoom$Lot" ⟨"AuctionRoom$Lot", "partNumber", "(II)I"⟩ ⟨"AuctionRoom$Lot", "partNumber", "(II)I"⟩ ∈ ym_T := ym_tg (k := 2) (i := 141) rfl rfl
set_option maxRecDepth 20000 in
theorem wd_697 : Cond.code yX4_partNumber cX4_partNumber 3 (some FieldType.int) ∈ ym_T := ym_tg (k := 2) (i := 142) rfl rfl
set_option maxRecDepth 20000 in
theorem wd_698 : Cond.methodLink "AuctionRoom" 236 ⟨"AuctionRoom", "lacksSeller", "(LAuctionRoom$Lot;J)Z"⟩ ∈ ym_T := ym_tg (k := 2) (i := 143) rfl rfl
set_option maxRecDepth 20000 in
theorem wd_700 : Cond.instanceMethod ⟨"AuctionRoom", "lacksSeller", "(LAuctionRoom$Lot;J)Z"⟩ ∈ ym_T := ym_tg (k := 2) (i := 145) rfl rfl
set_option maxRecDepth 20000 in
theorem wd_701 : Cond.code yX7_lacksSeller cX7_lacksSeller 4 (some FieldType.boolean) ∈ ym_T := ym_tg (k := 2) (i := 146) rfl rfl
set_option maxRecDepth 20000 in
theorem wd_702 : Cond.methodLink "AuctionRoom" 344 ⟨"AuctionRoom$Bodies", "piecesOf", "(LAuctionRoom$Lot;)J"⟩ ∈ ym_T := ym_tg (k := 2) (i := 147) rfl rfl
set_option maxRecDepth 20000 in
theorem wd_703 : Cond.methodLink "AuctionRoomLaw" 99 ⟨"AuctionRoom", "reoffer", "(IJ)J"⟩ ∈ ym_T := ym_tg (k := 2) (i := 148) rfl rfl
set_option maxRecDepth 20000 in
theorem wd_704 : Cond.instanceMethod ⟨"AuctionRoom", "reoffer", "(IJ)J"⟩ ∈ ym_T := ym_tg (k := 2) (i := 149) rfl rfl
set_option maxRecDepth 20000 in
theorem wd_705 : Cond.selects "AuctionRoom" ⟨"AuctionRoom", "reoffer", "(IJ)J"⟩ ⟨"AuctionRoom", "reoffer", "(IJ)J"⟩ ∈ ym_T := ym_tg (k := 2) (i := 150) rfl rfl
set_option maxRecDepth 20000 in
theorem wd_706 : Cond.code yX7_reoffer cX7_reoffer 5 (some FieldType.long) ∈ ym_T := ym_tg (k := 2) (i := 151) rfl rfl
set_option maxRecDepth 20000 in
theorem wd_707 : Cond.methodLink "AuctionRoom" 240 ⟨"AuctionRoom", "part", "(LAuctionRoom$Lot;)V"⟩ ∈ ym_T := ym_tg (k := 2) (i := 152) rfl rfl
set_option maxRecDepth 20000 in
theorem wd_709 : Cond.instanceMethod ⟨"AuctionRoom", "part", "(LAuctionRoom$Lot;)V"⟩ ∈ ym_T := ym_tg (k := 2) (i := 154) rfl rfl
set_option maxRecDepth 20000 in
theorem wd_710 : Cond.code yX7_part cX7_part 4 none ∈ ym_T := ym_tg (k := 2) (i := 155) rfl rfl
set_option maxRecDepth 20000 in
theorem wd_711 : Cond.constantLong "AuctionRoom" 362 (-1) ∈ ym_T := ym_tg (k := 2) (i := 156) rfl rfl
set_option maxRecDepth 20000 in
theorem wd_712 : Cond.methodLink "AuctionRoom" 243 ⟨"AuctionRoom$Lot", "renew", "(J)V"⟩ ∈ ym_T := ym_tg (k := 2) (i := 157) rfl rfl
set_option maxRecDepth 20000 in
theorem wd_713 : Cond.instanceMethod ⟨"AuctionRoom$Lot", "renew", "(J)V"⟩ ∈ ym_T := ym_tg (k := 2) (i := 158) rfl rfl
set_option maxRecDepth 20000 in
theorem wd_714 : Cond.selects "AuctionRoom$Lot" ⟨"AuctionRoom$Lot", "renew", "(J)V"⟩ ⟨"AuctionRoom$Lot", "renew", "(J)V"⟩ ∈ ym_T := ym_tg (k := 2) (i := 159) rfl rfl
set_option maxRecDepth 20000 in
theorem wd_715 : Cond.code yX4_renew cX4_renew 4 none ∈ ym_T := ym_tg (k := 2) (i := 160) rfl rfl
set_option maxRecDepth 20000 in
theorem wd_716 : Cond.methodLink "AuctionRoom$Lot" 115 ⟨"AuctionRoom$Sheet", "clear", "()V"⟩ ∈ ym_T := ym_tg (k := 2) (i := 161) rfl rfl
set_option maxRecDepth 20000 in
theorem wd_717 : Cond.instanceMethod ⟨"AuctionRoom$Sheet", "clear", "()V"⟩ ∈ ym_T := ym_tg (k := 2) (i := 162) rfl rfl
set_option maxRecDepth 20000 in
theorem wd_718 : Cond.selects "AuctionRoom$Sheet" ⟨"AuctionRoom$Sheet", "clear", "()V"⟩ ⟨"AuctionRoom$Sheet", "clear", "()V"⟩ ∈ ym_T := ym_tg (k := 2) (i := 163) rfl rfl
set_option maxRecDepth 20000 in
theorem wd_719 : Cond.code yX5_clear cX5_clear 1 none ∈ ym_T := ym_tg (k := 2) (i := 164) rfl rfl
set_option maxRecDepth 20000 in
theorem wd_720 : Cond.methodLink "AuctionRoomLaw" 103 ⟨"AuctionRoom", "pay", "(IJ)J"⟩ ∈ ym_T := ym_tg (k := 2) (i := 165) rfl rfl
set_option maxRecDepth 20000 in
theorem wd_721 : Cond.instanceMethod ⟨"AuctionRoom", "pay", "(IJ)J"⟩ ∈ ym_T := ym_tg (k := 2) (i := 166) rfl rfl
set_option maxRecDepth 20000 in
theorem wd_722 : Cond.selects "AuctionRoom" ⟨"AuctionRoom", "pay", "(IJ)J"⟩ ⟨"AuctionRoom", "pay", "(IJ)J"⟩ ∈ ym_T := ym_tg (k := 2) (i := 167) rfl rfl
set_option maxRecDepth 20000 in
theorem wd_723 : Cond.code yX7_pay cX7_pay 5 (some FieldType.long) ∈ ym_T := ym_tg (k := 2) (i := 168) rfl rfl
set_option maxRecDepth 20000 in
theorem wd_724 : Cond.methodLink "AuctionRoom" 247 ⟨"AuctionRoom$Bidder", "balanceNow", "()J"⟩ ∈ ym_T := ym_tg (k := 2) (i := 169) rfl rfl
set_option maxRecDepth 20000 in
theorem wd_725 : Cond.instanceMethod ⟨"AuctionRoom$Bidder", "balanceNow", "()J"⟩ ∈ ym_T := ym_tg (k := 2) (i := 170) rfl rfl
set_option maxRecDepth 20000 in
theorem wd_726 : Cond.selects "AuctionRoom$Bidder" ⟨"AuctionRoom$Bidder", "balanceNow", "()J"⟩ ⟨"AuctionRoom$Bidder", "balanceNow", "()J"⟩ ∈ ym_T := ym_tg (k := 2) (i := 171) rfl rfl
set_option maxRecDepth 20000 in
theorem wd_727 : Cond.code yX0_balanceNow cX0_balanceNow 1 (some FieldType.long) ∈ ym_T := ym_tg (k := 2) (i := 172) rfl rfl
set_option maxRecDepth 20000 in
theorem wd_728 : Cond.constantLong "AuctionRoom" 250 1000000000000000 ∈ ym_T := ym_tg (k := 2) (i := 173) rfl rfl
set_option maxRecDepth 20000 in
theorem wd_729 : Cond.methodLink "AuctionRoomLaw" 107 ⟨"AuctionRoom", "payOut", "(IJ)J"⟩ ∈ ym_T := ym_tg (k := 2) (i := 174) rfl rfl
set_option maxRecDepth 20000 in
theorem wd_730 : Cond.instanceMethod ⟨"AuctionRoom", "payOut", "(IJ)J"⟩ ∈ ym_T := ym_tg (k := 2) (i := 175) rfl rfl
set_option maxRecDepth 20000 in
theorem wd_731 : Cond.selects "AuctionRoom" ⟨"AuctionRoom", "payOut", "(IJ)J"⟩ ⟨"AuctionRoom", "payOut", "(IJ)J"⟩ ∈ ym_T := ym_tg (k := 2) (i := 176) rfl rfl
set_option maxRecDepth 20000 in
theorem wd_732 : Cond.code yX7_payOut cX7_payOut 5 (some FieldType.long) ∈ ym_T := ym_tg (k := 2) (i := 177) rfl rfl
set_option maxRecDepth 20000 in
theorem wd_733 : Cond.methodLink "AuctionRoomLaw" 111 ⟨"AuctionRoom", "batch", "()J"⟩ ∈ ym_T := ym_tg (k := 2) (i := 178) rfl rfl
set_option maxRecDepth 20000 in
theorem wd_734 : Cond.instanceMethod ⟨"AuctionRoom", "batch", "()J"⟩ ∈ ym_T := ym_tg (k := 2) (i := 179) rfl rfl
set_option maxRecDepth 20000 in
theorem wd_735 : Cond.selects "AuctionRoom" ⟨"AuctionRoom", "batch", "()J"⟩ ⟨"AuctionRoom", "batch", "()J"⟩ ∈ ym_T := ym_tg (k := 2) (i := 180) rfl rfl
set_option maxRecDepth 20000 in
theorem wd_736 : Cond.code yX7_batch cX7_batch 1 (some FieldType.long) ∈ ym_T := ym_tg (k := 2) (i := 181) rfl rfl
set_option maxRecDepth 20000 in
theorem wd_737 : Cond.methodLink "AuctionRoom" 258 ⟨"AuctionRoom$Journal", "depth", "()I"⟩ ∈ ym_T := ym_tg (k := 2) (i := 182) rfl rfl
set_option maxRecDepth 20000 in
theorem wd_738 : Cond.instanceMethod ⟨"AuctionRoom$Journal", "depth", "()I"⟩ ∈ ym_T := ym_tg (k := 2) (i := 183) rfl rfl
set_option maxRecDepth 20000 in
theorem wd_739 : Cond.selects "AuctionRoom$Journal" ⟨"AuctionRoom$Journal", "depth", "()I"⟩ ⟨"AuctionRoom$Journal", "depth", "()I"⟩ ∈ ym_T := ym_tg (k := 2) (i := 184) rfl rfl
set_option maxRecDepth 20000 in
theorem wd_740 : Cond.code yX3_depth cX3_depth 1 (some FieldType.int) ∈ ym_T := ym_tg (k := 2) (i := 185) rfl rfl
set_option maxRecDepth 20000 in
theorem wd_741 : Cond.methodLink "AuctionRoom" 261 ⟨"AuctionRoom$Journal", "openBatch", "()V"⟩ ∈ ym_T := ym_tg (k := 2) (i := 186) rfl rfl
set_option maxRecDepth 20000 in
theorem wd_742 : Cond.instanceMethod ⟨"AuctionRoom$Journal", "openBatch", "()V"⟩ ∈ ym_T := ym_tg (k := 2) (i := 187) rfl rfl
set_option maxRecDepth 20000 in
theorem wd_743 : Cond.selects "AuctionRoom$Journal" ⟨"AuctionRoom$Journal", "openBatch", "()V"⟩ ⟨"AuctionRoom$Journal", "openBatch", "()V"⟩ ∈ ym_T := ym_tg (k := 2) (i := 188) rfl rfl
set_option maxRecDepth 20000 in
theorem wd_744 : Cond.code yX3_openBatch cX3_openBatch 1 none ∈ ym_T := ym_tg (k := 2) (i := 189) rfl rfl
set_option maxRecDepth 20000 in
theorem wd_745 : Cond.methodLink "AuctionRoomLaw" 116 ⟨"AuctionRoom", "end", "()J"⟩ ∈ ym_T := ym_tg (k := 2) (i := 190) rfl rfl
set_option maxRecDepth 20000 in
theorem wd_746 : Cond.instanceMethod ⟨"AuctionRoom", "end", "()J"⟩ ∈ ym_T := ym_tg (k := 2) (i := 191) rfl rfl
set_option maxRecDepth 20000 in
theorem wd_747 : Cond.selects "AuctionRoom" ⟨"AuctionRoom", "end", "()J"⟩ ⟨"AuctionRoom", "end", "()J"⟩ ∈ ym_T := ym_tg (k := 2) (i := 192) rfl rfl
set_option maxRecDepth 20000 in
theorem wd_748 : Cond.code yX7_end cX7_end 1 (some FieldType.long) ∈ ym_T := ym_tg (k := 2) (i := 193) rfl rfl
set_option maxRecDepth 20000 in
theorem wd_749 : Cond.methodLink "AuctionRoom" 264 ⟨"AuctionRoom$Journal", "keepBatch", "()V"⟩ ∈ ym_T := ym_tg (k := 2) (i := 194) rfl rfl
set_option maxRecDepth 20000 in
theorem wd_750 : Cond.instanceMethod ⟨"AuctionRoom$Journal", "keepBatch", "()V"⟩ ∈ ym_T := ym_tg (k := 2) (i := 195) rfl rfl
set_option maxRecDepth 20000 in
theorem wd_751 : Cond.selects "AuctionRoom$Journal" ⟨"AuctionRoom$Journal", "keepBatch", "()V"⟩ ⟨"AuctionRoom$Journal", "keepBatch", "()V"⟩ ∈ ym_T := ym_tg (k := 2) (i := 196) rfl rfl
set_option maxRecDepth 20000 in
theorem wd_752 : Cond.code yX3_keepBatch cX3_keepBatch 1 none ∈ ym_T := ym_tg (k := 2) (i := 197) rfl rfl
set_option maxRecDepth 20000 in
theorem wd_753 : Cond.methodLink "AuctionRoomLaw" 120 ⟨"AuctionRoom", "undo", "()J"⟩ ∈ ym_T := ym_tg (k := 2) (i := 198) rfl rfl
set_option maxRecDepth 20000 in
theorem wd_754 : Cond.instanceMethod ⟨"AuctionRoom", "undo", "()J"⟩ ∈ ym_T := ym_tg (k := 2) (i := 199) rfl rfl
set_option maxRecDepth 20000 in
theorem wd_755 : Cond.selects "AuctionRoom" ⟨"AuctionRoom", "undo", "()J"⟩ ⟨"AuctionRoom", "undo", "()J"⟩ ∈ ym_T := ym_tg (k := 2) (i := 200) rfl rfl
set_option maxRecDepth 20000 in
theorem wd_756 : Cond.code yX7_undo cX7_undo 1 (some FieldType.long) ∈ ym_T := ym_tg (k := 2) (i := 201) rfl rfl
set_option maxRecDepth 20000 in
theorem wd_757 : Cond.methodLink "AuctionRoom" 267 ⟨"AuctionRoom$Journal", "takeBackBatch", "()V"⟩ ∈ ym_T := ym_tg (k := 2) (i := 202) rfl rfl
set_option maxRecDepth 20000 in
theorem wd_758 : Cond.instanceMethod ⟨"AuctionRoom$Journal", "takeBackBatch", "()V"⟩ ∈ ym_T := ym_tg (k := 2) (i := 203) rfl rfl
set_option maxRecDepth 20000 in
theorem wd_759 : Cond.selects "AuctionRoom$Journal" ⟨"AuctionRoom$Journal", "takeBackBatch", "()V"⟩ ⟨"AuctionRoom$Journal", "takeBackBatch", "()V"⟩ ∈ ym_T := ym_tg (k := 2) (i := 204) rfl rfl
set_option maxRecDepth 20000 in
theorem wd_760 : Cond.code yX3_takeBackBatch cX3_takeBackBatch 1 none ∈ ym_T := ym_tg (k := 2) (i := 205) rfl rfl
set_option maxRecDepth 20000 in
theorem wd_761 : Cond.methodLink "AuctionRoomLaw" 124 ⟨"AuctionRoom", "kindOf", "(I)I"⟩ ∈ ym_T := ym_tg (k := 2) (i := 206) rfl rfl
set_option maxRecDepth 20000 in
theorem wd_762 : Cond.instanceMethod ⟨"AuctionRoom", "kindOf", "(I)I"⟩ ∈ ym_T := ym_tg (k := 2) (i := 207) rfl rfl
set_option maxRecDepth 20000 in
theorem wd_763 : Cond.selects "AuctionRoom" ⟨"AuctionRoom", "kindOf", "(I)I"⟩ ⟨"AuctionRoom", "kindOf", "(I)I"⟩ ∈ ym_T := ym_tg (k := 2) (i := 208) rfl rfl
set_option maxRecDepth 20000 in
theorem wd_764 : Cond.code yX7_kindOf cX7_kindOf 3 (some FieldType.int) ∈ ym_T := ym_tg (k := 2) (i := 209) rfl rfl
set_option maxRecDepth 20000 in
theorem wd_765 : Cond.methodLink "AuctionRoomLaw" 129 ⟨"AuctionRoom", "bidderKind", "(I)I"⟩ ∈ ym_T := ym_tg (k := 2) (i := 210) rfl rfl
set_option maxRecDepth 20000 in
theorem wd_766 : Cond.instanceMethod ⟨"AuctionRoom", "bidderKind", "(I)I"⟩ ∈ ym_T := ym_tg (k := 2) (i := 211) rfl rfl
set_option maxRecDepth 20000 in
theorem wd_767 : Cond.selects "AuctionRoom" ⟨"AuctionRoom", "bidderKind", "(I)I"⟩ ⟨"AuctionRoom", "bidderKind", "(I)I"⟩ ∈ ym_T := ym_tg (k := 2) (i := 212) rfl rfl
set_option maxRecDepth 20000 in
theorem wd_768 : Cond.code yX7_bidderKind cX7_bidderKind 3 (some FieldType.int) ∈ ym_T := ym_tg (k := 2) (i := 213) rfl rfl
set_option maxRecDepth 20000 in
theorem wd_769 : Cond.methodLink "AuctionRoomLaw" 133 ⟨"AuctionRoom", "state", "(I)I"⟩ ∈ ym_T := ym_tg (k := 2) (i := 214) rfl rfl
set_option maxRecDepth 20000 in
theorem wd_770 : Cond.instanceMethod ⟨"AuctionRoom", "state", "(I)I"⟩ ∈ ym_T := ym_tg (k := 2) (i := 215) rfl rfl
set_option maxRecDepth 20000 in
theorem wd_771 : Cond.selects "AuctionRoom" ⟨"AuctionRoom", "state", "(I)I"⟩ ⟨"AuctionRoom", "state", "(I)I"⟩ ∈ ym_T := ym_tg (k := 2) (i := 216) rfl rfl
set_option maxRecDepth 20000 in
theorem wd_772 : Cond.code yX7_state cX7_state 3 (some FieldType.int) ∈ ym_T := ym_tg (k := 2) (i := 217) rfl rfl
set_option maxRecDepth 20000 in
theorem wd_773 : Cond.methodLink "AuctionRoomLaw" 137 ⟨"AuctionRoom", "stands", "(I)I"⟩ ∈ ym_T := ym_tg (k := 2) (i := 218) rfl rfl
set_option maxRecDepth 20000 in
theorem wd_774 : Cond.instanceMethod ⟨"AuctionRoom", "stands", "(I)I"⟩ ∈ ym_T := ym_tg (k := 2) (i := 219) rfl rfl
set_option maxRecDepth 20000 in
theorem wd_775 : Cond.selects "AuctionRoom" ⟨"AuctionRoom", "stands", "(I)I"⟩ ⟨"AuctionRoom", "stands", "(I)I"⟩ ∈ ym_T := ym_tg (k := 2) (i := 220) rfl rfl
set_option maxRecDepth 20000 in
theorem wd_776 : Cond.code yX7_stands cX7_stands 3 (some FieldType.int) ∈ ym_T := ym_tg (k := 2) (i := 221) rfl rfl
set_option maxRecDepth 20000 in
theorem wd_777 : Cond.methodLink "AuctionRoomLaw" 141 ⟨"AuctionRoom", "sum", "(I)J"⟩ ∈ ym_T := ym_tg (k := 2) (i := 222) rfl rfl
set_option maxRecDepth 20000 in
theorem wd_778 : Cond.instanceMethod ⟨"AuctionRoom", "sum", "(I)J"⟩ ∈ ym_T := ym_tg (k := 2) (i := 223) rfl rfl
set_option maxRecDepth 20000 in
theorem wd_779 : Cond.selects "AuctionRoom" ⟨"AuctionRoom", "sum", "(I)J"⟩ ⟨"AuctionRoom", "sum", "(I)J"⟩ ∈ ym_T := ym_tg (k := 2) (i := 224) rfl rfl
set_option maxRecDepth 20000 in
theorem wd_780 : Cond.code yX7_sum cX7_sum 3 (some FieldType.long) ∈ ym_T := ym_tg (k := 2) (i := 225) rfl rfl
set_option maxRecDepth 20000 in
theorem wd_781 : Cond.methodLink "AuctionRoomLaw" 145 ⟨"AuctionRoom", "entries", "(I)I"⟩ ∈ ym_T := ym_tg (k := 2) (i := 226) rfl rfl
set_option maxRecDepth 20000 in
theorem wd_782 : Cond.instanceMethod ⟨"AuctionRoom", "entries", "(I)I"⟩ ∈ ym_T := ym_tg (k := 2) (i := 227) rfl rfl
set_option maxRecDepth 20000 in
theorem wd_783 : Cond.selects "AuctionRoom" ⟨"AuctionRoom", "entries", "(I)I"⟩ ⟨"AuctionRoom", "entries", "(I)I"⟩ ∈ ym_T := ym_tg (k := 2) (i := 228) rfl rfl
set_option maxRecDepth 20000 in
theorem wd_784 : Cond.code yX7_entries cX7_entries 3 (some FieldType.int) ∈ ym_T := ym_tg (k := 2) (i := 229) rfl rfl
set_option maxRecDepth 20000 in
theorem wd_785 : Cond.methodLink "AuctionRoomLaw" 149 ⟨"AuctionRoom", "cause", "(II)I"⟩ ∈ ym_T := ym_tg (k := 2) (i := 230) rfl rfl
set_option maxRecDepth 20000 in
theorem wd_786 : Cond.instanceMethod ⟨"AuctionRoom", "cause", "(II)I"⟩ ∈ ym_T := ym_tg (k := 2) (i := 231) rfl rfl
set_option maxRecDepth 20000 in
theorem wd_787 : Cond.selects "AuctionRoom" ⟨"AuctionRoom", "cause", "(II)I"⟩ ⟨"AuctionRoom", "cause", "(II)I"⟩ ∈ ym_T := ym_tg (k := 2) (i := 232) rfl rfl
set_option maxRecDepth 20000 in
theorem wd_788 : Cond.code yX7_cause cX7_cause 4 (some FieldType.int) ∈ ym_T := ym_tg (k := 2) (i := 233) rfl rfl
set_option maxRecDepth 20000 in
theorem wd_789 : Cond.methodLink "AuctionRoomLaw" 154 ⟨"AuctionRoom", "balance", "(I)J"⟩ ∈ ym_T := ym_tg (k := 2) (i := 234) rfl rfl
set_option maxRecDepth 20000 in
theorem wd_790 : Cond.instanceMethod ⟨"AuctionRoom", "balance", "(I)J"⟩ ∈ ym_T := ym_tg (k := 2) (i := 235) rfl rfl
set_option maxRecDepth 20000 in
theorem wd_791 : Cond.selects "AuctionRoom" ⟨"AuctionRoom", "balance", "(I)J"⟩ ⟨"AuctionRoom", "balance", "(I)J"⟩ ∈ ym_T := ym_tg (k := 2) (i := 236) rfl rfl
set_option maxRecDepth 20000 in
theorem wd_792 : Cond.code yX7_balance cX7_balance 3 (some FieldType.long) ∈ ym_T := ym_tg (k := 2) (i := 237) rfl rfl
set_option maxRecDepth 20000 in
theorem wd_793 : Cond.methodLink "AuctionRoomLaw" 158 ⟨"AuctionRoom", "account", "(I)J"⟩ ∈ ym_T := ym_tg (k := 2) (i := 238) rfl rfl
set_option maxRecDepth 20000 in
theorem wd_794 : Cond.instanceMethod ⟨"AuctionRoom", "account", "(I)J"⟩ ∈ ym_T := ym_tg (k := 2) (i := 239) rfl rfl
set_option maxRecDepth 20000 in
theorem wd_795 : Cond.selects "AuctionRoom" ⟨"AuctionRoom", "account", "(I)J"⟩ ⟨"AuctionRoom", "account", "(I)J"⟩ ∈ ym_T := ym_tg (k := 3) (i := 0) rfl rfl
set_option maxRecDepth 20000 in
theorem wd_796 : Cond.code yX7_account cX7_account 2 (some FieldType.long) ∈ ym_T := ym_tg (k := 3) (i := 1) rfl rfl
set_option maxRecDepth 20000 in
theorem wd_797 : Cond.methodLink "AuctionRoomLaw" 162 ⟨"AuctionRoom", "total", "()J"⟩ ∈ ym_T := ym_tg (k := 3) (i := 2) rfl rfl
set_option maxRecDepth 20000 in
theorem wd_798 : Cond.instanceMethod ⟨"AuctionRoom", "total", "()J"⟩ ∈ ym_T := ym_tg (k := 3) (i := 3) rfl rfl
set_option maxRecDepth 20000 in
theorem wd_799 : Cond.selects "AuctionRoom" ⟨"AuctionRoom", "total", "()J"⟩ ⟨"AuctionRoom", "total", "()J"⟩ ∈ ym_T := ym_tg (k := 3) (i := 4) rfl rfl
set_option maxRecDepth 20000 in
theorem wd_800 : Cond.code yX7_total cX7_total 5 (some FieldType.long) ∈ ym_T := ym_tg (k := 3) (i := 5) rfl rfl
set_option maxRecDepth 20000 in
theorem wd_801 : Cond.methodLink "AuctionRoom" 273 ⟨"AuctionRoom", "balance", "(I)J"⟩ ∈ ym_T := ym_tg (k := 3) (i := 6) rfl rfl
set_option maxRecDepth 20000 in
theorem wd_802 : Cond.methodLink "AuctionRoomLaw" 166 ⟨"AuctionRoom", "numbers", "(I)I"⟩ ∈ ym_T := ym_tg (k := 3) (i := 7) rfl rfl
set_option maxRecDepth 20000 in
theorem wd_803 : Cond.instanceMethod ⟨"AuctionRoom", "numbers", "(I)I"⟩ ∈ ym_T := ym_tg (k := 3) (i := 8) rfl rfl
set_option maxRecDepth 20000 in
theorem wd_804 : Cond.selects "AuctionRoom" ⟨"AuctionRoom", "numbers", "(I)I"⟩ ⟨"AuctionRoom", "numbers", "(I)I"⟩ ∈ ym_T := ym_tg (k := 3) (i := 9) rfl rfl
set_option maxRecDepth 20000 in
theorem wd_805 : Cond.code yX7_numbers cX7_numbers 2 (some FieldType.int) ∈ ym_T := ym_tg (k := 3) (i := 10) rfl rfl
set_option maxRecDepth 20000 in
theorem wd_806 : Cond.methodLink "AuctionRoomLaw" 170 ⟨"AuctionRoom", "tries", "()I"⟩ ∈ ym_T := ym_tg (k := 3) (i := 11) rfl rfl
set_option maxRecDepth 20000 in
theorem wd_807 : Cond.instanceMethod ⟨"AuctionRoom", "tries", "()I"⟩ ∈ ym_T := ym_tg (k := 3) (i := 12) rfl rfl
set_option maxRecDepth 20000 in
theorem wd_808 : Cond.selects "AuctionRoom" ⟨"AuctionRoom", "tries", "()I"⟩ ⟨"AuctionRoom", "tries", "()I"⟩ ∈ ym_T := ym_tg (k := 3) (i := 13) rfl rfl
set_option maxRecDepth 20000 in
theorem wd_809 : Cond.code yX7_tries cX7_tries 1 (some FieldType.int) ∈ ym_T := ym_tg (k := 3) (i := 14) rfl rfl
set_option maxRecDepth 20000 in
theorem wd_810 : Cond.methodLink "AuctionRoomLaw" 175 ⟨"AuctionRoom", "why", "()I"⟩ ∈ ym_T := ym_tg (k := 3) (i := 15) rfl rfl
set_option maxRecDepth 20000 in
theorem wd_811 : Cond.instanceMethod ⟨"AuctionRoom", "why", "()I"⟩ ∈ ym_T := ym_tg (k := 3) (i := 16) rfl rfl
set_option maxRecDepth 20000 in
theorem wd_812 : Cond.selects "AuctionRoom" ⟨"AuctionRoom", "why", "()I"⟩ ⟨"AuctionRoom", "why", "()I"⟩ ∈ ym_T := ym_tg (k := 3) (i := 17) rfl rfl
set_option maxRecDepth 20000 in
theorem wd_813 : Cond.code yX7_why cX7_why 1 (some FieldType.int) ∈ ym_T := ym_tg (k := 3) (i := 18) rfl rfl
set_option maxRecDepth 20000 in
theorem wd_814 : Cond.methodLink "AuctionRoomLaw" 179 ⟨"AuctionRoom", "trace", "(I)I"⟩ ∈ ym_T := ym_tg (k := 3) (i := 19) rfl rfl
set_option maxRecDepth 20000 in
theorem wd_815 : Cond.instanceMethod ⟨"AuctionRoom", "trace", "(I)I"⟩ ∈ ym_T := ym_tg (k := 3) (i := 20) rfl rfl
set_option maxRecDepth 20000 in
theorem wd_816 : Cond.selects "AuctionRoom" ⟨"AuctionRoom", "trace", "(I)I"⟩ ⟨"AuctionRoom", "trace", "(I)I"⟩ ∈ ym_T := ym_tg (k := 3) (i := 21) rfl rfl
set_option maxRecDepth 20000 in
theorem wd_817 : Cond.code yX7_trace cX7_trace 2 (some FieldType.int) ∈ ym_T := ym_tg (k := 3) (i := 22) rfl rfl
set_option maxRecDepth 20000 in
theorem wd_818 : Cond.methodLink "AuctionRoom" 282 ⟨"AuctionRoom$Bodies", "ranAt", "(I)I"⟩ ∈ ym_T := ym_tg (k := 3) (i := 23) rfl rfl
set_option maxRecDepth 20000 in
theorem wd_819 : Cond.instanceMethod ⟨"AuctionRoom$Bodies", "ranAt", "(I)I"⟩ ∈ ym_T := ym_tg (k := 3) (i := 24) rfl rfl
set_option maxRecDepth 20000 in
theorem wd_820 : Cond.selects "AuctionRoom$Bodies" ⟨"AuctionRoom$Bodies", "ranAt", "(I)I"⟩ ⟨"AuctionRoom$Bodies", "ranAt", "(I)I"⟩ ∈ ym_T := ym_tg (k := 3) (i := 25) rfl rfl
set_option maxRecDepth 20000 in
theorem wd_821 : Cond.code yX1_ranAt cX1_ranAt 2 (some FieldType.int) ∈ ym_T := ym_tg (k := 3) (i := 26) rfl rfl
set_option maxRecDepth 20000 in
theorem wd_822 : Cond.methodLink "AuctionRoomLaw" 183 ⟨"AuctionRoom", "batches", "()I"⟩ ∈ ym_T := ym_tg (k := 3) (i := 27) rfl rfl
set_option maxRecDepth 20000 in
theorem wd_823 : Cond.instanceMethod ⟨"AuctionRoom", "batches", "()I"⟩ ∈ ym_T := ym_tg (k := 3) (i := 28) rfl rfl
set_option maxRecDepth 20000 in
theorem wd_824 : Cond.selects "AuctionRoom" ⟨"AuctionRoom", "batches", "()I"⟩ ⟨"AuctionRoom", "batches", "()I"⟩ ∈ ym_T := ym_tg (k := 3) (i := 29) rfl rfl
set_option maxRecDepth 20000 in
theorem wd_825 : Cond.code yX7_batches cX7_batches 1 (some FieldType.int) ∈ ym_T := ym_tg (k := 3) (i := 30) rfl rfl
set_option maxRecDepth 20000 in
theorem wd_826 : Cond.methodLink "AuctionRoomLaw" 187 ⟨"AuctionRoom", "digest", "()J"⟩ ∈ ym_T := ym_tg (k := 3) (i := 31) rfl rfl
set_option maxRecDepth 20000 in
theorem wd_827 : Cond.instanceMethod ⟨"AuctionRoom", "digest", "()J"⟩ ∈ ym_T := ym_tg (k := 3) (i := 32) rfl rfl
set_option maxRecDepth 20000 in
theorem wd_828 : Cond.selects "AuctionRoom" ⟨"AuctionRoom", "digest", "()J"⟩ ⟨"AuctionRoom", "digest", "()J"⟩ ∈ ym_T := ym_tg (k := 3) (i := 33) rfl rfl
set_option maxRecDepth 20000 in
theorem wd_829 : Cond.code yX7_digest cX7_digest 5 (some FieldType.long) ∈ ym_T := ym_tg (k := 3) (i := 34) rfl rfl
set_option maxRecDepth 20000 in
theorem wd_830 : Cond.constantLong "AuctionRoom" 285 7 ∈ ym_T := ym_tg (k := 3) (i := 35) rfl rfl
set_option maxRecDepth 20000 in
theorem wd_831 : Cond.constantLong "AuctionRoom" 287 31 ∈ ym_T := ym_tg (k := 3) (i := 36) rfl rfl
set_option maxRecDepth 20000 in
theorem wd_832 : Cond.methodLink "AuctionRoom" 289 ⟨"AuctionRoom", "bidderKind", "(I)I"⟩ ∈ ym_T := ym_tg (k := 3) (i := 37) rfl rfl
set_option maxRecDepth 20000 in
theorem wd_833 : Cond.methodLink "AuctionRoom" 292 ⟨"AuctionRoom", "digestLot", "(JI)J"⟩ ∈ ym_T := ym_tg (k := 3) (i := 38) rfl rfl
set_option maxRecDepth 20000 in
theorem wd_835 : Cond.instanceMethod ⟨"AuctionRoom", "digestLot", "(JI)J"⟩ ∈ ym_T := ym_tg (k := 3) (i := 40) rfl rfl
set_option maxRecDepth 20000 in
theorem wd_836 : Cond.code yX7_digestLot cX7_digestLot 7 (some FieldType.long) ∈ ym_T := ym_tg (k := 3) (i := 41) rfl rfl
set_option maxRecDepth 20000 in
theorem wd_837 : Cond.methodLink "AuctionRoom" 300 ⟨"AuctionRoom", "entries", "(I)I"⟩ ∈ ym_T := ym_tg (k := 3) (i := 42) rfl rfl
set_option maxRecDepth 20000 in
theorem wd_838 : Cond.methodLink "AuctionRoom" 296 ⟨"AuctionRoom", "account", "(I)J"⟩ ∈ ym_T := ym_tg (k := 3) (i := 43) rfl rfl
set_option maxRecDepth 20000 in
theorem wd_839 : Cond.classLink "AuctionRoomLaw" 10 "AuctionRoomModel" ∈ ym_T := ym_tg (k := 3) (i := 44) rfl rfl
set_option maxRecDepth 20000 in
theorem wd_840 : Cond.instantiable "AuctionRoomModel" 58 ∈ ym_T := ym_tg (k := 3) (i := 45) rfl rfl
set_option maxRecDepth 20000 in
theorem wd_841 : Cond.methodLink "AuctionRoomLaw" 12 ⟨"AuctionRoomModel", "<init>", "()V"⟩ ∈ ym_T := ym_tg (k := 3) (i := 46) rfl rfl
set_option maxRecDepth 20000 in
theorem wd_842 : Cond.instanceMethod ⟨"AuctionRoomModel", "<init>", "()V"⟩ ∈ ym_T := ym_tg (k := 3) (i := 47) rfl rfl
set_option maxRecDepth 20000 in
theorem wd_843 : Cond.code yX8_init cX8_init 1 none ∈ ym_T := ym_tg (k := 3) (i := 48) rfl rfl
set_option maxRecDepth 20000 in
theorem wd_844 : Cond.methodLink "AuctionRoomModel" 1 ⟨"java/lang/Object", "<init>", "()V"⟩ ∈ ym_T := ym_tg (k := 3) (i := 49) rfl rfl
set_option maxRecDepth 20000 in
theorem wd_845 : Cond.fieldLink "AuctionRoomModel" 185 "AuctionRoomModel" "bidders" "I" ∈ ym_T := ym_tg (k := 3) (i := 50) rfl rfl
set_option maxRecDepth 20000 in
theorem wd_846 : Cond.fieldLink "AuctionRoomModel" 9 "AuctionRoomModel" "bidderKinds" "[I" ∈ ym_T := ym_tg (k := 3) (i := 51) rfl rfl
set_option maxRecDepth 20000 in
theorem wd_847 : Cond.fieldLink "AuctionRoomModel" 13 "AuctionRoomModel" "purses" "[J" ∈ ym_T := ym_tg (k := 3) (i := 52) rfl rfl
set_option maxRecDepth 20000 in
theorem wd_848 : Cond.fieldLink "AuctionRoomModel" 17 "AuctionRoomModel" "balances" "[J" ∈ ym_T := ym_tg (k := 3) (i := 53) rfl rfl
set_option maxRecDepth 20000 in
theorem wd_849 : Cond.fieldLink "AuctionRoomModel" 188 "AuctionRoomModel" "lots" "I" ∈ ym_T := ym_tg (k := 3) (i := 54) rfl rfl
set_option maxRecDepth 20000 in
theorem wd_850 : Cond.fieldLink "AuctionRoomModel" 20 "AuctionRoomModel" "kinds" "[I" ∈ ym_T := ym_tg (k := 3) (i := 55) rfl rfl
set_option maxRecDepth 20000 in
theorem wd_851 : Cond.fieldLink "AuctionRoomModel" 23 "AuctionRoomModel" "starts" "[J" ∈ ym_T := ym_tg (k := 3) (i := 56) rfl rfl
set_option maxRecDepth 20000 in
theorem wd_852 : Cond.fieldLink "AuctionRoomModel" 26 "AuctionRoomModel" "reserves" "[J" ∈ ym_T := ym_tg (k := 3) (i := 57) rfl rfl
set_option maxRecDepth 20000 in
theorem wd_853 : Cond.fieldLink "AuctionRoomModel" 29 "AuctionRoomModel" "cuts" "[I" ∈ ym_T := ym_tg (k := 3) (i := 58) rfl rfl
set_option maxRecDepth 20000 in
theorem wd_854 : Cond.fieldLink "AuctionRoomModel" 32 "AuctionRoomModel" "states" "[I" ∈ ym_T := ym_tg (k := 3) (i := 59) rfl rfl
set_option maxRecDepth 20000 in
theorem wd_855 : Cond.fieldLink "AuctionRoomModel" 35 "AuctionRoomModel" "prices" "[J" ∈ ym_T := ym_tg (k := 3) (i := 60) rfl rfl
set_option maxRecDepth 20000 in
theorem wd_856 : Cond.fieldLink "AuctionRoomModel" 38 "AuctionRoomModel" "sellers" "[I" ∈ ym_T := ym_tg (k := 3) (i := 61) rfl rfl
set_option maxRecDepth 20000 in
theorem wd_857 : Cond.fieldLink "AuctionRoomModel" 41 "AuctionRoomModel" "sellerCounts" "[I" ∈ ym_T := ym_tg (k := 3) (i := 62) rfl rfl
set_option maxRecDepth 20000 in
theorem wd_858 : Cond.fieldLink "AuctionRoomModel" 44 "AuctionRoomModel" "entryCounts" "[I" ∈ ym_T := ym_tg (k := 3) (i := 63) rfl rfl
set_option maxRecDepth 20000 in
theorem wd_859 : Cond.fieldLink "AuctionRoomModel" 47 "AuctionRoomModel" "latests" "[I" ∈ ym_T := ym_tg (k := 3) (i := 64) rfl rfl
set_option maxRecDepth 20000 in
theorem wd_860 : Cond.fieldLink "AuctionRoomModel" 191 "AuctionRoomModel" "entries" "I" ∈ ym_T := ym_tg (k := 3) (i := 65) rfl rfl
set_option maxRecDepth 20000 in
theorem wd_861 : Cond.fieldLink "AuctionRoomModel" 50 "AuctionRoomModel" "entryBidders" "[I" ∈ ym_T := ym_tg (k := 3) (i := 66) rfl rfl
set_option maxRecDepth 20000 in
theorem wd_862 : Cond.fieldLink "AuctionRoomModel" 53 "AuctionRoomModel" "entrySums" "[J" ∈ ym_T := ym_tg (k := 3) (i := 67) rfl rfl
set_option maxRecDepth 20000 in
theorem wd_863 : Cond.fieldLink "AuctionRoomModel" 56 "AuctionRoomModel" "entryBefores" "[I" ∈ ym_T := ym_tg (k := 3) (i := 68) rfl rfl
set_option maxRecDepth 20000 in
theorem wd_864 : Cond.fieldLink "AuctionRoomModel" 59 "AuctionRoomModel" "limitCounts" "[I" ∈ ym_T := ym_tg (k := 3) (i := 69) rfl rfl
set_option maxRecDepth 20000 in
theorem wd_865 : Cond.fieldLink "AuctionRoomModel" 62 "AuctionRoomModel" "limitBidders" "[I" ∈ ym_T := ym_tg (k := 3) (i := 70) rfl rfl
set_option maxRecDepth 20000 in
theorem wd_866 : Cond.fieldLink "AuctionRoomModel" 65 "AuctionRoomModel" "limitSums" "[J" ∈ ym_T := ym_tg (k := 3) (i := 71) rfl rfl
set_option maxRecDepth 20000 in
theorem wd_867 : Cond.fieldLink "AuctionRoomModel" 68 "AuctionRoomModel" "limitNumbers" "[I" ∈ ym_T := ym_tg (k := 3) (i := 72) rfl rfl
set_option maxRecDepth 20000 in
theorem wd_868 : Cond.fieldLink "AuctionRoomModel" 71 "AuctionRoomModel" "bidNumbers" "[I" ∈ ym_T := ym_tg (k := 3) (i := 73) rfl rfl
set_option maxRecDepth 20000 in
theorem wd_869 : Cond.fieldLink "AuctionRoomModel" 74 "AuctionRoomModel" "bidSums" "[J" ∈ ym_T := ym_tg (k := 3) (i := 74) rfl rfl
set_option maxRecDepth 20000 in
theorem wd_870 : Cond.fieldLink "AuctionRoomModel" 77 "AuctionRoomModel" "isOpened" "[Z" ∈ ym_T := ym_tg (k := 3) (i := 75) rfl rfl
set_option maxRecDepth 20000 in
theorem wd_871 : Cond.fieldLink "AuctionRoomModel" 81 "AuctionRoomModel" "openedBidders" "[I" ∈ ym_T := ym_tg (k := 3) (i := 76) rfl rfl
set_option maxRecDepth 20000 in
theorem wd_872 : Cond.fieldLink "AuctionRoomModel" 84 "AuctionRoomModel" "openedSums" "[J" ∈ ym_T := ym_tg (k := 3) (i := 77) rfl rfl
set_option maxRecDepth 20000 in
theorem wd_873 : Cond.fieldLink "AuctionRoomModel" 87 "AuctionRoomModel" "firsts" "[I" ∈ ym_T := ym_tg (k := 3) (i := 78) rfl rfl
set_option maxRecDepth 20000 in
theorem wd_874 : Cond.fieldLink "AuctionRoomModel" 90 "AuctionRoomModel" "seconds" "[I" ∈ ym_T := ym_tg (k := 3) (i := 79) rfl rfl
set_option maxRecDepth 20000 in
theorem wd_875 : Cond.fieldLink "AuctionRoomModel" 93 "AuctionRoomModel" "wholes" "[I" ∈ ym_T := ym_tg (k := 3) (i := 80) rfl rfl
set_option maxRecDepth 20000 in
theorem wd_876 : Cond.fieldLink "AuctionRoomModel" 96 "AuctionRoomModel" "partsOne" "[I" ∈ ym_T := ym_tg (k := 3) (i := 81) rfl rfl
set_option maxRecDepth 20000 in
theorem wd_877 : Cond.fieldLink "AuctionRoomModel" 99 "AuctionRoomModel" "partsTwo" "[I" ∈ ym_T := ym_tg (k := 3) (i := 82) rfl rfl
set_option maxRecDepth 20000 in
theorem wd_878 : Cond.fieldLink "AuctionRoomModel" 194 "AuctionRoomModel" "stepCount" "I" ∈ ym_T := ym_tg (k := 3) (i := 83) rfl rfl
set_option maxRecDepth 20000 in
theorem wd_879 : Cond.fieldLink "AuctionRoomModel" 102 "AuctionRoomModel" "stepFroms" "[J" ∈ ym_T := ym_tg (k := 3) (i := 84) rfl rfl
set_option maxRecDepth 20000 in
theorem wd_880 : Cond.fieldLink "AuctionRoomModel" 105 "AuctionRoomModel" "stepBys" "[J" ∈ ym_T := ym_tg (k := 3) (i := 85) rfl rfl
set_option maxRecDepth 20000 in
theorem wd_881 : Cond.fieldLink "AuctionRoomModel" 197 "AuctionRoomModel" "bracketCount" "I" ∈ ym_T := ym_tg (k := 3) (i := 86) rfl rfl
set_option maxRecDepth 20000 in
theorem wd_882 : Cond.fieldLink "AuctionRoomModel" 108 "AuctionRoomModel" "bracketFroms" "[J" ∈ ym_T := ym_tg (k := 3) (i := 87) rfl rfl
set_option maxRecDepth 20000 in
theorem wd_883 : Cond.fieldLink "AuctionRoomModel" 111 "AuctionRoomModel" "bracketRates" "[I" ∈ ym_T := ym_tg (k := 3) (i := 88) rfl rfl
set_option maxRecDepth 20000 in
theorem wd_884 : Cond.fieldLink "AuctionRoomModel" 114 "AuctionRoomModel" "taxRates" "[I" ∈ ym_T := ym_tg (k := 3) (i := 89) rfl rfl
set_option maxRecDepth 20000 in
theorem wd_885 : Cond.fieldLink "AuctionRoomModel" 117 "AuctionRoomModel" "accounts" "[J" ∈ ym_T := ym_tg (k := 3) (i := 90) rfl rfl
set_option maxRecDepth 20000 in
theorem wd_886 : Cond.fieldLink "AuctionRoomModel" 175 "AuctionRoomModel" "acts" "I" ∈ ym_T := ym_tg (k := 3) (i := 91) rfl rfl
set_option maxRecDepth 20000 in
theorem wd_887 : Cond.fieldLink "AuctionRoomModel" 120 "AuctionRoomModel" "actWhats" "[I" ∈ ym_T := ym_tg (k := 3) (i := 92) rfl rfl
set_option maxRecDepth 20000 in
theorem wd_888 : Cond.fieldLink "AuctionRoomModel" 123 "AuctionRoomModel" "actOnes" "[I" ∈ ym_T := ym_tg (k := 3) (i := 93) rfl rfl
set_option maxRecDepth 20000 in
theorem wd_889 : Cond.fieldLink "AuctionRoomModel" 126 "AuctionRoomModel" "actTwos" "[I" ∈ ym_T := ym_tg (k := 3) (i := 94) rfl rfl
set_option maxRecDepth 20000 in
theorem wd_890 : Cond.fieldLink "AuctionRoomModel" 129 "AuctionRoomModel" "actThrees" "[I" ∈ ym_T := ym_tg (k := 3) (i := 95) rfl rfl
set_option maxRecDepth 20000 in
theorem wd_891 : Cond.fieldLink "AuctionRoomModel" 132 "AuctionRoomModel" "actSums" "[J" ∈ ym_T := ym_tg (k := 3) (i := 96) rfl rfl
set_option maxRecDepth 20000 in
theorem wd_892 : Cond.fieldLink "AuctionRoomModel" 135 "AuctionRoomModel" "actOthers" "[J" ∈ ym_T := ym_tg (k := 3) (i := 97) rfl rfl
set_option maxRecDepth 20000 in
theorem wd_893 : Cond.fieldLink "AuctionRoomModel" 138 "AuctionRoomModel" "actNumbers" "[I" ∈ ym_T := ym_tg (k := 3) (i := 98) rfl rfl
set_option maxRecDepth 20000 in
theorem wd_894 : Cond.fieldLink "AuctionRoomModel" 164 "AuctionRoomModel" "batchCount" "I" ∈ ym_T := ym_tg (k := 3) (i := 99) rfl rfl
set_option maxRecDepth 20000 in
theorem wd_895 : Cond.fieldLink "AuctionRoomModel" 141 "AuctionRoomModel" "batchActs" "[I" ∈ ym_T := ym_tg (k := 3) (i := 100) rfl rfl
set_option maxRecDepth 20000 in
theorem wd_896 : Cond.fieldLink "AuctionRoomModel" 204 "AuctionRoomModel" "numbers" "I" ∈ ym_T := ym_tg (k := 3) (i := 101) rfl rfl
set_option maxRecDepth 20000 in
theorem wd_897 : Cond.fieldLink "AuctionRoomModel" 147 "AuctionRoomModel" "tries" "I" ∈ ym_T := ym_tg (k := 3) (i := 102) rfl rfl
set_option maxRecDepth 20000 in
theorem wd_898 : Cond.fieldLink "AuctionRoomModel" 161 "AuctionRoomModel" "why" "I" ∈ ym_T := ym_tg (k := 3) (i := 103) rfl rfl
set_option maxRecDepth 20000 in
theorem wd_899 : Cond.fieldLink "AuctionRoomModel" 144 "AuctionRoomModel" "codes" "[I" ∈ ym_T := ym_tg (k := 3) (i := 104) rfl rfl
set_option maxRecDepth 20000 in
theorem wd_900 : Cond.fieldLink "AuctionRoomModel" 151 "AuctionRoomModel" "codeCount" "I" ∈ ym_T := ym_tg (k := 3) (i := 105) rfl rfl
set_option maxRecDepth 20000 in
theorem wd_901 : Cond.fieldLink "AuctionRoomModel" 200 "AuctionRoomModel" "isAgain" "Z" ∈ ym_T := ym_tg (k := 3) (i := 106) rfl rfl
set_option maxRecDepth 20000 in
theorem wd_902 : Cond.fieldLink "AuctionRoomModel" 154 "AuctionRoomModel" "taken" "I" ∈ ym_T := ym_tg (k := 3) (i := 107) rfl rfl
set_option maxRecDepth 20000 in
theorem wd_1020 : Cond.arrayClass .boolean ∈ ym_T := ym_tg (k := 3) (i := 225) rfl rfl
set_option maxRecDepth 20000 in
theorem wd_1021 : Cond.methodLink "AuctionRoomLaw" 19 ⟨"AuctionRoomModel", "bidder", "(IJ)J"⟩ ∈ ym_T := ym_tg (k := 3) (i := 226) rfl rfl
set_option maxRecDepth 20000 in
theorem wd_1022 : Cond.instanceMethod ⟨"AuctionRoomModel", "bidder", "(IJ)J"⟩ ∈ ym_T := ym_tg (k := 3) (i := 227) rfl rfl
set_option maxRecDepth 20000 in
theorem wd_1023 : Cond.selects "AuctionRoomModel" ⟨"AuctionRoomModel", "bidder", "(IJ)J"⟩ ⟨"AuctionRoomModel", "bidder", "(IJ)J"⟩ ∈ ym_T := ym_tg (k := 3) (i := 228) rfl rfl
set_option maxRecDepth 20000 in
theorem wd_1024 : Cond.code yX8_bidder cX8_bidder 4 (some FieldType.long) ∈ ym_T := ym_tg (k := 3) (i := 229) rfl rfl
set_option maxRecDepth 20000 in
theorem wd_1025 : Cond.methodLink "AuctionRoomModel" 420 ⟨"AuctionRoomModel", "act", "(IIIIJJ)J"⟩ ∈ ym_T := ym_tg (k := 3) (i := 230) rfl rfl
set_option maxRecDepth 20000 in
theorem wd_1027 : Cond.instanceMethod ⟨"AuctionRoomModel", "act", "(IIIIJJ)J"⟩ ∈ ym_T := ym_tg (k := 3) (i := 232) rfl rfl
set_option maxRecDepth 20000 in
theorem wd_1028 : Cond.code yX8_act cX8_act 11 (some FieldType.long) ∈ ym_T := ym_tg (k := 3) (i := 233) rfl rfl
set_option maxRecDepth 20000 in
theorem wd_1029 : Cond.methodLink "AuctionRoomModel" 157 ⟨"AuctionRoomModel", "done", "(IIIIJJ)J"⟩ ∈ ym_T := ym_tg (k := 3) (i := 234) rfl rfl
set_option maxRecDepth 20000 in
theorem wd_1031 : Cond.instanceMethod ⟨"AuctionRoomModel", "done", "(IIIIJJ)J"⟩ ∈ ym_T := ym_tg (k := 3) (i := 236) rfl rfl
set_option maxRecDepth 20000 in
theorem wd_1032 : Cond.code yX8_done cX8_done 9 (some FieldType.long) ∈ ym_T := ym_tg (k := 3) (i := 237) rfl rfl
set_option maxRecDepth 20000 in
theorem wd_1033 : Cond.methodLink "AuctionRoomModel" 207 ⟨"AuctionRoomModel", "newBidder", "(IJ)J"⟩ ∈ ym_T := ym_tg (k := 3) (i := 238) rfl rfl
set_option maxRecDepth 20000 in
theorem wd_1035 : Cond.instanceMethod ⟨"AuctionRoomModel", "newBidder", "(IJ)J"⟩ ∈ ym_T := ym_tg (k := 4) (i := 0) rfl rfl
set_option maxRecDepth 20000 in
theorem wd_1036 : Cond.code yX8_newBidder cX8_newBidder 4 (some FieldType.long) ∈ ym_T := ym_tg (k := 4) (i := 1) rfl rfl
set_option maxRecDepth 20000 in
theorem wd_1037 : Cond.constantLong "AuctionRoomModel" 292 1000000000000 ∈ ym_T := ym_tg (k := 4) (i := 2) rfl rfl
set_option maxRecDepth 20000 in
theorem wd_1038 : Cond.constantLong "AuctionRoomModel" 331 (-1) ∈ ym_T := ym_tg (k := 4) (i := 3) rfl rfl
set_option maxRecDepth 20000 in
theorem wd_1039 : Cond.constantLong "AuctionRoomModel" 333 (-12) ∈ ym_T := ym_tg (k := 4) (i := 4) rfl rfl
set_option maxRecDepth 20000 in
theorem wd_1040 : Cond.methodLink "AuctionRoomModel" 211 ⟨"AuctionRoomModel", "newLot", "(IJJ)J"⟩ ∈ ym_T := ym_tg (k := 4) (i := 5) rfl rfl
set_option maxRecDepth 20000 in
theorem wd_1042 : Cond.instanceMethod ⟨"AuctionRoomModel", "newLot", "(IJJ)J"⟩ ∈ ym_T := ym_tg (k := 4) (i := 7) rfl rfl
set_option maxRecDepth 20000 in
theorem wd_1043 : Cond.code yX8_newLot cX8_newLot 7 (some FieldType.long) ∈ ym_T := ym_tg (k := 4) (i := 8) rfl rfl
set_option maxRecDepth 20000 in
theorem wd_1044 : Cond.methodLink "AuctionRoomModel" 335 ⟨"AuctionRoomModel", "isSum", "(J)Z"⟩ ∈ ym_T := ym_tg (k := 4) (i := 9) rfl rfl
set_option maxRecDepth 20000 in
theorem wd_1045 : Cond.static ⟨"AuctionRoomModel", "isSum", "(J)Z"⟩ ∈ ym_T := ym_tg (k := 4) (i := 10) rfl rfl
set_option maxRecDepth 20000 in
theorem wd_1046 : Cond.code yX8_isSum cX8_isSum 2 (some FieldType.boolean) ∈ ym_T := ym_tg (k := 4) (i := 11) rfl rfl
set_option maxRecDepth 20000 in
theorem wd_1047 : Cond.methodLink "AuctionRoomModel" 339 ⟨"AuctionRoomModel", "renew", "(IJ)V"⟩ ∈ ym_T := ym_tg (k := 4) (i := 12) rfl rfl
set_option maxRecDepth 20000 in
theorem wd_1049 : Cond.instanceMethod ⟨"AuctionRoomModel", "renew", "(IJ)V"⟩ ∈ ym_T := ym_tg (k := 4) (i := 14) rfl rfl
set_option maxRecDepth 20000 in
theorem wd_1050 : Cond.code yX8_renew cX8_renew 4 none ∈ ym_T := ym_tg (k := 4) (i := 15) rfl rfl
set_option maxRecDepth 20000 in
theorem wd_1051 : Cond.methodLink "AuctionRoomModel" 215 ⟨"AuctionRoomModel", "newSeller", "(II)J"⟩ ∈ ym_T := ym_tg (k := 4) (i := 16) rfl rfl
set_option maxRecDepth 20000 in
theorem wd_1053 : Cond.instanceMethod ⟨"AuctionRoomModel", "newSeller", "(II)J"⟩ ∈ ym_T := ym_tg (k := 4) (i := 18) rfl rfl
set_option maxRecDepth 20000 in
theorem wd_1054 : Cond.code yX8_newSeller cX8_newSeller 4 (some FieldType.long) ∈ ym_T := ym_tg (k := 4) (i := 19) rfl rfl
set_option maxRecDepth 20000 in
theorem wd_1055 : Cond.methodLink "AuctionRoomModel" 294 ⟨"AuctionRoomModel", "noLot", "(I)I"⟩ ∈ ym_T := ym_tg (k := 4) (i := 20) rfl rfl
set_option maxRecDepth 20000 in
theorem wd_1057 : Cond.instanceMethod ⟨"AuctionRoomModel", "noLot", "(I)I"⟩ ∈ ym_T := ym_tg (k := 4) (i := 22) rfl rfl
set_option maxRecDepth 20000 in
theorem wd_1058 : Cond.code yX8_noLot cX8_noLot 2 (some FieldType.int) ∈ ym_T := ym_tg (k := 4) (i := 23) rfl rfl
set_option maxRecDepth 20000 in
theorem wd_1059 : Cond.methodLink "AuctionRoomModel" 343 ⟨"AuctionRoomModel", "noBidder", "(I)I"⟩ ∈ ym_T := ym_tg (k := 4) (i := 24) rfl rfl
set_option maxRecDepth 20000 in
theorem wd_1061 : Cond.instanceMethod ⟨"AuctionRoomModel", "noBidder", "(I)I"⟩ ∈ ym_T := ym_tg (k := 4) (i := 26) rfl rfl
set_option maxRecDepth 20000 in
theorem wd_1062 : Cond.code yX8_noBidder cX8_noBidder 2 (some FieldType.int) ∈ ym_T := ym_tg (k := 4) (i := 27) rfl rfl
set_option maxRecDepth 20000 in
theorem wd_1063 : Cond.constantLong "AuctionRoomModel" 346 (-9) ∈ ym_T := ym_tg (k := 4) (i := 28) rfl rfl
set_option maxRecDepth 20000 in
theorem wd_1064 : Cond.constantLong "AuctionRoomModel" 348 (-8) ∈ ym_T := ym_tg (k := 4) (i := 29) rfl rfl
set_option maxRecDepth 20000 in
theorem wd_1065 : Cond.methodLink "AuctionRoomModel" 219 ⟨"AuctionRoomModel", "newCut", "(II)J"⟩ ∈ ym_T := ym_tg (k := 4) (i := 30) rfl rfl
set_option maxRecDepth 20000 in
theorem wd_1067 : Cond.instanceMethod ⟨"AuctionRoomModel", "newCut", "(II)J"⟩ ∈ ym_T := ym_tg (k := 4) (i := 32) rfl rfl
set_option maxRecDepth 20000 in
theorem wd_1068 : Cond.code yX8_newCut cX8_newCut 4 (some FieldType.long) ∈ ym_T := ym_tg (k := 4) (i := 33) rfl rfl
set_option maxRecDepth 20000 in
theorem wd_1069 : Cond.methodLink "AuctionRoomModel" 350 ⟨"AuctionRoomModel", "isRate", "(I)Z"⟩ ∈ ym_T := ym_tg (k := 4) (i := 34) rfl rfl
set_option maxRecDepth 20000 in
theorem wd_1070 : Cond.static ⟨"AuctionRoomModel", "isRate", "(I)Z"⟩ ∈ ym_T := ym_tg (k := 4) (i := 35) rfl rfl
set_option maxRecDepth 20000 in
theorem wd_1071 : Cond.code yX8_isRate cX8_isRate 1 (some FieldType.boolean) ∈ ym_T := ym_tg (k := 4) (i := 36) rfl rfl
set_option maxRecDepth 20000 in
theorem wd_1072 : Cond.methodLink "AuctionRoomModel" 222 ⟨"AuctionRoomModel", "newStep", "(JJ)J"⟩ ∈ ym_T := ym_tg (k := 4) (i := 37) rfl rfl
set_option maxRecDepth 20000 in
theorem wd_1074 : Cond.instanceMethod ⟨"AuctionRoomModel", "newStep", "(JJ)J"⟩ ∈ ym_T := ym_tg (k := 4) (i := 39) rfl rfl
set_option maxRecDepth 20000 in
theorem wd_1075 : Cond.code yX8_newStep cX8_newStep 5 (some FieldType.long) ∈ ym_T := ym_tg (k := 4) (i := 40) rfl rfl
set_option maxRecDepth 20000 in
theorem wd_1076 : Cond.constantLong "AuctionRoomModel" 354 (-10) ∈ ym_T := ym_tg (k := 4) (i := 41) rfl rfl
set_option maxRecDepth 20000 in
theorem wd_1077 : Cond.methodLink "AuctionRoomModel" 226 ⟨"AuctionRoomModel", "newBracket", "(JI)J"⟩ ∈ ym_T := ym_tg (k := 4) (i := 42) rfl rfl
set_option maxRecDepth 20000 in
theorem wd_1079 : Cond.instanceMethod ⟨"AuctionRoomModel", "newBracket", "(JI)J"⟩ ∈ ym_T := ym_tg (k := 4) (i := 44) rfl rfl
set_option maxRecDepth 20000 in
theorem wd_1080 : Cond.code yX8_newBracket cX8_newBracket 4 (some FieldType.long) ∈ ym_T := ym_tg (k := 4) (i := 45) rfl rfl
set_option maxRecDepth 20000 in
theorem wd_1081 : Cond.methodLink "AuctionRoomModel" 230 ⟨"AuctionRoomModel", "newTax", "(II)J"⟩ ∈ ym_T := ym_tg (k := 4) (i := 46) rfl rfl
set_option maxRecDepth 20000 in
theorem wd_1083 : Cond.instanceMethod ⟨"AuctionRoomModel", "newTax", "(II)J"⟩ ∈ ym_T := ym_tg (k := 4) (i := 48) rfl rfl
set_option maxRecDepth 20000 in
theorem wd_1084 : Cond.code yX8_newTax cX8_newTax 4 (some FieldType.long) ∈ ym_T := ym_tg (k := 4) (i := 49) rfl rfl
set_option maxRecDepth 20000 in
theorem wd_1085 : Cond.methodLink "AuctionRoomModel" 233 ⟨"AuctionRoomModel", "called", "(I)J"⟩ ∈ ym_T := ym_tg (k := 4) (i := 50) rfl rfl
set_option maxRecDepth 20000 in
theorem wd_1087 : Cond.instanceMethod ⟨"AuctionRoomModel", "called", "(I)J"⟩ ∈ ym_T := ym_tg (k := 4) (i := 52) rfl rfl
set_option maxRecDepth 20000 in
theorem wd_1088 : Cond.code yX8_called cX8_called 2 (some FieldType.long) ∈ ym_T := ym_tg (k := 4) (i := 53) rfl rfl
set_option maxRecDepth 20000 in
theorem wd_1089 : Cond.methodLink "AuctionRoomModel" 356 ⟨"AuctionRoomModel", "askPapers", "(I)V"⟩ ∈ ym_T := ym_tg (k := 4) (i := 54) rfl rfl
set_option maxRecDepth 20000 in
theorem wd_1091 : Cond.instanceMethod ⟨"AuctionRoomModel", "askPapers", "(I)V"⟩ ∈ ym_T := ym_tg (k := 4) (i := 56) rfl rfl
set_option maxRecDepth 20000 in
theorem wd_1092 : Cond.code yX8_askPapers cX8_askPapers 12 none ∈ ym_T := ym_tg (k := 4) (i := 57) rfl rfl
set_option maxRecDepth 20000 in
theorem wd_1093 : Cond.methodLink "AuctionRoomModel" 386 ⟨"AuctionRoomModel", "isPlain", "(I)Z"⟩ ∈ ym_T := ym_tg (k := 4) (i := 58) rfl rfl
set_option maxRecDepth 20000 in
theorem wd_1095 : Cond.instanceMethod ⟨"AuctionRoomModel", "isPlain", "(I)Z"⟩ ∈ ym_T := ym_tg (k := 4) (i := 60) rfl rfl
set_option maxRecDepth 20000 in
theorem wd_1096 : Cond.code yX8_isPlain cX8_isPlain 2 (some FieldType.boolean) ∈ ym_T := ym_tg (k := 4) (i := 61) rfl rfl
set_option maxRecDepth 20000 in
theorem wd_1097 : Cond.methodLink "AuctionRoomModel" 389 ⟨"AuctionRoomModel", "isAhead", "(JIJI)Z"⟩ ∈ ym_T := ym_tg (k := 4) (i := 62) rfl rfl
set_option maxRecDepth 20000 in
theorem wd_1098 : Cond.static ⟨"AuctionRoomModel", "isAhead", "(JIJI)Z"⟩ ∈ ym_T := ym_tg (k := 4) (i := 63) rfl rfl
set_option maxRecDepth 20000 in
theorem wd_1099 : Cond.code yX8_isAhead cX8_isAhead 6 (some FieldType.boolean) ∈ ym_T := ym_tg (k := 4) (i := 64) rfl rfl
set_option maxRecDepth 20000 in
theorem wd_1100 : Cond.methodLink "AuctionRoomModel" 315 ⟨"AuctionRoomModel", "after", "(J)J"⟩ ∈ ym_T := ym_tg (k := 4) (i := 65) rfl rfl
set_option maxRecDepth 20000 in
theorem wd_1102 : Cond.instanceMethod ⟨"AuctionRoomModel", "after", "(J)J"⟩ ∈ ym_T := ym_tg (k := 4) (i := 67) rfl rfl
set_option maxRecDepth 20000 in
theorem wd_1103 : Cond.code yX8_after cX8_after 6 (some FieldType.long) ∈ ym_T := ym_tg (k := 4) (i := 68) rfl rfl
set_option maxRecDepth 20000 in
theorem wd_1104 : Cond.methodLink "AuctionRoomModel" 298 ⟨"AuctionRoomModel", "standing", "(I)I"⟩ ∈ ym_T := ym_tg (k := 4) (i := 69) rfl rfl
set_option maxRecDepth 20000 in
theorem wd_1106 : Cond.instanceMethod ⟨"AuctionRoomModel", "standing", "(I)I"⟩ ∈ ym_T := ym_tg (k := 4) (i := 71) rfl rfl
set_option maxRecDepth 20000 in
theorem wd_1107 : Cond.code yX8_standing cX8_standing 2 (some FieldType.int) ∈ ym_T := ym_tg (k := 4) (i := 72) rfl rfl
set_option maxRecDepth 20000 in
theorem wd_1108 : Cond.methodLink "AuctionRoomModel" 312 ⟨"AuctionRoomModel", "standingSum", "(I)J"⟩ ∈ ym_T := ym_tg (k := 4) (i := 73) rfl rfl
set_option maxRecDepth 20000 in
theorem wd_1110 : Cond.instanceMethod ⟨"AuctionRoomModel", "standingSum", "(I)J"⟩ ∈ ym_T := ym_tg (k := 4) (i := 75) rfl rfl
set_option maxRecDepth 20000 in
theorem wd_1111 : Cond.code yX8_standingSum cX8_standingSum 2 (some FieldType.long) ∈ ym_T := ym_tg (k := 4) (i := 76) rfl rfl
set_option maxRecDepth 20000 in
theorem wd_1112 : Cond.methodLink "AuctionRoomModel" 382 ⟨"AuctionRoomModel", "enter", "(IIJ)V"⟩ ∈ ym_T := ym_tg (k := 4) (i := 77) rfl rfl
set_option maxRecDepth 20000 in
theorem wd_1114 : Cond.instanceMethod ⟨"AuctionRoomModel", "enter", "(IIJ)V"⟩ ∈ ym_T := ym_tg (k := 4) (i := 79) rfl rfl
set_option maxRecDepth 20000 in
theorem wd_1115 : Cond.code yX8_enter cX8_enter 5 none ∈ ym_T := ym_tg (k := 4) (i := 80) rfl rfl
set_option maxRecDepth 20000 in
theorem wd_1116 : Cond.methodLink "AuctionRoomModel" 178 ⟨"AuctionRoomModel", "longer", "([I)[I"⟩ ∈ ym_T := ym_tg (k := 4) (i := 81) rfl rfl
set_option maxRecDepth 20000 in
theorem wd_1117 : Cond.static ⟨"AuctionRoomModel", "longer", "([I)[I"⟩ ∈ ym_T := ym_tg (k := 4) (i := 82) rfl rfl
set_option maxRecDepth 20000 in
theorem wd_1118 : Cond.code yX8_longer cX8_longer 3 (some (FieldType.array FieldType.int)) ∈ ym_T := ym_tg (k := 4) (i := 83) rfl rfl
set_option maxRecDepth 20000 in
theorem wd_1119 : Cond.methodLink "AuctionRoomModel" 182 ⟨"AuctionRoomModel", "longer", "([J)[J"⟩ ∈ ym_T := ym_tg (k := 4) (i := 84) rfl rfl
set_option maxRecDepth 20000 in
theorem wd_1120 : Cond.static ⟨"AuctionRoomModel", "longer", "([J)[J"⟩ ∈ ym_T := ym_tg (k := 4) (i := 85) rfl rfl
set_option maxRecDepth 20000 in
theorem wd_1121 : Cond.code yX8_longer_ cX8_longer_ 3 (some (FieldType.array FieldType.long)) ∈ ym_T := ym_tg (k := 4) (i := 86) rfl rfl
set_option maxRecDepth 20000 in
theorem wd_1122 : Cond.methodLink "AuctionRoomModel" 237 ⟨"AuctionRoomModel", "bidden", "(IIJ)J"⟩ ∈ ym_T := ym_tg (k := 4) (i := 87) rfl rfl
set_option maxRecDepth 20000 in
theorem wd_1124 : Cond.instanceMethod ⟨"AuctionRoomModel", "bidden", "(IIJ)J"⟩ ∈ ym_T := ym_tg (k := 4) (i := 89) rfl rfl
set_option maxRecDepth 20000 in
theorem wd_1125 : Cond.code yX8_bidden cX8_bidden 6 (some FieldType.long) ∈ ym_T := ym_tg (k := 4) (i := 90) rfl rfl
set_option maxRecDepth 20000 in
theorem wd_1126 : Cond.constantLong "AuctionRoomModel" 359 (-4) ∈ ym_T := ym_tg (k := 4) (i := 91) rfl rfl
set_option maxRecDepth 20000 in
theorem wd_1127 : Cond.methodLink "AuctionRoomModel" 361 ⟨"AuctionRoomModel", "notOpen", "(I)I"⟩ ∈ ym_T := ym_tg (k := 4) (i := 92) rfl rfl
set_option maxRecDepth 20000 in
theorem wd_1129 : Cond.instanceMethod ⟨"AuctionRoomModel", "notOpen", "(I)I"⟩ ∈ ym_T := ym_tg (k := 4) (i := 94) rfl rfl
set_option maxRecDepth 20000 in
theorem wd_1130 : Cond.code yX8_notOpen cX8_notOpen 2 (some FieldType.int) ∈ ym_T := ym_tg (k := 4) (i := 95) rfl rfl
set_option maxRecDepth 20000 in
theorem wd_1131 : Cond.methodLink "AuctionRoomModel" 364 ⟨"AuctionRoomModel", "hasEntry", "(II)Z"⟩ ∈ ym_T := ym_tg (k := 4) (i := 96) rfl rfl
set_option maxRecDepth 20000 in
theorem wd_1133 : Cond.instanceMethod ⟨"AuctionRoomModel", "hasEntry", "(II)Z"⟩ ∈ ym_T := ym_tg (k := 4) (i := 98) rfl rfl
set_option maxRecDepth 20000 in
theorem wd_1134 : Cond.code yX8_hasEntry cX8_hasEntry 4 (some FieldType.boolean) ∈ ym_T := ym_tg (k := 4) (i := 99) rfl rfl
set_option maxRecDepth 20000 in
theorem wd_1135 : Cond.constantLong "AuctionRoomModel" 368 (-13) ∈ ym_T := ym_tg (k := 4) (i := 100) rfl rfl
set_option maxRecDepth 20000 in
theorem wd_1136 : Cond.methodLink "AuctionRoomModel" 370 ⟨"AuctionRoomModel", "askOf", "(I)J"⟩ ∈ ym_T := ym_tg (k := 4) (i := 101) rfl rfl
set_option maxRecDepth 20000 in
theorem wd_1138 : Cond.instanceMethod ⟨"AuctionRoomModel", "askOf", "(I)J"⟩ ∈ ym_T := ym_tg (k := 4) (i := 103) rfl rfl
set_option maxRecDepth 20000 in
theorem wd_1139 : Cond.code yX8_askOf cX8_askOf 2 (some FieldType.long) ∈ ym_T := ym_tg (k := 4) (i := 104) rfl rfl
set_option maxRecDepth 20000 in
theorem wd_1140 : Cond.methodLink "AuctionRoomModel" 309 ⟨"AuctionRoomModel", "mark", "(I)V"⟩ ∈ ym_T := ym_tg (k := 4) (i := 105) rfl rfl
set_option maxRecDepth 20000 in
theorem wd_1142 : Cond.instanceMethod ⟨"AuctionRoomModel", "mark", "(I)V"⟩ ∈ ym_T := ym_tg (k := 4) (i := 107) rfl rfl
set_option maxRecDepth 20000 in
theorem wd_1143 : Cond.code yX8_mark cX8_mark 2 none ∈ ym_T := ym_tg (k := 4) (i := 108) rfl rfl
set_option maxRecDepth 20000 in
theorem wd_1144 : Cond.methodLink "AuctionRoomModel" 373 ⟨"AuctionRoomModel", "may", "(IIJ)Z"⟩ ∈ ym_T := ym_tg (k := 4) (i := 109) rfl rfl
set_option maxRecDepth 20000 in
theorem wd_1146 : Cond.instanceMethod ⟨"AuctionRoomModel", "may", "(IIJ)Z"⟩ ∈ ym_T := ym_tg (k := 4) (i := 111) rfl rfl
set_option maxRecDepth 20000 in
theorem wd_1147 : Cond.code yX8_may cX8_may 5 (some FieldType.boolean) ∈ ym_T := ym_tg (k := 4) (i := 112) rfl rfl
set_option maxRecDepth 20000 in
theorem wd_1148 : Cond.methodLink "AuctionRoomModel" 320 ⟨"AuctionRoomModel", "mayAgent", "(IIJ)Z"⟩ ∈ ym_T := ym_tg (k := 4) (i := 113) rfl rfl
set_option maxRecDepth 20000 in
theorem wd_1150 : Cond.instanceMethod ⟨"AuctionRoomModel", "mayAgent", "(IIJ)Z"⟩ ∈ ym_T := ym_tg (k := 4) (i := 115) rfl rfl
set_option maxRecDepth 20000 in
theorem wd_1151 : Cond.code yX8_mayAgent cX8_mayAgent 9 (some FieldType.boolean) ∈ ym_T := ym_tg (k := 4) (i := 116) rfl rfl
set_option maxRecDepth 20000 in
theorem wd_1152 : Cond.methodLink "AuctionRoomModel" 324 ⟨"AuctionRoomModel", "piecesOf", "(I)J"⟩ ∈ ym_T := ym_tg (k := 4) (i := 117) rfl rfl
set_option maxRecDepth 20000 in
theorem wd_1154 : Cond.instanceMethod ⟨"AuctionRoomModel", "piecesOf", "(I)J"⟩ ∈ ym_T := ym_tg (k := 4) (i := 119) rfl rfl
set_option maxRecDepth 20000 in
theorem wd_1155 : Cond.code yX8_piecesOf cX8_piecesOf 2 (some FieldType.long) ∈ ym_T := ym_tg (k := 4) (i := 120) rfl rfl
set_option maxRecDepth 20000 in
theorem wd_1156 : Cond.constantLong "AuctionRoomModel" 303 2 ∈ ym_T := ym_tg (k := 4) (i := 121) rfl rfl
set_option maxRecDepth 20000 in
theorem wd_1157 : Cond.constantLong "AuctionRoomModel" 318 12 ∈ ym_T := ym_tg (k := 4) (i := 122) rfl rfl
set_option maxRecDepth 20000 in
theorem wd_1158 : Cond.methodLink "AuctionRoomModel" 327 ⟨"AuctionRoomModel", "limitOf", "(II)I"⟩ ∈ ym_T := ym_tg (k := 4) (i := 123) rfl rfl
set_option maxRecDepth 20000 in
theorem wd_1160 : Cond.instanceMethod ⟨"AuctionRoomModel", "limitOf", "(II)I"⟩ ∈ ym_T := ym_tg (k := 4) (i := 125) rfl rfl
set_option maxRecDepth 20000 in
theorem wd_1161 : Cond.code yX8_limitOf cX8_limitOf 4 (some FieldType.int) ∈ ym_T := ym_tg (k := 4) (i := 126) rfl rfl
set_option maxRecDepth 20000 in
theorem wd_1162 : Cond.constantLong "AuctionRoomModel" 376 (-11) ∈ ym_T := ym_tg (k := 4) (i := 127) rfl rfl
set_option maxRecDepth 20000 in
theorem wd_1163 : Cond.methodLink "AuctionRoomModel" 378 ⟨"AuctionRoomModel", "number", "()I"⟩ ∈ ym_T := ym_tg (k := 4) (i := 128) rfl rfl
set_option maxRecDepth 20000 in
theorem wd_1165 : Cond.instanceMethod ⟨"AuctionRoomModel", "number", "()I"⟩ ∈ ym_T := ym_tg (k := 4) (i := 130) rfl rfl
set_option maxRecDepth 20000 in
theorem wd_1166 : Cond.code yX8_number cX8_number 1 (some FieldType.int) ∈ ym_T := ym_tg (k := 4) (i := 131) rfl rfl
set_option maxRecDepth 20000 in
theorem wd_1167 : Cond.methodLink "AuctionRoomModel" 241 ⟨"AuctionRoomModel", "written", "(IIJ)J"⟩ ∈ ym_T := ym_tg (k := 4) (i := 132) rfl rfl
set_option maxRecDepth 20000 in
theorem wd_1169 : Cond.instanceMethod ⟨"AuctionRoomModel", "written", "(IIJ)J"⟩ ∈ ym_T := ym_tg (k := 4) (i := 134) rfl rfl
set_option maxRecDepth 20000 in
theorem wd_1170 : Cond.code yX8_written cX8_written 7 (some FieldType.long) ∈ ym_T := ym_tg (k := 4) (i := 135) rfl rfl
set_option maxRecDepth 20000 in
theorem wd_1171 : Cond.methodLink "AuctionRoomModel" 244 ⟨"AuctionRoomModel", "opened", "(I)J"⟩ ∈ ym_T := ym_tg (k := 4) (i := 136) rfl rfl
set_option maxRecDepth 20000 in
theorem wd_1173 : Cond.instanceMethod ⟨"AuctionRoomModel", "opened", "(I)J"⟩ ∈ ym_T := ym_tg (k := 4) (i := 138) rfl rfl
set_option maxRecDepth 20000 in
theorem wd_1174 : Cond.code yX8_opened cX8_opened 6 (some FieldType.long) ∈ ym_T := ym_tg (k := 4) (i := 139) rfl rfl
set_option maxRecDepth 20000 in
theorem wd_1175 : Cond.methodLink "AuctionRoomModel" 393 ⟨"AuctionRoomModel", "noLotOf", "(II)I"⟩ ∈ ym_T := ym_tg (k := 4) (i := 140) rfl rfl
set_option maxRecDepth 20000 in
theorem wd_1177 : Cond.instanceMethod ⟨"AuctionRoomModel", "noLotOf", "(II)I"⟩ ∈ ym_T := ym_tg (k := 4) (i := 142) rfl rfl
set_option maxRecDepth 20000 in
theorem wd_1178 : Cond.code yX8_noLotOf cX8_noLotOf 3 (some FieldType.int) ∈ ym_T := ym_tg (k := 4) (i := 143) rfl rfl
set_option maxRecDepth 20000 in
theorem wd_1179 : Cond.constantLong "AuctionRoomModel" 396 (-14) ∈ ym_T := ym_tg (k := 4) (i := 144) rfl rfl
set_option maxRecDepth 20000 in
theorem wd_1180 : Cond.methodLink "AuctionRoomModel" 247 ⟨"AuctionRoomModel", "ticked", "(IJ)J"⟩ ∈ ym_T := ym_tg (k := 4) (i := 145) rfl rfl
set_option maxRecDepth 20000 in
theorem wd_1182 : Cond.instanceMethod ⟨"AuctionRoomModel", "ticked", "(IJ)J"⟩ ∈ ym_T := ym_tg (k := 4) (i := 147) rfl rfl
set_option maxRecDepth 20000 in
theorem wd_1183 : Cond.code yX8_ticked cX8_ticked 6 (some FieldType.long) ∈ ym_T := ym_tg (k := 4) (i := 148) rfl rfl
set_option maxRecDepth 20000 in
theorem wd_1184 : Cond.methodLink "AuctionRoomModel" 250 ⟨"AuctionRoomModel", "took", "(II)J"⟩ ∈ ym_T := ym_tg (k := 4) (i := 149) rfl rfl
set_option maxRecDepth 20000 in
theorem wd_1186 : Cond.instanceMethod ⟨"AuctionRoomModel", "took", "(II)J"⟩ ∈ ym_T := ym_tg (k := 4) (i := 151) rfl rfl
set_option maxRecDepth 20000 in
theorem wd_1187 : Cond.code yX8_took cX8_took 3 (some FieldType.long) ∈ ym_T := ym_tg (k := 4) (i := 152) rfl rfl
set_option maxRecDepth 20000 in
theorem wd_1188 : Cond.methodLink "AuctionRoomModel" 253 ⟨"AuctionRoomModel", "doneElse", "(IIIIJ)J"⟩ ∈ ym_T := ym_tg (k := 4) (i := 153) rfl rfl
set_option maxRecDepth 20000 in
theorem wd_1190 : Cond.instanceMethod ⟨"AuctionRoomModel", "doneElse", "(IIIIJ)J"⟩ ∈ ym_T := ym_tg (k := 4) (i := 155) rfl rfl
set_option maxRecDepth 20000 in
theorem wd_1191 : Cond.code yX8_doneElse cX8_doneElse 7 (some FieldType.long) ∈ ym_T := ym_tg (k := 4) (i := 156) rfl rfl
set_option maxRecDepth 20000 in
theorem wd_1192 : Cond.methodLink "AuctionRoomModel" 257 ⟨"AuctionRoomModel", "hammered", "(I)J"⟩ ∈ ym_T := ym_tg (k := 4) (i := 157) rfl rfl
set_option maxRecDepth 20000 in
theorem wd_1194 : Cond.instanceMethod ⟨"AuctionRoomModel", "hammered", "(I)J"⟩ ∈ ym_T := ym_tg (k := 4) (i := 159) rfl rfl
set_option maxRecDepth 20000 in
theorem wd_1195 : Cond.code yX8_hammered cX8_hammered 4 (some FieldType.long) ∈ ym_T := ym_tg (k := 4) (i := 160) rfl rfl
set_option maxRecDepth 20000 in
theorem wd_1196 : Cond.methodLink "AuctionRoomModel" 407 ⟨"AuctionRoomModel", "soldOf", "(I)Z"⟩ ∈ ym_T := ym_tg (k := 4) (i := 161) rfl rfl
set_option maxRecDepth 20000 in
theorem wd_1198 : Cond.instanceMethod ⟨"AuctionRoomModel", "soldOf", "(I)Z"⟩ ∈ ym_T := ym_tg (k := 4) (i := 163) rfl rfl
set_option maxRecDepth 20000 in
theorem wd_1199 : Cond.code yX8_soldOf cX8_soldOf 2 (some FieldType.boolean) ∈ ym_T := ym_tg (k := 4) (i := 164) rfl rfl
set_option maxRecDepth 20000 in
theorem wd_1200 : Cond.constantLong "AuctionRoomModel" 410 (-5) ∈ ym_T := ym_tg (k := 4) (i := 165) rfl rfl
set_option maxRecDepth 20000 in
theorem wd_1201 : Cond.methodLink "AuctionRoomModel" 412 ⟨"AuctionRoomModel", "sell", "(IJ)J"⟩ ∈ ym_T := ym_tg (k := 4) (i := 166) rfl rfl
set_option maxRecDepth 20000 in
theorem wd_1203 : Cond.instanceMethod ⟨"AuctionRoomModel", "sell", "(IJ)J"⟩ ∈ ym_T := ym_tg (k := 4) (i := 168) rfl rfl
set_option maxRecDepth 20000 in
theorem wd_1204 : Cond.code yX8_sell cX8_sell 15 (some FieldType.long) ∈ ym_T := ym_tg (k := 4) (i := 169) rfl rfl
set_option maxRecDepth 20000 in
theorem wd_1205 : Cond.methodLink "AuctionRoomModel" 404 ⟨"AuctionRoomModel", "premiumOf", "(J)J"⟩ ∈ ym_T := ym_tg (k := 4) (i := 170) rfl rfl
set_option maxRecDepth 20000 in
theorem wd_1207 : Cond.instanceMethod ⟨"AuctionRoomModel", "premiumOf", "(J)J"⟩ ∈ ym_T := ym_tg (k := 4) (i := 172) rfl rfl
set_option maxRecDepth 20000 in
theorem wd_1208 : Cond.code yX8_premiumOf cX8_premiumOf 8 (some FieldType.long) ∈ ym_T := ym_tg (k := 4) (i := 173) rfl rfl
set_option maxRecDepth 20000 in
theorem wd_1209 : Cond.methodLink "AuctionRoomModel" 305 ⟨"AuctionRoomModel", "even", "(J)J"⟩ ∈ ym_T := ym_tg (k := 4) (i := 174) rfl rfl
set_option maxRecDepth 20000 in
theorem wd_1210 : Cond.static ⟨"AuctionRoomModel", "even", "(J)J"⟩ ∈ ym_T := ym_tg (k := 4) (i := 175) rfl rfl
set_option maxRecDepth 20000 in
theorem wd_1211 : Cond.code yX8_even cX8_even 6 (some FieldType.long) ∈ ym_T := ym_tg (k := 4) (i := 176) rfl rfl
set_option maxRecDepth 20000 in
theorem wd_1212 : Cond.constantLong "AuctionRoomModel" 301 10000 ∈ ym_T := ym_tg (k := 4) (i := 177) rfl rfl
set_option maxRecDepth 20000 in
theorem wd_1213 : Cond.methodLink "AuctionRoomModel" 260 ⟨"AuctionRoomModel", "joined", "(III)J"⟩ ∈ ym_T := ym_tg (k := 4) (i := 178) rfl rfl
set_option maxRecDepth 20000 in
theorem wd_1215 : Cond.instanceMethod ⟨"AuctionRoomModel", "joined", "(III)J"⟩ ∈ ym_T := ym_tg (k := 4) (i := 180) rfl rfl
set_option maxRecDepth 20000 in
theorem wd_1216 : Cond.code yX8_joined cX8_joined 4 (some FieldType.long) ∈ ym_T := ym_tg (k := 4) (i := 181) rfl rfl
set_option maxRecDepth 20000 in
theorem wd_1217 : Cond.methodLink "AuctionRoomModel" 264 ⟨"AuctionRoomModel", "settled", "(I)J"⟩ ∈ ym_T := ym_tg (k := 4) (i := 182) rfl rfl
set_option maxRecDepth 20000 in
theorem wd_1219 : Cond.instanceMethod ⟨"AuctionRoomModel", "settled", "(I)J"⟩ ∈ ym_T := ym_tg (k := 4) (i := 184) rfl rfl
set_option maxRecDepth 20000 in
theorem wd_1220 : Cond.code yX8_settled cX8_settled 21 (some FieldType.long) ∈ ym_T := ym_tg (k := 4) (i := 185) rfl rfl
set_option maxRecDepth 20000 in
theorem wd_1221 : Cond.methodLink "AuctionRoomModel" 415 ⟨"AuctionRoomModel", "wouldBring", "(I)J"⟩ ∈ ym_T := ym_tg (k := 4) (i := 186) rfl rfl
set_option maxRecDepth 20000 in
theorem wd_1223 : Cond.instanceMethod ⟨"AuctionRoomModel", "wouldBring", "(I)J"⟩ ∈ ym_T := ym_tg (k := 4) (i := 188) rfl rfl
set_option maxRecDepth 20000 in
theorem wd_1224 : Cond.code yX8_wouldBring cX8_wouldBring 2 (some FieldType.long) ∈ ym_T := ym_tg (k := 4) (i := 189) rfl rfl
set_option maxRecDepth 20000 in
theorem wd_1225 : Cond.methodLink "AuctionRoomModel" 267 ⟨"AuctionRoomModel", "offered", "(IJ)J"⟩ ∈ ym_T := ym_tg (k := 4) (i := 190) rfl rfl
set_option maxRecDepth 20000 in
theorem wd_1227 : Cond.instanceMethod ⟨"AuctionRoomModel", "offered", "(IJ)J"⟩ ∈ ym_T := ym_tg (k := 4) (i := 192) rfl rfl
set_option maxRecDepth 20000 in
theorem wd_1228 : Cond.code yX8_offered cX8_offered 5 (some FieldType.long) ∈ ym_T := ym_tg (k := 4) (i := 193) rfl rfl
set_option maxRecDepth 20000 in
theorem wd_1229 : Cond.methodLink "AuctionRoomModel" 270 ⟨"AuctionRoomModel", "paid", "(IJ)J"⟩ ∈ ym_T := ym_tg (k := 4) (i := 194) rfl rfl
set_option maxRecDepth 20000 in
theorem wd_1231 : Cond.instanceMethod ⟨"AuctionRoomModel", "paid", "(IJ)J"⟩ ∈ ym_T := ym_tg (k := 4) (i := 196) rfl rfl
set_option maxRecDepth 20000 in
theorem wd_1232 : Cond.code yX8_paid cX8_paid 4 (some FieldType.long) ∈ ym_T := ym_tg (k := 4) (i := 197) rfl rfl
set_option maxRecDepth 20000 in
theorem wd_1233 : Cond.constantLong "AuctionRoomModel" 418 1000000000000000 ∈ ym_T := ym_tg (k := 4) (i := 198) rfl rfl
set_option maxRecDepth 20000 in
theorem wd_1234 : Cond.methodLink "AuctionRoomModel" 273 ⟨"AuctionRoomModel", "paidOut", "(IJ)J"⟩ ∈ ym_T := ym_tg (k := 4) (i := 199) rfl rfl
set_option maxRecDepth 20000 in
theorem wd_1236 : Cond.instanceMethod ⟨"AuctionRoomModel", "paidOut", "(IJ)J"⟩ ∈ ym_T := ym_tg (k := 4) (i := 201) rfl rfl
set_option maxRecDepth 20000 in
theorem wd_1237 : Cond.code yX8_paidOut cX8_paidOut 4 (some FieldType.long) ∈ ym_T := ym_tg (k := 4) (i := 202) rfl rfl
set_option maxRecDepth 20000 in
theorem wd_1238 : Cond.methodLink "AuctionRoomModel" 276 ⟨"AuctionRoomModel", "asked", "(I)J"⟩ ∈ ym_T := ym_tg (k := 4) (i := 203) rfl rfl
set_option maxRecDepth 20000 in
theorem wd_1240 : Cond.instanceMethod ⟨"AuctionRoomModel", "asked", "(I)J"⟩ ∈ ym_T := ym_tg (k := 4) (i := 205) rfl rfl
set_option maxRecDepth 20000 in
theorem wd_1241 : Cond.code yX8_asked cX8_asked 2 (some FieldType.long) ∈ ym_T := ym_tg (k := 4) (i := 206) rfl rfl
set_option maxRecDepth 20000 in
theorem wd_1242 : Cond.methodLink "AuctionRoomModel" 279 ⟨"AuctionRoomModel", "entryAt", "(III)J"⟩ ∈ ym_T := ym_tg (k := 4) (i := 207) rfl rfl
set_option maxRecDepth 20000 in
theorem wd_1244 : Cond.instanceMethod ⟨"AuctionRoomModel", "entryAt", "(III)J"⟩ ∈ ym_T := ym_tg (k := 4) (i := 209) rfl rfl
set_option maxRecDepth 20000 in
theorem wd_1245 : Cond.code yX8_entryAt cX8_entryAt 6 (some FieldType.long) ∈ ym_T := ym_tg (k := 4) (i := 210) rfl rfl
set_option maxRecDepth 20000 in
theorem wd_1246 : Cond.constantLong "AuctionRoomModel" 398 (-6) ∈ ym_T := ym_tg (k := 4) (i := 211) rfl rfl
set_option maxRecDepth 20000 in
theorem wd_1247 : Cond.constantLong "AuctionRoomModel" 400 (-7) ∈ ym_T := ym_tg (k := 4) (i := 212) rfl rfl
set_option maxRecDepth 20000 in
theorem wd_1248 : Cond.constantLong "AuctionRoomModel" 402 (-3) ∈ ym_T := ym_tg (k := 4) (i := 213) rfl rfl
set_option maxRecDepth 20000 in
theorem wd_1249 : Cond.methodLink "AuctionRoomModel" 282 ⟨"AuctionRoomModel", "opensBatch", "()J"⟩ ∈ ym_T := ym_tg (k := 4) (i := 214) rfl rfl
set_option maxRecDepth 20000 in
theorem wd_1251 : Cond.instanceMethod ⟨"AuctionRoomModel", "opensBatch", "()J"⟩ ∈ ym_T := ym_tg (k := 4) (i := 216) rfl rfl
set_option maxRecDepth 20000 in
theorem wd_1252 : Cond.code yX8_opensBatch cX8_opensBatch 1 (some FieldType.long) ∈ ym_T := ym_tg (k := 4) (i := 217) rfl rfl
set_option maxRecDepth 20000 in
theorem wd_1253 : Cond.methodLink "AuctionRoomModel" 286 ⟨"AuctionRoomModel", "endsBatch", "()J"⟩ ∈ ym_T := ym_tg (k := 4) (i := 218) rfl rfl
set_option maxRecDepth 20000 in
theorem wd_1255 : Cond.instanceMethod ⟨"AuctionRoomModel", "endsBatch", "()J"⟩ ∈ ym_T := ym_tg (k := 4) (i := 220) rfl rfl
set_option maxRecDepth 20000 in
theorem wd_1256 : Cond.code yX8_endsBatch cX8_endsBatch 1 (some FieldType.long) ∈ ym_T := ym_tg (k := 4) (i := 221) rfl rfl
set_option maxRecDepth 20000 in
theorem wd_1257 : Cond.methodLink "AuctionRoomModel" 289 ⟨"AuctionRoomModel", "undoes", "()J"⟩ ∈ ym_T := ym_tg (k := 4) (i := 222) rfl rfl
set_option maxRecDepth 20000 in
theorem wd_1259 : Cond.instanceMethod ⟨"AuctionRoomModel", "undoes", "()J"⟩ ∈ ym_T := ym_tg (k := 4) (i := 224) rfl rfl
set_option maxRecDepth 20000 in
theorem wd_1260 : Cond.code yX8_undoes cX8_undoes 1 (some FieldType.long) ∈ ym_T := ym_tg (k := 4) (i := 225) rfl rfl
set_option maxRecDepth 20000 in
theorem wd_1261 : Cond.methodLink "AuctionRoomModel" 167 ⟨"AuctionRoomModel", "back", "(I)V"⟩ ∈ ym_T := ym_tg (k := 4) (i := 226) rfl rfl
set_option maxRecDepth 20000 in
theorem wd_1263 : Cond.instanceMethod ⟨"AuctionRoomModel", "back", "(I)V"⟩ ∈ ym_T := ym_tg (k := 4) (i := 228) rfl rfl
set_option maxRecDepth 20000 in
theorem wd_1264 : Cond.code yX8_back cX8_back 5 none ∈ ym_T := ym_tg (k := 4) (i := 229) rfl rfl
set_option maxRecDepth 20000 in
theorem wd_1265 : Cond.methodLink "AuctionRoomModel" 171 ⟨"AuctionRoomModel", "note", "(IIIIJJ)V"⟩ ∈ ym_T := ym_tg (k := 4) (i := 230) rfl rfl
set_option maxRecDepth 20000 in
theorem wd_1267 : Cond.instanceMethod ⟨"AuctionRoomModel", "note", "(IIIIJJ)V"⟩ ∈ ym_T := ym_tg (k := 4) (i := 232) rfl rfl
set_option maxRecDepth 20000 in
theorem wd_1268 : Cond.code yX8_note cX8_note 9 none ∈ ym_T := ym_tg (k := 4) (i := 233) rfl rfl
set_option maxRecDepth 20000 in
theorem wd_1269 : Cond.methodLink "AuctionRoomLaw" 24 ⟨"AuctionRoomModel", "lot", "(IJJ)J"⟩ ∈ ym_T := ym_tg (k := 4) (i := 234) rfl rfl
set_option maxRecDepth 20000 in
theorem wd_1270 : Cond.instanceMethod ⟨"AuctionRoomModel", "lot", "(IJJ)J"⟩ ∈ ym_T := ym_tg (k := 4) (i := 235) rfl rfl
set_option maxRecDepth 20000 in
theorem wd_1271 : Cond.selects "AuctionRoomModel" ⟨"AuctionRoomModel", "lot", "(IJJ)J"⟩ ⟨"AuctionRoomModel", "lot", "(IJJ)J"⟩ ∈ ym_T := ym_tg (k := 4) (i := 236) rfl rfl
set_option maxRecDepth 20000 in
theorem wd_1272 : Cond.code yX8_lot cX8_lot 6 (some FieldType.long) ∈ ym_T := ym_tg (k := 4) (i := 237) rfl rfl
set_option maxRecDepth 20000 in
theorem wd_1273 : Cond.methodLink "AuctionRoomLaw" 29 ⟨"AuctionRoomModel", "seller", "(II)J"⟩ ∈ ym_T := ym_tg (k := 4) (i := 238) rfl rfl
set_option maxRecDepth 20000 in
theorem wd_1274 : Cond.instanceMethod ⟨"AuctionRoomModel", "seller", "(II)J"⟩ ∈ ym_T := ym_tg (k := 4) (i := 239) rfl rfl
set_option maxRecDepth 20000 in
theorem wd_1275 : Cond.selects "AuctionRoomModel" ⟨"AuctionRoomModel", "seller", "(II)J"⟩ ⟨"AuctionRoomModel", "seller", "(II)J"⟩ ∈ ym_T := ym_tg (k := 5) (i := 0) rfl rfl
set_option maxRecDepth 20000 in
theorem wd_1276 : Cond.code yX8_seller cX8_seller 3 (some FieldType.long) ∈ ym_T := ym_tg (k := 5) (i := 1) rfl rfl
set_option maxRecDepth 20000 in
theorem wd_1277 : Cond.methodLink "AuctionRoomLaw" 33 ⟨"AuctionRoomModel", "cut", "(II)J"⟩ ∈ ym_T := ym_tg (k := 5) (i := 2) rfl rfl
set_option maxRecDepth 20000 in
theorem wd_1278 : Cond.instanceMethod ⟨"AuctionRoomModel", "cut", "(II)J"⟩ ∈ ym_T := ym_tg (k := 5) (i := 3) rfl rfl
set_option maxRecDepth 20000 in
theorem wd_1279 : Cond.selects "AuctionRoomModel" ⟨"AuctionRoomModel", "cut", "(II)J"⟩ ⟨"AuctionRoomModel", "cut", "(II)J"⟩ ∈ ym_T := ym_tg (k := 5) (i := 4) rfl rfl
set_option maxRecDepth 20000 in
theorem wd_1280 : Cond.code yX8_cut cX8_cut 3 (some FieldType.long) ∈ ym_T := ym_tg (k := 5) (i := 5) rfl rfl
set_option maxRecDepth 20000 in
theorem wd_1281 : Cond.methodLink "AuctionRoomLaw" 38 ⟨"AuctionRoomModel", "step", "(JJ)J"⟩ ∈ ym_T := ym_tg (k := 5) (i := 6) rfl rfl
set_option maxRecDepth 20000 in
theorem wd_1282 : Cond.instanceMethod ⟨"AuctionRoomModel", "step", "(JJ)J"⟩ ∈ ym_T := ym_tg (k := 5) (i := 7) rfl rfl
set_option maxRecDepth 20000 in
theorem wd_1283 : Cond.selects "AuctionRoomModel" ⟨"AuctionRoomModel", "step", "(JJ)J"⟩ ⟨"AuctionRoomModel", "step", "(JJ)J"⟩ ∈ ym_T := ym_tg (k := 5) (i := 8) rfl rfl
set_option maxRecDepth 20000 in
theorem wd_1284 : Cond.code yX8_step cX8_step 5 (some FieldType.long) ∈ ym_T := ym_tg (k := 5) (i := 9) rfl rfl
set_option maxRecDepth 20000 in
theorem wd_1285 : Cond.methodLink "AuctionRoomLaw" 43 ⟨"AuctionRoomModel", "premium", "(JI)J"⟩ ∈ ym_T := ym_tg (k := 5) (i := 10) rfl rfl
set_option maxRecDepth 20000 in
theorem wd_1286 : Cond.instanceMethod ⟨"AuctionRoomModel", "premium", "(JI)J"⟩ ∈ ym_T := ym_tg (k := 5) (i := 11) rfl rfl
set_option maxRecDepth 20000 in
theorem wd_1287 : Cond.selects "AuctionRoomModel" ⟨"AuctionRoomModel", "premium", "(JI)J"⟩ ⟨"AuctionRoomModel", "premium", "(JI)J"⟩ ∈ ym_T := ym_tg (k := 5) (i := 12) rfl rfl
set_option maxRecDepth 20000 in
theorem wd_1288 : Cond.code yX8_premium cX8_premium 4 (some FieldType.long) ∈ ym_T := ym_tg (k := 5) (i := 13) rfl rfl
set_option maxRecDepth 20000 in
theorem wd_1289 : Cond.methodLink "AuctionRoomLaw" 47 ⟨"AuctionRoomModel", "tax", "(II)J"⟩ ∈ ym_T := ym_tg (k := 5) (i := 14) rfl rfl
set_option maxRecDepth 20000 in
theorem wd_1290 : Cond.instanceMethod ⟨"AuctionRoomModel", "tax", "(II)J"⟩ ∈ ym_T := ym_tg (k := 5) (i := 15) rfl rfl
set_option maxRecDepth 20000 in
theorem wd_1291 : Cond.selects "AuctionRoomModel" ⟨"AuctionRoomModel", "tax", "(II)J"⟩ ⟨"AuctionRoomModel", "tax", "(II)J"⟩ ∈ ym_T := ym_tg (k := 5) (i := 16) rfl rfl
set_option maxRecDepth 20000 in
theorem wd_1292 : Cond.code yX8_tax cX8_tax 3 (some FieldType.long) ∈ ym_T := ym_tg (k := 5) (i := 17) rfl rfl
set_option maxRecDepth 20000 in
theorem wd_1293 : Cond.methodLink "AuctionRoomLaw" 52 ⟨"AuctionRoomModel", "call", "(I)J"⟩ ∈ ym_T := ym_tg (k := 5) (i := 18) rfl rfl
set_option maxRecDepth 20000 in
theorem wd_1294 : Cond.instanceMethod ⟨"AuctionRoomModel", "call", "(I)J"⟩ ∈ ym_T := ym_tg (k := 5) (i := 19) rfl rfl
set_option maxRecDepth 20000 in
theorem wd_1295 : Cond.selects "AuctionRoomModel" ⟨"AuctionRoomModel", "call", "(I)J"⟩ ⟨"AuctionRoomModel", "call", "(I)J"⟩ ∈ ym_T := ym_tg (k := 5) (i := 20) rfl rfl
set_option maxRecDepth 20000 in
theorem wd_1296 : Cond.code yX8_call cX8_call 2 (some FieldType.long) ∈ ym_T := ym_tg (k := 5) (i := 21) rfl rfl
set_option maxRecDepth 20000 in
theorem wd_1297 : Cond.methodLink "AuctionRoomLaw" 57 ⟨"AuctionRoomModel", "bid", "(IIJ)J"⟩ ∈ ym_T := ym_tg (k := 5) (i := 22) rfl rfl
set_option maxRecDepth 20000 in
theorem wd_1298 : Cond.instanceMethod ⟨"AuctionRoomModel", "bid", "(IIJ)J"⟩ ∈ ym_T := ym_tg (k := 5) (i := 23) rfl rfl
set_option maxRecDepth 20000 in
theorem wd_1299 : Cond.selects "AuctionRoomModel" ⟨"AuctionRoomModel", "bid", "(IIJ)J"⟩ ⟨"AuctionRoomModel", "bid", "(IIJ)J"⟩ ∈ ym_T := ym_tg (k := 5) (i := 24) rfl rfl
set_option maxRecDepth 20000 in
theorem wd_1300 : Cond.code yX8_bid cX8_bid 5 (some FieldType.long) ∈ ym_T := ym_tg (k := 5) (i := 25) rfl rfl
set_option maxRecDepth 20000 in
theorem wd_1301 : Cond.methodLink "AuctionRoomLaw" 61 ⟨"AuctionRoomModel", "limit", "(IIJ)J"⟩ ∈ ym_T := ym_tg (k := 5) (i := 26) rfl rfl
set_option maxRecDepth 20000 in
theorem wd_1302 : Cond.instanceMethod ⟨"AuctionRoomModel", "limit", "(IIJ)J"⟩ ∈ ym_T := ym_tg (k := 5) (i := 27) rfl rfl
set_option maxRecDepth 20000 in
theorem wd_1303 : Cond.selects "AuctionRoomModel" ⟨"AuctionRoomModel", "limit", "(IIJ)J"⟩ ⟨"AuctionRoomModel", "limit", "(IIJ)J"⟩ ∈ ym_T := ym_tg (k := 5) (i := 28) rfl rfl
set_option maxRecDepth 20000 in
theorem wd_1304 : Cond.code yX8_limit cX8_limit 5 (some FieldType.long) ∈ ym_T := ym_tg (k := 5) (i := 29) rfl rfl
set_option maxRecDepth 20000 in
theorem wd_1305 : Cond.methodLink "AuctionRoomLaw" 65 ⟨"AuctionRoomModel", "ask", "(I)J"⟩ ∈ ym_T := ym_tg (k := 5) (i := 30) rfl rfl
set_option maxRecDepth 20000 in
theorem wd_1306 : Cond.instanceMethod ⟨"AuctionRoomModel", "ask", "(I)J"⟩ ∈ ym_T := ym_tg (k := 5) (i := 31) rfl rfl
set_option maxRecDepth 20000 in
theorem wd_1307 : Cond.selects "AuctionRoomModel" ⟨"AuctionRoomModel", "ask", "(I)J"⟩ ⟨"AuctionRoomModel", "ask", "(I)J"⟩ ∈ ym_T := ym_tg (k := 5) (i := 32) rfl rfl
set_option maxRecDepth 20000 in
theorem wd_1308 : Cond.code yX8_ask cX8_ask 2 (some FieldType.long) ∈ ym_T := ym_tg (k := 5) (i := 33) rfl rfl
set_option maxRecDepth 20000 in
theorem wd_1309 : Cond.methodLink "AuctionRoomLaw" 69 ⟨"AuctionRoomModel", "open", "(I)J"⟩ ∈ ym_T := ym_tg (k := 5) (i := 34) rfl rfl
set_option maxRecDepth 20000 in
theorem wd_1310 : Cond.instanceMethod ⟨"AuctionRoomModel", "open", "(I)J"⟩ ∈ ym_T := ym_tg (k := 5) (i := 35) rfl rfl
set_option maxRecDepth 20000 in
theorem wd_1311 : Cond.selects "AuctionRoomModel" ⟨"AuctionRoomModel", "open", "(I)J"⟩ ⟨"AuctionRoomModel", "open", "(I)J"⟩ ∈ ym_T := ym_tg (k := 5) (i := 36) rfl rfl
set_option maxRecDepth 20000 in
theorem wd_1312 : Cond.code yX8_open cX8_open 2 (some FieldType.long) ∈ ym_T := ym_tg (k := 5) (i := 37) rfl rfl
set_option maxRecDepth 20000 in
theorem wd_1313 : Cond.methodLink "AuctionRoomLaw" 73 ⟨"AuctionRoomModel", "tick", "(IJ)J"⟩ ∈ ym_T := ym_tg (k := 5) (i := 38) rfl rfl
set_option maxRecDepth 20000 in
theorem wd_1314 : Cond.instanceMethod ⟨"AuctionRoomModel", "tick", "(IJ)J"⟩ ∈ ym_T := ym_tg (k := 5) (i := 39) rfl rfl
set_option maxRecDepth 20000 in
theorem wd_1315 : Cond.selects "AuctionRoomModel" ⟨"AuctionRoomModel", "tick", "(IJ)J"⟩ ⟨"AuctionRoomModel", "tick", "(IJ)J"⟩ ∈ ym_T := ym_tg (k := 5) (i := 40) rfl rfl
set_option maxRecDepth 20000 in
theorem wd_1316 : Cond.code yX8_tick cX8_tick 4 (some FieldType.long) ∈ ym_T := ym_tg (k := 5) (i := 41) rfl rfl
set_option maxRecDepth 20000 in
theorem wd_1317 : Cond.methodLink "AuctionRoomLaw" 77 ⟨"AuctionRoomModel", "take", "(II)J"⟩ ∈ ym_T := ym_tg (k := 5) (i := 42) rfl rfl
set_option maxRecDepth 20000 in
theorem wd_1318 : Cond.instanceMethod ⟨"AuctionRoomModel", "take", "(II)J"⟩ ∈ ym_T := ym_tg (k := 5) (i := 43) rfl rfl
set_option maxRecDepth 20000 in
theorem wd_1319 : Cond.selects "AuctionRoomModel" ⟨"AuctionRoomModel", "take", "(II)J"⟩ ⟨"AuctionRoomModel", "take", "(II)J"⟩ ∈ ym_T := ym_tg (k := 5) (i := 44) rfl rfl
set_option maxRecDepth 20000 in
theorem wd_1320 : Cond.code yX8_take cX8_take 3 (some FieldType.long) ∈ ym_T := ym_tg (k := 5) (i := 45) rfl rfl
set_option maxRecDepth 20000 in
theorem wd_1321 : Cond.methodLink "AuctionRoomLaw" 81 ⟨"AuctionRoomModel", "bidderAt", "(II)J"⟩ ∈ ym_T := ym_tg (k := 5) (i := 46) rfl rfl
set_option maxRecDepth 20000 in
theorem wd_1322 : Cond.instanceMethod ⟨"AuctionRoomModel", "bidderAt", "(II)J"⟩ ∈ ym_T := ym_tg (k := 5) (i := 47) rfl rfl
set_option maxRecDepth 20000 in
theorem wd_1323 : Cond.selects "AuctionRoomModel" ⟨"AuctionRoomModel", "bidderAt", "(II)J"⟩ ⟨"AuctionRoomModel", "bidderAt", "(II)J"⟩ ∈ ym_T := ym_tg (k := 5) (i := 48) rfl rfl
set_option maxRecDepth 20000 in
theorem wd_1324 : Cond.code yX8_bidderAt cX8_bidderAt 3 (some FieldType.long) ∈ ym_T := ym_tg (k := 5) (i := 49) rfl rfl
set_option maxRecDepth 20000 in
theorem wd_1325 : Cond.methodLink "AuctionRoomLaw" 85 ⟨"AuctionRoomModel", "sumAt", "(II)J"⟩ ∈ ym_T := ym_tg (k := 5) (i := 50) rfl rfl
set_option maxRecDepth 20000 in
theorem wd_1326 : Cond.instanceMethod ⟨"AuctionRoomModel", "sumAt", "(II)J"⟩ ∈ ym_T := ym_tg (k := 5) (i := 51) rfl rfl
set_option maxRecDepth 20000 in
theorem wd_1327 : Cond.selects "AuctionRoomModel" ⟨"AuctionRoomModel", "sumAt", "(II)J"⟩ ⟨"AuctionRoomModel", "sumAt", "(II)J"⟩ ∈ ym_T := ym_tg (k := 5) (i := 52) rfl rfl
set_option maxRecDepth 20000 in
theorem wd_1328 : Cond.code yX8_sumAt cX8_sumAt 3 (some FieldType.long) ∈ ym_T := ym_tg (k := 5) (i := 53) rfl rfl
set_option maxRecDepth 20000 in
theorem wd_1329 : Cond.methodLink "AuctionRoomLaw" 89 ⟨"AuctionRoomModel", "hammer", "(I)J"⟩ ∈ ym_T := ym_tg (k := 5) (i := 54) rfl rfl
set_option maxRecDepth 20000 in
theorem wd_1330 : Cond.instanceMethod ⟨"AuctionRoomModel", "hammer", "(I)J"⟩ ∈ ym_T := ym_tg (k := 5) (i := 55) rfl rfl
set_option maxRecDepth 20000 in
theorem wd_1331 : Cond.selects "AuctionRoomModel" ⟨"AuctionRoomModel", "hammer", "(I)J"⟩ ⟨"AuctionRoomModel", "hammer", "(I)J"⟩ ∈ ym_T := ym_tg (k := 5) (i := 56) rfl rfl
set_option maxRecDepth 20000 in
theorem wd_1332 : Cond.code yX8_hammer cX8_hammer 2 (some FieldType.long) ∈ ym_T := ym_tg (k := 5) (i := 57) rfl rfl
set_option maxRecDepth 20000 in
theorem wd_1333 : Cond.methodLink "AuctionRoomLaw" 94 ⟨"AuctionRoomModel", "join", "(III)J"⟩ ∈ ym_T := ym_tg (k := 5) (i := 58) rfl rfl
set_option maxRecDepth 20000 in
theorem wd_1334 : Cond.instanceMethod ⟨"AuctionRoomModel", "join", "(III)J"⟩ ∈ ym_T := ym_tg (k := 5) (i := 59) rfl rfl
set_option maxRecDepth 20000 in
theorem wd_1335 : Cond.selects "AuctionRoomModel" ⟨"AuctionRoomModel", "join", "(III)J"⟩ ⟨"AuctionRoomModel", "join", "(III)J"⟩ ∈ ym_T := ym_tg (k := 5) (i := 60) rfl rfl
set_option maxRecDepth 20000 in
theorem wd_1336 : Cond.code yX8_join cX8_join 4 (some FieldType.long) ∈ ym_T := ym_tg (k := 5) (i := 61) rfl rfl
set_option maxRecDepth 20000 in
theorem wd_1337 : Cond.methodLink "AuctionRoomLaw" 98 ⟨"AuctionRoomModel", "settle", "(I)J"⟩ ∈ ym_T := ym_tg (k := 5) (i := 62) rfl rfl
set_option maxRecDepth 20000 in
theorem wd_1338 : Cond.instanceMethod ⟨"AuctionRoomModel", "settle", "(I)J"⟩ ∈ ym_T := ym_tg (k := 5) (i := 63) rfl rfl
set_option maxRecDepth 20000 in
theorem wd_1339 : Cond.selects "AuctionRoomModel" ⟨"AuctionRoomModel", "settle", "(I)J"⟩ ⟨"AuctionRoomModel", "settle", "(I)J"⟩ ∈ ym_T := ym_tg (k := 5) (i := 64) rfl rfl
set_option maxRecDepth 20000 in
theorem wd_1340 : Cond.code yX8_settle cX8_settle 2 (some FieldType.long) ∈ ym_T := ym_tg (k := 5) (i := 65) rfl rfl
set_option maxRecDepth 20000 in
theorem wd_1341 : Cond.methodLink "AuctionRoomLaw" 102 ⟨"AuctionRoomModel", "reoffer", "(IJ)J"⟩ ∈ ym_T := ym_tg (k := 5) (i := 66) rfl rfl
set_option maxRecDepth 20000 in
theorem wd_1342 : Cond.instanceMethod ⟨"AuctionRoomModel", "reoffer", "(IJ)J"⟩ ∈ ym_T := ym_tg (k := 5) (i := 67) rfl rfl
set_option maxRecDepth 20000 in
theorem wd_1343 : Cond.selects "AuctionRoomModel" ⟨"AuctionRoomModel", "reoffer", "(IJ)J"⟩ ⟨"AuctionRoomModel", "reoffer", "(IJ)J"⟩ ∈ ym_T := ym_tg (k := 5) (i := 68) rfl rfl
set_option maxRecDepth 20000 in
theorem wd_1344 : Cond.code yX8_reoffer cX8_reoffer 4 (some FieldType.long) ∈ ym_T := ym_tg (k := 5) (i := 69) rfl rfl
set_option maxRecDepth 20000 in
theorem wd_1345 : Cond.methodLink "AuctionRoomLaw" 106 ⟨"AuctionRoomModel", "pay", "(IJ)J"⟩ ∈ ym_T := ym_tg (k := 5) (i := 70) rfl rfl
set_option maxRecDepth 20000 in
theorem wd_1346 : Cond.instanceMethod ⟨"AuctionRoomModel", "pay", "(IJ)J"⟩ ∈ ym_T := ym_tg (k := 5) (i := 71) rfl rfl
set_option maxRecDepth 20000 in
theorem wd_1347 : Cond.selects "AuctionRoomModel" ⟨"AuctionRoomModel", "pay", "(IJ)J"⟩ ⟨"AuctionRoomModel", "pay", "(IJ)J"⟩ ∈ ym_T := ym_tg (k := 5) (i := 72) rfl rfl
set_option maxRecDepth 20000 in
theorem wd_1348 : Cond.code yX8_pay cX8_pay 4 (some FieldType.long) ∈ ym_T := ym_tg (k := 5) (i := 73) rfl rfl
set_option maxRecDepth 20000 in
theorem wd_1349 : Cond.methodLink "AuctionRoomLaw" 110 ⟨"AuctionRoomModel", "payOut", "(IJ)J"⟩ ∈ ym_T := ym_tg (k := 5) (i := 74) rfl rfl
set_option maxRecDepth 20000 in
theorem wd_1350 : Cond.instanceMethod ⟨"AuctionRoomModel", "payOut", "(IJ)J"⟩ ∈ ym_T := ym_tg (k := 5) (i := 75) rfl rfl
set_option maxRecDepth 20000 in
theorem wd_1351 : Cond.selects "AuctionRoomModel" ⟨"AuctionRoomModel", "payOut", "(IJ)J"⟩ ⟨"AuctionRoomModel", "payOut", "(IJ)J"⟩ ∈ ym_T := ym_tg (k := 5) (i := 76) rfl rfl
set_option maxRecDepth 20000 in
theorem wd_1352 : Cond.code yX8_payOut cX8_payOut 4 (some FieldType.long) ∈ ym_T := ym_tg (k := 5) (i := 77) rfl rfl
set_option maxRecDepth 20000 in
theorem wd_1353 : Cond.methodLink "AuctionRoomLaw" 115 ⟨"AuctionRoomModel", "batch", "()J"⟩ ∈ ym_T := ym_tg (k := 5) (i := 78) rfl rfl
set_option maxRecDepth 20000 in
theorem wd_1354 : Cond.instanceMethod ⟨"AuctionRoomModel", "batch", "()J"⟩ ∈ ym_T := ym_tg (k := 5) (i := 79) rfl rfl
set_option maxRecDepth 20000 in
theorem wd_1355 : Cond.selects "AuctionRoomModel" ⟨"AuctionRoomModel", "batch", "()J"⟩ ⟨"AuctionRoomModel", "batch", "()J"⟩ ∈ ym_T := ym_tg (k := 5) (i := 80) rfl rfl
set_option maxRecDepth 20000 in
theorem wd_1356 : Cond.code yX8_batch cX8_batch 1 (some FieldType.long) ∈ ym_T := ym_tg (k := 5) (i := 81) rfl rfl
set_option maxRecDepth 20000 in
theorem wd_1357 : Cond.methodLink "AuctionRoomLaw" 119 ⟨"AuctionRoomModel", "end", "()J"⟩ ∈ ym_T := ym_tg (k := 5) (i := 82) rfl rfl
set_option maxRecDepth 20000 in
theorem wd_1358 : Cond.instanceMethod ⟨"AuctionRoomModel", "end", "()J"⟩ ∈ ym_T := ym_tg (k := 5) (i := 83) rfl rfl
set_option maxRecDepth 20000 in
theorem wd_1359 : Cond.selects "AuctionRoomModel" ⟨"AuctionRoomModel", "end", "()J"⟩ ⟨"AuctionRoomModel", "end", "()J"⟩ ∈ ym_T := ym_tg (k := 5) (i := 84) rfl rfl
set_option maxRecDepth 20000 in
theorem wd_1360 : Cond.code yX8_end cX8_end 1 (some FieldType.long) ∈ ym_T := ym_tg (k := 5) (i := 85) rfl rfl
set_option maxRecDepth 20000 in
theorem wd_1361 : Cond.methodLink "AuctionRoomLaw" 123 ⟨"AuctionRoomModel", "undo", "()J"⟩ ∈ ym_T := ym_tg (k := 5) (i := 86) rfl rfl
set_option maxRecDepth 20000 in
theorem wd_1362 : Cond.instanceMethod ⟨"AuctionRoomModel", "undo", "()J"⟩ ∈ ym_T := ym_tg (k := 5) (i := 87) rfl rfl
set_option maxRecDepth 20000 in
theorem wd_1363 : Cond.selects "AuctionRoomModel" ⟨"AuctionRoomModel", "undo", "()J"⟩ ⟨"AuctionRoomModel", "undo", "()J"⟩ ∈ ym_T := ym_tg (k := 5) (i := 88) rfl rfl
set_option maxRecDepth 20000 in
theorem wd_1364 : Cond.code yX8_undo cX8_undo 1 (some FieldType.long) ∈ ym_T := ym_tg (k := 5) (i := 89) rfl rfl
set_option maxRecDepth 20000 in
theorem wd_1365 : Cond.methodLink "AuctionRoomLaw" 128 ⟨"AuctionRoomModel", "kindOf", "(I)I"⟩ ∈ ym_T := ym_tg (k := 5) (i := 90) rfl rfl
set_option maxRecDepth 20000 in
theorem wd_1366 : Cond.instanceMethod ⟨"AuctionRoomModel", "kindOf", "(I)I"⟩ ∈ ym_T := ym_tg (k := 5) (i := 91) rfl rfl
set_option maxRecDepth 20000 in
theorem wd_1367 : Cond.selects "AuctionRoomModel" ⟨"AuctionRoomModel", "kindOf", "(I)I"⟩ ⟨"AuctionRoomModel", "kindOf", "(I)I"⟩ ∈ ym_T := ym_tg (k := 5) (i := 92) rfl rfl
set_option maxRecDepth 20000 in
theorem wd_1368 : Cond.code yX8_kindOf cX8_kindOf 2 (some FieldType.int) ∈ ym_T := ym_tg (k := 5) (i := 93) rfl rfl
set_option maxRecDepth 20000 in
theorem wd_1369 : Cond.methodLink "AuctionRoomModel" 423 ⟨"AuctionRoomModel", "isLot", "(I)Z"⟩ ∈ ym_T := ym_tg (k := 5) (i := 94) rfl rfl
set_option maxRecDepth 20000 in
theorem wd_1371 : Cond.instanceMethod ⟨"AuctionRoomModel", "isLot", "(I)Z"⟩ ∈ ym_T := ym_tg (k := 5) (i := 96) rfl rfl
set_option maxRecDepth 20000 in
theorem wd_1372 : Cond.code yX8_isLot cX8_isLot 2 (some FieldType.boolean) ∈ ym_T := ym_tg (k := 5) (i := 97) rfl rfl
set_option maxRecDepth 20000 in
theorem wd_1373 : Cond.methodLink "AuctionRoomLaw" 132 ⟨"AuctionRoomModel", "bidderKind", "(I)I"⟩ ∈ ym_T := ym_tg (k := 5) (i := 98) rfl rfl
set_option maxRecDepth 20000 in
theorem wd_1374 : Cond.instanceMethod ⟨"AuctionRoomModel", "bidderKind", "(I)I"⟩ ∈ ym_T := ym_tg (k := 5) (i := 99) rfl rfl
set_option maxRecDepth 20000 in
theorem wd_1375 : Cond.selects "AuctionRoomModel" ⟨"AuctionRoomModel", "bidderKind", "(I)I"⟩ ⟨"AuctionRoomModel", "bidderKind", "(I)I"⟩ ∈ ym_T := ym_tg (k := 5) (i := 100) rfl rfl
set_option maxRecDepth 20000 in
theorem wd_1376 : Cond.code yX8_bidderKind cX8_bidderKind 2 (some FieldType.int) ∈ ym_T := ym_tg (k := 5) (i := 101) rfl rfl
set_option maxRecDepth 20000 in
theorem wd_1377 : Cond.methodLink "AuctionRoomModel" 426 ⟨"AuctionRoomModel", "isBidder", "(I)Z"⟩ ∈ ym_T := ym_tg (k := 5) (i := 102) rfl rfl
set_option maxRecDepth 20000 in
theorem wd_1379 : Cond.instanceMethod ⟨"AuctionRoomModel", "isBidder", "(I)Z"⟩ ∈ ym_T := ym_tg (k := 5) (i := 104) rfl rfl
set_option maxRecDepth 20000 in
theorem wd_1380 : Cond.code yX8_isBidder cX8_isBidder 2 (some FieldType.boolean) ∈ ym_T := ym_tg (k := 5) (i := 105) rfl rfl
set_option maxRecDepth 20000 in
theorem wd_1381 : Cond.methodLink "AuctionRoomLaw" 136 ⟨"AuctionRoomModel", "state", "(I)I"⟩ ∈ ym_T := ym_tg (k := 5) (i := 106) rfl rfl
set_option maxRecDepth 20000 in
theorem wd_1382 : Cond.instanceMethod ⟨"AuctionRoomModel", "state", "(I)I"⟩ ∈ ym_T := ym_tg (k := 5) (i := 107) rfl rfl
set_option maxRecDepth 20000 in
theorem wd_1383 : Cond.selects "AuctionRoomModel" ⟨"AuctionRoomModel", "state", "(I)I"⟩ ⟨"AuctionRoomModel", "state", "(I)I"⟩ ∈ ym_T := ym_tg (k := 5) (i := 108) rfl rfl
set_option maxRecDepth 20000 in
theorem wd_1384 : Cond.code yX8_state cX8_state 2 (some FieldType.int) ∈ ym_T := ym_tg (k := 5) (i := 109) rfl rfl
set_option maxRecDepth 20000 in
theorem wd_1385 : Cond.methodLink "AuctionRoomLaw" 140 ⟨"AuctionRoomModel", "stands", "(I)I"⟩ ∈ ym_T := ym_tg (k := 5) (i := 110) rfl rfl
set_option maxRecDepth 20000 in
theorem wd_1386 : Cond.instanceMethod ⟨"AuctionRoomModel", "stands", "(I)I"⟩ ∈ ym_T := ym_tg (k := 5) (i := 111) rfl rfl
set_option maxRecDepth 20000 in
theorem wd_1387 : Cond.selects "AuctionRoomModel" ⟨"AuctionRoomModel", "stands", "(I)I"⟩ ⟨"AuctionRoomModel", "stands", "(I)I"⟩ ∈ ym_T := ym_tg (k := 5) (i := 112) rfl rfl
set_option maxRecDepth 20000 in
theorem wd_1388 : Cond.code yX8_stands cX8_stands 2 (some FieldType.int) ∈ ym_T := ym_tg (k := 5) (i := 113) rfl rfl
set_option maxRecDepth 20000 in
theorem wd_1389 : Cond.methodLink "AuctionRoomLaw" 144 ⟨"AuctionRoomModel", "sum", "(I)J"⟩ ∈ ym_T := ym_tg (k := 5) (i := 114) rfl rfl
set_option maxRecDepth 20000 in
theorem wd_1390 : Cond.instanceMethod ⟨"AuctionRoomModel", "sum", "(I)J"⟩ ∈ ym_T := ym_tg (k := 5) (i := 115) rfl rfl
set_option maxRecDepth 20000 in
theorem wd_1391 : Cond.selects "AuctionRoomModel" ⟨"AuctionRoomModel", "sum", "(I)J"⟩ ⟨"AuctionRoomModel", "sum", "(I)J"⟩ ∈ ym_T := ym_tg (k := 5) (i := 116) rfl rfl
set_option maxRecDepth 20000 in
theorem wd_1392 : Cond.code yX8_sum cX8_sum 2 (some FieldType.long) ∈ ym_T := ym_tg (k := 5) (i := 117) rfl rfl
set_option maxRecDepth 20000 in
theorem wd_1393 : Cond.methodLink "AuctionRoomLaw" 148 ⟨"AuctionRoomModel", "entries", "(I)I"⟩ ∈ ym_T := ym_tg (k := 5) (i := 118) rfl rfl
set_option maxRecDepth 20000 in
theorem wd_1394 : Cond.instanceMethod ⟨"AuctionRoomModel", "entries", "(I)I"⟩ ∈ ym_T := ym_tg (k := 5) (i := 119) rfl rfl
set_option maxRecDepth 20000 in
theorem wd_1395 : Cond.selects "AuctionRoomModel" ⟨"AuctionRoomModel", "entries", "(I)I"⟩ ⟨"AuctionRoomModel", "entries", "(I)I"⟩ ∈ ym_T := ym_tg (k := 5) (i := 120) rfl rfl
set_option maxRecDepth 20000 in
theorem wd_1396 : Cond.code yX8_entries cX8_entries 2 (some FieldType.int) ∈ ym_T := ym_tg (k := 5) (i := 121) rfl rfl
set_option maxRecDepth 20000 in
theorem wd_1397 : Cond.methodLink "AuctionRoomLaw" 153 ⟨"AuctionRoomModel", "cause", "(II)I"⟩ ∈ ym_T := ym_tg (k := 5) (i := 122) rfl rfl
set_option maxRecDepth 20000 in
theorem wd_1398 : Cond.instanceMethod ⟨"AuctionRoomModel", "cause", "(II)I"⟩ ∈ ym_T := ym_tg (k := 5) (i := 123) rfl rfl
set_option maxRecDepth 20000 in
theorem wd_1399 : Cond.selects "AuctionRoomModel" ⟨"AuctionRoomModel", "cause", "(II)I"⟩ ⟨"AuctionRoomModel", "cause", "(II)I"⟩ ∈ ym_T := ym_tg (k := 5) (i := 124) rfl rfl
set_option maxRecDepth 20000 in
theorem wd_1400 : Cond.code yX8_cause cX8_cause 3 (some FieldType.int) ∈ ym_T := ym_tg (k := 5) (i := 125) rfl rfl
set_option maxRecDepth 20000 in
theorem wd_1401 : Cond.methodLink "AuctionRoomLaw" 157 ⟨"AuctionRoomModel", "balance", "(I)J"⟩ ∈ ym_T := ym_tg (k := 5) (i := 126) rfl rfl
set_option maxRecDepth 20000 in
theorem wd_1402 : Cond.instanceMethod ⟨"AuctionRoomModel", "balance", "(I)J"⟩ ∈ ym_T := ym_tg (k := 5) (i := 127) rfl rfl
set_option maxRecDepth 20000 in
theorem wd_1403 : Cond.selects "AuctionRoomModel" ⟨"AuctionRoomModel", "balance", "(I)J"⟩ ⟨"AuctionRoomModel", "balance", "(I)J"⟩ ∈ ym_T := ym_tg (k := 5) (i := 128) rfl rfl
set_option maxRecDepth 20000 in
theorem wd_1404 : Cond.code yX8_balance cX8_balance 2 (some FieldType.long) ∈ ym_T := ym_tg (k := 5) (i := 129) rfl rfl
set_option maxRecDepth 20000 in
theorem wd_1405 : Cond.methodLink "AuctionRoomLaw" 161 ⟨"AuctionRoomModel", "account", "(I)J"⟩ ∈ ym_T := ym_tg (k := 5) (i := 130) rfl rfl
set_option maxRecDepth 20000 in
theorem wd_1406 : Cond.instanceMethod ⟨"AuctionRoomModel", "account", "(I)J"⟩ ∈ ym_T := ym_tg (k := 5) (i := 131) rfl rfl
set_option maxRecDepth 20000 in
theorem wd_1407 : Cond.selects "AuctionRoomModel" ⟨"AuctionRoomModel", "account", "(I)J"⟩ ⟨"AuctionRoomModel", "account", "(I)J"⟩ ∈ ym_T := ym_tg (k := 5) (i := 132) rfl rfl
set_option maxRecDepth 20000 in
theorem wd_1408 : Cond.code yX8_account cX8_account 2 (some FieldType.long) ∈ ym_T := ym_tg (k := 5) (i := 133) rfl rfl
set_option maxRecDepth 20000 in
theorem wd_1409 : Cond.methodLink "AuctionRoomLaw" 165 ⟨"AuctionRoomModel", "total", "()J"⟩ ∈ ym_T := ym_tg (k := 5) (i := 134) rfl rfl
set_option maxRecDepth 20000 in
theorem wd_1410 : Cond.instanceMethod ⟨"AuctionRoomModel", "total", "()J"⟩ ∈ ym_T := ym_tg (k := 5) (i := 135) rfl rfl
set_option maxRecDepth 20000 in
theorem wd_1411 : Cond.selects "AuctionRoomModel" ⟨"AuctionRoomModel", "total", "()J"⟩ ⟨"AuctionRoomModel", "total", "()J"⟩ ∈ ym_T := ym_tg (k := 5) (i := 136) rfl rfl
set_option maxRecDepth 20000 in
theorem wd_1412 : Cond.code yX8_total cX8_total 4 (some FieldType.long) ∈ ym_T := ym_tg (k := 5) (i := 137) rfl rfl
set_option maxRecDepth 20000 in
theorem wd_1413 : Cond.methodLink "AuctionRoomLaw" 169 ⟨"AuctionRoomModel", "numbers", "(I)I"⟩ ∈ ym_T := ym_tg (k := 5) (i := 138) rfl rfl
set_option maxRecDepth 20000 in
theorem wd_1414 : Cond.instanceMethod ⟨"AuctionRoomModel", "numbers", "(I)I"⟩ ∈ ym_T := ym_tg (k := 5) (i := 139) rfl rfl
set_option maxRecDepth 20000 in
theorem wd_1415 : Cond.selects "AuctionRoomModel" ⟨"AuctionRoomModel", "numbers", "(I)I"⟩ ⟨"AuctionRoomModel", "numbers", "(I)I"⟩ ∈ ym_T := ym_tg (k := 5) (i := 140) rfl rfl
set_option maxRecDepth 20000 in
theorem wd_1416 : Cond.code yX8_numbers cX8_numbers 2 (some FieldType.int) ∈ ym_T := ym_tg (k := 5) (i := 141) rfl rfl
set_option maxRecDepth 20000 in
theorem wd_1417 : Cond.methodLink "AuctionRoomLaw" 174 ⟨"AuctionRoomModel", "tries", "()I"⟩ ∈ ym_T := ym_tg (k := 5) (i := 142) rfl rfl
set_option maxRecDepth 20000 in
theorem wd_1418 : Cond.instanceMethod ⟨"AuctionRoomModel", "tries", "()I"⟩ ∈ ym_T := ym_tg (k := 5) (i := 143) rfl rfl
set_option maxRecDepth 20000 in
theorem wd_1419 : Cond.selects "AuctionRoomModel" ⟨"AuctionRoomModel", "tries", "()I"⟩ ⟨"AuctionRoomModel", "tries", "()I"⟩ ∈ ym_T := ym_tg (k := 5) (i := 144) rfl rfl
set_option maxRecDepth 20000 in
theorem wd_1420 : Cond.code yX8_tries cX8_tries 1 (some FieldType.int) ∈ ym_T := ym_tg (k := 5) (i := 145) rfl rfl
set_option maxRecDepth 20000 in
theorem wd_1421 : Cond.methodLink "AuctionRoomLaw" 178 ⟨"AuctionRoomModel", "why", "()I"⟩ ∈ ym_T := ym_tg (k := 5) (i := 146) rfl rfl
set_option maxRecDepth 20000 in
theorem wd_1422 : Cond.instanceMethod ⟨"AuctionRoomModel", "why", "()I"⟩ ∈ ym_T := ym_tg (k := 5) (i := 147) rfl rfl
set_option maxRecDepth 20000 in
theorem wd_1423 : Cond.selects "AuctionRoomModel" ⟨"AuctionRoomModel", "why", "()I"⟩ ⟨"AuctionRoomModel", "why", "()I"⟩ ∈ ym_T := ym_tg (k := 5) (i := 148) rfl rfl
set_option maxRecDepth 20000 in
theorem wd_1424 : Cond.code yX8_why cX8_why 1 (some FieldType.int) ∈ ym_T := ym_tg (k := 5) (i := 149) rfl rfl
set_option maxRecDepth 20000 in
theorem wd_1425 : Cond.methodLink "AuctionRoomLaw" 182 ⟨"AuctionRoomModel", "trace", "(I)I"⟩ ∈ ym_T := ym_tg (k := 5) (i := 150) rfl rfl
set_option maxRecDepth 20000 in
theorem wd_1426 : Cond.instanceMethod ⟨"AuctionRoomModel", "trace", "(I)I"⟩ ∈ ym_T := ym_tg (k := 5) (i := 151) rfl rfl
set_option maxRecDepth 20000 in
theorem wd_1427 : Cond.selects "AuctionRoomModel" ⟨"AuctionRoomModel", "trace", "(I)I"⟩ ⟨"AuctionRoomModel", "trace", "(I)I"⟩ ∈ ym_T := ym_tg (k := 5) (i := 152) rfl rfl
set_option maxRecDepth 20000 in
theorem wd_1428 : Cond.code yX8_trace cX8_trace 2 (some FieldType.int) ∈ ym_T := ym_tg (k := 5) (i := 153) rfl rfl
set_option maxRecDepth 20000 in
theorem wd_1429 : Cond.methodLink "AuctionRoomLaw" 186 ⟨"AuctionRoomModel", "batches", "()I"⟩ ∈ ym_T := ym_tg (k := 5) (i := 154) rfl rfl
set_option maxRecDepth 20000 in
theorem wd_1430 : Cond.instanceMethod ⟨"AuctionRoomModel", "batches", "()I"⟩ ∈ ym_T := ym_tg (k := 5) (i := 155) rfl rfl
set_option maxRecDepth 20000 in
theorem wd_1431 : Cond.selects "AuctionRoomModel" ⟨"AuctionRoomModel", "batches", "()I"⟩ ⟨"AuctionRoomModel", "batches", "()I"⟩ ∈ ym_T := ym_tg (k := 5) (i := 156) rfl rfl
set_option maxRecDepth 20000 in
theorem wd_1432 : Cond.code yX8_batches cX8_batches 1 (some FieldType.int) ∈ ym_T := ym_tg (k := 5) (i := 157) rfl rfl
set_option maxRecDepth 20000 in
theorem wd_1433 : Cond.methodLink "AuctionRoomLaw" 190 ⟨"AuctionRoomModel", "digest", "()J"⟩ ∈ ym_T := ym_tg (k := 5) (i := 158) rfl rfl
set_option maxRecDepth 20000 in
theorem wd_1434 : Cond.instanceMethod ⟨"AuctionRoomModel", "digest", "()J"⟩ ∈ ym_T := ym_tg (k := 5) (i := 159) rfl rfl
set_option maxRecDepth 20000 in
theorem wd_1435 : Cond.selects "AuctionRoomModel" ⟨"AuctionRoomModel", "digest", "()J"⟩ ⟨"AuctionRoomModel", "digest", "()J"⟩ ∈ ym_T := ym_tg (k := 5) (i := 160) rfl rfl
set_option maxRecDepth 20000 in
theorem wd_1436 : Cond.code yX8_digest cX8_digest 4 (some FieldType.long) ∈ ym_T := ym_tg (k := 5) (i := 161) rfl rfl
set_option maxRecDepth 20000 in
theorem wd_1437 : Cond.constantLong "AuctionRoomModel" 429 217 ∈ ym_T := ym_tg (k := 5) (i := 162) rfl rfl
set_option maxRecDepth 20000 in
theorem wd_1438 : Cond.constantLong "AuctionRoomModel" 431 31 ∈ ym_T := ym_tg (k := 5) (i := 163) rfl rfl
set_option maxRecDepth 20000 in
theorem wd_1439 : Cond.constantLong "AuctionRoomLaw" 13 4294967295 ∈ ym_T := ym_tg (k := 5) (i := 164) rfl rfl
