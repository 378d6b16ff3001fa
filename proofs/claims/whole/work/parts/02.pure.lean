/-! ===== the pure machine: cells, heaps, methods as data; its tables are printed by a program of mine out of the claim's names ===== -/
abbrev pm_C : Type := (Nat × Nat × (Nat → Int32)) ⊕ ((Nat × Nat × (Nat → Option Nat)) ⊕ (Nat × List Value))
/-- the next address, the slots spent, the cells -/
abbrev pm_H : Type := Nat × Nat × (Nat → Option pm_C)
/-- a method: its name, its bytes, its locals, what it returns, its class's number, its arguments (the receiver counted) -/
abbrev pm_M : Type := MethodName × ByteArray × Nat × Option FieldType × Nat × Nat
def pm_cn : Nat → String := fun c => match c with
  | 0 => RX0
  | 1 => RX1
  | 2 => RX2
  | 3 => RX3
  | 4 => RX4
  | 5 => RX5
  | 6 => RX6
  | 7 => RX7
  | 8 => RX8
  | 9 => RX9
  | 10 => RX10
  | 11 => RX11
  | 12 => RX12
  | 13 => "ShortPostLaw"
  | 14 => "java/lang/Math"
  | _ => "java/util/Arrays"
def pm_T : Nat → u_T := fun c => match c with
  | 0 => TX0
  | 1 => TX1
  | 2 => TX2
  | 3 => TX3
  | 4 => TX4
  | 5 => TX5
  | 6 => TX6
  | 7 => TX7
  | 8 => TX8
  | 9 => TX9
  | 10 => TX10
  | 11 => TX11
  | _ => TX12
def pm_ty : Nat → Nat → FieldType := fun c => match c with
  | 0 => tyX0
  | 1 => tyX1
  | 2 => tyX2
  | 3 => tyX3
  | 4 => tyX4
  | 5 => tyX5
  | 6 => tyX6
  | 7 => tyX7
  | 8 => tyX8
  | 9 => tyX9
  | 10 => tyX10
  | 11 => tyX11
  | _ => tyX12
def pm_N : Nat → Nat := fun c => match c with
  | 0 => 9
  | 1 => 2
  | 2 => 4
  | 3 => 6
  | 4 => 12
  | 5 => 3
  | 6 => 8
  | 7 => 3
  | 8 => 11
  | 9 => 8
  | 10 => 2
  | 11 => 13
  | _ => 64
def pm_df : Nat → List Value := fun c => match c with
  | 0 => [.int 0, .int 0, .null, .int 0, .int 0, .int 0, .int 0, .int 0, .int 0]
  | 1 => [.null, .int 0]
  | 2 => [.null, .int 0, .int 0, .int 0]
  | 3 => [.int 0, .null, .int 0, .null, .int 0, .int 0]
  | 4 => [.null, .null, .null, .null, .null, .null, .null, .null, .null, .null, .int 0, .int 0]
  | 5 => [.null, .null, .int 0]
  | 6 => [.null, .null, .null, .int 0, .int 0, .int 0, .int 0, .int 0]
  | 7 => [.null, .int 0, .null]
  | 8 => [.null, .null, .int 0, .null, .int 0, .null, .null, .null, .null, .int 0, .int 0]
  | 9 => [.null, .null, .null, .null, .int 0, .int 0, .int 0, .int 0]
  | 10 => [.null, .int 0]
  | 11 => [.null, .null, .null, .null, .null, .null, .null, .null, .null, .null, .null, .int 0, .int 0]
  | _ => [.int 0, .null, .int 0, .null, .int 0, .int 0, .null, .null, .null, .null, .null, .null, .null, .null, .null, .null, .int 0, .null, .null, .int 0, .null, .null, .null, .null, .null, .null, .null, .int 0, .int 0, .int 0, .int 0, .null, .int 0, .null, .null, .null, .null, .null, .int 0, .int 0, .int 0, .int 0, .null, .null, .null, .null, .null, .int 0, .int 0, .int 0, .int 0, .int 0, .null, .int 0, .int 0, .null, .null, .null, .int 0, .int 0, .int 0, .null, .null, .int 0]
def mX0_init : pm_M := (yX0_init, cX0_init, 4, none, 0, 4)
def mX0_isRanked : pm_M := (yX0_isRanked, cX0_isRanked, 1, (some .boolean), 0, 1)
def mX0_hold : pm_M := (yX0_hold, cX0_hold, 1, none, 0, 1)
def mX0_awaitLetters : pm_M := (yX0_awaitLetters, cX0_awaitLetters, 2, none, 0, 2)
def mX0_settleLetter : pm_M := (yX0_settleLetter, cX0_settleLetter, 1, none, 0, 1)
def mX0_releaseIfSettled : pm_M := (yX0_releaseIfSettled, cX0_releaseIfSettled, 1, none, 0, 1)
def mX1_init : pm_M := (yX1_init, cX1_init, 2, none, 1, 2)
def mX1_clear : pm_M := (yX1_clear, cX1_clear, 1, none, 1, 1)
def mX1_shorten : pm_M := (yX1_shorten, cX1_shorten, 2, none, 1, 2)
def mX1_add : pm_M := (yX1_add, cX1_add, 2, none, 1, 2)
def mX1_at : pm_M := (yX1_at, cX1_at, 2, (some .int), 1, 2)
def mX1_raise : pm_M := (yX1_raise, cX1_raise, 3, none, 1, 3)
def mX1_append : pm_M := (yX1_append, cX1_append, 5, none, 1, 4)
def mX1_become : pm_M := (yX1_become, cX1_become, 2, none, 1, 2)
def mX1_alike : pm_M := (yX1_alike, cX1_alike, 6, (some .int), 1, 5)
def mX2_init : pm_M := (yX2_init, cX2_init, 2, none, 2, 2)
def mX2_set : pm_M := (yX2_set, cX2_set, 5, none, 2, 5)
def mX2_become : pm_M := (yX2_become, cX2_become, 2, none, 2, 2)
def mX2_order : pm_M := (yX2_order, cX2_order, 3, (some .int), 2, 2)
def mX2_orderBySpread : pm_M := (yX2_orderBySpread, cX2_orderBySpread, 2, (some .int), 2, 2)
def mX3_init : pm_M := (yX3_init, cX3_init, 5, none, 3, 5)
def mX4_init : pm_M := (yX4_init, cX4_init, 2, none, 4, 1)
def mX4_plan : pm_M := (yX4_plan, cX4_plan, 5, none, 4, 4)
def mX4_greedyTotal : pm_M := (yX4_greedyTotal, cX4_greedyTotal, 5, (some .int), 4, 4)
def mX4_begin : pm_M := (yX4_begin, cX4_begin, 3, none, 4, 3)
def mX4_followRow : pm_M := (yX4_followRow, cX4_followRow, 7, none, 4, 2)
def mX4_followLetter : pm_M := (yX4_followLetter, cX4_followLetter, 4, none, 4, 2)
def mX4_tryOwn : pm_M := (yX4_tryOwn, cX4_tryOwn, 3, none, 4, 2)
def mX4_tryCopies : pm_M := (yX4_tryCopies, cX4_tryCopies, 10, none, 4, 6)
def mX4_tryWhole : pm_M := (yX4_tryWhole, cX4_tryWhole, 4, none, 4, 2)
def mX4_tryPart : pm_M := (yX4_tryPart, cX4_tryPart, 8, none, 4, 6)
def mX4_longestWhole : pm_M := (yX4_longestWhole, cX4_longestWhole, 5, (some .int), 4, 1)
def mX4_greedyFrom : pm_M := (yX4_greedyFrom, cX4_greedyFrom, 7, (some .int), 4, 3)
def mX4_least : pm_M := (yX4_least, cX4_least, 2, (some .int), 4, 2)
def mX4_startOfPart : pm_M := (yX4_startOfPart, cX4_startOfPart, 4, (some .int), 4, 2)
def mX4_kindAt : pm_M := (yX4_kindAt, cX4_kindAt, 2, (some .int), 4, 2)
def mX4_placeAt : pm_M := (yX4_placeAt, cX4_placeAt, 2, (some .int), 4, 2)
def mX4_lengthAt : pm_M := (yX4_lengthAt, cX4_lengthAt, 2, (some .int), 4, 2)
def mX5_init : pm_M := (yX5_init, cX5_init, 3, none, 5, 3)
def mX5_clear : pm_M := (yX5_clear, cX5_clear, 1, none, 5, 1)
def mX5_append : pm_M := (yX5_append, cX5_append, 4, none, 5, 4)
def mX5_dropLast : pm_M := (yX5_dropLast, cX5_dropLast, 1, none, 5, 1)
def mX5_start : pm_M := (yX5_start, cX5_start, 2, (some .int), 5, 2)
def mX5_end : pm_M := (yX5_end, cX5_end, 2, (some .int), 5, 2)
def mX5_length : pm_M := (yX5_length, cX5_length, 2, (some .int), 5, 2)
def mX5_endAround : pm_M := (yX5_endAround, cX5_endAround, 3, (some .int), 5, 2)
def mX5_fits : pm_M := (yX5_fits, cX5_fits, 3, (some .boolean), 5, 2)
def mX5_copy : pm_M := (yX5_copy, cX5_copy, 3, (some (.object "ShortPost$Pieces")), 5, 1)
def mX6_init : pm_M := (yX6_init, cX6_init, 2, none, 6, 2)
def mX6_read : pm_M := (yX6_read, cX6_read, 4, (some .int), 6, 2)
def mX6_note : pm_M := (yX6_note, cX6_note, 3, none, 6, 3)
def mX6_readBook : pm_M := (yX6_readBook, cX6_readBook, 3, (some (.object "ShortPost$Book")), 6, 1)
def mX6_readSize : pm_M := (yX6_readSize, cX6_readSize, 1, none, 6, 1)
def mX6_readPart : pm_M := (yX6_readPart, cX6_readPart, 4, none, 6, 2)
def mX6_readOwn : pm_M := (yX6_readOwn, cX6_readOwn, 5, none, 6, 2)
def mX6_readTold : pm_M := (yX6_readTold, cX6_readTold, 5, none, 6, 3)
def mX6_readFar : pm_M := (yX6_readFar, cX6_readFar, 4, none, 6, 2)
def mX6_takeCopy : pm_M := (yX6_takeCopy, cX6_takeCopy, 6, none, 6, 6)
def mX6_readWhole : pm_M := (yX6_readWhole, cX6_readWhole, 4, none, 6, 3)
def mX6_readFill : pm_M := (yX6_readFill, cX6_readFill, 4, none, 6, 1)
def mX6_readBits : pm_M := (yX6_readBits, cX6_readBits, 5, (some .int), 6, 2)
def mX6_readGamma : pm_M := (yX6_readGamma, cX6_readGamma, 5, (some .int), 6, 1)
def mX7_init : pm_M := (yX7_init, cX7_init, 1, none, 7, 1)
def mX7_isFull : pm_M := (yX7_isFull, cX7_isFull, 1, (some .boolean), 7, 1)
def mX7_append : pm_M := (yX7_append, cX7_append, 3, (some .int), 7, 3)
def mX7_find : pm_M := (yX7_find, cX7_find, 2, (some (.object "ShortPost$Book")), 7, 2)
def mX7_findOrNothing : pm_M := (yX7_findOrNothing, cX7_findOrNothing, 2, (some (.object "ShortPost$Book")), 7, 2)
def mX7_heldBooks : pm_M := (yX7_heldBooks, cX7_heldBooks, 3, (some .int), 7, 1)
def mX8_init : pm_M := (yX8_init, cX8_init, 3, none, 8, 2)
def mX8_keepSample : pm_M := (yX8_keepSample, cX8_keepSample, 2, (some .boolean), 8, 2)
def mX8_least : pm_M := (yX8_least, cX8_least, 5, (some .int), 8, 3)
def mX8_keepGains : pm_M := (yX8_keepGains, cX8_keepGains, 1, none, 8, 1)
def mX8_keptGain : pm_M := (yX8_keptGain, cX8_keptGain, 2, (some .int), 8, 2)
def mX8_begin : pm_M := (yX8_begin, cX8_begin, 3, none, 8, 1)
def mX8_findAt : pm_M := (yX8_findAt, cX8_findAt, 6, none, 8, 3)
def mX8_longestAlike : pm_M := (yX8_longestAlike, cX8_longestAlike, 6, (some .int), 8, 4)
def mX8_insertProbe : pm_M := (yX8_insertProbe, cX8_insertProbe, 4, none, 8, 1)
def mX8_takeNext : pm_M := (yX8_takeNext, cX8_takeNext, 8, (some .boolean), 8, 2)
def mX8_appendPiece : pm_M := (yX8_appendPiece, cX8_appendPiece, 2, none, 8, 2)
def mX8_gainOf : pm_M := (yX8_gainOf, cX8_gainOf, 5, (some .int), 8, 4)
def mX9_init : pm_M := (yX9_init, cX9_init, 2, none, 9, 2)
def mX9_isFull : pm_M := (yX9_isFull, cX9_isFull, 1, (some .boolean), 9, 1)
def mX9_find : pm_M := (yX9_find, cX9_find, 2, (some (.object "ShortPost$Message")), 9, 2)
def mX9_messagesUnderWay : pm_M := (yX9_messagesUnderWay, cX9_messagesUnderWay, 3, (some .int), 9, 1)
def mX9_post : pm_M := (yX9_post, cX9_post, 4, (some .boolean), 9, 4)
def mX9_postLetter : pm_M := (yX9_postLetter, cX9_postLetter, 4, none, 9, 3)
def mX9_put : pm_M := (yX9_put, cX9_put, 5, (some .boolean), 9, 5)
def mX9_arrive : pm_M := (yX9_arrive, cX9_arrive, 2, (some .boolean), 9, 2)
def mX9_answerOffer : pm_M := (yX9_answerOffer, cX9_answerOffer, 2, (some .boolean), 9, 2)
def mX9_hearYes : pm_M := (yX9_hearYes, cX9_hearYes, 2, (some .boolean), 9, 2)
def mX9_hearNo : pm_M := (yX9_hearNo, cX9_hearNo, 2, none, 9, 2)
def mX9_takeLetter : pm_M := (yX9_takeLetter, cX9_takeLetter, 2, none, 9, 2)
def mX9_noteLoss : pm_M := (yX9_noteLoss, cX9_noteLoss, 2, none, 9, 2)
def mX10_init : pm_M := (yX10_init, cX10_init, 1, none, 10, 1)
def mX10_write : pm_M := (yX10_write, cX10_write, 7, none, 10, 5)
def mX10_putPart : pm_M := (yX10_putPart, cX10_putPart, 8, none, 10, 5)
def mX10_putBytes : pm_M := (yX10_putBytes, cX10_putBytes, 5, none, 10, 4)
def mX10_putGamma : pm_M := (yX10_putGamma, cX10_putGamma, 2, none, 10, 2)
def mX10_put : pm_M := (yX10_put, cX10_put, 4, none, 10, 3)
def mX11_init : pm_M := (yX11_init, cX11_init, 1, none, 11, 1)
def mX11_feed : pm_M := (yX11_feed, cX11_feed, 6, (some .int), 11, 6)
def mX11_feedNumber : pm_M := (yX11_feedNumber, cX11_feedNumber, 3, none, 11, 2)
def mX11_trim : pm_M := (yX11_trim, cX11_trim, 2, (some .int), 11, 2)
def mX11_again : pm_M := (yX11_again, cX11_again, 1, (some .int), 11, 1)
def mX11_out : pm_M := (yX11_out, cX11_out, 2, (some .int), 11, 2)
def mX11_piece : pm_M := (yX11_piece, cX11_piece, 2, (some .int), 11, 1)
def mX11_draftPiece : pm_M := (yX11_draftPiece, cX11_draftPiece, 1, (some .int), 11, 1)
def mX11_book : pm_M := (yX11_book, cX11_book, 3, (some .int), 11, 2)
def mX11_about : pm_M := (yX11_about, cX11_about, 4, (some .int), 11, 3)
def mX11_tell : pm_M := (yX11_tell, cX11_tell, 4, (some .int), 11, 3)
def mX11_isOf : pm_M := (yX11_isOf, cX11_isOf, 4, (some .int), 11, 3)
def mX11_pack : pm_M := (yX11_pack, cX11_pack, 4, (some .int), 11, 2)
def mX11_greedy : pm_M := (yX11_greedy, cX11_greedy, 4, (some .int), 11, 2)
def mX11_bits : pm_M := (yX11_bits, cX11_bits, 1, (some .int), 11, 1)
def mX11_part : pm_M := (yX11_part, cX11_part, 4, (some .int), 11, 3)
def mX11_rest : pm_M := (yX11_rest, cX11_rest, 2, (some .int), 11, 2)
def mX11_unpack : pm_M := (yX11_unpack, cX11_unpack, 1, (some .int), 11, 1)
def mX11_fault : pm_M := (yX11_fault, cX11_fault, 1, (some .int), 11, 1)
def mX11_sample : pm_M := (yX11_sample, cX11_sample, 2, (some .int), 11, 1)
def mX11_addSample : pm_M := (yX11_addSample, cX11_addSample, 1, (some .int), 11, 1)
def mX11_forget : pm_M := (yX11_forget, cX11_forget, 2, (some .int), 11, 1)
def mX11_train : pm_M := (yX11_train, cX11_train, 5, (some .int), 11, 3)
def mX11_gained : pm_M := (yX11_gained, cX11_gained, 2, (some .int), 11, 2)
def mX11_price : pm_M := (yX11_price, cX11_price, 3, (some .int), 11, 2)
def mX11_offer : pm_M := (yX11_offer, cX11_offer, 3, (some .int), 11, 2)
def mX11_send : pm_M := (yX11_send, cX11_send, 3, (some .int), 11, 2)
def mX11_sendLetter : pm_M := (yX11_sendLetter, cX11_sendLetter, 2, (some .int), 11, 2)
def mX11_over : pm_M := (yX11_over, cX11_over, 3, (some .int), 11, 2)
def mX11_deliver : pm_M := (yX11_deliver, cX11_deliver, 3, (some .int), 11, 2)
def mX11_lose : pm_M := (yX11_lose, cX11_lose, 3, (some .int), 11, 2)
def mX11_twice : pm_M := (yX11_twice, cX11_twice, 3, (some .int), 11, 2)
def mX11_message : pm_M := (yX11_message, cX11_message, 4, (some .int), 11, 3)
def mX11_latest : pm_M := (yX11_latest, cX11_latest, 1, (some .int), 11, 1)
def mX11_count : pm_M := (yX11_count, cX11_count, 2, (some .int), 11, 2)
def mX11_width : pm_M := (yX11_width, cX11_width, 3, (some .int), 11, 1)
def mX11_gamma : pm_M := (yX11_gamma, cX11_gamma, 1, (some .int), 11, 1)
def mX12_init : pm_M := (yX12_init, cX12_init, 1, none, 12, 1)
def mX12_in : pm_M := (yX12_in, cX12_in, 3, (some .boolean), 12, 3)
def mX12_feed : pm_M := (yX12_feed, cX12_feed, 6, (some .int), 12, 6)
def mX12_four : pm_M := (yX12_four, cX12_four, 3, none, 12, 2)
def mX12_trim : pm_M := (yX12_trim, cX12_trim, 2, (some .int), 12, 2)
def mX12_again : pm_M := (yX12_again, cX12_again, 2, (some .int), 12, 1)
def mX12_out : pm_M := (yX12_out, cX12_out, 2, (some .int), 12, 2)
def mX12_rowLong : pm_M := (yX12_rowLong, cX12_rowLong, 2, (some .int), 12, 2)
def mX12_begin : pm_M := (yX12_begin, cX12_begin, 3, (some .int), 12, 3)
def mX12_end : pm_M := (yX12_end, cX12_end, 3, (some .int), 12, 3)
def mX12_pieceLong : pm_M := (yX12_pieceLong, cX12_pieceLong, 3, (some .int), 12, 3)
def mX12_pieceAt : pm_M := (yX12_pieceAt, cX12_pieceAt, 4, (some .int), 12, 3)
def mX12_addPiece : pm_M := (yX12_addPiece, cX12_addPiece, 7, none, 12, 5)
def mX12_copyBook : pm_M := (yX12_copyBook, cX12_copyBook, 5, none, 12, 3)
def mX12_isBook : pm_M := (yX12_isBook, cX12_isBook, 2, (some .boolean), 12, 2)
def mX12_isBookOrNone : pm_M := (yX12_isBookOrNone, cX12_isBookOrNone, 2, (some .boolean), 12, 2)
def mX12_piece : pm_M := (yX12_piece, cX12_piece, 2, (some .int), 12, 1)
def mX12_areSuch : pm_M := (yX12_areSuch, cX12_areSuch, 4, (some .boolean), 12, 2)
def mX12_book : pm_M := (yX12_book, cX12_book, 2, (some .int), 12, 2)
def mX12_about : pm_M := (yX12_about, cX12_about, 3, (some .int), 12, 3)
def mX12_tell : pm_M := (yX12_tell, cX12_tell, 4, (some .int), 12, 3)
def mX12_isOf : pm_M := (yX12_isOf, cX12_isOf, 3, (some .int), 12, 3)
def mX12_bitsOf : pm_M := (yX12_bitsOf, cX12_bitsOf, 2, (some .int), 12, 1)
def mX12_g : pm_M := (yX12_g, cX12_g, 1, (some .int), 12, 1)
def mX12_isRanked : pm_M := (yX12_isRanked, cX12_isRanked, 2, (some .boolean), 12, 2)
def mX12_take : pm_M := (yX12_take, cX12_take, 5, none, 12, 4)
def mX12_toldLong : pm_M := (yX12_toldLong, cX12_toldLong, 6, (some .int), 12, 4)
def mX12_farLong : pm_M := (yX12_farLong, cX12_farLong, 4, (some .int), 12, 3)
def mX12_isWhole : pm_M := (yX12_isWhole, cX12_isWhole, 7, (some .boolean), 12, 4)
def mX12_offer : pm_M := (yX12_offer, cX12_offer, 8, none, 12, 6)
def mX12_findLeast : pm_M := (yX12_findLeast, cX12_findLeast, 7, none, 12, 2)
def mX12_greedyPrice : pm_M := (yX12_greedyPrice, cX12_greedyPrice, 8, (some .int), 12, 2)
def mX12_write : pm_M := (yX12_write, cX12_write, 4, none, 12, 3)
def mX12_writeG : pm_M := (yX12_writeG, cX12_writeG, 2, none, 12, 2)
def mX12_writePart : pm_M := (yX12_writePart, cX12_writePart, 5, none, 12, 3)
def mX12_takeTape : pm_M := (yX12_takeTape, cX12_takeTape, 2, (some .boolean), 12, 1)
def mX12_pack : pm_M := (yX12_pack, cX12_pack, 6, (some .int), 12, 2)
def mX12_greedy : pm_M := (yX12_greedy, cX12_greedy, 3, (some .int), 12, 2)
def mX12_bits : pm_M := (yX12_bits, cX12_bits, 1, (some .int), 12, 1)
def mX12_part : pm_M := (yX12_part, cX12_part, 3, (some .int), 12, 3)
def mX12_rest : pm_M := (yX12_rest, cX12_rest, 2, (some .int), 12, 2)
def mX12_wrong : pm_M := (yX12_wrong, cX12_wrong, 3, none, 12, 3)
def mX12_read : pm_M := (yX12_read, cX12_read, 4, (some .int), 12, 2)
def mX12_readG : pm_M := (yX12_readG, cX12_readG, 5, (some .int), 12, 1)
def mX12_getFrom : pm_M := (yX12_getFrom, cX12_getFrom, 5, none, 12, 4)
def mX12_readOwn : pm_M := (yX12_readOwn, cX12_readOwn, 6, none, 12, 3)
def mX12_readPart : pm_M := (yX12_readPart, cX12_readPart, 9, none, 12, 3)
def mX12_unpack : pm_M := (yX12_unpack, cX12_unpack, 5, (some .int), 12, 1)
def mX12_fault : pm_M := (yX12_fault, cX12_fault, 1, (some .int), 12, 1)
def mX12_sample : pm_M := (yX12_sample, cX12_sample, 3, (some .int), 12, 1)
def mX12_forget : pm_M := (yX12_forget, cX12_forget, 2, (some .int), 12, 1)
def mX12_priceOfAll : pm_M := (yX12_priceOfAll, cX12_priceOfAll, 4, (some .int), 12, 2)
def mX12_price : pm_M := (yX12_price, cX12_price, 2, (some .int), 12, 2)
def mX12_isSame : pm_M := (yX12_isSame, cX12_isSame, 6, (some .boolean), 12, 4)
def mX12_isIn : pm_M := (yX12_isIn, cX12_isIn, 5, (some .boolean), 12, 4)
def mX12_inMany : pm_M := (yX12_inMany, cX12_inMany, 5, (some .int), 12, 3)
def mX12_isFirst : pm_M := (yX12_isFirst, cX12_isFirst, 5, (some .boolean), 12, 4)
def mX12_isBetter : pm_M := (yX12_isBetter, cX12_isBetter, 5, (some .boolean), 12, 5)
def mX12_propose : pm_M := (yX12_propose, cX12_propose, 5, none, 12, 4)
def mX12_findCandidates : pm_M := (yX12_findCandidates, cX12_findCandidates, 5, none, 12, 1)
def mX12_nextPiece : pm_M := (yX12_nextPiece, cX12_nextPiece, 8, (some .int), 12, 2)
def mX12_train : pm_M := (yX12_train, cX12_train, 5, (some .int), 12, 3)
def mX12_gained : pm_M := (yX12_gained, cX12_gained, 2, (some .int), 12, 2)
def mX12_sendMessage : pm_M := (yX12_sendMessage, cX12_sendMessage, 4, none, 12, 4)
def mX12_offer_ : pm_M := (yX12_offer_, cX12_offer_, 2, (some .int), 12, 2)
def mX12_send : pm_M := (yX12_send, cX12_send, 5, (some .int), 12, 2)
def mX12_over : pm_M := (yX12_over, cX12_over, 2, (some .int), 12, 2)
def mX12_answer : pm_M := (yX12_answer, cX12_answer, 4, (some .int), 12, 4)
def mX12_heldMany : pm_M := (yX12_heldMany, cX12_heldMany, 3, (some .int), 12, 1)
def mX12_release : pm_M := (yX12_release, cX12_release, 2, none, 12, 2)
def mX12_takeOffer : pm_M := (yX12_takeOffer, cX12_takeOffer, 2, (some .int), 12, 2)
def mX12_settle : pm_M := (yX12_settle, cX12_settle, 4, none, 12, 3)
def mX12_takeLetter : pm_M := (yX12_takeLetter, cX12_takeLetter, 3, none, 12, 2)
def mX12_deliver : pm_M := (yX12_deliver, cX12_deliver, 3, (some .int), 12, 2)
def mX12_lose : pm_M := (yX12_lose, cX12_lose, 2, (some .int), 12, 2)
def mX12_twice : pm_M := (yX12_twice, cX12_twice, 2, (some .int), 12, 2)
def mX12_message : pm_M := (yX12_message, cX12_message, 3, (some .int), 12, 3)
def mX12_latest : pm_M := (yX12_latest, cX12_latest, 2, (some .int), 12, 1)
def mX12_count : pm_M := (yX12_count, cX12_count, 4, (some .int), 12, 2)
def mJ_fill : pm_M := (⟨"java/util/Arrays", "fill", "([II)V"⟩, prog_16_method_103_code, 4, none, 15, 2)
def mL_law : pm_M := (yL_law, code, 4, some .boolean, 13, 1)
/-- class, entry: the field's class, its number, nest mate, the word's place -/
def pm_flc : List (Nat × Nat × Nat × Nat × Nat × Nat) := [(1, 15, 1, 0, 0, 33), (1, 21, 1, 1, 0, 34), (11, 89, 1, 1, 1, 35), (6, 31, 1, 1, 1, 36), (4, 72, 1, 1, 1, 37), (5, 41, 1, 1, 1, 38), (10, 69, 1, 1, 1, 39), (9, 41, 1, 1, 1, 40), (8, 85, 1, 1, 1, 41), (5, 14, 5, 0, 0, 57), (4, 66, 5, 0, 1, 58), (10, 64, 5, 0, 1, 59), (6, 102, 5, 0, 1, 60), (11, 147, 5, 0, 1, 61), (5, 26, 5, 1, 0, 62), (5, 33, 5, 2, 0, 63), (8, 76, 5, 2, 1, 64), (4, 110, 5, 2, 1, 65), (11, 116, 5, 2, 1, 66), (6, 125, 5, 2, 1, 67), (0, 15, 0, 0, 0, 90), (10, 24, 0, 0, 1, 91), (11, 288, 0, 0, 1, 92), (0, 18, 0, 1, 0, 93), (11, 139, 0, 1, 1, 94), (0, 21, 0, 2, 0, 95), (10, 42, 0, 2, 1, 96), (6, 82, 0, 2, 1, 97), (11, 144, 0, 2, 1, 98), (0, 9, 0, 3, 0, 99), (7, 29, 0, 3, 1, 100), (9, 105, 0, 3, 1, 101), (11, 150, 0, 3, 1, 102), (9, 48, 0, 4, 1, 103), (11, 157, 0, 4, 1, 104), (7, 33, 0, 5, 1, 105), (0, 25, 0, 5, 0, 106), (9, 88, 0, 5, 1, 107), (11, 153, 0, 5, 1, 108), (0, 29, 0, 6, 0, 109), (0, 32, 0, 7, 0, 110), (0, 38, 0, 8, 0, 111), (7, 11, 7, 0, 0, 131), (7, 37, 7, 1, 0, 132), (11, 301, 7, 1, 1, 133), (7, 25, 7, 2, 0, 134), (4, 9, 4, 0, 0, 154), (4, 15, 4, 1, 0, 155), (4, 18, 4, 2, 0, 156), (4, 21, 4, 3, 0, 157), (4, 24, 4, 4, 0, 158), (4, 27, 4, 5, 0, 159), (4, 30, 4, 6, 0, 160), (4, 33, 4, 7, 0, 161), (4, 93, 4, 8, 0, 162), (4, 62, 4, 9, 0, 163), (4, 44, 4, 10, 0, 164), (10, 33, 4, 10, 1, 165), (11, 203, 4, 10, 1, 166), (4, 59, 4, 11, 0, 167), (10, 9, 10, 0, 0, 199), (10, 20, 10, 1, 0, 200), (11, 181, 10, 1, 1, 201), (6, 20, 6, 0, 0, 215), (6, 14, 6, 1, 0, 216), (11, 211, 6, 1, 1, 217), (6, 24, 6, 2, 0, 218), (6, 27, 6, 3, 0, 219), (6, 34, 6, 4, 0, 220), (6, 53, 6, 5, 0, 221), (6, 37, 6, 6, 0, 222), (6, 40, 6, 7, 0, 223), (11, 208, 6, 7, 1, 224), (2, 7, 2, 0, 0, 260), (8, 136, 2, 0, 1, 261), (2, 13, 2, 1, 0, 262), (8, 140, 2, 1, 1, 263), (2, 17, 2, 2, 0, 264), (8, 143, 2, 2, 1, 265), (2, 20, 2, 3, 0, 266), (8, 39, 8, 0, 0, 276), (8, 11, 8, 1, 0, 277), (8, 53, 8, 2, 0, 278), (11, 221, 8, 2, 1, 279), (8, 19, 8, 3, 0, 280), (8, 70, 8, 4, 0, 281), (8, 49, 8, 5, 0, 282), (8, 23, 8, 6, 0, 283), (8, 32, 8, 7, 0, 284), (11, 231, 8, 7, 1, 285), (8, 36, 8, 8, 0, 286), (8, 73, 8, 9, 0, 287), (11, 240, 8, 9, 1, 288), (8, 79, 8, 10, 0, 289), (11, 237, 8, 10, 1, 290), (9, 26, 9, 0, 0, 324), (9, 11, 9, 1, 0, 325), (9, 22, 9, 2, 0, 326), (9, 117, 9, 3, 0, 327), (11, 295, 9, 3, 1, 328), (9, 30, 9, 4, 0, 329), (11, 253, 9, 4, 1, 330), (9, 114, 9, 5, 0, 331), (11, 308, 9, 5, 1, 332), (9, 111, 9, 6, 0, 333), (11, 311, 9, 6, 1, 334), (9, 121, 9, 7, 0, 335), (11, 314, 9, 7, 1, 336), (11, 14, 11, 0, 0, 354), (11, 18, 11, 1, 0, 355), (11, 26, 11, 2, 0, 356), (11, 33, 11, 3, 0, 357), (11, 40, 11, 4, 0, 358), (11, 44, 11, 5, 0, 359), (11, 50, 11, 6, 0, 360), (11, 59, 11, 7, 0, 361), (11, 68, 11, 8, 0, 362), (11, 75, 11, 9, 0, 363), (11, 79, 11, 10, 0, 364), (11, 82, 11, 11, 0, 365), (11, 86, 11, 12, 0, 366), (3, 18, 3, 0, 0, 851), (9, 60, 3, 0, 1, 852), (11, 281, 3, 0, 1, 853), (3, 21, 3, 1, 0, 854), (9, 63, 3, 1, 1, 855), (11, 284, 3, 1, 1, 856), (3, 25, 3, 2, 0, 857), (9, 82, 3, 2, 1, 858), (11, 289, 3, 2, 1, 859), (3, 28, 3, 3, 0, 860), (11, 299, 3, 3, 1, 861), (3, 9, 3, 4, 0, 862), (9, 34, 3, 4, 1, 863), (11, 268, 3, 4, 1, 864), (3, 15, 3, 5, 0, 865), (9, 108, 3, 5, 1, 866), (11, 292, 3, 5, 1, 867), (12, 1, 12, 0, 0, 984), (12, 13, 12, 1, 0, 985), (12, 133, 12, 2, 0, 986), (12, 17, 12, 3, 0, 987), (12, 144, 12, 4, 0, 988), (12, 158, 12, 5, 0, 989), (12, 20, 12, 6, 0, 990), (12, 23, 12, 7, 0, 991), (12, 26, 12, 8, 0, 992), (12, 30, 12, 9, 0, 993), (12, 33, 12, 10, 0, 994), (12, 36, 12, 11, 0, 995), (12, 40, 12, 12, 0, 996), (12, 43, 12, 13, 0, 997), (12, 46, 12, 14, 0, 998), (12, 49, 12, 15, 0, 999), (12, 284, 12, 16, 0, 1000), (12, 52, 12, 17, 0, 1001), (12, 55, 12, 18, 0, 1002), (12, 331, 12, 19, 0, 1003), (12, 58, 12, 20, 0, 1004), (12, 61, 12, 21, 0, 1005), (12, 64, 12, 22, 0, 1006), (12, 67, 12, 23, 0, 1007), (12, 70, 12, 24, 0, 1008), (12, 73, 12, 25, 0, 1009), (12, 76, 12, 26, 0, 1010), (12, 79, 12, 27, 0, 1011), (12, 349, 12, 28, 0, 1012), (12, 343, 12, 29, 0, 1013), (12, 352, 12, 30, 0, 1014), (12, 82, 12, 31, 0, 1015), (12, 182, 12, 32, 0, 1016), (12, 85, 12, 33, 0, 1017), (12, 88, 12, 34, 0, 1018), (12, 91, 12, 35, 0, 1019), (12, 94, 12, 36, 0, 1020), (12, 97, 12, 37, 0, 1021), (12, 238, 12, 38, 0, 1022), (12, 242, 12, 39, 0, 1023), (12, 245, 12, 40, 0, 1024), (12, 232, 12, 41, 0, 1025), (12, 100, 12, 42, 0, 1026), (12, 103, 12, 43, 0, 1027), (12, 106, 12, 44, 0, 1028), (12, 109, 12, 45, 0, 1029), (12, 112, 12, 46, 0, 1030), (12, 209, 12, 47, 0, 1031), (12, 257, 12, 48, 0, 1032), (12, 251, 12, 49, 0, 1033), (12, 254, 12, 50, 0, 1034), (12, 281, 12, 51, 0, 1035), (12, 115, 12, 52, 0, 1036), (12, 265, 12, 53, 0, 1037), (12, 299, 12, 54, 0, 1038), (12, 118, 12, 55, 0, 1039), (12, 121, 12, 56, 0, 1040), (12, 124, 12, 57, 0, 1041), (12, 325, 12, 58, 0, 1042), (12, 328, 12, 59, 0, 1043), (12, 322, 12, 60, 0, 1044), (12, 127, 12, 61, 0, 1045), (12, 130, 12, 62, 0, 1046), (12, 313, 12, 63, 0, 1047)]
def pm_mlc_0 : List (Nat × Nat × pm_M × Nat × Nat × Nat × Nat × Nat × Nat × Nat) := [(13, 9, mX11_init, 2, 0, 103, 105, 104, 0, 86), (11, 11, mX1_init, 2, 0, 111, 113, 112, 0, 87), (11, 23, mX5_init, 2, 0, 135, 137, 136, 0, 89), (5, 11, mX1_init, 2, 0, 140, 113, 112, 0, 87), (11, 32, mX7_init, 2, 0, 162, 164, 163, 0, 90), (7, 19, mX5_init, 2, 0, 170, 137, 136, 0, 89), (7, 22, mX0_init, 2, 0, 171, 173, 172, 0, 91), (11, 39, mX4_init, 2, 0, 229, 231, 230, 0, 92), (4, 36, mX11_gamma, 1, 1, 233, 235, 234, 0, 86), (11, 317, mX11_width, 1, 0, 236, 238, 237, 0, 86), (11, 49, mX10_init, 2, 1, 280, 282, 281, 0, 93), (11, 56, mX6_init, 2, 0, 294, 296, 295, 0, 94), (6, 11, mX1_init, 2, 0, 299, 113, 112, 0, 87), (11, 65, mX8_init, 2, 0, 329, 331, 330, 0, 95), (8, 29, mX5_init, 2, 0, 338, 137, 136, 0, 89), (8, 43, mX1_init, 2, 0, 339, 113, 112, 0, 87), (8, 46, mX2_init, 2, 0, 341, 343, 342, 0, 96), (11, 74, mX9_init, 2, 0, 401, 403, 402, 0, 97), (9, 19, mX1_init, 2, 0, 408, 113, 112, 0, 87), (13, 13, mX11_feed, 0, 0, 479, 482, 480, 481, 86), (11, 92, mX11_feedNumber, 0, 0, 483, 486, 485, 0, 86), (11, 95, mX1_add, 0, 0, 487, 490, 488, 489, 87), (13, 18, mX11_trim, 0, 0, 491, 494, 492, 493, 86), (11, 98, mX1_shorten, 0, 0, 495, 498, 496, 497, 87), (13, 23, mX11_again, 0, 0, 499, 502, 500, 501, 86), (11, 101, mX1_become, 0, 0, 503, 506, 504, 505, 87), (1, 33, mX1_clear, 0, 0, 507, 510, 508, 509, 87), (1, 36, mX1_append, 0, 0, 511, 514, 512, 513, 87), (1, 25, mX1_at, 0, 0, 515, 518, 516, 517, 87), (1, 29, mX1_add, 0, 0, 519, 490, 488, 489, 87), (13, 28, mX11_out, 0, 0, 520, 523, 521, 522, 86), (11, 105, mX1_at, 0, 0, 524, 518, 516, 517, 87), (13, 32, mX11_piece, 0, 0, 525, 528, 526, 527, 86), (11, 109, mX11_draftPiece, 0, 0, 529, 532, 531, 1, 86), (11, 119, mX5_append, 0, 0, 533, 536, 534, 535, 89), (5, 37, mX1_append, 0, 0, 537, 514, 512, 513, 87), (11, 113, mX1_clear, 0, 0, 538, 510, 508, 509, 87), (13, 36, mX11_book, 0, 0, 539, 542, 540, 541, 86), (11, 123, mX5_fits, 0, 0, 543, 546, 544, 545, 89), (5, 51, mX5_length, 0, 0, 547, 550, 548, 549, 89), (11, 127, mX7_isFull, 0, 0, 551, 554, 552, 553, 90), (11, 131, mX7_append, 0, 0, 555, 558, 556, 557, 90), (7, 40, mX7_isFull, 0, 0, 559, 554, 552, 553, 90), (7, 44, mX5_copy, 0, 0, 560, 563, 561, 562, 89), (5, 54, mX5_init, 2, 0, 565, 137, 136, 0, 89), (5, 44, mX5_start, 0, 0, 566, 569, 567, 568, 89), (5, 57, mX5_append, 0, 0, 570, 536, 534, 535, 89), (11, 134, mX5_clear, 0, 0, 571, 574, 572, 573, 89), (5, 30, mX1_clear, 0, 0, 575, 510, 508, 509, 87), (13, 40, mX11_about, 0, 0, 576, 579, 577, 578, 86), (11, 135, mX7_find, 0, 0, 580, 583, 581, 582, 90), (13, 45, mX11_tell, 0, 0, 584, 587, 585, 586, 86), (11, 160, mX5_start, 0, 0, 588, 569, 567, 568, 89), (11, 163, mX5_length, 0, 0, 589, 550, 548, 549, 89), (11, 166, mX1_append, 0, 0, 590, 514, 512, 513, 87), (13, 49, mX11_isOf, 0, 0, 591, 594, 592, 593, 86), (13, 53, mX11_pack, 0, 0, 595, 598, 596, 597, 86), (11, 167, mX7_findOrNothing, 0, 0, 599, 602, 600, 601, 90), (7, 48, mX7_find, 0, 0, 603, 583, 581, 582, 90), (11, 170, mX0_isRanked, 0, 0, 604, 607, 605, 606, 91)]
def pm_mlc_1 : List (Nat × Nat × pm_M × Nat × Nat × Nat × Nat × Nat × Nat × Nat) := [(11, 173, mX4_plan, 0, 0, 608, 611, 609, 610, 92), (4, 40, mX4_begin, 0, 0, 612, 615, 614, 2, 92), (4, 101, mJ_fill, 1, 0, 619, 621, 620, 0, 99), (4, 49, mX4_followRow, 0, 0, 623, 626, 625, 3, 92), (4, 107, mX1_at, 0, 0, 627, 518, 516, 517, 87), (4, 113, mX5_end, 0, 0, 628, 631, 629, 630, 89), (4, 116, mX5_start, 0, 0, 632, 569, 567, 568, 89), (4, 53, mX4_followLetter, 0, 0, 633, 636, 635, 4, 92), (4, 56, mX4_tryOwn, 0, 0, 637, 640, 639, 5, 92), (4, 119, mX4_tryPart, 0, 0, 641, 644, 643, 6, 92), (4, 75, mX11_width, 1, 1, 645, 238, 237, 0, 86), (4, 78, mX4_tryCopies, 0, 0, 646, 649, 648, 7, 92), (4, 82, mX4_tryWhole, 0, 0, 651, 654, 653, 8, 92), (4, 126, mX5_length, 0, 0, 655, 550, 548, 549, 89), (11, 177, mX10_write, 0, 0, 656, 659, 657, 658, 93), (10, 15, mX1_clear, 0, 0, 660, 510, 508, 509, 87), (10, 29, mX10_put, 0, 0, 661, 664, 663, 9, 93), (10, 79, mX1_add, 0, 0, 665, 490, 488, 489, 87), (10, 82, mX1_raise, 0, 0, 666, 669, 667, 668, 87), (10, 38, mX10_putGamma, 0, 0, 670, 673, 672, 10, 93), (10, 76, mX11_gamma, 1, 1, 674, 235, 234, 0, 86), (10, 46, mX10_putPart, 0, 0, 675, 678, 677, 11, 93), (10, 54, mX4_kindAt, 0, 0, 679, 682, 680, 681, 92), (10, 57, mX4_placeAt, 0, 0, 683, 686, 684, 685, 92), (10, 50, mX4_lengthAt, 0, 0, 687, 690, 688, 689, 92), (10, 60, mX10_putBytes, 0, 0, 691, 694, 693, 12, 93), (10, 73, mX1_at, 0, 0, 695, 518, 516, 517, 87), (10, 70, mX11_width, 1, 1, 696, 238, 237, 0, 86), (11, 184, mX4_least, 0, 0, 697, 700, 698, 699, 92), (13, 57, mX11_greedy, 0, 0, 701, 704, 702, 703, 86), (11, 187, mX4_greedyTotal, 0, 0, 705, 708, 706, 707, 92), (4, 85, mX4_longestWhole, 0, 0, 709, 712, 711, 13, 92), (4, 89, mX4_greedyFrom, 0, 0, 713, 716, 715, 14, 92), (13, 61, mX11_bits, 0, 0, 717, 720, 718, 719, 86), (13, 65, mX11_part, 0, 0, 721, 724, 722, 723, 86), (11, 191, mX4_startOfPart, 0, 0, 725, 728, 726, 727, 92), (11, 194, mX4_kindAt, 0, 0, 729, 682, 680, 681, 92), (11, 197, mX4_placeAt, 0, 0, 730, 686, 684, 685, 92), (11, 200, mX4_lengthAt, 0, 0, 731, 690, 688, 689, 92), (13, 69, mX11_rest, 0, 0, 732, 735, 733, 734, 86), (13, 73, mX11_unpack, 0, 0, 736, 739, 737, 738, 86), (11, 204, mX6_read, 0, 0, 740, 743, 741, 742, 94), (6, 43, mX1_clear, 0, 0, 744, 510, 508, 509, 87), (6, 46, mX6_readBook, 0, 0, 745, 748, 747, 15, 94), (6, 61, mX6_readBits, 0, 0, 749, 752, 751, 16, 94), (6, 71, mX6_note, 0, 0, 753, 756, 755, 17, 94), (6, 134, mX1_at, 0, 0, 757, 518, 516, 517, 87), (6, 65, mX7_findOrNothing, 0, 0, 758, 602, 600, 601, 90), (6, 50, mX6_readSize, 0, 0, 759, 762, 761, 18, 94), (6, 75, mX6_readGamma, 0, 0, 763, 766, 765, 19, 94), (6, 54, mX6_readPart, 0, 0, 767, 770, 769, 20, 94), (6, 79, mX6_readOwn, 0, 0, 771, 774, 773, 21, 94), (6, 99, mX1_add, 0, 0, 775, 490, 488, 489, 87), (6, 88, mX6_readTold, 0, 0, 776, 779, 778, 22, 94), (6, 107, mX11_width, 1, 1, 780, 238, 237, 0, 86), (6, 110, mX5_endAround, 0, 0, 781, 784, 782, 783, 89), (6, 113, mX6_takeCopy, 0, 0, 785, 788, 787, 23, 94), (6, 117, mX1_append, 0, 0, 789, 514, 512, 513, 87), (6, 92, mX6_readFar, 0, 0, 790, 793, 792, 24, 94), (6, 95, mX6_readWhole, 0, 0, 794, 797, 796, 25, 94)]
def pm_mlc_2 : List (Nat × Nat × pm_M × Nat × Nat × Nat × Nat × Nat × Nat × Nat) := [(6, 121, mX0_isRanked, 0, 0, 798, 607, 605, 606, 91), (6, 128, mX5_length, 0, 0, 799, 550, 548, 549, 89), (6, 131, mX5_start, 0, 0, 800, 569, 567, 568, 89), (6, 58, mX6_readFill, 0, 0, 801, 804, 803, 26, 94), (13, 77, mX11_fault, 0, 0, 805, 808, 806, 807, 86), (13, 81, mX11_sample, 0, 0, 809, 812, 810, 811, 86), (11, 214, mX11_addSample, 0, 0, 813, 816, 815, 27, 86), (11, 217, mX8_keepSample, 0, 0, 817, 820, 818, 819, 95), (8, 57, mX1_become, 0, 0, 821, 506, 504, 505, 87), (13, 85, mX11_forget, 0, 0, 822, 825, 823, 824, 86), (13, 89, mX11_train, 0, 0, 826, 829, 827, 828, 86), (11, 224, mX8_begin, 0, 0, 830, 833, 831, 832, 95), (8, 82, mX5_clear, 0, 0, 834, 574, 572, 573, 89), (8, 88, mX8_findAt, 0, 0, 835, 838, 837, 28, 95), (8, 92, mX8_longestAlike, 0, 0, 839, 842, 841, 29, 95), (8, 103, mX1_alike, 0, 0, 843, 846, 844, 845, 87), (8, 96, mX2_set, 0, 0, 848, 851, 849, 850, 96), (8, 100, mX8_insertProbe, 0, 0, 852, 855, 854, 30, 95), (8, 113, mX2_orderBySpread, 0, 0, 856, 859, 857, 858, 96), (2, 37, mX2_order, 0, 0, 860, 863, 861, 862, 96), (2, 27, mX1_alike, 0, 0, 864, 846, 844, 845, 87), (2, 33, mX1_at, 0, 0, 865, 518, 516, 517, 87), (8, 120, mX2_become, 0, 0, 867, 870, 868, 869, 96), (2, 23, mX2_set, 0, 0, 871, 851, 849, 850, 96), (11, 227, mX8_takeNext, 0, 0, 872, 875, 873, 874, 95), (8, 123, mX8_least, 0, 0, 876, 879, 877, 878, 95), (8, 60, mX4_plan, 0, 0, 880, 611, 609, 610, 92), (8, 66, mX4_least, 0, 0, 881, 700, 698, 699, 92), (8, 126, mX8_gainOf, 0, 0, 882, 885, 884, 31, 95), (8, 133, mX8_appendPiece, 0, 0, 886, 889, 888, 32, 95), (8, 146, mX5_append, 0, 0, 890, 536, 534, 535, 89), (8, 150, mX5_dropLast, 0, 0, 891, 894, 892, 893, 89), (5, 48, mX1_shorten, 0, 0, 895, 498, 496, 497, 87), (8, 153, mX11_gamma, 1, 1, 896, 235, 234, 0, 86), (8, 130, mX2_order, 0, 0, 897, 863, 861, 862, 96), (11, 234, mX8_keepGains, 0, 0, 898, 901, 899, 900, 95), (13, 93, mX11_gained, 0, 0, 902, 905, 903, 904, 86), (11, 243, mX8_keptGain, 0, 0, 906, 909, 907, 908, 95), (13, 97, mX11_price, 0, 0, 910, 913, 911, 912, 86), (11, 246, mX8_least, 0, 0, 914, 879, 877, 878, 95), (13, 101, mX11_offer, 0, 0, 915, 918, 916, 917, 86), (11, 249, mX9_post, 0, 0, 919, 922, 920, 921, 97), (9, 37, mX9_put, 0, 0, 923, 926, 925, 33, 97), (9, 53, mX9_isFull, 0, 0, 927, 930, 928, 929, 97), (9, 57, mX3_init, 2, 0, 932, 934, 933, 0, 100), (13, 105, mX11_send, 0, 0, 966, 969, 967, 968, 86), (11, 256, mX11_sendLetter, 0, 0, 970, 973, 972, 34, 86), (11, 260, mX9_isFull, 0, 0, 974, 930, 928, 929, 97), (11, 261, mX9_postLetter, 0, 0, 975, 978, 976, 977, 97), (9, 44, mX1_become, 0, 0, 979, 506, 504, 505, 87), (13, 109, mX11_over, 0, 0, 980, 983, 981, 982, 86), (13, 113, mX11_deliver, 0, 0, 984, 987, 985, 986, 86), (11, 265, mX9_find, 0, 0, 988, 991, 989, 990, 97), (11, 273, mX9_arrive, 0, 0, 992, 995, 993, 994, 97), (9, 67, mX9_answerOffer, 0, 0, 996, 999, 998, 35, 97), (9, 92, mX7_heldBooks, 0, 0, 1000, 1003, 1001, 1002, 90), (9, 98, mX9_post, 0, 0, 1004, 922, 920, 921, 97), (9, 102, mX0_hold, 0, 0, 1005, 1008, 1006, 1007, 91), (9, 71, mX9_hearYes, 0, 0, 1009, 1012, 1011, 36, 97), (9, 74, mX9_hearNo, 0, 0, 1013, 1016, 1015, 37, 97)]
def pm_mlc_3 : List (Nat × Nat × pm_M × Nat × Nat × Nat × Nat × Nat × Nat × Nat) := [(9, 78, mX9_takeLetter, 0, 0, 1017, 1020, 1019, 38, 97), (9, 124, mX0_settleLetter, 0, 0, 1021, 1024, 1022, 1023, 91), (0, 35, mX0_releaseIfSettled, 0, 0, 1025, 1028, 1027, 39, 91), (9, 85, mX0_awaitLetters, 0, 0, 1029, 1032, 1030, 1031, 91), (13, 117, mX11_lose, 0, 0, 1033, 1036, 1034, 1035, 86), (11, 277, mX9_noteLoss, 0, 0, 1037, 1040, 1038, 1039, 97), (13, 121, mX11_twice, 0, 0, 1041, 1044, 1042, 1043, 86), (13, 125, mX11_message, 0, 0, 1045, 1048, 1046, 1047, 86), (13, 129, mX11_latest, 0, 0, 1049, 1052, 1050, 1051, 86), (13, 133, mX11_count, 0, 0, 1053, 1056, 1054, 1055, 86), (11, 302, mX9_messagesUnderWay, 0, 0, 1057, 1060, 1058, 1059, 97), (11, 305, mX7_heldBooks, 0, 0, 1061, 1003, 1001, 1002, 90), (13, 12, mX12_init, 2, 0, 1064, 1066, 1065, 0, 98), (13, 17, mX12_feed, 0, 0, 1263, 1266, 1264, 1265, 98), (12, 136, mX12_four, 0, 0, 1267, 1270, 1269, 40, 98), (13, 22, mX12_trim, 0, 0, 1271, 1274, 1272, 1273, 98), (12, 140, mX12_in, 1, 0, 1275, 1277, 1276, 0, 98), (13, 27, mX12_again, 0, 0, 1278, 1281, 1279, 1280, 98), (13, 31, mX12_out, 0, 0, 1282, 1285, 1283, 1284, 98), (13, 35, mX12_piece, 0, 0, 1286, 1289, 1287, 1288, 98), (12, 165, mX12_addPiece, 0, 0, 1290, 1293, 1292, 41, 98), (12, 154, mX12_rowLong, 0, 0, 1294, 1297, 1296, 42, 98), (13, 39, mX12_book, 0, 0, 1298, 1301, 1299, 1300, 98), (12, 172, mX12_areSuch, 0, 0, 1302, 1305, 1304, 43, 98), (12, 169, mX12_pieceLong, 0, 0, 1306, 1309, 1308, 44, 98), (12, 147, mX12_end, 0, 0, 1310, 1313, 1312, 45, 98), (12, 151, mX12_begin, 0, 0, 1314, 1317, 1316, 46, 98), (12, 175, mX12_copyBook, 0, 0, 1318, 1321, 1320, 47, 98), (13, 44, mX12_about, 0, 0, 1322, 1325, 1323, 1324, 98), (12, 161, mX12_isBook, 0, 0, 1326, 1329, 1328, 48, 98), (13, 48, mX12_tell, 0, 0, 1330, 1333, 1331, 1332, 98), (13, 52, mX12_isOf, 0, 0, 1334, 1337, 1335, 1336, 98), (13, 56, mX12_pack, 0, 0, 1338, 1341, 1339, 1340, 98), (12, 222, mX12_takeTape, 0, 0, 1342, 1345, 1344, 49, 98), (12, 218, mX12_take, 0, 0, 1346, 1349, 1348, 50, 98), (12, 226, mX12_isBookOrNone, 0, 0, 1350, 1353, 1352, 51, 98), (12, 229, mX12_findLeast, 0, 0, 1354, 1357, 1356, 52, 98), (12, 179, mX12_bitsOf, 1, 0, 1358, 1360, 1359, 0, 98), (12, 189, mX12_g, 1, 0, 1362, 1364, 1363, 0, 98), (12, 192, mX12_offer, 0, 0, 1365, 1368, 1367, 53, 98), (12, 196, mX12_toldLong, 0, 0, 1369, 1372, 1371, 54, 98), (12, 185, mX12_pieceAt, 0, 0, 1373, 1376, 1375, 55, 98), (12, 200, mX12_farLong, 0, 0, 1377, 1380, 1379, 56, 98), (12, 203, mX12_isRanked, 0, 0, 1381, 1384, 1383, 57, 98), (12, 206, mX12_isWhole, 0, 0, 1385, 1388, 1387, 58, 98), (12, 212, mX12_write, 0, 0, 1389, 1392, 1391, 59, 98), (12, 215, mX12_writeG, 0, 0, 1393, 1396, 1395, 60, 98), (12, 235, mX12_writePart, 0, 0, 1397, 1400, 1399, 61, 98), (13, 60, mX12_greedy, 0, 0, 1401, 1404, 1402, 1403, 98), (12, 248, mX12_greedyPrice, 0, 0, 1405, 1408, 1407, 62, 98), (13, 64, mX12_bits, 0, 0, 1409, 1412, 1410, 1411, 98), (13, 68, mX12_part, 0, 0, 1413, 1416, 1414, 1415, 98), (13, 72, mX12_rest, 0, 0, 1417, 1420, 1418, 1419, 98), (13, 76, mX12_unpack, 0, 0, 1421, 1424, 1422, 1423, 98), (12, 262, mX12_read, 0, 0, 1425, 1428, 1427, 63, 98), (12, 260, mX12_wrong, 0, 0, 1429, 1432, 1431, 64, 98), (12, 268, mX12_readG, 0, 0, 1433, 1436, 1435, 65, 98), (12, 278, mX12_readPart, 0, 0, 1437, 1440, 1439, 66, 98), (12, 272, mX12_readOwn, 0, 0, 1441, 1444, 1443, 67, 98), (12, 275, mX12_getFrom, 0, 0, 1445, 1448, 1447, 68, 98)]
def pm_mlc_4 : List (Nat × Nat × pm_M × Nat × Nat × Nat × Nat × Nat × Nat × Nat) := [(13, 80, mX12_fault, 0, 0, 1449, 1452, 1450, 1451, 98), (13, 84, mX12_sample, 0, 0, 1453, 1456, 1454, 1455, 98), (13, 88, mX12_forget, 0, 0, 1457, 1460, 1458, 1459, 98), (13, 100, mX12_price, 0, 0, 1461, 1464, 1462, 1463, 98), (12, 287, mX12_priceOfAll, 0, 0, 1465, 1468, 1467, 69, 98), (13, 92, mX12_train, 0, 0, 1469, 1472, 1470, 1471, 98), (12, 316, mX12_findCandidates, 0, 0, 1473, 1476, 1475, 70, 98), (12, 306, mX12_inMany, 0, 0, 1477, 1480, 1479, 71, 98), (12, 293, mX12_isIn, 0, 0, 1481, 1484, 1483, 72, 98), (12, 290, mX12_isSame, 0, 0, 1485, 1488, 1487, 73, 98), (12, 309, mX12_propose, 0, 0, 1489, 1492, 1491, 74, 98), (12, 302, mX12_isBetter, 0, 0, 1493, 1496, 1495, 75, 98), (12, 296, mX12_isFirst, 0, 0, 1497, 1500, 1499, 76, 98), (12, 319, mX12_nextPiece, 0, 0, 1501, 1504, 1503, 77, 98), (13, 96, mX12_gained, 0, 0, 1505, 1508, 1506, 1507, 98), (13, 104, mX12_offer_, 0, 0, 1509, 1512, 1510, 1511, 98), (12, 334, mX12_sendMessage, 0, 0, 1513, 1516, 1515, 78, 98), (13, 108, mX12_send, 0, 0, 1517, 1520, 1518, 1519, 98), (13, 112, mX12_over, 0, 0, 1521, 1524, 1522, 1523, 98), (13, 116, mX12_deliver, 0, 0, 1525, 1528, 1526, 1527, 98), (12, 358, mX12_takeOffer, 0, 0, 1529, 1532, 1531, 79, 98), (12, 337, mX12_heldMany, 0, 0, 1533, 1536, 1535, 80, 98), (12, 340, mX12_answer, 0, 0, 1537, 1540, 1539, 81, 98), (12, 361, mX12_takeLetter, 0, 0, 1541, 1544, 1543, 82, 98), (12, 346, mX12_settle, 0, 0, 1545, 1548, 1547, 83, 98), (12, 355, mX12_release, 0, 0, 1549, 1552, 1551, 84, 98), (13, 120, mX12_lose, 0, 0, 1553, 1556, 1554, 1555, 98), (13, 124, mX12_twice, 0, 0, 1557, 1560, 1558, 1559, 98), (13, 128, mX12_message, 0, 0, 1561, 1564, 1562, 1563, 98), (13, 132, mX12_latest, 0, 0, 1565, 1568, 1566, 1567, 98), (13, 136, mX12_count, 0, 0, 1569, 1572, 1570, 1571, 98)]
/-- class, entry: the method, its kind (0 on an object, 1 static, 2 a constructor), nest mate, the places of its words -/
def pm_mlc : List (Nat × Nat × pm_M × Nat × Nat × Nat × Nat × Nat × Nat × Nat) := pm_mlc_0 ++ pm_mlc_1 ++ pm_mlc_2 ++ pm_mlc_3 ++ pm_mlc_4
def pm_mxc : List (Nat × Nat × Bool × Nat) := [(1, 9, true, 30), (5, 20, true, 56), (4, 96, false, 531), (4, 123, true, 565), (8, 107, true, 762), (8, 117, false, 781)]
def pm_oic : List (Nat × Nat × Nat) := [(11, 3, 21), (1, 3, 29), (5, 3, 53), (7, 3, 80), (0, 3, 89), (4, 3, 147), (10, 3, 198), (6, 3, 212), (8, 3, 247), (2, 1, 259), (9, 3, 319), (3, 3, 850), (12, 7, 982)]
def pm_clc : List (Nat × Nat × Nat × Nat × Nat × Nat) := [(13, 7, 11, 16, 17, 1), (11, 9, 1, 24, 25, 2), (11, 21, 5, 48, 49, 4), (5, 9, 1, 54, 25, 2), (11, 30, 7, 75, 76, 5), (7, 9, 0, 81, 83, 6), (7, 17, 5, 84, 49, 4), (11, 37, 4, 142, 143, 7), (11, 47, 10, 193, 194, 8), (11, 54, 6, 207, 208, 9), (6, 9, 1, 213, 25, 2), (11, 63, 8, 242, 243, 10), (8, 9, 1, 248, 25, 2), (8, 17, 2, 250, 255, 11), (8, 27, 5, 252, 49, 4), (11, 72, 9, 314, 315, 12), (9, 9, 3, 320, 846, 15), (9, 17, 1, 322, 25, 2), (5, 15, 5, 479, 49, 4), (13, 10, 12, 977, 978, 13)]
def pm_ldcc : List (Nat × Nat × Int32 × Nat) := [(4, 48, 1000000, 537), (12, 29, 104000, 983), (12, 188, 1000000, 1276)]
def pm_fl (oc idx : Nat) : Option (Nat × Nat × Nat) := (pm_flc.find? (fun r => r.1 == oc && r.2.1 == idx)).map (fun r => (r.2.2.1, r.2.2.2.1, r.2.2.2.2.1))
def pm_ml (oc idx : Nat) : Option (pm_M × Nat × Nat) := (pm_mlc.find? (fun r => r.1 == oc && r.2.1 == idx)).map (fun r => (r.2.2.1, r.2.2.2.1, r.2.2.2.2.1))
def pm_oi (oc idx : Nat) : Bool := pm_oic.any (fun r => r.1 == oc && r.2.1 == idx)
def pm_mx (oc idx : Nat) : Option Bool := (pm_mxc.find? (fun r => r.1 == oc && r.2.1 == idx)).map (fun r => r.2.2.1)
def pm_cl (oc idx : Nat) : Option Nat := (pm_clc.find? (fun r => r.1 == oc && r.2.1 == idx)).map (fun r => r.2.2.1)
def pm_ld (oc idx : Nat) : Option Int32 := (pm_ldcc.find? (fun r => r.1 == oc && r.2.1 == idx)).map (fun r => r.2.2.1)
def pm_up (h : Nat → Option pm_C) (a : Nat) (c : pm_C) : Nat → Option pm_C := fun q => if q = a then some c else h q
def pm_cat (st : List Value) : Nat := (st.map fun v => v.category).sum
/-- a value of one word that a local may hold -/
def pm_v1 (v : Value) : Bool := match v with
  | .int _ => true
  | .ref _ => true
  | .null => true
  | _ => false
def pm_fit (ty : FieldType) (v : Value) : Bool := decide (narrow ty v = v) && fits ty v
def pm_cmp (c : Jvm.ClassFile.Cond) (x y : Int32) : Bool := match c with
  | .eq => decide (x = y)
  | .ne => decide (¬ x = y)
  | .lt => decide (x < y)
  | .ge => decide (y ≤ x)
  | .gt => decide (y < x)
  | .le => decide (x ≤ y)
abbrev pm_S : Type := Nat × List Value × List Value × pm_H
def pm_push (v : Value) (len pc : Nat) (ls st : List Value) (hp : pm_H) : Option pm_S := some (pc + len, ls, v :: st, hp)
def pm_iload (i len pc : Nat) (ls st : List Value) (hp : pm_H) : Option pm_S := match ls[i]? with
  | some (.int x) => some (pc + len, ls, .int x :: st, hp)
  | _ => none
def pm_aload (i len pc : Nat) (ls st : List Value) (hp : pm_H) : Option pm_S := match ls[i]? with
  | some (.ref a) => some (pc + len, ls, .ref a :: st, hp)
  | some .null => some (pc + len, ls, .null :: st, hp)
  | _ => none
def pm_istore (i len pc : Nat) (ls st : List Value) (hp : pm_H) : Option pm_S := match st with
  | .int x :: st' => if i < ls.length then some (pc + len, ls.set i (.int x), st', hp) else none
  | _ => none
def pm_astore (i len pc : Nat) (ls st : List Value) (hp : pm_H) : Option pm_S := match st with
  | .ref a :: st' => if i < ls.length then some (pc + len, ls.set i (.ref a), st', hp) else none
  | .null :: st' => if i < ls.length then some (pc + len, ls.set i .null, st', hp) else none
  | _ => none
def pm_bin (f : Int32 → Int32 → Int32) (pc : Nat) (ls st : List Value) (hp : pm_H) : Option pm_S := match st with
  | .int y :: .int x :: st' => some (pc + 1, ls, .int (f x y) :: st', hp)
  | _ => none
def pm_div (f : Int32 → Int32 → Int32) (pc : Nat) (ls st : List Value) (hp : pm_H) : Option pm_S := match st with
  | .int y :: .int x :: st' => if y = 0 then none else some (pc + 1, ls, .int (f x y) :: st', hp)
  | _ => none
def pm_go (off : Int) (pc : Nat) (ls st : List Value) (hp : pm_H) : Option pm_S := if 0 ≤ (pc : Int) + off then some (((pc : Int) + off).toNat, ls, st, hp) else none
def pm_if1 (c : Jvm.ClassFile.Cond) (off : Int) (pc : Nat) (ls st : List Value) (hp : pm_H) : Option pm_S := match st with
  | .int x :: st' => match pm_go off pc ls st' hp with
    | some q => if pm_cmp c x 0 = true then some q else some (pc + 3, ls, st', hp)
    | none => none
  | _ => none
def pm_if2 (c : Jvm.ClassFile.Cond) (off : Int) (pc : Nat) (ls st : List Value) (hp : pm_H) : Option pm_S := match st with
  | .int y :: .int x :: st' => match pm_go off pc ls st' hp with
    | some q => if pm_cmp c x y = true then some q else some (pc + 3, ls, st', hp)
    | none => none
  | _ => none
def pm_ifn (b : Bool) (off : Int) (pc : Nat) (ls st : List Value) (hp : pm_H) : Option pm_S := match st with
  | .null :: st' => if b = true then pm_go off pc ls st' hp else some (pc + 3, ls, st', hp)
  | .ref _ :: st' => if b = true then some (pc + 3, ls, st', hp) else pm_go off pc ls st' hp
  | _ => none
def pm_getf (oc idx pc : Nat) (ls st : List Value) (hp : pm_H) : Option pm_S := match st with
  | .ref a :: st' => match pm_fl oc idx, hp.2.2 a with
    | some (ci, k, _), some (.inr (.inr (cj, fs))) => if ci = cj then (match fs[k]? with
      | some v => some (pc + 3, ls, v :: st', hp)
      | none => none) else none
    | _, _ => none
  | _ => none
def pm_putf (M : pm_M) (idx pc : Nat) (ls st : List Value) (hp : pm_H) : Option pm_S := match st with
  | v :: .ref a :: st' => match pm_fl M.2.2.2.2.1 idx, hp.2.2 a with
    | some (ci, k, nest), some (.inr (.inr (cj, fs))) => if ci = cj ∧ k < fs.length ∧ pm_fit (pm_ty ci k) v = true ∧ ((pm_T ci k).2.2.2 = false ∨ (nest = 0 ∧ M.2.2.2.2.1 = ci ∧ M.1.name = "<init>")) then some (pc + 3, ls, st', hp.1, hp.2.1, pm_up hp.2.2 a (.inr (.inr (ci, fs.set k v)))) else none
    | _, _ => none
  | _ => none
def pm_iald (b : Bool) (pc : Nat) (ls st : List Value) (hp : pm_H) : Option pm_S := match st with
  | .int i :: .ref a :: st' => match hp.2.2 a with
    | some (.inl (t, n, f)) => if (b = decide (t = 1)) ∧ ¬ (i < 0 ∨ n ≤ i.toNatClampNeg) then some (pc + 1, ls, .int (f i.toNatClampNeg) :: st', hp) else none
    | _ => none
  | _ => none
def pm_iast (b : Bool) (pc : Nat) (ls st : List Value) (hp : pm_H) : Option pm_S := match st with
  | .int x :: .int i :: .ref a :: st' => match hp.2.2 a with
    | some (.inl (t, n, f)) => if t = (if b = true then 1 else 0) ∧ ¬ (i < 0 ∨ n ≤ i.toNatClampNeg) then some (pc + 1, ls, st', hp.1, hp.2.1, pm_up hp.2.2 a (.inl (t, n, upd f i.toNatClampNeg (if b = true then vp_nar .boolean x else x)))) else none
    | _ => none
  | _ => none
def pm_aald (pc : Nat) (ls st : List Value) (hp : pm_H) : Option pm_S := match st with
  | .int i :: .ref a :: st' => match hp.2.2 a with
    | some (.inr (.inl (_, n, f))) => if ¬ (i < 0 ∨ n ≤ i.toNatClampNeg) then some (pc + 1, ls, va_rf (f i.toNatClampNeg) :: st', hp) else none
    | _ => none
  | _ => none
def pm_aast (pc : Nat) (ls st : List Value) (hp : pm_H) : Option pm_S := match st with
  | .ref v :: .int i :: .ref a :: st' => match hp.2.2 a, hp.2.2 v with
    | some (.inr (.inl (ci, n, f))), some (.inr (.inr (cj, _))) => if ci = cj ∧ ¬ (i < 0 ∨ n ≤ i.toNatClampNeg) then some (pc + 1, ls, st', hp.1, hp.2.1, pm_up hp.2.2 a (.inr (.inl (ci, n, va_up f i.toNatClampNeg (some v))))) else none
    | _, _ => none
  | _ => none
def pm_alen (pc : Nat) (ls st : List Value) (hp : pm_H) : Option pm_S := match st with
  | .ref a :: st' => match hp.2.2 a with
    | some (.inl (_, n, _)) => some (pc + 1, ls, .int (Int32.ofNat n) :: st', hp)
    | some (.inr (.inl (_, n, _))) => some (pc + 1, ls, .int (Int32.ofNat n) :: st', hp)
    | _ => none
  | _ => none
def pm_newa (t pc : Nat) (ls st : List Value) (hp : pm_H) : Option pm_S := match st with
  | .int n :: st' => if ¬ n < 0 ∧ n.toNatClampNeg * 4 ≤ 536870912 then some (pc + 2, ls, .ref hp.1 :: st', hp.1 + 1, hp.2.1 + n.toNatClampNeg, pm_up hp.2.2 hp.1 (.inl (t, n.toNatClampNeg, fun _ => 0))) else none
  | _ => none
def pm_anew (oc idx pc : Nat) (ls st : List Value) (hp : pm_H) : Option pm_S := match st with
  | .int n :: st' => match pm_cl oc idx with
    | some ci => if ci < 4 ∧ ¬ n < 0 ∧ n.toNatClampNeg * 4 ≤ 536870912 then some (pc + 3, ls, .ref hp.1 :: st', hp.1 + 1, hp.2.1 + n.toNatClampNeg, pm_up hp.2.2 hp.1 (.inr (.inl (ci, n.toNatClampNeg, fun _ => none)))) else none
    | none => none
  | _ => none
def pm_new (oc idx pc : Nat) (ls st : List Value) (hp : pm_H) : Option pm_S := match pm_cl oc idx with
  | some ci => some (pc + 3, ls, .ref hp.1 :: st, hp.1 + 1, hp.2.1 + pm_N ci, pm_up hp.2.2 hp.1 (.inr (.inr (ci, pm_df ci))))
  | none => none
def pm_oinit (k oc idx pc : Nat) (ls st : List Value) (hp : pm_H) : Option pm_S := match st with
  | .ref _ :: st' => if pm_oi oc idx = true ∧ 1 ≤ k ∧ pm_cat st' ≤ 8 then some (pc + 3, ls, st', hp) else none
  | _ => none
def pm_mm (k oc idx pc : Nat) (ls st : List Value) (hp : pm_H) : Option pm_S := match st with
  | .int y :: .int x :: st' => if 1 ≤ k ∧ pm_cat st' ≤ 8 then (match pm_mx oc idx with
    | some true => some (pc + 3, ls, .int (if x < y then y else x) :: st', hp)
    | some false => some (pc + 3, ls, .int (if y < x then y else x) :: st', hp)
    | none => none) else none
  | _ => none
def pm_tsw (dflt lo hi : Int) (offs : Array Int) (pc : Nat) (ls st : List Value) (hp : pm_H) : Option pm_S := match st with
  | .int x :: st' => if x.toInt < lo ∨ hi < x.toInt then pm_go dflt pc ls st' hp else match offs[(x.toInt - lo).toNat]? with
    | some off => pm_go off pc ls st' hp
    | none => none
  | _ => none
def pm_lsw (dflt : Int) (ps : Array (Int × Int)) (pc : Nat) (ls st : List Value) (hp : pm_H) : Option pm_S := match st with
  | .int x :: st' => if (ps.toList.zip (ps.toList.drop 1)).all (fun (a, next) => a.1 < next.1) = true then pm_go (Op.lookupswitch.offset ps.toList dflt x.toInt) pc ls st' hp else none
  | _ => none
def pm_dup (pc : Nat) (ls st : List Value) (hp : pm_H) : Option pm_S := match st with
  | v :: st' => if v.category = 1 then some (pc + 1, ls, v :: v :: st', hp) else none
  | _ => none
def pm_dup2 (pc : Nat) (ls st : List Value) (hp : pm_H) : Option pm_S := match st with
  | v :: w :: st' => if v.category = 1 ∧ w.category = 1 then some (pc + 1, ls, v :: w :: v :: w :: st', hp) else none
  | _ => none
def pm_pop (pc : Nat) (ls st : List Value) (hp : pm_H) : Option pm_S := match st with
  | v :: st' => if v.category = 1 then some (pc + 1, ls, st', hp) else none
  | _ => none
def pm_iinc (i : Nat) (n : Int) (pc : Nat) (ls st : List Value) (hp : pm_H) : Option pm_S := match ls[i]? with
  | some (.int x) => some (pc + 3, ls.set i (.int (x + Int32.ofInt n)), st, hp)
  | _ => none
/-- one instruction that is no call and no return -/
def pm_st (k : Nat) (M : pm_M) (i : Instr) (len pc : Nat) (ls st : List Value) (hp : pm_H) : Option pm_S := match i with
  | .aload_n n => if len = 1 then pm_aload n.val 1 pc ls st hp else none
  | .aload n => if len = 2 then pm_aload n 2 pc ls st hp else none
  | .iload_n n => if len = 1 then pm_iload n.val 1 pc ls st hp else none
  | .iload n => if len = 2 then pm_iload n 2 pc ls st hp else none
  | .istore_n n => if len = 1 then pm_istore n.val 1 pc ls st hp else none
  | .istore n => if len = 2 then pm_istore n 2 pc ls st hp else none
  | .astore_n n => if len = 1 then pm_astore n.val 1 pc ls st hp else none
  | .astore n => if len = 2 then pm_astore n 2 pc ls st hp else none
  | .iconst n => if len = 1 then pm_push (.int (Int32.ofInt n)) 1 pc ls st hp else none
  | .bipush n => if len = 2 then pm_push (.int (Int8.ofInt n).toInt32) 2 pc ls st hp else none
  | .sipush n => if len = 3 then pm_push (.int (Int16.ofInt n).toInt32) 3 pc ls st hp else none
  | .ldc idx => if len = 2 then (match pm_ld M.2.2.2.2.1 idx with
    | some v => pm_push (.int v) 2 pc ls st hp
    | none => none) else none
  | .aconst_null => if len = 1 then pm_push .null 1 pc ls st hp else none
  | .iadd => if len = 1 then pm_bin (fun x y => x + y) pc ls st hp else none
  | .isub => if len = 1 then pm_bin (fun x y => x - y) pc ls st hp else none
  | .imul => if len = 1 then pm_bin (fun x y => x * y) pc ls st hp else none
  | .iand => if len = 1 then pm_bin (fun x y => x &&& y) pc ls st hp else none
  | .ior => if len = 1 then pm_bin (fun x y => x ||| y) pc ls st hp else none
  | .ishl => if len = 1 then pm_bin (fun x y => x <<< (y &&& 31)) pc ls st hp else none
  | .ishr => if len = 1 then pm_bin (fun x y => x >>> (y &&& 31)) pc ls st hp else none
  | .iushr => if len = 1 then pm_bin (fun x y => (x.toUInt32 >>> (y.toUInt32 &&& Int32.toUInt32 31)).toInt32) pc ls st hp else none
  | .idiv => if len = 1 then pm_div (fun x y => x / y) pc ls st hp else none
  | .irem => if len = 1 then pm_div (fun x y => x - x / y * y) pc ls st hp else none
  | .iinc i n => if len = 3 then pm_iinc i n pc ls st hp else none
  | .dup => if len = 1 then pm_dup pc ls st hp else none
  | .dup2 => if len = 1 then pm_dup2 pc ls st hp else none
  | .pop => if len = 1 then pm_pop pc ls st hp else none
  | .goto off => if len = 3 then pm_go off pc ls st hp else none
  | .if_icmp c off => if len = 3 then pm_if2 c off pc ls st hp else none
  | .ifCond c off => if len = 3 then pm_if1 c off pc ls st hp else none
  | .ifnull off => if len = 3 then pm_ifn true off pc ls st hp else none
  | .ifnonnull off => if len = 3 then pm_ifn false off pc ls st hp else none
  | .getfield idx => if len = 3 then pm_getf M.2.2.2.2.1 idx pc ls st hp else none
  | .putfield idx => if len = 3 then pm_putf M idx pc ls st hp else none
  | .iaload => if len = 1 then pm_iald false pc ls st hp else none
  | .baload => if len = 1 then pm_iald true pc ls st hp else none
  | .iastore => if len = 1 then pm_iast false pc ls st hp else none
  | .bastore => if len = 1 then pm_iast true pc ls st hp else none
  | .aaload => if len = 1 then pm_aald pc ls st hp else none
  | .aastore => if len = 1 then pm_aast pc ls st hp else none
  | .arraylength => if len = 1 then pm_alen pc ls st hp else none
  | .newarray ty => if len = 2 then (match ty with
    | .int => pm_newa 0 pc ls st hp
    | .boolean => pm_newa 1 pc ls st hp
    | _ => none) else none
  | .anewarray idx => if len = 3 then pm_anew M.2.2.2.2.1 idx pc ls st hp else none
  | .new idx => if len = 3 then pm_new M.2.2.2.2.1 idx pc ls st hp else none
  | .invokespecial idx => if len = 3 then pm_oinit k M.2.2.2.2.1 idx pc ls st hp else none
  | .invokestatic idx => if len = 3 then pm_mm k M.2.2.2.2.1 idx pc ls st hp else none
  | .tableswitch dflt lo hi offs => pm_tsw dflt lo hi offs pc ls st hp
  | .lookupswitch dflt ps => pm_lsw dflt ps pc ls st hp
  | _ => none
/-- a return: its answer -/
def pm_ret (M : pm_M) (i : Instr) (len : Nat) (st : List Value) : Option (Option Value) := match i with
  | .ireturn => match st with
    | [.int v] => if len = 1 ∧ (M.2.2.2.1 = some .int ∨ (M.2.2.2.1 = some .boolean ∧ narrow .boolean (.int v) = .int v)) then some (some (.int v)) else none
    | _ => none
  | .areturn => match st with
    | [.ref a] => if len = 1 then (match M.2.2.2.1 with
      | some (.object _) => some (some (.ref a))
      | _ => none) else none
    | [.null] => if len = 1 then (match M.2.2.2.1 with
      | some (.object _) => some (some .null)
      | _ => none) else none
    | _ => none
  | .return_ => match st with
    | [] => if len = 1 ∧ M.2.2.2.1 = none then some none else none
    | _ => none
  | _ => none
/-- a call's arguments, and what lies below them -/
def pm_args (n : Nat) (st : List Value) : Option (List Value × List Value) := if n ≤ st.length ∧ (st.take n).all pm_v1 = true ∧ pm_cat (st.drop n) ≤ 8 then some ((st.take n).reverse, st.drop n) else none
/-- the receiver is an object of the class -/
def pm_rcv (c : Nat) (as : List Value) (hp : pm_H) : Bool := match as with
  | .ref a :: _ => (match hp.2.2 a with
    | some (.inr (.inr (cj, _))) => cj == c
    | _ => false)
  | _ => false
def pm_isr (as : List Value) : Bool := match as with
  | .ref _ :: _ => true
  | _ => false
def pm_inv (M : pm_M) (i : Instr) (len : Nat) (st : List Value) (hp : pm_H) : Option (pm_M × List Value × List Value) := match i with
  | .invokevirtual idx => match pm_ml M.2.2.2.2.1 idx with
    | some (M', kind, _) => match pm_args M'.2.2.2.2.2 st with
      | some (as, rest) => if len = 3 ∧ kind = 0 ∧ pm_rcv M'.2.2.2.2.1 as hp = true then some (M', as, rest) else none
      | none => none
    | none => none
  | .invokestatic idx => match pm_ml M.2.2.2.2.1 idx with
    | some (M', kind, _) => match pm_args M'.2.2.2.2.2 st with
      | some (as, rest) => if len = 3 ∧ kind = 1 then some (M', as, rest) else none
      | none => none
    | none => none
  | .invokespecial idx => match pm_ml M.2.2.2.2.1 idx with
    | some (M', kind, _) => match pm_args M'.2.2.2.2.2 st with
      | some (as, rest) => if len = 3 ∧ kind = 2 ∧ pm_isr as = true then some (M', as, rest) else none
      | none => none
    | none => none
  | _ => none
def pm_ent (M : pm_M) (as : List Value) : List Value := as ++ List.replicate (M.2.2.1 - as.length) (.retAddr 0)
/-- the pure machine's run: fuel, calls that may stand open above, method, place, locals, stack, heap -/
def pm_run : Nat → Nat → pm_M → Nat → List Value → List Value → pm_H → Option (Option Value × pm_H)
  | 0, _, _, _, _, _, _ => none
  | f + 1, k, M, pc, ls, st, hp => match decode M.2.1 pc with
    | .error _ => none
    | .ok (i, len) => match pm_st k M i len pc ls st hp with
      | some q => pm_run f k M q.1 q.2.1 q.2.2.1 q.2.2.2
      | none => match pm_ret M i len st with
        | some r => some (r, hp)
        | none => match pm_inv M i len st hp with
          | none => none
          | some (M', as, rest) => match k with
            | 0 => none
            | k' + 1 => match pm_run f k' M' 0 (pm_ent M' as) [] hp with
              | none => none
              | some (r, hp') => pm_run f (k' + 1) M (pc + 3) ls (r.toList ++ rest) hp'
