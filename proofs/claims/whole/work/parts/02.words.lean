theorem hN_X0 : .initialized RX0 ∈ f_tbl := f_t 8 (by decide +kernel) rfl
theorem hN_X1 : .initialized RX1 ∈ f_tbl := f_t 10 (by decide +kernel) rfl
theorem hN_X2 : .initialized RX2 ∈ f_tbl := f_t 2 (by decide +kernel) rfl
theorem hN_X3 : .initialized RX3 ∈ f_tbl := f_t 5 (by decide +kernel) rfl
theorem hN_X4 : .initialized RX4 ∈ f_tbl := f_t 6 (by decide +kernel) rfl
theorem hN_X5 : .initialized RX5 ∈ f_tbl := f_t 15 (by decide +kernel) rfl
theorem hN_X6 : .initialized RX6 ∈ f_tbl := f_t 12 (by decide +kernel) rfl
theorem hN_X7 : .initialized RX7 ∈ f_tbl := f_t 11 (by decide +kernel) rfl
theorem hN_X8 : .initialized RX8 ∈ f_tbl := f_t 7 (by decide +kernel) rfl
theorem hN_X9 : .initialized RX9 ∈ f_tbl := f_t 9 (by decide +kernel) rfl
theorem hN_X10 : .initialized RX10 ∈ f_tbl := f_t 3 (by decide +kernel) rfl
theorem hN_X11 : .initialized RX11 ∈ f_tbl := f_t 1 (by decide +kernel) rfl
theorem hN_X12 : .initialized RX12 ∈ f_tbl := f_t 13 (by decide +kernel) rfl
theorem hN_J9 : .initialized RJ9 ∈ f_tbl := f_t 4 (by decide +kernel) rfl
theorem hN_J10 : .initialized RJ10 ∈ f_tbl := f_t 14 (by decide +kernel) rfl
theorem hN_L : .initialized RL ∈ f_tbl := f_t 0 (by decide +kernel) rfl
set_option maxRecDepth 100000 in
theorem hC_X0_init : Cond.code yX0_init cX0_init 1 none ∈ f_tbl := f_t 171 rfl rfl
theorem hI_X0_init : Cond.instanceMethod yX0_init ∈ f_tbl := f_t 170 (by decide +kernel) rfl
set_option maxRecDepth 100000 in
theorem hC_X0_workParts : Cond.code yX0_workParts cX0_workParts 6 none ∈ f_tbl := f_t 491 rfl rfl
theorem hI_X0_workParts : Cond.instanceMethod yX0_workParts ∈ f_tbl := f_t 489 (by decide +kernel) rfl
theorem hS_X0_workParts : Cond.selects RX0 yX0_workParts yX0_workParts ∈ f_tbl := f_t 490 (by decide +kernel) rfl
set_option maxRecDepth 100000 in
theorem hC_X0_join : Cond.code yX0_join cX0_join 13 none ∈ f_tbl := f_t 501 rfl rfl
theorem hI_X0_join : Cond.instanceMethod yX0_join ∈ f_tbl := f_t 500 (by decide +kernel) rfl
theorem hS_X0_join : Cond.selects RX0 yX0_join yX0_join ∈ f_tbl := f_p 3 (by decide +kernel) rfl
set_option maxRecDepth 100000 in
theorem hC_X0_billionths : Cond.code yX0_billionths cX0_billionths 13 (some .long) ∈ f_tbl := f_t 509 rfl rfl
theorem hI_X0_billionths : Cond.instanceMethod yX0_billionths ∈ f_tbl := f_t 507 (by decide +kernel) rfl
theorem hS_X0_billionths : Cond.selects RX0 yX0_billionths yX0_billionths ∈ f_tbl := f_t 508 (by decide +kernel) rfl
set_option maxRecDepth 100000 in
theorem hC_X0_lowest : Cond.code yX0_lowest cX0_lowest 4 (some .long) ∈ f_tbl := f_t 556 rfl rfl
theorem hI_X0_lowest : Cond.instanceMethod yX0_lowest ∈ f_tbl := f_t 554 (by decide +kernel) rfl
theorem hS_X0_lowest : Cond.selects RX0 yX0_lowest yX0_lowest ∈ f_tbl := f_t 555 (by decide +kernel) rfl
set_option maxRecDepth 100000 in
theorem hC_X0_sharedDivisor : Cond.code yX0_sharedDivisor cX0_sharedDivisor 11 (some .long) ∈ f_tbl := f_t 559 rfl rfl
theorem hT_X0_sharedDivisor : Cond.static yX0_sharedDivisor ∈ f_tbl := f_t 558 (by decide +kernel) rfl
set_option maxRecDepth 100000 in
theorem hC_X1_init : Cond.code yX1_init cX1_init 1 none ∈ f_tbl := f_t 237 rfl rfl
theorem hI_X1_init : Cond.instanceMethod yX1_init ∈ f_tbl := f_t 236 (by decide +kernel) rfl
set_option maxRecDepth 100000 in
theorem hC_X1_find : Cond.code yX1_find cX1_find 2 none ∈ f_tbl := f_t 659 rfl rfl
theorem hI_X1_find : Cond.instanceMethod yX1_find ∈ f_tbl := f_t 657 (by decide +kernel) rfl
theorem hS_X1_find : Cond.selects RX1 yX1_find yX1_find ∈ f_tbl := f_t 658 (by decide +kernel) rfl
set_option maxRecDepth 100000 in
theorem hC_X1_extend : Cond.code yX1_extend cX1_extend 8 none ∈ f_tbl := f_t 665 rfl rfl
theorem hI_X1_extend : Cond.instanceMethod yX1_extend ∈ f_tbl := f_t 664 (by decide +kernel) rfl
theorem hS_X1_extend : Cond.selects RX1 yX1_extend yX1_extend ∈ f_tbl := f_p 8 (by decide +kernel) rfl
set_option maxRecDepth 100000 in
theorem hC_X1_note : Cond.code yX1_note cX1_note 4 none ∈ f_tbl := f_t 669 rfl rfl
theorem hI_X1_note : Cond.instanceMethod yX1_note ∈ f_tbl := f_t 668 (by decide +kernel) rfl
theorem hS_X1_note : Cond.selects RX1 yX1_note yX1_note ∈ f_tbl := f_p 9 (by decide +kernel) rfl
set_option maxRecDepth 100000 in
theorem hC_X1_isPreferred : Cond.code yX1_isPreferred cX1_isPreferred 9 (some .boolean) ∈ f_tbl := f_t 672 rfl rfl
theorem hT_X1_isPreferred : Cond.static yX1_isPreferred ∈ f_tbl := f_t 671 (by decide +kernel) rfl
set_option maxRecDepth 100000 in
theorem hC_X2_init : Cond.code yX2_init cX2_init 2 none ∈ f_tbl := f_t 28 rfl rfl
theorem hI_X2_init : Cond.instanceMethod yX2_init ∈ f_tbl := f_t 27 (by decide +kernel) rfl
set_option maxRecDepth 100000 in
theorem hC_X2_copyFrom : Cond.code yX2_copyFrom cX2_copyFrom 2 none ∈ f_tbl := f_t 826 rfl rfl
theorem hI_X2_copyFrom : Cond.instanceMethod yX2_copyFrom ∈ f_tbl := f_t 824 (by decide +kernel) rfl
theorem hS_X2_copyFrom : Cond.selects RX2 yX2_copyFrom yX2_copyFrom ∈ f_tbl := f_t 825 (by decide +kernel) rfl
set_option maxRecDepth 100000 in
theorem hC_X3_init : Cond.code yX3_init cX3_init 1 none ∈ f_tbl := f_t 129 rfl rfl
theorem hI_X3_init : Cond.instanceMethod yX3_init ∈ f_tbl := f_t 128 (by decide +kernel) rfl
set_option maxRecDepth 100000 in
theorem hC_X3_hold : Cond.code yX3_hold cX3_hold 6 none ∈ f_tbl := f_t 410 rfl rfl
theorem hI_X3_hold : Cond.instanceMethod yX3_hold ∈ f_tbl := f_t 408 (by decide +kernel) rfl
theorem hS_X3_hold : Cond.selects RX3 yX3_hold yX3_hold ∈ f_tbl := f_t 409 (by decide +kernel) rfl
set_option maxRecDepth 100000 in
theorem hC_X3_join : Cond.code yX3_join cX3_join 12 (some .boolean) ∈ f_tbl := f_t 533 rfl rfl
theorem hI_X3_join : Cond.instanceMethod yX3_join ∈ f_tbl := f_t 531 (by decide +kernel) rfl
theorem hS_X3_join : Cond.selects RX3 yX3_join yX3_join ∈ f_tbl := f_t 532 (by decide +kernel) rfl
set_option maxRecDepth 100000 in
theorem hC_X3_lastZeros : Cond.code yX3_lastZeros cX3_lastZeros 5 (some .int) ∈ f_tbl := f_t 537 rfl rfl
theorem hT_X3_lastZeros : Cond.static yX3_lastZeros ∈ f_tbl := f_t 536 (by decide +kernel) rfl
set_option maxRecDepth 100000 in
theorem hC_X3_cut : Cond.code yX3_cut cX3_cut 8 (some .long) ∈ f_tbl := f_t 547 rfl rfl
theorem hI_X3_cut : Cond.instanceMethod yX3_cut ∈ f_tbl := f_t 545 (by decide +kernel) rfl
theorem hS_X3_cut : Cond.selects RX3 yX3_cut yX3_cut ∈ f_tbl := f_t 546 (by decide +kernel) rfl
set_option maxRecDepth 100000 in
theorem hC_X4_init : Cond.code yX4_init cX4_init 1 none ∈ f_tbl := f_t 148 rfl rfl
theorem hI_X4_init : Cond.instanceMethod yX4_init ∈ f_tbl := f_t 147 (by decide +kernel) rfl
set_option maxRecDepth 100000 in
theorem hC_X4_turn : Cond.code yX4_turn cX4_turn 3 none ∈ f_tbl := f_t 414 rfl rfl
theorem hI_X4_turn : Cond.instanceMethod yX4_turn ∈ f_tbl := f_t 412 (by decide +kernel) rfl
theorem hS_X4_turn : Cond.selects RX4 yX4_turn yX4_turn ∈ f_tbl := f_t 413 (by decide +kernel) rfl
set_option maxRecDepth 100000 in
theorem hC_X4_of : Cond.code yX4_of cX4_of 13 (some .long) ∈ f_tbl := f_t 418 rfl rfl
theorem hI_X4_of : Cond.instanceMethod yX4_of ∈ f_tbl := f_t 416 (by decide +kernel) rfl
theorem hS_X4_of : Cond.selects RX4 yX4_of yX4_of ∈ f_tbl := f_t 417 (by decide +kernel) rfl
set_option maxRecDepth 100000 in
theorem hC_X4_goesOn : Cond.code yX4_goesOn cX4_goesOn 8 (some .boolean) ∈ f_tbl := f_t 427 rfl rfl
theorem hI_X4_goesOn : Cond.instanceMethod yX4_goesOn ∈ f_tbl := f_t 426 (by decide +kernel) rfl
theorem hS_X4_goesOn : Cond.selects RX4 yX4_goesOn yX4_goesOn ∈ f_tbl := f_p 1 (by decide +kernel) rfl
set_option maxRecDepth 100000 in
theorem hC_X4_placed : Cond.code yX4_placed cX4_placed 12 (some .long) ∈ f_tbl := f_t 432 rfl rfl
theorem hI_X4_placed : Cond.instanceMethod yX4_placed ∈ f_tbl := f_t 431 (by decide +kernel) rfl
theorem hS_X4_placed : Cond.selects RX4 yX4_placed yX4_placed ∈ f_tbl := f_p 2 (by decide +kernel) rfl
set_option maxRecDepth 100000 in
theorem hC_X5_suits : Cond.code yX5_suits cX5_suits 8 (some .boolean) ∈ f_tbl := f_t 746 rfl rfl
theorem hT_X5_suits : Cond.static yX5_suits ∈ f_tbl := f_t 745 (by decide +kernel) rfl
set_option maxRecDepth 100000 in
theorem hC_X5_hasRoomToSpread : Cond.code yX5_hasRoomToSpread cX5_hasRoomToSpread 3 (some .boolean) ∈ f_tbl := f_t 751 rfl rfl
theorem hT_X5_hasRoomToSpread : Cond.static yX5_hasRoomToSpread ∈ f_tbl := f_t 750 (by decide +kernel) rfl
set_option maxRecDepth 100000 in
theorem hC_X5_sharesFactor : Cond.code yX5_sharesFactor cX5_sharesFactor 2 (some .boolean) ∈ f_tbl := f_t 755 rfl rfl
theorem hT_X5_sharesFactor : Cond.static yX5_sharesFactor ∈ f_tbl := f_t 754 (by decide +kernel) rfl
set_option maxRecDepth 100000 in
theorem hC_X5_isOfSquares : Cond.code yX5_isOfSquares cX5_isOfSquares 3 (some .boolean) ∈ f_tbl := f_t 763 rfl rfl
theorem hT_X5_isOfSquares : Cond.static yX5_isOfSquares ∈ f_tbl := f_t 762 (by decide +kernel) rfl
set_option maxRecDepth 100000 in
theorem hC_X5_write : Cond.code yX5_write cX5_write 4 (some .boolean) ∈ f_tbl := f_t 770 rfl rfl
theorem hT_X5_write : Cond.static yX5_write ∈ f_tbl := f_t 769 (by decide +kernel) rfl
set_option maxRecDepth 100000 in
theorem hC_X5_writeShift : Cond.code yX5_writeShift cX5_writeShift 7 none ∈ f_tbl := f_t 787 rfl rfl
theorem hT_X5_writeShift : Cond.static yX5_writeShift ∈ f_tbl := f_t 786 (by decide +kernel) rfl
set_option maxRecDepth 100000 in
theorem hC_X5_writeFactors : Cond.code yX5_writeFactors cX5_writeFactors 6 none ∈ f_tbl := f_t 778 rfl rfl
theorem hT_X5_writeFactors : Cond.static yX5_writeFactors ∈ f_tbl := f_t 777 (by decide +kernel) rfl
set_option maxRecDepth 100000 in
theorem hC_X6_init : Cond.code yX6_init cX6_init 1 none ∈ f_tbl := f_t 325 rfl rfl
theorem hI_X6_init : Cond.instanceMethod yX6_init ∈ f_tbl := f_t 324 (by decide +kernel) rfl
set_option maxRecDepth 100000 in
theorem hC_X6_find : Cond.code yX6_find cX6_find 5 none ∈ f_tbl := f_t 801 rfl rfl
theorem hI_X6_find : Cond.instanceMethod yX6_find ∈ f_tbl := f_t 799 (by decide +kernel) rfl
theorem hS_X6_find : Cond.selects RX6 yX6_find yX6_find ∈ f_tbl := f_t 800 (by decide +kernel) rfl
set_option maxRecDepth 100000 in
theorem hC_X6_changeAgain : Cond.code yX6_changeAgain cX6_changeAgain 3 none ∈ f_tbl := f_t 814 rfl rfl
theorem hI_X6_changeAgain : Cond.instanceMethod yX6_changeAgain ∈ f_tbl := f_t 813 (by decide +kernel) rfl
theorem hS_X6_changeAgain : Cond.selects RX6 yX6_changeAgain yX6_changeAgain ∈ f_tbl := f_p 16 (by decide +kernel) rfl
set_option maxRecDepth 100000 in
theorem hC_X6_consider : Cond.code yX6_consider cX6_consider 5 none ∈ f_tbl := f_t 806 rfl rfl
theorem hI_X6_consider : Cond.instanceMethod yX6_consider ∈ f_tbl := f_t 805 (by decide +kernel) rfl
theorem hS_X6_consider : Cond.selects RX6 yX6_consider yX6_consider ∈ f_tbl := f_p 15 (by decide +kernel) rfl
set_option maxRecDepth 100000 in
theorem hC_X7_init : Cond.code yX7_init cX7_init 1 none ∈ f_tbl := f_t 273 rfl rfl
theorem hI_X7_init : Cond.instanceMethod yX7_init ∈ f_tbl := f_t 272 (by decide +kernel) rfl
set_option maxRecDepth 100000 in
theorem hC_X7_bound : Cond.code yX7_bound cX7_bound 6 none ∈ f_tbl := f_t 688 rfl rfl
theorem hI_X7_bound : Cond.instanceMethod yX7_bound ∈ f_tbl := f_t 686 (by decide +kernel) rfl
theorem hS_X7_bound : Cond.selects RX7 yX7_bound yX7_bound ∈ f_tbl := f_t 687 (by decide +kernel) rfl
set_option maxRecDepth 100000 in
theorem hC_X7_join : Cond.code yX7_join cX7_join 14 none ∈ f_tbl := f_t 697 rfl rfl
theorem hI_X7_join : Cond.instanceMethod yX7_join ∈ f_tbl := f_t 696 (by decide +kernel) rfl
theorem hS_X7_join : Cond.selects RX7 yX7_join yX7_join ∈ f_tbl := f_p 10 (by decide +kernel) rfl
set_option maxRecDepth 100000 in
theorem hC_X7_makeGreat : Cond.code yX7_makeGreat cX7_makeGreat 2 none ∈ f_tbl := f_t 702 rfl rfl
theorem hI_X7_makeGreat : Cond.instanceMethod yX7_makeGreat ∈ f_tbl := f_t 701 (by decide +kernel) rfl
theorem hS_X7_makeGreat : Cond.selects RX7 yX7_makeGreat yX7_makeGreat ∈ f_tbl := f_p 11 (by decide +kernel) rfl
set_option maxRecDepth 100000 in
theorem hC_X7_widen : Cond.code yX7_widen cX7_widen 11 (some .boolean) ∈ f_tbl := f_t 708 rfl rfl
theorem hI_X7_widen : Cond.instanceMethod yX7_widen ∈ f_tbl := f_t 707 (by decide +kernel) rfl
theorem hS_X7_widen : Cond.selects RX7 yX7_widen yX7_widen ∈ f_tbl := f_p 12 (by decide +kernel) rfl
set_option maxRecDepth 100000 in
theorem hC_X7_findTruth : Cond.code yX7_findTruth cX7_findTruth 7 none ∈ f_tbl := f_t 727 rfl rfl
theorem hI_X7_findTruth : Cond.instanceMethod yX7_findTruth ∈ f_tbl := f_t 725 (by decide +kernel) rfl
theorem hS_X7_findTruth : Cond.selects RX7 yX7_findTruth yX7_findTruth ∈ f_tbl := f_t 726 (by decide +kernel) rfl
set_option maxRecDepth 100000 in
theorem hC_X7_startTrials : Cond.code yX7_startTrials cX7_startTrials 5 (some .int) ∈ f_tbl := f_t 731 rfl rfl
theorem hI_X7_startTrials : Cond.instanceMethod yX7_startTrials ∈ f_tbl := f_t 730 (by decide +kernel) rfl
theorem hS_X7_startTrials : Cond.selects RX7 yX7_startTrials yX7_startTrials ∈ f_tbl := f_p 13 (by decide +kernel) rfl
set_option maxRecDepth 100000 in
theorem hC_X7_nextTrial : Cond.code yX7_nextTrial cX7_nextTrial 4 (some .int) ∈ f_tbl := f_t 739 rfl rfl
theorem hI_X7_nextTrial : Cond.instanceMethod yX7_nextTrial ∈ f_tbl := f_t 738 (by decide +kernel) rfl
theorem hS_X7_nextTrial : Cond.selects RX7 yX7_nextTrial yX7_nextTrial ∈ f_tbl := f_p 14 (by decide +kernel) rfl
set_option maxRecDepth 100000 in
theorem hC_X8_init : Cond.code yX8_init cX8_init 1 none ∈ f_tbl := f_t 165 rfl rfl
theorem hI_X8_init : Cond.instanceMethod yX8_init ∈ f_tbl := f_t 164 (by decide +kernel) rfl
set_option maxRecDepth 100000 in
theorem hC_X8_work : Cond.code yX8_work cX8_work 10 none ∈ f_tbl := f_t 520 rfl rfl
theorem hI_X8_work : Cond.instanceMethod yX8_work ∈ f_tbl := f_t 518 (by decide +kernel) rfl
theorem hS_X8_work : Cond.selects RX8 yX8_work yX8_work ∈ f_tbl := f_t 519 (by decide +kernel) rfl
set_option maxRecDepth 100000 in
theorem hC_X8_lossOf : Cond.code yX8_lossOf cX8_lossOf 5 (some .long) ∈ f_tbl := f_t 567 rfl rfl
theorem hI_X8_lossOf : Cond.instanceMethod yX8_lossOf ∈ f_tbl := f_t 565 (by decide +kernel) rfl
theorem hS_X8_lossOf : Cond.selects RX8 yX8_lossOf yX8_lossOf ∈ f_tbl := f_t 566 (by decide +kernel) rfl
set_option maxRecDepth 100000 in
theorem hC_X9_init : Cond.code yX9_init cX9_init 1 none ∈ f_tbl := f_t 209 rfl rfl
theorem hI_X9_init : Cond.instanceMethod yX9_init ∈ f_tbl := f_t 208 (by decide +kernel) rfl
set_option maxRecDepth 100000 in
theorem hC_X9_take : Cond.code yX9_take cX9_take 2 none ∈ f_tbl := f_t 602 rfl rfl
theorem hI_X9_take : Cond.instanceMethod yX9_take ∈ f_tbl := f_t 600 (by decide +kernel) rfl
theorem hS_X9_take : Cond.selects RX9 yX9_take yX9_take ∈ f_tbl := f_t 601 (by decide +kernel) rfl
set_option maxRecDepth 100000 in
theorem hC_X9_plus : Cond.code yX9_plus cX9_plus 5 (some .long) ∈ f_tbl := f_t 618 rfl rfl
theorem hI_X9_plus : Cond.instanceMethod yX9_plus ∈ f_tbl := f_t 616 (by decide +kernel) rfl
theorem hS_X9_plus : Cond.selects RX9 yX9_plus yX9_plus ∈ f_tbl := f_t 617 (by decide +kernel) rfl
set_option maxRecDepth 100000 in
theorem hC_X9_less : Cond.code yX9_less cX9_less 5 (some .long) ∈ f_tbl := f_t 629 rfl rfl
theorem hI_X9_less : Cond.instanceMethod yX9_less ∈ f_tbl := f_t 628 (by decide +kernel) rfl
theorem hS_X9_less : Cond.selects RX9 yX9_less yX9_less ∈ f_tbl := f_p 5 (by decide +kernel) rfl
set_option maxRecDepth 100000 in
theorem hC_X9_whole : Cond.code yX9_whole cX9_whole 4 (some .long) ∈ f_tbl := f_t 651 rfl rfl
theorem hI_X9_whole : Cond.instanceMethod yX9_whole ∈ f_tbl := f_t 649 (by decide +kernel) rfl
theorem hS_X9_whole : Cond.selects RX9 yX9_whole yX9_whole ∈ f_tbl := f_t 650 (by decide +kernel) rfl
set_option maxRecDepth 100000 in
theorem hC_X9_asTold : Cond.code yX9_asTold cX9_asTold 4 (some .long) ∈ f_tbl := f_t 614 rfl rfl
theorem hI_X9_asTold : Cond.instanceMethod yX9_asTold ∈ f_tbl := f_t 612 (by decide +kernel) rfl
theorem hS_X9_asTold : Cond.selects RX9 yX9_asTold yX9_asTold ∈ f_tbl := f_t 613 (by decide +kernel) rfl
set_option maxRecDepth 100000 in
theorem hC_X9_beside : Cond.code yX9_beside cX9_beside 10 (some .long) ∈ f_tbl := f_t 625 rfl rfl
theorem hI_X9_beside : Cond.instanceMethod yX9_beside ∈ f_tbl := f_t 623 (by decide +kernel) rfl
theorem hS_X9_beside : Cond.selects RX9 yX9_beside yX9_beside ∈ f_tbl := f_t 624 (by decide +kernel) rfl
set_option maxRecDepth 100000 in
theorem hC_X9_halves : Cond.code yX9_halves cX9_halves 1 (some .long) ∈ f_tbl := f_t 633 rfl rfl
theorem hI_X9_halves : Cond.instanceMethod yX9_halves ∈ f_tbl := f_t 631 (by decide +kernel) rfl
theorem hS_X9_halves : Cond.selects RX9 yX9_halves yX9_halves ∈ f_tbl := f_t 632 (by decide +kernel) rfl
set_option maxRecDepth 100000 in
theorem hC_X9_halfSum : Cond.code yX9_halfSum cX9_halfSum 6 (some .long) ∈ f_tbl := f_t 637 rfl rfl
theorem hI_X9_halfSum : Cond.instanceMethod yX9_halfSum ∈ f_tbl := f_t 636 (by decide +kernel) rfl
theorem hS_X9_halfSum : Cond.selects RX9 yX9_halfSum yX9_halfSum ∈ f_tbl := f_p 6 (by decide +kernel) rfl
set_option maxRecDepth 100000 in
theorem hC_X9_bySize : Cond.code yX9_bySize cX9_bySize 4 (some .long) ∈ f_tbl := f_t 641 rfl rfl
theorem hI_X9_bySize : Cond.instanceMethod yX9_bySize ∈ f_tbl := f_t 639 (by decide +kernel) rfl
theorem hS_X9_bySize : Cond.selects RX9 yX9_bySize yX9_bySize ∈ f_tbl := f_t 640 (by decide +kernel) rfl
set_option maxRecDepth 100000 in
theorem hC_X9_insertBySize : Cond.code yX9_insertBySize cX9_insertBySize 3 none ∈ f_tbl := f_t 645 rfl rfl
theorem hI_X9_insertBySize : Cond.instanceMethod yX9_insertBySize ∈ f_tbl := f_t 644 (by decide +kernel) rfl
theorem hS_X9_insertBySize : Cond.selects RX9 yX9_insertBySize yX9_insertBySize ∈ f_tbl := f_p 7 (by decide +kernel) rfl
set_option maxRecDepth 100000 in
theorem hC_X10_init : Cond.code yX10_init cX10_init 1 none ∈ f_tbl := f_t 34 rfl rfl
theorem hI_X10_init : Cond.instanceMethod yX10_init ∈ f_tbl := f_t 33 (by decide +kernel) rfl
set_option maxRecDepth 100000 in
theorem hC_X10_copyFrom : Cond.code yX10_copyFrom cX10_copyFrom 2 none ∈ f_tbl := f_t 792 rfl rfl
theorem hI_X10_copyFrom : Cond.instanceMethod yX10_copyFrom ∈ f_tbl := f_t 790 (by decide +kernel) rfl
theorem hS_X10_copyFrom : Cond.selects RX10 yX10_copyFrom yX10_copyFrom ∈ f_tbl := f_t 791 (by decide +kernel) rfl
set_option maxRecDepth 100000 in
theorem hC_X10_read : Cond.code yX10_read cX10_read 4 none ∈ f_tbl := f_t 462 rfl rfl
theorem hI_X10_read : Cond.instanceMethod yX10_read ∈ f_tbl := f_t 460 (by decide +kernel) rfl
theorem hS_X10_read : Cond.selects RX10 yX10_read yX10_read ∈ f_tbl := f_t 461 (by decide +kernel) rfl
set_option maxRecDepth 100000 in
theorem hC_X10_add : Cond.code yX10_add cX10_add 2 none ∈ f_tbl := f_t 466 rfl rfl
theorem hI_X10_add : Cond.instanceMethod yX10_add ∈ f_tbl := f_t 464 (by decide +kernel) rfl
theorem hS_X10_add : Cond.selects RX10 yX10_add yX10_add ∈ f_tbl := f_t 465 (by decide +kernel) rfl
set_option maxRecDepth 100000 in
theorem hC_X10_addPlaces : Cond.code yX10_addPlaces cX10_addPlaces 5 none ∈ f_tbl := f_t 775 rfl rfl
theorem hI_X10_addPlaces : Cond.instanceMethod yX10_addPlaces ∈ f_tbl := f_t 773 (by decide +kernel) rfl
theorem hS_X10_addPlaces : Cond.selects RX10 yX10_addPlaces yX10_addPlaces ∈ f_tbl := f_t 774 (by decide +kernel) rfl
set_option maxRecDepth 100000 in
theorem hC_X10_addPart : Cond.code yX10_addPart cX10_addPart 3 none ∈ f_tbl := f_t 783 rfl rfl
theorem hI_X10_addPart : Cond.instanceMethod yX10_addPart ∈ f_tbl := f_t 781 (by decide +kernel) rfl
theorem hS_X10_addPart : Cond.selects RX10 yX10_addPart yX10_addPart ∈ f_tbl := f_t 782 (by decide +kernel) rfl
set_option maxRecDepth 100000 in
theorem hC_X10_findParts : Cond.code yX10_findParts cX10_findParts 3 none ∈ f_tbl := f_t 39 rfl rfl
theorem hI_X10_findParts : Cond.instanceMethod yX10_findParts ∈ f_tbl := f_t 37 (by decide +kernel) rfl
theorem hS_X10_findParts : Cond.selects RX10 yX10_findParts yX10_findParts ∈ f_tbl := f_t 38 (by decide +kernel) rfl
set_option maxRecDepth 100000 in
theorem hC_X10_has : Cond.code yX10_has cX10_has 2 (some .boolean) ∈ f_tbl := f_t 474 rfl rfl
theorem hI_X10_has : Cond.instanceMethod yX10_has ∈ f_tbl := f_t 472 (by decide +kernel) rfl
theorem hS_X10_has : Cond.selects RX10 yX10_has yX10_has ∈ f_tbl := f_t 473 (by decide +kernel) rfl
set_option maxRecDepth 100000 in
theorem hC_X10_signAt : Cond.code yX10_signAt cX10_signAt 2 (some .int) ∈ f_tbl := f_t 478 rfl rfl
theorem hI_X10_signAt : Cond.instanceMethod yX10_signAt ∈ f_tbl := f_t 476 (by decide +kernel) rfl
theorem hS_X10_signAt : Cond.selects RX10 yX10_signAt yX10_signAt ∈ f_tbl := f_t 477 (by decide +kernel) rfl
set_option maxRecDepth 100000 in
theorem hC_X10_endOf : Cond.code yX10_endOf cX10_endOf 2 (some .int) ∈ f_tbl := f_t 49 rfl rfl
theorem hI_X10_endOf : Cond.instanceMethod yX10_endOf ∈ f_tbl := f_t 47 (by decide +kernel) rfl
theorem hS_X10_endOf : Cond.selects RX10 yX10_endOf yX10_endOf ∈ f_tbl := f_t 48 (by decide +kernel) rfl
set_option maxRecDepth 100000 in
theorem hC_X10_lettersOf : Cond.code yX10_lettersOf cX10_lettersOf 2 (some .int) ∈ f_tbl := f_t 53 rfl rfl
theorem hI_X10_lettersOf : Cond.instanceMethod yX10_lettersOf ∈ f_tbl := f_t 51 (by decide +kernel) rfl
theorem hS_X10_lettersOf : Cond.selects RX10 yX10_lettersOf yX10_lettersOf ∈ f_tbl := f_t 52 (by decide +kernel) rfl
set_option maxRecDepth 100000 in
theorem hC_X10_secondOf : Cond.code yX10_secondOf cX10_secondOf 2 (some .int) ∈ f_tbl := f_t 497 rfl rfl
theorem hI_X10_secondOf : Cond.instanceMethod yX10_secondOf ∈ f_tbl := f_t 495 (by decide +kernel) rfl
theorem hS_X10_secondOf : Cond.selects RX10 yX10_secondOf yX10_secondOf ∈ f_tbl := f_t 496 (by decide +kernel) rfl
set_option maxRecDepth 100000 in
theorem hC_X10_areAlike : Cond.code yX10_areAlike cX10_areAlike 5 (some .boolean) ∈ f_tbl := f_t 759 rfl rfl
theorem hI_X10_areAlike : Cond.instanceMethod yX10_areAlike ∈ f_tbl := f_t 757 (by decide +kernel) rfl
theorem hS_X10_areAlike : Cond.selects RX10 yX10_areAlike yX10_areAlike ∈ f_tbl := f_t 758 (by decide +kernel) rfl
set_option maxRecDepth 100000 in
theorem hC_X11_init : Cond.code yX11_init cX11_init 1 none ∈ f_tbl := f_t 20 rfl rfl
theorem hI_X11_init : Cond.instanceMethod yX11_init ∈ f_tbl := f_t 19 (by decide +kernel) rfl
set_option maxRecDepth 100000 in
theorem hC_X11_set : Cond.code yX11_set cX11_set 4 (some .int) ∈ f_tbl := f_t 395 rfl rfl
theorem hI_X11_set : Cond.instanceMethod yX11_set ∈ f_tbl := f_t 393 (by decide +kernel) rfl
theorem hS_X11_set : Cond.selects RX11 yX11_set yX11_set ∈ f_tbl := f_t 394 (by decide +kernel) rfl
set_option maxRecDepth 100000 in
theorem hC_X11_round : Cond.code yX11_round cX11_round 4 (some .long) ∈ f_tbl := f_t 403 rfl rfl
theorem hI_X11_round : Cond.instanceMethod yX11_round ∈ f_tbl := f_t 401 (by decide +kernel) rfl
theorem hS_X11_round : Cond.selects RX11 yX11_round yX11_round ∈ f_tbl := f_t 402 (by decide +kernel) rfl
set_option maxRecDepth 100000 in
theorem hC_X11_say : Cond.code yX11_say cX11_say 2 (some .int) ∈ f_tbl := f_t 440 rfl rfl
theorem hI_X11_say : Cond.instanceMethod yX11_say ∈ f_tbl := f_t 438 (by decide +kernel) rfl
theorem hS_X11_say : Cond.selects RX11 yX11_say yX11_say ∈ f_tbl := f_t 439 (by decide +kernel) rfl
set_option maxRecDepth 100000 in
theorem hC_X11_wipe : Cond.code yX11_wipe cX11_wipe 2 (some .int) ∈ f_tbl := f_t 444 rfl rfl
theorem hI_X11_wipe : Cond.instanceMethod yX11_wipe ∈ f_tbl := f_t 442 (by decide +kernel) rfl
theorem hS_X11_wipe : Cond.selects RX11 yX11_wipe yX11_wipe ∈ f_tbl := f_t 443 (by decide +kernel) rfl
set_option maxRecDepth 100000 in
theorem hC_X11_fault : Cond.code yX11_fault cX11_fault 3 (some .int) ∈ f_tbl := f_t 448 rfl rfl
theorem hI_X11_fault : Cond.instanceMethod yX11_fault ∈ f_tbl := f_t 446 (by decide +kernel) rfl
theorem hS_X11_fault : Cond.selects RX11 yX11_fault yX11_fault ∈ f_tbl := f_t 447 (by decide +kernel) rfl
set_option maxRecDepth 100000 in
theorem hC_X11_text : Cond.code yX11_text cX11_text 1 (some .int) ∈ f_tbl := f_t 457 rfl rfl
theorem hI_X11_text : Cond.instanceMethod yX11_text ∈ f_tbl := f_t 455 (by decide +kernel) rfl
theorem hS_X11_text : Cond.selects RX11 yX11_text yX11_text ∈ f_tbl := f_t 456 (by decide +kernel) rfl
set_option maxRecDepth 100000 in
theorem hC_X11_sign : Cond.code yX11_sign cX11_sign 2 (some .int) ∈ f_tbl := f_t 470 rfl rfl
theorem hI_X11_sign : Cond.instanceMethod yX11_sign ∈ f_tbl := f_t 468 (by decide +kernel) rfl
theorem hS_X11_sign : Cond.selects RX11 yX11_sign yX11_sign ∈ f_tbl := f_t 469 (by decide +kernel) rfl
set_option maxRecDepth 100000 in
theorem hC_X11_put : Cond.code yX11_put cX11_put 5 (some .int) ∈ f_tbl := f_t 482 rfl rfl
theorem hI_X11_put : Cond.instanceMethod yX11_put ∈ f_tbl := f_t 480 (by decide +kernel) rfl
theorem hS_X11_put : Cond.selects RX11 yX11_put yX11_put ∈ f_tbl := f_t 481 (by decide +kernel) rfl
set_option maxRecDepth 100000 in
theorem hC_X11_worked : Cond.code yX11_worked cX11_worked 3 (some .long) ∈ f_tbl := f_t 486 rfl rfl
theorem hI_X11_worked : Cond.instanceMethod yX11_worked ∈ f_tbl := f_t 484 (by decide +kernel) rfl
theorem hS_X11_worked : Cond.selects RX11 yX11_worked yX11_worked ∈ f_tbl := f_t 485 (by decide +kernel) rfl
set_option maxRecDepth 100000 in
theorem hC_X11_exact : Cond.code yX11_exact cX11_exact 2 (some .long) ∈ f_tbl := f_t 552 rfl rfl
theorem hI_X11_exact : Cond.instanceMethod yX11_exact ∈ f_tbl := f_t 550 (by decide +kernel) rfl
theorem hS_X11_exact : Cond.selects RX11 yX11_exact yX11_exact ∈ f_tbl := f_t 551 (by decide +kernel) rfl
set_option maxRecDepth 100000 in
theorem hC_X11_loss : Cond.code yX11_loss cX11_loss 1 (some .long) ∈ f_tbl := f_t 563 rfl rfl
theorem hI_X11_loss : Cond.instanceMethod yX11_loss ∈ f_tbl := f_t 561 (by decide +kernel) rfl
theorem hS_X11_loss : Cond.selects RX11 yX11_loss yX11_loss ∈ f_tbl := f_t 562 (by decide +kernel) rfl
set_option maxRecDepth 100000 in
theorem hC_X11_worst : Cond.code yX11_worst cX11_worst 7 (some .int) ∈ f_tbl := f_t 574 rfl rfl
theorem hI_X11_worst : Cond.instanceMethod yX11_worst ∈ f_tbl := f_t 572 (by decide +kernel) rfl
theorem hS_X11_worst : Cond.selects RX11 yX11_worst yX11_worst ∈ f_tbl := f_t 573 (by decide +kernel) rfl
set_option maxRecDepth 100000 in
theorem hC_X11_needs : Cond.code yX11_needs cX11_needs 6 (some .int) ∈ f_tbl := f_t 579 rfl rfl
theorem hI_X11_needs : Cond.instanceMethod yX11_needs ∈ f_tbl := f_t 577 (by decide +kernel) rfl
theorem hS_X11_needs : Cond.selects RX11 yX11_needs yX11_needs ∈ f_tbl := f_t 578 (by decide +kernel) rfl
set_option maxRecDepth 100000 in
theorem hC_X11_term : Cond.code yX11_term cX11_term 5 (some .int) ∈ f_tbl := f_t 583 rfl rfl
theorem hI_X11_term : Cond.instanceMethod yX11_term ∈ f_tbl := f_t 581 (by decide +kernel) rfl
theorem hS_X11_term : Cond.selects RX11 yX11_term yX11_term ∈ f_tbl := f_t 582 (by decide +kernel) rfl
set_option maxRecDepth 100000 in
theorem hC_X11_clear : Cond.code yX11_clear cX11_clear 2 (some .int) ∈ f_tbl := f_t 589 rfl rfl
theorem hI_X11_clear : Cond.instanceMethod yX11_clear ∈ f_tbl := f_t 587 (by decide +kernel) rfl
theorem hS_X11_clear : Cond.selects RX11 yX11_clear yX11_clear ∈ f_tbl := f_t 588 (by decide +kernel) rfl
set_option maxRecDepth 100000 in
theorem hC_X11_about : Cond.code yX11_about cX11_about 2 (some .long) ∈ f_tbl := f_t 593 rfl rfl
theorem hI_X11_about : Cond.instanceMethod yX11_about ∈ f_tbl := f_t 591 (by decide +kernel) rfl
theorem hS_X11_about : Cond.selects RX11 yX11_about yX11_about ∈ f_tbl := f_t 592 (by decide +kernel) rfl
set_option maxRecDepth 100000 in
theorem hC_X11_sum : Cond.code yX11_sum cX11_sum 2 (some .long) ∈ f_tbl := f_t 597 rfl rfl
theorem hI_X11_sum : Cond.instanceMethod yX11_sum ∈ f_tbl := f_t 595 (by decide +kernel) rfl
theorem hS_X11_sum : Cond.selects RX11 yX11_sum yX11_sum ∈ f_tbl := f_t 596 (by decide +kernel) rfl
set_option maxRecDepth 100000 in
theorem hC_X11_orders : Cond.code yX11_orders cX11_orders 2 (some .long) ∈ f_tbl := f_t 655 rfl rfl
theorem hI_X11_orders : Cond.instanceMethod yX11_orders ∈ f_tbl := f_t 653 (by decide +kernel) rfl
theorem hS_X11_orders : Cond.selects RX11 yX11_orders yX11_orders ∈ f_tbl := f_t 654 (by decide +kernel) rfl
set_option maxRecDepth 100000 in
theorem hC_X11_order : Cond.code yX11_order cX11_order 3 (some .int) ∈ f_tbl := f_t 680 rfl rfl
theorem hI_X11_order : Cond.instanceMethod yX11_order ∈ f_tbl := f_t 678 (by decide +kernel) rfl
theorem hS_X11_order : Cond.selects RX11 yX11_order yX11_order ∈ f_tbl := f_t 679 (by decide +kernel) rfl
set_option maxRecDepth 100000 in
theorem hC_X11_bounds : Cond.code yX11_bounds cX11_bounds 2 (some .long) ∈ f_tbl := f_t 684 rfl rfl
theorem hI_X11_bounds : Cond.instanceMethod yX11_bounds ∈ f_tbl := f_t 682 (by decide +kernel) rfl
theorem hS_X11_bounds : Cond.selects RX11 yX11_bounds yX11_bounds ∈ f_tbl := f_t 683 (by decide +kernel) rfl
set_option maxRecDepth 100000 in
theorem hC_X11_truth : Cond.code yX11_truth cX11_truth 2 (some .long) ∈ f_tbl := f_t 723 rfl rfl
theorem hI_X11_truth : Cond.instanceMethod yX11_truth ∈ f_tbl := f_t 721 (by decide +kernel) rfl
theorem hS_X11_truth : Cond.selects RX11 yX11_truth yX11_truth ∈ f_tbl := f_t 722 (by decide +kernel) rfl
set_option maxRecDepth 100000 in
theorem hC_X11_fits : Cond.code yX11_fits cX11_fits 3 (some .int) ∈ f_tbl := f_t 743 rfl rfl
theorem hI_X11_fits : Cond.instanceMethod yX11_fits ∈ f_tbl := f_t 741 (by decide +kernel) rfl
theorem hS_X11_fits : Cond.selects RX11 yX11_fits yX11_fits ∈ f_tbl := f_t 742 (by decide +kernel) rfl
set_option maxRecDepth 100000 in
theorem hC_X11_change : Cond.code yX11_change cX11_change 3 (some .int) ∈ f_tbl := f_t 767 rfl rfl
theorem hI_X11_change : Cond.instanceMethod yX11_change ∈ f_tbl := f_t 765 (by decide +kernel) rfl
theorem hS_X11_change : Cond.selects RX11 yX11_change yX11_change ∈ f_tbl := f_t 766 (by decide +kernel) rfl
set_option maxRecDepth 100000 in
theorem hC_X11_better : Cond.code yX11_better cX11_better 2 (some .long) ∈ f_tbl := f_t 797 rfl rfl
theorem hI_X11_better : Cond.instanceMethod yX11_better ∈ f_tbl := f_t 795 (by decide +kernel) rfl
theorem hS_X11_better : Cond.selects RX11 yX11_better yX11_better ∈ f_tbl := f_t 796 (by decide +kernel) rfl
set_option maxRecDepth 100000 in
theorem hC_X11_betterSign : Cond.code yX11_betterSign cX11_betterSign 3 (some .int) ∈ f_tbl := f_t 818 rfl rfl
theorem hI_X11_betterSign : Cond.instanceMethod yX11_betterSign ∈ f_tbl := f_t 816 (by decide +kernel) rfl
theorem hS_X11_betterSign : Cond.selects RX11 yX11_betterSign yX11_betterSign ∈ f_tbl := f_t 817 (by decide +kernel) rfl
set_option maxRecDepth 100000 in
theorem hC_X11_image : Cond.code yX11_image cX11_image 3 (some .int) ∈ f_tbl := f_t 822 rfl rfl
theorem hI_X11_image : Cond.instanceMethod yX11_image ∈ f_tbl := f_t 820 (by decide +kernel) rfl
theorem hS_X11_image : Cond.selects RX11 yX11_image yX11_image ∈ f_tbl := f_t 821 (by decide +kernel) rfl
set_option maxRecDepth 100000 in
theorem hC_X11_restore : Cond.code yX11_restore cX11_restore 3 (some .int) ∈ f_tbl := f_t 832 rfl rfl
theorem hI_X11_restore : Cond.instanceMethod yX11_restore ∈ f_tbl := f_t 830 (by decide +kernel) rfl
theorem hS_X11_restore : Cond.selects RX11 yX11_restore yX11_restore ∈ f_tbl := f_t 831 (by decide +kernel) rfl
set_option maxRecDepth 100000 in
theorem hC_X11_told : Cond.code yX11_told cX11_told 2 (some .int) ∈ f_tbl := f_t 836 rfl rfl
theorem hI_X11_told : Cond.instanceMethod yX11_told ∈ f_tbl := f_t 834 (by decide +kernel) rfl
theorem hS_X11_told : Cond.selects RX11 yX11_told yX11_told ∈ f_tbl := f_t 835 (by decide +kernel) rfl
set_option maxRecDepth 100000 in
theorem hC_X11_workNow : Cond.code yX11_workNow cX11_workNow 1 none ∈ f_tbl := f_t 516 rfl rfl
theorem hI_X11_workNow : Cond.instanceMethod yX11_workNow ∈ f_tbl := f_t 515 (by decide +kernel) rfl
theorem hS_X11_workNow : Cond.selects RX11 yX11_workNow yX11_workNow ∈ f_tbl := f_p 4 (by decide +kernel) rfl
set_option maxRecDepth 100000 in
theorem hC_X11_forgetFindings : Cond.code yX11_forgetFindings cX11_forgetFindings 1 none ∈ f_tbl := f_t 399 rfl rfl
theorem hI_X11_forgetFindings : Cond.instanceMethod yX11_forgetFindings ∈ f_tbl := f_t 398 (by decide +kernel) rfl
theorem hS_X11_forgetFindings : Cond.selects RX11 yX11_forgetFindings yX11_forgetFindings ∈ f_tbl := f_p 0 (by decide +kernel) rfl
set_option maxRecDepth 100000 in
theorem hC_X11_isOperator : Cond.code yX11_isOperator cX11_isOperator 1 (some .boolean) ∈ f_tbl := f_t 45 rfl rfl
theorem hT_X11_isOperator : Cond.static yX11_isOperator ∈ f_tbl := f_t 44 (by decide +kernel) rfl
set_option maxRecDepth 100000 in
theorem hC_X11_isLetter : Cond.code yX11_isLetter cX11_isLetter 1 (some .boolean) ∈ f_tbl := f_t 56 rfl rfl
theorem hT_X11_isLetter : Cond.static yX11_isLetter ∈ f_tbl := f_t 55 (by decide +kernel) rfl
set_option maxRecDepth 100000 in
theorem hC_X11_isDigit : Cond.code yX11_isDigit cX11_isDigit 1 (some .boolean) ∈ f_tbl := f_t 453 rfl rfl
theorem hT_X11_isDigit : Cond.static yX11_isDigit ∈ f_tbl := f_t 452 (by decide +kernel) rfl
set_option maxRecDepth 100000 in
theorem hC_X11_numberOf : Cond.code yX11_numberOf cX11_numberOf 3 (some .int) ∈ f_tbl := f_t 505 rfl rfl
theorem hT_X11_numberOf : Cond.static yX11_numberOf ∈ f_tbl := f_t 504 (by decide +kernel) rfl
set_option maxRecDepth 100000 in
theorem hC_X11_at : Cond.code yX11_at cX11_at 2 (some .long) ∈ f_tbl := f_t 526 rfl rfl
theorem hT_X11_at : Cond.static yX11_at ∈ f_tbl := f_t 525 (by decide +kernel) rfl
set_option maxRecDepth 100000 in
theorem hC_X12_init : Cond.code yX12_init cX12_init 2 none ∈ f_tbl := f_t 841 rfl rfl
theorem hI_X12_init : Cond.instanceMethod yX12_init ∈ f_tbl := f_t 840 (by decide +kernel) rfl
set_option maxRecDepth 100000 in
theorem hC_X12_in : Cond.code yX12_in cX12_in 6 (some .boolean) ∈ f_tbl := f_t 974 rfl rfl
theorem hT_X12_in : Cond.static yX12_in ∈ f_tbl := f_t 973 (by decide +kernel) rfl
set_option maxRecDepth 100000 in
theorem hC_X12_isEnd : Cond.code yX12_isEnd cX12_isEnd 1 (some .boolean) ∈ f_tbl := f_t 971 rfl rfl
theorem hT_X12_isEnd : Cond.static yX12_isEnd ∈ f_tbl := f_t 970 (by decide +kernel) rfl
set_option maxRecDepth 100000 in
theorem hC_X12_size : Cond.code yX12_size cX12_size 2 (some .long) ∈ f_tbl := f_t 988 rfl rfl
theorem hT_X12_size : Cond.static yX12_size ∈ f_tbl := f_t 987 (by decide +kernel) rfl
set_option maxRecDepth 100000 in
theorem hC_X12_power : Cond.code yX12_power cX12_power 4 (some .long) ∈ f_tbl := f_t 997 rfl rfl
theorem hT_X12_power : Cond.static yX12_power ∈ f_tbl := f_t 996 (by decide +kernel) rfl
set_option maxRecDepth 100000 in
theorem hC_X12_rounded : Cond.code yX12_rounded cX12_rounded 21 (some .long) ∈ f_tbl := f_t 992 rfl rfl
theorem hI_X12_rounded : Cond.instanceMethod yX12_rounded ∈ f_tbl := f_t 991 (by decide +kernel) rfl
theorem hS_X12_rounded : Cond.selects RX12 yX12_rounded yX12_rounded ∈ f_tbl := f_p 17 (by decide +kernel) rfl
set_option maxRecDepth 100000 in
theorem hC_X12_roundOf : Cond.code yX12_roundOf cX12_roundOf 5 (some .long) ∈ f_tbl := f_t 1091 rfl rfl
theorem hI_X12_roundOf : Cond.instanceMethod yX12_roundOf ∈ f_tbl := f_t 1090 (by decide +kernel) rfl
theorem hS_X12_roundOf : Cond.selects RX12 yX12_roundOf yX12_roundOf ∈ f_tbl := f_p 27 (by decide +kernel) rfl
set_option maxRecDepth 100000 in
theorem hC_X12_shorten : Cond.code yX12_shorten cX12_shorten 3 none ∈ f_tbl := f_t 1099 rfl rfl
theorem hI_X12_shorten : Cond.instanceMethod yX12_shorten ∈ f_tbl := f_t 1098 (by decide +kernel) rfl
theorem hS_X12_shorten : Cond.selects RX12 yX12_shorten yX12_shorten ∈ f_tbl := f_p 29 (by decide +kernel) rfl
set_option maxRecDepth 100000 in
theorem hC_X12_layBoth : Cond.code yX12_layBoth cX12_layBoth 9 none ∈ f_tbl := f_t 1095 rfl rfl
theorem hI_X12_layBoth : Cond.instanceMethod yX12_layBoth ∈ f_tbl := f_t 1094 (by decide +kernel) rfl
theorem hS_X12_layBoth : Cond.selects RX12 yX12_layBoth yX12_layBoth ∈ f_tbl := f_p 28 (by decide +kernel) rfl
set_option maxRecDepth 100000 in
theorem hC_X12_made : Cond.code yX12_made cX12_made 8 (some .long) ∈ f_tbl := f_t 1087 rfl rfl
theorem hI_X12_made : Cond.instanceMethod yX12_made ∈ f_tbl := f_t 1086 (by decide +kernel) rfl
theorem hS_X12_made : Cond.selects RX12 yX12_made yX12_made ∈ f_tbl := f_p 26 (by decide +kernel) rfl
set_option maxRecDepth 100000 in
theorem hC_X12_whole : Cond.code yX12_whole cX12_whole 12 (some .long) ∈ f_tbl := f_t 1103 rfl rfl
theorem hI_X12_whole : Cond.instanceMethod yX12_whole ∈ f_tbl := f_t 1102 (by decide +kernel) rfl
theorem hS_X12_whole : Cond.selects RX12 yX12_whole yX12_whole ∈ f_tbl := f_p 30 (by decide +kernel) rfl
set_option maxRecDepth 100000 in
theorem hC_X12_set : Cond.code yX12_set cX12_set 4 (some .int) ∈ f_tbl := f_t 968 rfl rfl
theorem hI_X12_set : Cond.instanceMethod yX12_set ∈ f_tbl := f_t 966 (by decide +kernel) rfl
theorem hS_X12_set : Cond.selects RX12 yX12_set yX12_set ∈ f_tbl := f_t 967 (by decide +kernel) rfl
set_option maxRecDepth 100000 in
theorem hC_X12_round : Cond.code yX12_round cX12_round 4 (some .long) ∈ f_tbl := f_t 980 rfl rfl
theorem hI_X12_round : Cond.instanceMethod yX12_round ∈ f_tbl := f_t 978 (by decide +kernel) rfl
theorem hS_X12_round : Cond.selects RX12 yX12_round yX12_round ∈ f_tbl := f_t 979 (by decide +kernel) rfl
set_option maxRecDepth 100000 in
theorem hC_X12_say : Cond.code yX12_say cX12_say 2 (some .int) ∈ f_tbl := f_t 1003 rfl rfl
theorem hI_X12_say : Cond.instanceMethod yX12_say ∈ f_tbl := f_t 1001 (by decide +kernel) rfl
theorem hS_X12_say : Cond.selects RX12 yX12_say yX12_say ∈ f_tbl := f_t 1002 (by decide +kernel) rfl
set_option maxRecDepth 100000 in
theorem hC_X12_wipe : Cond.code yX12_wipe cX12_wipe 2 (some .int) ∈ f_tbl := f_t 1009 rfl rfl
theorem hI_X12_wipe : Cond.instanceMethod yX12_wipe ∈ f_tbl := f_t 1007 (by decide +kernel) rfl
theorem hS_X12_wipe : Cond.selects RX12 yX12_wipe yX12_wipe ∈ f_tbl := f_t 1008 (by decide +kernel) rfl
set_option maxRecDepth 100000 in
theorem hC_X12_isSign : Cond.code yX12_isSign cX12_isSign 1 (some .boolean) ∈ f_tbl := f_t 1016 rfl rfl
theorem hT_X12_isSign : Cond.static yX12_isSign ∈ f_tbl := f_t 1015 (by decide +kernel) rfl
set_option maxRecDepth 100000 in
theorem hC_X12_isLetter : Cond.code yX12_isLetter cX12_isLetter 1 (some .boolean) ∈ f_tbl := f_t 1019 rfl rfl
theorem hT_X12_isLetter : Cond.static yX12_isLetter ∈ f_tbl := f_t 1018 (by decide +kernel) rfl
set_option maxRecDepth 100000 in
theorem hC_X12_isDigit : Cond.code yX12_isDigit cX12_isDigit 1 (some .boolean) ∈ f_tbl := f_t 1024 rfl rfl
theorem hT_X12_isDigit : Cond.static yX12_isDigit ∈ f_tbl := f_t 1023 (by decide +kernel) rfl
set_option maxRecDepth 100000 in
theorem hC_X12_fault : Cond.code yX12_fault cX12_fault 4 (some .int) ∈ f_tbl := f_t 1013 rfl rfl
theorem hI_X12_fault : Cond.instanceMethod yX12_fault ∈ f_tbl := f_t 1011 (by decide +kernel) rfl
theorem hS_X12_fault : Cond.selects RX12 yX12_fault yX12_fault ∈ f_tbl := f_t 1012 (by decide +kernel) rfl
set_option maxRecDepth 100000 in
theorem hC_X12_text : Cond.code yX12_text cX12_text 2 (some .int) ∈ f_tbl := f_t 1030 rfl rfl
theorem hI_X12_text : Cond.instanceMethod yX12_text ∈ f_tbl := f_t 1028 (by decide +kernel) rfl
theorem hS_X12_text : Cond.selects RX12 yX12_text yX12_text ∈ f_tbl := f_t 1029 (by decide +kernel) rfl
set_option maxRecDepth 100000 in
theorem hC_X12_isStep : Cond.code yX12_isStep cX12_isStep 2 (some .boolean) ∈ f_tbl := f_t 1039 rfl rfl
theorem hI_X12_isStep : Cond.instanceMethod yX12_isStep ∈ f_tbl := f_t 1038 (by decide +kernel) rfl
theorem hS_X12_isStep : Cond.selects RX12 yX12_isStep yX12_isStep ∈ f_tbl := f_p 18 (by decide +kernel) rfl
set_option maxRecDepth 100000 in
theorem hC_X12_sign : Cond.code yX12_sign cX12_sign 2 (some .int) ∈ f_tbl := f_t 1035 rfl rfl
theorem hI_X12_sign : Cond.instanceMethod yX12_sign ∈ f_tbl := f_t 1033 (by decide +kernel) rfl
theorem hS_X12_sign : Cond.selects RX12 yX12_sign yX12_sign ∈ f_tbl := f_t 1034 (by decide +kernel) rfl
set_option maxRecDepth 100000 in
theorem hC_X12_put : Cond.code yX12_put cX12_put 5 (some .int) ∈ f_tbl := f_t 1043 rfl rfl
theorem hI_X12_put : Cond.instanceMethod yX12_put ∈ f_tbl := f_t 1041 (by decide +kernel) rfl
theorem hS_X12_put : Cond.selects RX12 yX12_put yX12_put ∈ f_tbl := f_t 1042 (by decide +kernel) rfl
set_option maxRecDepth 100000 in
theorem hC_X12_layText : Cond.code yX12_layText cX12_layText 2 none ∈ f_tbl := f_t 1055 rfl rfl
theorem hI_X12_layText : Cond.instanceMethod yX12_layText ∈ f_tbl := f_t 1054 (by decide +kernel) rfl
theorem hS_X12_layText : Cond.selects RX12 yX12_layText yX12_layText ∈ f_tbl := f_p 19 (by decide +kernel) rfl
set_option maxRecDepth 100000 in
theorem hC_X12_findSizes : Cond.code yX12_findSizes cX12_findSizes 3 none ∈ f_tbl := f_t 1063 rfl rfl
theorem hI_X12_findSizes : Cond.instanceMethod yX12_findSizes ∈ f_tbl := f_t 1062 (by decide +kernel) rfl
theorem hS_X12_findSizes : Cond.selects RX12 yX12_findSizes yX12_findSizes ∈ f_tbl := f_p 21 (by decide +kernel) rfl
set_option maxRecDepth 100000 in
theorem hC_X12_wholeAt : Cond.code yX12_wholeAt cX12_wholeAt 2 (some .int) ∈ f_tbl := f_t 1067 rfl rfl
theorem hI_X12_wholeAt : Cond.instanceMethod yX12_wholeAt ∈ f_tbl := f_t 1066 (by decide +kernel) rfl
theorem hS_X12_wholeAt : Cond.selects RX12 yX12_wholeAt yX12_wholeAt ∈ f_tbl := f_p 22 (by decide +kernel) rfl
set_option maxRecDepth 100000 in
theorem hC_X12_work : Cond.code yX12_work cX12_work 6 none ∈ f_tbl := f_t 1083 rfl rfl
theorem hI_X12_work : Cond.instanceMethod yX12_work ∈ f_tbl := f_t 1082 (by decide +kernel) rfl
theorem hS_X12_work : Cond.selects RX12 yX12_work yX12_work ∈ f_tbl := f_p 25 (by decide +kernel) rfl
set_option maxRecDepth 100000 in
theorem hC_X12_common : Cond.code yX12_common cX12_common 10 (some .long) ∈ f_tbl := f_t 1074 rfl rfl
theorem hT_X12_common : Cond.static yX12_common ∈ f_tbl := f_t 1073 (by decide +kernel) rfl
set_option maxRecDepth 100000 in
theorem hC_X12_layExact : Cond.code yX12_layExact cX12_layExact 8 none ∈ f_tbl := f_t 1071 rfl rfl
theorem hI_X12_layExact : Cond.instanceMethod yX12_layExact ∈ f_tbl := f_t 1070 (by decide +kernel) rfl
theorem hS_X12_layExact : Cond.selects RX12 yX12_layExact yX12_layExact ∈ f_tbl := f_p 23 (by decide +kernel) rfl
set_option maxRecDepth 100000 in
theorem hC_X12_workExact : Cond.code yX12_workExact cX12_workExact 12 none ∈ f_tbl := f_t 1059 rfl rfl
theorem hI_X12_workExact : Cond.instanceMethod yX12_workExact ∈ f_tbl := f_t 1058 (by decide +kernel) rfl
theorem hS_X12_workExact : Cond.selects RX12 yX12_workExact yX12_workExact ∈ f_tbl := f_p 20 (by decide +kernel) rfl
set_option maxRecDepth 100000 in
theorem hC_X12_billionths : Cond.code yX12_billionths cX12_billionths 13 (some .long) ∈ f_tbl := f_t 1078 rfl rfl
theorem hI_X12_billionths : Cond.instanceMethod yX12_billionths ∈ f_tbl := f_t 1077 (by decide +kernel) rfl
theorem hS_X12_billionths : Cond.selects RX12 yX12_billionths yX12_billionths ∈ f_tbl := f_p 24 (by decide +kernel) rfl
set_option maxRecDepth 100000 in
theorem hC_X12_less : Cond.code yX12_less cX12_less 4 (some .long) ∈ f_tbl := f_t 1119 rfl rfl
theorem hT_X12_less : Cond.static yX12_less ∈ f_tbl := f_t 1118 (by decide +kernel) rfl
set_option maxRecDepth 100000 in
theorem hC_X12_worked : Cond.code yX12_worked cX12_worked 3 (some .long) ∈ f_tbl := f_t 1050 rfl rfl
theorem hI_X12_worked : Cond.instanceMethod yX12_worked ∈ f_tbl := f_t 1048 (by decide +kernel) rfl
theorem hS_X12_worked : Cond.selects RX12 yX12_worked yX12_worked ∈ f_tbl := f_t 1049 (by decide +kernel) rfl
set_option maxRecDepth 100000 in
theorem hC_X12_exact : Cond.code yX12_exact cX12_exact 2 (some .long) ∈ f_tbl := f_t 1108 rfl rfl
theorem hI_X12_exact : Cond.instanceMethod yX12_exact ∈ f_tbl := f_t 1106 (by decide +kernel) rfl
theorem hS_X12_exact : Cond.selects RX12 yX12_exact yX12_exact ∈ f_tbl := f_t 1107 (by decide +kernel) rfl
set_option maxRecDepth 100000 in
theorem hC_X12_lossNow : Cond.code yX12_lossNow cX12_lossNow 3 (some .long) ∈ f_tbl := f_t 1116 rfl rfl
theorem hI_X12_lossNow : Cond.instanceMethod yX12_lossNow ∈ f_tbl := f_t 1115 (by decide +kernel) rfl
theorem hS_X12_lossNow : Cond.selects RX12 yX12_lossNow yX12_lossNow ∈ f_tbl := f_p 31 (by decide +kernel) rfl
set_option maxRecDepth 100000 in
theorem hC_X12_loss : Cond.code yX12_loss cX12_loss 1 (some .long) ∈ f_tbl := f_t 1112 rfl rfl
theorem hI_X12_loss : Cond.instanceMethod yX12_loss ∈ f_tbl := f_t 1110 (by decide +kernel) rfl
theorem hS_X12_loss : Cond.selects RX12 yX12_loss yX12_loss ∈ f_tbl := f_t 1111 (by decide +kernel) rfl
set_option maxRecDepth 100000 in
theorem hC_X12_worst : Cond.code yX12_worst cX12_worst 5 (some .int) ∈ f_tbl := f_t 1123 rfl rfl
theorem hI_X12_worst : Cond.instanceMethod yX12_worst ∈ f_tbl := f_t 1121 (by decide +kernel) rfl
theorem hS_X12_worst : Cond.selects RX12 yX12_worst yX12_worst ∈ f_tbl := f_t 1122 (by decide +kernel) rfl
set_option maxRecDepth 100000 in
theorem hC_X12_needs : Cond.code yX12_needs cX12_needs 8 (some .int) ∈ f_tbl := f_t 1127 rfl rfl
theorem hI_X12_needs : Cond.instanceMethod yX12_needs ∈ f_tbl := f_t 1125 (by decide +kernel) rfl
theorem hS_X12_needs : Cond.selects RX12 yX12_needs yX12_needs ∈ f_tbl := f_t 1126 (by decide +kernel) rfl
set_option maxRecDepth 100000 in
theorem hC_X12_term : Cond.code yX12_term cX12_term 5 (some .int) ∈ f_tbl := f_t 1131 rfl rfl
theorem hI_X12_term : Cond.instanceMethod yX12_term ∈ f_tbl := f_t 1129 (by decide +kernel) rfl
theorem hS_X12_term : Cond.selects RX12 yX12_term yX12_term ∈ f_tbl := f_t 1130 (by decide +kernel) rfl
set_option maxRecDepth 100000 in
theorem hC_X12_clear : Cond.code yX12_clear cX12_clear 2 (some .int) ∈ f_tbl := f_t 1137 rfl rfl
theorem hI_X12_clear : Cond.instanceMethod yX12_clear ∈ f_tbl := f_t 1135 (by decide +kernel) rfl
theorem hS_X12_clear : Cond.selects RX12 yX12_clear yX12_clear ∈ f_tbl := f_t 1136 (by decide +kernel) rfl
set_option maxRecDepth 100000 in
theorem hC_X12_about : Cond.code yX12_about cX12_about 2 (some .long) ∈ f_tbl := f_t 1141 rfl rfl
theorem hI_X12_about : Cond.instanceMethod yX12_about ∈ f_tbl := f_t 1139 (by decide +kernel) rfl
theorem hS_X12_about : Cond.selects RX12 yX12_about yX12_about ∈ f_tbl := f_t 1140 (by decide +kernel) rfl
set_option maxRecDepth 100000 in
theorem hC_X12_layOrder : Cond.code yX12_layOrder cX12_layOrder 2 none ∈ f_tbl := f_t 1150 rfl rfl
theorem hI_X12_layOrder : Cond.instanceMethod yX12_layOrder ∈ f_tbl := f_t 1149 (by decide +kernel) rfl
theorem hS_X12_layOrder : Cond.selects RX12 yX12_layOrder yX12_layOrder ∈ f_tbl := f_p 32 (by decide +kernel) rfl
set_option maxRecDepth 100000 in
theorem hC_X12_sumOf : Cond.code yX12_sumOf cX12_sumOf 6 (some .long) ∈ f_tbl := f_t 1166 rfl rfl
theorem hI_X12_sumOf : Cond.instanceMethod yX12_sumOf ∈ f_tbl := f_t 1165 (by decide +kernel) rfl
theorem hS_X12_sumOf : Cond.selects RX12 yX12_sumOf yX12_sumOf ∈ f_tbl := f_p 36 (by decide +kernel) rfl
set_option maxRecDepth 100000 in
theorem hC_X12_wholeSum : Cond.code yX12_wholeSum cX12_wholeSum 4 (some .long) ∈ f_tbl := f_t 1174 rfl rfl
theorem hI_X12_wholeSum : Cond.instanceMethod yX12_wholeSum ∈ f_tbl := f_t 1173 (by decide +kernel) rfl
theorem hS_X12_wholeSum : Cond.selects RX12 yX12_wholeSum yX12_wholeSum ∈ f_tbl := f_p 38 (by decide +kernel) rfl
set_option maxRecDepth 100000 in
theorem hC_X12_beside : Cond.code yX12_beside cX12_beside 10 (some .long) ∈ f_tbl := f_t 1154 rfl rfl
theorem hI_X12_beside : Cond.instanceMethod yX12_beside ∈ f_tbl := f_t 1153 (by decide +kernel) rfl
theorem hS_X12_beside : Cond.selects RX12 yX12_beside yX12_beside ∈ f_tbl := f_p 33 (by decide +kernel) rfl
set_option maxRecDepth 100000 in
theorem hC_X12_halfOf : Cond.code yX12_halfOf cX12_halfOf 3 (some .long) ∈ f_tbl := f_t 1162 rfl rfl
theorem hI_X12_halfOf : Cond.instanceMethod yX12_halfOf ∈ f_tbl := f_t 1161 (by decide +kernel) rfl
theorem hS_X12_halfOf : Cond.selects RX12 yX12_halfOf yX12_halfOf ∈ f_tbl := f_p 35 (by decide +kernel) rfl
set_option maxRecDepth 100000 in
theorem hC_X12_halves : Cond.code yX12_halves cX12_halves 4 (some .long) ∈ f_tbl := f_t 1158 rfl rfl
theorem hI_X12_halves : Cond.instanceMethod yX12_halves ∈ f_tbl := f_t 1157 (by decide +kernel) rfl
theorem hS_X12_halves : Cond.selects RX12 yX12_halves yX12_halves ∈ f_tbl := f_p 34 (by decide +kernel) rfl
set_option maxRecDepth 100000 in
theorem hC_X12_orderBySize : Cond.code yX12_orderBySize cX12_orderBySize 4 none ∈ f_tbl := f_t 1170 rfl rfl
theorem hI_X12_orderBySize : Cond.instanceMethod yX12_orderBySize ∈ f_tbl := f_t 1169 (by decide +kernel) rfl
theorem hS_X12_orderBySize : Cond.selects RX12 yX12_orderBySize yX12_orderBySize ∈ f_tbl := f_p 37 (by decide +kernel) rfl
set_option maxRecDepth 100000 in
theorem hC_X12_sum : Cond.code yX12_sum cX12_sum 2 (some .long) ∈ f_tbl := f_t 1145 rfl rfl
theorem hI_X12_sum : Cond.instanceMethod yX12_sum ∈ f_tbl := f_t 1143 (by decide +kernel) rfl
theorem hS_X12_sum : Cond.selects RX12 yX12_sum yX12_sum ∈ f_tbl := f_t 1144 (by decide +kernel) rfl
set_option maxRecDepth 100000 in
theorem hC_X12_nextOrder : Cond.code yX12_nextOrder cX12_nextOrder 6 (some .boolean) ∈ f_tbl := f_t 1190 rfl rfl
theorem hI_X12_nextOrder : Cond.instanceMethod yX12_nextOrder ∈ f_tbl := f_t 1189 (by decide +kernel) rfl
theorem hS_X12_nextOrder : Cond.selects RX12 yX12_nextOrder yX12_nextOrder ∈ f_tbl := f_p 41 (by decide +kernel) rfl
set_option maxRecDepth 100000 in
theorem hC_X12_isBetter : Cond.code yX12_isBetter cX12_isBetter 8 (some .boolean) ∈ f_tbl := f_t 1186 rfl rfl
theorem hI_X12_isBetter : Cond.instanceMethod yX12_isBetter ∈ f_tbl := f_t 1185 (by decide +kernel) rfl
theorem hS_X12_isBetter : Cond.selects RX12 yX12_isBetter yX12_isBetter ∈ f_tbl := f_p 40 (by decide +kernel) rfl
set_option maxRecDepth 100000 in
theorem hC_X12_findOrders : Cond.code yX12_findOrders cX12_findOrders 10 none ∈ f_tbl := f_t 1182 rfl rfl
theorem hI_X12_findOrders : Cond.instanceMethod yX12_findOrders ∈ f_tbl := f_t 1181 (by decide +kernel) rfl
theorem hS_X12_findOrders : Cond.selects RX12 yX12_findOrders yX12_findOrders ∈ f_tbl := f_p 39 (by decide +kernel) rfl
set_option maxRecDepth 100000 in
theorem hC_X12_orders : Cond.code yX12_orders cX12_orders 2 (some .long) ∈ f_tbl := f_t 1178 rfl rfl
theorem hI_X12_orders : Cond.instanceMethod yX12_orders ∈ f_tbl := f_t 1176 (by decide +kernel) rfl
theorem hS_X12_orders : Cond.selects RX12 yX12_orders yX12_orders ∈ f_tbl := f_t 1177 (by decide +kernel) rfl
set_option maxRecDepth 100000 in
theorem hC_X12_order : Cond.code yX12_order cX12_order 3 (some .int) ∈ f_tbl := f_t 1194 rfl rfl
theorem hI_X12_order : Cond.instanceMethod yX12_order ∈ f_tbl := f_t 1192 (by decide +kernel) rfl
theorem hS_X12_order : Cond.selects RX12 yX12_order yX12_order ∈ f_tbl := f_t 1193 (by decide +kernel) rfl
set_option maxRecDepth 100000 in
theorem hC_X12_layEnds : Cond.code yX12_layEnds cX12_layEnds 6 none ∈ f_tbl := f_t 1206 rfl rfl
theorem hI_X12_layEnds : Cond.instanceMethod yX12_layEnds ∈ f_tbl := f_t 1205 (by decide +kernel) rfl
theorem hS_X12_layEnds : Cond.selects RX12 yX12_layEnds yX12_layEnds ∈ f_tbl := f_p 43 (by decide +kernel) rfl
set_option maxRecDepth 100000 in
theorem hC_X12_ofPairs : Cond.code yX12_ofPairs cX12_ofPairs 10 (some .long) ∈ f_tbl := f_t 1210 rfl rfl
theorem hI_X12_ofPairs : Cond.instanceMethod yX12_ofPairs ∈ f_tbl := f_t 1209 (by decide +kernel) rfl
theorem hS_X12_ofPairs : Cond.selects RX12 yX12_ofPairs yX12_ofPairs ∈ f_tbl := f_p 44 (by decide +kernel) rfl
set_option maxRecDepth 100000 in
theorem hC_X12_findEnds : Cond.code yX12_findEnds cX12_findEnds 7 none ∈ f_tbl := f_t 1202 rfl rfl
theorem hI_X12_findEnds : Cond.instanceMethod yX12_findEnds ∈ f_tbl := f_t 1201 (by decide +kernel) rfl
theorem hS_X12_findEnds : Cond.selects RX12 yX12_findEnds yX12_findEnds ∈ f_tbl := f_p 42 (by decide +kernel) rfl
set_option maxRecDepth 100000 in
theorem hC_X12_bounds : Cond.code yX12_bounds cX12_bounds 2 (some .long) ∈ f_tbl := f_t 1198 rfl rfl
theorem hI_X12_bounds : Cond.instanceMethod yX12_bounds ∈ f_tbl := f_t 1196 (by decide +kernel) rfl
theorem hS_X12_bounds : Cond.selects RX12 yX12_bounds yX12_bounds ∈ f_tbl := f_t 1197 (by decide +kernel) rfl
set_option maxRecDepth 100000 in
theorem hC_X12_isIn : Cond.code yX12_isIn cX12_isIn 4 (some .boolean) ∈ f_tbl := f_t 1226 rfl rfl
theorem hI_X12_isIn : Cond.instanceMethod yX12_isIn ∈ f_tbl := f_t 1225 (by decide +kernel) rfl
theorem hS_X12_isIn : Cond.selects RX12 yX12_isIn yX12_isIn ∈ f_tbl := f_p 47 (by decide +kernel) rfl
set_option maxRecDepth 100000 in
theorem hC_X12_nextNumbers : Cond.code yX12_nextNumbers cX12_nextNumbers 2 (some .boolean) ∈ f_tbl := f_t 1222 rfl rfl
theorem hI_X12_nextNumbers : Cond.instanceMethod yX12_nextNumbers ∈ f_tbl := f_t 1221 (by decide +kernel) rfl
theorem hS_X12_nextNumbers : Cond.selects RX12 yX12_nextNumbers yX12_nextNumbers ∈ f_tbl := f_p 46 (by decide +kernel) rfl
set_option maxRecDepth 100000 in
theorem hC_X12_truthOf : Cond.code yX12_truthOf cX12_truthOf 9 (some .long) ∈ f_tbl := f_t 1218 rfl rfl
theorem hI_X12_truthOf : Cond.instanceMethod yX12_truthOf ∈ f_tbl := f_t 1217 (by decide +kernel) rfl
theorem hS_X12_truthOf : Cond.selects RX12 yX12_truthOf yX12_truthOf ∈ f_tbl := f_p 45 (by decide +kernel) rfl
set_option maxRecDepth 100000 in
theorem hC_X12_truth : Cond.code yX12_truth cX12_truth 2 (some .long) ∈ f_tbl := f_t 1214 rfl rfl
theorem hI_X12_truth : Cond.instanceMethod yX12_truth ∈ f_tbl := f_t 1212 (by decide +kernel) rfl
theorem hS_X12_truth : Cond.selects RX12 yX12_truth yX12_truth ∈ f_tbl := f_t 1213 (by decide +kernel) rfl
set_option maxRecDepth 100000 in
theorem hC_X12_add : Cond.code yX12_add cX12_add 2 none ∈ f_tbl := f_t 1250 rfl rfl
theorem hI_X12_add : Cond.instanceMethod yX12_add ∈ f_tbl := f_t 1249 (by decide +kernel) rfl
theorem hS_X12_add : Cond.selects RX12 yX12_add yX12_add ∈ f_tbl := f_p 51 (by decide +kernel) rfl
set_option maxRecDepth 100000 in
theorem hC_X12_addPart : Cond.code yX12_addPart cX12_addPart 3 none ∈ f_tbl := f_t 1258 rfl rfl
theorem hI_X12_addPart : Cond.instanceMethod yX12_addPart ∈ f_tbl := f_t 1257 (by decide +kernel) rfl
theorem hS_X12_addPart : Cond.selects RX12 yX12_addPart yX12_addPart ∈ f_tbl := f_p 53 (by decide +kernel) rfl
set_option maxRecDepth 100000 in
theorem hC_X12_isSame : Cond.code yX12_isSame cX12_isSame 5 (some .boolean) ∈ f_tbl := f_t 1246 rfl rfl
theorem hI_X12_isSame : Cond.instanceMethod yX12_isSame ∈ f_tbl := f_t 1245 (by decide +kernel) rfl
theorem hS_X12_isSame : Cond.selects RX12 yX12_isSame yX12_isSame ∈ f_tbl := f_p 50 (by decide +kernel) rfl
set_option maxRecDepth 100000 in
theorem hC_X12_hasSigns : Cond.code yX12_hasSigns cX12_hasSigns 5 (some .boolean) ∈ f_tbl := f_t 1242 rfl rfl
theorem hI_X12_hasSigns : Cond.instanceMethod yX12_hasSigns ∈ f_tbl := f_t 1241 (by decide +kernel) rfl
theorem hS_X12_hasSigns : Cond.selects RX12 yX12_hasSigns yX12_hasSigns ∈ f_tbl := f_p 49 (by decide +kernel) rfl
set_option maxRecDepth 100000 in
theorem hC_X12_build : Cond.code yX12_build cX12_build 7 (some .boolean) ∈ f_tbl := f_t 1238 rfl rfl
theorem hI_X12_build : Cond.instanceMethod yX12_build ∈ f_tbl := f_t 1237 (by decide +kernel) rfl
theorem hS_X12_build : Cond.selects RX12 yX12_build yX12_build ∈ f_tbl := f_p 48 (by decide +kernel) rfl
set_option maxRecDepth 100000 in
theorem hC_X12_buildPart : Cond.code yX12_buildPart cX12_buildPart 5 none ∈ f_tbl := f_t 1254 rfl rfl
theorem hI_X12_buildPart : Cond.instanceMethod yX12_buildPart ∈ f_tbl := f_t 1253 (by decide +kernel) rfl
theorem hS_X12_buildPart : Cond.selects RX12 yX12_buildPart yX12_buildPart ∈ f_tbl := f_p 52 (by decide +kernel) rfl
set_option maxRecDepth 100000 in
theorem hC_X12_isRule : Cond.code yX12_isRule cX12_isRule 1 (some .boolean) ∈ f_tbl := f_t 1233 rfl rfl
theorem hT_X12_isRule : Cond.static yX12_isRule ∈ f_tbl := f_t 1232 (by decide +kernel) rfl
set_option maxRecDepth 100000 in
theorem hC_X12_fits : Cond.code yX12_fits cX12_fits 3 (some .int) ∈ f_tbl := f_t 1230 rfl rfl
theorem hI_X12_fits : Cond.instanceMethod yX12_fits ∈ f_tbl := f_t 1228 (by decide +kernel) rfl
theorem hS_X12_fits : Cond.selects RX12 yX12_fits yX12_fits ∈ f_tbl := f_t 1229 (by decide +kernel) rfl
set_option maxRecDepth 100000 in
theorem hC_X12_change : Cond.code yX12_change cX12_change 4 (some .int) ∈ f_tbl := f_t 1262 rfl rfl
theorem hI_X12_change : Cond.instanceMethod yX12_change ∈ f_tbl := f_t 1260 (by decide +kernel) rfl
theorem hS_X12_change : Cond.selects RX12 yX12_change yX12_change ∈ f_tbl := f_t 1261 (by decide +kernel) rfl
set_option maxRecDepth 100000 in
theorem hC_X12_hold : Cond.code yX12_hold cX12_hold 4 none ∈ f_tbl := f_t 1274 rfl rfl
theorem hI_X12_hold : Cond.instanceMethod yX12_hold ∈ f_tbl := f_t 1273 (by decide +kernel) rfl
theorem hS_X12_hold : Cond.selects RX12 yX12_hold yX12_hold ∈ f_tbl := f_p 55 (by decide +kernel) rfl
set_option maxRecDepth 100000 in
theorem hC_X12_layBuilt : Cond.code yX12_layBuilt cX12_layBuilt 2 none ∈ f_tbl := f_t 1290 rfl rfl
theorem hI_X12_layBuilt : Cond.instanceMethod yX12_layBuilt ∈ f_tbl := f_t 1289 (by decide +kernel) rfl
theorem hS_X12_layBuilt : Cond.selects RX12 yX12_layBuilt yX12_layBuilt ∈ f_tbl := f_p 59 (by decide +kernel) rfl
set_option maxRecDepth 100000 in
theorem hC_X12_layBase : Cond.code yX12_layBase cX12_layBase 2 none ∈ f_tbl := f_t 1286 rfl rfl
theorem hI_X12_layBase : Cond.instanceMethod yX12_layBase ∈ f_tbl := f_t 1285 (by decide +kernel) rfl
theorem hS_X12_layBase : Cond.selects RX12 yX12_layBase yX12_layBase ∈ f_tbl := f_p 58 (by decide +kernel) rfl
set_option maxRecDepth 100000 in
theorem hC_X12_keepBase : Cond.code yX12_keepBase cX12_keepBase 2 none ∈ f_tbl := f_t 1278 rfl rfl
theorem hI_X12_keepBase : Cond.instanceMethod yX12_keepBase ∈ f_tbl := f_t 1277 (by decide +kernel) rfl
theorem hS_X12_keepBase : Cond.selects RX12 yX12_keepBase yX12_keepBase ∈ f_tbl := f_p 56 (by decide +kernel) rfl
set_option maxRecDepth 100000 in
theorem hC_X12_holdAll : Cond.code yX12_holdAll cX12_holdAll 4 none ∈ f_tbl := f_t 1282 rfl rfl
theorem hI_X12_holdAll : Cond.instanceMethod yX12_holdAll ∈ f_tbl := f_t 1281 (by decide +kernel) rfl
theorem hS_X12_holdAll : Cond.selects RX12 yX12_holdAll yX12_holdAll ∈ f_tbl := f_p 57 (by decide +kernel) rfl
set_option maxRecDepth 100000 in
theorem hC_X12_findBetter : Cond.code yX12_findBetter cX12_findBetter 4 none ∈ f_tbl := f_t 1270 rfl rfl
theorem hI_X12_findBetter : Cond.instanceMethod yX12_findBetter ∈ f_tbl := f_t 1269 (by decide +kernel) rfl
theorem hS_X12_findBetter : Cond.selects RX12 yX12_findBetter yX12_findBetter ∈ f_tbl := f_p 54 (by decide +kernel) rfl
set_option maxRecDepth 100000 in
theorem hC_X12_better : Cond.code yX12_better cX12_better 2 (some .long) ∈ f_tbl := f_t 1266 rfl rfl
theorem hI_X12_better : Cond.instanceMethod yX12_better ∈ f_tbl := f_t 1264 (by decide +kernel) rfl
theorem hS_X12_better : Cond.selects RX12 yX12_better yX12_better ∈ f_tbl := f_t 1265 (by decide +kernel) rfl
set_option maxRecDepth 100000 in
theorem hC_X12_betterSign : Cond.code yX12_betterSign cX12_betterSign 3 (some .int) ∈ f_tbl := f_t 1294 rfl rfl
theorem hI_X12_betterSign : Cond.instanceMethod yX12_betterSign ∈ f_tbl := f_t 1292 (by decide +kernel) rfl
theorem hS_X12_betterSign : Cond.selects RX12 yX12_betterSign yX12_betterSign ∈ f_tbl := f_t 1293 (by decide +kernel) rfl
set_option maxRecDepth 100000 in
theorem hC_X12_pass : Cond.code yX12_pass cX12_pass 5 (some .long) ∈ f_tbl := f_t 1306 rfl rfl
theorem hI_X12_pass : Cond.instanceMethod yX12_pass ∈ f_tbl := f_t 1305 (by decide +kernel) rfl
theorem hS_X12_pass : Cond.selects RX12 yX12_pass yX12_pass ∈ f_tbl := f_p 61 (by decide +kernel) rfl
set_option maxRecDepth 100000 in
theorem hC_X12_passAll : Cond.code yX12_passAll cX12_passAll 2 none ∈ f_tbl := f_t 1302 rfl rfl
theorem hI_X12_passAll : Cond.instanceMethod yX12_passAll ∈ f_tbl := f_t 1301 (by decide +kernel) rfl
theorem hS_X12_passAll : Cond.selects RX12 yX12_passAll yX12_passAll ∈ f_tbl := f_p 60 (by decide +kernel) rfl
set_option maxRecDepth 100000 in
theorem hC_X12_image : Cond.code yX12_image cX12_image 2 (some .int) ∈ f_tbl := f_t 1298 rfl rfl
theorem hI_X12_image : Cond.instanceMethod yX12_image ∈ f_tbl := f_t 1296 (by decide +kernel) rfl
theorem hS_X12_image : Cond.selects RX12 yX12_image yX12_image ∈ f_tbl := f_t 1297 (by decide +kernel) rfl
set_option maxRecDepth 100000 in
theorem hC_X12_restore : Cond.code yX12_restore cX12_restore 2 (some .int) ∈ f_tbl := f_t 1310 rfl rfl
theorem hI_X12_restore : Cond.instanceMethod yX12_restore ∈ f_tbl := f_t 1308 (by decide +kernel) rfl
theorem hS_X12_restore : Cond.selects RX12 yX12_restore yX12_restore ∈ f_tbl := f_t 1309 (by decide +kernel) rfl
set_option maxRecDepth 100000 in
theorem hC_X12_told : Cond.code yX12_told cX12_told 2 (some .int) ∈ f_tbl := f_t 1314 rfl rfl
theorem hI_X12_told : Cond.instanceMethod yX12_told ∈ f_tbl := f_t 1312 (by decide +kernel) rfl
theorem hS_X12_told : Cond.selects RX12 yX12_told yX12_told ∈ f_tbl := f_t 1313 (by decide +kernel) rfl
set_option maxRecDepth 100000 in
theorem hC_J9_abs_067f4 : Cond.code yJ9_abs_067f4 cJ9_abs_067f4 2 (some .long) ∈ f_tbl := f_t 421 rfl rfl
theorem hT_J9_abs_067f4 : Cond.static yJ9_abs_067f4 ∈ f_tbl := f_t 420 (by decide +kernel) rfl
set_option maxRecDepth 100000 in
theorem hC_J9_max_7cf53 : Cond.code yJ9_max_7cf53 cJ9_max_7cf53 2 (some .int) ∈ f_tbl := f_t 610 rfl rfl
theorem hT_J9_max_7cf53 : Cond.static yJ9_max_7cf53 ∈ f_tbl := f_t 609 (by decide +kernel) rfl
set_option maxRecDepth 100000 in
theorem hC_J9_max_f86c9 : Cond.code yJ9_max_f86c9 cJ9_max_f86c9 4 (some .long) ∈ f_tbl := f_t 716 rfl rfl
theorem hT_J9_max_f86c9 : Cond.static yJ9_max_f86c9 ∈ f_tbl := f_t 715 (by decide +kernel) rfl
set_option maxRecDepth 100000 in
theorem hC_J9_min_7cf53 : Cond.code yJ9_min_7cf53 cJ9_min_7cf53 2 (some .int) ∈ f_tbl := f_t 42 rfl rfl
theorem hT_J9_min_7cf53 : Cond.static yJ9_min_7cf53 ∈ f_tbl := f_t 41 (by decide +kernel) rfl
set_option maxRecDepth 100000 in
theorem hC_J9_min_f86c9 : Cond.code yJ9_min_f86c9 cJ9_min_f86c9 4 (some .long) ∈ f_tbl := f_t 713 rfl rfl
theorem hT_J9_min_f86c9 : Cond.static yJ9_min_f86c9 ∈ f_tbl := f_t 712 (by decide +kernel) rfl
theorem hL_L_9 : Cond.methodLink RL 9 yX11_init ∈ f_tbl := f_t 18 (by decide +kernel) rfl
theorem hL_X11_3 : Cond.methodLink RX11 3 objectInit ∈ f_tbl := f_t 21 (by decide +kernel) rfl
theorem hL_X11_11 : Cond.methodLink RX11 11 yX2_init ∈ f_tbl := f_t 26 (by decide +kernel) rfl
theorem hL_X2_3 : Cond.methodLink RX2 3 objectInit ∈ f_tbl := f_t 29 (by decide +kernel) rfl
theorem hL_X2_11 : Cond.methodLink RX2 11 yX10_init ∈ f_tbl := f_t 32 (by decide +kernel) rfl
theorem hL_X10_3 : Cond.methodLink RX10 3 objectInit ∈ f_tbl := f_t 35 (by decide +kernel) rfl
theorem hL_X10_25 : Cond.methodLink RX10 25 yX10_findParts ∈ f_tbl := f_t 36 (by decide +kernel) rfl
theorem hL_X10_49 : Cond.methodLink RX10 49 yJ9_min_7cf53 ∈ f_tbl := f_t 40 (by decide +kernel) rfl
theorem hL_X10_42 : Cond.methodLink RX10 42 yX10_endOf ∈ f_tbl := f_t 46 (by decide +kernel) rfl
theorem hL_X10_59 : Cond.methodLink RX10 59 yX10_lettersOf ∈ f_tbl := f_t 50 (by decide +kernel) rfl
theorem hF_X10_9 : Cond.fieldLink RX10 9 "LostDigits$Text" "signs" "[I" ∈ f_tbl := f_t 57 (by decide +kernel) rfl
theorem hF_X0_34 : Cond.fieldLink RX0 34 "LostDigits$Text" "signs" "[I" ∈ f_tbl := f_t 58 (by decide +kernel) rfl
theorem hF_X10_15 : Cond.fieldLink RX10 15 "LostDigits$Text" "ends" "[I" ∈ f_tbl := f_t 59 (by decide +kernel) rfl
theorem hF_X10_18 : Cond.fieldLink RX10 18 "LostDigits$Text" "letters" "[I" ∈ f_tbl := f_t 60 (by decide +kernel) rfl
theorem hF_X0_30 : Cond.fieldLink RX0 30 "LostDigits$Text" "letters" "[I" ∈ f_tbl := f_t 61 (by decide +kernel) rfl
theorem hF_X10_21 : Cond.fieldLink RX10 21 "LostDigits$Text" "length" "I" ∈ f_tbl := f_t 62 (by decide +kernel) rfl
theorem hF_X0_18 : Cond.fieldLink RX0 18 "LostDigits$Text" "length" "I" ∈ f_tbl := f_t 63 (by decide +kernel) rfl
theorem hF_X8_39 : Cond.fieldLink RX8 39 "LostDigits$Text" "length" "I" ∈ f_tbl := f_t 64 (by decide +kernel) rfl
theorem hF_X7_79 : Cond.fieldLink RX7 79 "LostDigits$Text" "length" "I" ∈ f_tbl := f_t 65 (by decide +kernel) rfl
theorem hF_X6_70 : Cond.fieldLink RX6 70 "LostDigits$Text" "length" "I" ∈ f_tbl := f_t 66 (by decide +kernel) rfl
theorem hF_X5_33 : Cond.fieldLink RX5 33 "LostDigits$Text" "length" "I" ∈ f_tbl := f_t 67 (by decide +kernel) rfl
theorem hF_X11_128 : Cond.fieldLink RX11 128 "LostDigits$Text" "length" "I" ∈ f_tbl := f_t 68 (by decide +kernel) rfl
theorem hF_X2_12 : Cond.fieldLink RX2 12 "LostDigits$Page" "text" "LLostDigits$Text;" ∈ f_tbl := f_t 79 (by decide +kernel) rfl
theorem hF_X7_75 : Cond.fieldLink RX7 75 "LostDigits$Page" "text" "LLostDigits$Text;" ∈ f_tbl := f_t 80 (by decide +kernel) rfl
theorem hF_X6_59 : Cond.fieldLink RX6 59 "LostDigits$Page" "text" "LLostDigits$Text;" ∈ f_tbl := f_t 81 (by decide +kernel) rfl
theorem hF_X11_118 : Cond.fieldLink RX11 118 "LostDigits$Page" "text" "LLostDigits$Text;" ∈ f_tbl := f_t 82 (by decide +kernel) rfl
theorem hF_X2_18 : Cond.fieldLink RX2 18 "LostDigits$Page" "numbers" "[I" ∈ f_tbl := f_t 83 (by decide +kernel) rfl
theorem hF_X6_62 : Cond.fieldLink RX6 62 "LostDigits$Page" "numbers" "[I" ∈ f_tbl := f_t 84 (by decide +kernel) rfl
theorem hF_X7_115 : Cond.fieldLink RX7 115 "LostDigits$Page" "numbers" "[I" ∈ f_tbl := f_t 85 (by decide +kernel) rfl
theorem hF_X11_138 : Cond.fieldLink RX11 138 "LostDigits$Page" "numbers" "[I" ∈ f_tbl := f_t 86 (by decide +kernel) rfl
theorem hF_X2_22 : Cond.fieldLink RX2 22 "LostDigits$Page" "spans" "[I" ∈ f_tbl := f_t 87 (by decide +kernel) rfl
theorem hF_X7_108 : Cond.fieldLink RX7 108 "LostDigits$Page" "spans" "[I" ∈ f_tbl := f_t 88 (by decide +kernel) rfl
theorem hF_X11_141 : Cond.fieldLink RX11 141 "LostDigits$Page" "spans" "[I" ∈ f_tbl := f_t 89 (by decide +kernel) rfl
theorem hF_X2_25 : Cond.fieldLink RX2 25 "LostDigits$Page" "terms" "[J" ∈ f_tbl := f_t 90 (by decide +kernel) rfl
theorem hF_X9_49 : Cond.fieldLink RX9 49 "LostDigits$Page" "terms" "[J" ∈ f_tbl := f_t 91 (by decide +kernel) rfl
theorem hF_X11_197 : Cond.fieldLink RX11 197 "LostDigits$Page" "terms" "[J" ∈ f_tbl := f_t 92 (by decide +kernel) rfl
theorem hF_X2_29 : Cond.fieldLink RX2 29 "LostDigits$Page" "termCount" "I" ∈ f_tbl := f_t 93 (by decide +kernel) rfl
theorem hF_X9_56 : Cond.fieldLink RX9 56 "LostDigits$Page" "termCount" "I" ∈ f_tbl := f_t 94 (by decide +kernel) rfl
theorem hF_X11_194 : Cond.fieldLink RX11 194 "LostDigits$Page" "termCount" "I" ∈ f_tbl := f_t 95 (by decide +kernel) rfl
theorem hF_X2_33 : Cond.fieldLink RX2 33 "LostDigits$Page" "digits" "I" ∈ f_tbl := f_t 96 (by decide +kernel) rfl
theorem hF_X9_37 : Cond.fieldLink RX9 37 "LostDigits$Page" "digits" "I" ∈ f_tbl := f_t 97 (by decide +kernel) rfl
theorem hF_X7_65 : Cond.fieldLink RX7 65 "LostDigits$Page" "digits" "I" ∈ f_tbl := f_t 98 (by decide +kernel) rfl
theorem hF_X11_79 : Cond.fieldLink RX11 79 "LostDigits$Page" "digits" "I" ∈ f_tbl := f_t 99 (by decide +kernel) rfl
theorem hF_X6_45 : Cond.fieldLink RX6 45 "LostDigits$Page" "digits" "I" ∈ f_tbl := f_t 100 (by decide +kernel) rfl
theorem hF_X2_36 : Cond.fieldLink RX2 36 "LostDigits$Page" "way" "I" ∈ f_tbl := f_t 101 (by decide +kernel) rfl
theorem hF_X9_42 : Cond.fieldLink RX9 42 "LostDigits$Page" "way" "I" ∈ f_tbl := f_t 102 (by decide +kernel) rfl
theorem hF_X6_50 : Cond.fieldLink RX6 50 "LostDigits$Page" "way" "I" ∈ f_tbl := f_t 103 (by decide +kernel) rfl
theorem hF_X11_85 : Cond.fieldLink RX11 85 "LostDigits$Page" "way" "I" ∈ f_tbl := f_t 104 (by decide +kernel) rfl
theorem hF_X2_39 : Cond.fieldLink RX2 39 "LostDigits$Page" "isKept" "Z" ∈ f_tbl := f_t 105 (by decide +kernel) rfl
theorem hF_X11_282 : Cond.fieldLink RX11 282 "LostDigits$Page" "isKept" "Z" ∈ f_tbl := f_t 106 (by decide +kernel) rfl
theorem hL_X3_3 : Cond.methodLink RX3 3 objectInit ∈ f_tbl := f_t 130 (by decide +kernel) rfl
theorem hF_X3_9 : Cond.fieldLink RX3 9 "LostDigits$Ratio" "upper" "J" ∈ f_tbl := f_t 131 (by decide +kernel) rfl
theorem hF_X4_22 : Cond.fieldLink RX4 22 "LostDigits$Ratio" "upper" "J" ∈ f_tbl := f_t 132 (by decide +kernel) rfl
theorem hF_X3_15 : Cond.fieldLink RX3 15 "LostDigits$Ratio" "lower" "J" ∈ f_tbl := f_t 133 (by decide +kernel) rfl
theorem hF_X4_34 : Cond.fieldLink RX4 34 "LostDigits$Ratio" "lower" "J" ∈ f_tbl := f_t 134 (by decide +kernel) rfl
theorem hF_X3_18 : Cond.fieldLink RX3 18 "LostDigits$Ratio" "tens" "I" ∈ f_tbl := f_t 135 (by decide +kernel) rfl
theorem hF_X4_37 : Cond.fieldLink RX4 37 "LostDigits$Ratio" "tens" "I" ∈ f_tbl := f_t 136 (by decide +kernel) rfl
theorem hL_X4_3 : Cond.methodLink RX4 3 objectInit ∈ f_tbl := f_t 149 (by decide +kernel) rfl
theorem hF_X4_9 : Cond.fieldLink RX4 9 "LostDigits$Rounding" "digits" "I" ∈ f_tbl := f_t 150 (by decide +kernel) rfl
theorem hF_X4_15 : Cond.fieldLink RX4 15 "LostDigits$Rounding" "way" "I" ∈ f_tbl := f_t 151 (by decide +kernel) rfl
theorem hF_X4_18 : Cond.fieldLink RX4 18 "LostDigits$Rounding" "keepsTiny" "Z" ∈ f_tbl := f_t 152 (by decide +kernel) rfl
theorem hF_X7_62 : Cond.fieldLink RX7 62 "LostDigits$Rounding" "keepsTiny" "Z" ∈ f_tbl := f_t 153 (by decide +kernel) rfl
theorem hL_X8_3 : Cond.methodLink RX8 3 objectInit ∈ f_tbl := f_t 166 (by decide +kernel) rfl
theorem hL_X0_3 : Cond.methodLink RX0 3 objectInit ∈ f_tbl := f_t 172 (by decide +kernel) rfl
theorem hF_X0_9 : Cond.fieldLink RX0 9 "LostDigits$Fractions" "uppers" "[J" ∈ f_tbl := f_t 173 (by decide +kernel) rfl
theorem hF_X0_15 : Cond.fieldLink RX0 15 "LostDigits$Fractions" "lowers" "[J" ∈ f_tbl := f_t 174 (by decide +kernel) rfl
theorem hF_X8_9 : Cond.fieldLink RX8 9 "LostDigits$Steps" "values" "[J" ∈ f_tbl := f_t 184 (by decide +kernel) rfl
theorem hF_X11_162 : Cond.fieldLink RX11 162 "LostDigits$Steps" "values" "[J" ∈ f_tbl := f_t 185 (by decide +kernel) rfl
theorem hF_X8_15 : Cond.fieldLink RX8 15 "LostDigits$Steps" "slips" "[J" ∈ f_tbl := f_t 186 (by decide +kernel) rfl
theorem hF_X11_170 : Cond.fieldLink RX11 170 "LostDigits$Steps" "slips" "[J" ∈ f_tbl := f_t 187 (by decide +kernel) rfl
theorem hF_X8_21 : Cond.fieldLink RX8 21 "LostDigits$Steps" "fractions" "LLostDigits$Fractions;" ∈ f_tbl := f_t 188 (by decide +kernel) rfl
theorem hF_X11_145 : Cond.fieldLink RX11 145 "LostDigits$Steps" "fractions" "LLostDigits$Fractions;" ∈ f_tbl := f_t 189 (by decide +kernel) rfl
theorem hF_X8_28 : Cond.fieldLink RX8 28 "LostDigits$Steps" "rounding" "LLostDigits$Rounding;" ∈ f_tbl := f_t 190 (by decide +kernel) rfl
theorem hF_X6_41 : Cond.fieldLink RX6 41 "LostDigits$Steps" "rounding" "LLostDigits$Rounding;" ∈ f_tbl := f_t 191 (by decide +kernel) rfl
theorem hF_X11_177 : Cond.fieldLink RX11 177 "LostDigits$Steps" "rounding" "LLostDigits$Rounding;" ∈ f_tbl := f_t 192 (by decide +kernel) rfl
theorem hF_X8_35 : Cond.fieldLink RX8 35 "LostDigits$Steps" "ratio" "LLostDigits$Ratio;" ∈ f_tbl := f_t 193 (by decide +kernel) rfl
theorem hL_X9_3 : Cond.methodLink RX9 3 objectInit ∈ f_tbl := f_t 210 (by decide +kernel) rfl
theorem hF_X9_12 : Cond.fieldLink RX9 12 "LostDigits$Sums" "ratio" "LLostDigits$Ratio;" ∈ f_tbl := f_t 215 (by decide +kernel) rfl
theorem hF_X9_21 : Cond.fieldLink RX9 21 "LostDigits$Sums" "rounding" "LLostDigits$Rounding;" ∈ f_tbl := f_t 216 (by decide +kernel) rfl
theorem hF_X9_25 : Cond.fieldLink RX9 25 "LostDigits$Sums" "terms" "[J" ∈ f_tbl := f_t 217 (by decide +kernel) rfl
theorem hF_X1_61 : Cond.fieldLink RX1 61 "LostDigits$Sums" "terms" "[J" ∈ f_tbl := f_t 218 (by decide +kernel) rfl
theorem hF_X9_29 : Cond.fieldLink RX9 29 "LostDigits$Sums" "sizes" "[I" ∈ f_tbl := f_t 219 (by decide +kernel) rfl
theorem hF_X9_33 : Cond.fieldLink RX9 33 "LostDigits$Sums" "count" "I" ∈ f_tbl := f_t 220 (by decide +kernel) rfl
theorem hF_X1_49 : Cond.fieldLink RX1 49 "LostDigits$Sums" "count" "I" ∈ f_tbl := f_t 221 (by decide +kernel) rfl
theorem hL_X1_3 : Cond.methodLink RX1 3 objectInit ∈ f_tbl := f_t 238 (by decide +kernel) rfl
theorem hF_X1_12 : Cond.fieldLink RX1 12 "LostDigits$Orders" "sums" "LLostDigits$Sums;" ∈ f_tbl := f_t 243 (by decide +kernel) rfl
theorem hF_X1_18 : Cond.fieldLink RX1 18 "LostDigits$Orders" "path" "[I" ∈ f_tbl := f_t 244 (by decide +kernel) rfl
theorem hF_X1_22 : Cond.fieldLink RX1 22 "LostDigits$Orders" "losses" "[J" ∈ f_tbl := f_t 245 (by decide +kernel) rfl
theorem hF_X11_228 : Cond.fieldLink RX11 228 "LostDigits$Orders" "losses" "[J" ∈ f_tbl := f_t 246 (by decide +kernel) rfl
theorem hF_X1_26 : Cond.fieldLink RX1 26 "LostDigits$Orders" "counts" "[I" ∈ f_tbl := f_t 247 (by decide +kernel) rfl
theorem hF_X11_225 : Cond.fieldLink RX11 225 "LostDigits$Orders" "counts" "[I" ∈ f_tbl := f_t 248 (by decide +kernel) rfl
theorem hF_X1_31 : Cond.fieldLink RX1 31 "LostDigits$Orders" "firsts" "[[I" ∈ f_tbl := f_t 249 (by decide +kernel) rfl
theorem hF_X11_231 : Cond.fieldLink RX11 231 "LostDigits$Orders" "firsts" "[[I" ∈ f_tbl := f_t 250 (by decide +kernel) rfl
theorem hF_X1_34 : Cond.fieldLink RX1 34 "LostDigits$Orders" "whole" "J" ∈ f_tbl := f_t 251 (by decide +kernel) rfl
theorem hF_X1_38 : Cond.fieldLink RX1 38 "LostDigits$Orders" "isFound" "Z" ∈ f_tbl := f_t 252 (by decide +kernel) rfl
theorem hF_X11_290 : Cond.fieldLink RX11 290 "LostDigits$Orders" "isFound" "Z" ∈ f_tbl := f_t 253 (by decide +kernel) rfl
theorem hL_X11_67 : Cond.methodLink RX11 67 yX7_init ∈ f_tbl := f_t 271 (by decide +kernel) rfl
theorem hL_X7_3 : Cond.methodLink RX7 3 objectInit ∈ f_tbl := f_t 274 (by decide +kernel) rfl
theorem hK_X7_49 : Cond.constantLong RX7 49 (1000000000000000000) ∈ f_tbl := f_t 281 (by decide +kernel) rfl
theorem hF_X7_9 : Cond.fieldLink RX7 9 "LostDigits$Spans" "low" "[J" ∈ f_tbl := f_t 282 (by decide +kernel) rfl
theorem hF_X11_238 : Cond.fieldLink RX11 238 "LostDigits$Spans" "low" "[J" ∈ f_tbl := f_t 283 (by decide +kernel) rfl
theorem hF_X7_15 : Cond.fieldLink RX7 15 "LostDigits$Spans" "high" "[J" ∈ f_tbl := f_t 284 (by decide +kernel) rfl
theorem hF_X11_241 : Cond.fieldLink RX11 241 "LostDigits$Spans" "high" "[J" ∈ f_tbl := f_t 285 (by decide +kernel) rfl
theorem hF_X7_21 : Cond.fieldLink RX7 21 "LostDigits$Spans" "ratio" "LLostDigits$Ratio;" ∈ f_tbl := f_t 286 (by decide +kernel) rfl
theorem hF_X7_28 : Cond.fieldLink RX7 28 "LostDigits$Spans" "down" "LLostDigits$Rounding;" ∈ f_tbl := f_t 287 (by decide +kernel) rfl
theorem hF_X7_32 : Cond.fieldLink RX7 32 "LostDigits$Spans" "up" "LLostDigits$Rounding;" ∈ f_tbl := f_t 288 (by decide +kernel) rfl
theorem hF_X7_38 : Cond.fieldLink RX7 38 "LostDigits$Spans" "fractions" "LLostDigits$Fractions;" ∈ f_tbl := f_t 289 (by decide +kernel) rfl
theorem hF_X7_42 : Cond.fieldLink RX7 42 "LostDigits$Spans" "trial" "[I" ∈ f_tbl := f_t 290 (by decide +kernel) rfl
theorem hF_X7_46 : Cond.fieldLink RX7 46 "LostDigits$Spans" "widths" "[I" ∈ f_tbl := f_t 291 (by decide +kernel) rfl
theorem hF_X7_51 : Cond.fieldLink RX7 51 "LostDigits$Spans" "least" "J" ∈ f_tbl := f_t 292 (by decide +kernel) rfl
theorem hF_X11_247 : Cond.fieldLink RX11 247 "LostDigits$Spans" "least" "J" ∈ f_tbl := f_t 293 (by decide +kernel) rfl
theorem hF_X7_55 : Cond.fieldLink RX7 55 "LostDigits$Spans" "greatest" "J" ∈ f_tbl := f_t 294 (by decide +kernel) rfl
theorem hF_X11_251 : Cond.fieldLink RX11 251 "LostDigits$Spans" "greatest" "J" ∈ f_tbl := f_t 295 (by decide +kernel) rfl
theorem hF_X7_58 : Cond.fieldLink RX7 58 "LostDigits$Spans" "isFound" "Z" ∈ f_tbl := f_t 296 (by decide +kernel) rfl
theorem hF_X11_293 : Cond.fieldLink RX11 293 "LostDigits$Spans" "isFound" "Z" ∈ f_tbl := f_t 297 (by decide +kernel) rfl
theorem hL_X6_3 : Cond.methodLink RX6 3 objectInit ∈ f_tbl := f_t 326 (by decide +kernel) rfl
theorem hL_X6_20 : Cond.methodLink RX6 20 yX10_init ∈ f_tbl := f_t 330 (by decide +kernel) rfl
theorem hK_X6_31 : Cond.constantLong RX6 31 (1000000000000000000) ∈ f_tbl := f_t 331 (by decide +kernel) rfl
theorem hF_X6_12 : Cond.fieldLink RX6 12 "LostDigits$Search" "steps" "LLostDigits$Steps;" ∈ f_tbl := f_t 332 (by decide +kernel) rfl
theorem hF_X6_21 : Cond.fieldLink RX6 21 "LostDigits$Search" "once" "LLostDigits$Text;" ∈ f_tbl := f_t 333 (by decide +kernel) rfl
theorem hF_X11_260 : Cond.fieldLink RX11 260 "LostDigits$Search" "once" "LLostDigits$Text;" ∈ f_tbl := f_t 334 (by decide +kernel) rfl
theorem hF_X6_25 : Cond.fieldLink RX6 25 "LostDigits$Search" "twice" "LLostDigits$Text;" ∈ f_tbl := f_t 335 (by decide +kernel) rfl
theorem hF_X6_28 : Cond.fieldLink RX6 28 "LostDigits$Search" "best" "LLostDigits$Text;" ∈ f_tbl := f_t 336 (by decide +kernel) rfl
theorem hF_X11_277 : Cond.fieldLink RX11 277 "LostDigits$Search" "best" "LLostDigits$Text;" ∈ f_tbl := f_t 337 (by decide +kernel) rfl
theorem hF_X6_33 : Cond.fieldLink RX6 33 "LostDigits$Search" "bestLoss" "J" ∈ f_tbl := f_t 338 (by decide +kernel) rfl
theorem hF_X11_274 : Cond.fieldLink RX11 274 "LostDigits$Search" "bestLoss" "J" ∈ f_tbl := f_t 339 (by decide +kernel) rfl
theorem hF_X6_37 : Cond.fieldLink RX6 37 "LostDigits$Search" "foundRules" "I" ∈ f_tbl := f_t 340 (by decide +kernel) rfl
theorem hF_X11_294 : Cond.fieldLink RX11 294 "LostDigits$Search" "foundRules" "I" ∈ f_tbl := f_t 341 (by decide +kernel) rfl
theorem hF_X11_12 : Cond.fieldLink RX11 12 "LostDigits" "now" "LLostDigits$Page;" ∈ f_tbl := f_t 355 (by decide +kernel) rfl
theorem hF_X11_16 : Cond.fieldLink RX11 16 "LostDigits" "imageZero" "LLostDigits$Page;" ∈ f_tbl := f_t 356 (by decide +kernel) rfl
theorem hF_X11_19 : Cond.fieldLink RX11 19 "LostDigits" "imageOne" "LLostDigits$Page;" ∈ f_tbl := f_t 357 (by decide +kernel) rfl
theorem hF_X11_22 : Cond.fieldLink RX11 22 "LostDigits" "pad" "[I" ∈ f_tbl := f_t 358 (by decide +kernel) rfl
theorem hF_X11_26 : Cond.fieldLink RX11 26 "LostDigits" "padded" "I" ∈ f_tbl := f_t 359 (by decide +kernel) rfl
theorem hF_X11_33 : Cond.fieldLink RX11 33 "LostDigits" "ratio" "LLostDigits$Ratio;" ∈ f_tbl := f_t 360 (by decide +kernel) rfl
theorem hF_X11_40 : Cond.fieldLink RX11 40 "LostDigits" "rounding" "LLostDigits$Rounding;" ∈ f_tbl := f_t 361 (by decide +kernel) rfl
theorem hF_X11_47 : Cond.fieldLink RX11 47 "LostDigits" "steps" "LLostDigits$Steps;" ∈ f_tbl := f_t 362 (by decide +kernel) rfl
theorem hF_X11_54 : Cond.fieldLink RX11 54 "LostDigits" "sums" "LLostDigits$Sums;" ∈ f_tbl := f_t 363 (by decide +kernel) rfl
theorem hF_X11_61 : Cond.fieldLink RX11 61 "LostDigits" "allOrders" "LLostDigits$Orders;" ∈ f_tbl := f_t 364 (by decide +kernel) rfl
theorem hF_X11_68 : Cond.fieldLink RX11 68 "LostDigits" "spans" "LLostDigits$Spans;" ∈ f_tbl := f_t 365 (by decide +kernel) rfl
theorem hF_X11_75 : Cond.fieldLink RX11 75 "LostDigits" "search" "LLostDigits$Search;" ∈ f_tbl := f_t 366 (by decide +kernel) rfl
theorem hL_L_13 : Cond.methodLink RL 13 yX11_set ∈ f_tbl := f_t 392 (by decide +kernel) rfl
theorem hL_X11_82 : Cond.methodLink RX11 82 yX11_forgetFindings ∈ f_tbl := f_t 396 (by decide +kernel) rfl
theorem hL_L_18 : Cond.methodLink RL 18 yX11_round ∈ f_tbl := f_t 400 (by decide +kernel) rfl
theorem hK_X11_88 : Cond.constant RX11 88 (-1000000) ∈ f_tbl := f_t 404 (by decide +kernel) rfl
theorem hK_X11_89 : Cond.constant RX11 89 (1000000) ∈ f_tbl := f_t 405 (by decide +kernel) rfl
theorem hK_X11_90 : Cond.constantLong RX11 90 (-1000000000000000002) ∈ f_tbl := f_t 406 (by decide +kernel) rfl
theorem hL_X11_92 : Cond.methodLink RX11 92 yX3_hold ∈ f_tbl := f_t 407 (by decide +kernel) rfl
theorem hL_X11_96 : Cond.methodLink RX11 96 yX4_turn ∈ f_tbl := f_t 411 (by decide +kernel) rfl
theorem hL_X11_100 : Cond.methodLink RX11 100 yX4_of ∈ f_tbl := f_t 415 (by decide +kernel) rfl
theorem hL_X4_28 : Cond.methodLink RX4 28 yJ9_abs_067f4 ∈ f_tbl := f_t 419 (by decide +kernel) rfl
theorem hK_X4_40 : Cond.constantLong RX4 40 (100000) ∈ f_tbl := f_t 422 (by decide +kernel) rfl
theorem hK_X4_42 : Cond.constantLong RX4 42 (10) ∈ f_tbl := f_t 423 (by decide +kernel) rfl
theorem hL_X4_44 : Cond.methodLink RX4 44 yX4_goesOn ∈ f_tbl := f_t 424 (by decide +kernel) rfl
theorem hK_X4_52 : Cond.constantLong RX4 52 (2) ∈ f_tbl := f_t 428 (by decide +kernel) rfl
theorem hL_X4_48 : Cond.methodLink RX4 48 yX4_placed ∈ f_tbl := f_t 429 (by decide +kernel) rfl
theorem hK_X4_58 : Cond.constantLong RX4 58 (1000000000000000000) ∈ f_tbl := f_t 435 (by decide +kernel) rfl
theorem hK_X4_60 : Cond.constantLong RX4 60 (1000) ∈ f_tbl := f_t 436 (by decide +kernel) rfl
theorem hL_L_23 : Cond.methodLink RL 23 yX11_say ∈ f_tbl := f_t 437 (by decide +kernel) rfl
theorem hL_L_28 : Cond.methodLink RL 28 yX11_wipe ∈ f_tbl := f_t 441 (by decide +kernel) rfl
theorem hL_L_33 : Cond.methodLink RL 33 yX11_fault ∈ f_tbl := f_t 445 (by decide +kernel) rfl
theorem hL_X11_104 : Cond.methodLink RX11 104 yX11_isOperator ∈ f_tbl := f_t 449 (by decide +kernel) rfl
theorem hL_X11_108 : Cond.methodLink RX11 108 yX11_isLetter ∈ f_tbl := f_t 450 (by decide +kernel) rfl
theorem hL_X11_111 : Cond.methodLink RX11 111 yX11_isDigit ∈ f_tbl := f_t 451 (by decide +kernel) rfl
theorem hL_L_37 : Cond.methodLink RL 37 yX11_text ∈ f_tbl := f_t 454 (by decide +kernel) rfl
theorem hL_X11_114 : Cond.methodLink RX11 114 yX11_fault ∈ f_tbl := f_t 458 (by decide +kernel) rfl
theorem hL_X11_122 : Cond.methodLink RX11 122 yX10_read ∈ f_tbl := f_t 459 (by decide +kernel) rfl
theorem hL_X10_34 : Cond.methodLink RX10 34 yX10_add ∈ f_tbl := f_t 463 (by decide +kernel) rfl
theorem hL_L_41 : Cond.methodLink RL 41 yX11_sign ∈ f_tbl := f_t 467 (by decide +kernel) rfl
theorem hL_X11_131 : Cond.methodLink RX11 131 yX10_has ∈ f_tbl := f_t 471 (by decide +kernel) rfl
theorem hL_X11_134 : Cond.methodLink RX11 134 yX10_signAt ∈ f_tbl := f_t 475 (by decide +kernel) rfl
theorem hL_L_45 : Cond.methodLink RL 45 yX11_put ∈ f_tbl := f_t 479 (by decide +kernel) rfl
theorem hL_L_50 : Cond.methodLink RL 50 yX11_worked ∈ f_tbl := f_t 483 (by decide +kernel) rfl
theorem hK_X11_143 : Cond.constantLong RX11 143 (-1000000000000000001) ∈ f_tbl := f_t 487 (by decide +kernel) rfl
theorem hL_X11_149 : Cond.methodLink RX11 149 yX0_workParts ∈ f_tbl := f_t 488 (by decide +kernel) rfl
theorem hL_X0_24 : Cond.methodLink RX0 24 yJ9_min_7cf53 ∈ f_tbl := f_t 492 (by decide +kernel) rfl
theorem hL_X0_41 : Cond.methodLink RX0 41 yX10_secondOf ∈ f_tbl := f_t 494 (by decide +kernel) rfl
theorem hL_X0_45 : Cond.methodLink RX0 45 yX0_join ∈ f_tbl := f_t 498 (by decide +kernel) rfl
theorem hL_X0_53 : Cond.methodLink RX0 53 yJ9_abs_067f4 ∈ f_tbl := f_t 502 (by decide +kernel) rfl
theorem hL_X11_155 : Cond.methodLink RX11 155 yX0_billionths ∈ f_tbl := f_t 506 (by decide +kernel) rfl
theorem hK_X0_57 : Cond.constantLong RX0 57 (1000000000000000000) ∈ f_tbl := f_t 510 (by decide +kernel) rfl
theorem hK_X0_59 : Cond.constantLong RX0 59 (10000000) ∈ f_tbl := f_t 511 (by decide +kernel) rfl
theorem hK_X0_61 : Cond.constantLong RX0 61 (1000) ∈ f_tbl := f_t 512 (by decide +kernel) rfl
theorem hL_X11_159 : Cond.methodLink RX11 159 yX11_workNow ∈ f_tbl := f_t 513 (by decide +kernel) rfl
theorem hL_X11_286 : Cond.methodLink RX11 286 yX8_work ∈ f_tbl := f_t 517 (by decide +kernel) rfl
theorem hL_X8_45 : Cond.methodLink RX8 45 yJ9_min_7cf53 ∈ f_tbl := f_t 521 (by decide +kernel) rfl
theorem hL_X8_51 : Cond.methodLink RX8 51 yX10_signAt ∈ f_tbl := f_t 522 (by decide +kernel) rfl
theorem hK_X11_182 : Cond.constantLong RX11 182 (1000000000000000000) ∈ f_tbl := f_t 527 (by decide +kernel) rfl
theorem hL_X8_63 : Cond.methodLink RX8 63 yX10_secondOf ∈ f_tbl := f_t 528 (by decide +kernel) rfl
theorem hK_X8_66 : Cond.constantLong RX8 66 (1000000000000000000) ∈ f_tbl := f_t 529 (by decide +kernel) rfl
theorem hL_X8_68 : Cond.methodLink RX8 68 yX3_join ∈ f_tbl := f_t 530 (by decide +kernel) rfl
theorem hL_X3_22 : Cond.methodLink RX3 22 yX3_hold ∈ f_tbl := f_t 534 (by decide +kernel) rfl
theorem hL_X3_26 : Cond.methodLink RX3 26 yX3_lastZeros ∈ f_tbl := f_t 535 (by decide +kernel) rfl
theorem hK_X3_40 : Cond.constantLong RX3 40 (10) ∈ f_tbl := f_t 538 (by decide +kernel) rfl
theorem hL_X3_34 : Cond.methodLink RX3 34 yJ9_abs_067f4 ∈ f_tbl := f_t 540 (by decide +kernel) rfl
theorem hL_X8_76 : Cond.methodLink RX8 76 yX3_hold ∈ f_tbl := f_t 542 (by decide +kernel) rfl
theorem hL_X8_80 : Cond.methodLink RX8 80 yX4_of ∈ f_tbl := f_t 543 (by decide +kernel) rfl
theorem hL_X8_84 : Cond.methodLink RX8 84 yX3_cut ∈ f_tbl := f_t 544 (by decide +kernel) rfl
theorem hL_X11_166 : Cond.methodLink RX11 166 yX11_at ∈ f_tbl := f_t 548 (by decide +kernel) rfl
theorem hL_L_55 : Cond.methodLink RL 55 yX11_exact ∈ f_tbl := f_t 549 (by decide +kernel) rfl
theorem hL_X11_173 : Cond.methodLink RX11 173 yX0_lowest ∈ f_tbl := f_t 553 (by decide +kernel) rfl
theorem hL_X0_63 : Cond.methodLink RX0 63 yX0_sharedDivisor ∈ f_tbl := f_t 557 (by decide +kernel) rfl
theorem hL_L_60 : Cond.methodLink RL 60 yX11_loss ∈ f_tbl := f_t 560 (by decide +kernel) rfl
theorem hL_X11_178 : Cond.methodLink RX11 178 yX8_lossOf ∈ f_tbl := f_t 564 (by decide +kernel) rfl
theorem hL_X8_88 : Cond.methodLink RX8 88 yX8_work ∈ f_tbl := f_t 568 (by decide +kernel) rfl
theorem hL_X8_92 : Cond.methodLink RX8 92 yX0_workParts ∈ f_tbl := f_t 569 (by decide +kernel) rfl
theorem hL_X8_96 : Cond.methodLink RX8 96 yX0_billionths ∈ f_tbl := f_t 570 (by decide +kernel) rfl
theorem hL_L_65 : Cond.methodLink RL 65 yX11_worst ∈ f_tbl := f_t 571 (by decide +kernel) rfl
theorem hL_X11_184 : Cond.methodLink RX11 184 yJ9_abs_067f4 ∈ f_tbl := f_t 575 (by decide +kernel) rfl
theorem hL_L_71 : Cond.methodLink RL 71 yX11_needs ∈ f_tbl := f_t 576 (by decide +kernel) rfl
theorem hL_L_76 : Cond.methodLink RL 76 yX11_term ∈ f_tbl := f_t 580 (by decide +kernel) rfl
theorem hK_X11_190 : Cond.constantLong RX11 190 (-10000000000000000) ∈ f_tbl := f_t 584 (by decide +kernel) rfl
theorem hK_X11_192 : Cond.constantLong RX11 192 (10000000000000000) ∈ f_tbl := f_t 585 (by decide +kernel) rfl
theorem hL_L_80 : Cond.methodLink RL 80 yX11_clear ∈ f_tbl := f_t 586 (by decide +kernel) rfl
theorem hL_L_84 : Cond.methodLink RL 84 yX11_about ∈ f_tbl := f_t 590 (by decide +kernel) rfl
theorem hL_L_88 : Cond.methodLink RL 88 yX11_sum ∈ f_tbl := f_t 594 (by decide +kernel) rfl
theorem hK_X11_200 : Cond.constantLong RX11 200 (-1000000000000000006) ∈ f_tbl := f_t 598 (by decide +kernel) rfl
theorem hL_X11_202 : Cond.methodLink RX11 202 yX9_take ∈ f_tbl := f_t 599 (by decide +kernel) rfl
theorem hL_X9_45 : Cond.methodLink RX9 45 yX4_turn ∈ f_tbl := f_t 603 (by decide +kernel) rfl
theorem hL_X9_50 : Cond.methodLink RX9 50 arraycopyName ∈ f_tbl := f_t 604 (by decide +kernel) rfl
theorem hL_X9_59 : Cond.methodLink RX9 59 yJ9_min_7cf53 ∈ f_tbl := f_t 607 (by decide +kernel) rfl
theorem hL_X9_65 : Cond.methodLink RX9 65 yJ9_max_7cf53 ∈ f_tbl := f_t 608 (by decide +kernel) rfl
theorem hL_X11_206 : Cond.methodLink RX11 206 yX9_asTold ∈ f_tbl := f_t 611 (by decide +kernel) rfl
theorem hL_X9_78 : Cond.methodLink RX9 78 yX9_plus ∈ f_tbl := f_t 615 (by decide +kernel) rfl
theorem hK_X9_68 : Cond.constantLong RX9 68 (1000000000000000000) ∈ f_tbl := f_t 619 (by decide +kernel) rfl
theorem hL_X9_70 : Cond.methodLink RX9 70 yX3_hold ∈ f_tbl := f_t 620 (by decide +kernel) rfl
theorem hL_X9_74 : Cond.methodLink RX9 74 yX4_of ∈ f_tbl := f_t 621 (by decide +kernel) rfl
theorem hL_X11_210 : Cond.methodLink RX11 210 yX9_beside ∈ f_tbl := f_t 622 (by decide +kernel) rfl
theorem hL_X9_82 : Cond.methodLink RX9 82 yX9_less ∈ f_tbl := f_t 626 (by decide +kernel) rfl
theorem hL_X11_213 : Cond.methodLink RX11 213 yX9_halves ∈ f_tbl := f_t 630 (by decide +kernel) rfl
theorem hL_X9_85 : Cond.methodLink RX9 85 yX9_halfSum ∈ f_tbl := f_t 634 (by decide +kernel) rfl
theorem hL_X11_216 : Cond.methodLink RX11 216 yX9_bySize ∈ f_tbl := f_t 638 (by decide +kernel) rfl
theorem hL_X9_89 : Cond.methodLink RX9 89 yX9_insertBySize ∈ f_tbl := f_t 642 (by decide +kernel) rfl
theorem hL_X9_97 : Cond.methodLink RX9 97 yJ9_abs_067f4 ∈ f_tbl := f_t 647 (by decide +kernel) rfl
theorem hL_X11_219 : Cond.methodLink RX11 219 yX9_whole ∈ f_tbl := f_t 648 (by decide +kernel) rfl
theorem hL_L_92 : Cond.methodLink RL 92 yX11_orders ∈ f_tbl := f_t 652 (by decide +kernel) rfl
theorem hL_X11_222 : Cond.methodLink RX11 222 yX1_find ∈ f_tbl := f_t 656 (by decide +kernel) rfl
theorem hL_X1_42 : Cond.methodLink RX1 42 yX9_take ∈ f_tbl := f_t 660 (by decide +kernel) rfl
theorem hL_X1_46 : Cond.methodLink RX1 46 yX9_whole ∈ f_tbl := f_t 661 (by decide +kernel) rfl
theorem hL_X1_53 : Cond.methodLink RX1 53 yX1_extend ∈ f_tbl := f_t 662 (by decide +kernel) rfl
theorem hL_X1_57 : Cond.methodLink RX1 57 yX1_note ∈ f_tbl := f_t 666 (by decide +kernel) rfl
theorem hL_X1_70 : Cond.methodLink RX1 70 yX1_isPreferred ∈ f_tbl := f_t 670 (by decide +kernel) rfl
theorem hL_X1_80 : Cond.methodLink RX1 80 yJ9_abs_067f4 ∈ f_tbl := f_t 673 (by decide +kernel) rfl
theorem hL_X1_74 : Cond.methodLink RX1 74 arraycopyName ∈ f_tbl := f_t 674 (by decide +kernel) rfl
theorem hL_X1_64 : Cond.methodLink RX1 64 yX9_plus ∈ f_tbl := f_t 675 (by decide +kernel) rfl
theorem hK_X1_68 : Cond.constantLong RX1 68 (1000000000000000000) ∈ f_tbl := f_t 676 (by decide +kernel) rfl
theorem hL_L_96 : Cond.methodLink RL 96 yX11_order ∈ f_tbl := f_t 677 (by decide +kernel) rfl
theorem hL_L_100 : Cond.methodLink RL 100 yX11_bounds ∈ f_tbl := f_t 681 (by decide +kernel) rfl
theorem hL_X11_235 : Cond.methodLink RX11 235 yX7_bound ∈ f_tbl := f_t 685 (by decide +kernel) rfl
theorem hL_X7_71 : Cond.methodLink RX7 71 yX4_turn ∈ f_tbl := f_t 689 (by decide +kernel) rfl
theorem hL_X7_84 : Cond.methodLink RX7 84 yJ9_min_7cf53 ∈ f_tbl := f_t 690 (by decide +kernel) rfl
theorem hL_X7_90 : Cond.methodLink RX7 90 yX10_signAt ∈ f_tbl := f_t 691 (by decide +kernel) rfl
theorem hL_X7_98 : Cond.methodLink RX7 98 yX10_secondOf ∈ f_tbl := f_t 693 (by decide +kernel) rfl
theorem hL_X7_101 : Cond.methodLink RX7 101 yX7_join ∈ f_tbl := f_t 694 (by decide +kernel) rfl
theorem hL_X7_130 : Cond.methodLink RX7 130 yX7_makeGreat ∈ f_tbl := f_t 699 (by decide +kernel) rfl
theorem hK_X7_136 : Cond.constantLong RX7 136 (9223372036854775807) ∈ f_tbl := f_t 703 (by decide +kernel) rfl
theorem hK_X7_138 : Cond.constantLong RX7 138 (-9223372036854775808) ∈ f_tbl := f_t 704 (by decide +kernel) rfl
theorem hL_X7_140 : Cond.methodLink RX7 140 yX7_widen ∈ f_tbl := f_t 705 (by decide +kernel) rfl
theorem hL_X7_144 : Cond.methodLink RX7 144 yX3_join ∈ f_tbl := f_t 709 (by decide +kernel) rfl
theorem hL_X7_122 : Cond.methodLink RX7 122 yX4_of ∈ f_tbl := f_t 710 (by decide +kernel) rfl
theorem hL_X7_147 : Cond.methodLink RX7 147 yJ9_min_f86c9 ∈ f_tbl := f_t 711 (by decide +kernel) rfl
theorem hL_X7_150 : Cond.methodLink RX7 150 yJ9_max_f86c9 ∈ f_tbl := f_t 714 (by decide +kernel) rfl
theorem hL_X7_118 : Cond.methodLink RX7 118 yX3_hold ∈ f_tbl := f_t 719 (by decide +kernel) rfl
theorem hL_L_104 : Cond.methodLink RL 104 yX11_truth ∈ f_tbl := f_t 720 (by decide +kernel) rfl
theorem hL_X11_244 : Cond.methodLink RX11 244 yX7_findTruth ∈ f_tbl := f_t 724 (by decide +kernel) rfl
theorem hL_X7_153 : Cond.methodLink RX7 153 yX7_startTrials ∈ f_tbl := f_t 728 (by decide +kernel) rfl
theorem hL_X7_171 : Cond.methodLink RX7 171 yX10_lettersOf ∈ f_tbl := f_t 732 (by decide +kernel) rfl
theorem hK_X7_157 : Cond.constantLong RX7 157 (-1000000000000000000) ∈ f_tbl := f_t 733 (by decide +kernel) rfl
theorem hL_X7_159 : Cond.methodLink RX7 159 yX0_workParts ∈ f_tbl := f_t 734 (by decide +kernel) rfl
theorem hL_X7_163 : Cond.methodLink RX7 163 yX0_billionths ∈ f_tbl := f_t 735 (by decide +kernel) rfl
theorem hL_X7_167 : Cond.methodLink RX7 167 yX7_nextTrial ∈ f_tbl := f_t 736 (by decide +kernel) rfl
theorem hL_L_108 : Cond.methodLink RL 108 yX11_fits ∈ f_tbl := f_t 740 (by decide +kernel) rfl
theorem hL_X11_254 : Cond.methodLink RX11 254 yX5_suits ∈ f_tbl := f_t 744 (by decide +kernel) rfl
theorem hL_X5_9 : Cond.methodLink RX5 9 yX10_signAt ∈ f_tbl := f_t 747 (by decide +kernel) rfl
theorem hL_X5_15 : Cond.methodLink RX5 15 yX10_secondOf ∈ f_tbl := f_t 748 (by decide +kernel) rfl
theorem hL_X5_18 : Cond.methodLink RX5 18 yX5_hasRoomToSpread ∈ f_tbl := f_t 749 (by decide +kernel) rfl
theorem hL_X5_30 : Cond.methodLink RX5 30 yX10_endOf ∈ f_tbl := f_t 752 (by decide +kernel) rfl
theorem hL_X5_24 : Cond.methodLink RX5 24 yX5_sharesFactor ∈ f_tbl := f_t 753 (by decide +kernel) rfl
theorem hL_X5_37 : Cond.methodLink RX5 37 yX10_areAlike ∈ f_tbl := f_t 756 (by decide +kernel) rfl
theorem hL_X10_38 : Cond.methodLink RX10 38 yX10_signAt ∈ f_tbl := f_t 760 (by decide +kernel) rfl
theorem hL_X5_27 : Cond.methodLink RX5 27 yX5_isOfSquares ∈ f_tbl := f_t 761 (by decide +kernel) rfl
theorem hL_L_112 : Cond.methodLink RL 112 yX11_change ∈ f_tbl := f_t 764 (by decide +kernel) rfl
theorem hL_X11_263 : Cond.methodLink RX11 263 yX5_write ∈ f_tbl := f_t 768 (by decide +kernel) rfl
theorem hL_X5_41 : Cond.methodLink RX5 41 yX5_suits ∈ f_tbl := f_t 771 (by decide +kernel) rfl
theorem hL_X5_45 : Cond.methodLink RX5 45 yX10_addPlaces ∈ f_tbl := f_t 772 (by decide +kernel) rfl
theorem hL_X5_49 : Cond.methodLink RX5 49 yX5_writeFactors ∈ f_tbl := f_t 776 (by decide +kernel) rfl
theorem hL_X5_59 : Cond.methodLink RX5 59 yX10_add ∈ f_tbl := f_t 779 (by decide +kernel) rfl
theorem hL_X5_63 : Cond.methodLink RX5 63 yX10_addPart ∈ f_tbl := f_t 780 (by decide +kernel) rfl
theorem hL_X10_45 : Cond.methodLink RX10 45 yX10_addPlaces ∈ f_tbl := f_t 784 (by decide +kernel) rfl
theorem hL_X5_53 : Cond.methodLink RX5 53 yX5_writeShift ∈ f_tbl := f_t 785 (by decide +kernel) rfl
theorem hL_X5_56 : Cond.methodLink RX5 56 yX10_findParts ∈ f_tbl := f_t 788 (by decide +kernel) rfl
theorem hL_X11_267 : Cond.methodLink RX11 267 yX10_copyFrom ∈ f_tbl := f_t 789 (by decide +kernel) rfl
theorem hL_X10_28 : Cond.methodLink RX10 28 arraycopyName ∈ f_tbl := f_t 793 (by decide +kernel) rfl
theorem hL_L_116 : Cond.methodLink RL 116 yX11_better ∈ f_tbl := f_t 794 (by decide +kernel) rfl
theorem hL_X11_271 : Cond.methodLink RX11 271 yX6_find ∈ f_tbl := f_t 798 (by decide +kernel) rfl
theorem hL_X6_53 : Cond.methodLink RX6 53 yX4_turn ∈ f_tbl := f_t 802 (by decide +kernel) rfl
theorem hL_X6_66 : Cond.methodLink RX6 66 yX6_consider ∈ f_tbl := f_t 803 (by decide +kernel) rfl
theorem hL_X6_83 : Cond.methodLink RX6 83 yX8_lossOf ∈ f_tbl := f_t 807 (by decide +kernel) rfl
theorem hL_X6_87 : Cond.methodLink RX6 87 yJ9_abs_067f4 ∈ f_tbl := f_t 808 (by decide +kernel) rfl
theorem hL_X6_93 : Cond.methodLink RX6 93 yX10_copyFrom ∈ f_tbl := f_t 809 (by decide +kernel) rfl
theorem hL_X6_73 : Cond.methodLink RX6 73 yX5_write ∈ f_tbl := f_t 810 (by decide +kernel) rfl
theorem hL_X6_79 : Cond.methodLink RX6 79 yX6_changeAgain ∈ f_tbl := f_t 811 (by decide +kernel) rfl
theorem hL_L_120 : Cond.methodLink RL 120 yX11_betterSign ∈ f_tbl := f_t 815 (by decide +kernel) rfl
theorem hL_L_124 : Cond.methodLink RL 124 yX11_image ∈ f_tbl := f_t 819 (by decide +kernel) rfl
theorem hL_X11_280 : Cond.methodLink RX11 280 yX2_copyFrom ∈ f_tbl := f_t 823 (by decide +kernel) rfl
theorem hL_X2_43 : Cond.methodLink RX2 43 yX10_copyFrom ∈ f_tbl := f_t 827 (by decide +kernel) rfl
theorem hL_X2_47 : Cond.methodLink RX2 47 arraycopyName ∈ f_tbl := f_t 828 (by decide +kernel) rfl
theorem hL_L_128 : Cond.methodLink RL 128 yX11_restore ∈ f_tbl := f_t 829 (by decide +kernel) rfl
theorem hL_L_132 : Cond.methodLink RL 132 yX11_told ∈ f_tbl := f_t 833 (by decide +kernel) rfl
theorem hL_L_12 : Cond.methodLink RL 12 yX12_init ∈ f_tbl := f_t 839 (by decide +kernel) rfl
theorem hL_X12_1 : Cond.methodLink RX12 1 objectInit ∈ f_tbl := f_t 842 (by decide +kernel) rfl
theorem hF_X12_75 : Cond.fieldLink RX12 75 "LostDigitsModel" "digits" "I" ∈ f_tbl := f_t 843 (by decide +kernel) rfl
theorem hF_X12_142 : Cond.fieldLink RX12 142 "LostDigitsModel" "way" "I" ∈ f_tbl := f_t 844 (by decide +kernel) rfl
theorem hF_X12_106 : Cond.fieldLink RX12 106 "LostDigitsModel" "short0" "J" ∈ f_tbl := f_t 845 (by decide +kernel) rfl
theorem hF_X12_110 : Cond.fieldLink RX12 110 "LostDigitsModel" "zeros" "I" ∈ f_tbl := f_t 846 (by decide +kernel) rfl
theorem hF_X12_117 : Cond.fieldLink RX12 117 "LostDigitsModel" "upper0" "J" ∈ f_tbl := f_t 847 (by decide +kernel) rfl
theorem hF_X12_120 : Cond.fieldLink RX12 120 "LostDigitsModel" "lower0" "J" ∈ f_tbl := f_t 848 (by decide +kernel) rfl
theorem hF_X12_123 : Cond.fieldLink RX12 123 "LostDigitsModel" "power0" "I" ∈ f_tbl := f_t 849 (by decide +kernel) rfl
theorem hF_X12_7 : Cond.fieldLink RX12 7 "LostDigitsModel" "pad" "[I" ∈ f_tbl := f_t 850 (by decide +kernel) rfl
theorem hF_X12_159 : Cond.fieldLink RX12 159 "LostDigitsModel" "padMany" "I" ∈ f_tbl := f_t 851 (by decide +kernel) rfl
theorem hF_X12_13 : Cond.fieldLink RX12 13 "LostDigitsModel" "text" "[I" ∈ f_tbl := f_t 852 (by decide +kernel) rfl
theorem hF_X12_79 : Cond.fieldLink RX12 79 "LostDigitsModel" "textMany" "I" ∈ f_tbl := f_t 853 (by decide +kernel) rfl
theorem hF_X12_16 : Cond.fieldLink RX12 16 "LostDigitsModel" "number" "[I" ∈ f_tbl := f_t 854 (by decide +kernel) rfl
theorem hF_X12_19 : Cond.fieldLink RX12 19 "LostDigitsModel" "span" "[I" ∈ f_tbl := f_t 855 (by decide +kernel) rfl
theorem hF_X12_22 : Cond.fieldLink RX12 22 "LostDigitsModel" "now" "[I" ∈ f_tbl := f_t 856 (by decide +kernel) rfl
theorem hF_X12_192 : Cond.fieldLink RX12 192 "LostDigitsModel" "nowMany" "I" ∈ f_tbl := f_t 857 (by decide +kernel) rfl
theorem hF_X12_25 : Cond.fieldLink RX12 25 "LostDigitsModel" "sizeOf" "[I" ∈ f_tbl := f_t 858 (by decide +kernel) rfl
theorem hF_X12_28 : Cond.fieldLink RX12 28 "LostDigitsModel" "workedTo" "[J" ∈ f_tbl := f_t 859 (by decide +kernel) rfl
theorem hF_X12_32 : Cond.fieldLink RX12 32 "LostDigitsModel" "slip" "[J" ∈ f_tbl := f_t 860 (by decide +kernel) rfl
theorem hF_X12_35 : Cond.fieldLink RX12 35 "LostDigitsModel" "exactUpper" "[J" ∈ f_tbl := f_t 861 (by decide +kernel) rfl
theorem hF_X12_38 : Cond.fieldLink RX12 38 "LostDigitsModel" "exactLower" "[J" ∈ f_tbl := f_t 862 (by decide +kernel) rfl
theorem hF_X12_41 : Cond.fieldLink RX12 41 "LostDigitsModel" "more" "[I" ∈ f_tbl := f_t 863 (by decide +kernel) rfl
theorem hF_X12_44 : Cond.fieldLink RX12 44 "LostDigitsModel" "terms" "[J" ∈ f_tbl := f_t 864 (by decide +kernel) rfl
theorem hF_X12_247 : Cond.fieldLink RX12 247 "LostDigitsModel" "termMany" "I" ∈ f_tbl := f_t 865 (by decide +kernel) rfl
theorem hF_X12_47 : Cond.fieldLink RX12 47 "LostDigitsModel" "order" "[I" ∈ f_tbl := f_t 866 (by decide +kernel) rfl
theorem hF_X12_276 : Cond.fieldLink RX12 276 "LostDigitsModel" "bestLoss" "J" ∈ f_tbl := f_t 867 (by decide +kernel) rfl
theorem hF_X12_273 : Cond.fieldLink RX12 273 "LostDigitsModel" "bestMany" "I" ∈ f_tbl := f_t 868 (by decide +kernel) rfl
theorem hF_X12_50 : Cond.fieldLink RX12 50 "LostDigitsModel" "bestOrder" "[I" ∈ f_tbl := f_t 869 (by decide +kernel) rfl
theorem hF_X12_53 : Cond.fieldLink RX12 53 "LostDigitsModel" "low" "[J" ∈ f_tbl := f_t 870 (by decide +kernel) rfl
theorem hF_X12_56 : Cond.fieldLink RX12 56 "LostDigitsModel" "high" "[J" ∈ f_tbl := f_t 871 (by decide +kernel) rfl
theorem hF_X12_59 : Cond.fieldLink RX12 59 "LostDigitsModel" "built" "[I" ∈ f_tbl := f_t 872 (by decide +kernel) rfl
theorem hF_X12_310 : Cond.fieldLink RX12 310 "LostDigitsModel" "builtMany" "I" ∈ f_tbl := f_t 873 (by decide +kernel) rfl
theorem hF_X12_62 : Cond.fieldLink RX12 62 "LostDigitsModel" "better" "[I" ∈ f_tbl := f_t 874 (by decide +kernel) rfl
theorem hF_X12_339 : Cond.fieldLink RX12 339 "LostDigitsModel" "betterMany" "I" ∈ f_tbl := f_t 875 (by decide +kernel) rfl
theorem hF_X12_342 : Cond.fieldLink RX12 342 "LostDigitsModel" "betterLoss" "J" ∈ f_tbl := f_t 876 (by decide +kernel) rfl
theorem hF_X12_65 : Cond.fieldLink RX12 65 "LostDigitsModel" "base" "[I" ∈ f_tbl := f_t 877 (by decide +kernel) rfl
theorem hF_X12_345 : Cond.fieldLink RX12 345 "LostDigitsModel" "baseMany" "I" ∈ f_tbl := f_t 878 (by decide +kernel) rfl
theorem hF_X12_68 : Cond.fieldLink RX12 68 "LostDigitsModel" "kept" "[J" ∈ f_tbl := f_t 879 (by decide +kernel) rfl
theorem hF_X12_71 : Cond.fieldLink RX12 71 "LostDigitsModel" "isKept" "[Z" ∈ f_tbl := f_t 880 (by decide +kernel) rfl
theorem hF_X12_370 : Cond.fieldLink RX12 370 "LostDigitsModel" "keptAt" "I" ∈ f_tbl := f_t 881 (by decide +kernel) rfl
theorem hF_X12_366 : Cond.fieldLink RX12 366 "LostDigitsModel" "isWriting" "Z" ∈ f_tbl := f_t 882 (by decide +kernel) rfl
theorem hL_L_17 : Cond.methodLink RL 17 yX12_set ∈ f_tbl := f_t 965 (by decide +kernel) rfl
theorem hL_X12_134 : Cond.methodLink RX12 134 yX12_isEnd ∈ f_tbl := f_t 969 (by decide +kernel) rfl
theorem hL_X12_82 : Cond.methodLink RX12 82 yX12_in ∈ f_tbl := f_t 972 (by decide +kernel) rfl
theorem hK_X12_138 : Cond.constantLong RX12 138 (4) ∈ f_tbl := f_t 975 (by decide +kernel) rfl
theorem hK_X12_140 : Cond.constantLong RX12 140 (3) ∈ f_tbl := f_t 976 (by decide +kernel) rfl
theorem hL_L_22 : Cond.methodLink RL 22 yX12_round ∈ f_tbl := f_t 977 (by decide +kernel) rfl
theorem hK_X12_145 : Cond.constantLong RX12 145 (-1000000) ∈ f_tbl := f_t 981 (by decide +kernel) rfl
theorem hK_X12_147 : Cond.constantLong RX12 147 (1000000) ∈ f_tbl := f_t 982 (by decide +kernel) rfl
theorem hK_X12_149 : Cond.constantLong RX12 149 (-9) ∈ f_tbl := f_t 983 (by decide +kernel) rfl
theorem hK_X12_151 : Cond.constantLong RX12 151 (9) ∈ f_tbl := f_t 984 (by decide +kernel) rfl
theorem hK_X12_153 : Cond.constantLong RX12 153 (-1000000000000000002) ∈ f_tbl := f_t 985 (by decide +kernel) rfl
theorem hL_X12_98 : Cond.methodLink RX12 98 yX12_size ∈ f_tbl := f_t 986 (by decide +kernel) rfl
theorem hL_X12_102 : Cond.methodLink RX12 102 yX12_rounded ∈ f_tbl := f_t 989 (by decide +kernel) rfl
theorem hK_X12_86 : Cond.constantLong RX12 86 (10) ∈ f_tbl := f_t 993 (by decide +kernel) rfl
theorem hK_X12_88 : Cond.constantLong RX12 88 (2) ∈ f_tbl := f_t 994 (by decide +kernel) rfl
theorem hL_X12_90 : Cond.methodLink RX12 90 yX12_power ∈ f_tbl := f_t 995 (by decide +kernel) rfl
theorem hK_X12_94 : Cond.constantLong RX12 94 (1000000000000000000) ∈ f_tbl := f_t 998 (by decide +kernel) rfl
theorem hK_X12_96 : Cond.constantLong RX12 96 (1000) ∈ f_tbl := f_t 999 (by decide +kernel) rfl
theorem hL_L_27 : Cond.methodLink RL 27 yX12_say ∈ f_tbl := f_t 1000 (by decide +kernel) rfl
theorem hK_X12_155 : Cond.constantLong RX12 155 (33) ∈ f_tbl := f_t 1004 (by decide +kernel) rfl
theorem hK_X12_157 : Cond.constantLong RX12 157 (126) ∈ f_tbl := f_t 1005 (by decide +kernel) rfl
theorem hL_L_32 : Cond.methodLink RL 32 yX12_wipe ∈ f_tbl := f_t 1006 (by decide +kernel) rfl
theorem hL_L_36 : Cond.methodLink RL 36 yX12_fault ∈ f_tbl := f_t 1010 (by decide +kernel) rfl
theorem hL_X12_170 : Cond.methodLink RX12 170 yX12_isSign ∈ f_tbl := f_t 1014 (by decide +kernel) rfl
theorem hL_X12_173 : Cond.methodLink RX12 173 yX12_isLetter ∈ f_tbl := f_t 1017 (by decide +kernel) rfl
theorem hK_X12_162 : Cond.constantLong RX12 162 (97) ∈ f_tbl := f_t 1020 (by decide +kernel) rfl
theorem hK_X12_164 : Cond.constantLong RX12 164 (101) ∈ f_tbl := f_t 1021 (by decide +kernel) rfl
theorem hL_X12_176 : Cond.methodLink RX12 176 yX12_isDigit ∈ f_tbl := f_t 1022 (by decide +kernel) rfl
theorem hK_X12_166 : Cond.constantLong RX12 166 (48) ∈ f_tbl := f_t 1025 (by decide +kernel) rfl
theorem hK_X12_168 : Cond.constantLong RX12 168 (57) ∈ f_tbl := f_t 1026 (by decide +kernel) rfl
theorem hL_L_40 : Cond.methodLink RL 40 yX12_text ∈ f_tbl := f_t 1027 (by decide +kernel) rfl
theorem hL_X12_179 : Cond.methodLink RX12 179 yX12_fault ∈ f_tbl := f_t 1031 (by decide +kernel) rfl
theorem hL_L_44 : Cond.methodLink RL 44 yX12_sign ∈ f_tbl := f_t 1032 (by decide +kernel) rfl
theorem hL_X12_183 : Cond.methodLink RX12 183 yX12_isStep ∈ f_tbl := f_t 1036 (by decide +kernel) rfl
theorem hL_L_49 : Cond.methodLink RL 49 yX12_put ∈ f_tbl := f_t 1040 (by decide +kernel) rfl
theorem hK_X12_186 : Cond.constantLong RX12 186 (-99) ∈ f_tbl := f_t 1044 (by decide +kernel) rfl
theorem hK_X12_188 : Cond.constantLong RX12 188 (99) ∈ f_tbl := f_t 1045 (by decide +kernel) rfl
theorem hK_X12_190 : Cond.constantLong RX12 190 (5) ∈ f_tbl := f_t 1046 (by decide +kernel) rfl
theorem hL_L_54 : Cond.methodLink RL 54 yX12_worked ∈ f_tbl := f_t 1047 (by decide +kernel) rfl
theorem hK_X12_221 : Cond.constantLong RX12 221 (-1000000000000000001) ∈ f_tbl := f_t 1051 (by decide +kernel) rfl
theorem hL_X12_223 : Cond.methodLink RX12 223 yX12_layText ∈ f_tbl := f_t 1052 (by decide +kernel) rfl
theorem hL_X12_226 : Cond.methodLink RX12 226 yX12_workExact ∈ f_tbl := f_t 1056 (by decide +kernel) rfl
theorem hL_X12_195 : Cond.methodLink RX12 195 yX12_findSizes ∈ f_tbl := f_t 1060 (by decide +kernel) rfl
theorem hL_X12_208 : Cond.methodLink RX12 208 yX12_wholeAt ∈ f_tbl := f_t 1064 (by decide +kernel) rfl
theorem hL_X12_216 : Cond.methodLink RX12 216 yX12_layExact ∈ f_tbl := f_t 1068 (by decide +kernel) rfl
theorem hL_X12_212 : Cond.methodLink RX12 212 yX12_common ∈ f_tbl := f_t 1072 (by decide +kernel) rfl
theorem hL_X12_229 : Cond.methodLink RX12 229 yX12_billionths ∈ f_tbl := f_t 1075 (by decide +kernel) rfl
theorem hK_X12_219 : Cond.constantLong RX12 219 (10000000) ∈ f_tbl := f_t 1079 (by decide +kernel) rfl
theorem hL_X12_233 : Cond.methodLink RX12 233 yX12_work ∈ f_tbl := f_t 1080 (by decide +kernel) rfl
theorem hL_X12_198 : Cond.methodLink RX12 198 yX12_made ∈ f_tbl := f_t 1084 (by decide +kernel) rfl
theorem hL_X12_126 : Cond.methodLink RX12 126 yX12_roundOf ∈ f_tbl := f_t 1088 (by decide +kernel) rfl
theorem hL_X12_130 : Cond.methodLink RX12 130 yX12_layBoth ∈ f_tbl := f_t 1092 (by decide +kernel) rfl
theorem hL_X12_113 : Cond.methodLink RX12 113 yX12_shorten ∈ f_tbl := f_t 1096 (by decide +kernel) rfl
theorem hL_X12_202 : Cond.methodLink RX12 202 yX12_whole ∈ f_tbl := f_t 1100 (by decide +kernel) rfl
theorem hK_X12_206 : Cond.constantLong RX12 206 (1000000000) ∈ f_tbl := f_t 1104 (by decide +kernel) rfl
theorem hL_L_59 : Cond.methodLink RL 59 yX12_exact ∈ f_tbl := f_t 1105 (by decide +kernel) rfl
theorem hL_L_64 : Cond.methodLink RL 64 yX12_loss ∈ f_tbl := f_t 1109 (by decide +kernel) rfl
theorem hL_X12_239 : Cond.methodLink RX12 239 yX12_lossNow ∈ f_tbl := f_t 1113 (by decide +kernel) rfl
theorem hL_X12_236 : Cond.methodLink RX12 236 yX12_less ∈ f_tbl := f_t 1117 (by decide +kernel) rfl
theorem hL_L_68 : Cond.methodLink RL 68 yX12_worst ∈ f_tbl := f_t 1120 (by decide +kernel) rfl
theorem hL_L_75 : Cond.methodLink RL 75 yX12_needs ∈ f_tbl := f_t 1124 (by decide +kernel) rfl
theorem hL_L_79 : Cond.methodLink RL 79 yX12_term ∈ f_tbl := f_t 1128 (by decide +kernel) rfl
theorem hK_X12_243 : Cond.constantLong RX12 243 (-10000000000000000) ∈ f_tbl := f_t 1132 (by decide +kernel) rfl
theorem hK_X12_245 : Cond.constantLong RX12 245 (10000000000000000) ∈ f_tbl := f_t 1133 (by decide +kernel) rfl
theorem hL_L_83 : Cond.methodLink RL 83 yX12_clear ∈ f_tbl := f_t 1134 (by decide +kernel) rfl
theorem hL_L_87 : Cond.methodLink RL 87 yX12_about ∈ f_tbl := f_t 1138 (by decide +kernel) rfl
theorem hL_L_91 : Cond.methodLink RL 91 yX12_sum ∈ f_tbl := f_t 1142 (by decide +kernel) rfl
theorem hK_X12_256 : Cond.constantLong RX12 256 (-1000000000000000006) ∈ f_tbl := f_t 1146 (by decide +kernel) rfl
theorem hL_X12_258 : Cond.methodLink RX12 258 yX12_layOrder ∈ f_tbl := f_t 1147 (by decide +kernel) rfl
theorem hL_X12_261 : Cond.methodLink RX12 261 yX12_beside ∈ f_tbl := f_t 1151 (by decide +kernel) rfl
theorem hL_X12_264 : Cond.methodLink RX12 264 yX12_halves ∈ f_tbl := f_t 1155 (by decide +kernel) rfl
theorem hL_X12_253 : Cond.methodLink RX12 253 yX12_halfOf ∈ f_tbl := f_t 1159 (by decide +kernel) rfl
theorem hL_X12_250 : Cond.methodLink RX12 250 yX12_sumOf ∈ f_tbl := f_t 1163 (by decide +kernel) rfl
theorem hL_X12_267 : Cond.methodLink RX12 267 yX12_orderBySize ∈ f_tbl := f_t 1167 (by decide +kernel) rfl
theorem hL_X12_270 : Cond.methodLink RX12 270 yX12_wholeSum ∈ f_tbl := f_t 1171 (by decide +kernel) rfl
theorem hL_L_95 : Cond.methodLink RL 95 yX12_orders ∈ f_tbl := f_t 1175 (by decide +kernel) rfl
theorem hL_X12_287 : Cond.methodLink RX12 287 yX12_findOrders ∈ f_tbl := f_t 1179 (by decide +kernel) rfl
theorem hL_X12_279 : Cond.methodLink RX12 279 yX12_isBetter ∈ f_tbl := f_t 1183 (by decide +kernel) rfl
theorem hL_X12_283 : Cond.methodLink RX12 283 yX12_nextOrder ∈ f_tbl := f_t 1187 (by decide +kernel) rfl
theorem hL_L_99 : Cond.methodLink RL 99 yX12_order ∈ f_tbl := f_t 1191 (by decide +kernel) rfl
theorem hL_L_103 : Cond.methodLink RL 103 yX12_bounds ∈ f_tbl := f_t 1195 (by decide +kernel) rfl
theorem hL_X12_298 : Cond.methodLink RX12 298 yX12_findEnds ∈ f_tbl := f_t 1199 (by decide +kernel) rfl
theorem hL_X12_291 : Cond.methodLink RX12 291 yX12_layEnds ∈ f_tbl := f_t 1203 (by decide +kernel) rfl
theorem hL_X12_294 : Cond.methodLink RX12 294 yX12_ofPairs ∈ f_tbl := f_t 1207 (by decide +kernel) rfl
theorem hL_L_107 : Cond.methodLink RL 107 yX12_truth ∈ f_tbl := f_t 1211 (by decide +kernel) rfl
theorem hL_X12_307 : Cond.methodLink RX12 307 yX12_truthOf ∈ f_tbl := f_t 1215 (by decide +kernel) rfl
theorem hL_X12_304 : Cond.methodLink RX12 304 yX12_nextNumbers ∈ f_tbl := f_t 1219 (by decide +kernel) rfl
theorem hL_X12_301 : Cond.methodLink RX12 301 yX12_isIn ∈ f_tbl := f_t 1223 (by decide +kernel) rfl
theorem hL_L_111 : Cond.methodLink RL 111 yX12_fits ∈ f_tbl := f_t 1227 (by decide +kernel) rfl
theorem hL_X12_333 : Cond.methodLink RX12 333 yX12_isRule ∈ f_tbl := f_t 1231 (by decide +kernel) rfl
theorem hK_X12_331 : Cond.constantLong RX12 331 (6) ∈ f_tbl := f_t 1234 (by decide +kernel) rfl
theorem hL_X12_336 : Cond.methodLink RX12 336 yX12_build ∈ f_tbl := f_t 1235 (by decide +kernel) rfl
theorem hL_X12_320 : Cond.methodLink RX12 320 yX12_hasSigns ∈ f_tbl := f_t 1239 (by decide +kernel) rfl
theorem hL_X12_316 : Cond.methodLink RX12 316 yX12_isSame ∈ f_tbl := f_t 1243 (by decide +kernel) rfl
theorem hL_X12_313 : Cond.methodLink RX12 313 yX12_add ∈ f_tbl := f_t 1247 (by decide +kernel) rfl
theorem hL_X12_324 : Cond.methodLink RX12 324 yX12_buildPart ∈ f_tbl := f_t 1251 (by decide +kernel) rfl
theorem hL_X12_328 : Cond.methodLink RX12 328 yX12_addPart ∈ f_tbl := f_t 1255 (by decide +kernel) rfl
theorem hL_L_115 : Cond.methodLink RL 115 yX12_change ∈ f_tbl := f_t 1259 (by decide +kernel) rfl
theorem hL_L_119 : Cond.methodLink RL 119 yX12_better ∈ f_tbl := f_t 1263 (by decide +kernel) rfl
theorem hL_X12_363 : Cond.methodLink RX12 363 yX12_findBetter ∈ f_tbl := f_t 1267 (by decide +kernel) rfl
theorem hL_X12_354 : Cond.methodLink RX12 354 yX12_hold ∈ f_tbl := f_t 1271 (by decide +kernel) rfl
theorem hL_X12_357 : Cond.methodLink RX12 357 yX12_keepBase ∈ f_tbl := f_t 1275 (by decide +kernel) rfl
theorem hL_X12_360 : Cond.methodLink RX12 360 yX12_holdAll ∈ f_tbl := f_t 1279 (by decide +kernel) rfl
theorem hL_X12_348 : Cond.methodLink RX12 348 yX12_layBase ∈ f_tbl := f_t 1283 (by decide +kernel) rfl
theorem hL_X12_351 : Cond.methodLink RX12 351 yX12_layBuilt ∈ f_tbl := f_t 1287 (by decide +kernel) rfl
theorem hL_L_123 : Cond.methodLink RL 123 yX12_betterSign ∈ f_tbl := f_t 1291 (by decide +kernel) rfl
theorem hL_L_127 : Cond.methodLink RL 127 yX12_image ∈ f_tbl := f_t 1295 (by decide +kernel) rfl
theorem hL_X12_376 : Cond.methodLink RX12 376 yX12_passAll ∈ f_tbl := f_t 1299 (by decide +kernel) rfl
theorem hL_X12_373 : Cond.methodLink RX12 373 yX12_pass ∈ f_tbl := f_t 1303 (by decide +kernel) rfl
theorem hL_L_131 : Cond.methodLink RL 131 yX12_restore ∈ f_tbl := f_t 1307 (by decide +kernel) rfl
theorem hL_L_135 : Cond.methodLink RL 135 yX12_told ∈ f_tbl := f_t 1311 (by decide +kernel) rfl
theorem hK_X12_379 : Cond.constantLong RX12 379 (14) ∈ f_tbl := f_t 1315 (by decide +kernel) rfl
theorem hK_X12_381 : Cond.constantLong RX12 381 (20) ∈ f_tbl := f_t 1316 (by decide +kernel) rfl
theorem hK_X12_383 : Cond.constantLong RX12 383 (24) ∈ f_tbl := f_t 1317 (by decide +kernel) rfl
theorem hK_L_69 : Cond.constantLong RL 69 (4294967295) ∈ f_tbl := f_t 1318 (by decide +kernel) rfl
/-- the words of nest mates -/
def f_nst : List Cond := [Cond.methodLinkNest RX10 55 yX11_isOperator "LostDigits", Cond.methodLinkNest RX10 62 yX11_isLetter "LostDigits", Cond.methodLinkNest RX11 32 yX3_init "LostDigits", Cond.methodLinkNest RX11 39 yX4_init "LostDigits", Cond.methodLinkNest RX11 46 yX8_init "LostDigits", Cond.methodLinkNest RX8 20 yX0_init "LostDigits", Cond.methodLinkNest RX8 27 yX4_init "LostDigits", Cond.methodLinkNest RX8 34 yX3_init "LostDigits", Cond.methodLinkNest RX11 53 yX9_init "LostDigits", Cond.methodLinkNest RX9 11 yX3_init "LostDigits", Cond.methodLinkNest RX9 20 yX4_init "LostDigits", Cond.methodLinkNest RX11 60 yX1_init "LostDigits", Cond.methodLinkNest RX1 11 yX9_init "LostDigits", Cond.methodLinkNest RX7 20 yX3_init "LostDigits", Cond.methodLinkNest RX7 27 yX4_init "LostDigits", Cond.methodLinkNest RX7 37 yX0_init "LostDigits", Cond.methodLinkNest RX11 74 yX6_init "LostDigits", Cond.methodLinkNest RX6 11 yX8_init "LostDigits", Cond.fieldLinkNest RX4 54 "LostDigits" "TENS" "[J" "LostDigits", Cond.methodLinkNest RX0 37 yX11_isOperator "LostDigits", Cond.methodLinkNest RX0 49 yX11_numberOf "LostDigits", Cond.methodLinkNest RX8 55 yX11_isOperator "LostDigits", Cond.methodLinkNest RX8 59 yX11_at "LostDigits", Cond.fieldLinkNest RX3 30 "LostDigits" "TENS" "[J" "LostDigits", Cond.methodLinkNest RX8 72 yX11_numberOf "LostDigits", Cond.methodLinkNest RX9 93 yX11_at "LostDigits", Cond.methodLinkNest RX7 94 yX11_isOperator "LostDigits", Cond.methodLinkNest RX7 126 yX11_at "LostDigits", Cond.methodLinkNest RX7 105 yX11_isLetter "LostDigits", Cond.methodLinkNest RX7 111 yX11_numberOf "LostDigits"]
theorem f_nst_in : ∀ w ∈ f_nst, w ∈ lw_tbl := by
  intro w hw
  have h : f_nst = [43, 54, 127, 146, 163, 169, 181, 183, 207, 212, 214, 235, 240, 276, 278, 280, 323, 328, 433, 493, 503, 523, 524, 539, 541, 646, 692, 698, 717, 718].filterMap (fun i => tables_1[i]?) := by decide +kernel
  rw [h] at hw
  obtain ⟨i, -, hi⟩ := List.mem_filterMap.mp hw
  exact List.mem_append_right _ (List.mem_of_getElem? hi)
theorem hM_X10_55 : Cond.methodLinkNest RX10 55 yX11_isOperator "LostDigits" ∈ f_nst := List.mem_of_getElem? (i := 0) rfl
theorem hM_X10_62 : Cond.methodLinkNest RX10 62 yX11_isLetter "LostDigits" ∈ f_nst := List.mem_of_getElem? (i := 1) rfl
theorem hM_X11_32 : Cond.methodLinkNest RX11 32 yX3_init "LostDigits" ∈ f_nst := List.mem_of_getElem? (i := 2) rfl
theorem hM_X11_39 : Cond.methodLinkNest RX11 39 yX4_init "LostDigits" ∈ f_nst := List.mem_of_getElem? (i := 3) rfl
theorem hM_X11_46 : Cond.methodLinkNest RX11 46 yX8_init "LostDigits" ∈ f_nst := List.mem_of_getElem? (i := 4) rfl
theorem hM_X8_20 : Cond.methodLinkNest RX8 20 yX0_init "LostDigits" ∈ f_nst := List.mem_of_getElem? (i := 5) rfl
theorem hM_X8_27 : Cond.methodLinkNest RX8 27 yX4_init "LostDigits" ∈ f_nst := List.mem_of_getElem? (i := 6) rfl
theorem hM_X8_34 : Cond.methodLinkNest RX8 34 yX3_init "LostDigits" ∈ f_nst := List.mem_of_getElem? (i := 7) rfl
theorem hM_X11_53 : Cond.methodLinkNest RX11 53 yX9_init "LostDigits" ∈ f_nst := List.mem_of_getElem? (i := 8) rfl
theorem hM_X9_11 : Cond.methodLinkNest RX9 11 yX3_init "LostDigits" ∈ f_nst := List.mem_of_getElem? (i := 9) rfl
theorem hM_X9_20 : Cond.methodLinkNest RX9 20 yX4_init "LostDigits" ∈ f_nst := List.mem_of_getElem? (i := 10) rfl
theorem hM_X11_60 : Cond.methodLinkNest RX11 60 yX1_init "LostDigits" ∈ f_nst := List.mem_of_getElem? (i := 11) rfl
theorem hM_X1_11 : Cond.methodLinkNest RX1 11 yX9_init "LostDigits" ∈ f_nst := List.mem_of_getElem? (i := 12) rfl
theorem hM_X7_20 : Cond.methodLinkNest RX7 20 yX3_init "LostDigits" ∈ f_nst := List.mem_of_getElem? (i := 13) rfl
theorem hM_X7_27 : Cond.methodLinkNest RX7 27 yX4_init "LostDigits" ∈ f_nst := List.mem_of_getElem? (i := 14) rfl
theorem hM_X7_37 : Cond.methodLinkNest RX7 37 yX0_init "LostDigits" ∈ f_nst := List.mem_of_getElem? (i := 15) rfl
theorem hM_X11_74 : Cond.methodLinkNest RX11 74 yX6_init "LostDigits" ∈ f_nst := List.mem_of_getElem? (i := 16) rfl
theorem hM_X6_11 : Cond.methodLinkNest RX6 11 yX8_init "LostDigits" ∈ f_nst := List.mem_of_getElem? (i := 17) rfl
theorem hM_X4_54 : Cond.fieldLinkNest RX4 54 "LostDigits" "TENS" "[J" "LostDigits" ∈ f_nst := List.mem_of_getElem? (i := 18) rfl
theorem hM_X0_37 : Cond.methodLinkNest RX0 37 yX11_isOperator "LostDigits" ∈ f_nst := List.mem_of_getElem? (i := 19) rfl
theorem hM_X0_49 : Cond.methodLinkNest RX0 49 yX11_numberOf "LostDigits" ∈ f_nst := List.mem_of_getElem? (i := 20) rfl
theorem hM_X8_55 : Cond.methodLinkNest RX8 55 yX11_isOperator "LostDigits" ∈ f_nst := List.mem_of_getElem? (i := 21) rfl
theorem hM_X8_59 : Cond.methodLinkNest RX8 59 yX11_at "LostDigits" ∈ f_nst := List.mem_of_getElem? (i := 22) rfl
theorem hM_X3_30 : Cond.fieldLinkNest RX3 30 "LostDigits" "TENS" "[J" "LostDigits" ∈ f_nst := List.mem_of_getElem? (i := 23) rfl
theorem hM_X8_72 : Cond.methodLinkNest RX8 72 yX11_numberOf "LostDigits" ∈ f_nst := List.mem_of_getElem? (i := 24) rfl
theorem hM_X9_93 : Cond.methodLinkNest RX9 93 yX11_at "LostDigits" ∈ f_nst := List.mem_of_getElem? (i := 25) rfl
theorem hM_X7_94 : Cond.methodLinkNest RX7 94 yX11_isOperator "LostDigits" ∈ f_nst := List.mem_of_getElem? (i := 26) rfl
theorem hM_X7_126 : Cond.methodLinkNest RX7 126 yX11_at "LostDigits" ∈ f_nst := List.mem_of_getElem? (i := 27) rfl
theorem hM_X7_105 : Cond.methodLinkNest RX7 105 yX11_isLetter "LostDigits" ∈ f_nst := List.mem_of_getElem? (i := 28) rfl
theorem hM_X7_111 : Cond.methodLinkNest RX7 111 yX11_numberOf "LostDigits" ∈ f_nst := List.mem_of_getElem? (i := 29) rfl
