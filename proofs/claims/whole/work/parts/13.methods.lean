/-! ===== the methods: name, code, locals, answer, handlers, room ===== -/
def mt_0 : vg_M := (yJ7_fill_53178, cJ7_fill_53178, 4, none, [], { frames := 0, cells := 0, slots := 0, locals := 0 })
def mt_1 : vg_M := (yJ9_max_7cf53, cJ9_max_7cf53, 2, (some .int), [], { frames := 0, cells := 0, slots := 0, locals := 0 })
def mt_2 : vg_M := (yJ9_min_7cf53, cJ9_min_7cf53, 2, (some .int), [], { frames := 0, cells := 0, slots := 0, locals := 0 })
def mt_3 : vg_M := (yX0_find, cX0_find, 6, (some .boolean), [], { frames := 2, cells := 0, slots := 0, locals := 60 })
def mt_4 : vg_M := (yX0_init, cX0_init, 1, none, [], { frames := 1, cells := 2, slots := 12, locals := 12 })
def mt_5 : vg_M := (yX0_triedIsBetter, cX0_triedIsBetter, 2, (some .boolean), [], { frames := 0, cells := 0, slots := 0, locals := 0 })
def mt_6 : vg_M := (yX0_tryWith, cX0_tryWith, 6, (some .boolean), [], { frames := 1, cells := 0, slots := 0, locals := 21 })
def mt_7 : vg_M := (yX10_addTicket, cX10_addTicket, 5, (some (.object "ParkOffice$Ticket")), [], { frames := 2, cells := 1, slots := 9, locals := 37 })
def mt_8 : vg_M := (yX10_best, cX10_best, 5, (some .int), [], { frames := 7, cells := 2, slots := 12, locals := 101 })
def mt_9 : vg_M := (yX10_box, cX10_box, 4, (some .int), [], { frames := 7, cells := 1, slots := 6, locals := 101 })
def mt_10 : vg_M := (yX10_cancelReserve, cX10_cancelReserve, 3, (some .boolean), [], { frames := 7, cells := 1, slots := 6, locals := 101 })
def mt_11 : vg_M := (yX10_changeCoins, cX10_changeCoins, 4, (some .int), [], { frames := 7, cells := 1, slots := 6, locals := 101 })
def mt_12 : vg_M := (yX10_chargeOf, cX10_chargeOf, 6, (some .int), [], { frames := 4, cells := 0, slots := 0, locals := 99 })
def mt_13 : vg_M := (yX10_coin, cX10_coin, 5, (some .int), [], { frames := 7, cells := 2, slots := 12, locals := 101 })
def mt_14 : vg_M := (yX10_contract, cX10_contract, 4, none, [], { frames := 7, cells := 4, slots := 28, locals := 101 })
def mt_15 : vg_M := (yX10_contractLettingIn, cX10_contractLettingIn, 4, (some .int), [], { frames := 2, cells := 0, slots := 0, locals := 44 })
def mt_16 : vg_M := (yX10_contractOf, cX10_contractOf, 3, (some .int), [], { frames := 1, cells := 0, slots := 0, locals := 22 })
def mt_17 : vg_M := (yX10_dropPlate, cX10_dropPlate, 3, (some .boolean), [], { frames := 7, cells := 1, slots := 6, locals := 101 })
def mt_18 : vg_M := (yX10_enter, cX10_enter, 5, (some .int), [], { frames := 7, cells := 3, slots := 21, locals := 101 })
def mt_19 : vg_M := (yX10_fee, cX10_fee, 3, (some .int), [], { frames := 7, cells := 2, slots := 12, locals := 147 })
def mt_20 : vg_M := (yX10_feeOf, cX10_feeOf, 4, (some .int), [], { frames := 5, cells := 0, slots := 0, locals := 124 })
def mt_21 : vg_M := (yX10_fill, cX10_fill, 6, (some .int), [], { frames := 7, cells := 2, slots := 12, locals := 101 })
def mt_22 : vg_M := (yX10_free, cX10_free, 3, none, [], { frames := 7, cells := 2, slots := 12, locals := 101 })
def mt_23 : vg_M := (yX10_hours, cX10_hours, 4, none, [], { frames := 7, cells := 2, slots := 12, locals := 101 })
def mt_24 : vg_M := (yX10_init, cX10_init, 2, none, [], { frames := 2, cells := 36, slots := 6157, locals := 33 })
def mt_25 : vg_M := (yX10_inside, cX10_inside, 3, (some .int), [], { frames := 7, cells := 1, slots := 6, locals := 101 })
def mt_26 : vg_M := (yX10_insideUnder, cX10_insideUnder, 4, (some .int), [], { frames := 1, cells := 0, slots := 0, locals := 20 })
def mt_27 : vg_M := (yX10_isContract, cX10_isContract, 1, (some .boolean), [], { frames := 1, cells := 0, slots := 0, locals := 22 })
def mt_28 : vg_M := (yX10_isFull, cX10_isFull, 3, (some .boolean), [], { frames := 2, cells := 0, slots := 0, locals := 46 })
def mt_29 : vg_M := (yX10_isMachine, cX10_isMachine, 1, (some .boolean), [], { frames := 1, cells := 0, slots := 0, locals := 22 })
def mt_30 : vg_M := (yX10_isMinute, cX10_isMinute, 1, (some .boolean), [], { frames := 1, cells := 0, slots := 0, locals := 22 })
def mt_31 : vg_M := (yX10_isPlate, cX10_isPlate, 1, (some .boolean), [], { frames := 1, cells := 0, slots := 0, locals := 22 })
def mt_32 : vg_M := (yX10_isPrice, cX10_isPrice, 1, (some .boolean), [], { frames := 1, cells := 0, slots := 0, locals := 22 })
def mt_33 : vg_M := (yX10_isProduct, cX10_isProduct, 1, (some .boolean), [], { frames := 1, cells := 0, slots := 0, locals := 22 })
def mt_34 : vg_M := (yX10_isReservation, cX10_isReservation, 1, (some .boolean), [], { frames := 1, cells := 0, slots := 0, locals := 22 })
def mt_35 : vg_M := (yX10_isStay, cX10_isStay, 2, (some .boolean), [], { frames := 2, cells := 0, slots := 0, locals := 42 })
def mt_36 : vg_M := (yX10_isTicket, cX10_isTicket, 2, (some .boolean), [], { frames := 1, cells := 0, slots := 0, locals := 22 })
def mt_37 : vg_M := (yX10_isTimely, cX10_isTimely, 2, (some .boolean), [], { frames := 2, cells := 0, slots := 0, locals := 42 })
def mt_38 : vg_M := (yX10_isZone, cX10_isZone, 1, (some .boolean), [], { frames := 1, cells := 0, slots := 0, locals := 22 })
def mt_39 : vg_M := (yX10_journal, cX10_journal, 4, (some .int), [], { frames := 7, cells := 1, slots := 6, locals := 101 })
def mt_40 : vg_M := (yX10_kindOfCoin, cX10_kindOfCoin, 2, (some .int), [], { frames := 0, cells := 0, slots := 0, locals := 0 })
def mt_41 : vg_M := (yX10_least, cX10_least, 4, (some .int), [], { frames := 7, cells := 2, slots := 12, locals := 101 })
def mt_42 : vg_M := (yX10_leave, cX10_leave, 3, (some .boolean), [], { frames := 7, cells := 2, slots := 12, locals := 147 })
def mt_43 : vg_M := (yX10_lost, cX10_lost, 6, (some .int), [], { frames := 7, cells := 5, slots := 36, locals := 101 })
def mt_44 : vg_M := (yX10_mostRunning, cX10_mostRunning, 7, (some .int), [], { frames := 2, cells := 0, slots := 0, locals := 46 })
def mt_45 : vg_M := (yX10_needArgument, cX10_needArgument, 1, none, [], { frames := 6, cells := 1, slots := 6, locals := 81 })
def mt_46 : vg_M := (yX10_needState, cX10_needState, 1, none, [], { frames := 6, cells := 1, slots := 6, locals := 81 })
def mt_47 : vg_M := (yX10_occupied, cX10_occupied, 2, (some .int), [], { frames := 7, cells := 1, slots := 6, locals := 101 })
def mt_48 : vg_M := (yX10_open, cX10_open, 3, (some .int), [], { frames := 7, cells := 1, slots := 6, locals := 101 })
def mt_49 : vg_M := (yX10_payBack, cX10_payBack, 4, (some .int), [], { frames := 7, cells := 2, slots := 12, locals := 101 })
def mt_50 : vg_M := (yX10_payBegin, cX10_payBegin, 6, (some .int), [], { frames := 7, cells := 2, slots := 12, locals := 147 })
def mt_51 : vg_M := (yX10_payEnd, cX10_payEnd, 4, (some .int), [], { frames := 7, cells := 3, slots := 15, locals := 101 })
def mt_52 : vg_M := (yX10_places, cX10_places, 3, none, [], { frames := 7, cells := 2, slots := 12, locals := 101 })
def mt_53 : vg_M := (yX10_plate, cX10_plate, 4, none, [], { frames := 7, cells := 3, slots := 18, locals := 101 })
def mt_54 : vg_M := (yX10_platesInside, cX10_platesInside, 5, (some .int), [], { frames := 1, cells := 0, slots := 0, locals := 20 })
def mt_55 : vg_M := (yX10_product, cX10_product, 5, none, [], { frames := 7, cells := 3, slots := 18, locals := 101 })
def mt_56 : vg_M := (yX10_recordPayment, cX10_recordPayment, 4, none, [], { frames := 2, cells := 1, slots := 3, locals := 35 })
def mt_57 : vg_M := (yX10_reserve, cX10_reserve, 5, (some .boolean), [], { frames := 7, cells := 3, slots := 15, locals := 101 })
def mt_58 : vg_M := (yX10_running, cX10_running, 6, (some .int), [], { frames := 1, cells := 0, slots := 0, locals := 21 })
def mt_59 : vg_M := (yX10_takings, cX10_takings, 5, (some .int), [], { frames := 7, cells := 1, slots := 6, locals := 101 })
def mt_60 : vg_M := (yX10_ticketInsideOf, cX10_ticketInsideOf, 3, (some (.object "ParkOffice$Ticket")), [], { frames := 1, cells := 0, slots := 0, locals := 20 })
def mt_61 : vg_M := (yX10_within, cX10_within, 3, (some .boolean), [], { frames := 0, cells := 0, slots := 0, locals := 0 })
def mt_62 : vg_M := (yX1_add, cX1_add, 2, none, [], { frames := 0, cells := 0, slots := 0, locals := 0 })
def mt_63 : vg_M := (yX1_indexOf, cX1_indexOf, 3, (some .int), [], { frames := 0, cells := 0, slots := 0, locals := 0 })
def mt_64 : vg_M := (yX1_init, cX1_init, 1, none, [], { frames := 1, cells := 1, slots := 12, locals := 12 })
def mt_65 : vg_M := (yX1_remove, cX1_remove, 3, none, [], { frames := 1, cells := 0, slots := 0, locals := 22 })
def mt_66 : vg_M := (yX2_endOf, cX2_endOf, 4, (some .int), [], { frames := 2, cells := 0, slots := 0, locals := 48 })
def mt_67 : vg_M := (yX2_firstAt, cX2_firstAt, 2, (some .int), [], { frames := 0, cells := 0, slots := 0, locals := 0 })
def mt_68 : vg_M := (yX2_init, cX2_init, 1, none, [], { frames := 1, cells := 5, slots := 5386, locals := 12 })
def mt_69 : vg_M := (yX2_leastRank, cX2_leastRank, 8, (some .long), [], { frames := 1, cells := 0, slots := 0, locals := 22 })
def mt_70 : vg_M := (yX2_offerEnd, cX2_offerEnd, 3, (some .int), [], { frames := 0, cells := 0, slots := 0, locals := 0 })
def mt_71 : vg_M := (yX2_prepareHourOf, cX2_prepareHourOf, 5, none, [], { frames := 1, cells := 0, slots := 0, locals := 24 })
def mt_72 : vg_M := (yX2_priceOf, cX2_priceOf, 6, (some .int), [], { frames := 3, cells := 0, slots := 0, locals := 74 })
def mt_73 : vg_M := (yX2_productOf, cX2_productOf, 7, (some .int), [], { frames := 3, cells := 0, slots := 0, locals := 74 })
def mt_74 : vg_M := (yX2_rankFrom, cX2_rankFrom, 2, (some .long), [], { frames := 0, cells := 0, slots := 0, locals := 0 })
def mt_75 : vg_M := (yX2_rankOfOne, cX2_rankOfOne, 2, (some .long), [], { frames := 0, cells := 0, slots := 0, locals := 0 })
def mt_76 : vg_M := (yX2_stayNumber, cX2_stayNumber, 3, (some .int), [], { frames := 0, cells := 0, slots := 0, locals := 0 })
def mt_77 : vg_M := (yX2_table, cX2_table, 6, none, [], { frames := 2, cells := 0, slots := 0, locals := 49 })
def mt_78 : vg_M := (yX3_begin, cX3_begin, 4, none, [], { frames := 1, cells := 0, slots := 0, locals := 23 })
def mt_79 : vg_M := (yX3_end, cX3_end, 3, none, [], { frames := 0, cells := 0, slots := 0, locals := 0 })
def mt_80 : vg_M := (yX3_init, cX3_init, 1, none, [], { frames := 1, cells := 3, slots := 18, locals := 12 })
def mt_81 : vg_M := (yX3_putIn, cX3_putIn, 2, none, [], { frames := 0, cells := 0, slots := 0, locals := 0 })
def mt_82 : vg_M := (yX4_init, cX4_init, 4, none, [], { frames := 1, cells := 0, slots := 0, locals := 12 })
def mt_83 : vg_M := (yX5_endFromOutsideHours, cX5_endFromOutsideHours, 5, (some .int), [], { frames := 0, cells := 0, slots := 0, locals := 0 })
def mt_84 : vg_M := (yX5_init, cX5_init, 5, none, [], { frames := 1, cells := 0, slots := 0, locals := 12 })
def mt_85 : vg_M := (yX5_mayBeginIn, cX5_mayBeginIn, 2, (some .boolean), [], { frames := 0, cells := 0, slots := 0, locals := 0 })
def mt_86 : vg_M := (yX6_init, cX6_init, 4, none, [], { frames := 1, cells := 0, slots := 0, locals := 12 })
def mt_87 : vg_M := (yX6_runsAt, cX6_runsAt, 2, (some .boolean), [], { frames := 0, cells := 0, slots := 0, locals := 0 })
def mt_88 : vg_M := (yX7_init, cX7_init, 6, none, [], { frames := 1, cells := 0, slots := 0, locals := 12 })
def mt_89 : vg_M := (yX7_isInGrace, cX7_isInGrace, 2, (some .boolean), [], { frames := 0, cells := 0, slots := 0, locals := 0 })
def mt_90 : vg_M := (yX7_isInside, cX7_isInside, 1, (some .boolean), [], { frames := 0, cells := 0, slots := 0, locals := 0 })
def mt_91 : vg_M := (yX9_firstHourWithoutOffer, cX9_firstHourWithoutOffer, 2, (some .int), [], { frames := 2, cells := 0, slots := 0, locals := 43 })
def mt_92 : vg_M := (yX9_gatherOffers, cX9_gatherOffers, 3, none, [], { frames := 0, cells := 0, slots := 0, locals := 0 })
def mt_93 : vg_M := (yX9_hasOfferIn, cX9_hasOfferIn, 3, (some .boolean), [], { frames := 1, cells := 0, slots := 0, locals := 21 })
def mt_94 : vg_M := (yX9_init, cX9_init, 2, none, [], { frames := 1, cells := 1, slots := 24, locals := 12 })
def mt_95 : vg_M := (yX11_addTicket, cX11_addTicket, 6, (some .int), [], { frames := 0, cells := 0, slots := 0, locals := 0 })
def mt_96 : vg_M := (yX11_beginBest, cX11_beginBest, 1, none, [], { frames := 0, cells := 0, slots := 0, locals := 0 })
def mt_97 : vg_M := (yX11_best, cX11_best, 8, (some .int), [], { frames := 3, cells := 0, slots := 0, locals := 65 })
def mt_98 : vg_M := (yX11_box, cX11_box, 4, (some .int), [], { frames := 2, cells := 0, slots := 0, locals := 42 })
def mt_99 : vg_M := (yX11_cancelReserve, cX11_cancelReserve, 3, (some .boolean), [], { frames := 1, cells := 0, slots := 0, locals := 22 })
def mt_100 : vg_M := (yX11_carsIn, cX11_carsIn, 4, (some .int), [], { frames := 0, cells := 0, slots := 0, locals := 0 })
def mt_101 : vg_M := (yX11_changeCoins, cX11_changeCoins, 4, (some .int), [], { frames := 2, cells := 0, slots := 0, locals := 42 })
def mt_102 : vg_M := (yX11_charge, cX11_charge, 8, (some .long), [], { frames := 2, cells := 0, slots := 0, locals := 55 })
def mt_103 : vg_M := (yX11_coin, cX11_coin, 5, (some .int), [], { frames := 2, cells := 0, slots := 0, locals := 43 })
def mt_104 : vg_M := (yX11_coinOf, cX11_coinOf, 1, (some .int), [], { frames := 0, cells := 0, slots := 0, locals := 0 })
def mt_105 : vg_M := (yX11_coinsIn, cX11_coinsIn, 4, (some .int), [], { frames := 0, cells := 0, slots := 0, locals := 0 })
def mt_106 : vg_M := (yX11_contract, cX11_contract, 5, none, [], { frames := 2, cells := 0, slots := 0, locals := 42 })
def mt_107 : vg_M := (yX11_contractOf, cX11_contractOf, 5, (some .int), [], { frames := 0, cells := 0, slots := 0, locals := 0 })
def mt_108 : vg_M := (yX11_cover, cX11_cover, 8, none, [], { frames := 1, cells := 0, slots := 0, locals := 28 })
def mt_109 : vg_M := (yX11_dropPlate, cX11_dropPlate, 6, (some .boolean), [], { frames := 2, cells := 0, slots := 0, locals := 42 })
def mt_110 : vg_M := (yX11_enter, cX11_enter, 8, (some .int), [], { frames := 2, cells := 0, slots := 0, locals := 43 })
def mt_111 : vg_M := (yX11_fee, cX11_fee, 4, (some .int), [], { frames := 4, cells := 0, slots := 0, locals := 106 })
def mt_112 : vg_M := (yX11_feeOf, cX11_feeOf, 5, (some .int), [], { frames := 3, cells := 0, slots := 0, locals := 82 })
def mt_113 : vg_M := (yX11_fill, cX11_fill, 8, (some .int), [], { frames := 2, cells := 0, slots := 0, locals := 42 })
def mt_114 : vg_M := (yX11_findFewest, cX11_findFewest, 9, none, [], { frames := 1, cells := 0, slots := 0, locals := 20 })
def mt_115 : vg_M := (yX11_free, cX11_free, 3, none, [], { frames := 2, cells := 0, slots := 0, locals := 42 })
def mt_116 : vg_M := (yX11_freeMachine, cX11_freeMachine, 2, none, [], { frames := 0, cells := 0, slots := 0, locals := 0 })
def mt_117 : vg_M := (yX11_give, cX11_give, 10, none, [], { frames := 1, cells := 0, slots := 0, locals := 20 })
def mt_118 : vg_M := (yX11_giveBack, cX11_giveBack, 3, none, [], { frames := 0, cells := 0, slots := 0, locals := 0 })
def mt_119 : vg_M := (yX11_hours, cX11_hours, 5, none, [], { frames := 1, cells := 0, slots := 0, locals := 22 })
def mt_120 : vg_M := (yX11_init, cX11_init, 2, none, [], { frames := 1, cells := 42, slots := 360695, locals := 12 })
def mt_121 : vg_M := (yX11_inside, cX11_inside, 2, (some .int), [], { frames := 2, cells := 0, slots := 0, locals := 42 })
def mt_122 : vg_M := (yX11_insideOf, cX11_insideOf, 4, (some .int), [], { frames := 0, cells := 0, slots := 0, locals := 0 })
def mt_123 : vg_M := (yX11_insideUnder, cX11_insideUnder, 4, (some .int), [], { frames := 0, cells := 0, slots := 0, locals := 0 })
def mt_124 : vg_M := (yX11_isContract, cX11_isContract, 1, (some .boolean), [], { frames := 1, cells := 0, slots := 0, locals := 22 })
def mt_125 : vg_M := (yX11_isIn, cX11_isIn, 3, (some .boolean), [], { frames := 0, cells := 0, slots := 0, locals := 0 })
def mt_126 : vg_M := (yX11_isMachine, cX11_isMachine, 1, (some .boolean), [], { frames := 1, cells := 0, slots := 0, locals := 22 })
def mt_127 : vg_M := (yX11_isMinute, cX11_isMinute, 2, (some .boolean), [], { frames := 1, cells := 0, slots := 0, locals := 22 })
def mt_128 : vg_M := (yX11_isPlate, cX11_isPlate, 1, (some .boolean), [], { frames := 1, cells := 0, slots := 0, locals := 22 })
def mt_129 : vg_M := (yX11_isStay, cX11_isStay, 4, (some .boolean), [], { frames := 2, cells := 0, slots := 0, locals := 42 })
def mt_130 : vg_M := (yX11_isTicket, cX11_isTicket, 2, (some .boolean), [], { frames := 1, cells := 0, slots := 0, locals := 22 })
def mt_131 : vg_M := (yX11_isTooMuch, cX11_isTooMuch, 4, (some .boolean), [], { frames := 1, cells := 0, slots := 0, locals := 25 })
def mt_132 : vg_M := (yX11_isZone, cX11_isZone, 1, (some .boolean), [], { frames := 1, cells := 0, slots := 0, locals := 22 })
def mt_133 : vg_M := (yX11_journal, cX11_journal, 3, (some .int), [], { frames := 1, cells := 0, slots := 0, locals := 22 })
def mt_134 : vg_M := (yX11_kindOf, cX11_kindOf, 3, (some .int), [], { frames := 1, cells := 0, slots := 0, locals := 20 })
def mt_135 : vg_M := (yX11_least, cX11_least, 4, (some .int), [], { frames := 3, cells := 0, slots := 0, locals := 65 })
def mt_136 : vg_M := (yX11_leave, cX11_leave, 4, (some .boolean), [], { frames := 4, cells := 0, slots := 0, locals := 106 })
def mt_137 : vg_M := (yX11_lookBack, cX11_lookBack, 5, none, [], { frames := 1, cells := 0, slots := 0, locals := 22 })
def mt_138 : vg_M := (yX11_lost, cX11_lost, 7, (some .int), [], { frames := 2, cells := 0, slots := 0, locals := 43 })
def mt_139 : vg_M := (yX11_mayBegin, cX11_mayBegin, 3, (some .boolean), [], { frames := 0, cells := 0, slots := 0, locals := 0 })
def mt_140 : vg_M := (yX11_occupied, cX11_occupied, 2, (some .int), [], { frames := 2, cells := 0, slots := 0, locals := 42 })
def mt_141 : vg_M := (yX11_offer, cX11_offer, 9, none, [], { frames := 0, cells := 0, slots := 0, locals := 0 })
def mt_142 : vg_M := (yX11_open, cX11_open, 5, (some .int), [], { frames := 2, cells := 0, slots := 0, locals := 46 })
def mt_143 : vg_M := (yX11_payBack, cX11_payBack, 2, (some .int), [], { frames := 2, cells := 0, slots := 0, locals := 43 })
def mt_144 : vg_M := (yX11_payBegin, cX11_payBegin, 6, (some .int), [], { frames := 4, cells := 0, slots := 0, locals := 106 })
def mt_145 : vg_M := (yX11_payEnd, cX11_payEnd, 5, (some .int), [], { frames := 2, cells := 0, slots := 0, locals := 49 })
def mt_146 : vg_M := (yX11_places, cX11_places, 3, none, [], { frames := 2, cells := 0, slots := 0, locals := 42 })
def mt_147 : vg_M := (yX11_plate, cX11_plate, 6, none, [], { frames := 2, cells := 0, slots := 0, locals := 42 })
def mt_148 : vg_M := (yX11_product, cX11_product, 6, none, [], { frames := 2, cells := 0, slots := 0, locals := 42 })
def mt_149 : vg_M := (yX11_refused, cX11_refused, 2, (some .boolean), [], { frames := 0, cells := 0, slots := 0, locals := 0 })
def mt_150 : vg_M := (yX11_reserve, cX11_reserve, 6, (some .boolean), [], { frames := 2, cells := 0, slots := 0, locals := 48 })
def mt_151 : vg_M := (yX11_running, cX11_running, 6, (some .int), [], { frames := 0, cells := 0, slots := 0, locals := 0 })
def mt_152 : vg_M := (yX11_sumIn, cX11_sumIn, 4, (some .int), [], { frames := 1, cells := 0, slots := 0, locals := 20 })
def mt_153 : vg_M := (yX11_takings, cX11_takings, 6, (some .int), [], { frames := 1, cells := 0, slots := 0, locals := 22 })
def mt_154 : vg_M := (yX11_thrown, cX11_thrown, 1, (some .int), [], { frames := 0, cells := 0, slots := 0, locals := 0 })
def mt_155 : vg_M := (yL_best, cL_best, 7, (some .int), [(0, 14, 17, 13), (0, 14, 21, 15)], { frames := 8, cells := 2, slots := 12, locals := 125 })
def mt_156 : vg_M := (yL_box, cL_box, 5, (some .int), [(0, 10, 13, 13)], { frames := 8, cells := 1, slots := 6, locals := 124 })
def mt_157 : vg_M := (yL_cancelReserve, cL_cancelReserve, 4, (some .int), [(0, 16, 19, 13)], { frames := 8, cells := 1, slots := 6, locals := 123 })
def mt_158 : vg_M := (yL_changeCoins, cL_changeCoins, 5, (some .int), [(0, 10, 13, 13)], { frames := 8, cells := 1, slots := 6, locals := 124 })
def mt_159 : vg_M := (yL_coin, cL_coin, 5, (some .int), [(0, 10, 13, 13), (0, 10, 17, 15)], { frames := 8, cells := 2, slots := 12, locals := 125 })
def mt_160 : vg_M := (yL_contract, cL_contract, 5, (some .int), [(0, 7, 10, 13), (0, 7, 14, 15)], { frames := 8, cells := 4, slots := 28, locals := 124 })
def mt_161 : vg_M := (yL_dropPlate, cL_dropPlate, 4, (some .int), [(0, 16, 19, 13)], { frames := 8, cells := 1, slots := 6, locals := 123 })
def mt_162 : vg_M := (yL_enter, cL_enter, 6, (some .int), [(0, 12, 15, 13), (0, 12, 19, 15)], { frames := 8, cells := 3, slots := 21, locals := 125 })
def mt_163 : vg_M := (yL_fee, cL_fee, 5, (some .int), [(0, 10, 13, 13), (0, 10, 17, 15)], { frames := 8, cells := 2, slots := 12, locals := 169 })
def mt_164 : vg_M := (yL_fill, cL_fill, 6, (some .int), [(0, 12, 15, 13), (0, 12, 19, 15)], { frames := 8, cells := 2, slots := 12, locals := 126 })
def mt_165 : vg_M := (yL_free, cL_free, 4, (some .int), [(0, 6, 9, 13), (0, 6, 12, 15)], { frames := 8, cells := 2, slots := 12, locals := 123 })
def mt_166 : vg_M := (yL_hours, cL_hours, 5, (some .int), [(0, 7, 10, 13), (0, 7, 14, 15)], { frames := 8, cells := 2, slots := 12, locals := 124 })
def mt_167 : vg_M := (yL_inside, cL_inside, 4, (some .int), [(0, 9, 12, 13)], { frames := 8, cells := 1, slots := 6, locals := 123 })
def mt_168 : vg_M := (yL_journal, cL_journal, 5, (some .int), [(0, 10, 13, 13)], { frames := 8, cells := 1, slots := 6, locals := 124 })
def mt_169 : vg_M := (x, code, 7, (some .boolean), [], room_1)
def mt_170 : vg_M := (yL_least, cL_least, 6, (some .int), [(0, 12, 15, 13), (0, 12, 19, 15)], { frames := 8, cells := 2, slots := 12, locals := 124 })
def mt_171 : vg_M := (yL_leave, cL_leave, 5, (some .int), [(0, 17, 20, 13), (0, 17, 24, 15)], { frames := 8, cells := 2, slots := 12, locals := 169 })
def mt_172 : vg_M := (yL_lost, cL_lost, 6, (some .int), [(0, 12, 15, 13), (0, 12, 19, 15)], { frames := 8, cells := 5, slots := 36, locals := 126 })
def mt_173 : vg_M := (yL_occupied, cL_occupied, 4, (some .int), [(0, 9, 12, 13)], { frames := 8, cells := 1, slots := 6, locals := 122 })
def mt_174 : vg_M := (yL_open, cL_open, 3, (some .int), [(0, 8, 11, 15)], { frames := 8, cells := 1, slots := 6, locals := 123 })
def mt_175 : vg_M := (yL_payBack, cL_payBack, 4, (some .int), [(0, 9, 12, 13), (0, 9, 15, 15)], { frames := 8, cells := 2, slots := 12, locals := 124 })
def mt_176 : vg_M := (yL_payBegin, cL_payBegin, 6, (some .int), [(0, 12, 15, 13), (0, 12, 19, 15)], { frames := 8, cells := 2, slots := 12, locals := 172 })
def mt_177 : vg_M := (yL_payEnd, cL_payEnd, 4, (some .int), [(0, 9, 12, 13), (0, 9, 15, 15)], { frames := 8, cells := 3, slots := 15, locals := 124 })
def mt_178 : vg_M := (yL_places, cL_places, 4, (some .int), [(0, 6, 9, 13), (0, 6, 12, 15)], { frames := 8, cells := 2, slots := 12, locals := 123 })
def mt_179 : vg_M := (yL_plate, cL_plate, 4, (some .int), [(0, 6, 9, 13), (0, 6, 12, 15)], { frames := 8, cells := 3, slots := 18, locals := 124 })
def mt_180 : vg_M := (yL_product, cL_product, 6, (some .int), [(0, 9, 12, 13), (0, 9, 16, 15)], { frames := 8, cells := 3, slots := 18, locals := 125 })
def mt_181 : vg_M := (yL_reserve, cL_reserve, 7, (some .int), [(0, 21, 24, 13), (0, 21, 28, 15)], { frames := 8, cells := 3, slots := 15, locals := 125 })
def mt_182 : vg_M := (yL_takings, cL_takings, 5, (some .int), [(0, 10, 13, 13)], { frames := 8, cells := 1, slots := 6, locals := 125 })
def mt_all : List vg_M := [mt_0, mt_1, mt_2, mt_3, mt_4, mt_5, mt_6, mt_7, mt_8, mt_9, mt_10, mt_11, mt_12, mt_13, mt_14, mt_15, mt_16, mt_17, mt_18, mt_19, mt_20, mt_21, mt_22, mt_23, mt_24, mt_25, mt_26, mt_27, mt_28, mt_29, mt_30, mt_31, mt_32, mt_33, mt_34, mt_35, mt_36, mt_37, mt_38, mt_39, mt_40, mt_41, mt_42, mt_43, mt_44, mt_45, mt_46, mt_47, mt_48, mt_49, mt_50, mt_51, mt_52, mt_53, mt_54, mt_55, mt_56, mt_57, mt_58, mt_59, mt_60, mt_61, mt_62, mt_63, mt_64, mt_65, mt_66, mt_67, mt_68, mt_69, mt_70, mt_71, mt_72, mt_73, mt_74, mt_75, mt_76, mt_77, mt_78, mt_79, mt_80, mt_81, mt_82, mt_83, mt_84, mt_85, mt_86, mt_87, mt_88, mt_89, mt_90, mt_91, mt_92, mt_93, mt_94, mt_95, mt_96, mt_97, mt_98, mt_99, mt_100, mt_101, mt_102, mt_103, mt_104, mt_105, mt_106, mt_107, mt_108, mt_109, mt_110, mt_111, mt_112, mt_113, mt_114, mt_115, mt_116, mt_117, mt_118, mt_119, mt_120, mt_121, mt_122, mt_123, mt_124, mt_125, mt_126, mt_127, mt_128, mt_129, mt_130, mt_131, mt_132, mt_133, mt_134, mt_135, mt_136, mt_137, mt_138, mt_139, mt_140, mt_141, mt_142, mt_143, mt_144, mt_145, mt_146, mt_147, mt_148, mt_149, mt_150, mt_151, mt_152, mt_153, mt_154, mt_155, mt_156, mt_157, mt_158, mt_159, mt_160, mt_161, mt_162, mt_163, mt_164, mt_165, mt_166, mt_167, mt_168, mt_169, mt_170, mt_171, mt_172, mt_173, mt_174, mt_175, mt_176, mt_177, mt_178, mt_179, mt_180, mt_181, mt_182]
def MT (i : Nat) : vg_M := mt_all.getD i mt_0
theorem mc_0 : (vg_rm (MT 0)).cells = 0 := rfl
theorem ms_0 : (vg_rm (MT 0)).slots = 0 := rfl
theorem ml_0 : (vg_rm (MT 0)).locals = 0 := rfl
theorem mr_0 : (MT 0).2.2.2.1 = none := rfl
theorem mh_0 : (MT 0).2.2.2.2.1 = [] := rfl
theorem mn_0 : (MT 0).2.2.1 = 4 := rfl
theorem mc_1 : (vg_rm (MT 1)).cells = 0 := rfl
theorem ms_1 : (vg_rm (MT 1)).slots = 0 := rfl
theorem ml_1 : (vg_rm (MT 1)).locals = 0 := rfl
theorem mr_1 : (MT 1).2.2.2.1 = (some .int) := rfl
theorem mh_1 : (MT 1).2.2.2.2.1 = [] := rfl
theorem mn_1 : (MT 1).2.2.1 = 2 := rfl
theorem mc_2 : (vg_rm (MT 2)).cells = 0 := rfl
theorem ms_2 : (vg_rm (MT 2)).slots = 0 := rfl
theorem ml_2 : (vg_rm (MT 2)).locals = 0 := rfl
theorem mr_2 : (MT 2).2.2.2.1 = (some .int) := rfl
theorem mh_2 : (MT 2).2.2.2.2.1 = [] := rfl
theorem mn_2 : (MT 2).2.2.1 = 2 := rfl
theorem mc_3 : (vg_rm (MT 3)).cells = 0 := rfl
theorem ms_3 : (vg_rm (MT 3)).slots = 0 := rfl
theorem ml_3 : (vg_rm (MT 3)).locals = 60 := rfl
theorem mr_3 : (MT 3).2.2.2.1 = (some .boolean) := rfl
theorem mh_3 : (MT 3).2.2.2.2.1 = [] := rfl
theorem mn_3 : (MT 3).2.2.1 = 6 := rfl
theorem mc_4 : (vg_rm (MT 4)).cells = 2 := rfl
theorem ms_4 : (vg_rm (MT 4)).slots = 12 := rfl
theorem ml_4 : (vg_rm (MT 4)).locals = 12 := rfl
theorem mr_4 : (MT 4).2.2.2.1 = none := rfl
theorem mh_4 : (MT 4).2.2.2.2.1 = [] := rfl
theorem mn_4 : (MT 4).2.2.1 = 1 := rfl
theorem mc_5 : (vg_rm (MT 5)).cells = 0 := rfl
theorem ms_5 : (vg_rm (MT 5)).slots = 0 := rfl
theorem ml_5 : (vg_rm (MT 5)).locals = 0 := rfl
theorem mr_5 : (MT 5).2.2.2.1 = (some .boolean) := rfl
theorem mh_5 : (MT 5).2.2.2.2.1 = [] := rfl
theorem mn_5 : (MT 5).2.2.1 = 2 := rfl
theorem mc_6 : (vg_rm (MT 6)).cells = 0 := rfl
theorem ms_6 : (vg_rm (MT 6)).slots = 0 := rfl
theorem ml_6 : (vg_rm (MT 6)).locals = 21 := rfl
theorem mr_6 : (MT 6).2.2.2.1 = (some .boolean) := rfl
theorem mh_6 : (MT 6).2.2.2.2.1 = [] := rfl
theorem mn_6 : (MT 6).2.2.1 = 6 := rfl
theorem mc_7 : (vg_rm (MT 7)).cells = 1 := rfl
theorem ms_7 : (vg_rm (MT 7)).slots = 9 := rfl
theorem ml_7 : (vg_rm (MT 7)).locals = 37 := rfl
theorem mr_7 : (MT 7).2.2.2.1 = (some (.object "ParkOffice$Ticket")) := rfl
theorem mh_7 : (MT 7).2.2.2.2.1 = [] := rfl
theorem mn_7 : (MT 7).2.2.1 = 5 := rfl
theorem mc_8 : (vg_rm (MT 8)).cells = 2 := rfl
theorem ms_8 : (vg_rm (MT 8)).slots = 12 := rfl
theorem ml_8 : (vg_rm (MT 8)).locals = 101 := rfl
theorem mr_8 : (MT 8).2.2.2.1 = (some .int) := rfl
theorem mh_8 : (MT 8).2.2.2.2.1 = [] := rfl
theorem mn_8 : (MT 8).2.2.1 = 5 := rfl
theorem mc_9 : (vg_rm (MT 9)).cells = 1 := rfl
theorem ms_9 : (vg_rm (MT 9)).slots = 6 := rfl
theorem ml_9 : (vg_rm (MT 9)).locals = 101 := rfl
theorem mr_9 : (MT 9).2.2.2.1 = (some .int) := rfl
theorem mh_9 : (MT 9).2.2.2.2.1 = [] := rfl
theorem mn_9 : (MT 9).2.2.1 = 4 := rfl
theorem mc_10 : (vg_rm (MT 10)).cells = 1 := rfl
theorem ms_10 : (vg_rm (MT 10)).slots = 6 := rfl
theorem ml_10 : (vg_rm (MT 10)).locals = 101 := rfl
theorem mr_10 : (MT 10).2.2.2.1 = (some .boolean) := rfl
theorem mh_10 : (MT 10).2.2.2.2.1 = [] := rfl
theorem mn_10 : (MT 10).2.2.1 = 3 := rfl
theorem mc_11 : (vg_rm (MT 11)).cells = 1 := rfl
theorem ms_11 : (vg_rm (MT 11)).slots = 6 := rfl
theorem ml_11 : (vg_rm (MT 11)).locals = 101 := rfl
theorem mr_11 : (MT 11).2.2.2.1 = (some .int) := rfl
theorem mh_11 : (MT 11).2.2.2.2.1 = [] := rfl
theorem mn_11 : (MT 11).2.2.1 = 4 := rfl
theorem mc_12 : (vg_rm (MT 12)).cells = 0 := rfl
theorem ms_12 : (vg_rm (MT 12)).slots = 0 := rfl
theorem ml_12 : (vg_rm (MT 12)).locals = 99 := rfl
theorem mr_12 : (MT 12).2.2.2.1 = (some .int) := rfl
theorem mh_12 : (MT 12).2.2.2.2.1 = [] := rfl
theorem mn_12 : (MT 12).2.2.1 = 6 := rfl
theorem mc_13 : (vg_rm (MT 13)).cells = 2 := rfl
theorem ms_13 : (vg_rm (MT 13)).slots = 12 := rfl
theorem ml_13 : (vg_rm (MT 13)).locals = 101 := rfl
theorem mr_13 : (MT 13).2.2.2.1 = (some .int) := rfl
theorem mh_13 : (MT 13).2.2.2.2.1 = [] := rfl
theorem mn_13 : (MT 13).2.2.1 = 5 := rfl
theorem mc_14 : (vg_rm (MT 14)).cells = 4 := rfl
theorem ms_14 : (vg_rm (MT 14)).slots = 28 := rfl
theorem ml_14 : (vg_rm (MT 14)).locals = 101 := rfl
theorem mr_14 : (MT 14).2.2.2.1 = none := rfl
theorem mh_14 : (MT 14).2.2.2.2.1 = [] := rfl
theorem mn_14 : (MT 14).2.2.1 = 4 := rfl
theorem mc_15 : (vg_rm (MT 15)).cells = 0 := rfl
theorem ms_15 : (vg_rm (MT 15)).slots = 0 := rfl
theorem ml_15 : (vg_rm (MT 15)).locals = 44 := rfl
theorem mr_15 : (MT 15).2.2.2.1 = (some .int) := rfl
theorem mh_15 : (MT 15).2.2.2.2.1 = [] := rfl
theorem mn_15 : (MT 15).2.2.1 = 4 := rfl
theorem mc_16 : (vg_rm (MT 16)).cells = 0 := rfl
theorem ms_16 : (vg_rm (MT 16)).slots = 0 := rfl
theorem ml_16 : (vg_rm (MT 16)).locals = 22 := rfl
theorem mr_16 : (MT 16).2.2.2.1 = (some .int) := rfl
theorem mh_16 : (MT 16).2.2.2.2.1 = [] := rfl
theorem mn_16 : (MT 16).2.2.1 = 3 := rfl
theorem mc_17 : (vg_rm (MT 17)).cells = 1 := rfl
theorem ms_17 : (vg_rm (MT 17)).slots = 6 := rfl
theorem ml_17 : (vg_rm (MT 17)).locals = 101 := rfl
theorem mr_17 : (MT 17).2.2.2.1 = (some .boolean) := rfl
theorem mh_17 : (MT 17).2.2.2.2.1 = [] := rfl
theorem mn_17 : (MT 17).2.2.1 = 3 := rfl
theorem mc_18 : (vg_rm (MT 18)).cells = 3 := rfl
theorem ms_18 : (vg_rm (MT 18)).slots = 21 := rfl
theorem ml_18 : (vg_rm (MT 18)).locals = 101 := rfl
theorem mr_18 : (MT 18).2.2.2.1 = (some .int) := rfl
theorem mh_18 : (MT 18).2.2.2.2.1 = [] := rfl
theorem mn_18 : (MT 18).2.2.1 = 5 := rfl
theorem mc_19 : (vg_rm (MT 19)).cells = 2 := rfl
theorem ms_19 : (vg_rm (MT 19)).slots = 12 := rfl
theorem ml_19 : (vg_rm (MT 19)).locals = 147 := rfl
theorem mr_19 : (MT 19).2.2.2.1 = (some .int) := rfl
theorem mh_19 : (MT 19).2.2.2.2.1 = [] := rfl
theorem mn_19 : (MT 19).2.2.1 = 3 := rfl
theorem mc_20 : (vg_rm (MT 20)).cells = 0 := rfl
theorem ms_20 : (vg_rm (MT 20)).slots = 0 := rfl
theorem ml_20 : (vg_rm (MT 20)).locals = 124 := rfl
theorem mr_20 : (MT 20).2.2.2.1 = (some .int) := rfl
theorem mh_20 : (MT 20).2.2.2.2.1 = [] := rfl
theorem mn_20 : (MT 20).2.2.1 = 4 := rfl
theorem mc_21 : (vg_rm (MT 21)).cells = 2 := rfl
theorem ms_21 : (vg_rm (MT 21)).slots = 12 := rfl
theorem ml_21 : (vg_rm (MT 21)).locals = 101 := rfl
theorem mr_21 : (MT 21).2.2.2.1 = (some .int) := rfl
theorem mh_21 : (MT 21).2.2.2.2.1 = [] := rfl
theorem mn_21 : (MT 21).2.2.1 = 6 := rfl
theorem mc_22 : (vg_rm (MT 22)).cells = 2 := rfl
theorem ms_22 : (vg_rm (MT 22)).slots = 12 := rfl
theorem ml_22 : (vg_rm (MT 22)).locals = 101 := rfl
theorem mr_22 : (MT 22).2.2.2.1 = none := rfl
theorem mh_22 : (MT 22).2.2.2.2.1 = [] := rfl
theorem mn_22 : (MT 22).2.2.1 = 3 := rfl
theorem mc_23 : (vg_rm (MT 23)).cells = 2 := rfl
theorem ms_23 : (vg_rm (MT 23)).slots = 12 := rfl
theorem ml_23 : (vg_rm (MT 23)).locals = 101 := rfl
theorem mr_23 : (MT 23).2.2.2.1 = none := rfl
theorem mh_23 : (MT 23).2.2.2.2.1 = [] := rfl
theorem mn_23 : (MT 23).2.2.1 = 4 := rfl
theorem mc_24 : (vg_rm (MT 24)).cells = 36 := rfl
theorem ms_24 : (vg_rm (MT 24)).slots = 6157 := rfl
theorem ml_24 : (vg_rm (MT 24)).locals = 33 := rfl
theorem mr_24 : (MT 24).2.2.2.1 = none := rfl
theorem mh_24 : (MT 24).2.2.2.2.1 = [] := rfl
theorem mn_24 : (MT 24).2.2.1 = 2 := rfl
theorem mc_25 : (vg_rm (MT 25)).cells = 1 := rfl
theorem ms_25 : (vg_rm (MT 25)).slots = 6 := rfl
theorem ml_25 : (vg_rm (MT 25)).locals = 101 := rfl
theorem mr_25 : (MT 25).2.2.2.1 = (some .int) := rfl
theorem mh_25 : (MT 25).2.2.2.2.1 = [] := rfl
theorem mn_25 : (MT 25).2.2.1 = 3 := rfl
theorem mc_26 : (vg_rm (MT 26)).cells = 0 := rfl
theorem ms_26 : (vg_rm (MT 26)).slots = 0 := rfl
theorem ml_26 : (vg_rm (MT 26)).locals = 20 := rfl
theorem mr_26 : (MT 26).2.2.2.1 = (some .int) := rfl
theorem mh_26 : (MT 26).2.2.2.2.1 = [] := rfl
theorem mn_26 : (MT 26).2.2.1 = 4 := rfl
theorem mc_27 : (vg_rm (MT 27)).cells = 0 := rfl
theorem ms_27 : (vg_rm (MT 27)).slots = 0 := rfl
theorem ml_27 : (vg_rm (MT 27)).locals = 22 := rfl
theorem mr_27 : (MT 27).2.2.2.1 = (some .boolean) := rfl
theorem mh_27 : (MT 27).2.2.2.2.1 = [] := rfl
theorem mn_27 : (MT 27).2.2.1 = 1 := rfl
theorem mc_28 : (vg_rm (MT 28)).cells = 0 := rfl
theorem ms_28 : (vg_rm (MT 28)).slots = 0 := rfl
theorem ml_28 : (vg_rm (MT 28)).locals = 46 := rfl
theorem mr_28 : (MT 28).2.2.2.1 = (some .boolean) := rfl
theorem mh_28 : (MT 28).2.2.2.2.1 = [] := rfl
theorem mn_28 : (MT 28).2.2.1 = 3 := rfl
theorem mc_29 : (vg_rm (MT 29)).cells = 0 := rfl
theorem ms_29 : (vg_rm (MT 29)).slots = 0 := rfl
theorem ml_29 : (vg_rm (MT 29)).locals = 22 := rfl
theorem mr_29 : (MT 29).2.2.2.1 = (some .boolean) := rfl
theorem mh_29 : (MT 29).2.2.2.2.1 = [] := rfl
theorem mn_29 : (MT 29).2.2.1 = 1 := rfl
theorem mc_30 : (vg_rm (MT 30)).cells = 0 := rfl
theorem ms_30 : (vg_rm (MT 30)).slots = 0 := rfl
theorem ml_30 : (vg_rm (MT 30)).locals = 22 := rfl
theorem mr_30 : (MT 30).2.2.2.1 = (some .boolean) := rfl
theorem mh_30 : (MT 30).2.2.2.2.1 = [] := rfl
theorem mn_30 : (MT 30).2.2.1 = 1 := rfl
theorem mc_31 : (vg_rm (MT 31)).cells = 0 := rfl
theorem ms_31 : (vg_rm (MT 31)).slots = 0 := rfl
theorem ml_31 : (vg_rm (MT 31)).locals = 22 := rfl
theorem mr_31 : (MT 31).2.2.2.1 = (some .boolean) := rfl
theorem mh_31 : (MT 31).2.2.2.2.1 = [] := rfl
theorem mn_31 : (MT 31).2.2.1 = 1 := rfl
theorem mc_32 : (vg_rm (MT 32)).cells = 0 := rfl
theorem ms_32 : (vg_rm (MT 32)).slots = 0 := rfl
theorem ml_32 : (vg_rm (MT 32)).locals = 22 := rfl
theorem mr_32 : (MT 32).2.2.2.1 = (some .boolean) := rfl
theorem mh_32 : (MT 32).2.2.2.2.1 = [] := rfl
theorem mn_32 : (MT 32).2.2.1 = 1 := rfl
theorem mc_33 : (vg_rm (MT 33)).cells = 0 := rfl
theorem ms_33 : (vg_rm (MT 33)).slots = 0 := rfl
theorem ml_33 : (vg_rm (MT 33)).locals = 22 := rfl
theorem mr_33 : (MT 33).2.2.2.1 = (some .boolean) := rfl
theorem mh_33 : (MT 33).2.2.2.2.1 = [] := rfl
theorem mn_33 : (MT 33).2.2.1 = 1 := rfl
theorem mc_34 : (vg_rm (MT 34)).cells = 0 := rfl
theorem ms_34 : (vg_rm (MT 34)).slots = 0 := rfl
theorem ml_34 : (vg_rm (MT 34)).locals = 22 := rfl
theorem mr_34 : (MT 34).2.2.2.1 = (some .boolean) := rfl
theorem mh_34 : (MT 34).2.2.2.2.1 = [] := rfl
theorem mn_34 : (MT 34).2.2.1 = 1 := rfl
theorem mc_35 : (vg_rm (MT 35)).cells = 0 := rfl
theorem ms_35 : (vg_rm (MT 35)).slots = 0 := rfl
theorem ml_35 : (vg_rm (MT 35)).locals = 42 := rfl
theorem mr_35 : (MT 35).2.2.2.1 = (some .boolean) := rfl
theorem mh_35 : (MT 35).2.2.2.2.1 = [] := rfl
theorem mn_35 : (MT 35).2.2.1 = 2 := rfl
theorem mc_36 : (vg_rm (MT 36)).cells = 0 := rfl
theorem ms_36 : (vg_rm (MT 36)).slots = 0 := rfl
theorem ml_36 : (vg_rm (MT 36)).locals = 22 := rfl
theorem mr_36 : (MT 36).2.2.2.1 = (some .boolean) := rfl
theorem mh_36 : (MT 36).2.2.2.2.1 = [] := rfl
theorem mn_36 : (MT 36).2.2.1 = 2 := rfl
theorem mc_37 : (vg_rm (MT 37)).cells = 0 := rfl
theorem ms_37 : (vg_rm (MT 37)).slots = 0 := rfl
theorem ml_37 : (vg_rm (MT 37)).locals = 42 := rfl
theorem mr_37 : (MT 37).2.2.2.1 = (some .boolean) := rfl
theorem mh_37 : (MT 37).2.2.2.2.1 = [] := rfl
theorem mn_37 : (MT 37).2.2.1 = 2 := rfl
theorem mc_38 : (vg_rm (MT 38)).cells = 0 := rfl
theorem ms_38 : (vg_rm (MT 38)).slots = 0 := rfl
theorem ml_38 : (vg_rm (MT 38)).locals = 22 := rfl
theorem mr_38 : (MT 38).2.2.2.1 = (some .boolean) := rfl
theorem mh_38 : (MT 38).2.2.2.2.1 = [] := rfl
theorem mn_38 : (MT 38).2.2.1 = 1 := rfl
theorem mc_39 : (vg_rm (MT 39)).cells = 1 := rfl
theorem ms_39 : (vg_rm (MT 39)).slots = 6 := rfl
theorem ml_39 : (vg_rm (MT 39)).locals = 101 := rfl
theorem mr_39 : (MT 39).2.2.2.1 = (some .int) := rfl
theorem mh_39 : (MT 39).2.2.2.2.1 = [] := rfl
theorem mn_39 : (MT 39).2.2.1 = 4 := rfl
theorem mc_40 : (vg_rm (MT 40)).cells = 0 := rfl
theorem ms_40 : (vg_rm (MT 40)).slots = 0 := rfl
theorem ml_40 : (vg_rm (MT 40)).locals = 0 := rfl
theorem mr_40 : (MT 40).2.2.2.1 = (some .int) := rfl
theorem mh_40 : (MT 40).2.2.2.2.1 = [] := rfl
theorem mn_40 : (MT 40).2.2.1 = 2 := rfl
theorem mc_41 : (vg_rm (MT 41)).cells = 2 := rfl
theorem ms_41 : (vg_rm (MT 41)).slots = 12 := rfl
theorem ml_41 : (vg_rm (MT 41)).locals = 101 := rfl
theorem mr_41 : (MT 41).2.2.2.1 = (some .int) := rfl
theorem mh_41 : (MT 41).2.2.2.2.1 = [] := rfl
theorem mn_41 : (MT 41).2.2.1 = 4 := rfl
theorem mc_42 : (vg_rm (MT 42)).cells = 2 := rfl
theorem ms_42 : (vg_rm (MT 42)).slots = 12 := rfl
theorem ml_42 : (vg_rm (MT 42)).locals = 147 := rfl
theorem mr_42 : (MT 42).2.2.2.1 = (some .boolean) := rfl
theorem mh_42 : (MT 42).2.2.2.2.1 = [] := rfl
theorem mn_42 : (MT 42).2.2.1 = 3 := rfl
theorem mc_43 : (vg_rm (MT 43)).cells = 5 := rfl
theorem ms_43 : (vg_rm (MT 43)).slots = 36 := rfl
theorem ml_43 : (vg_rm (MT 43)).locals = 101 := rfl
theorem mr_43 : (MT 43).2.2.2.1 = (some .int) := rfl
theorem mh_43 : (MT 43).2.2.2.2.1 = [] := rfl
theorem mn_43 : (MT 43).2.2.1 = 6 := rfl
theorem mc_44 : (vg_rm (MT 44)).cells = 0 := rfl
theorem ms_44 : (vg_rm (MT 44)).slots = 0 := rfl
theorem ml_44 : (vg_rm (MT 44)).locals = 46 := rfl
theorem mr_44 : (MT 44).2.2.2.1 = (some .int) := rfl
theorem mh_44 : (MT 44).2.2.2.2.1 = [] := rfl
theorem mn_44 : (MT 44).2.2.1 = 7 := rfl
theorem mc_45 : (vg_rm (MT 45)).cells = 1 := rfl
theorem ms_45 : (vg_rm (MT 45)).slots = 6 := rfl
theorem ml_45 : (vg_rm (MT 45)).locals = 81 := rfl
theorem mr_45 : (MT 45).2.2.2.1 = none := rfl
theorem mh_45 : (MT 45).2.2.2.2.1 = [] := rfl
theorem mn_45 : (MT 45).2.2.1 = 1 := rfl
theorem mc_46 : (vg_rm (MT 46)).cells = 1 := rfl
theorem ms_46 : (vg_rm (MT 46)).slots = 6 := rfl
theorem ml_46 : (vg_rm (MT 46)).locals = 81 := rfl
theorem mr_46 : (MT 46).2.2.2.1 = none := rfl
theorem mh_46 : (MT 46).2.2.2.2.1 = [] := rfl
theorem mn_46 : (MT 46).2.2.1 = 1 := rfl
theorem mc_47 : (vg_rm (MT 47)).cells = 1 := rfl
theorem ms_47 : (vg_rm (MT 47)).slots = 6 := rfl
theorem ml_47 : (vg_rm (MT 47)).locals = 101 := rfl
theorem mr_47 : (MT 47).2.2.2.1 = (some .int) := rfl
theorem mh_47 : (MT 47).2.2.2.2.1 = [] := rfl
theorem mn_47 : (MT 47).2.2.1 = 2 := rfl
theorem mc_48 : (vg_rm (MT 48)).cells = 1 := rfl
theorem ms_48 : (vg_rm (MT 48)).slots = 6 := rfl
theorem ml_48 : (vg_rm (MT 48)).locals = 101 := rfl
theorem mr_48 : (MT 48).2.2.2.1 = (some .int) := rfl
theorem mh_48 : (MT 48).2.2.2.2.1 = [] := rfl
theorem mn_48 : (MT 48).2.2.1 = 3 := rfl
theorem mc_49 : (vg_rm (MT 49)).cells = 2 := rfl
theorem ms_49 : (vg_rm (MT 49)).slots = 12 := rfl
theorem ml_49 : (vg_rm (MT 49)).locals = 101 := rfl
theorem mr_49 : (MT 49).2.2.2.1 = (some .int) := rfl
theorem mh_49 : (MT 49).2.2.2.2.1 = [] := rfl
theorem mn_49 : (MT 49).2.2.1 = 4 := rfl
theorem mc_50 : (vg_rm (MT 50)).cells = 2 := rfl
theorem ms_50 : (vg_rm (MT 50)).slots = 12 := rfl
theorem ml_50 : (vg_rm (MT 50)).locals = 147 := rfl
theorem mr_50 : (MT 50).2.2.2.1 = (some .int) := rfl
theorem mh_50 : (MT 50).2.2.2.2.1 = [] := rfl
theorem mn_50 : (MT 50).2.2.1 = 6 := rfl
theorem mc_51 : (vg_rm (MT 51)).cells = 3 := rfl
theorem ms_51 : (vg_rm (MT 51)).slots = 15 := rfl
theorem ml_51 : (vg_rm (MT 51)).locals = 101 := rfl
theorem mr_51 : (MT 51).2.2.2.1 = (some .int) := rfl
theorem mh_51 : (MT 51).2.2.2.2.1 = [] := rfl
theorem mn_51 : (MT 51).2.2.1 = 4 := rfl
theorem mc_52 : (vg_rm (MT 52)).cells = 2 := rfl
theorem ms_52 : (vg_rm (MT 52)).slots = 12 := rfl
theorem ml_52 : (vg_rm (MT 52)).locals = 101 := rfl
theorem mr_52 : (MT 52).2.2.2.1 = none := rfl
theorem mh_52 : (MT 52).2.2.2.2.1 = [] := rfl
theorem mn_52 : (MT 52).2.2.1 = 3 := rfl
theorem mc_53 : (vg_rm (MT 53)).cells = 3 := rfl
theorem ms_53 : (vg_rm (MT 53)).slots = 18 := rfl
theorem ml_53 : (vg_rm (MT 53)).locals = 101 := rfl
theorem mr_53 : (MT 53).2.2.2.1 = none := rfl
theorem mh_53 : (MT 53).2.2.2.2.1 = [] := rfl
theorem mn_53 : (MT 53).2.2.1 = 4 := rfl
theorem mc_54 : (vg_rm (MT 54)).cells = 0 := rfl
theorem ms_54 : (vg_rm (MT 54)).slots = 0 := rfl
theorem ml_54 : (vg_rm (MT 54)).locals = 20 := rfl
theorem mr_54 : (MT 54).2.2.2.1 = (some .int) := rfl
theorem mh_54 : (MT 54).2.2.2.2.1 = [] := rfl
theorem mn_54 : (MT 54).2.2.1 = 5 := rfl
theorem mc_55 : (vg_rm (MT 55)).cells = 3 := rfl
theorem ms_55 : (vg_rm (MT 55)).slots = 18 := rfl
theorem ml_55 : (vg_rm (MT 55)).locals = 101 := rfl
theorem mr_55 : (MT 55).2.2.2.1 = none := rfl
theorem mh_55 : (MT 55).2.2.2.2.1 = [] := rfl
theorem mn_55 : (MT 55).2.2.1 = 5 := rfl
theorem mc_56 : (vg_rm (MT 56)).cells = 1 := rfl
theorem ms_56 : (vg_rm (MT 56)).slots = 3 := rfl
theorem ml_56 : (vg_rm (MT 56)).locals = 35 := rfl
theorem mr_56 : (MT 56).2.2.2.1 = none := rfl
theorem mh_56 : (MT 56).2.2.2.2.1 = [] := rfl
theorem mn_56 : (MT 56).2.2.1 = 4 := rfl
theorem mc_57 : (vg_rm (MT 57)).cells = 3 := rfl
theorem ms_57 : (vg_rm (MT 57)).slots = 15 := rfl
theorem ml_57 : (vg_rm (MT 57)).locals = 101 := rfl
theorem mr_57 : (MT 57).2.2.2.1 = (some .boolean) := rfl
theorem mh_57 : (MT 57).2.2.2.2.1 = [] := rfl
theorem mn_57 : (MT 57).2.2.1 = 5 := rfl
theorem mc_58 : (vg_rm (MT 58)).cells = 0 := rfl
theorem ms_58 : (vg_rm (MT 58)).slots = 0 := rfl
theorem ml_58 : (vg_rm (MT 58)).locals = 21 := rfl
theorem mr_58 : (MT 58).2.2.2.1 = (some .int) := rfl
theorem mh_58 : (MT 58).2.2.2.2.1 = [] := rfl
theorem mn_58 : (MT 58).2.2.1 = 6 := rfl
theorem mc_59 : (vg_rm (MT 59)).cells = 1 := rfl
theorem ms_59 : (vg_rm (MT 59)).slots = 6 := rfl
theorem ml_59 : (vg_rm (MT 59)).locals = 101 := rfl
theorem mr_59 : (MT 59).2.2.2.1 = (some .int) := rfl
theorem mh_59 : (MT 59).2.2.2.2.1 = [] := rfl
theorem mn_59 : (MT 59).2.2.1 = 5 := rfl
theorem mc_60 : (vg_rm (MT 60)).cells = 0 := rfl
theorem ms_60 : (vg_rm (MT 60)).slots = 0 := rfl
theorem ml_60 : (vg_rm (MT 60)).locals = 20 := rfl
theorem mr_60 : (MT 60).2.2.2.1 = (some (.object "ParkOffice$Ticket")) := rfl
theorem mh_60 : (MT 60).2.2.2.2.1 = [] := rfl
theorem mn_60 : (MT 60).2.2.1 = 3 := rfl
theorem mc_61 : (vg_rm (MT 61)).cells = 0 := rfl
theorem ms_61 : (vg_rm (MT 61)).slots = 0 := rfl
theorem ml_61 : (vg_rm (MT 61)).locals = 0 := rfl
theorem mr_61 : (MT 61).2.2.2.1 = (some .boolean) := rfl
theorem mh_61 : (MT 61).2.2.2.2.1 = [] := rfl
theorem mn_61 : (MT 61).2.2.1 = 3 := rfl
theorem mc_62 : (vg_rm (MT 62)).cells = 0 := rfl
theorem ms_62 : (vg_rm (MT 62)).slots = 0 := rfl
theorem ml_62 : (vg_rm (MT 62)).locals = 0 := rfl
theorem mr_62 : (MT 62).2.2.2.1 = none := rfl
theorem mh_62 : (MT 62).2.2.2.2.1 = [] := rfl
theorem mn_62 : (MT 62).2.2.1 = 2 := rfl
theorem mc_63 : (vg_rm (MT 63)).cells = 0 := rfl
theorem ms_63 : (vg_rm (MT 63)).slots = 0 := rfl
theorem ml_63 : (vg_rm (MT 63)).locals = 0 := rfl
theorem mr_63 : (MT 63).2.2.2.1 = (some .int) := rfl
theorem mh_63 : (MT 63).2.2.2.2.1 = [] := rfl
theorem mn_63 : (MT 63).2.2.1 = 3 := rfl
theorem mc_64 : (vg_rm (MT 64)).cells = 1 := rfl
theorem ms_64 : (vg_rm (MT 64)).slots = 12 := rfl
theorem ml_64 : (vg_rm (MT 64)).locals = 12 := rfl
theorem mr_64 : (MT 64).2.2.2.1 = none := rfl
theorem mh_64 : (MT 64).2.2.2.2.1 = [] := rfl
theorem mn_64 : (MT 64).2.2.1 = 1 := rfl
theorem mc_65 : (vg_rm (MT 65)).cells = 0 := rfl
theorem ms_65 : (vg_rm (MT 65)).slots = 0 := rfl
theorem ml_65 : (vg_rm (MT 65)).locals = 22 := rfl
theorem mr_65 : (MT 65).2.2.2.1 = none := rfl
theorem mh_65 : (MT 65).2.2.2.2.1 = [] := rfl
theorem mn_65 : (MT 65).2.2.1 = 3 := rfl
theorem mc_66 : (vg_rm (MT 66)).cells = 0 := rfl
theorem ms_66 : (vg_rm (MT 66)).slots = 0 := rfl
theorem ml_66 : (vg_rm (MT 66)).locals = 48 := rfl
theorem mr_66 : (MT 66).2.2.2.1 = (some .int) := rfl
theorem mh_66 : (MT 66).2.2.2.2.1 = [] := rfl
theorem mn_66 : (MT 66).2.2.1 = 4 := rfl
theorem mc_67 : (vg_rm (MT 67)).cells = 0 := rfl
theorem ms_67 : (vg_rm (MT 67)).slots = 0 := rfl
theorem ml_67 : (vg_rm (MT 67)).locals = 0 := rfl
theorem mr_67 : (MT 67).2.2.2.1 = (some .int) := rfl
theorem mh_67 : (MT 67).2.2.2.2.1 = [] := rfl
theorem mn_67 : (MT 67).2.2.1 = 2 := rfl
theorem mc_68 : (vg_rm (MT 68)).cells = 5 := rfl
theorem ms_68 : (vg_rm (MT 68)).slots = 5386 := rfl
theorem ml_68 : (vg_rm (MT 68)).locals = 12 := rfl
theorem mr_68 : (MT 68).2.2.2.1 = none := rfl
theorem mh_68 : (MT 68).2.2.2.2.1 = [] := rfl
theorem mn_68 : (MT 68).2.2.1 = 1 := rfl
theorem mc_69 : (vg_rm (MT 69)).cells = 0 := rfl
theorem ms_69 : (vg_rm (MT 69)).slots = 0 := rfl
theorem ml_69 : (vg_rm (MT 69)).locals = 22 := rfl
theorem mr_69 : (MT 69).2.2.2.1 = (some .long) := rfl
theorem mh_69 : (MT 69).2.2.2.2.1 = [] := rfl
theorem mn_69 : (MT 69).2.2.1 = 8 := rfl
theorem mc_70 : (vg_rm (MT 70)).cells = 0 := rfl
theorem ms_70 : (vg_rm (MT 70)).slots = 0 := rfl
theorem ml_70 : (vg_rm (MT 70)).locals = 0 := rfl
theorem mr_70 : (MT 70).2.2.2.1 = (some .int) := rfl
theorem mh_70 : (MT 70).2.2.2.2.1 = [] := rfl
theorem mn_70 : (MT 70).2.2.1 = 3 := rfl
theorem mc_71 : (vg_rm (MT 71)).cells = 0 := rfl
theorem ms_71 : (vg_rm (MT 71)).slots = 0 := rfl
theorem ml_71 : (vg_rm (MT 71)).locals = 24 := rfl
theorem mr_71 : (MT 71).2.2.2.1 = none := rfl
theorem mh_71 : (MT 71).2.2.2.2.1 = [] := rfl
theorem mn_71 : (MT 71).2.2.1 = 5 := rfl
theorem mc_72 : (vg_rm (MT 72)).cells = 0 := rfl
theorem ms_72 : (vg_rm (MT 72)).slots = 0 := rfl
theorem ml_72 : (vg_rm (MT 72)).locals = 74 := rfl
theorem mr_72 : (MT 72).2.2.2.1 = (some .int) := rfl
theorem mh_72 : (MT 72).2.2.2.2.1 = [] := rfl
theorem mn_72 : (MT 72).2.2.1 = 6 := rfl
theorem mc_73 : (vg_rm (MT 73)).cells = 0 := rfl
theorem ms_73 : (vg_rm (MT 73)).slots = 0 := rfl
theorem ml_73 : (vg_rm (MT 73)).locals = 74 := rfl
theorem mr_73 : (MT 73).2.2.2.1 = (some .int) := rfl
theorem mh_73 : (MT 73).2.2.2.2.1 = [] := rfl
theorem mn_73 : (MT 73).2.2.1 = 7 := rfl
theorem mc_74 : (vg_rm (MT 74)).cells = 0 := rfl
theorem ms_74 : (vg_rm (MT 74)).slots = 0 := rfl
theorem ml_74 : (vg_rm (MT 74)).locals = 0 := rfl
theorem mr_74 : (MT 74).2.2.2.1 = (some .long) := rfl
theorem mh_74 : (MT 74).2.2.2.2.1 = [] := rfl
theorem mn_74 : (MT 74).2.2.1 = 2 := rfl
theorem mc_75 : (vg_rm (MT 75)).cells = 0 := rfl
theorem ms_75 : (vg_rm (MT 75)).slots = 0 := rfl
theorem ml_75 : (vg_rm (MT 75)).locals = 0 := rfl
theorem mr_75 : (MT 75).2.2.2.1 = (some .long) := rfl
theorem mh_75 : (MT 75).2.2.2.2.1 = [] := rfl
theorem mn_75 : (MT 75).2.2.1 = 2 := rfl
theorem mc_76 : (vg_rm (MT 76)).cells = 0 := rfl
theorem ms_76 : (vg_rm (MT 76)).slots = 0 := rfl
theorem ml_76 : (vg_rm (MT 76)).locals = 0 := rfl
theorem mr_76 : (MT 76).2.2.2.1 = (some .int) := rfl
theorem mh_76 : (MT 76).2.2.2.2.1 = [] := rfl
theorem mn_76 : (MT 76).2.2.1 = 3 := rfl
theorem mc_77 : (vg_rm (MT 77)).cells = 0 := rfl
theorem ms_77 : (vg_rm (MT 77)).slots = 0 := rfl
theorem ml_77 : (vg_rm (MT 77)).locals = 49 := rfl
theorem mr_77 : (MT 77).2.2.2.1 = none := rfl
theorem mh_77 : (MT 77).2.2.2.2.1 = [] := rfl
theorem mn_77 : (MT 77).2.2.1 = 6 := rfl
theorem mc_78 : (vg_rm (MT 78)).cells = 0 := rfl
theorem ms_78 : (vg_rm (MT 78)).slots = 0 := rfl
theorem ml_78 : (vg_rm (MT 78)).locals = 23 := rfl
theorem mr_78 : (MT 78).2.2.2.1 = none := rfl
theorem mh_78 : (MT 78).2.2.2.2.1 = [] := rfl
theorem mn_78 : (MT 78).2.2.1 = 4 := rfl
theorem mc_79 : (vg_rm (MT 79)).cells = 0 := rfl
theorem ms_79 : (vg_rm (MT 79)).slots = 0 := rfl
theorem ml_79 : (vg_rm (MT 79)).locals = 0 := rfl
theorem mr_79 : (MT 79).2.2.2.1 = none := rfl
theorem mh_79 : (MT 79).2.2.2.2.1 = [] := rfl
theorem mn_79 : (MT 79).2.2.1 = 3 := rfl
theorem mc_80 : (vg_rm (MT 80)).cells = 3 := rfl
theorem ms_80 : (vg_rm (MT 80)).slots = 18 := rfl
theorem ml_80 : (vg_rm (MT 80)).locals = 12 := rfl
theorem mr_80 : (MT 80).2.2.2.1 = none := rfl
theorem mh_80 : (MT 80).2.2.2.2.1 = [] := rfl
theorem mn_80 : (MT 80).2.2.1 = 1 := rfl
theorem mc_81 : (vg_rm (MT 81)).cells = 0 := rfl
theorem ms_81 : (vg_rm (MT 81)).slots = 0 := rfl
theorem ml_81 : (vg_rm (MT 81)).locals = 0 := rfl
theorem mr_81 : (MT 81).2.2.2.1 = none := rfl
theorem mh_81 : (MT 81).2.2.2.2.1 = [] := rfl
theorem mn_81 : (MT 81).2.2.1 = 2 := rfl
theorem mc_82 : (vg_rm (MT 82)).cells = 0 := rfl
theorem ms_82 : (vg_rm (MT 82)).slots = 0 := rfl
theorem ml_82 : (vg_rm (MT 82)).locals = 12 := rfl
theorem mr_82 : (MT 82).2.2.2.1 = none := rfl
theorem mh_82 : (MT 82).2.2.2.2.1 = [] := rfl
theorem mn_82 : (MT 82).2.2.1 = 4 := rfl
theorem mc_83 : (vg_rm (MT 83)).cells = 0 := rfl
theorem ms_83 : (vg_rm (MT 83)).slots = 0 := rfl
theorem ml_83 : (vg_rm (MT 83)).locals = 0 := rfl
theorem mr_83 : (MT 83).2.2.2.1 = (some .int) := rfl
theorem mh_83 : (MT 83).2.2.2.2.1 = [] := rfl
theorem mn_83 : (MT 83).2.2.1 = 5 := rfl
theorem mc_84 : (vg_rm (MT 84)).cells = 0 := rfl
theorem ms_84 : (vg_rm (MT 84)).slots = 0 := rfl
theorem ml_84 : (vg_rm (MT 84)).locals = 12 := rfl
theorem mr_84 : (MT 84).2.2.2.1 = none := rfl
theorem mh_84 : (MT 84).2.2.2.2.1 = [] := rfl
theorem mn_84 : (MT 84).2.2.1 = 5 := rfl
theorem mc_85 : (vg_rm (MT 85)).cells = 0 := rfl
theorem ms_85 : (vg_rm (MT 85)).slots = 0 := rfl
theorem ml_85 : (vg_rm (MT 85)).locals = 0 := rfl
theorem mr_85 : (MT 85).2.2.2.1 = (some .boolean) := rfl
theorem mh_85 : (MT 85).2.2.2.2.1 = [] := rfl
theorem mn_85 : (MT 85).2.2.1 = 2 := rfl
theorem mc_86 : (vg_rm (MT 86)).cells = 0 := rfl
theorem ms_86 : (vg_rm (MT 86)).slots = 0 := rfl
theorem ml_86 : (vg_rm (MT 86)).locals = 12 := rfl
theorem mr_86 : (MT 86).2.2.2.1 = none := rfl
theorem mh_86 : (MT 86).2.2.2.2.1 = [] := rfl
theorem mn_86 : (MT 86).2.2.1 = 4 := rfl
theorem mc_87 : (vg_rm (MT 87)).cells = 0 := rfl
theorem ms_87 : (vg_rm (MT 87)).slots = 0 := rfl
theorem ml_87 : (vg_rm (MT 87)).locals = 0 := rfl
theorem mr_87 : (MT 87).2.2.2.1 = (some .boolean) := rfl
theorem mh_87 : (MT 87).2.2.2.2.1 = [] := rfl
theorem mn_87 : (MT 87).2.2.1 = 2 := rfl
theorem mc_88 : (vg_rm (MT 88)).cells = 0 := rfl
theorem ms_88 : (vg_rm (MT 88)).slots = 0 := rfl
theorem ml_88 : (vg_rm (MT 88)).locals = 12 := rfl
theorem mr_88 : (MT 88).2.2.2.1 = none := rfl
theorem mh_88 : (MT 88).2.2.2.2.1 = [] := rfl
theorem mn_88 : (MT 88).2.2.1 = 6 := rfl
theorem mc_89 : (vg_rm (MT 89)).cells = 0 := rfl
theorem ms_89 : (vg_rm (MT 89)).slots = 0 := rfl
theorem ml_89 : (vg_rm (MT 89)).locals = 0 := rfl
theorem mr_89 : (MT 89).2.2.2.1 = (some .boolean) := rfl
theorem mh_89 : (MT 89).2.2.2.2.1 = [] := rfl
theorem mn_89 : (MT 89).2.2.1 = 2 := rfl
theorem mc_90 : (vg_rm (MT 90)).cells = 0 := rfl
theorem ms_90 : (vg_rm (MT 90)).slots = 0 := rfl
theorem ml_90 : (vg_rm (MT 90)).locals = 0 := rfl
theorem mr_90 : (MT 90).2.2.2.1 = (some .boolean) := rfl
theorem mh_90 : (MT 90).2.2.2.2.1 = [] := rfl
theorem mn_90 : (MT 90).2.2.1 = 1 := rfl
theorem mc_91 : (vg_rm (MT 91)).cells = 0 := rfl
theorem ms_91 : (vg_rm (MT 91)).slots = 0 := rfl
theorem ml_91 : (vg_rm (MT 91)).locals = 43 := rfl
theorem mr_91 : (MT 91).2.2.2.1 = (some .int) := rfl
theorem mh_91 : (MT 91).2.2.2.2.1 = [] := rfl
theorem mn_91 : (MT 91).2.2.1 = 2 := rfl
theorem mc_92 : (vg_rm (MT 92)).cells = 0 := rfl
theorem ms_92 : (vg_rm (MT 92)).slots = 0 := rfl
theorem ml_92 : (vg_rm (MT 92)).locals = 0 := rfl
theorem mr_92 : (MT 92).2.2.2.1 = none := rfl
theorem mh_92 : (MT 92).2.2.2.2.1 = [] := rfl
theorem mn_92 : (MT 92).2.2.1 = 3 := rfl
theorem mc_93 : (vg_rm (MT 93)).cells = 0 := rfl
theorem ms_93 : (vg_rm (MT 93)).slots = 0 := rfl
theorem ml_93 : (vg_rm (MT 93)).locals = 21 := rfl
theorem mr_93 : (MT 93).2.2.2.1 = (some .boolean) := rfl
theorem mh_93 : (MT 93).2.2.2.2.1 = [] := rfl
theorem mn_93 : (MT 93).2.2.1 = 3 := rfl
theorem mc_94 : (vg_rm (MT 94)).cells = 1 := rfl
theorem ms_94 : (vg_rm (MT 94)).slots = 24 := rfl
theorem ml_94 : (vg_rm (MT 94)).locals = 12 := rfl
theorem mr_94 : (MT 94).2.2.2.1 = none := rfl
theorem mh_94 : (MT 94).2.2.2.2.1 = [] := rfl
theorem mn_94 : (MT 94).2.2.1 = 2 := rfl
theorem mc_95 : (vg_rm (MT 95)).cells = 0 := rfl
theorem ms_95 : (vg_rm (MT 95)).slots = 0 := rfl
theorem ml_95 : (vg_rm (MT 95)).locals = 0 := rfl
theorem mr_95 : (MT 95).2.2.2.1 = (some .int) := rfl
theorem mh_95 : (MT 95).2.2.2.2.1 = [] := rfl
theorem mn_95 : (MT 95).2.2.1 = 6 := rfl
theorem mc_96 : (vg_rm (MT 96)).cells = 0 := rfl
theorem ms_96 : (vg_rm (MT 96)).slots = 0 := rfl
theorem ml_96 : (vg_rm (MT 96)).locals = 0 := rfl
theorem mr_96 : (MT 96).2.2.2.1 = none := rfl
theorem mh_96 : (MT 96).2.2.2.2.1 = [] := rfl
theorem mn_96 : (MT 96).2.2.1 = 1 := rfl
theorem mc_97 : (vg_rm (MT 97)).cells = 0 := rfl
theorem ms_97 : (vg_rm (MT 97)).slots = 0 := rfl
theorem ml_97 : (vg_rm (MT 97)).locals = 65 := rfl
theorem mr_97 : (MT 97).2.2.2.1 = (some .int) := rfl
theorem mh_97 : (MT 97).2.2.2.2.1 = [] := rfl
theorem mn_97 : (MT 97).2.2.1 = 8 := rfl
theorem mc_98 : (vg_rm (MT 98)).cells = 0 := rfl
theorem ms_98 : (vg_rm (MT 98)).slots = 0 := rfl
theorem ml_98 : (vg_rm (MT 98)).locals = 42 := rfl
theorem mr_98 : (MT 98).2.2.2.1 = (some .int) := rfl
theorem mh_98 : (MT 98).2.2.2.2.1 = [] := rfl
theorem mn_98 : (MT 98).2.2.1 = 4 := rfl
theorem mc_99 : (vg_rm (MT 99)).cells = 0 := rfl
theorem ms_99 : (vg_rm (MT 99)).slots = 0 := rfl
theorem ml_99 : (vg_rm (MT 99)).locals = 22 := rfl
theorem mr_99 : (MT 99).2.2.2.1 = (some .boolean) := rfl
theorem mh_99 : (MT 99).2.2.2.2.1 = [] := rfl
theorem mn_99 : (MT 99).2.2.1 = 3 := rfl
theorem mc_100 : (vg_rm (MT 100)).cells = 0 := rfl
theorem ms_100 : (vg_rm (MT 100)).slots = 0 := rfl
theorem ml_100 : (vg_rm (MT 100)).locals = 0 := rfl
theorem mr_100 : (MT 100).2.2.2.1 = (some .int) := rfl
theorem mh_100 : (MT 100).2.2.2.2.1 = [] := rfl
theorem mn_100 : (MT 100).2.2.1 = 4 := rfl
theorem mc_101 : (vg_rm (MT 101)).cells = 0 := rfl
theorem ms_101 : (vg_rm (MT 101)).slots = 0 := rfl
theorem ml_101 : (vg_rm (MT 101)).locals = 42 := rfl
theorem mr_101 : (MT 101).2.2.2.1 = (some .int) := rfl
theorem mh_101 : (MT 101).2.2.2.2.1 = [] := rfl
theorem mn_101 : (MT 101).2.2.1 = 4 := rfl
theorem mc_102 : (vg_rm (MT 102)).cells = 0 := rfl
theorem ms_102 : (vg_rm (MT 102)).slots = 0 := rfl
theorem ml_102 : (vg_rm (MT 102)).locals = 55 := rfl
theorem mr_102 : (MT 102).2.2.2.1 = (some .long) := rfl
theorem mh_102 : (MT 102).2.2.2.2.1 = [] := rfl
theorem mn_102 : (MT 102).2.2.1 = 8 := rfl
theorem mc_103 : (vg_rm (MT 103)).cells = 0 := rfl
theorem ms_103 : (vg_rm (MT 103)).slots = 0 := rfl
theorem ml_103 : (vg_rm (MT 103)).locals = 43 := rfl
theorem mr_103 : (MT 103).2.2.2.1 = (some .int) := rfl
theorem mh_103 : (MT 103).2.2.2.2.1 = [] := rfl
theorem mn_103 : (MT 103).2.2.1 = 5 := rfl
theorem mc_104 : (vg_rm (MT 104)).cells = 0 := rfl
theorem ms_104 : (vg_rm (MT 104)).slots = 0 := rfl
theorem ml_104 : (vg_rm (MT 104)).locals = 0 := rfl
theorem mr_104 : (MT 104).2.2.2.1 = (some .int) := rfl
theorem mh_104 : (MT 104).2.2.2.2.1 = [] := rfl
theorem mn_104 : (MT 104).2.2.1 = 1 := rfl
theorem mc_105 : (vg_rm (MT 105)).cells = 0 := rfl
theorem ms_105 : (vg_rm (MT 105)).slots = 0 := rfl
theorem ml_105 : (vg_rm (MT 105)).locals = 0 := rfl
theorem mr_105 : (MT 105).2.2.2.1 = (some .int) := rfl
theorem mh_105 : (MT 105).2.2.2.2.1 = [] := rfl
theorem mn_105 : (MT 105).2.2.1 = 4 := rfl
theorem mc_106 : (vg_rm (MT 106)).cells = 0 := rfl
theorem ms_106 : (vg_rm (MT 106)).slots = 0 := rfl
theorem ml_106 : (vg_rm (MT 106)).locals = 42 := rfl
theorem mr_106 : (MT 106).2.2.2.1 = none := rfl
theorem mh_106 : (MT 106).2.2.2.2.1 = [] := rfl
theorem mn_106 : (MT 106).2.2.1 = 5 := rfl
theorem mc_107 : (vg_rm (MT 107)).cells = 0 := rfl
theorem ms_107 : (vg_rm (MT 107)).slots = 0 := rfl
theorem ml_107 : (vg_rm (MT 107)).locals = 0 := rfl
theorem mr_107 : (MT 107).2.2.2.1 = (some .int) := rfl
theorem mh_107 : (MT 107).2.2.2.2.1 = [] := rfl
theorem mn_107 : (MT 107).2.2.1 = 5 := rfl
theorem mc_108 : (vg_rm (MT 108)).cells = 0 := rfl
theorem ms_108 : (vg_rm (MT 108)).slots = 0 := rfl
theorem ml_108 : (vg_rm (MT 108)).locals = 28 := rfl
theorem mr_108 : (MT 108).2.2.2.1 = none := rfl
theorem mh_108 : (MT 108).2.2.2.2.1 = [] := rfl
theorem mn_108 : (MT 108).2.2.1 = 8 := rfl
theorem mc_109 : (vg_rm (MT 109)).cells = 0 := rfl
theorem ms_109 : (vg_rm (MT 109)).slots = 0 := rfl
theorem ml_109 : (vg_rm (MT 109)).locals = 42 := rfl
theorem mr_109 : (MT 109).2.2.2.1 = (some .boolean) := rfl
theorem mh_109 : (MT 109).2.2.2.2.1 = [] := rfl
theorem mn_109 : (MT 109).2.2.1 = 6 := rfl
theorem mc_110 : (vg_rm (MT 110)).cells = 0 := rfl
theorem ms_110 : (vg_rm (MT 110)).slots = 0 := rfl
theorem ml_110 : (vg_rm (MT 110)).locals = 43 := rfl
theorem mr_110 : (MT 110).2.2.2.1 = (some .int) := rfl
theorem mh_110 : (MT 110).2.2.2.2.1 = [] := rfl
theorem mn_110 : (MT 110).2.2.1 = 8 := rfl
theorem mc_111 : (vg_rm (MT 111)).cells = 0 := rfl
theorem ms_111 : (vg_rm (MT 111)).slots = 0 := rfl
theorem ml_111 : (vg_rm (MT 111)).locals = 106 := rfl
theorem mr_111 : (MT 111).2.2.2.1 = (some .int) := rfl
theorem mh_111 : (MT 111).2.2.2.2.1 = [] := rfl
theorem mn_111 : (MT 111).2.2.1 = 4 := rfl
theorem mc_112 : (vg_rm (MT 112)).cells = 0 := rfl
theorem ms_112 : (vg_rm (MT 112)).slots = 0 := rfl
theorem ml_112 : (vg_rm (MT 112)).locals = 82 := rfl
theorem mr_112 : (MT 112).2.2.2.1 = (some .int) := rfl
theorem mh_112 : (MT 112).2.2.2.2.1 = [] := rfl
theorem mn_112 : (MT 112).2.2.1 = 5 := rfl
theorem mc_113 : (vg_rm (MT 113)).cells = 0 := rfl
theorem ms_113 : (vg_rm (MT 113)).slots = 0 := rfl
theorem ml_113 : (vg_rm (MT 113)).locals = 42 := rfl
theorem mr_113 : (MT 113).2.2.2.1 = (some .int) := rfl
theorem mh_113 : (MT 113).2.2.2.2.1 = [] := rfl
theorem mn_113 : (MT 113).2.2.1 = 8 := rfl
theorem mc_114 : (vg_rm (MT 114)).cells = 0 := rfl
theorem ms_114 : (vg_rm (MT 114)).slots = 0 := rfl
theorem ml_114 : (vg_rm (MT 114)).locals = 20 := rfl
theorem mr_114 : (MT 114).2.2.2.1 = none := rfl
theorem mh_114 : (MT 114).2.2.2.2.1 = [] := rfl
theorem mn_114 : (MT 114).2.2.1 = 9 := rfl
theorem mc_115 : (vg_rm (MT 115)).cells = 0 := rfl
theorem ms_115 : (vg_rm (MT 115)).slots = 0 := rfl
theorem ml_115 : (vg_rm (MT 115)).locals = 42 := rfl
theorem mr_115 : (MT 115).2.2.2.1 = none := rfl
theorem mh_115 : (MT 115).2.2.2.2.1 = [] := rfl
theorem mn_115 : (MT 115).2.2.1 = 3 := rfl
theorem mc_116 : (vg_rm (MT 116)).cells = 0 := rfl
theorem ms_116 : (vg_rm (MT 116)).slots = 0 := rfl
theorem ml_116 : (vg_rm (MT 116)).locals = 0 := rfl
theorem mr_116 : (MT 116).2.2.2.1 = none := rfl
theorem mh_116 : (MT 116).2.2.2.2.1 = [] := rfl
theorem mn_116 : (MT 116).2.2.1 = 2 := rfl
theorem mc_117 : (vg_rm (MT 117)).cells = 0 := rfl
theorem ms_117 : (vg_rm (MT 117)).slots = 0 := rfl
theorem ml_117 : (vg_rm (MT 117)).locals = 20 := rfl
theorem mr_117 : (MT 117).2.2.2.1 = none := rfl
theorem mh_117 : (MT 117).2.2.2.2.1 = [] := rfl
theorem mn_117 : (MT 117).2.2.1 = 10 := rfl
theorem mc_118 : (vg_rm (MT 118)).cells = 0 := rfl
theorem ms_118 : (vg_rm (MT 118)).slots = 0 := rfl
theorem ml_118 : (vg_rm (MT 118)).locals = 0 := rfl
theorem mr_118 : (MT 118).2.2.2.1 = none := rfl
theorem mh_118 : (MT 118).2.2.2.2.1 = [] := rfl
theorem mn_118 : (MT 118).2.2.1 = 3 := rfl
theorem mc_119 : (vg_rm (MT 119)).cells = 0 := rfl
theorem ms_119 : (vg_rm (MT 119)).slots = 0 := rfl
theorem ml_119 : (vg_rm (MT 119)).locals = 22 := rfl
theorem mr_119 : (MT 119).2.2.2.1 = none := rfl
theorem mh_119 : (MT 119).2.2.2.2.1 = [] := rfl
theorem mn_119 : (MT 119).2.2.1 = 5 := rfl
theorem mc_120 : (vg_rm (MT 120)).cells = 42 := rfl
theorem ms_120 : (vg_rm (MT 120)).slots = 360695 := rfl
theorem ml_120 : (vg_rm (MT 120)).locals = 12 := rfl
theorem mr_120 : (MT 120).2.2.2.1 = none := rfl
theorem mh_120 : (MT 120).2.2.2.2.1 = [] := rfl
theorem mn_120 : (MT 120).2.2.1 = 2 := rfl
theorem mc_121 : (vg_rm (MT 121)).cells = 0 := rfl
theorem ms_121 : (vg_rm (MT 121)).slots = 0 := rfl
theorem ml_121 : (vg_rm (MT 121)).locals = 42 := rfl
theorem mr_121 : (MT 121).2.2.2.1 = (some .int) := rfl
theorem mh_121 : (MT 121).2.2.2.2.1 = [] := rfl
theorem mn_121 : (MT 121).2.2.1 = 2 := rfl
theorem mc_122 : (vg_rm (MT 122)).cells = 0 := rfl
theorem ms_122 : (vg_rm (MT 122)).slots = 0 := rfl
theorem ml_122 : (vg_rm (MT 122)).locals = 0 := rfl
theorem mr_122 : (MT 122).2.2.2.1 = (some .int) := rfl
theorem mh_122 : (MT 122).2.2.2.2.1 = [] := rfl
theorem mn_122 : (MT 122).2.2.1 = 4 := rfl
theorem mc_123 : (vg_rm (MT 123)).cells = 0 := rfl
theorem ms_123 : (vg_rm (MT 123)).slots = 0 := rfl
theorem ml_123 : (vg_rm (MT 123)).locals = 0 := rfl
theorem mr_123 : (MT 123).2.2.2.1 = (some .int) := rfl
theorem mh_123 : (MT 123).2.2.2.2.1 = [] := rfl
theorem mn_123 : (MT 123).2.2.1 = 4 := rfl
theorem mc_124 : (vg_rm (MT 124)).cells = 0 := rfl
theorem ms_124 : (vg_rm (MT 124)).slots = 0 := rfl
theorem ml_124 : (vg_rm (MT 124)).locals = 22 := rfl
theorem mr_124 : (MT 124).2.2.2.1 = (some .boolean) := rfl
theorem mh_124 : (MT 124).2.2.2.2.1 = [] := rfl
theorem mn_124 : (MT 124).2.2.1 = 1 := rfl
theorem mc_125 : (vg_rm (MT 125)).cells = 0 := rfl
theorem ms_125 : (vg_rm (MT 125)).slots = 0 := rfl
theorem ml_125 : (vg_rm (MT 125)).locals = 0 := rfl
theorem mr_125 : (MT 125).2.2.2.1 = (some .boolean) := rfl
theorem mh_125 : (MT 125).2.2.2.2.1 = [] := rfl
theorem mn_125 : (MT 125).2.2.1 = 3 := rfl
theorem mc_126 : (vg_rm (MT 126)).cells = 0 := rfl
theorem ms_126 : (vg_rm (MT 126)).slots = 0 := rfl
theorem ml_126 : (vg_rm (MT 126)).locals = 22 := rfl
theorem mr_126 : (MT 126).2.2.2.1 = (some .boolean) := rfl
theorem mh_126 : (MT 126).2.2.2.2.1 = [] := rfl
theorem mn_126 : (MT 126).2.2.1 = 1 := rfl
theorem mc_127 : (vg_rm (MT 127)).cells = 0 := rfl
theorem ms_127 : (vg_rm (MT 127)).slots = 0 := rfl
theorem ml_127 : (vg_rm (MT 127)).locals = 22 := rfl
theorem mr_127 : (MT 127).2.2.2.1 = (some .boolean) := rfl
theorem mh_127 : (MT 127).2.2.2.2.1 = [] := rfl
theorem mn_127 : (MT 127).2.2.1 = 2 := rfl
theorem mc_128 : (vg_rm (MT 128)).cells = 0 := rfl
theorem ms_128 : (vg_rm (MT 128)).slots = 0 := rfl
theorem ml_128 : (vg_rm (MT 128)).locals = 22 := rfl
theorem mr_128 : (MT 128).2.2.2.1 = (some .boolean) := rfl
theorem mh_128 : (MT 128).2.2.2.2.1 = [] := rfl
theorem mn_128 : (MT 128).2.2.1 = 1 := rfl
theorem mc_129 : (vg_rm (MT 129)).cells = 0 := rfl
theorem ms_129 : (vg_rm (MT 129)).slots = 0 := rfl
theorem ml_129 : (vg_rm (MT 129)).locals = 42 := rfl
theorem mr_129 : (MT 129).2.2.2.1 = (some .boolean) := rfl
theorem mh_129 : (MT 129).2.2.2.2.1 = [] := rfl
theorem mn_129 : (MT 129).2.2.1 = 4 := rfl
theorem mc_130 : (vg_rm (MT 130)).cells = 0 := rfl
theorem ms_130 : (vg_rm (MT 130)).slots = 0 := rfl
theorem ml_130 : (vg_rm (MT 130)).locals = 22 := rfl
theorem mr_130 : (MT 130).2.2.2.1 = (some .boolean) := rfl
theorem mh_130 : (MT 130).2.2.2.2.1 = [] := rfl
theorem mn_130 : (MT 130).2.2.1 = 2 := rfl
theorem mc_131 : (vg_rm (MT 131)).cells = 0 := rfl
theorem ms_131 : (vg_rm (MT 131)).slots = 0 := rfl
theorem ml_131 : (vg_rm (MT 131)).locals = 25 := rfl
theorem mr_131 : (MT 131).2.2.2.1 = (some .boolean) := rfl
theorem mh_131 : (MT 131).2.2.2.2.1 = [] := rfl
theorem mn_131 : (MT 131).2.2.1 = 4 := rfl
theorem mc_132 : (vg_rm (MT 132)).cells = 0 := rfl
theorem ms_132 : (vg_rm (MT 132)).slots = 0 := rfl
theorem ml_132 : (vg_rm (MT 132)).locals = 22 := rfl
theorem mr_132 : (MT 132).2.2.2.1 = (some .boolean) := rfl
theorem mh_132 : (MT 132).2.2.2.2.1 = [] := rfl
theorem mn_132 : (MT 132).2.2.1 = 1 := rfl
theorem mc_133 : (vg_rm (MT 133)).cells = 0 := rfl
theorem ms_133 : (vg_rm (MT 133)).slots = 0 := rfl
theorem ml_133 : (vg_rm (MT 133)).locals = 22 := rfl
theorem mr_133 : (MT 133).2.2.2.1 = (some .int) := rfl
theorem mh_133 : (MT 133).2.2.2.2.1 = [] := rfl
theorem mn_133 : (MT 133).2.2.1 = 3 := rfl
theorem mc_134 : (vg_rm (MT 134)).cells = 0 := rfl
theorem ms_134 : (vg_rm (MT 134)).slots = 0 := rfl
theorem ml_134 : (vg_rm (MT 134)).locals = 20 := rfl
theorem mr_134 : (MT 134).2.2.2.1 = (some .int) := rfl
theorem mh_134 : (MT 134).2.2.2.2.1 = [] := rfl
theorem mn_134 : (MT 134).2.2.1 = 3 := rfl
theorem mc_135 : (vg_rm (MT 135)).cells = 0 := rfl
theorem ms_135 : (vg_rm (MT 135)).slots = 0 := rfl
theorem ml_135 : (vg_rm (MT 135)).locals = 65 := rfl
theorem mr_135 : (MT 135).2.2.2.1 = (some .int) := rfl
theorem mh_135 : (MT 135).2.2.2.2.1 = [] := rfl
theorem mn_135 : (MT 135).2.2.1 = 4 := rfl
theorem mc_136 : (vg_rm (MT 136)).cells = 0 := rfl
theorem ms_136 : (vg_rm (MT 136)).slots = 0 := rfl
theorem ml_136 : (vg_rm (MT 136)).locals = 106 := rfl
theorem mr_136 : (MT 136).2.2.2.1 = (some .boolean) := rfl
theorem mh_136 : (MT 136).2.2.2.2.1 = [] := rfl
theorem mn_136 : (MT 136).2.2.1 = 4 := rfl
theorem mc_137 : (vg_rm (MT 137)).cells = 0 := rfl
theorem ms_137 : (vg_rm (MT 137)).slots = 0 := rfl
theorem ml_137 : (vg_rm (MT 137)).locals = 22 := rfl
theorem mr_137 : (MT 137).2.2.2.1 = none := rfl
theorem mh_137 : (MT 137).2.2.2.2.1 = [] := rfl
theorem mn_137 : (MT 137).2.2.1 = 5 := rfl
theorem mc_138 : (vg_rm (MT 138)).cells = 0 := rfl
theorem ms_138 : (vg_rm (MT 138)).slots = 0 := rfl
theorem ml_138 : (vg_rm (MT 138)).locals = 43 := rfl
theorem mr_138 : (MT 138).2.2.2.1 = (some .int) := rfl
theorem mh_138 : (MT 138).2.2.2.2.1 = [] := rfl
theorem mn_138 : (MT 138).2.2.1 = 7 := rfl
theorem mc_139 : (vg_rm (MT 139)).cells = 0 := rfl
theorem ms_139 : (vg_rm (MT 139)).slots = 0 := rfl
theorem ml_139 : (vg_rm (MT 139)).locals = 0 := rfl
theorem mr_139 : (MT 139).2.2.2.1 = (some .boolean) := rfl
theorem mh_139 : (MT 139).2.2.2.2.1 = [] := rfl
theorem mn_139 : (MT 139).2.2.1 = 3 := rfl
theorem mc_140 : (vg_rm (MT 140)).cells = 0 := rfl
theorem ms_140 : (vg_rm (MT 140)).slots = 0 := rfl
theorem ml_140 : (vg_rm (MT 140)).locals = 42 := rfl
theorem mr_140 : (MT 140).2.2.2.1 = (some .int) := rfl
theorem mh_140 : (MT 140).2.2.2.2.1 = [] := rfl
theorem mn_140 : (MT 140).2.2.1 = 2 := rfl
theorem mc_141 : (vg_rm (MT 141)).cells = 0 := rfl
theorem ms_141 : (vg_rm (MT 141)).slots = 0 := rfl
theorem ml_141 : (vg_rm (MT 141)).locals = 0 := rfl
theorem mr_141 : (MT 141).2.2.2.1 = none := rfl
theorem mh_141 : (MT 141).2.2.2.2.1 = [] := rfl
theorem mn_141 : (MT 141).2.2.1 = 9 := rfl
theorem mc_142 : (vg_rm (MT 142)).cells = 0 := rfl
theorem ms_142 : (vg_rm (MT 142)).slots = 0 := rfl
theorem ml_142 : (vg_rm (MT 142)).locals = 46 := rfl
theorem mr_142 : (MT 142).2.2.2.1 = (some .int) := rfl
theorem mh_142 : (MT 142).2.2.2.2.1 = [] := rfl
theorem mn_142 : (MT 142).2.2.1 = 5 := rfl
theorem mc_143 : (vg_rm (MT 143)).cells = 0 := rfl
theorem ms_143 : (vg_rm (MT 143)).slots = 0 := rfl
theorem ml_143 : (vg_rm (MT 143)).locals = 43 := rfl
theorem mr_143 : (MT 143).2.2.2.1 = (some .int) := rfl
theorem mh_143 : (MT 143).2.2.2.2.1 = [] := rfl
theorem mn_143 : (MT 143).2.2.1 = 2 := rfl
theorem mc_144 : (vg_rm (MT 144)).cells = 0 := rfl
theorem ms_144 : (vg_rm (MT 144)).slots = 0 := rfl
theorem ml_144 : (vg_rm (MT 144)).locals = 106 := rfl
theorem mr_144 : (MT 144).2.2.2.1 = (some .int) := rfl
theorem mh_144 : (MT 144).2.2.2.2.1 = [] := rfl
theorem mn_144 : (MT 144).2.2.1 = 6 := rfl
theorem mc_145 : (vg_rm (MT 145)).cells = 0 := rfl
theorem ms_145 : (vg_rm (MT 145)).slots = 0 := rfl
theorem ml_145 : (vg_rm (MT 145)).locals = 49 := rfl
theorem mr_145 : (MT 145).2.2.2.1 = (some .int) := rfl
theorem mh_145 : (MT 145).2.2.2.2.1 = [] := rfl
theorem mn_145 : (MT 145).2.2.1 = 5 := rfl
theorem mc_146 : (vg_rm (MT 146)).cells = 0 := rfl
theorem ms_146 : (vg_rm (MT 146)).slots = 0 := rfl
theorem ml_146 : (vg_rm (MT 146)).locals = 42 := rfl
theorem mr_146 : (MT 146).2.2.2.1 = none := rfl
theorem mh_146 : (MT 146).2.2.2.2.1 = [] := rfl
theorem mn_146 : (MT 146).2.2.1 = 3 := rfl
theorem mc_147 : (vg_rm (MT 147)).cells = 0 := rfl
theorem ms_147 : (vg_rm (MT 147)).slots = 0 := rfl
theorem ml_147 : (vg_rm (MT 147)).locals = 42 := rfl
theorem mr_147 : (MT 147).2.2.2.1 = none := rfl
theorem mh_147 : (MT 147).2.2.2.2.1 = [] := rfl
theorem mn_147 : (MT 147).2.2.1 = 6 := rfl
theorem mc_148 : (vg_rm (MT 148)).cells = 0 := rfl
theorem ms_148 : (vg_rm (MT 148)).slots = 0 := rfl
theorem ml_148 : (vg_rm (MT 148)).locals = 42 := rfl
theorem mr_148 : (MT 148).2.2.2.1 = none := rfl
theorem mh_148 : (MT 148).2.2.2.2.1 = [] := rfl
theorem mn_148 : (MT 148).2.2.1 = 6 := rfl
theorem mc_149 : (vg_rm (MT 149)).cells = 0 := rfl
theorem ms_149 : (vg_rm (MT 149)).slots = 0 := rfl
theorem ml_149 : (vg_rm (MT 149)).locals = 0 := rfl
theorem mr_149 : (MT 149).2.2.2.1 = (some .boolean) := rfl
theorem mh_149 : (MT 149).2.2.2.2.1 = [] := rfl
theorem mn_149 : (MT 149).2.2.1 = 2 := rfl
theorem mc_150 : (vg_rm (MT 150)).cells = 0 := rfl
theorem ms_150 : (vg_rm (MT 150)).slots = 0 := rfl
theorem ml_150 : (vg_rm (MT 150)).locals = 48 := rfl
theorem mr_150 : (MT 150).2.2.2.1 = (some .boolean) := rfl
theorem mh_150 : (MT 150).2.2.2.2.1 = [] := rfl
theorem mn_150 : (MT 150).2.2.1 = 6 := rfl
theorem mc_151 : (vg_rm (MT 151)).cells = 0 := rfl
theorem ms_151 : (vg_rm (MT 151)).slots = 0 := rfl
theorem ml_151 : (vg_rm (MT 151)).locals = 0 := rfl
theorem mr_151 : (MT 151).2.2.2.1 = (some .int) := rfl
theorem mh_151 : (MT 151).2.2.2.2.1 = [] := rfl
theorem mn_151 : (MT 151).2.2.1 = 6 := rfl
theorem mc_152 : (vg_rm (MT 152)).cells = 0 := rfl
theorem ms_152 : (vg_rm (MT 152)).slots = 0 := rfl
theorem ml_152 : (vg_rm (MT 152)).locals = 20 := rfl
theorem mr_152 : (MT 152).2.2.2.1 = (some .int) := rfl
theorem mh_152 : (MT 152).2.2.2.2.1 = [] := rfl
theorem mn_152 : (MT 152).2.2.1 = 4 := rfl
theorem mc_153 : (vg_rm (MT 153)).cells = 0 := rfl
theorem ms_153 : (vg_rm (MT 153)).slots = 0 := rfl
theorem ml_153 : (vg_rm (MT 153)).locals = 22 := rfl
theorem mr_153 : (MT 153).2.2.2.1 = (some .int) := rfl
theorem mh_153 : (MT 153).2.2.2.2.1 = [] := rfl
theorem mn_153 : (MT 153).2.2.1 = 6 := rfl
theorem mc_154 : (vg_rm (MT 154)).cells = 0 := rfl
theorem ms_154 : (vg_rm (MT 154)).slots = 0 := rfl
theorem ml_154 : (vg_rm (MT 154)).locals = 0 := rfl
theorem mr_154 : (MT 154).2.2.2.1 = (some .int) := rfl
theorem mh_154 : (MT 154).2.2.2.2.1 = [] := rfl
theorem mn_154 : (MT 154).2.2.1 = 1 := rfl
theorem mc_155 : (vg_rm (MT 155)).cells = 2 := rfl
theorem ms_155 : (vg_rm (MT 155)).slots = 12 := rfl
theorem ml_155 : (vg_rm (MT 155)).locals = 125 := rfl
theorem mr_155 : (MT 155).2.2.2.1 = (some .int) := rfl
theorem mh_155 : (MT 155).2.2.2.2.1 = [(0, 14, 17, 13), (0, 14, 21, 15)] := rfl
theorem mn_155 : (MT 155).2.2.1 = 7 := rfl
theorem mc_156 : (vg_rm (MT 156)).cells = 1 := rfl
theorem ms_156 : (vg_rm (MT 156)).slots = 6 := rfl
theorem ml_156 : (vg_rm (MT 156)).locals = 124 := rfl
theorem mr_156 : (MT 156).2.2.2.1 = (some .int) := rfl
theorem mh_156 : (MT 156).2.2.2.2.1 = [(0, 10, 13, 13)] := rfl
theorem mn_156 : (MT 156).2.2.1 = 5 := rfl
theorem mc_157 : (vg_rm (MT 157)).cells = 1 := rfl
theorem ms_157 : (vg_rm (MT 157)).slots = 6 := rfl
theorem ml_157 : (vg_rm (MT 157)).locals = 123 := rfl
theorem mr_157 : (MT 157).2.2.2.1 = (some .int) := rfl
theorem mh_157 : (MT 157).2.2.2.2.1 = [(0, 16, 19, 13)] := rfl
theorem mn_157 : (MT 157).2.2.1 = 4 := rfl
theorem mc_158 : (vg_rm (MT 158)).cells = 1 := rfl
theorem ms_158 : (vg_rm (MT 158)).slots = 6 := rfl
theorem ml_158 : (vg_rm (MT 158)).locals = 124 := rfl
theorem mr_158 : (MT 158).2.2.2.1 = (some .int) := rfl
theorem mh_158 : (MT 158).2.2.2.2.1 = [(0, 10, 13, 13)] := rfl
theorem mn_158 : (MT 158).2.2.1 = 5 := rfl
theorem mc_159 : (vg_rm (MT 159)).cells = 2 := rfl
theorem ms_159 : (vg_rm (MT 159)).slots = 12 := rfl
theorem ml_159 : (vg_rm (MT 159)).locals = 125 := rfl
theorem mr_159 : (MT 159).2.2.2.1 = (some .int) := rfl
theorem mh_159 : (MT 159).2.2.2.2.1 = [(0, 10, 13, 13), (0, 10, 17, 15)] := rfl
theorem mn_159 : (MT 159).2.2.1 = 5 := rfl
theorem mc_160 : (vg_rm (MT 160)).cells = 4 := rfl
theorem ms_160 : (vg_rm (MT 160)).slots = 28 := rfl
theorem ml_160 : (vg_rm (MT 160)).locals = 124 := rfl
theorem mr_160 : (MT 160).2.2.2.1 = (some .int) := rfl
theorem mh_160 : (MT 160).2.2.2.2.1 = [(0, 7, 10, 13), (0, 7, 14, 15)] := rfl
theorem mn_160 : (MT 160).2.2.1 = 5 := rfl
theorem mc_161 : (vg_rm (MT 161)).cells = 1 := rfl
theorem ms_161 : (vg_rm (MT 161)).slots = 6 := rfl
theorem ml_161 : (vg_rm (MT 161)).locals = 123 := rfl
theorem mr_161 : (MT 161).2.2.2.1 = (some .int) := rfl
theorem mh_161 : (MT 161).2.2.2.2.1 = [(0, 16, 19, 13)] := rfl
theorem mn_161 : (MT 161).2.2.1 = 4 := rfl
theorem mc_162 : (vg_rm (MT 162)).cells = 3 := rfl
theorem ms_162 : (vg_rm (MT 162)).slots = 21 := rfl
theorem ml_162 : (vg_rm (MT 162)).locals = 125 := rfl
theorem mr_162 : (MT 162).2.2.2.1 = (some .int) := rfl
theorem mh_162 : (MT 162).2.2.2.2.1 = [(0, 12, 15, 13), (0, 12, 19, 15)] := rfl
theorem mn_162 : (MT 162).2.2.1 = 6 := rfl
theorem mc_163 : (vg_rm (MT 163)).cells = 2 := rfl
theorem ms_163 : (vg_rm (MT 163)).slots = 12 := rfl
theorem ml_163 : (vg_rm (MT 163)).locals = 169 := rfl
theorem mr_163 : (MT 163).2.2.2.1 = (some .int) := rfl
theorem mh_163 : (MT 163).2.2.2.2.1 = [(0, 10, 13, 13), (0, 10, 17, 15)] := rfl
theorem mn_163 : (MT 163).2.2.1 = 5 := rfl
theorem mc_164 : (vg_rm (MT 164)).cells = 2 := rfl
theorem ms_164 : (vg_rm (MT 164)).slots = 12 := rfl
theorem ml_164 : (vg_rm (MT 164)).locals = 126 := rfl
theorem mr_164 : (MT 164).2.2.2.1 = (some .int) := rfl
theorem mh_164 : (MT 164).2.2.2.2.1 = [(0, 12, 15, 13), (0, 12, 19, 15)] := rfl
theorem mn_164 : (MT 164).2.2.1 = 6 := rfl
theorem mc_165 : (vg_rm (MT 165)).cells = 2 := rfl
theorem ms_165 : (vg_rm (MT 165)).slots = 12 := rfl
theorem ml_165 : (vg_rm (MT 165)).locals = 123 := rfl
theorem mr_165 : (MT 165).2.2.2.1 = (some .int) := rfl
theorem mh_165 : (MT 165).2.2.2.2.1 = [(0, 6, 9, 13), (0, 6, 12, 15)] := rfl
theorem mn_165 : (MT 165).2.2.1 = 4 := rfl
theorem mc_166 : (vg_rm (MT 166)).cells = 2 := rfl
theorem ms_166 : (vg_rm (MT 166)).slots = 12 := rfl
theorem ml_166 : (vg_rm (MT 166)).locals = 124 := rfl
theorem mr_166 : (MT 166).2.2.2.1 = (some .int) := rfl
theorem mh_166 : (MT 166).2.2.2.2.1 = [(0, 7, 10, 13), (0, 7, 14, 15)] := rfl
theorem mn_166 : (MT 166).2.2.1 = 5 := rfl
theorem mc_167 : (vg_rm (MT 167)).cells = 1 := rfl
theorem ms_167 : (vg_rm (MT 167)).slots = 6 := rfl
theorem ml_167 : (vg_rm (MT 167)).locals = 123 := rfl
theorem mr_167 : (MT 167).2.2.2.1 = (some .int) := rfl
theorem mh_167 : (MT 167).2.2.2.2.1 = [(0, 9, 12, 13)] := rfl
theorem mn_167 : (MT 167).2.2.1 = 4 := rfl
theorem mc_168 : (vg_rm (MT 168)).cells = 1 := rfl
theorem ms_168 : (vg_rm (MT 168)).slots = 6 := rfl
theorem ml_168 : (vg_rm (MT 168)).locals = 124 := rfl
theorem mr_168 : (MT 168).2.2.2.1 = (some .int) := rfl
theorem mh_168 : (MT 168).2.2.2.2.1 = [(0, 10, 13, 13)] := rfl
theorem mn_168 : (MT 168).2.2.1 = 5 := rfl
theorem mc_169 : (vg_rm (MT 169)).cells = 601024 := rfl
theorem ms_169 : (vg_rm (MT 169)).slots = 7293034 := rfl
theorem ml_169 : (vg_rm (MT 169)).locals = 394 := rfl
theorem mr_169 : (MT 169).2.2.2.1 = (some .boolean) := rfl
theorem mh_169 : (MT 169).2.2.2.2.1 = [] := rfl
theorem mn_169 : (MT 169).2.2.1 = 7 := rfl
theorem mc_170 : (vg_rm (MT 170)).cells = 2 := rfl
theorem ms_170 : (vg_rm (MT 170)).slots = 12 := rfl
theorem ml_170 : (vg_rm (MT 170)).locals = 124 := rfl
theorem mr_170 : (MT 170).2.2.2.1 = (some .int) := rfl
theorem mh_170 : (MT 170).2.2.2.2.1 = [(0, 12, 15, 13), (0, 12, 19, 15)] := rfl
theorem mn_170 : (MT 170).2.2.1 = 6 := rfl
theorem mc_171 : (vg_rm (MT 171)).cells = 2 := rfl
theorem ms_171 : (vg_rm (MT 171)).slots = 12 := rfl
theorem ml_171 : (vg_rm (MT 171)).locals = 169 := rfl
theorem mr_171 : (MT 171).2.2.2.1 = (some .int) := rfl
theorem mh_171 : (MT 171).2.2.2.2.1 = [(0, 17, 20, 13), (0, 17, 24, 15)] := rfl
theorem mn_171 : (MT 171).2.2.1 = 5 := rfl
theorem mc_172 : (vg_rm (MT 172)).cells = 5 := rfl
theorem ms_172 : (vg_rm (MT 172)).slots = 36 := rfl
theorem ml_172 : (vg_rm (MT 172)).locals = 126 := rfl
theorem mr_172 : (MT 172).2.2.2.1 = (some .int) := rfl
theorem mh_172 : (MT 172).2.2.2.2.1 = [(0, 12, 15, 13), (0, 12, 19, 15)] := rfl
theorem mn_172 : (MT 172).2.2.1 = 6 := rfl
theorem mc_173 : (vg_rm (MT 173)).cells = 1 := rfl
theorem ms_173 : (vg_rm (MT 173)).slots = 6 := rfl
theorem ml_173 : (vg_rm (MT 173)).locals = 122 := rfl
theorem mr_173 : (MT 173).2.2.2.1 = (some .int) := rfl
theorem mh_173 : (MT 173).2.2.2.2.1 = [(0, 9, 12, 13)] := rfl
theorem mn_173 : (MT 173).2.2.1 = 4 := rfl
theorem mc_174 : (vg_rm (MT 174)).cells = 1 := rfl
theorem ms_174 : (vg_rm (MT 174)).slots = 6 := rfl
theorem ml_174 : (vg_rm (MT 174)).locals = 123 := rfl
theorem mr_174 : (MT 174).2.2.2.1 = (some .int) := rfl
theorem mh_174 : (MT 174).2.2.2.2.1 = [(0, 8, 11, 15)] := rfl
theorem mn_174 : (MT 174).2.2.1 = 3 := rfl
theorem mc_175 : (vg_rm (MT 175)).cells = 2 := rfl
theorem ms_175 : (vg_rm (MT 175)).slots = 12 := rfl
theorem ml_175 : (vg_rm (MT 175)).locals = 124 := rfl
theorem mr_175 : (MT 175).2.2.2.1 = (some .int) := rfl
theorem mh_175 : (MT 175).2.2.2.2.1 = [(0, 9, 12, 13), (0, 9, 15, 15)] := rfl
theorem mn_175 : (MT 175).2.2.1 = 4 := rfl
theorem mc_176 : (vg_rm (MT 176)).cells = 2 := rfl
theorem ms_176 : (vg_rm (MT 176)).slots = 12 := rfl
theorem ml_176 : (vg_rm (MT 176)).locals = 172 := rfl
theorem mr_176 : (MT 176).2.2.2.1 = (some .int) := rfl
theorem mh_176 : (MT 176).2.2.2.2.1 = [(0, 12, 15, 13), (0, 12, 19, 15)] := rfl
theorem mn_176 : (MT 176).2.2.1 = 6 := rfl
theorem mc_177 : (vg_rm (MT 177)).cells = 3 := rfl
theorem ms_177 : (vg_rm (MT 177)).slots = 15 := rfl
theorem ml_177 : (vg_rm (MT 177)).locals = 124 := rfl
theorem mr_177 : (MT 177).2.2.2.1 = (some .int) := rfl
theorem mh_177 : (MT 177).2.2.2.2.1 = [(0, 9, 12, 13), (0, 9, 15, 15)] := rfl
theorem mn_177 : (MT 177).2.2.1 = 4 := rfl
theorem mc_178 : (vg_rm (MT 178)).cells = 2 := rfl
theorem ms_178 : (vg_rm (MT 178)).slots = 12 := rfl
theorem ml_178 : (vg_rm (MT 178)).locals = 123 := rfl
theorem mr_178 : (MT 178).2.2.2.1 = (some .int) := rfl
theorem mh_178 : (MT 178).2.2.2.2.1 = [(0, 6, 9, 13), (0, 6, 12, 15)] := rfl
theorem mn_178 : (MT 178).2.2.1 = 4 := rfl
theorem mc_179 : (vg_rm (MT 179)).cells = 3 := rfl
theorem ms_179 : (vg_rm (MT 179)).slots = 18 := rfl
theorem ml_179 : (vg_rm (MT 179)).locals = 124 := rfl
theorem mr_179 : (MT 179).2.2.2.1 = (some .int) := rfl
theorem mh_179 : (MT 179).2.2.2.2.1 = [(0, 6, 9, 13), (0, 6, 12, 15)] := rfl
theorem mn_179 : (MT 179).2.2.1 = 4 := rfl
theorem mc_180 : (vg_rm (MT 180)).cells = 3 := rfl
theorem ms_180 : (vg_rm (MT 180)).slots = 18 := rfl
theorem ml_180 : (vg_rm (MT 180)).locals = 125 := rfl
theorem mr_180 : (MT 180).2.2.2.1 = (some .int) := rfl
theorem mh_180 : (MT 180).2.2.2.2.1 = [(0, 9, 12, 13), (0, 9, 16, 15)] := rfl
theorem mn_180 : (MT 180).2.2.1 = 6 := rfl
theorem mc_181 : (vg_rm (MT 181)).cells = 3 := rfl
theorem ms_181 : (vg_rm (MT 181)).slots = 15 := rfl
theorem ml_181 : (vg_rm (MT 181)).locals = 125 := rfl
theorem mr_181 : (MT 181).2.2.2.1 = (some .int) := rfl
theorem mh_181 : (MT 181).2.2.2.2.1 = [(0, 21, 24, 13), (0, 21, 28, 15)] := rfl
theorem mn_181 : (MT 181).2.2.1 = 7 := rfl
theorem mc_182 : (vg_rm (MT 182)).cells = 1 := rfl
theorem ms_182 : (vg_rm (MT 182)).slots = 6 := rfl
theorem ml_182 : (vg_rm (MT 182)).locals = 125 := rfl
theorem mr_182 : (MT 182).2.2.2.1 = (some .int) := rfl
theorem mh_182 : (MT 182).2.2.2.2.1 = [(0, 10, 13, 13)] := rfl
theorem mn_182 : (MT 182).2.2.1 = 5 := rfl
