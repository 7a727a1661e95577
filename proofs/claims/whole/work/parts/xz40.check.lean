/-! THE CHECKS, written by gen2.py -/
theorem ok_J6_bitCount_0f7a4 : xok r_J6_bitCount_0f7a4 = true := by decide +kernel
theorem ok_J7_fill_53178 : xok r_J7_fill_53178 = true := by decide +kernel
theorem ok_X0_init : xok r_X0_init = true := by decide +kernel
theorem ok_X0_hoursTillGone : xok r_X0_hoursTillGone = true := by decide +kernel
theorem ok_X0_playTillGone : xok r_X0_playTillGone = true := by decide +kernel
theorem ok_X0_freshLater : xok r_X0_freshLater = true := by decide +kernel
theorem ok_X0_firstGone : xok r_X0_firstGone = true := by decide +kernel
theorem ok_X0_hoursTillEmpty : xok r_X0_hoursTillEmpty = true := by decide +kernel
theorem ok_X0_nutmegsFor : xok r_X0_nutmegsFor = true := by decide +kernel
theorem ok_X0_putOn : xok r_X0_putOn = true := by decide +kernel
theorem ok_X0_mostKept : xok r_X0_mostKept = true := by decide +kernel
theorem ok_X0_hourItIsGone : xok r_X0_hourItIsGone = true := by decide +kernel
theorem ok_X0_whoFits : xok r_X0_whoFits = true := by decide +kernel
theorem ok_X0_bestQuestion : xok r_X0_bestQuestion = true := by decide +kernel
theorem ok_X0_findGone : xok r_X0_findGone = true := by decide +kernel
theorem ok_X0_countLying : xok r_X0_countLying = true := by decide +kernel
theorem ok_X0_millionthsGone : xok r_X0_millionthsGone = true := by decide +kernel
theorem ok_X0_isGoneBy : xok r_X0_isGoneBy = true := by decide +kernel
theorem ok_X0_weightOf : xok r_X0_weightOf = true := by decide +kernel
theorem ok_X0_season : xok r_X0_season = true := by decide +kernel
theorem ok_X0_goneByDeed : xok r_X0_goneByDeed = true := by decide +kernel
theorem ok_X0_drawn : xok r_X0_drawn = true := by decide +kernel
theorem ok_X0_below : xok r_X0_below = true := by decide +kernel
theorem ok_X0_verdict : xok r_X0_verdict = true := by decide +kernel
theorem ok_X1_init : xok r_X1_init = true := by decide +kernel
theorem ok_X1_read : xok r_X1_read = true := by decide +kernel
theorem ok_X1_readLine : xok r_X1_readLine = true := by decide +kernel
theorem ok_X1_add : xok r_X1_add = true := by decide +kernel
theorem ok_X2_init : xok r_X2_init = true := by decide +kernel
theorem ok_X2_clear : xok r_X2_clear = true := by decide +kernel
theorem ok_X2_isSeat : xok r_X2_isSeat = true := by decide +kernel
theorem ok_X2_isPerson : xok r_X2_isPerson = true := by decide +kernel
theorem ok_X2_allSeats : xok r_X2_allSeats = true := by decide +kernel
theorem ok_X2_seatNamed : xok r_X2_seatNamed = true := by decide +kernel
theorem ok_X2_personNamed : xok r_X2_personNamed = true := by decide +kernel
theorem ok_X2_hasSeatAt : xok r_X2_hasSeatAt = true := by decide +kernel
theorem ok_X2_addSeat : xok r_X2_addSeat = true := by decide +kernel
theorem ok_X2_addPerson : xok r_X2_addPerson = true := by decide +kernel
theorem ok_X2_addFoes : xok r_X2_addFoes = true := by decide +kernel
theorem ok_X2_nearTo : xok r_X2_nearTo = true := by decide +kernel
theorem ok_X2_nearAny : xok r_X2_nearAny = true := by decide +kernel
theorem ok_X2_blockOf : xok r_X2_blockOf = true := by decide +kernel
theorem ok_X2_foesOf : xok r_X2_foesOf = true := by decide +kernel
theorem ok_X2_isCaptain : xok r_X2_isCaptain = true := by decide +kernel
theorem ok_X2_lifeOf : xok r_X2_lifeOf = true := by decide +kernel
theorem ok_X2_raspedBy : xok r_X2_raspedBy = true := by decide +kernel
theorem ok_X3_init : xok r_X3_init = true := by decide +kernel
theorem ok_X3_read : xok r_X3_read = true := by decide +kernel
theorem ok_X3_readLine : xok r_X3_readLine = true := by decide +kernel
theorem ok_X3_readSeat : xok r_X3_readSeat = true := by decide +kernel
theorem ok_X3_readPerson : xok r_X3_readPerson = true := by decide +kernel
theorem ok_X3_readFoe : xok r_X3_readFoe = true := by decide +kernel
theorem ok_X3_readLasts : xok r_X3_readLasts = true := by decide +kernel
theorem ok_X4_init : xok r_X4_init = true := by decide +kernel
theorem ok_X4_clear : xok r_X4_clear = true := by decide +kernel
theorem ok_X4_add : xok r_X4_add = true := by decide +kernel
theorem ok_X4_read : xok r_X4_read = true := by decide +kernel
theorem ok_X4_readChoice : xok r_X4_readChoice = true := by decide +kernel
theorem ok_X4_readTest : xok r_X4_readTest = true := by decide +kernel
theorem ok_X4_readSum : xok r_X4_readSum = true := by decide +kernel
theorem ok_X4_readProduct : xok r_X4_readProduct = true := by decide +kernel
theorem ok_X4_readPart : xok r_X4_readPart = true := by decide +kernel
theorem ok_X4_stepOverNots : xok r_X4_stepOverNots = true := by decide +kernel
theorem ok_X4_readBarePart : xok r_X4_readBarePart = true := by decide +kernel
theorem ok_X4_operandOf : xok r_X4_operandOf = true := by decide +kernel
theorem ok_X4_wear : xok r_X4_wear = true := by decide +kernel
theorem ok_X4_operandValue : xok r_X4_operandValue = true := by decide +kernel
theorem ok_X4_joined : xok r_X4_joined = true := by decide +kernel
theorem ok_X5_init : xok r_X5_init = true := by decide +kernel
theorem ok_X5_forget : xok r_X5_forget = true := by decide +kernel
theorem ok_X5_keep : xok r_X5_keep = true := by decide +kernel
theorem ok_X5_undoInto : xok r_X5_undoInto = true := by decide +kernel
theorem ok_X5_layMark : xok r_X5_layMark = true := by decide +kernel
theorem ok_X5_goBackTo : xok r_X5_goBackTo = true := by decide +kernel
theorem ok_X6_init : xok r_X6_init = true := by decide +kernel
theorem ok_X6_begin : xok r_X6_begin = true := by decide +kernel
theorem ok_X6_copy : xok r_X6_copy = true := by decide +kernel
theorem ok_X6_isHeld : xok r_X6_isHeld = true := by decide +kernel
theorem ok_X6_isFree : xok r_X6_isFree = true := by decide +kernel
theorem ok_X6_freshOn : xok r_X6_freshOn = true := by decide +kernel
theorem ok_X6_pocketOf : xok r_X6_pocketOf = true := by decide +kernel
theorem ok_X6_chairOf : xok r_X6_chairOf = true := by decide +kernel
theorem ok_X6_freeSeats : xok r_X6_freeSeats = true := by decide +kernel
theorem ok_X6_heldSeats : xok r_X6_heldSeats = true := by decide +kernel
theorem ok_X6_laidBy : xok r_X6_laidBy = true := by decide +kernel
theorem ok_X6_nutmegsOf : xok r_X6_nutmegsOf = true := by decide +kernel
theorem ok_X6_inPockets : xok r_X6_inPockets = true := by decide +kernel
theorem ok_X6_sittersOn : xok r_X6_sittersOn = true := by decide +kernel
theorem ok_X6_ownersOn : xok r_X6_ownersOn = true := by decide +kernel
theorem ok_X6_couldSitOn : xok r_X6_couldSitOn = true := by decide +kernel
theorem ok_X6_canBe : xok r_X6_canBe = true := by decide +kernel
theorem ok_X6_act : xok r_X6_act = true := by decide +kernel
theorem ok_X6_riseUp : xok r_X6_riseUp = true := by decide +kernel
theorem ok_X6_sitDown : xok r_X6_sitDown = true := by decide +kernel
theorem ok_X6_put : xok r_X6_put = true := by decide +kernel
theorem ok_X6_takeAway : xok r_X6_takeAway = true := by decide +kernel
theorem ok_X6_lessen : xok r_X6_lessen = true := by decide +kernel
theorem ok_X6_passHour : xok r_X6_passHour = true := by decide +kernel
theorem ok_X7_init : xok r_X7_init = true := by decide +kernel
theorem ok_X7_add : xok r_X7_add = true := by decide +kernel
theorem ok_X7_copy : xok r_X7_copy = true := by decide +kernel
theorem ok_X8_init : xok r_X8_init = true := by decide +kernel
theorem ok_X8_chairOf : xok r_X8_chairOf = true := by decide +kernel
theorem ok_X8_keepRow : xok r_X8_keepRow = true := by decide +kernel
theorem ok_X8_findMost : xok r_X8_findMost = true := by decide +kernel
theorem ok_X8_seatFrom : xok r_X8_seatFrom = true := by decide +kernel
theorem ok_X8_findPlaced : xok r_X8_findPlaced = true := by decide +kernel
theorem ok_X8_placeFrom : xok r_X8_placeFrom = true := by decide +kernel
theorem ok_X8_chairsOfFoes : xok r_X8_chairsOfFoes = true := by decide +kernel
theorem ok_X9_init : xok r_X9_init = true := by decide +kernel
theorem ok_X9_append : xok r_X9_append = true := by decide +kernel
theorem ok_X9_signAt : xok r_X9_signAt = true := by decide +kernel
theorem ok_X9_kindAt : xok r_X9_kindAt = true := by decide +kernel
theorem ok_X10_init : xok r_X10_init = true := by decide +kernel
theorem ok_X10_begin : xok r_X10_begin = true := by decide +kernel
theorem ok_X10_goesOn : xok r_X10_goesOn = true := by decide +kernel
theorem ok_X10_step : xok r_X10_step = true := by decide +kernel
theorem ok_X10_fail : xok r_X10_fail = true := by decide +kernel
theorem ok_X10_is : xok r_X10_is = true := by decide +kernel
theorem ok_X10_isSign : xok r_X10_isSign = true := by decide +kernel
theorem ok_X10_passes : xok r_X10_passes = true := by decide +kernel
theorem ok_X10_passesSign : xok r_X10_passesSign = true := by decide +kernel
theorem ok_X10_hasNumber : xok r_X10_hasNumber = true := by decide +kernel
theorem ok_X10_hasNewName : xok r_X10_hasNewName = true := by decide +kernel
theorem ok_X10_hasPerson : xok r_X10_hasPerson = true := by decide +kernel
theorem ok_X10_hasSeat : xok r_X10_hasSeat = true := by decide +kernel
theorem ok_X10_isName : xok r_X10_isName = true := by decide +kernel
theorem ok_X10_personKind : xok r_X10_personKind = true := by decide +kernel
theorem ok_X10_verb : xok r_X10_verb = true := by decide +kernel
theorem ok_X11_init : xok r_X11_init = true := by decide +kernel
theorem ok_X11_feed : xok r_X11_feed = true := by decide +kernel
theorem ok_X11_hall : xok r_X11_hall = true := by decide +kernel
theorem ok_X11_evening : xok r_X11_evening = true := by decide +kernel
theorem ok_X11_seat : xok r_X11_seat = true := by decide +kernel
theorem ok_X11_person : xok r_X11_person = true := by decide +kernel
theorem ok_X11_lay : xok r_X11_lay = true := by decide +kernel
theorem ok_X11_sit : xok r_X11_sit = true := by decide +kernel
theorem ok_X11_rise : xok r_X11_rise = true := by decide +kernel
theorem ok_X11_grate : xok r_X11_grate = true := by decide +kernel
theorem ok_X11_hour : xok r_X11_hour = true := by decide +kernel
theorem ok_X11_undo : xok r_X11_undo = true := by decide +kernel
theorem ok_X11_judged : xok r_X11_judged = true := by decide +kernel
theorem ok_X11_left : xok r_X11_left = true := by decide +kernel
theorem ok_X11_later : xok r_X11_later = true := by decide +kernel
theorem ok_X11_first : xok r_X11_first = true := by decide +kernel
theorem ok_X11_empties : xok r_X11_empties = true := by decide +kernel
theorem ok_X11_most : xok r_X11_most = true := by decide +kernel
theorem ok_X11_could : xok r_X11_could = true := by decide +kernel
theorem ok_X11_needs : xok r_X11_needs = true := by decide +kernel
theorem ok_X11_keeps : xok r_X11_keeps = true := by decide +kernel
theorem ok_X11_placed : xok r_X11_placed = true := by decide +kernel
theorem ok_X11_peace : xok r_X11_peace = true := by decide +kernel
theorem ok_X11_war : xok r_X11_war = true := by decide +kernel
theorem ok_X11_safe : xok r_X11_safe = true := by decide +kernel
theorem ok_X11_see : xok r_X11_see = true := by decide +kernel
theorem ok_X11_who : xok r_X11_who = true := by decide +kernel
theorem ok_X11_ask : xok r_X11_ask = true := by decide +kernel
theorem ok_X11_far : xok r_X11_far = true := by decide +kernel
theorem ok_X11_blocks : xok r_X11_blocks = true := by decide +kernel
theorem ok_X11_rich : xok r_X11_rich = true := by decide +kernel
theorem ok_X11_lone : xok r_X11_lone = true := by decide +kernel
theorem ok_X11_row : xok r_X11_row = true := by decide +kernel
theorem ok_X11_stands : xok r_X11_stands = true := by decide +kernel
theorem ok_X11_guards : xok r_X11_guards = true := by decide +kernel
theorem ok_X11_chance : xok r_X11_chance = true := by decide +kernel
theorem ok_X11_seasons : xok r_X11_seasons = true := by decide +kernel
theorem ok_X11_mark : xok r_X11_mark = true := by decide +kernel
theorem ok_X11_count : xok r_X11_count = true := by decide +kernel
theorem ok_X11_isWithin : xok r_X11_isWithin = true := by decide +kernel
theorem ok_X11_done : xok r_X11_done = true := by decide +kernel
theorem ok_X11_pairsThatSitNear : xok r_X11_pairsThatSitNear = true := by decide +kernel
theorem ok_X11_isRest : xok r_X11_isRest = true := by decide +kernel
theorem ok_X11_gain : xok r_X11_gain = true := by decide +kernel
theorem ok_X12_thrown : xok r_X12_thrown = true := by decide +kernel
theorem ok_X12_feed : xok r_X12_feed = true := by decide +kernel
theorem ok_X12_lay : xok r_X12_lay = true := by decide +kernel
theorem ok_X12_init : xok r_X12_init = true := by decide +kernel
theorem ok_X12_isLetter : xok r_X12_isLetter = true := by decide +kernel
theorem ok_X12_isDigit : xok r_X12_isDigit = true := by decide +kernel
theorem ok_X12_rank : xok r_X12_rank = true := by decide +kernel
theorem ok_X12_isSignOf : xok r_X12_isSignOf = true := by decide +kernel
theorem ok_X12_cutAll : xok r_X12_cutAll = true := by decide +kernel
theorem ok_X12_wrong : xok r_X12_wrong = true := by decide +kernel
theorem ok_X12_isSign : xok r_X12_isSign = true := by decide +kernel
theorem ok_X12_isWord : xok r_X12_isWord = true := by decide +kernel
theorem ok_X12_takeSign : xok r_X12_takeSign = true := by decide +kernel
theorem ok_X12_hasSign : xok r_X12_hasSign = true := by decide +kernel
theorem ok_X12_hasWord : xok r_X12_hasWord = true := by decide +kernel
theorem ok_X12_takeWord : xok r_X12_takeWord = true := by decide +kernel
theorem ok_X12_within : xok r_X12_within = true := by decide +kernel
theorem ok_X12_standsAsAlways : xok r_X12_standsAsAlways = true := by decide +kernel
theorem ok_X12_takeNumber : xok r_X12_takeNumber = true := by decide +kernel
theorem ok_X12_takeAfter : xok r_X12_takeAfter = true := by decide +kernel
theorem ok_X12_wordHere : xok r_X12_wordHere = true := by decide +kernel
theorem ok_X12_takeOne : xok r_X12_takeOne = true := by decide +kernel
theorem ok_X12_isName : xok r_X12_isName = true := by decide +kernel
theorem ok_X12_nameAt : xok r_X12_nameAt = true := by decide +kernel
theorem ok_X12_takeTold : xok r_X12_takeTold = true := by decide +kernel
theorem ok_X12_hall : xok r_X12_hall = true := by decide +kernel
theorem ok_X12_readLine : xok r_X12_readLine = true := by decide +kernel
theorem ok_X12_readSeat : xok r_X12_readSeat = true := by decide +kernel
theorem ok_X12_readName : xok r_X12_readName = true := by decide +kernel
theorem ok_X12_readOnce : xok r_X12_readOnce = true := by decide +kernel
theorem ok_X12_evening : xok r_X12_evening = true := by decide +kernel
theorem ok_X12_emit : xok r_X12_emit = true := by decide +kernel
theorem ok_X12_whole : xok r_X12_whole = true := by decide +kernel
theorem ok_X12_test : xok r_X12_test = true := by decide +kernel
theorem ok_X12_sums : xok r_X12_sums = true := by decide +kernel
theorem ok_X12_products : xok r_X12_products = true := by decide +kernel
theorem ok_X12_takePart : xok r_X12_takePart = true := by decide +kernel
theorem ok_X12_worthAt : xok r_X12_worthAt = true := by decide +kernel
theorem ok_X12_both : xok r_X12_both = true := by decide +kernel
theorem ok_X12_copies : xok r_X12_copies = true := by decide +kernel
theorem ok_X12_starts : xok r_X12_starts = true := by decide +kernel
theorem ok_X12_begins : xok r_X12_begins = true := by decide +kernel
theorem ok_X12_keepsNow : xok r_X12_keepsNow = true := by decide +kernel
theorem ok_X12_seats : xok r_X12_seats = true := by decide +kernel
theorem ok_X12_persons : xok r_X12_persons = true := by decide +kernel
theorem ok_X12_seatOf : xok r_X12_seatOf = true := by decide +kernel
theorem ok_X12_personOf : xok r_X12_personOf = true := by decide +kernel
theorem ok_X12_isSeat : xok r_X12_isSeat = true := by decide +kernel
theorem ok_X12_isPerson : xok r_X12_isPerson = true := by decide +kernel
theorem ok_X12_bits : xok r_X12_bits = true := by decide +kernel
theorem ok_X12_lifeOf : xok r_X12_lifeOf = true := by decide +kernel
theorem ok_X12_areFoes : xok r_X12_areFoes = true := by decide +kernel
theorem ok_X12_sitterOn : xok r_X12_sitterOn = true := by decide +kernel
theorem ok_X12_isFree : xok r_X12_isFree = true := by decide +kernel
theorem ok_X12_freeSeats : xok r_X12_freeSeats = true := by decide +kernel
theorem ok_X12_laidSeats : xok r_X12_laidSeats = true := by decide +kernel
theorem ok_X12_laidBy : xok r_X12_laidBy = true := by decide +kernel
theorem ok_X12_nutmegsOf : xok r_X12_nutmegsOf = true := by decide +kernel
theorem ok_X12_puts : xok r_X12_puts = true := by decide +kernel
theorem ok_X12_clears : xok r_X12_clears = true := by decide +kernel
theorem ok_X12_mayLay : xok r_X12_mayLay = true := by decide +kernel
theorem ok_X12_maySit : xok r_X12_maySit = true := by decide +kernel
theorem ok_X12_mayGrate : xok r_X12_mayGrate = true := by decide +kernel
theorem ok_X12_lays : xok r_X12_lays = true := by decide +kernel
theorem ok_X12_sits : xok r_X12_sits = true := by decide +kernel
theorem ok_X12_isGoneBy : xok r_X12_isGoneBy = true := by decide +kernel
theorem ok_X12_grates : xok r_X12_grates = true := by decide +kernel
theorem ok_X12_passes : xok r_X12_passes = true := by decide +kernel
theorem ok_X12_sitting : xok r_X12_sitting = true := by decide +kernel
theorem ok_X12_seat : xok r_X12_seat = true := by decide +kernel
theorem ok_X12_person : xok r_X12_person = true := by decide +kernel
theorem ok_X12_lay_ : xok r_X12_lay_ = true := by decide +kernel
theorem ok_X12_sit : xok r_X12_sit = true := by decide +kernel
theorem ok_X12_rise : xok r_X12_rise = true := by decide +kernel
theorem ok_X12_grate : xok r_X12_grate = true := by decide +kernel
theorem ok_X12_hour : xok r_X12_hour = true := by decide +kernel
theorem ok_X12_undo : xok r_X12_undo = true := by decide +kernel
theorem ok_X12_mayBe : xok r_X12_mayBe = true := by decide +kernel
theorem ok_X12_judged : xok r_X12_judged = true := by decide +kernel
theorem ok_X12_triesNow : xok r_X12_triesNow = true := by decide +kernel
theorem ok_X12_goneIn : xok r_X12_goneIn = true := by decide +kernel
theorem ok_X12_left : xok r_X12_left = true := by decide +kernel
theorem ok_X12_later : xok r_X12_later = true := by decide +kernel
theorem ok_X12_first : xok r_X12_first = true := by decide +kernel
theorem ok_X12_empties : xok r_X12_empties = true := by decide +kernel
theorem ok_X12_couldNow : xok r_X12_couldNow = true := by decide +kernel
theorem ok_X12_doesStand : xok r_X12_doesStand = true := by decide +kernel
theorem ok_X12_seatsFrom : xok r_X12_seatsFrom = true := by decide +kernel
theorem ok_X12_most : xok r_X12_most = true := by decide +kernel
theorem ok_X12_could : xok r_X12_could = true := by decide +kernel
theorem ok_X12_stands : xok r_X12_stands = true := by decide +kernel
theorem ok_X12_holdsBy : xok r_X12_holdsBy = true := by decide +kernel
theorem ok_X12_needs : xok r_X12_needs = true := by decide +kernel
theorem ok_X12_keeps : xok r_X12_keeps = true := by decide +kernel
theorem ok_X12_placesFrom : xok r_X12_placesFrom = true := by decide +kernel
theorem ok_X12_placed : xok r_X12_placed = true := by decide +kernel
theorem ok_X12_pairsOf : xok r_X12_pairsOf = true := by decide +kernel
theorem ok_X12_peace : xok r_X12_peace = true := by decide +kernel
theorem ok_X12_war : xok r_X12_war = true := by decide +kernel
theorem ok_X12_isFoeNear : xok r_X12_isFoeNear = true := by decide +kernel
theorem ok_X12_safe : xok r_X12_safe = true := by decide +kernel
theorem ok_X12_guards : xok r_X12_guards = true := by decide +kernel
theorem ok_X12_see : xok r_X12_see = true := by decide +kernel
theorem ok_X12_goneLaid : xok r_X12_goneLaid = true := by decide +kernel
theorem ok_X12_whoNow : xok r_X12_whoNow = true := by decide +kernel
theorem ok_X12_who : xok r_X12_who = true := by decide +kernel
theorem ok_X12_ask : xok r_X12_ask = true := by decide +kernel
theorem ok_X12_around : xok r_X12_around = true := by decide +kernel
theorem ok_X12_far : xok r_X12_far = true := by decide +kernel
theorem ok_X12_blocks : xok r_X12_blocks = true := by decide +kernel
theorem ok_X12_rich : xok r_X12_rich = true := by decide +kernel
theorem ok_X12_lone : xok r_X12_lone = true := by decide +kernel
theorem ok_X12_row : xok r_X12_row = true := by decide +kernel
theorem ok_X12_chance : xok r_X12_chance = true := by decide +kernel
theorem ok_X12_getsBy : xok r_X12_getsBy = true := by decide +kernel
theorem ok_X12_rests : xok r_X12_rests = true := by decide +kernel
theorem ok_X12_draw : xok r_X12_draw = true := by decide +kernel
theorem ok_X12_drawsDeed : xok r_X12_drawsDeed = true := by decide +kernel
theorem ok_X12_seasons : xok r_X12_seasons = true := by decide +kernel
theorem ok_X12_mark : xok r_X12_mark = true := by decide +kernel
theorem ok_X12_inPockets : xok r_X12_inPockets = true := by decide +kernel
theorem ok_X12_count : xok r_X12_count = true := by decide +kernel
theorem xRT_0_ok : ∀ r ∈ xRT_0, xok r = true := List.forall_mem_cons.mpr ⟨ok_J6_bitCount_0f7a4, List.forall_mem_cons.mpr ⟨ok_J7_fill_53178, List.forall_mem_cons.mpr ⟨ok_X0_init, List.forall_mem_cons.mpr ⟨ok_X0_hoursTillGone, List.forall_mem_cons.mpr ⟨ok_X0_playTillGone, List.forall_mem_cons.mpr ⟨ok_X0_freshLater, List.forall_mem_cons.mpr ⟨ok_X0_firstGone, List.forall_mem_cons.mpr ⟨ok_X0_hoursTillEmpty, List.forall_mem_cons.mpr ⟨ok_X0_nutmegsFor, List.forall_mem_cons.mpr ⟨ok_X0_putOn, List.forall_mem_cons.mpr ⟨ok_X0_mostKept, List.forall_mem_cons.mpr ⟨ok_X0_hourItIsGone, List.forall_mem_cons.mpr ⟨ok_X0_whoFits, List.forall_mem_cons.mpr ⟨ok_X0_bestQuestion, List.forall_mem_cons.mpr ⟨ok_X0_findGone, List.forall_mem_cons.mpr ⟨ok_X0_countLying, List.forall_mem_cons.mpr ⟨ok_X0_millionthsGone, List.forall_mem_cons.mpr ⟨ok_X0_isGoneBy, List.forall_mem_cons.mpr ⟨ok_X0_weightOf, List.forall_mem_cons.mpr ⟨ok_X0_season, List.forall_mem_cons.mpr ⟨ok_X0_goneByDeed, List.forall_mem_cons.mpr ⟨ok_X0_drawn, List.forall_mem_cons.mpr ⟨ok_X0_below, List.forall_mem_cons.mpr ⟨ok_X0_verdict, List.forall_mem_cons.mpr ⟨ok_X1_init, List.forall_mem_cons.mpr ⟨ok_X1_read, List.forall_mem_cons.mpr ⟨ok_X1_readLine, List.forall_mem_cons.mpr ⟨ok_X1_add, List.forall_mem_cons.mpr ⟨ok_X2_init, List.forall_mem_cons.mpr ⟨ok_X2_clear, List.forall_mem_cons.mpr ⟨ok_X2_isSeat, List.forall_mem_cons.mpr ⟨ok_X2_isPerson, List.forall_mem_cons.mpr ⟨ok_X2_allSeats, List.forall_mem_cons.mpr ⟨ok_X2_seatNamed, List.forall_mem_cons.mpr ⟨ok_X2_personNamed, List.forall_mem_cons.mpr ⟨ok_X2_hasSeatAt, List.forall_mem_cons.mpr ⟨ok_X2_addSeat, List.forall_mem_cons.mpr ⟨ok_X2_addPerson, List.forall_mem_cons.mpr ⟨ok_X2_addFoes, List.forall_mem_cons.mpr ⟨ok_X2_nearTo, List.forall_mem_nil _⟩⟩⟩⟩⟩⟩⟩⟩⟩⟩⟩⟩⟩⟩⟩⟩⟩⟩⟩⟩⟩⟩⟩⟩⟩⟩⟩⟩⟩⟩⟩⟩⟩⟩⟩⟩⟩⟩⟩⟩
theorem xRT_1_ok : ∀ r ∈ xRT_1, xok r = true := List.forall_mem_cons.mpr ⟨ok_X2_nearAny, List.forall_mem_cons.mpr ⟨ok_X2_blockOf, List.forall_mem_cons.mpr ⟨ok_X2_foesOf, List.forall_mem_cons.mpr ⟨ok_X2_isCaptain, List.forall_mem_cons.mpr ⟨ok_X2_lifeOf, List.forall_mem_cons.mpr ⟨ok_X2_raspedBy, List.forall_mem_cons.mpr ⟨ok_X3_init, List.forall_mem_cons.mpr ⟨ok_X3_read, List.forall_mem_cons.mpr ⟨ok_X3_readLine, List.forall_mem_cons.mpr ⟨ok_X3_readSeat, List.forall_mem_cons.mpr ⟨ok_X3_readPerson, List.forall_mem_cons.mpr ⟨ok_X3_readFoe, List.forall_mem_cons.mpr ⟨ok_X3_readLasts, List.forall_mem_cons.mpr ⟨ok_X4_init, List.forall_mem_cons.mpr ⟨ok_X4_clear, List.forall_mem_cons.mpr ⟨ok_X4_add, List.forall_mem_cons.mpr ⟨ok_X4_read, List.forall_mem_cons.mpr ⟨ok_X4_readChoice, List.forall_mem_cons.mpr ⟨ok_X4_readTest, List.forall_mem_cons.mpr ⟨ok_X4_readSum, List.forall_mem_cons.mpr ⟨ok_X4_readProduct, List.forall_mem_cons.mpr ⟨ok_X4_readPart, List.forall_mem_cons.mpr ⟨ok_X4_stepOverNots, List.forall_mem_cons.mpr ⟨ok_X4_readBarePart, List.forall_mem_cons.mpr ⟨ok_X4_operandOf, List.forall_mem_cons.mpr ⟨ok_X4_wear, List.forall_mem_cons.mpr ⟨ok_X4_operandValue, List.forall_mem_cons.mpr ⟨ok_X4_joined, List.forall_mem_cons.mpr ⟨ok_X5_init, List.forall_mem_cons.mpr ⟨ok_X5_forget, List.forall_mem_cons.mpr ⟨ok_X5_keep, List.forall_mem_cons.mpr ⟨ok_X5_undoInto, List.forall_mem_cons.mpr ⟨ok_X5_layMark, List.forall_mem_cons.mpr ⟨ok_X5_goBackTo, List.forall_mem_cons.mpr ⟨ok_X6_init, List.forall_mem_cons.mpr ⟨ok_X6_begin, List.forall_mem_cons.mpr ⟨ok_X6_copy, List.forall_mem_cons.mpr ⟨ok_X6_isHeld, List.forall_mem_cons.mpr ⟨ok_X6_isFree, List.forall_mem_cons.mpr ⟨ok_X6_freshOn, List.forall_mem_nil _⟩⟩⟩⟩⟩⟩⟩⟩⟩⟩⟩⟩⟩⟩⟩⟩⟩⟩⟩⟩⟩⟩⟩⟩⟩⟩⟩⟩⟩⟩⟩⟩⟩⟩⟩⟩⟩⟩⟩⟩
theorem xRT_2_ok : ∀ r ∈ xRT_2, xok r = true := List.forall_mem_cons.mpr ⟨ok_X6_pocketOf, List.forall_mem_cons.mpr ⟨ok_X6_chairOf, List.forall_mem_cons.mpr ⟨ok_X6_freeSeats, List.forall_mem_cons.mpr ⟨ok_X6_heldSeats, List.forall_mem_cons.mpr ⟨ok_X6_laidBy, List.forall_mem_cons.mpr ⟨ok_X6_nutmegsOf, List.forall_mem_cons.mpr ⟨ok_X6_inPockets, List.forall_mem_cons.mpr ⟨ok_X6_sittersOn, List.forall_mem_cons.mpr ⟨ok_X6_ownersOn, List.forall_mem_cons.mpr ⟨ok_X6_couldSitOn, List.forall_mem_cons.mpr ⟨ok_X6_canBe, List.forall_mem_cons.mpr ⟨ok_X6_act, List.forall_mem_cons.mpr ⟨ok_X6_riseUp, List.forall_mem_cons.mpr ⟨ok_X6_sitDown, List.forall_mem_cons.mpr ⟨ok_X6_put, List.forall_mem_cons.mpr ⟨ok_X6_takeAway, List.forall_mem_cons.mpr ⟨ok_X6_lessen, List.forall_mem_cons.mpr ⟨ok_X6_passHour, List.forall_mem_cons.mpr ⟨ok_X7_init, List.forall_mem_cons.mpr ⟨ok_X7_add, List.forall_mem_cons.mpr ⟨ok_X7_copy, List.forall_mem_cons.mpr ⟨ok_X8_init, List.forall_mem_cons.mpr ⟨ok_X8_chairOf, List.forall_mem_cons.mpr ⟨ok_X8_keepRow, List.forall_mem_cons.mpr ⟨ok_X8_findMost, List.forall_mem_cons.mpr ⟨ok_X8_seatFrom, List.forall_mem_cons.mpr ⟨ok_X8_findPlaced, List.forall_mem_cons.mpr ⟨ok_X8_placeFrom, List.forall_mem_cons.mpr ⟨ok_X8_chairsOfFoes, List.forall_mem_cons.mpr ⟨ok_X9_init, List.forall_mem_cons.mpr ⟨ok_X9_append, List.forall_mem_cons.mpr ⟨ok_X9_signAt, List.forall_mem_cons.mpr ⟨ok_X9_kindAt, List.forall_mem_cons.mpr ⟨ok_X10_init, List.forall_mem_cons.mpr ⟨ok_X10_begin, List.forall_mem_cons.mpr ⟨ok_X10_goesOn, List.forall_mem_cons.mpr ⟨ok_X10_step, List.forall_mem_cons.mpr ⟨ok_X10_fail, List.forall_mem_cons.mpr ⟨ok_X10_is, List.forall_mem_cons.mpr ⟨ok_X10_isSign, List.forall_mem_nil _⟩⟩⟩⟩⟩⟩⟩⟩⟩⟩⟩⟩⟩⟩⟩⟩⟩⟩⟩⟩⟩⟩⟩⟩⟩⟩⟩⟩⟩⟩⟩⟩⟩⟩⟩⟩⟩⟩⟩⟩
theorem xRT_3_ok : ∀ r ∈ xRT_3, xok r = true := List.forall_mem_cons.mpr ⟨ok_X10_passes, List.forall_mem_cons.mpr ⟨ok_X10_passesSign, List.forall_mem_cons.mpr ⟨ok_X10_hasNumber, List.forall_mem_cons.mpr ⟨ok_X10_hasNewName, List.forall_mem_cons.mpr ⟨ok_X10_hasPerson, List.forall_mem_cons.mpr ⟨ok_X10_hasSeat, List.forall_mem_cons.mpr ⟨ok_X10_isName, List.forall_mem_cons.mpr ⟨ok_X10_personKind, List.forall_mem_cons.mpr ⟨ok_X10_verb, List.forall_mem_cons.mpr ⟨ok_X11_init, List.forall_mem_cons.mpr ⟨ok_X11_feed, List.forall_mem_cons.mpr ⟨ok_X11_hall, List.forall_mem_cons.mpr ⟨ok_X11_evening, List.forall_mem_cons.mpr ⟨ok_X11_seat, List.forall_mem_cons.mpr ⟨ok_X11_person, List.forall_mem_cons.mpr ⟨ok_X11_lay, List.forall_mem_cons.mpr ⟨ok_X11_sit, List.forall_mem_cons.mpr ⟨ok_X11_rise, List.forall_mem_cons.mpr ⟨ok_X11_grate, List.forall_mem_cons.mpr ⟨ok_X11_hour, List.forall_mem_cons.mpr ⟨ok_X11_undo, List.forall_mem_cons.mpr ⟨ok_X11_judged, List.forall_mem_cons.mpr ⟨ok_X11_left, List.forall_mem_cons.mpr ⟨ok_X11_later, List.forall_mem_cons.mpr ⟨ok_X11_first, List.forall_mem_cons.mpr ⟨ok_X11_empties, List.forall_mem_cons.mpr ⟨ok_X11_most, List.forall_mem_cons.mpr ⟨ok_X11_could, List.forall_mem_cons.mpr ⟨ok_X11_needs, List.forall_mem_cons.mpr ⟨ok_X11_keeps, List.forall_mem_cons.mpr ⟨ok_X11_placed, List.forall_mem_cons.mpr ⟨ok_X11_peace, List.forall_mem_cons.mpr ⟨ok_X11_war, List.forall_mem_cons.mpr ⟨ok_X11_safe, List.forall_mem_cons.mpr ⟨ok_X11_see, List.forall_mem_cons.mpr ⟨ok_X11_who, List.forall_mem_cons.mpr ⟨ok_X11_ask, List.forall_mem_cons.mpr ⟨ok_X11_far, List.forall_mem_cons.mpr ⟨ok_X11_blocks, List.forall_mem_cons.mpr ⟨ok_X11_rich, List.forall_mem_nil _⟩⟩⟩⟩⟩⟩⟩⟩⟩⟩⟩⟩⟩⟩⟩⟩⟩⟩⟩⟩⟩⟩⟩⟩⟩⟩⟩⟩⟩⟩⟩⟩⟩⟩⟩⟩⟩⟩⟩⟩
theorem xRT_4_ok : ∀ r ∈ xRT_4, xok r = true := List.forall_mem_cons.mpr ⟨ok_X11_lone, List.forall_mem_cons.mpr ⟨ok_X11_row, List.forall_mem_cons.mpr ⟨ok_X11_stands, List.forall_mem_cons.mpr ⟨ok_X11_guards, List.forall_mem_cons.mpr ⟨ok_X11_chance, List.forall_mem_cons.mpr ⟨ok_X11_seasons, List.forall_mem_cons.mpr ⟨ok_X11_mark, List.forall_mem_cons.mpr ⟨ok_X11_count, List.forall_mem_cons.mpr ⟨ok_X11_isWithin, List.forall_mem_cons.mpr ⟨ok_X11_done, List.forall_mem_cons.mpr ⟨ok_X11_pairsThatSitNear, List.forall_mem_cons.mpr ⟨ok_X11_isRest, List.forall_mem_cons.mpr ⟨ok_X11_gain, List.forall_mem_cons.mpr ⟨ok_X12_thrown, List.forall_mem_cons.mpr ⟨ok_X12_feed, List.forall_mem_cons.mpr ⟨ok_X12_lay, List.forall_mem_cons.mpr ⟨ok_X12_init, List.forall_mem_cons.mpr ⟨ok_X12_isLetter, List.forall_mem_cons.mpr ⟨ok_X12_isDigit, List.forall_mem_cons.mpr ⟨ok_X12_rank, List.forall_mem_cons.mpr ⟨ok_X12_isSignOf, List.forall_mem_cons.mpr ⟨ok_X12_cutAll, List.forall_mem_cons.mpr ⟨ok_X12_wrong, List.forall_mem_cons.mpr ⟨ok_X12_isSign, List.forall_mem_cons.mpr ⟨ok_X12_isWord, List.forall_mem_cons.mpr ⟨ok_X12_takeSign, List.forall_mem_cons.mpr ⟨ok_X12_hasSign, List.forall_mem_cons.mpr ⟨ok_X12_hasWord, List.forall_mem_cons.mpr ⟨ok_X12_takeWord, List.forall_mem_cons.mpr ⟨ok_X12_within, List.forall_mem_cons.mpr ⟨ok_X12_standsAsAlways, List.forall_mem_cons.mpr ⟨ok_X12_takeNumber, List.forall_mem_cons.mpr ⟨ok_X12_takeAfter, List.forall_mem_cons.mpr ⟨ok_X12_wordHere, List.forall_mem_cons.mpr ⟨ok_X12_takeOne, List.forall_mem_cons.mpr ⟨ok_X12_isName, List.forall_mem_cons.mpr ⟨ok_X12_nameAt, List.forall_mem_cons.mpr ⟨ok_X12_takeTold, List.forall_mem_cons.mpr ⟨ok_X12_hall, List.forall_mem_cons.mpr ⟨ok_X12_readLine, List.forall_mem_nil _⟩⟩⟩⟩⟩⟩⟩⟩⟩⟩⟩⟩⟩⟩⟩⟩⟩⟩⟩⟩⟩⟩⟩⟩⟩⟩⟩⟩⟩⟩⟩⟩⟩⟩⟩⟩⟩⟩⟩⟩
theorem xRT_5_ok : ∀ r ∈ xRT_5, xok r = true := List.forall_mem_cons.mpr ⟨ok_X12_readSeat, List.forall_mem_cons.mpr ⟨ok_X12_readName, List.forall_mem_cons.mpr ⟨ok_X12_readOnce, List.forall_mem_cons.mpr ⟨ok_X12_evening, List.forall_mem_cons.mpr ⟨ok_X12_emit, List.forall_mem_cons.mpr ⟨ok_X12_whole, List.forall_mem_cons.mpr ⟨ok_X12_test, List.forall_mem_cons.mpr ⟨ok_X12_sums, List.forall_mem_cons.mpr ⟨ok_X12_products, List.forall_mem_cons.mpr ⟨ok_X12_takePart, List.forall_mem_cons.mpr ⟨ok_X12_worthAt, List.forall_mem_cons.mpr ⟨ok_X12_both, List.forall_mem_cons.mpr ⟨ok_X12_copies, List.forall_mem_cons.mpr ⟨ok_X12_starts, List.forall_mem_cons.mpr ⟨ok_X12_begins, List.forall_mem_cons.mpr ⟨ok_X12_keepsNow, List.forall_mem_cons.mpr ⟨ok_X12_seats, List.forall_mem_cons.mpr ⟨ok_X12_persons, List.forall_mem_cons.mpr ⟨ok_X12_seatOf, List.forall_mem_cons.mpr ⟨ok_X12_personOf, List.forall_mem_cons.mpr ⟨ok_X12_isSeat, List.forall_mem_cons.mpr ⟨ok_X12_isPerson, List.forall_mem_cons.mpr ⟨ok_X12_bits, List.forall_mem_cons.mpr ⟨ok_X12_lifeOf, List.forall_mem_cons.mpr ⟨ok_X12_areFoes, List.forall_mem_cons.mpr ⟨ok_X12_sitterOn, List.forall_mem_cons.mpr ⟨ok_X12_isFree, List.forall_mem_cons.mpr ⟨ok_X12_freeSeats, List.forall_mem_cons.mpr ⟨ok_X12_laidSeats, List.forall_mem_cons.mpr ⟨ok_X12_laidBy, List.forall_mem_cons.mpr ⟨ok_X12_nutmegsOf, List.forall_mem_cons.mpr ⟨ok_X12_puts, List.forall_mem_cons.mpr ⟨ok_X12_clears, List.forall_mem_cons.mpr ⟨ok_X12_mayLay, List.forall_mem_cons.mpr ⟨ok_X12_maySit, List.forall_mem_cons.mpr ⟨ok_X12_mayGrate, List.forall_mem_cons.mpr ⟨ok_X12_lays, List.forall_mem_cons.mpr ⟨ok_X12_sits, List.forall_mem_cons.mpr ⟨ok_X12_isGoneBy, List.forall_mem_cons.mpr ⟨ok_X12_grates, List.forall_mem_nil _⟩⟩⟩⟩⟩⟩⟩⟩⟩⟩⟩⟩⟩⟩⟩⟩⟩⟩⟩⟩⟩⟩⟩⟩⟩⟩⟩⟩⟩⟩⟩⟩⟩⟩⟩⟩⟩⟩⟩⟩
theorem xRT_6_ok : ∀ r ∈ xRT_6, xok r = true := List.forall_mem_cons.mpr ⟨ok_X12_passes, List.forall_mem_cons.mpr ⟨ok_X12_sitting, List.forall_mem_cons.mpr ⟨ok_X12_seat, List.forall_mem_cons.mpr ⟨ok_X12_person, List.forall_mem_cons.mpr ⟨ok_X12_lay_, List.forall_mem_cons.mpr ⟨ok_X12_sit, List.forall_mem_cons.mpr ⟨ok_X12_rise, List.forall_mem_cons.mpr ⟨ok_X12_grate, List.forall_mem_cons.mpr ⟨ok_X12_hour, List.forall_mem_cons.mpr ⟨ok_X12_undo, List.forall_mem_cons.mpr ⟨ok_X12_mayBe, List.forall_mem_cons.mpr ⟨ok_X12_judged, List.forall_mem_cons.mpr ⟨ok_X12_triesNow, List.forall_mem_cons.mpr ⟨ok_X12_goneIn, List.forall_mem_cons.mpr ⟨ok_X12_left, List.forall_mem_cons.mpr ⟨ok_X12_later, List.forall_mem_cons.mpr ⟨ok_X12_first, List.forall_mem_cons.mpr ⟨ok_X12_empties, List.forall_mem_cons.mpr ⟨ok_X12_couldNow, List.forall_mem_cons.mpr ⟨ok_X12_doesStand, List.forall_mem_cons.mpr ⟨ok_X12_seatsFrom, List.forall_mem_cons.mpr ⟨ok_X12_most, List.forall_mem_cons.mpr ⟨ok_X12_could, List.forall_mem_cons.mpr ⟨ok_X12_stands, List.forall_mem_cons.mpr ⟨ok_X12_holdsBy, List.forall_mem_cons.mpr ⟨ok_X12_needs, List.forall_mem_cons.mpr ⟨ok_X12_keeps, List.forall_mem_cons.mpr ⟨ok_X12_placesFrom, List.forall_mem_cons.mpr ⟨ok_X12_placed, List.forall_mem_cons.mpr ⟨ok_X12_pairsOf, List.forall_mem_cons.mpr ⟨ok_X12_peace, List.forall_mem_cons.mpr ⟨ok_X12_war, List.forall_mem_cons.mpr ⟨ok_X12_isFoeNear, List.forall_mem_cons.mpr ⟨ok_X12_safe, List.forall_mem_cons.mpr ⟨ok_X12_guards, List.forall_mem_cons.mpr ⟨ok_X12_see, List.forall_mem_cons.mpr ⟨ok_X12_goneLaid, List.forall_mem_cons.mpr ⟨ok_X12_whoNow, List.forall_mem_cons.mpr ⟨ok_X12_who, List.forall_mem_cons.mpr ⟨ok_X12_ask, List.forall_mem_nil _⟩⟩⟩⟩⟩⟩⟩⟩⟩⟩⟩⟩⟩⟩⟩⟩⟩⟩⟩⟩⟩⟩⟩⟩⟩⟩⟩⟩⟩⟩⟩⟩⟩⟩⟩⟩⟩⟩⟩⟩
theorem xRT_7_ok : ∀ r ∈ xRT_7, xok r = true := List.forall_mem_cons.mpr ⟨ok_X12_around, List.forall_mem_cons.mpr ⟨ok_X12_far, List.forall_mem_cons.mpr ⟨ok_X12_blocks, List.forall_mem_cons.mpr ⟨ok_X12_rich, List.forall_mem_cons.mpr ⟨ok_X12_lone, List.forall_mem_cons.mpr ⟨ok_X12_row, List.forall_mem_cons.mpr ⟨ok_X12_chance, List.forall_mem_cons.mpr ⟨ok_X12_getsBy, List.forall_mem_cons.mpr ⟨ok_X12_rests, List.forall_mem_cons.mpr ⟨ok_X12_draw, List.forall_mem_cons.mpr ⟨ok_X12_drawsDeed, List.forall_mem_cons.mpr ⟨ok_X12_seasons, List.forall_mem_cons.mpr ⟨ok_X12_mark, List.forall_mem_cons.mpr ⟨ok_X12_inPockets, List.forall_mem_cons.mpr ⟨ok_X12_count, List.forall_mem_nil _⟩⟩⟩⟩⟩⟩⟩⟩⟩⟩⟩⟩⟩⟩⟩
theorem xRT_ok : ∀ r ∈ xRT, xok r = true := List.forall_mem_append.mpr ⟨xRT_0_ok, List.forall_mem_append.mpr ⟨xRT_1_ok, List.forall_mem_append.mpr ⟨xRT_2_ok, List.forall_mem_append.mpr ⟨xRT_3_ok, List.forall_mem_append.mpr ⟨xRT_4_ok, List.forall_mem_append.mpr ⟨xRT_5_ok, List.forall_mem_append.mpr ⟨xRT_6_ok, xRT_7_ok⟩⟩⟩⟩⟩⟩⟩
theorem ok_law_0 : xokL cL_law P_L_law 15 false (some .boolean) 0 ((K_L_law.drop 0).take 32) = true := by decide +kernel
theorem ok_law_1 : xokL cL_law P_L_law 15 false (some .boolean) 32 ((K_L_law.drop 32).take 32) = true := by decide +kernel
theorem ok_law_2 : xokL cL_law P_L_law 15 false (some .boolean) 64 ((K_L_law.drop 64).take 32) = true := by decide +kernel
theorem ok_law_3 : xokL cL_law P_L_law 15 false (some .boolean) 96 ((K_L_law.drop 96).take 32) = true := by decide +kernel
theorem ok_law_4 : xokL cL_law P_L_law 15 false (some .boolean) 128 ((K_L_law.drop 128).take 32) = true := by decide +kernel
theorem ok_law_5 : xokL cL_law P_L_law 15 false (some .boolean) 160 ((K_L_law.drop 160).take 32) = true := by decide +kernel
theorem ok_law_6 : xokL cL_law P_L_law 15 false (some .boolean) 192 ((K_L_law.drop 192).take 32) = true := by decide +kernel
theorem ok_law_7 : xokL cL_law P_L_law 15 false (some .boolean) 224 ((K_L_law.drop 224).take 32) = true := by decide +kernel
theorem ok_law_8 : xokL cL_law P_L_law 15 false (some .boolean) 256 ((K_L_law.drop 256).take 32) = true := by decide +kernel
theorem ok_law_9 : xokL cL_law P_L_law 15 false (some .boolean) 288 ((K_L_law.drop 288).take 32) = true := by decide +kernel
theorem ok_law_10 : xokL cL_law P_L_law 15 false (some .boolean) 320 ((K_L_law.drop 320).take 32) = true := by decide +kernel
theorem ok_law_11 : xokL cL_law P_L_law 15 false (some .boolean) 352 ((K_L_law.drop 352).take 32) = true := by decide +kernel
theorem ok_law_12 : xokL cL_law P_L_law 15 false (some .boolean) 384 ((K_L_law.drop 384).take 32) = true := by decide +kernel
theorem ok_law_13 : xokL cL_law P_L_law 15 false (some .boolean) 416 ((K_L_law.drop 416).take 32) = true := by decide +kernel
theorem ok_law_14 : xokL cL_law P_L_law 15 false (some .boolean) 448 ((K_L_law.drop 448).take 32) = true := by decide +kernel
theorem ok_law_15 : xokL cL_law P_L_law 15 false (some .boolean) 480 ((K_L_law.drop 480).take 32) = true := by decide +kernel
theorem ok_law_16 : xokL cL_law P_L_law 15 false (some .boolean) 512 ((K_L_law.drop 512).take 32) = true := by decide +kernel
theorem ok_law_17 : xokL cL_law P_L_law 15 false (some .boolean) 544 ((K_L_law.drop 544).take 32) = true := by decide +kernel
theorem ok_law_18 : xokL cL_law P_L_law 15 false (some .boolean) 576 ((K_L_law.drop 576).take 32) = true := by decide +kernel
theorem ok_law_19 : xokL cL_law P_L_law 15 false (some .boolean) 608 ((K_L_law.drop 608).take 32) = true := by decide +kernel
theorem ok_law_20 : xokL cL_law P_L_law 15 false (some .boolean) 640 ((K_L_law.drop 640).take 32) = true := by decide +kernel
theorem ok_law_21 : xokL cL_law P_L_law 15 false (some .boolean) 672 ((K_L_law.drop 672).take 32) = true := by decide +kernel
theorem ok_law_22 : xokL cL_law P_L_law 15 false (some .boolean) 704 ((K_L_law.drop 704).take 32) = true := by decide +kernel
theorem ok_law_23 : xokL cL_law P_L_law 15 false (some .boolean) 736 ((K_L_law.drop 736).take 32) = true := by decide +kernel
theorem ok_law_24 : xokL cL_law P_L_law 15 false (some .boolean) 768 ((K_L_law.drop 768).take 32) = true := by decide +kernel
theorem ok_law_25 : xokL cL_law P_L_law 15 false (some .boolean) 800 ((K_L_law.drop 800).take 32) = true := by decide +kernel
theorem ok_law_26 : xokL cL_law P_L_law 15 false (some .boolean) 832 ((K_L_law.drop 832).take 32) = true := by decide +kernel
theorem ok_law_27 : xokL cL_law P_L_law 15 false (some .boolean) 864 ((K_L_law.drop 864).take 32) = true := by decide +kernel
