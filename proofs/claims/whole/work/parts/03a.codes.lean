abbrev vwCl9 : List vw_C := [(RX0, TX0, 5), (RX1, TX1, 12), (RX2, TX2, 5), (RX3, TX3, 4), (RX4, TX4, 3), (RX5, TX5, 4), (RX6, TX6, 5), (RX7, TX7, 11), (RX8, TX8, 31)]
/-! the tables agree with the bytes, and with the words of the tables. Written by wip/gen/gen2.py -/
def aOwn (key : Nat) : String := aClsL.getD (key / 10000) ""
def aCkm (l : List (Nat × Instr × Nat)) (b : ByteArray) : Bool := l.all (fun e => decide (decode b e.1 = .ok (e.2.1, e.2.2)))
set_option maxRecDepth 100000 in
theorem ckJ6_bitCount_0f7a4 : aCkm cdJ6_bitCount_0f7a4 cJ6_bitCount_0f7a4 = true := by decide +kernel
set_option maxRecDepth 100000 in
theorem ckJ0_length_8abf5 : aCkm cdJ0_length_8abf5 cJ0_length_8abf5 = true := by decide +kernel
set_option maxRecDepth 100000 in
theorem ckJ0_charAt_5068e : aCkm cdJ0_charAt_5068e cJ0_charAt_5068e = true := by decide +kernel
set_option maxRecDepth 100000 in
theorem ckJ0_indexOf_0f7a4 : aCkm cdJ0_indexOf_0f7a4 cJ0_indexOf_0f7a4 = true := by decide +kernel
set_option maxRecDepth 100000 in
theorem ckJ0_indexOf_7cf53 : aCkm cdJ0_indexOf_7cf53 cJ0_indexOf_7cf53 = true := by decide +kernel
set_option maxRecDepth 100000 in
theorem ckJ0_coder_7d493 : aCkm cdJ0_coder_7d493 cJ0_coder_7d493 = true := by decide +kernel
set_option maxRecDepth 100000 in
theorem ckJ0_isLatin1_aae02 : aCkm cdJ0_isLatin1_aae02 cJ0_isLatin1_aae02 = true := by decide +kernel
set_option maxRecDepth 100000 in
theorem ckJ0_checkIndex_df160 : aCkm cdJ0_checkIndex_df160 cJ0_checkIndex_df160 = true := by decide +kernel
set_option maxRecDepth 100000 in
theorem ckJ1_charAt_3b067 : aCkm cdJ1_charAt_3b067 cJ1_charAt_3b067 = true := by decide +kernel
set_option maxRecDepth 100000 in
theorem ckJ1_canEncode_9a6ad : aCkm cdJ1_canEncode_9a6ad cJ1_canEncode_9a6ad = true := by decide +kernel
set_option maxRecDepth 100000 in
theorem ckJ1_indexOf_4cfef : aCkm cdJ1_indexOf_4cfef cJ1_indexOf_4cfef = true := by decide +kernel
set_option maxRecDepth 100000 in
theorem ckJ1_indexOfChar_4cfef : aCkm cdJ1_indexOfChar_4cfef cJ1_indexOfChar_4cfef = true := by decide +kernel
set_option maxRecDepth 100000 in
theorem ckJ3_checkIndex_8e157 : aCkm cdJ3_checkIndex_8e157 cJ3_checkIndex_8e157 = true := by decide +kernel
set_option maxRecDepth 100000 in
theorem ckX0_copyFrom : aCkm cdX0_copyFrom cX0_copyFrom = true := by decide +kernel
set_option maxRecDepth 100000 in
theorem ckX0_isOf : aCkm cdX0_isOf cX0_isOf = true := by decide +kernel
set_option maxRecDepth 100000 in
theorem ckX0_comes : aCkm cdX0_comes cX0_comes = true := by decide +kernel
set_option maxRecDepth 100000 in
theorem ckX0_walks : aCkm cdX0_walks cX0_walks = true := by decide +kernel
set_option maxRecDepth 100000 in
theorem ckX0_brings : aCkm cdX0_brings cX0_brings = true := by decide +kernel
set_option maxRecDepth 100000 in
theorem ckX0_worth : aCkm cdX0_worth cX0_worth = true := by decide +kernel
set_option maxRecDepth 100000 in
theorem ckX1_copyFrom : aCkm cdX1_copyFrom cX1_copyFrom = true := by decide +kernel
set_option maxRecDepth 100000 in
theorem ckX1_welcome : aCkm cdX1_welcome cX1_welcome = true := by decide +kernel
set_option maxRecDepth 100000 in
theorem ckX1_welcomeDrawn : aCkm cdX1_welcomeDrawn cX1_welcomeDrawn = true := by decide +kernel
set_option maxRecDepth 100000 in
theorem ckX1_draw : aCkm cdX1_draw cX1_draw = true := by decide +kernel
set_option maxRecDepth 100000 in
theorem ckX1_comesBy : aCkm cdX1_comesBy cX1_comesBy = true := by decide +kernel
set_option maxRecDepth 100000 in
theorem ckX1_nearestBut : aCkm cdX1_nearestBut cX1_nearestBut = true := by decide +kernel
set_option maxRecDepth 100000 in
theorem ckX1_dine : aCkm cdX1_dine cX1_dine = true := by decide +kernel
set_option maxRecDepth 100000 in
theorem ckX1_withOneSentFor : aCkm cdX1_withOneSentFor cX1_withOneSentFor = true := by decide +kernel
set_option maxRecDepth 100000 in
theorem ckX1_pass : aCkm cdX1_pass cX1_pass = true := by decide +kernel
set_option maxRecDepth 100000 in
theorem ckX1_drawComers : aCkm cdX1_drawComers cX1_drawComers = true := by decide +kernel
set_option maxRecDepth 100000 in
theorem ckX1_drawFog : aCkm cdX1_drawFog cX1_drawFog = true := by decide +kernel
set_option maxRecDepth 100000 in
theorem ckX1_total : aCkm cdX1_total cX1_total = true := by decide +kernel
set_option maxRecDepth 100000 in
theorem ckX1_oddsOfAll : aCkm cdX1_oddsOfAll cX1_oddsOfAll = true := by decide +kernel
set_option maxRecDepth 100000 in
theorem ckX1_witOfAll : aCkm cdX1_witOfAll cX1_witOfAll = true := by decide +kernel
set_option maxRecDepth 100000 in
theorem ckX1_fewestThatBring : aCkm cdX1_fewestThatBring cX1_fewestThatBring = true := by decide +kernel
set_option maxRecDepth 100000 in
theorem ckX1_broughtBy : aCkm cdX1_broughtBy cX1_broughtBy = true := by decide +kernel
set_option maxRecDepth 100000 in
theorem ckX2_begin : aCkm cdX2_begin cX2_begin = true := by decide +kernel
set_option maxRecDepth 100000 in
theorem ckX2_addNumber : aCkm cdX2_addNumber cX2_addNumber = true := by decide +kernel
set_option maxRecDepth 100000 in
theorem ckX2_addName : aCkm cdX2_addName cX2_addName = true := by decide +kernel
set_option maxRecDepth 100000 in
theorem ckX2_addSign : aCkm cdX2_addSign cX2_addSign = true := by decide +kernel
set_option maxRecDepth 100000 in
theorem ckX2_addStep : aCkm cdX2_addStep cX2_addStep = true := by decide +kernel
set_option maxRecDepth 100000 in
theorem ckX2_gives : aCkm cdX2_gives cX2_gives = true := by decide +kernel
set_option maxRecDepth 100000 in
theorem ckX2_named : aCkm cdX2_named cX2_named = true := by decide +kernel
set_option maxRecDepth 100000 in
theorem ckX2_worked : aCkm cdX2_worked cX2_worked = true := by decide +kernel
set_option maxRecDepth 100000 in
theorem ckX3_findFault : aCkm cdX3_findFault cX3_findFault = true := by decide +kernel
set_option maxRecDepth 100000 in
theorem ckX3_fail : aCkm cdX3_fail cX3_fail = true := by decide +kernel
set_option maxRecDepth 100000 in
theorem ckX3_readKey : aCkm cdX3_readKey cX3_readKey = true := by decide +kernel
set_option maxRecDepth 100000 in
theorem ckX3_wordOf : aCkm cdX3_wordOf cX3_wordOf = true := by decide +kernel
set_option maxRecDepth 100000 in
theorem ckX3_namesOf : aCkm cdX3_namesOf cX3_namesOf = true := by decide +kernel
set_option maxRecDepth 100000 in
theorem ckX3_readLevel : aCkm cdX3_readLevel cX3_readLevel = true := by decide +kernel
set_option maxRecDepth 100000 in
theorem ckX3_levelOf : aCkm cdX3_levelOf cX3_levelOf = true := by decide +kernel
set_option maxRecDepth 100000 in
theorem ckX3_readPiece : aCkm cdX3_readPiece cX3_readPiece = true := by decide +kernel
set_option maxRecDepth 100000 in
theorem ckX3_readNot : aCkm cdX3_readNot cX3_readNot = true := by decide +kernel
set_option maxRecDepth 100000 in
theorem ckX3_readBracket : aCkm cdX3_readBracket cX3_readBracket = true := by decide +kernel
set_option maxRecDepth 100000 in
theorem ckX4_isMissing : aCkm cdX4_isMissing cX4_isMissing = true := by decide +kernel
set_option maxRecDepth 100000 in
theorem ckX4_become : aCkm cdX4_become cX4_become = true := by decide +kernel
set_option maxRecDepth 100000 in
theorem ckX4_copyFrom : aCkm cdX4_copyFrom cX4_copyFrom = true := by decide +kernel
set_option maxRecDepth 100000 in
theorem ckX4_hasPlace : aCkm cdX4_hasPlace cX4_hasPlace = true := by decide +kernel
set_option maxRecDepth 100000 in
theorem ckX4_hasPlaces : aCkm cdX4_hasPlaces cX4_hasPlaces = true := by decide +kernel
set_option maxRecDepth 100000 in
theorem ckX4_hasNumber : aCkm cdX4_hasNumber cX4_hasNumber = true := by decide +kernel
set_option maxRecDepth 100000 in
theorem ckX6_addFour : aCkm cdX6_addFour cX6_addFour = true := by decide +kernel
set_option maxRecDepth 100000 in
theorem ckX6_lookAtFirst : aCkm cdX6_lookAtFirst cX6_lookAtFirst = true := by decide +kernel
set_option maxRecDepth 100000 in
theorem ckX6_lookAtNext : aCkm cdX6_lookAtNext cX6_lookAtNext = true := by decide +kernel
set_option maxRecDepth 100000 in
theorem ckX6_sign : aCkm cdX6_sign cX6_sign = true := by decide +kernel
set_option maxRecDepth 100000 in
theorem ckX6_isWord : aCkm cdX6_isWord cX6_isWord = true := by decide +kernel
set_option maxRecDepth 100000 in
theorem ckX6_isNumber : aCkm cdX6_isNumber cX6_isNumber = true := by decide +kernel
set_option maxRecDepth 100000 in
theorem ckX6_number : aCkm cdX6_number cX6_number = true := by decide +kernel
set_option maxRecDepth 100000 in
theorem ckX6_nameAmong : aCkm cdX6_nameAmong cX6_nameAmong = true := by decide +kernel
set_option maxRecDepth 100000 in
theorem ckX6_byteAt : aCkm cdX6_byteAt cX6_byteAt = true := by decide +kernel
set_option maxRecDepth 100000 in
theorem ckX6_sortAt : aCkm cdX6_sortAt cX6_sortAt = true := by decide +kernel
set_option maxRecDepth 100000 in
theorem ckX7_person : aCkm cdX7_person cX7_person = true := by decide +kernel
set_option maxRecDepth 100000 in
theorem ckX7_told : aCkm cdX7_told cX7_told = true := by decide +kernel
set_option maxRecDepth 100000 in
theorem ckX7_as : aCkm cdX7_as cX7_as = true := by decide +kernel
set_option maxRecDepth 100000 in
theorem ckX7_turns : aCkm cdX7_turns cX7_turns = true := by decide +kernel
set_option maxRecDepth 100000 in
theorem ckX7_set : aCkm cdX7_set cX7_set = true := by decide +kernel
set_option maxRecDepth 100000 in
theorem ckX7_rule : aCkm cdX7_rule cX7_rule = true := by decide +kernel
set_option maxRecDepth 100000 in
theorem ckX7_deal : aCkm cdX7_deal cX7_deal = true := by decide +kernel
set_option maxRecDepth 100000 in
theorem ckX7_seed : aCkm cdX7_seed cX7_seed = true := by decide +kernel
set_option maxRecDepth 100000 in
theorem ckX7_fewest : aCkm cdX7_fewest cX7_fewest = true := by decide +kernel
set_option maxRecDepth 100000 in
theorem ckX7_sits : aCkm cdX7_sits cX7_sits = true := by decide +kernel
set_option maxRecDepth 100000 in
theorem ckX7_evenings : aCkm cdX7_evenings cX7_evenings = true := by decide +kernel
set_option maxRecDepth 100000 in
theorem ckX7_house : aCkm cdX7_house cX7_house = true := by decide +kernel
set_option maxRecDepth 100000 in
theorem ckX7_behind : aCkm cdX7_behind cX7_behind = true := by decide +kernel
set_option maxRecDepth 100000 in
theorem ckX7_meets : aCkm cdX7_meets cX7_meets = true := by decide +kernel
set_option maxRecDepth 100000 in
theorem ckX7_door : aCkm cdX7_door cX7_door = true := by decide +kernel
set_option maxRecDepth 100000 in
theorem ckX7_never : aCkm cdX7_never cX7_never = true := by decide +kernel
set_option maxRecDepth 100000 in
theorem ckX7_becomes : aCkm cdX7_becomes cX7_becomes = true := by decide +kernel
set_option maxRecDepth 100000 in
theorem ckX7_like : aCkm cdX7_like cX7_like = true := by decide +kernel
set_option maxRecDepth 100000 in
theorem ckX7_fee : aCkm cdX7_fee cX7_fee = true := by decide +kernel
set_option maxRecDepth 100000 in
theorem ckX7_fine : aCkm cdX7_fine cX7_fine = true := by decide +kernel
set_option maxRecDepth 100000 in
theorem ckX7_feed : aCkm cdX7_feed cX7_feed = true := by decide +kernel
set_option maxRecDepth 100000 in
theorem ckX7_trim : aCkm cdX7_trim cX7_trim = true := by decide +kernel
set_option maxRecDepth 100000 in
theorem ckX7_text : aCkm cdX7_text cX7_text = true := by decide +kernel
set_option maxRecDepth 100000 in
theorem ckX7_textTold : aCkm cdX7_textTold cX7_textTold = true := by decide +kernel
set_option maxRecDepth 100000 in
theorem ckX7_why : aCkm cdX7_why cX7_why = true := by decide +kernel
set_option maxRecDepth 100000 in
theorem ckX7_sheet : aCkm cdX7_sheet cX7_sheet = true := by decide +kernel
set_option maxRecDepth 100000 in
theorem ckX7_mark : aCkm cdX7_mark cX7_mark = true := by decide +kernel
set_option maxRecDepth 100000 in
theorem ckX7_pour : aCkm cdX7_pour cX7_pour = true := by decide +kernel
set_option maxRecDepth 100000 in
theorem ckX7_reads : aCkm cdX7_reads cX7_reads = true := by decide +kernel
set_option maxRecDepth 100000 in
theorem ckX7_copy : aCkm cdX7_copy cX7_copy = true := by decide +kernel
set_option maxRecDepth 100000 in
theorem ckX7_lay : aCkm cdX7_lay cX7_lay = true := by decide +kernel
set_option maxRecDepth 100000 in
theorem ckX7_ask : aCkm cdX7_ask cX7_ask = true := by decide +kernel
set_option maxRecDepth 100000 in
theorem ckX7_item : aCkm cdX7_item cX7_item = true := by decide +kernel
set_option maxRecDepth 100000 in
theorem ckX7_rest : aCkm cdX7_rest cX7_rest = true := by decide +kernel
set_option maxRecDepth 100000 in
theorem ckX7_tell : aCkm cdX7_tell cX7_tell = true := by decide +kernel
set_option maxRecDepth 100000 in
theorem ckX7_check : aCkm cdX7_check cX7_check = true := by decide +kernel
set_option maxRecDepth 100000 in
theorem ckX7_keep : aCkm cdX7_keep cX7_keep = true := by decide +kernel
set_option maxRecDepth 100000 in
theorem ckX7_back : aCkm cdX7_back cX7_back = true := by decide +kernel
set_option maxRecDepth 100000 in
theorem ckX7_count : aCkm cdX7_count cX7_count = true := by decide +kernel
set_option maxRecDepth 100000 in
theorem ckX7_isWithin : aCkm cdX7_isWithin cX7_isWithin = true := by decide +kernel
set_option maxRecDepth 100000 in
theorem ckX7_held : aCkm cdX7_held cX7_held = true := by decide +kernel
set_option maxRecDepth 100000 in
theorem ckX7_isKind : aCkm cdX7_isKind cX7_isKind = true := by decide +kernel
set_option maxRecDepth 100000 in
theorem ckX7_isSheet : aCkm cdX7_isSheet cX7_isSheet = true := by decide +kernel
set_option maxRecDepth 100000 in
theorem ckX7_isSlot : aCkm cdX7_isSlot cX7_isSlot = true := by decide +kernel
set_option maxRecDepth 100000 in
theorem ckX7_isPerson : aCkm cdX7_isPerson cX7_isPerson = true := by decide +kernel
set_option maxRecDepth 100000 in
theorem ckX7_mostOf : aCkm cdX7_mostOf cX7_mostOf = true := by decide +kernel
set_option maxRecDepth 100000 in
theorem ckX7_lawThatCounts : aCkm cdX7_lawThatCounts cX7_lawThatCounts = true := by decide +kernel
set_option maxRecDepth 100000 in
theorem ckX7_sumDifferences : aCkm cdX7_sumDifferences cX7_sumDifferences = true := by decide +kernel
set_option maxRecDepth 100000 in
theorem ckX7_firstOtherwise : aCkm cdX7_firstOtherwise cX7_firstOtherwise = true := by decide +kernel
set_option maxRecDepth 100000 in
theorem ckX7_isNext : aCkm cdX7_isNext cX7_isNext = true := by decide +kernel
set_option maxRecDepth 100000 in
theorem ckX8_isIn : aCkm cdX8_isIn cX8_isIn = true := by decide +kernel
set_option maxRecDepth 100000 in
theorem ckX8_orNone : aCkm cdX8_orNone cX8_orNone = true := by decide +kernel
set_option maxRecDepth 100000 in
theorem ckX8_within : aCkm cdX8_within cX8_within = true := by decide +kernel
set_option maxRecDepth 100000 in
theorem ckX8_off : aCkm cdX8_off cX8_off = true := by decide +kernel
set_option maxRecDepth 100000 in
theorem ckX8_least : aCkm cdX8_least cX8_least = true := by decide +kernel
set_option maxRecDepth 100000 in
theorem ckX8_changes : aCkm cdX8_changes cX8_changes = true := by decide +kernel
set_option maxRecDepth 100000 in
theorem ckX8_textAt : aCkm cdX8_textAt cX8_textAt = true := by decide +kernel
set_option maxRecDepth 100000 in
theorem ckX8_of : aCkm cdX8_of cX8_of = true := by decide +kernel
set_option maxRecDepth 100000 in
theorem ckX8_sets : aCkm cdX8_sets cX8_sets = true := by decide +kernel
set_option maxRecDepth 100000 in
theorem ckX8_isPerson : aCkm cdX8_isPerson cX8_isPerson = true := by decide +kernel
set_option maxRecDepth 100000 in
theorem ckX8_isText : aCkm cdX8_isText cX8_isText = true := by decide +kernel
set_option maxRecDepth 100000 in
theorem ckX8_drawn : aCkm cdX8_drawn cX8_drawn = true := by decide +kernel
set_option maxRecDepth 100000 in
theorem ckX8_isOf : aCkm cdX8_isOf cX8_isOf = true := by decide +kernel
set_option maxRecDepth 100000 in
theorem ckX8_many : aCkm cdX8_many cX8_many = true := by decide +kernel
set_option maxRecDepth 100000 in
theorem ckX8_plain : aCkm cdX8_plain cX8_plain = true := by decide +kernel
set_option maxRecDepth 100000 in
theorem ckX8_comesBy : aCkm cdX8_comesBy cX8_comesBy = true := by decide +kernel
set_option maxRecDepth 100000 in
theorem ckX8_walks : aCkm cdX8_walks cX8_walks = true := by decide +kernel
set_option maxRecDepth 100000 in
theorem ckX8_brings : aCkm cdX8_brings cX8_brings = true := by decide +kernel
set_option maxRecDepth 100000 in
theorem ckX8_worth : aCkm cdX8_worth cX8_worth = true := by decide +kernel
set_option maxRecDepth 100000 in
theorem ckX8_joins : aCkm cdX8_joins cX8_joins = true := by decide +kernel
set_option maxRecDepth 100000 in
theorem ckX8_person : aCkm cdX8_person cX8_person = true := by decide +kernel
set_option maxRecDepth 100000 in
theorem ckX8_told : aCkm cdX8_told cX8_told = true := by decide +kernel
set_option maxRecDepth 100000 in
theorem ckX8_as : aCkm cdX8_as cX8_as = true := by decide +kernel
set_option maxRecDepth 100000 in
theorem ckX8_turns : aCkm cdX8_turns cX8_turns = true := by decide +kernel
set_option maxRecDepth 100000 in
theorem ckX8_set : aCkm cdX8_set cX8_set = true := by decide +kernel
set_option maxRecDepth 100000 in
theorem ckX8_rule : aCkm cdX8_rule cX8_rule = true := by decide +kernel
set_option maxRecDepth 100000 in
theorem ckX8_deal : aCkm cdX8_deal cX8_deal = true := by decide +kernel
set_option maxRecDepth 100000 in
theorem ckX8_seed : aCkm cdX8_seed cX8_seed = true := by decide +kernel
set_option maxRecDepth 100000 in
theorem ckX8_broughtBy : aCkm cdX8_broughtBy cX8_broughtBy = true := by decide +kernel
set_option maxRecDepth 100000 in
theorem ckX8_fewest : aCkm cdX8_fewest cX8_fewest = true := by decide +kernel
set_option maxRecDepth 100000 in
theorem ckX8_nearest : aCkm cdX8_nearest cX8_nearest = true := by decide +kernel
set_option maxRecDepth 100000 in
theorem ckX8_dines : aCkm cdX8_dines cX8_dines = true := by decide +kernel
set_option maxRecDepth 100000 in
theorem ckX8_sits : aCkm cdX8_sits cX8_sits = true := by decide +kernel
set_option maxRecDepth 100000 in
theorem ckX8_goesOn : aCkm cdX8_goesOn cX8_goesOn = true := by decide +kernel
set_option maxRecDepth 100000 in
theorem ckX8_goesOnMany : aCkm cdX8_goesOnMany cX8_goesOnMany = true := by decide +kernel
set_option maxRecDepth 100000 in
theorem ckX8_evenings : aCkm cdX8_evenings cX8_evenings = true := by decide +kernel
set_option maxRecDepth 100000 in
theorem ckX8_sumOf : aCkm cdX8_sumOf cX8_sumOf = true := by decide +kernel
set_option maxRecDepth 100000 in
theorem ckX8_houseOf : aCkm cdX8_houseOf cX8_houseOf = true := by decide +kernel
set_option maxRecDepth 100000 in
theorem ckX8_house : aCkm cdX8_house cX8_house = true := by decide +kernel
set_option maxRecDepth 100000 in
theorem ckX8_laysBy : aCkm cdX8_laysBy cX8_laysBy = true := by decide +kernel
set_option maxRecDepth 100000 in
theorem ckX8_laysBack : aCkm cdX8_laysBack cX8_laysBack = true := by decide +kernel
set_option maxRecDepth 100000 in
theorem ckX8_behind : aCkm cdX8_behind cX8_behind = true := by decide +kernel
set_option maxRecDepth 100000 in
theorem ckX8_meets : aCkm cdX8_meets cX8_meets = true := by decide +kernel
set_option maxRecDepth 100000 in
theorem ckX8_isAsked : aCkm cdX8_isAsked cX8_isAsked = true := by decide +kernel
set_option maxRecDepth 100000 in
theorem ckX8_mostBy : aCkm cdX8_mostBy cX8_mostBy = true := by decide +kernel
set_option maxRecDepth 100000 in
theorem ckX8_door : aCkm cdX8_door cX8_door = true := by decide +kernel
set_option maxRecDepth 100000 in
theorem ckX8_never : aCkm cdX8_never cX8_never = true := by decide +kernel
set_option maxRecDepth 100000 in
theorem ckX8_becomes : aCkm cdX8_becomes cX8_becomes = true := by decide +kernel
set_option maxRecDepth 100000 in
theorem ckX8_fee : aCkm cdX8_fee cX8_fee = true := by decide +kernel
set_option maxRecDepth 100000 in
theorem ckX8_fine : aCkm cdX8_fine cX8_fine = true := by decide +kernel
set_option maxRecDepth 100000 in
theorem ckX8_feed : aCkm cdX8_feed cX8_feed = true := by decide +kernel
set_option maxRecDepth 100000 in
theorem ckX8_trim : aCkm cdX8_trim cX8_trim = true := by decide +kernel
set_option maxRecDepth 100000 in
theorem ckX8_isLetter : aCkm cdX8_isLetter cX8_isLetter = true := by decide +kernel
set_option maxRecDepth 100000 in
theorem ckX8_isDigit : aCkm cdX8_isDigit cX8_isDigit = true := by decide +kernel
set_option maxRecDepth 100000 in
theorem ckX8_nextToken : aCkm cdX8_nextToken cX8_nextToken = true := by decide +kernel
set_option maxRecDepth 100000 in
theorem ckX8_isSign : aCkm cdX8_isSign cX8_isSign = true := by decide +kernel
set_option maxRecDepth 100000 in
theorem ckX8_isWordAt : aCkm cdX8_isWordAt cX8_isWordAt = true := by decide +kernel
set_option maxRecDepth 100000 in
theorem ckX8_key : aCkm cdX8_key cX8_key = true := by decide +kernel
set_option maxRecDepth 100000 in
theorem ckX8_isName : aCkm cdX8_isName cX8_isName = true := by decide +kernel
set_option maxRecDepth 100000 in
theorem ckX8_step : aCkm cdX8_step cX8_step = true := by decide +kernel
set_option maxRecDepth 100000 in
theorem ckX8_either : aCkm cdX8_either cX8_either = true := by decide +kernel
set_option maxRecDepth 100000 in
theorem ckX8_both : aCkm cdX8_both cX8_both = true := by decide +kernel
set_option maxRecDepth 100000 in
theorem ckX8_test : aCkm cdX8_test cX8_test = true := by decide +kernel
set_option maxRecDepth 100000 in
theorem ckX8_sum : aCkm cdX8_sum cX8_sum = true := by decide +kernel
set_option maxRecDepth 100000 in
theorem ckX8_term : aCkm cdX8_term cX8_term = true := by decide +kernel
set_option maxRecDepth 100000 in
theorem ckX8_part0 : aCkm cdX8_part0 cX8_part0 = true := by decide +kernel
set_option maxRecDepth 100000 in
theorem ckX8_parse : aCkm cdX8_parse cX8_parse = true := by decide +kernel
set_option maxRecDepth 100000 in
theorem ckX8_text : aCkm cdX8_text cX8_text = true := by decide +kernel
set_option maxRecDepth 100000 in
theorem ckX8_textTold : aCkm cdX8_textTold cX8_textTold = true := by decide +kernel
set_option maxRecDepth 100000 in
theorem ckX8_counts : aCkm cdX8_counts cX8_counts = true := by decide +kernel
set_option maxRecDepth 100000 in
theorem ckX8_why : aCkm cdX8_why cX8_why = true := by decide +kernel
set_option maxRecDepth 100000 in
theorem ckX8_joined : aCkm cdX8_joined cX8_joined = true := by decide +kernel
set_option maxRecDepth 100000 in
theorem ckX8_worked : aCkm cdX8_worked cX8_worked = true := by decide +kernel
set_option maxRecDepth 100000 in
theorem ckX8_isSheet : aCkm cdX8_isSheet cX8_isSheet = true := by decide +kernel
set_option maxRecDepth 100000 in
theorem ckX8_sheet : aCkm cdX8_sheet cX8_sheet = true := by decide +kernel
set_option maxRecDepth 100000 in
theorem ckX8_mark : aCkm cdX8_mark cX8_mark = true := by decide +kernel
set_option maxRecDepth 100000 in
theorem ckX8_pour : aCkm cdX8_pour cX8_pour = true := by decide +kernel
set_option maxRecDepth 100000 in
theorem ckX8_reads : aCkm cdX8_reads cX8_reads = true := by decide +kernel
set_option maxRecDepth 100000 in
theorem ckX8_unlike : aCkm cdX8_unlike cX8_unlike = true := by decide +kernel
set_option maxRecDepth 100000 in
theorem ckX8_like : aCkm cdX8_like cX8_like = true := by decide +kernel
set_option maxRecDepth 100000 in
theorem ckX8_copy : aCkm cdX8_copy cX8_copy = true := by decide +kernel
set_option maxRecDepth 100000 in
theorem ckX8_isSlot : aCkm cdX8_isSlot cX8_isSlot = true := by decide +kernel
set_option maxRecDepth 100000 in
theorem ckX8_lay : aCkm cdX8_lay cX8_lay = true := by decide +kernel
set_option maxRecDepth 100000 in
theorem ckX8_ask : aCkm cdX8_ask cX8_ask = true := by decide +kernel
set_option maxRecDepth 100000 in
theorem ckX8_item : aCkm cdX8_item cX8_item = true := by decide +kernel
set_option maxRecDepth 100000 in
theorem ckX8_rest : aCkm cdX8_rest cX8_rest = true := by decide +kernel
set_option maxRecDepth 100000 in
theorem ckX8_tell : aCkm cdX8_tell cX8_tell = true := by decide +kernel
set_option maxRecDepth 100000 in
theorem ckX8_setAside : aCkm cdX8_setAside cX8_setAside = true := by decide +kernel
set_option maxRecDepth 100000 in
theorem ckX8_check : aCkm cdX8_check cX8_check = true := by decide +kernel
set_option maxRecDepth 100000 in
theorem ckX8_keep : aCkm cdX8_keep cX8_keep = true := by decide +kernel
set_option maxRecDepth 100000 in
theorem ckX8_back : aCkm cdX8_back cX8_back = true := by decide +kernel
set_option maxRecDepth 100000 in
theorem ckX8_count : aCkm cdX8_count cX8_count = true := by decide +kernel
