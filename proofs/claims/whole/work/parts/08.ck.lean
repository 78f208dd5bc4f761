/-! printed by wip/whole/gen_ck.py: each method passes the check -/
theorem jaG_A_feed : jaCk 10 prog_1_method_2_code 6 1 jf_A_feed jp_A_feed jf_A_feed = true := by decide +kernel
theorem jaG_A_putBytes : jaCk 10 prog_1_method_3_code 3 0 jf_A_putBytes jp_A_putBytes jf_A_putBytes = true := by decide +kernel
theorem jaG_A_end : jaCk 10 prog_1_method_4_code 2 3 jf_A_end jp_A_end jf_A_end = true := by decide +kernel
theorem jaG_A_readTape : jaCk 10 prog_1_method_5_code 2 0 jf_A_readTape jp_A_readTape jf_A_readTape = true := by decide +kernel
theorem jaG_A_faultBelow : jaCk 10 prog_1_method_6_code 2 1 jf_A_faultBelow jp_A_faultBelow jf_A_faultBelow = true := by decide +kernel
theorem jaG_A_fault : jaCk 10 prog_1_method_7_code 1 1 jf_A_fault jp_A_fault jf_A_fault = true := by decide +kernel
theorem jaG_A_world : jaCk 10 prog_1_method_8_code 2 1 jf_A_world jp_A_world jf_A_world = true := by decide +kernel
theorem jaG_A_submit : jaCk 10 prog_1_method_9_code 2 1 jf_A_submit jp_A_submit jf_A_submit = true := by decide +kernel
theorem jaG_A_put : jaCk 10 prog_1_method_10_code 4 1 jf_A_put jp_A_put jf_A_put = true := by decide +kernel
theorem jaG_A_check : jaCk 10 prog_1_method_11_code 2 1 jf_A_check jp_A_check jf_A_check = true := by decide +kernel
theorem jaG_A_crash : jaCk 10 prog_1_method_12_code 3 1 jf_A_crash jp_A_crash jf_A_crash = true := by decide +kernel
theorem jaG_A_ticks : jaCk 10 prog_1_method_13_code 4 1 jf_A_ticks jp_A_ticks jf_A_ticks = true := by decide +kernel
theorem jaG_A_drawn : jaCk 10 prog_1_method_14_code 4 1 jf_A_drawn jp_A_drawn jf_A_drawn = true := by decide +kernel
theorem jaG_A_odds : jaCk 10 prog_1_method_15_code 5 1 jf_A_odds jp_A_odds jf_A_odds = true := by decide +kernel
theorem jaG_A_book : jaCk 10 prog_1_method_16_code 5 1 jf_A_book jp_A_book jf_A_book = true := by decide +kernel
theorem jaG_A_told : jaCk 10 prog_1_method_17_code 2 1 jf_A_told jp_A_told jf_A_told = true := by decide +kernel
theorem jaG_A_keepState : jaCk 10 prog_1_method_18_code 1 0 jf_A_keepState jp_A_keepState jf_A_keepState = true := by decide +kernel
theorem jaG_A_forgetKept : jaCk 10 prog_1_method_19_code 1 0 jf_A_forgetKept jp_A_forgetKept jf_A_forgetKept = true := by decide +kernel
theorem jaG_A_undo : jaCk 10 prog_1_method_20_code 1 1 jf_A_undo jp_A_undo jf_A_undo = true := by decide +kernel
theorem jaG_A_image : jaCk 10 prog_1_method_21_code 2 3 jf_A_image jp_A_image jf_A_image = true := by decide +kernel
theorem jaG_A_restore : jaCk 10 prog_1_method_22_code 2 3 jf_A_restore jp_A_restore jf_A_restore = true := by decide +kernel
theorem jaG_A_count : jaCk 10 prog_1_method_23_code 2 1 jf_A_count jp_A_count jf_A_count = true := by decide +kernel
theorem jaG_A_now : jaCk 10 prog_1_method_24_code 3 1 jf_A_now jp_A_now jf_A_now = true := by decide +kernel
theorem jaG_A_isKey : jaCk 10 prog_1_method_25_code 2 3 jf_A_isKey jp_A_isKey jf_A_isKey = true := by decide +kernel
theorem jaG_A_isCopy : jaCk 10 prog_1_method_26_code 2 3 jf_A_isCopy jp_A_isCopy jf_A_isCopy = true := by decide +kernel
theorem jaG_A_isOrdered : jaCk 10 prog_1_method_27_code 2 3 jf_A_isOrdered jp_A_isOrdered jf_A_isOrdered = true := by decide +kernel
theorem jaG_A_trans : jaCk 10 prog_1_method_30_code 3 1 jf_A_trans jp_A_trans jf_A_trans = true := by decide +kernel
theorem jaG_A_arrived : jaCk 10 prog_1_method_31_code 5 1 jf_A_arrived jp_A_arrived jf_A_arrived = true := by decide +kernel
theorem jaG_A_entry : jaCk 10 prog_1_method_32_code 4 1 jf_A_entry jp_A_entry jf_A_entry = true := by decide +kernel
theorem jaG_A_how : jaCk 10 prog_1_method_33_code 3 1 jf_A_how jp_A_how jf_A_how = true := by decide +kernel
theorem jaG_A_foreseen : jaCk 10 prog_1_method_34_code 4 1 jf_A_foreseen jp_A_foreseen jf_A_foreseen = true := by decide +kernel
theorem jaG_A_asks : jaCk 10 prog_1_method_35_code 4 1 jf_A_asks jp_A_asks jf_A_asks = true := by decide +kernel
theorem jaG_A_ready : jaCk 10 prog_1_method_36_code 7 1 jf_A_ready jp_A_ready jf_A_ready = true := by decide +kernel
theorem jaG_A_waits : jaCk 10 prog_1_method_37_code 3 1 jf_A_waits jp_A_waits jf_A_waits = true := by decide +kernel
theorem jaG_A_same : jaCk 10 prog_1_method_39_code 1 1 jf_A_same jp_A_same jf_A_same = true := by decide +kernel
theorem jaG_A_chain : jaCk 10 prog_1_method_40_code 1 1 jf_A_chain jp_A_chain jf_A_chain = true := by decide +kernel
theorem jaG_A_least : jaCk 10 prog_1_method_41_code 1 1 jf_A_least jp_A_least jf_A_least = true := by decide +kernel
theorem jaG_A_over : jaCk 10 prog_1_method_42_code 2 1 jf_A_over jp_A_over jf_A_over = true := by decide +kernel
theorem jaG_A_so : jaCk 10 prog_1_method_43_code 2 1 jf_A_so jp_A_so jf_A_so = true := by decide +kernel
theorem jaG_A_soAt : jaCk 10 prog_1_method_44_code 2 1 jf_A_soAt jp_A_soAt jf_A_soAt = true := by decide +kernel
theorem jaG_A_ask : jaCk 10 prog_1_method_45_code 1 1 jf_A_ask jp_A_ask jf_A_ask = true := by decide +kernel
theorem jaG_A_sentence : jaCk 10 prog_1_method_46_code 2 1 jf_A_sentence jp_A_sentence jf_A_sentence = true := by decide +kernel
theorem jaG_A_said : jaCk 10 prog_1_method_47_code 7 1 jf_A_said jp_A_said jf_A_said = true := by decide +kernel
theorem jaG_M_thrown : jaCk 11 prog_13_method_1_code 1 1 jf_M_thrown jp_M_thrown jf_M_thrown = true := by decide +kernel
theorem jaG_M_throwsIf : jaCk 11 prog_13_method_2_code 2 3 jf_M_throwsIf jp_M_throwsIf jf_M_throwsIf = true := by decide +kernel
theorem jaG_M_feed : jaCk 11 prog_13_method_3_code 6 1 jf_M_feed jp_M_feed jf_M_feed = true := by decide +kernel
theorem jaG_M_four : jaCk 11 prog_13_method_4_code 3 0 jf_M_four jp_M_four jf_M_four = true := by decide +kernel
theorem jaG_M_end : jaCk 11 prog_13_method_5_code 2 3 jf_M_end jp_M_end jf_M_end = true := by decide +kernel
theorem jaG_M_taken : jaCk 11 prog_13_method_6_code 2 0 jf_M_taken jp_M_taken jf_M_taken = true := by decide +kernel
theorem jaG_M_isIn : jaCk 11 prog_13_method_7_code 3 3 jf_M_isIn jp_M_isIn jf_M_isIn = true := by decide +kernel
theorem jaG_M_bitOf : jaCk 11 prog_13_method_8_code 2 3 jf_M_bitOf jp_M_bitOf jf_M_bitOf = true := by decide +kernel
theorem jaG_M_greater : jaCk 11 prog_13_method_9_code 2 1 jf_M_greater jp_M_greater jf_M_greater = true := by decide +kernel
theorem jaG_M_bits : jaCk 11 prog_13_method_10_code 3 1 jf_M_bits jp_M_bits jf_M_bits = true := by decide +kernel
theorem jaG_M_octet : jaCk 11 prog_13_method_11_code 2 1 jf_M_octet jp_M_octet jf_M_octet = true := by decide +kernel
theorem jaG_M_clears : jaCk 11 prog_13_method_13_code 2 0 jf_M_clears jp_M_clears jf_M_clears = true := by decide +kernel
theorem jaG_M_peek : jaCk 11 prog_13_method_14_code 1 1 jf_M_peek jp_M_peek jf_M_peek = true := by decide +kernel
theorem jaG_M_isSmall : jaCk 11 prog_13_method_15_code 1 3 jf_M_isSmall jp_M_isSmall jf_M_isSmall = true := by decide +kernel
theorem jaG_M_isDigit : jaCk 11 prog_13_method_16_code 1 3 jf_M_isDigit jp_M_isDigit jf_M_isDigit = true := by decide +kernel
theorem jaG_M_next : jaCk 11 prog_13_method_17_code 4 0 jf_M_next jp_M_next jf_M_next = true := by decide +kernel
theorem jaG_M_bad : jaCk 11 prog_13_method_18_code 2 3 jf_M_bad jp_M_bad jf_M_bad = true := by decide +kernel
theorem jaG_M_isWord : jaCk 11 prog_13_method_19_code 3 3 jf_M_isWord jp_M_isWord jf_M_isWord = true := by decide +kernel
theorem jaG_M_isSign : jaCk 11 prog_13_method_20_code 2 3 jf_M_isSign jp_M_isSign jf_M_isSign = true := by decide +kernel
theorem jaG_M_sign : jaCk 11 prog_13_method_21_code 2 3 jf_M_sign jp_M_sign jf_M_sign = true := by decide +kernel
theorem jaG_M_isName : jaCk 11 prog_13_method_22_code 3 3 jf_M_isName jp_M_isName jf_M_isName = true := by decide +kernel
theorem jaG_M_takes : jaCk 11 prog_13_method_23_code 3 3 jf_M_takes jp_M_takes jf_M_takes = true := by decide +kernel
theorem jaG_M_puts : jaCk 11 prog_13_method_24_code 4 3 jf_M_puts jp_M_puts jf_M_puts = true := by decide +kernel
theorem jaG_M_seek : jaCk 11 prog_13_method_25_code 4 1 jf_M_seek jp_M_seek jf_M_seek = true := by decide +kernel
theorem jaG_M_fresh : jaCk 11 prog_13_method_26_code 2 3 jf_M_fresh jp_M_fresh jf_M_fresh = true := by decide +kernel
theorem jaG_M_looksAt : jaCk 11 prog_13_method_27_code 3 3 jf_M_looksAt jp_M_looksAt jf_M_looksAt = true := by decide +kernel
theorem jaG_M_takesName : jaCk 11 prog_13_method_28_code 3 3 jf_M_takesName jp_M_takesName jf_M_takesName = true := by decide +kernel
theorem jaG_M_once : jaCk 11 prog_13_method_29_code 2 3 jf_M_once jp_M_once jf_M_once = true := by decide +kernel
theorem jaG_M_readLine : jaCk 11 prog_13_method_30_code 1 3 jf_M_readLine jp_M_readLine jf_M_readLine = true := by decide +kernel
theorem jaG_M_readSite : jaCk 11 prog_13_method_31_code 2 3 jf_M_readSite jp_M_readSite jf_M_readSite = true := by decide +kernel
theorem jaG_M_readKey : jaCk 11 prog_13_method_32_code 2 3 jf_M_readKey jp_M_readKey jf_M_readKey = true := by decide +kernel
theorem jaG_M_readCopy : jaCk 11 prog_13_method_33_code 3 3 jf_M_readCopy jp_M_readCopy jf_M_readCopy = true := by decide +kernel
theorem jaG_M_world : jaCk 11 prog_13_method_34_code 3 1 jf_M_world jp_M_world jf_M_world = true := by decide +kernel
theorem jaG_M_fault : jaCk 11 prog_13_method_35_code 1 1 jf_M_fault jp_M_fault jf_M_fault = true := by decide +kernel
theorem jaG_M_isSite : jaCk 11 prog_13_method_36_code 2 3 jf_M_isSite jp_M_isSite jf_M_isSite = true := by decide +kernel
theorem jaG_M_isKey : jaCk 11 prog_13_method_37_code 2 3 jf_M_isKey jp_M_isKey jf_M_isKey = true := by decide +kernel
theorem jaG_M_isCopy : jaCk 11 prog_13_method_38_code 2 3 jf_M_isCopy jp_M_isCopy jf_M_isCopy = true := by decide +kernel
theorem jaG_M_isTrans : jaCk 11 prog_13_method_39_code 2 3 jf_M_isTrans jp_M_isTrans jf_M_isTrans = true := by decide +kernel
theorem jaG_M_isEntry : jaCk 11 prog_13_method_40_code 2 3 jf_M_isEntry jp_M_isEntry jf_M_isEntry = true := by decide +kernel
theorem jaG_M_takesAt : jaCk 11 prog_13_method_41_code 1 3 jf_M_takesAt jp_M_takesAt jf_M_takesAt = true := by decide +kernel
theorem jaG_M_takesRef : jaCk 11 prog_13_method_42_code 2 3 jf_M_takesRef jp_M_takesRef jf_M_takesRef = true := by decide +kernel
theorem jaG_M_takesTerm : jaCk 11 prog_13_method_43_code 6 3 jf_M_takesTerm jp_M_takesTerm jf_M_takesTerm = true := by decide +kernel
theorem jaG_M_takesStep : jaCk 11 prog_13_method_44_code 6 3 jf_M_takesStep jp_M_takesStep jf_M_takesStep = true := by decide +kernel
theorem jaG_M_submit : jaCk 11 prog_13_method_45_code 4 1 jf_M_submit jp_M_submit jf_M_submit = true := by decide +kernel
theorem jaG_M_atKey : jaCk 11 prog_13_method_46_code 3 1 jf_M_atKey jp_M_atKey jf_M_atKey = true := by decide +kernel
theorem jaG_M_keyBy : jaCk 11 prog_13_method_47_code 4 1 jf_M_keyBy jp_M_keyBy jf_M_keyBy = true := by decide +kernel
theorem jaG_M_comes : jaCk 11 prog_13_method_48_code 11 0 jf_M_comes jp_M_comes jf_M_comes = true := by decide +kernel
theorem jaG_M_idAt : jaCk 11 prog_13_method_49_code 2 1 jf_M_idAt jp_M_idAt jf_M_idAt = true := by decide +kernel
theorem jaG_M_readsOf : jaCk 11 prog_13_method_50_code 2 1 jf_M_readsOf jp_M_readsOf jf_M_readsOf = true := by decide +kernel
theorem jaG_M_writesOf : jaCk 11 prog_13_method_51_code 2 1 jf_M_writesOf jp_M_writesOf jf_M_writesOf = true := by decide +kernel
theorem jaG_M_isWide : jaCk 11 prog_13_method_52_code 2 3 jf_M_isWide jp_M_isWide jf_M_isWide = true := by decide +kernel
theorem jaG_M_isLong : jaCk 11 prog_13_method_53_code 2 3 jf_M_isLong jp_M_isLong jf_M_isLong = true := by decide +kernel
theorem jaG_M_areConflict : jaCk 11 prog_13_method_54_code 3 3 jf_M_areConflict jp_M_areConflict jf_M_areConflict = true := by decide +kernel
theorem jaG_M_howIn : jaCk 11 prog_13_method_55_code 3 1 jf_M_howIn jp_M_howIn jf_M_howIn = true := by decide +kernel
theorem jaG_M_isOver : jaCk 11 prog_13_method_56_code 3 3 jf_M_isOver jp_M_isOver jf_M_isOver = true := by decide +kernel
theorem jaG_M_aheadOf : jaCk 11 prog_13_method_57_code 5 1 jf_M_aheadOf jp_M_aheadOf jf_M_aheadOf = true := by decide +kernel
theorem jaG_M_isReady : jaCk 11 prog_13_method_58_code 3 3 jf_M_isReady jp_M_isReady jf_M_isReady = true := by decide +kernel
theorem jaG_M_valueBy : jaCk 11 prog_13_method_59_code 4 1 jf_M_valueBy jp_M_valueBy jf_M_valueBy = true := by decide +kernel
theorem jaG_M_termBy : jaCk 11 prog_13_method_60_code 6 1 jf_M_termBy jp_M_termBy jf_M_termBy = true := by decide +kernel
theorem jaG_M_goesBy : jaCk 11 prog_13_method_61_code 10 1 jf_M_goesBy jp_M_goesBy jf_M_goesBy = true := by decide +kernel
theorem jaG_M_executes : jaCk 11 prog_13_method_62_code 6 0 jf_M_executes jp_M_executes jf_M_executes = true := by decide +kernel
theorem jaG_M_copyGoes : jaCk 11 prog_13_method_63_code 5 0 jf_M_copyGoes jp_M_copyGoes jf_M_copyGoes = true := by decide +kernel
theorem jaG_M_areOver : jaCk 11 prog_13_method_64_code 5 3 jf_M_areOver jp_M_areOver jf_M_areOver = true := by decide +kernel
theorem jaG_M_savesAll : jaCk 11 prog_13_method_65_code 2 0 jf_M_savesAll jp_M_savesAll jf_M_savesAll = true := by decide +kernel
theorem jaG_M_ceases : jaCk 11 prog_13_method_66_code 2 0 jf_M_ceases jp_M_ceases jf_M_ceases = true := by decide +kernel
theorem jaG_M_checks : jaCk 11 prog_13_method_67_code 1 0 jf_M_checks jp_M_checks jf_M_checks = true := by decide +kernel
theorem jaG_M_takesNext : jaCk 11 prog_13_method_68_code 2 0 jf_M_takesNext jp_M_takesNext jf_M_takesNext = true := by decide +kernel
theorem jaG_M_agrees : jaCk 11 prog_13_method_69_code 5 0 jf_M_agrees jp_M_agrees jf_M_agrees = true := by decide +kernel
theorem jaG_M_tick : jaCk 11 prog_13_method_70_code 2 0 jf_M_tick jp_M_tick jf_M_tick = true := by decide +kernel
theorem jaG_M_goesOn : jaCk 11 prog_13_method_71_code 3 1 jf_M_goesOn jp_M_goesOn jf_M_goesOn = true := by decide +kernel
theorem jaG_M_putsTrans : jaCk 11 prog_13_method_72_code 4 0 jf_M_putsTrans jp_M_putsTrans jf_M_putsTrans = true := by decide +kernel
theorem jaG_M_crashes : jaCk 11 prog_13_method_73_code 3 0 jf_M_crashes jp_M_crashes jf_M_crashes = true := by decide +kernel
theorem jaG_M_put : jaCk 11 prog_13_method_74_code 3 1 jf_M_put jp_M_put jf_M_put = true := by decide +kernel
theorem jaG_M_check : jaCk 11 prog_13_method_75_code 1 1 jf_M_check jp_M_check jf_M_check = true := by decide +kernel
theorem jaG_M_crash : jaCk 11 prog_13_method_76_code 2 1 jf_M_crash jp_M_crash jf_M_crash = true := by decide +kernel
theorem jaG_M_ticks : jaCk 11 prog_13_method_77_code 2 1 jf_M_ticks jp_M_ticks jf_M_ticks = true := by decide +kernel
theorem jaG_M_stores : jaCk 11 prog_13_method_78_code 2 0 jf_M_stores jp_M_stores jf_M_stores = true := by decide +kernel
theorem jaG_M_undo : jaCk 11 prog_13_method_79_code 2 1 jf_M_undo jp_M_undo jf_M_undo = true := by decide +kernel
theorem jaG_M_tries : jaCk 11 prog_13_method_80_code 2 0 jf_M_tries jp_M_tries jf_M_tries = true := by decide +kernel
theorem jaG_M_brings : jaCk 11 prog_13_method_81_code 2 0 jf_M_brings jp_M_brings jf_M_brings = true := by decide +kernel
theorem jaG_M_now : jaCk 11 prog_13_method_82_code 2 1 jf_M_now jp_M_now jf_M_now = true := by decide +kernel
theorem jaG_M_value : jaCk 11 prog_13_method_83_code 3 1 jf_M_value jp_M_value jf_M_value = true := by decide +kernel
theorem jaG_M_key : jaCk 11 prog_13_method_84_code 3 1 jf_M_key jp_M_key jf_M_key = true := by decide +kernel
theorem jaG_M_entriesOf : jaCk 11 prog_13_method_85_code 4 1 jf_M_entriesOf jp_M_entriesOf jf_M_entriesOf = true := by decide +kernel
theorem jaG_M_trans : jaCk 11 prog_13_method_86_code 5 1 jf_M_trans jp_M_trans jf_M_trans = true := by decide +kernel
theorem jaG_M_arrived : jaCk 11 prog_13_method_87_code 5 1 jf_M_arrived jp_M_arrived jf_M_arrived = true := by decide +kernel
theorem jaG_M_entry : jaCk 11 prog_13_method_88_code 5 1 jf_M_entry jp_M_entry jf_M_entry = true := by decide +kernel
theorem jaG_M_how : jaCk 11 prog_13_method_89_code 3 1 jf_M_how jp_M_how jf_M_how = true := by decide +kernel
theorem jaG_M_foreseen : jaCk 11 prog_13_method_90_code 3 1 jf_M_foreseen jp_M_foreseen jf_M_foreseen = true := by decide +kernel
theorem jaG_M_asks : jaCk 11 prog_13_method_91_code 6 1 jf_M_asks jp_M_asks jf_M_asks = true := by decide +kernel
theorem jaG_M_ready : jaCk 11 prog_13_method_92_code 5 1 jf_M_ready jp_M_ready jf_M_ready = true := by decide +kernel
theorem jaG_M_waits : jaCk 11 prog_13_method_93_code 3 1 jf_M_waits jp_M_waits jf_M_waits = true := by decide +kernel
theorem jaG_M_serialFirst : jaCk 11 prog_13_method_94_code 2 0 jf_M_serialFirst jp_M_serialFirst jf_M_serialFirst = true := by decide +kernel
theorem jaG_M_serialNext : jaCk 11 prog_13_method_95_code 3 0 jf_M_serialNext jp_M_serialNext jf_M_serialNext = true := by decide +kernel
theorem jaG_M_serial : jaCk 11 prog_13_method_96_code 3 1 jf_M_serial jp_M_serial jf_M_serial = true := by decide +kernel
theorem jaG_M_areSame : jaCk 11 prog_13_method_97_code 4 3 jf_M_areSame jp_M_areSame jf_M_areSame = true := by decide +kernel
theorem jaG_M_same : jaCk 11 prog_13_method_98_code 1 1 jf_M_same jp_M_same jf_M_same = true := by decide +kernel
theorem jaG_M_lays : jaCk 11 prog_13_method_99_code 6 1 jf_M_lays jp_M_lays jf_M_lays = true := by decide +kernel
theorem jaG_M_chain : jaCk 11 prog_13_method_100_code 1 1 jf_M_chain jp_M_chain jf_M_chain = true := by decide +kernel
theorem jaG_M_least : jaCk 11 prog_13_method_101_code 1 1 jf_M_least jp_M_least jf_M_least = true := by decide +kernel
theorem jaG_M_isAllOver : jaCk 11 prog_13_method_102_code 3 3 jf_M_isAllOver jp_M_isAllOver jf_M_isAllOver = true := by decide +kernel
theorem jaG_M_over : jaCk 11 prog_13_method_103_code 3 1 jf_M_over jp_M_over jf_M_over = true := by decide +kernel
theorem jaG_M_isSo : jaCk 11 prog_13_method_104_code 3 3 jf_M_isSo jp_M_isSo jf_M_isSo = true := by decide +kernel
theorem jaG_M_leftBy : jaCk 11 prog_13_method_105_code 6 1 jf_M_leftBy jp_M_leftBy jf_M_leftBy = true := by decide +kernel
theorem jaG_M_so : jaCk 11 prog_13_method_106_code 3 1 jf_M_so jp_M_so jf_M_so = true := by decide +kernel
theorem jaG_M_soAt : jaCk 11 prog_13_method_107_code 2 1 jf_M_soAt jp_M_soAt jf_M_soAt = true := by decide +kernel
theorem jaG_M_ask : jaCk 11 prog_13_method_108_code 1 1 jf_M_ask jp_M_ask jf_M_ask = true := by decide +kernel
theorem jaG_M_draw : jaCk 11 prog_13_method_109_code 2 1 jf_M_draw jp_M_draw jf_M_draw = true := by decide +kernel
theorem jaG_M_drawDeed : jaCk 11 prog_13_method_110_code 4 0 jf_M_drawDeed jp_M_drawDeed jf_M_drawDeed = true := by decide +kernel
theorem jaG_M_draws : jaCk 11 prog_13_method_111_code 4 1 jf_M_draws jp_M_draws jf_M_draws = true := by decide +kernel
theorem jaG_M_drawn : jaCk 11 prog_13_method_112_code 3 1 jf_M_drawn jp_M_drawn jf_M_drawn = true := by decide +kernel
theorem jaG_M_odds : jaCk 11 prog_13_method_113_code 5 1 jf_M_odds jp_M_odds jf_M_odds = true := by decide +kernel
theorem jaG_M_bookLine : jaCk 11 prog_13_method_114_code 4 3 jf_M_bookLine jp_M_bookLine jf_M_bookLine = true := by decide +kernel
theorem jaG_M_namesOfCopies : jaCk 11 prog_13_method_115_code 1 1 jf_M_namesOfCopies jp_M_namesOfCopies jf_M_namesOfCopies = true := by decide +kernel
theorem jaG_M_does : jaCk 11 prog_13_method_116_code 5 1 jf_M_does jp_M_does jf_M_does = true := by decide +kernel
theorem jaG_M_book : jaCk 11 prog_13_method_117_code 4 1 jf_M_book jp_M_book jf_M_book = true := by decide +kernel
theorem jaG_M_told : jaCk 11 prog_13_method_118_code 2 1 jf_M_told jp_M_told jf_M_told = true := by decide +kernel
theorem jaG_M_code : jaCk 11 prog_13_method_119_code 4 0 jf_M_code jp_M_code jf_M_code = true := by decide +kernel
theorem jaG_M_joins : jaCk 11 prog_13_method_120_code 2 0 jf_M_joins jp_M_joins jf_M_joins = true := by decide +kernel
theorem jaG_M_nots : jaCk 11 prog_13_method_121_code 1 0 jf_M_nots jp_M_nots jf_M_nots = true := by decide +kernel
theorem jaG_M_leafOf : jaCk 11 prog_13_method_122_code 1 1 jf_M_leafOf jp_M_leafOf jf_M_leafOf = true := by decide +kernel
theorem jaG_M_operand : jaCk 11 prog_13_method_123_code 5 3 jf_M_operand jp_M_operand jf_M_operand = true := by decide +kernel
theorem jaG_M_behind : jaCk 11 prog_13_method_124_code 1 3 jf_M_behind jp_M_behind jf_M_behind = true := by decide +kernel
theorem jaG_M_sentence : jaCk 11 prog_13_method_125_code 3 1 jf_M_sentence jp_M_sentence jf_M_sentence = true := by decide +kernel
theorem jaG_M_isLeaf : jaCk 11 prog_13_method_126_code 6 3 jf_M_isLeaf jp_M_isLeaf jf_M_isLeaf = true := by decide +kernel
theorem jaG_M_isSaid : jaCk 11 prog_13_method_127_code 5 3 jf_M_isSaid jp_M_isSaid jf_M_isSaid = true := by decide +kernel
theorem jaG_M_said : jaCk 11 prog_13_method_128_code 4 1 jf_M_said jp_M_said jf_M_said = true := by decide +kernel
theorem jaG_M_image : jaCk 11 prog_13_method_129_code 3 3 jf_M_image jp_M_image jf_M_image = true := by decide +kernel
theorem jaG_M_restore : jaCk 11 prog_13_method_130_code 3 3 jf_M_restore jp_M_restore jf_M_restore = true := by decide +kernel
theorem jaG_M_count : jaCk 11 prog_13_method_131_code 2 1 jf_M_count jp_M_count jf_M_count = true := by decide +kernel
theorem jaG_Bo_read : jaCk 0 prog_2_method_2_code 4 3 jf_Bo_read jp_Bo_read jf_Bo_read = true := by decide +kernel
theorem jaG_Bo_readLine : jaCk 0 prog_2_method_3_code 6 3 jf_Bo_readLine jp_Bo_readLine jf_Bo_readLine = true := by decide +kernel
theorem jaG_Ck_copyFrom : jaCk 1 prog_3_method_2_code 3 0 jf_Ck_copyFrom jp_Ck_copyFrom jf_Ck_copyFrom = true := by decide +kernel
theorem jaG_Ck_start : jaCk 1 prog_3_method_3_code 3 0 jf_Ck_start jp_Ck_start jf_Ck_start = true := by decide +kernel
theorem jaG_Ck_begin : jaCk 1 prog_3_method_4_code 2 0 jf_Ck_begin jp_Ck_begin jf_Ck_begin = true := by decide +kernel
theorem jaG_Ck_hasTwin : jaCk 1 prog_3_method_5_code 2 3 jf_Ck_hasTwin jp_Ck_hasTwin jf_Ck_hasTwin = true := by decide +kernel
theorem jaG_Ck_noteWrite : jaCk 1 prog_3_method_6_code 4 0 jf_Ck_noteWrite jp_Ck_noteWrite jf_Ck_noteWrite = true := by decide +kernel
theorem jaG_Ck_takeNext : jaCk 1 prog_3_method_7_code 2 0 jf_Ck_takeNext jp_Ck_takeNext jf_Ck_takeNext = true := by decide +kernel
theorem jaG_Ck_finish : jaCk 1 prog_3_method_8_code 3 0 jf_Ck_finish jp_Ck_finish jf_Ck_finish = true := by decide +kernel
theorem jaG_Cp_copyFrom : jaCk 2 prog_4_method_2_code 4 0 jf_Cp_copyFrom jp_Cp_copyFrom jf_Cp_copyFrom = true := by decide +kernel
theorem jaG_Cp_isExecuted : jaCk 2 prog_4_method_3_code 2 3 jf_Cp_isExecuted jp_Cp_isExecuted jf_Cp_isExecuted = true := by decide +kernel
theorem jaG_Cp_isExecutedAhead : jaCk 2 prog_4_method_4_code 3 3 jf_Cp_isExecutedAhead jp_Cp_isExecutedAhead jf_Cp_isExecutedAhead = true := by decide +kernel
theorem jaG_En_copyFrom : jaCk 3 prog_5_method_2_code 3 0 jf_En_copyFrom jp_En_copyFrom jf_En_copyFrom = true := by decide +kernel
theorem jaG_En_countOf : jaCk 3 prog_5_method_3_code 4 1 jf_En_countOf jp_En_countOf jf_En_countOf = true := by decide +kernel
theorem jaG_En_lastPlaceOf : jaCk 3 prog_5_method_4_code 3 1 jf_En_lastPlaceOf jp_En_lastPlaceOf jf_En_lastPlaceOf = true := by decide +kernel
theorem jaG_En_conflict : jaCk 3 prog_5_method_5_code 5 3 jf_En_conflict jp_En_conflict jf_En_conflict = true := by decide +kernel
theorem jaG_En_conflictsAhead : jaCk 3 prog_5_method_6_code 4 1 jf_En_conflictsAhead jp_En_conflictsAhead jf_En_conflictsAhead = true := by decide +kernel
theorem jaG_En_longestRow : jaCk 3 prog_5_method_7_code 6 1 jf_En_longestRow jp_En_longestRow jf_En_longestRow = true := by decide +kernel
theorem jaG_Rd_begin : jaCk 4 prog_6_method_2_code 6 0 jf_Rd_begin jp_Rd_begin jf_Rd_begin = true := by decide +kernel
theorem jaG_Rd_addToken : jaCk 4 prog_6_method_3_code 5 0 jf_Rd_addToken jp_Rd_addToken jf_Rd_addToken = true := by decide +kernel
theorem jaG_Rd_readToken : jaCk 4 prog_6_method_4_code 11 1 jf_Rd_readToken jp_Rd_readToken jf_Rd_readToken = true := by decide +kernel
theorem jaG_Rd_isLetter : jaCk 4 prog_6_method_5_code 1 3 jf_Rd_isLetter jp_Rd_isLetter jf_Rd_isLetter = true := by decide +kernel
theorem jaG_Rd_isDigit : jaCk 4 prog_6_method_6_code 1 3 jf_Rd_isDigit jp_Rd_isDigit jf_Rd_isDigit = true := by decide +kernel
theorem jaG_Rd_kindOfWord : jaCk 4 prog_6_method_7_code 7 1 jf_Rd_kindOfWord jp_Rd_kindOfWord jf_Rd_kindOfWord = true := by decide +kernel
theorem jaG_Rd_kind : jaCk 4 prog_6_method_8_code 1 1 jf_Rd_kind jp_Rd_kind jf_Rd_kind = true := by decide +kernel
theorem jaG_Rd_content : jaCk 4 prog_6_method_9_code 1 2 jf_Rd_content jp_Rd_content jf_Rd_content = true := by decide +kernel
theorem jaG_Rd_step : jaCk 4 prog_6_method_10_code 1 0 jf_Rd_step jp_Rd_step jf_Rd_step = true := by decide +kernel
theorem jaG_Rd_fail : jaCk 4 prog_6_method_11_code 2 3 jf_Rd_fail jp_Rd_fail jf_Rd_fail = true := by decide +kernel
theorem jaG_Rd_take : jaCk 4 prog_6_method_12_code 2 3 jf_Rd_take jp_Rd_take jf_Rd_take = true := by decide +kernel
theorem jaG_Rd_takeNumber : jaCk 4 prog_6_method_13_code 5 1 jf_Rd_takeNumber jp_Rd_takeNumber jf_Rd_takeNumber = true := by decide +kernel
theorem jaG_Rd_takeCompare : jaCk 4 prog_6_method_14_code 2 1 jf_Rd_takeCompare jp_Rd_takeCompare jf_Rd_takeCompare = true := by decide +kernel
theorem jaG_Sc_copyFrom : jaCk 5 prog_7_method_2_code 3 0 jf_Sc_copyFrom jp_Sc_copyFrom jf_Sc_copyFrom = true := by decide +kernel
theorem jaG_Sc_copyOne : jaCk 5 prog_7_method_3_code 6 0 jf_Sc_copyOne jp_Sc_copyOne jf_Sc_copyOne = true := by decide +kernel
theorem jaG_Sc_isFull : jaCk 5 prog_7_method_4_code 1 3 jf_Sc_isFull jp_Sc_isFull jf_Sc_isFull = true := by decide +kernel
theorem jaG_Sc_addLike : jaCk 5 prog_7_method_5_code 3 1 jf_Sc_addLike jp_Sc_addLike jf_Sc_addLike = true := by decide +kernel
theorem jaG_Sc_read : jaCk 5 prog_7_method_6_code 5 3 jf_Sc_read jp_Sc_read jf_Sc_read = true := by decide +kernel
theorem jaG_Sc_readStep : jaCk 5 prog_7_method_7_code 5 3 jf_Sc_readStep jp_Sc_readStep jf_Sc_readStep = true := by decide +kernel
theorem jaG_Sc_readNeed : jaCk 5 prog_7_method_8_code 7 3 jf_Sc_readNeed jp_Sc_readNeed jf_Sc_readNeed = true := by decide +kernel
theorem jaG_Sc_readGives : jaCk 5 prog_7_method_9_code 8 3 jf_Sc_readGives jp_Sc_readGives jf_Sc_readGives = true := by decide +kernel
theorem jaG_Sc_readTerm : jaCk 5 prog_7_method_10_code 3 1 jf_Sc_readTerm jp_Sc_readTerm jf_Sc_readTerm = true := by decide +kernel
theorem jaG_Sc_readRef : jaCk 5 prog_7_method_11_code 5 1 jf_Sc_readRef jp_Sc_readRef jf_Sc_readRef = true := by decide +kernel
theorem jaG_Sc_failOneMore : jaCk 5 prog_7_method_12_code 4 3 jf_Sc_failOneMore jp_Sc_failOneMore jf_Sc_failOneMore = true := by decide +kernel
theorem jaG_Sc_keyOf : jaCk 5 prog_7_method_13_code 5 1 jf_Sc_keyOf jp_Sc_keyOf jf_Sc_keyOf = true := by decide +kernel
theorem jaG_Sc_writesOf : jaCk 5 prog_7_method_14_code 8 1 jf_Sc_writesOf jp_Sc_writesOf jf_Sc_writesOf = true := by decide +kernel
theorem jaG_Sc_readsOf : jaCk 5 prog_7_method_15_code 9 1 jf_Sc_readsOf jp_Sc_readsOf jf_Sc_readsOf = true := by decide +kernel
theorem jaG_Sc_keyAt : jaCk 5 prog_7_method_16_code 5 1 jf_Sc_keyAt jp_Sc_keyAt jf_Sc_keyAt = true := by decide +kernel
theorem jaG_Sc_run : jaCk 5 prog_7_method_17_code 8 1 jf_Sc_run jp_Sc_run jf_Sc_run = true := by decide +kernel
theorem jaG_Sc_runStep : jaCk 5 prog_7_method_18_code 11 3 jf_Sc_runStep jp_Sc_runStep jf_Sc_runStep = true := by decide +kernel
theorem jaG_Se_find : jaCk 6 prog_8_method_2_code 5 1 jf_Se_find jp_Se_find jf_Se_find = true := by decide +kernel
theorem jaG_Se_isTold : jaCk 6 prog_8_method_3_code 4 3 jf_Se_isTold jp_Se_isTold jf_Se_isTold = true := by decide +kernel
theorem jaG_Se_noteIfSo : jaCk 6 prog_8_method_4_code 5 0 jf_Se_noteIfSo jp_Se_noteIfSo jf_Se_noteIfSo = true := by decide +kernel
theorem jaG_Se_chooseKey : jaCk 6 prog_8_method_5_code 7 1 jf_Se_chooseKey jp_Se_chooseKey jf_Se_chooseKey = true := by decide +kernel
theorem jaG_Se_countLike : jaCk 6 prog_8_method_6_code 5 1 jf_Se_countLike jp_Se_countLike jf_Se_countLike = true := by decide +kernel
theorem jaG_Sn_forget : jaCk 7 prog_9_method_2_code 1 0 jf_Sn_forget jp_Sn_forget jf_Sn_forget = true := by decide +kernel
theorem jaG_Sn_copyFrom : jaCk 7 prog_9_method_3_code 3 0 jf_Sn_copyFrom jp_Sn_copyFrom jf_Sn_copyFrom = true := by decide +kernel
theorem jaG_Sn_read : jaCk 7 prog_9_method_4_code 3 3 jf_Sn_read jp_Sn_read jf_Sn_read = true := by decide +kernel
theorem jaG_Sn_add : jaCk 7 prog_9_method_5_code 4 3 jf_Sn_add jp_Sn_add jf_Sn_add = true := by decide +kernel
theorem jaG_Sn_readCond : jaCk 7 prog_9_method_6_code 5 3 jf_Sn_readCond jp_Sn_readCond jf_Sn_readCond = true := by decide +kernel
theorem jaG_Sn_readAll : jaCk 7 prog_9_method_7_code 5 3 jf_Sn_readAll jp_Sn_readAll jf_Sn_readAll = true := by decide +kernel
theorem jaG_Sn_readOne : jaCk 7 prog_9_method_8_code 5 3 jf_Sn_readOne jp_Sn_readOne jf_Sn_readOne = true := by decide +kernel
theorem jaG_Sn_readCompared : jaCk 7 prog_9_method_9_code 4 3 jf_Sn_readCompared jp_Sn_readCompared jf_Sn_readCompared = true := by decide +kernel
theorem jaG_Sn_holds : jaCk 7 prog_9_method_10_code 9 3 jf_Sn_holds jp_Sn_holds jf_Sn_holds = true := by decide +kernel
theorem jaG_Sn_isSo : jaCk 7 prog_9_method_11_code 7 3 jf_Sn_isSo jp_Sn_isSo jf_Sn_isSo = true := by decide +kernel
theorem jaG_Sn_compares : jaCk 7 prog_9_method_12_code 3 3 jf_Sn_compares jp_Sn_compares jf_Sn_compares = true := by decide +kernel
theorem jaG_St_copyFrom : jaCk 8 prog_10_method_2_code 3 0 jf_St_copyFrom jp_St_copyFrom jf_St_copyFrom = true := by decide +kernel
theorem jaG_St_start : jaCk 8 prog_10_method_3_code 4 0 jf_St_start jp_St_start jf_St_start = true := by decide +kernel
theorem jaG_St_arriveNew : jaCk 8 prog_10_method_4_code 2 1 jf_St_arriveNew jp_St_arriveNew jf_St_arriveNew = true := by decide +kernel
theorem jaG_St_arriveEntry : jaCk 8 prog_10_method_5_code 6 0 jf_St_arriveEntry jp_St_arriveEntry jf_St_arriveEntry = true := by decide +kernel
theorem jaG_St_siteOf : jaCk 8 prog_10_method_6_code 2 1 jf_St_siteOf jp_St_siteOf jf_St_siteOf = true := by decide +kernel
theorem jaG_St_isArrivedAt : jaCk 8 prog_10_method_7_code 3 3 jf_St_isArrivedAt jp_St_isArrivedAt jf_St_isArrivedAt = true := by decide +kernel
theorem jaG_St_endEpoch : jaCk 8 prog_10_method_8_code 3 0 jf_St_endEpoch jp_St_endEpoch jf_St_endEpoch = true := by decide +kernel
theorem jaG_St_orderEntry : jaCk 8 prog_10_method_9_code 4 0 jf_St_orderEntry jp_St_orderEntry jf_St_orderEntry = true := by decide +kernel
theorem jaG_St_readyPlaces : jaCk 8 prog_10_method_10_code 9 2 jf_St_readyPlaces jp_St_readyPlaces jf_St_readyPlaces = true := by decide +kernel
theorem jaG_St_whoAsks : jaCk 8 prog_10_method_11_code 9 1 jf_St_whoAsks jp_St_whoAsks jf_St_whoAsks = true := by decide +kernel
theorem jaG_St_countAwaited : jaCk 8 prog_10_method_12_code 5 1 jf_St_countAwaited jp_St_countAwaited jf_St_countAwaited = true := by decide +kernel
theorem jaG_St_ticksLeft : jaCk 8 prog_10_method_13_code 1 1 jf_St_ticksLeft jp_St_ticksLeft jf_St_ticksLeft = true := by decide +kernel
theorem jaG_St_passTick : jaCk 8 prog_10_method_14_code 2 0 jf_St_passTick jp_St_passTick jf_St_passTick = true := by decide +kernel
theorem jaG_St_passGoing : jaCk 8 prog_10_method_15_code 3 0 jf_St_passGoing jp_St_passGoing jf_St_passGoing = true := by decide +kernel
theorem jaG_St_takeReady : jaCk 8 prog_10_method_16_code 7 0 jf_St_takeReady jp_St_takeReady jf_St_takeReady = true := by decide +kernel
theorem jaG_St_execute : jaCk 8 prog_10_method_17_code 7 0 jf_St_execute jp_St_execute jf_St_execute = true := by decide +kernel
theorem jaG_St_writeGiven : jaCk 8 prog_10_method_18_code 5 0 jf_St_writeGiven jp_St_writeGiven jf_St_writeGiven = true := by decide +kernel
theorem jaG_St_takeCheckKey : jaCk 8 prog_10_method_19_code 1 0 jf_St_takeCheckKey jp_St_takeCheckKey jf_St_takeCheckKey = true := by decide +kernel
theorem jaG_St_whyNotPut : jaCk 8 prog_10_method_20_code 2 1 jf_St_whyNotPut jp_St_whyNotPut jf_St_whyNotPut = true := by decide +kernel
theorem jaG_St_putTrans : jaCk 8 prog_10_method_21_code 4 0 jf_St_putTrans jp_St_putTrans jf_St_putTrans = true := by decide +kernel
theorem jaG_St_whyNotCheck : jaCk 8 prog_10_method_22_code 1 1 jf_St_whyNotCheck jp_St_whyNotCheck jf_St_whyNotCheck = true := by decide +kernel
theorem jaG_St_beginCheck : jaCk 8 prog_10_method_23_code 1 0 jf_St_beginCheck jp_St_beginCheck jf_St_beginCheck = true := by decide +kernel
theorem jaG_St_whyNotCrash : jaCk 8 prog_10_method_24_code 1 1 jf_St_whyNotCrash jp_St_whyNotCrash jf_St_whyNotCrash = true := by decide +kernel
theorem jaG_St_crashCopy : jaCk 8 prog_10_method_25_code 4 0 jf_St_crashCopy jp_St_crashCopy jf_St_crashCopy = true := by decide +kernel
theorem jaG_St_live : jaCk 8 prog_10_method_26_code 6 1 jf_St_live jp_St_live jf_St_live = true := by decide +kernel
theorem jaG_St_drawTicks : jaCk 8 prog_10_method_27_code 4 0 jf_St_drawTicks jp_St_drawTicks jf_St_drawTicks = true := by decide +kernel
theorem jaG_St_drawOf : jaCk 8 prog_10_method_28_code 2 1 jf_St_drawOf jp_St_drawOf jf_St_drawOf = true := by decide +kernel
theorem jaG_St_drawAct : jaCk 8 prog_10_method_29_code 4 0 jf_St_drawAct jp_St_drawAct jf_St_drawAct = true := by decide +kernel
theorem jaG_St_isAllExecuted : jaCk 8 prog_10_method_30_code 2 3 jf_St_isAllExecuted jp_St_isAllExecuted jf_St_isAllExecuted = true := by decide +kernel
theorem jaG_St_isOver : jaCk 8 prog_10_method_31_code 1 3 jf_St_isOver jp_St_isOver jf_St_isOver = true := by decide +kernel
theorem jaG_St_isSame : jaCk 8 prog_10_method_32_code 3 3 jf_St_isSame jp_St_isSame jf_St_isSame = true := by decide +kernel
theorem jaG_St_beginSerially : jaCk 8 prog_10_method_33_code 3 0 jf_St_beginSerially jp_St_beginSerially jf_St_beginSerially = true := by decide +kernel
theorem jaG_St_runSerially : jaCk 8 prog_10_method_34_code 6 0 jf_St_runSerially jp_St_runSerially jf_St_runSerially = true := by decide +kernel
theorem jaG_St_valueSerially : jaCk 8 prog_10_method_35_code 3 1 jf_St_valueSerially jp_St_valueSerially jf_St_valueSerially = true := by decide +kernel
theorem jaG_Wo_copyFrom : jaCk 9 prog_11_method_2_code 3 0 jf_Wo_copyFrom jp_Wo_copyFrom jf_Wo_copyFrom = true := by decide +kernel
theorem jaG_Wo_read : jaCk 9 prog_11_method_3_code 4 1 jf_Wo_read jp_Wo_read jf_Wo_read = true := by decide +kernel
theorem jaG_Wo_addUntold : jaCk 9 prog_11_method_4_code 1 0 jf_Wo_addUntold jp_Wo_addUntold jf_Wo_addUntold = true := by decide +kernel
theorem jaG_Wo_readLine : jaCk 9 prog_11_method_5_code 2 3 jf_Wo_readLine jp_Wo_readLine jf_Wo_readLine = true := by decide +kernel
theorem jaG_Wo_readSite : jaCk 9 prog_11_method_6_code 2 3 jf_Wo_readSite jp_Wo_readSite jf_Wo_readSite = true := by decide +kernel
theorem jaG_Wo_readKey : jaCk 9 prog_11_method_7_code 4 3 jf_Wo_readKey jp_Wo_readKey jf_Wo_readKey = true := by decide +kernel
theorem jaG_Wo_readCopy : jaCk 9 prog_11_method_8_code 4 3 jf_Wo_readCopy jp_Wo_readCopy jf_Wo_readCopy = true := by decide +kernel
theorem jaG_Wo_readEpoch : jaCk 9 prog_11_method_9_code 2 3 jf_Wo_readEpoch jp_Wo_readEpoch jf_Wo_readEpoch = true := by decide +kernel
theorem jaG_Wo_readLink : jaCk 9 prog_11_method_10_code 2 3 jf_Wo_readLink jp_Wo_readLink jf_Wo_readLink = true := by decide +kernel
theorem jaG_Wo_takeNewName : jaCk 9 prog_11_method_11_code 3 3 jf_Wo_takeNewName jp_Wo_takeNewName jf_Wo_takeNewName = true := by decide +kernel
theorem jaG_Wo_slotOf : jaCk 9 prog_11_method_12_code 6 1 jf_Wo_slotOf jp_Wo_slotOf jf_Wo_slotOf = true := by decide +kernel
theorem jaG_Wo_takeNamed : jaCk 9 prog_11_method_13_code 5 1 jf_Wo_takeNamed jp_Wo_takeNamed jf_Wo_takeNamed = true := by decide +kernel
theorem jaG_Wo_isKeyNext : jaCk 9 prog_11_method_14_code 2 3 jf_Wo_isKeyNext jp_Wo_isKeyNext jf_Wo_isKeyNext = true := by decide +kernel
theorem jaG_Wo_isWide : jaCk 9 prog_11_method_15_code 4 3 jf_Wo_isWide jp_Wo_isWide jf_Wo_isWide = true := by decide +kernel
theorem jaG_JM_floorMod : jaCk 15 prog_19_method_50_code 3 1 jf_JM_floorMod jp_JM_floorMod jf_JM_floorMod = true := by decide +kernel
theorem jaG_JM_max : jaCk 15 prog_19_method_65_code 2 1 jf_JM_max jp_JM_max jf_JM_max = true := by decide +kernel
theorem jaG_JM_min : jaCk 15 prog_19_method_69_code 2 1 jf_JM_min jp_JM_min jf_JM_min = true := by decide +kernel
theorem jaG_JS_charAtW : jaCk 13 prog_21_method_56_code 2 4 jf_JS_charAtW jp_JS_charAtW jf_JS_charAtW = true := by decide +kernel
theorem jaG_JS_checkIndex : jaCk 13 prog_21_method_155_code 2 0 jf_JS_checkIndex jp_JS_checkIndex jf_JS_checkIndex = true := by decide +kernel
theorem jaG_JS_coderS : jaCk 13 prog_21_method_152_code 1 5 jf_JS_coderS jp_JS_coderS jf_JS_coderS = true := by decide +kernel
theorem jaG_JS_coderW : jaCk 13 prog_21_method_152_code 1 5 jf_JS_coderW jp_JS_coderW jf_JS_coderW = true := by decide +kernel
theorem jaG_JS_indexOfS : jaCk 13 prog_21_method_79_code 2 1 jf_JS_indexOfS jp_JS_indexOfS jf_JS_indexOfS = true := by decide +kernel
theorem jaG_JS_indexOf2S : jaCk 13 prog_21_method_80_code 3 1 jf_JS_indexOf2S jp_JS_indexOf2S jf_JS_indexOf2S = true := by decide +kernel
theorem jaG_JS_isLatin1S : jaCk 13 prog_21_method_154_code 1 3 jf_JS_isLatin1S jp_JS_isLatin1S jf_JS_isLatin1S = true := by decide +kernel
theorem jaG_JS_isLatin1W : jaCk 13 prog_21_method_154_code 1 3 jf_JS_isLatin1W jp_JS_isLatin1W jf_JS_isLatin1W = true := by decide +kernel
theorem jaG_JS_lengthS : jaCk 13 prog_21_method_54_code 1 1 jf_JS_lengthS jp_JS_lengthS jf_JS_lengthS = true := by decide +kernel
theorem jaG_JS_lengthW : jaCk 13 prog_21_method_54_code 1 1 jf_JS_lengthW jp_JS_lengthW jf_JS_lengthW = true := by decide +kernel
theorem jaG_JL_canEncode : jaCk 14 prog_22_method_4_code 1 3 jf_JL_canEncode jp_JL_canEncode jf_JL_canEncode = true := by decide +kernel
theorem jaG_JL_charAt : jaCk 14 prog_22_method_2_code 2 4 jf_JL_charAt jp_JL_charAt jf_JL_charAt = true := by decide +kernel
theorem jaG_JL_indexOf : jaCk 14 prog_22_method_22_code 4 1 jf_JL_indexOf jp_JL_indexOf jf_JL_indexOf = true := by decide +kernel
theorem jaG_JL_indexOfChar : jaCk 14 prog_22_method_23_code 6 1 jf_JL_indexOfChar jp_JL_indexOfChar jf_JL_indexOfChar = true := by decide +kernel
theorem jaG_JP_checkIndex : jaCk 16 prog_28_method_11_code 3 1 jf_JP_checkIndex jp_JP_checkIndex jf_JP_checkIndex = true := by decide +kernel
/-- each method by its number: its code, its place in the tables -/
def jaRt (y : Nat) : Nat := match (jaY y).2.2.2.1 with
  | none => 0
  | some .int => 1
  | some .long => 2
  | some .boolean => 3
  | some .char => 4
  | some .byte => 5
  | _ => 9
def jaMy (y : Nat) : jaM := jaN ([], [], 0) jaMt y
theorem jaG_all : ∀ y, y < 303 → jaCk (jaY y).2.2.2.2.2 (jaY y).2.1 (jaY y).2.2.1 (jaRt y) (jaMy y).1 (jaMy y).2.1 (jaMy y).1 = true ∧ (jaMy y).2.2 = (jaY y).2.2.1 ∧ jaN 0 (jaMy y).2.1 0 = 0 := by
  intro y hy
  match y, hy with
  | 0, _ => exact ⟨jaG_A_feed, rfl, rfl⟩
  | 1, _ => exact ⟨jaG_A_putBytes, rfl, rfl⟩
  | 2, _ => exact ⟨jaG_A_end, rfl, rfl⟩
  | 3, _ => exact ⟨jaG_A_readTape, rfl, rfl⟩
  | 4, _ => exact ⟨jaG_A_faultBelow, rfl, rfl⟩
  | 5, _ => exact ⟨jaG_A_fault, rfl, rfl⟩
  | 6, _ => exact ⟨jaG_A_world, rfl, rfl⟩
  | 7, _ => exact ⟨jaG_A_submit, rfl, rfl⟩
  | 8, _ => exact ⟨jaG_A_put, rfl, rfl⟩
  | 9, _ => exact ⟨jaG_A_check, rfl, rfl⟩
  | 10, _ => exact ⟨jaG_A_crash, rfl, rfl⟩
  | 11, _ => exact ⟨jaG_A_ticks, rfl, rfl⟩
  | 12, _ => exact ⟨jaG_A_drawn, rfl, rfl⟩
  | 13, _ => exact ⟨jaG_A_odds, rfl, rfl⟩
  | 14, _ => exact ⟨jaG_A_book, rfl, rfl⟩
  | 15, _ => exact ⟨jaG_A_told, rfl, rfl⟩
  | 16, _ => exact ⟨jaG_A_keepState, rfl, rfl⟩
  | 17, _ => exact ⟨jaG_A_forgetKept, rfl, rfl⟩
  | 18, _ => exact ⟨jaG_A_undo, rfl, rfl⟩
  | 19, _ => exact ⟨jaG_A_image, rfl, rfl⟩
  | 20, _ => exact ⟨jaG_A_restore, rfl, rfl⟩
  | 21, _ => exact ⟨jaG_A_count, rfl, rfl⟩
  | 22, _ => exact ⟨jaG_A_now, rfl, rfl⟩
  | 23, _ => exact ⟨jaG_A_isKey, rfl, rfl⟩
  | 24, _ => exact ⟨jaG_A_isCopy, rfl, rfl⟩
  | 25, _ => exact ⟨jaG_A_isOrdered, rfl, rfl⟩
  | 26, _ => exact ⟨jaG_A_trans, rfl, rfl⟩
  | 27, _ => exact ⟨jaG_A_arrived, rfl, rfl⟩
  | 28, _ => exact ⟨jaG_A_entry, rfl, rfl⟩
  | 29, _ => exact ⟨jaG_A_how, rfl, rfl⟩
  | 30, _ => exact ⟨jaG_A_foreseen, rfl, rfl⟩
  | 31, _ => exact ⟨jaG_A_asks, rfl, rfl⟩
  | 32, _ => exact ⟨jaG_A_ready, rfl, rfl⟩
  | 33, _ => exact ⟨jaG_A_waits, rfl, rfl⟩
  | 34, _ => exact ⟨jaG_A_same, rfl, rfl⟩
  | 35, _ => exact ⟨jaG_A_chain, rfl, rfl⟩
  | 36, _ => exact ⟨jaG_A_least, rfl, rfl⟩
  | 37, _ => exact ⟨jaG_A_over, rfl, rfl⟩
  | 38, _ => exact ⟨jaG_A_so, rfl, rfl⟩
  | 39, _ => exact ⟨jaG_A_soAt, rfl, rfl⟩
  | 40, _ => exact ⟨jaG_A_ask, rfl, rfl⟩
  | 41, _ => exact ⟨jaG_A_sentence, rfl, rfl⟩
  | 42, _ => exact ⟨jaG_A_said, rfl, rfl⟩
  | 43, _ => exact ⟨jaG_M_thrown, rfl, rfl⟩
  | 44, _ => exact ⟨jaG_M_throwsIf, rfl, rfl⟩
  | 45, _ => exact ⟨jaG_M_feed, rfl, rfl⟩
  | 46, _ => exact ⟨jaG_M_four, rfl, rfl⟩
  | 47, _ => exact ⟨jaG_M_end, rfl, rfl⟩
  | 48, _ => exact ⟨jaG_M_taken, rfl, rfl⟩
  | 49, _ => exact ⟨jaG_M_isIn, rfl, rfl⟩
  | 50, _ => exact ⟨jaG_M_bitOf, rfl, rfl⟩
  | 51, _ => exact ⟨jaG_M_greater, rfl, rfl⟩
  | 52, _ => exact ⟨jaG_M_bits, rfl, rfl⟩
  | 53, _ => exact ⟨jaG_M_octet, rfl, rfl⟩
  | 54, _ => exact ⟨jaG_M_clears, rfl, rfl⟩
  | 55, _ => exact ⟨jaG_M_peek, rfl, rfl⟩
  | 56, _ => exact ⟨jaG_M_isSmall, rfl, rfl⟩
  | 57, _ => exact ⟨jaG_M_isDigit, rfl, rfl⟩
  | 58, _ => exact ⟨jaG_M_next, rfl, rfl⟩
  | 59, _ => exact ⟨jaG_M_bad, rfl, rfl⟩
  | 60, _ => exact ⟨jaG_M_isWord, rfl, rfl⟩
  | 61, _ => exact ⟨jaG_M_isSign, rfl, rfl⟩
  | 62, _ => exact ⟨jaG_M_sign, rfl, rfl⟩
  | 63, _ => exact ⟨jaG_M_isName, rfl, rfl⟩
  | 64, _ => exact ⟨jaG_M_takes, rfl, rfl⟩
  | 65, _ => exact ⟨jaG_M_puts, rfl, rfl⟩
  | 66, _ => exact ⟨jaG_M_seek, rfl, rfl⟩
  | 67, _ => exact ⟨jaG_M_fresh, rfl, rfl⟩
  | 68, _ => exact ⟨jaG_M_looksAt, rfl, rfl⟩
  | 69, _ => exact ⟨jaG_M_takesName, rfl, rfl⟩
  | 70, _ => exact ⟨jaG_M_once, rfl, rfl⟩
  | 71, _ => exact ⟨jaG_M_readLine, rfl, rfl⟩
  | 72, _ => exact ⟨jaG_M_readSite, rfl, rfl⟩
  | 73, _ => exact ⟨jaG_M_readKey, rfl, rfl⟩
  | 74, _ => exact ⟨jaG_M_readCopy, rfl, rfl⟩
  | 75, _ => exact ⟨jaG_M_world, rfl, rfl⟩
  | 76, _ => exact ⟨jaG_M_fault, rfl, rfl⟩
  | 77, _ => exact ⟨jaG_M_isSite, rfl, rfl⟩
  | 78, _ => exact ⟨jaG_M_isKey, rfl, rfl⟩
  | 79, _ => exact ⟨jaG_M_isCopy, rfl, rfl⟩
  | 80, _ => exact ⟨jaG_M_isTrans, rfl, rfl⟩
  | 81, _ => exact ⟨jaG_M_isEntry, rfl, rfl⟩
  | 82, _ => exact ⟨jaG_M_takesAt, rfl, rfl⟩
  | 83, _ => exact ⟨jaG_M_takesRef, rfl, rfl⟩
  | 84, _ => exact ⟨jaG_M_takesTerm, rfl, rfl⟩
  | 85, _ => exact ⟨jaG_M_takesStep, rfl, rfl⟩
  | 86, _ => exact ⟨jaG_M_submit, rfl, rfl⟩
  | 87, _ => exact ⟨jaG_M_atKey, rfl, rfl⟩
  | 88, _ => exact ⟨jaG_M_keyBy, rfl, rfl⟩
  | 89, _ => exact ⟨jaG_M_comes, rfl, rfl⟩
  | 90, _ => exact ⟨jaG_M_idAt, rfl, rfl⟩
  | 91, _ => exact ⟨jaG_M_readsOf, rfl, rfl⟩
  | 92, _ => exact ⟨jaG_M_writesOf, rfl, rfl⟩
  | 93, _ => exact ⟨jaG_M_isWide, rfl, rfl⟩
  | 94, _ => exact ⟨jaG_M_isLong, rfl, rfl⟩
  | 95, _ => exact ⟨jaG_M_areConflict, rfl, rfl⟩
  | 96, _ => exact ⟨jaG_M_howIn, rfl, rfl⟩
  | 97, _ => exact ⟨jaG_M_isOver, rfl, rfl⟩
  | 98, _ => exact ⟨jaG_M_aheadOf, rfl, rfl⟩
  | 99, _ => exact ⟨jaG_M_isReady, rfl, rfl⟩
  | 100, _ => exact ⟨jaG_M_valueBy, rfl, rfl⟩
  | 101, _ => exact ⟨jaG_M_termBy, rfl, rfl⟩
  | 102, _ => exact ⟨jaG_M_goesBy, rfl, rfl⟩
  | 103, _ => exact ⟨jaG_M_executes, rfl, rfl⟩
  | 104, _ => exact ⟨jaG_M_copyGoes, rfl, rfl⟩
  | 105, _ => exact ⟨jaG_M_areOver, rfl, rfl⟩
  | 106, _ => exact ⟨jaG_M_savesAll, rfl, rfl⟩
  | 107, _ => exact ⟨jaG_M_ceases, rfl, rfl⟩
  | 108, _ => exact ⟨jaG_M_checks, rfl, rfl⟩
  | 109, _ => exact ⟨jaG_M_takesNext, rfl, rfl⟩
  | 110, _ => exact ⟨jaG_M_agrees, rfl, rfl⟩
  | 111, _ => exact ⟨jaG_M_tick, rfl, rfl⟩
  | 112, _ => exact ⟨jaG_M_goesOn, rfl, rfl⟩
  | 113, _ => exact ⟨jaG_M_putsTrans, rfl, rfl⟩
  | 114, _ => exact ⟨jaG_M_crashes, rfl, rfl⟩
  | 115, _ => exact ⟨jaG_M_put, rfl, rfl⟩
  | 116, _ => exact ⟨jaG_M_check, rfl, rfl⟩
  | 117, _ => exact ⟨jaG_M_crash, rfl, rfl⟩
  | 118, _ => exact ⟨jaG_M_ticks, rfl, rfl⟩
  | 119, _ => exact ⟨jaG_M_stores, rfl, rfl⟩
  | 120, _ => exact ⟨jaG_M_undo, rfl, rfl⟩
  | 121, _ => exact ⟨jaG_M_tries, rfl, rfl⟩
  | 122, _ => exact ⟨jaG_M_brings, rfl, rfl⟩
  | 123, _ => exact ⟨jaG_M_now, rfl, rfl⟩
  | 124, _ => exact ⟨jaG_M_value, rfl, rfl⟩
  | 125, _ => exact ⟨jaG_M_key, rfl, rfl⟩
  | 126, _ => exact ⟨jaG_M_entriesOf, rfl, rfl⟩
  | 127, _ => exact ⟨jaG_M_trans, rfl, rfl⟩
  | 128, _ => exact ⟨jaG_M_arrived, rfl, rfl⟩
  | 129, _ => exact ⟨jaG_M_entry, rfl, rfl⟩
  | 130, _ => exact ⟨jaG_M_how, rfl, rfl⟩
  | 131, _ => exact ⟨jaG_M_foreseen, rfl, rfl⟩
  | 132, _ => exact ⟨jaG_M_asks, rfl, rfl⟩
  | 133, _ => exact ⟨jaG_M_ready, rfl, rfl⟩
  | 134, _ => exact ⟨jaG_M_waits, rfl, rfl⟩
  | 135, _ => exact ⟨jaG_M_serialFirst, rfl, rfl⟩
  | 136, _ => exact ⟨jaG_M_serialNext, rfl, rfl⟩
  | 137, _ => exact ⟨jaG_M_serial, rfl, rfl⟩
  | 138, _ => exact ⟨jaG_M_areSame, rfl, rfl⟩
  | 139, _ => exact ⟨jaG_M_same, rfl, rfl⟩
  | 140, _ => exact ⟨jaG_M_lays, rfl, rfl⟩
  | 141, _ => exact ⟨jaG_M_chain, rfl, rfl⟩
  | 142, _ => exact ⟨jaG_M_least, rfl, rfl⟩
  | 143, _ => exact ⟨jaG_M_isAllOver, rfl, rfl⟩
  | 144, _ => exact ⟨jaG_M_over, rfl, rfl⟩
  | 145, _ => exact ⟨jaG_M_isSo, rfl, rfl⟩
  | 146, _ => exact ⟨jaG_M_leftBy, rfl, rfl⟩
  | 147, _ => exact ⟨jaG_M_so, rfl, rfl⟩
  | 148, _ => exact ⟨jaG_M_soAt, rfl, rfl⟩
  | 149, _ => exact ⟨jaG_M_ask, rfl, rfl⟩
  | 150, _ => exact ⟨jaG_M_draw, rfl, rfl⟩
  | 151, _ => exact ⟨jaG_M_drawDeed, rfl, rfl⟩
  | 152, _ => exact ⟨jaG_M_draws, rfl, rfl⟩
  | 153, _ => exact ⟨jaG_M_drawn, rfl, rfl⟩
  | 154, _ => exact ⟨jaG_M_odds, rfl, rfl⟩
  | 155, _ => exact ⟨jaG_M_bookLine, rfl, rfl⟩
  | 156, _ => exact ⟨jaG_M_namesOfCopies, rfl, rfl⟩
  | 157, _ => exact ⟨jaG_M_does, rfl, rfl⟩
  | 158, _ => exact ⟨jaG_M_book, rfl, rfl⟩
  | 159, _ => exact ⟨jaG_M_told, rfl, rfl⟩
  | 160, _ => exact ⟨jaG_M_code, rfl, rfl⟩
  | 161, _ => exact ⟨jaG_M_joins, rfl, rfl⟩
  | 162, _ => exact ⟨jaG_M_nots, rfl, rfl⟩
  | 163, _ => exact ⟨jaG_M_leafOf, rfl, rfl⟩
  | 164, _ => exact ⟨jaG_M_operand, rfl, rfl⟩
  | 165, _ => exact ⟨jaG_M_behind, rfl, rfl⟩
  | 166, _ => exact ⟨jaG_M_sentence, rfl, rfl⟩
  | 167, _ => exact ⟨jaG_M_isLeaf, rfl, rfl⟩
  | 168, _ => exact ⟨jaG_M_isSaid, rfl, rfl⟩
  | 169, _ => exact ⟨jaG_M_said, rfl, rfl⟩
  | 170, _ => exact ⟨jaG_M_image, rfl, rfl⟩
  | 171, _ => exact ⟨jaG_M_restore, rfl, rfl⟩
  | 172, _ => exact ⟨jaG_M_count, rfl, rfl⟩
  | 173, _ => exact ⟨jaG_Bo_read, rfl, rfl⟩
  | 174, _ => exact ⟨jaG_Bo_readLine, rfl, rfl⟩
  | 175, _ => exact ⟨jaG_Ck_copyFrom, rfl, rfl⟩
  | 176, _ => exact ⟨jaG_Ck_start, rfl, rfl⟩
  | 177, _ => exact ⟨jaG_Ck_begin, rfl, rfl⟩
  | 178, _ => exact ⟨jaG_Ck_hasTwin, rfl, rfl⟩
  | 179, _ => exact ⟨jaG_Ck_noteWrite, rfl, rfl⟩
  | 180, _ => exact ⟨jaG_Ck_takeNext, rfl, rfl⟩
  | 181, _ => exact ⟨jaG_Ck_finish, rfl, rfl⟩
  | 182, _ => exact ⟨jaG_Cp_copyFrom, rfl, rfl⟩
  | 183, _ => exact ⟨jaG_Cp_isExecuted, rfl, rfl⟩
  | 184, _ => exact ⟨jaG_Cp_isExecutedAhead, rfl, rfl⟩
  | 185, _ => exact ⟨jaG_En_copyFrom, rfl, rfl⟩
  | 186, _ => exact ⟨jaG_En_countOf, rfl, rfl⟩
  | 187, _ => exact ⟨jaG_En_lastPlaceOf, rfl, rfl⟩
  | 188, _ => exact ⟨jaG_En_conflict, rfl, rfl⟩
  | 189, _ => exact ⟨jaG_En_conflictsAhead, rfl, rfl⟩
  | 190, _ => exact ⟨jaG_En_longestRow, rfl, rfl⟩
  | 191, _ => exact ⟨jaG_Rd_begin, rfl, rfl⟩
  | 192, _ => exact ⟨jaG_Rd_addToken, rfl, rfl⟩
  | 193, _ => exact ⟨jaG_Rd_readToken, rfl, rfl⟩
  | 194, _ => exact ⟨jaG_Rd_isLetter, rfl, rfl⟩
  | 195, _ => exact ⟨jaG_Rd_isDigit, rfl, rfl⟩
  | 196, _ => exact ⟨jaG_Rd_kindOfWord, rfl, rfl⟩
  | 197, _ => exact ⟨jaG_Rd_kind, rfl, rfl⟩
  | 198, _ => exact ⟨jaG_Rd_content, rfl, rfl⟩
  | 199, _ => exact ⟨jaG_Rd_step, rfl, rfl⟩
  | 200, _ => exact ⟨jaG_Rd_fail, rfl, rfl⟩
  | 201, _ => exact ⟨jaG_Rd_take, rfl, rfl⟩
  | 202, _ => exact ⟨jaG_Rd_takeNumber, rfl, rfl⟩
  | 203, _ => exact ⟨jaG_Rd_takeCompare, rfl, rfl⟩
  | 204, _ => exact ⟨jaG_Sc_copyFrom, rfl, rfl⟩
  | 205, _ => exact ⟨jaG_Sc_copyOne, rfl, rfl⟩
  | 206, _ => exact ⟨jaG_Sc_isFull, rfl, rfl⟩
  | 207, _ => exact ⟨jaG_Sc_addLike, rfl, rfl⟩
  | 208, _ => exact ⟨jaG_Sc_read, rfl, rfl⟩
  | 209, _ => exact ⟨jaG_Sc_readStep, rfl, rfl⟩
  | 210, _ => exact ⟨jaG_Sc_readNeed, rfl, rfl⟩
  | 211, _ => exact ⟨jaG_Sc_readGives, rfl, rfl⟩
  | 212, _ => exact ⟨jaG_Sc_readTerm, rfl, rfl⟩
  | 213, _ => exact ⟨jaG_Sc_readRef, rfl, rfl⟩
  | 214, _ => exact ⟨jaG_Sc_failOneMore, rfl, rfl⟩
  | 215, _ => exact ⟨jaG_Sc_keyOf, rfl, rfl⟩
  | 216, _ => exact ⟨jaG_Sc_writesOf, rfl, rfl⟩
  | 217, _ => exact ⟨jaG_Sc_readsOf, rfl, rfl⟩
  | 218, _ => exact ⟨jaG_Sc_keyAt, rfl, rfl⟩
  | 219, _ => exact ⟨jaG_Sc_run, rfl, rfl⟩
  | 220, _ => exact ⟨jaG_Sc_runStep, rfl, rfl⟩
  | 221, _ => exact ⟨jaG_Se_find, rfl, rfl⟩
  | 222, _ => exact ⟨jaG_Se_isTold, rfl, rfl⟩
  | 223, _ => exact ⟨jaG_Se_noteIfSo, rfl, rfl⟩
  | 224, _ => exact ⟨jaG_Se_chooseKey, rfl, rfl⟩
  | 225, _ => exact ⟨jaG_Se_countLike, rfl, rfl⟩
  | 226, _ => exact ⟨jaG_Sn_forget, rfl, rfl⟩
  | 227, _ => exact ⟨jaG_Sn_copyFrom, rfl, rfl⟩
  | 228, _ => exact ⟨jaG_Sn_read, rfl, rfl⟩
  | 229, _ => exact ⟨jaG_Sn_add, rfl, rfl⟩
  | 230, _ => exact ⟨jaG_Sn_readCond, rfl, rfl⟩
  | 231, _ => exact ⟨jaG_Sn_readAll, rfl, rfl⟩
  | 232, _ => exact ⟨jaG_Sn_readOne, rfl, rfl⟩
  | 233, _ => exact ⟨jaG_Sn_readCompared, rfl, rfl⟩
  | 234, _ => exact ⟨jaG_Sn_holds, rfl, rfl⟩
  | 235, _ => exact ⟨jaG_Sn_isSo, rfl, rfl⟩
  | 236, _ => exact ⟨jaG_Sn_compares, rfl, rfl⟩
  | 237, _ => exact ⟨jaG_St_copyFrom, rfl, rfl⟩
  | 238, _ => exact ⟨jaG_St_start, rfl, rfl⟩
  | 239, _ => exact ⟨jaG_St_arriveNew, rfl, rfl⟩
  | 240, _ => exact ⟨jaG_St_arriveEntry, rfl, rfl⟩
  | 241, _ => exact ⟨jaG_St_siteOf, rfl, rfl⟩
  | 242, _ => exact ⟨jaG_St_isArrivedAt, rfl, rfl⟩
  | 243, _ => exact ⟨jaG_St_endEpoch, rfl, rfl⟩
  | 244, _ => exact ⟨jaG_St_orderEntry, rfl, rfl⟩
  | 245, _ => exact ⟨jaG_St_readyPlaces, rfl, rfl⟩
  | 246, _ => exact ⟨jaG_St_whoAsks, rfl, rfl⟩
  | 247, _ => exact ⟨jaG_St_countAwaited, rfl, rfl⟩
  | 248, _ => exact ⟨jaG_St_ticksLeft, rfl, rfl⟩
  | 249, _ => exact ⟨jaG_St_passTick, rfl, rfl⟩
  | 250, _ => exact ⟨jaG_St_passGoing, rfl, rfl⟩
  | 251, _ => exact ⟨jaG_St_takeReady, rfl, rfl⟩
  | 252, _ => exact ⟨jaG_St_execute, rfl, rfl⟩
  | 253, _ => exact ⟨jaG_St_writeGiven, rfl, rfl⟩
  | 254, _ => exact ⟨jaG_St_takeCheckKey, rfl, rfl⟩
  | 255, _ => exact ⟨jaG_St_whyNotPut, rfl, rfl⟩
  | 256, _ => exact ⟨jaG_St_putTrans, rfl, rfl⟩
  | 257, _ => exact ⟨jaG_St_whyNotCheck, rfl, rfl⟩
  | 258, _ => exact ⟨jaG_St_beginCheck, rfl, rfl⟩
  | 259, _ => exact ⟨jaG_St_whyNotCrash, rfl, rfl⟩
  | 260, _ => exact ⟨jaG_St_crashCopy, rfl, rfl⟩
  | 261, _ => exact ⟨jaG_St_live, rfl, rfl⟩
  | 262, _ => exact ⟨jaG_St_drawTicks, rfl, rfl⟩
  | 263, _ => exact ⟨jaG_St_drawOf, rfl, rfl⟩
  | 264, _ => exact ⟨jaG_St_drawAct, rfl, rfl⟩
  | 265, _ => exact ⟨jaG_St_isAllExecuted, rfl, rfl⟩
  | 266, _ => exact ⟨jaG_St_isOver, rfl, rfl⟩
  | 267, _ => exact ⟨jaG_St_isSame, rfl, rfl⟩
  | 268, _ => exact ⟨jaG_St_beginSerially, rfl, rfl⟩
  | 269, _ => exact ⟨jaG_St_runSerially, rfl, rfl⟩
  | 270, _ => exact ⟨jaG_St_valueSerially, rfl, rfl⟩
  | 271, _ => exact ⟨jaG_Wo_copyFrom, rfl, rfl⟩
  | 272, _ => exact ⟨jaG_Wo_read, rfl, rfl⟩
  | 273, _ => exact ⟨jaG_Wo_addUntold, rfl, rfl⟩
  | 274, _ => exact ⟨jaG_Wo_readLine, rfl, rfl⟩
  | 275, _ => exact ⟨jaG_Wo_readSite, rfl, rfl⟩
  | 276, _ => exact ⟨jaG_Wo_readKey, rfl, rfl⟩
  | 277, _ => exact ⟨jaG_Wo_readCopy, rfl, rfl⟩
  | 278, _ => exact ⟨jaG_Wo_readEpoch, rfl, rfl⟩
  | 279, _ => exact ⟨jaG_Wo_readLink, rfl, rfl⟩
  | 280, _ => exact ⟨jaG_Wo_takeNewName, rfl, rfl⟩
  | 281, _ => exact ⟨jaG_Wo_slotOf, rfl, rfl⟩
  | 282, _ => exact ⟨jaG_Wo_takeNamed, rfl, rfl⟩
  | 283, _ => exact ⟨jaG_Wo_isKeyNext, rfl, rfl⟩
  | 284, _ => exact ⟨jaG_Wo_isWide, rfl, rfl⟩
  | 285, _ => exact ⟨jaG_JM_floorMod, rfl, rfl⟩
  | 286, _ => exact ⟨jaG_JM_max, rfl, rfl⟩
  | 287, _ => exact ⟨jaG_JM_min, rfl, rfl⟩
  | 288, _ => exact ⟨jaG_JS_charAtW, rfl, rfl⟩
  | 289, _ => exact ⟨jaG_JS_checkIndex, rfl, rfl⟩
  | 290, _ => exact ⟨jaG_JS_coderS, rfl, rfl⟩
  | 291, _ => exact ⟨jaG_JS_coderW, rfl, rfl⟩
  | 292, _ => exact ⟨jaG_JS_indexOfS, rfl, rfl⟩
  | 293, _ => exact ⟨jaG_JS_indexOf2S, rfl, rfl⟩
  | 294, _ => exact ⟨jaG_JS_isLatin1S, rfl, rfl⟩
  | 295, _ => exact ⟨jaG_JS_isLatin1W, rfl, rfl⟩
  | 296, _ => exact ⟨jaG_JS_lengthS, rfl, rfl⟩
  | 297, _ => exact ⟨jaG_JS_lengthW, rfl, rfl⟩
  | 298, _ => exact ⟨jaG_JL_canEncode, rfl, rfl⟩
  | 299, _ => exact ⟨jaG_JL_charAt, rfl, rfl⟩
  | 300, _ => exact ⟨jaG_JL_indexOf, rfl, rfl⟩
  | 301, _ => exact ⟨jaG_JL_indexOfChar, rfl, rfl⟩
  | 302, _ => exact ⟨jaG_JP_checkIndex, rfl, rfl⟩
  | n + 303, h => omega
