def wsL_law_r1 : List Cond := [Cond.classLink RL 7 RX4, Cond.instantiable RX4 11, Cond.initialized RX4, Cond.classLink RL 10 RX5, Cond.instantiable RX5 14, Cond.initialized RX5, Cond.methodLink RL 9 yX4_init, Cond.instanceMethod yX4_init, Cond.code yX4_init cX4_init 1 none, Cond.methodLink RX4 3 objectInit, Cond.instanceMethod objectInit, Cond.code objectInit ⟨#[0xb1]⟩ 1 none, Cond.classLink RX4 9 RX1, Cond.fieldLink RX4 11 "StakeHouse" "games" "[LStakeHouse$EvenGame;", Cond.arrayClass .int, Cond.fieldLink RX4 15 "StakeHouse" "told" "[I", Cond.classLink RX4 19 RX0, Cond.instantiable RX0 5, Cond.initialized RX0, Cond.fieldLink RX4 24 "StakeHouse" "bestChart" "LStakeHouse$Chart;", Cond.fieldLink RX4 28 "StakeHouse" "meanChart" "LStakeHouse$Chart;", Cond.fieldLink RX4 31 "StakeHouse" "aloneChart" "LStakeHouse$Chart;", Cond.fieldLink RX4 34 "StakeHouse" "staked" "[I", Cond.classLink RX4 37 "[[J"]
def wsL_law_r2 : List Cond := [Cond.arrayClass .long, Cond.fieldLink RX4 39 "StakeHouse" "worth" "[[J", Cond.fieldLink RX4 42 "StakeHouse" "goal" "I", Cond.fieldLink RX4 46 "StakeHouse" "horizon" "I", Cond.fieldLink RX4 49 "StakeHouse" "held" "I", Cond.fieldLink RX4 52 "StakeHouse" "marks" "J", Cond.methodLink RX4 21 yX0_init, Cond.instanceMethod yX0_init, Cond.code yX0_init cX0_init 2 none, Cond.methodLink RX0 3 objectInit, Cond.classLink RX0 9 "[[J", Cond.fieldLink RX0 11 "StakeHouse$Chart" "rows" "[[J", Cond.fieldLink RX0 16 "StakeHouse$Chart" "first" "I", Cond.fieldLink RX0 20 "StakeHouse$Chart" "end" "I", Cond.fieldLink RX0 23 "StakeHouse$Chart" "known" "I", Cond.fieldLink RX0 26 "StakeHouse$Chart" "what" "I", Cond.methodLink RL 12 yX5_init, Cond.instanceMethod yX5_init, Cond.code yX5_init cX5_init 1 none, Cond.methodLink RX5 1 objectInit, Cond.fieldLink RX5 7 "StakeHouseModel" "goal" "I", Cond.fieldLink RX5 13 "StakeHouseModel" "horizon" "I", Cond.fieldLink RX5 16 "StakeHouseModel" "kind" "[I", Cond.fieldLink RX5 20 "StakeHouseModel" "chance" "[I"]
def wsL_law_r3 : List Cond := [Cond.fieldLink RX5 23 "StakeHouseModel" "times" "[I", Cond.fieldLink RX5 26 "StakeHouseModel" "tax" "[I", Cond.fieldLink RX5 29 "StakeHouseModel" "limit" "[I", Cond.fieldLink RX5 32 "StakeHouseModel" "told" "[I", Cond.fieldLink RX5 35 "StakeHouseModel" "best" "[J", Cond.fieldLink RX5 39 "StakeHouseModel" "now" "[J", Cond.fieldLink RX5 42 "StakeHouseModel" "then" "[J", Cond.fieldLink RX5 45 "StakeHouseModel" "games" "I", Cond.methodLink RL 13 yX4_set, Cond.instanceMethod yX4_set, Cond.selects RX4 yX4_set yX4_set, Cond.code yX4_set cX4_set 4 (some .int), Cond.methodLink RX4 56 yX4_within, Cond.static yX4_within, Cond.code yX4_within cX4_within 3 (some .boolean), Cond.methodLink RX4 60 yX4_changeGoal, Cond.instanceMethod yX4_changeGoal, Cond.selects RX4 yX4_changeGoal yX4_changeGoal, Cond.code yX4_changeGoal cX4_changeGoal 4 (some .int), Cond.methodLink RX4 71 yX4_forgetCharts, Cond.instanceMethod yX4_forgetCharts, Cond.selects RX4 yX4_forgetCharts yX4_forgetCharts, Cond.code yX4_forgetCharts cX4_forgetCharts 1 none, Cond.methodLink RX4 119 yX0_forget]
def wsL_law_r4 : List Cond := [Cond.instanceMethod yX0_forget, Cond.selects RX0 yX0_forget yX0_forget, Cond.code yX0_forget cX0_forget 1 none, Cond.methodLink RL 17 yX5_set, Cond.instanceMethod yX5_set, Cond.selects RX5 yX5_set yX5_set, Cond.code yX5_set cX5_set 5 (some .int), Cond.methodLink RX5 48 yX5_in, Cond.static yX5_in, Cond.code yX5_in cX5_in 3 (some .boolean), Cond.methodLink RL 18 yX4_game, Cond.instanceMethod yX4_game, Cond.selects RX4 yX4_game yX4_game, Cond.code yX4_game cX4_game 7 (some .int), Cond.methodLink RX4 64 yX4_newGame, Cond.static yX4_newGame, Cond.code yX4_newGame cX4_newGame 5 (some (.object "StakeHouse$EvenGame")), Cond.classLink RX4 122 RX3, Cond.instantiable RX3 5, Cond.initialized RX3, Cond.classLink RX4 127 RX2, Cond.instantiable RX2 4, Cond.initialized RX2, Cond.instantiable RX1 3]
def wsL_law_r5 : List Cond := [Cond.initialized RX1, Cond.methodLink RX4 124 yX3_init, Cond.instanceMethod yX3_init, Cond.code yX3_init cX3_init 5 none, Cond.fieldLink RX3 9 "StakeHouse$TaxedGame" "tax" "I", Cond.methodLink RX3 3 yX2_init, Cond.instanceMethod yX2_init, Cond.code yX2_init cX2_init 4 none, Cond.fieldLink RX2 7 "StakeHouse$LongGame" "times" "I", Cond.methodLink RX2 1 yX1_init, Cond.instanceMethod yX1_init, Cond.code yX1_init cX1_init 3 none, Cond.methodLink RX1 3 objectInit, Cond.fieldLink RX1 9 "StakeHouse$EvenGame" "gains" "[I", Cond.fieldLink RX1 15 "StakeHouse$EvenGame" "chance" "I", Cond.fieldLink RX1 19 "StakeHouse$EvenGame" "limit" "I", Cond.methodLink RX4 129 yX2_init, Cond.methodLink RX4 132 yX1_init, Cond.methodLink RX4 68 yX1_keepGains, Cond.instanceMethod yX1_keepGains, Cond.selects RX1 yX1_keepGains yX1_keepGains, Cond.code yX1_keepGains cX1_keepGains 2 none, Cond.methodLink RX1 22 yX1_gain, Cond.instanceMethod yX1_gain]
def wsL_law_r6 : List Cond := [Cond.selects RX1 yX1_gain yX1_gain, Cond.code yX1_gain cX1_gain 2 (some .int), Cond.methodLink RX1 22 ⟨"StakeHouse$EvenGame", "gain", "(I)I"⟩, Cond.sameMethod "StakeHouse$EvenGame" "StakeHouse$EvenGame" "gain" "(I)I", Cond.instanceMethod ⟨"StakeHouse$EvenGame", "gain", "(I)I"⟩, Cond.selects RX2 ⟨"StakeHouse$EvenGame", "gain", "(I)I"⟩ yX2_gain, Cond.instanceMethod yX2_gain, Cond.code yX2_gain cX2_gain 2 (some .int), Cond.methodLink RX2 13 yX1_gain, Cond.superclass RX2 RX1, Cond.selects RX3 ⟨"StakeHouse$EvenGame", "gain", "(I)I"⟩ yX3_gain, Cond.instanceMethod yX3_gain, Cond.code yX3_gain cX3_gain 3 (some .int), Cond.methodLink RX3 15 yX2_gain, Cond.sameMethod "StakeHouse$LongGame" "StakeHouse$LongGame" "gain" "(I)I", Cond.superclass RX3 RX2, Cond.methodLink RX4 68 ⟨"StakeHouse$EvenGame", "keepGains", "()V"⟩, Cond.sameMethod "StakeHouse$EvenGame" "StakeHouse$EvenGame" "keepGains" "()V", Cond.selects RX2 ⟨"StakeHouse$EvenGame", "keepGains", "()V"⟩ yX1_keepGains, Cond.selects RX3 ⟨"StakeHouse$EvenGame", "keepGains", "()V"⟩ yX1_keepGains, Cond.methodLink RL 22 yX5_game, Cond.instanceMethod yX5_game, Cond.selects RX5 yX5_game yX5_game, Cond.code yX5_game cX5_game 7 (some .int)]
def wsL_law_r7 : List Cond := [Cond.methodLink RL 23 yX4_drop, Cond.instanceMethod yX4_drop, Cond.selects RX4 yX4_drop yX4_drop, Cond.code yX4_drop cX4_drop 1 (some .int), Cond.methodLink RL 27 yX5_drop, Cond.instanceMethod yX5_drop, Cond.selects RX5 yX5_drop yX5_drop, Cond.code yX5_drop cX5_drop 1 (some .int), Cond.methodLink RL 28 yX4_win, Cond.instanceMethod yX4_win, Cond.selects RX4 yX4_win yX4_win, Cond.code yX4_win cX4_win 4 (some .int), Cond.methodLink RX4 74 yX4_gameAt, Cond.instanceMethod yX4_gameAt, Cond.selects RX4 yX4_gameAt yX4_gameAt, Cond.code yX4_gameAt cX4_gameAt 2 (some (.object "StakeHouse$EvenGame")), Cond.methodLink RX4 78 yX1_mark, Cond.instanceMethod yX1_mark, Cond.selects RX1 yX1_mark yX1_mark, Cond.code yX1_mark cX1_mark 1 (some .int), Cond.methodLink RX4 78 ⟨"StakeHouse$EvenGame", "mark", "()I"⟩, Cond.sameMethod "StakeHouse$EvenGame" "StakeHouse$EvenGame" "mark" "()I", Cond.instanceMethod ⟨"StakeHouse$EvenGame", "mark", "()I"⟩, Cond.selects RX2 ⟨"StakeHouse$EvenGame", "mark", "()I"⟩ yX2_mark]
def wsL_law_r8 : List Cond := [Cond.instanceMethod yX2_mark, Cond.code yX2_mark cX2_mark 1 (some .int), Cond.methodLink RX2 17 yX1_mark, Cond.selects RX3 ⟨"StakeHouse$EvenGame", "mark", "()I"⟩ yX3_mark, Cond.instanceMethod yX3_mark, Cond.code yX3_mark cX3_mark 1 (some .int), Cond.methodLink RX3 19 yX2_mark, Cond.sameMethod "StakeHouse$LongGame" "StakeHouse$LongGame" "mark" "()I", Cond.methodLink RX4 82 yX1_gain, Cond.methodLink RX4 82 ⟨"StakeHouse$EvenGame", "gain", "(I)I"⟩, Cond.methodLink RL 31 yX5_win, Cond.instanceMethod yX5_win, Cond.selects RX5 yX5_win yX5_win, Cond.code yX5_win cX5_win 3 (some .int), Cond.fieldLink RX5 56 "StakeHouseModel" "trace" "J", Cond.constantLong RX5 60 (11), Cond.constantLong RX5 62 (111), Cond.methodLink RX5 52 yX5_isGame, Cond.instanceMethod yX5_isGame, Cond.selects RX5 yX5_isGame yX5_isGame, Cond.code yX5_isGame cX5_isGame 2 (some .boolean), Cond.methodLink RX5 64 yX5_winOf, Cond.instanceMethod yX5_winOf, Cond.selects RX5 yX5_winOf yX5_winOf]
def wsL_law_r9 : List Cond := [Cond.code yX5_winOf cX5_winOf 4 (some .int), Cond.methodLink RL 32 yX4_best, Cond.instanceMethod yX4_best, Cond.selects RX4 yX4_best yX4_best, Cond.code yX4_best cX4_best 3 (some .long), Cond.methodLink RX4 85 yX4_greatestFrom, Cond.instanceMethod yX4_greatestFrom, Cond.selects RX4 yX4_greatestFrom yX4_greatestFrom, Cond.code yX4_greatestFrom cX4_greatestFrom 4 (some .long), Cond.constantLong RX4 93 (-1), Cond.constantLong RX4 149 (-2), Cond.methodLink RX4 89 yX4_isSpot, Cond.instanceMethod yX4_isSpot, Cond.selects RX4 yX4_isSpot yX4_isSpot, Cond.code yX4_isSpot cX4_isSpot 3 (some .boolean), Cond.methodLink RX4 99 yX0_cover, Cond.instanceMethod yX0_cover, Cond.selects RX0 yX0_cover yX0_cover, Cond.code yX0_cover cX0_cover 3 none, Cond.methodLink RX4 103 yX4_chartRow, Cond.instanceMethod yX4_chartRow, Cond.selects RX4 yX4_chartRow yX4_chartRow, Cond.code yX4_chartRow cX4_chartRow 5 (some (.array .long)), Cond.methodLink RX4 160 yX4_endWorth]
def wsL_law_r10 : List Cond := [Cond.instanceMethod yX4_endWorth, Cond.selects RX4 yX4_endWorth yX4_endWorth, Cond.code yX4_endWorth cX4_endWorth 3 (some .long), Cond.methodLink RX4 164 yX4_greatestTurn, Cond.instanceMethod yX4_greatestTurn, Cond.selects RX4 yX4_greatestTurn yX4_greatestTurn, Cond.code yX4_greatestTurn cX4_greatestTurn 8 (some .long), Cond.constantLong RX4 168 (16), Cond.methodLink RX4 180 Lib.MathLoose.max_long.x, Cond.static Lib.MathLoose.max_long.x, Cond.initialized "java/lang/Math", Cond.code Lib.MathLoose.max_long.x Lib.MathLoose.max_long.code 4 (some .long), Cond.methodLink RX4 95 yX4_isPlayed, Cond.instanceMethod yX4_isPlayed, Cond.selects RX4 yX4_isPlayed yX4_isPlayed, Cond.code yX4_isPlayed cX4_isPlayed 2 (some .boolean), Cond.methodLink RX4 176 yX4_greatestStake, Cond.instanceMethod yX4_greatestStake, Cond.selects RX4 yX4_greatestStake yX4_greatestStake, Cond.code yX4_greatestStake cX4_greatestStake 8 (some .long), Cond.methodLink RX4 184 yX4_mostStake, Cond.static yX4_mostStake, Cond.code yX4_mostStake cX4_mostStake 2 (some .int), Cond.methodLink RX4 137 Lib.Math.min.name]
def wsL_law_r11 : List Cond := [Cond.static Lib.Math.min.name, Cond.code Lib.Math.min.name Lib.Math.min.code 2 (some .int), Cond.methodLink RX4 188 yX4_raised, Cond.instanceMethod yX4_raised, Cond.selects RX4 yX4_raised yX4_raised, Cond.code yX4_raised cX4_raised 4 (some .int), Cond.methodLink RX4 192 yX4_mixed, Cond.static yX4_mixed, Cond.code yX4_mixed cX4_mixed 5 (some .long), Cond.methodLink RL 36 yX5_best, Cond.instanceMethod yX5_best, Cond.selects RX5 yX5_best yX5_best, Cond.code yX5_best cX5_best 3 (some .long), Cond.constantLong RX5 84 (-1), Cond.constantLong RX5 86 (-2), Cond.methodLink RX5 81 yX5_isPurse, Cond.instanceMethod yX5_isPurse, Cond.selects RX5 yX5_isPurse yX5_isPurse, Cond.code yX5_isPurse cX5_isPurse 2 (some .boolean), Cond.methodLink RX5 88 yX5_work, Cond.instanceMethod yX5_work, Cond.selects RX5 yX5_work yX5_work, Cond.code yX5_work cX5_work 13 none, Cond.constantLong RX5 72 (16)]
def wsL_law_r12 : List Cond := [Cond.methodLink RX5 74 yX5_mostAt, Cond.instanceMethod yX5_mostAt, Cond.selects RX5 yX5_mostAt yX5_mostAt, Cond.code yX5_mostAt cX5_mostAt 3 (some .int), Cond.methodLink RX5 77 yX5_worth, Cond.instanceMethod yX5_worth, Cond.selects RX5 yX5_worth yX5_worth, Cond.code yX5_worth cX5_worth 9 (some .long), Cond.methodLink RX5 68 yX5_behind, Cond.instanceMethod yX5_behind, Cond.selects RX5 yX5_behind yX5_behind, Cond.code yX5_behind cX5_behind 5 (some .int), Cond.methodLink RL 37 yX4_stakes, Cond.instanceMethod yX4_stakes, Cond.selects RX4 yX4_stakes yX4_stakes, Cond.code yX4_stakes cX4_stakes 5 (some .long), Cond.methodLink RX4 107 yX4_bestStakes, Cond.instanceMethod yX4_bestStakes, Cond.selects RX4 yX4_bestStakes yX4_bestStakes, Cond.code yX4_bestStakes cX4_bestStakes 10 (some .long), Cond.methodLink RL 41 yX5_stakes, Cond.instanceMethod yX5_stakes, Cond.selects RX5 yX5_stakes yX5_stakes, Cond.code yX5_stakes cX5_stakes 9 (some .long)]
def wsL_law_r13 : List Cond := [Cond.methodLink RL 42 yX4_mean, Cond.instanceMethod yX4_mean, Cond.selects RX4 yX4_mean yX4_mean, Cond.code yX4_mean cX4_mean 3 (some .long), Cond.methodLink RL 45 yX5_mean, Cond.instanceMethod yX5_mean, Cond.selects RX5 yX5_mean yX5_mean, Cond.code yX5_mean cX5_mean 3 (some .long), Cond.methodLink RL 46 yX4_tell, Cond.instanceMethod yX4_tell, Cond.selects RX4 yX4_tell yX4_tell, Cond.code yX4_tell cX4_tell 4 (some .int), Cond.methodLink RL 49 yX5_tell, Cond.instanceMethod yX5_tell, Cond.selects RX5 yX5_tell yX5_tell, Cond.code yX5_tell cX5_tell 4 (some .int), Cond.methodLink RL 50 yX4_stake, Cond.instanceMethod yX4_stake, Cond.selects RX4 yX4_stake yX4_stake, Cond.code yX4_stake cX4_stake 5 (some .int), Cond.methodLink RX4 111 yX4_planned, Cond.instanceMethod yX4_planned, Cond.selects RX4 yX4_planned yX4_planned, Cond.code yX4_planned cX4_planned 5 (some .int)]
def wsL_law_r14 : List Cond := [Cond.methodLink RX4 196 yX4_boldStake, Cond.instanceMethod yX4_boldStake, Cond.selects RX4 yX4_boldStake yX4_boldStake, Cond.code yX4_boldStake cX4_boldStake 5 (some .int), Cond.methodLink RL 54 yX5_stake, Cond.instanceMethod yX5_stake, Cond.selects RX5 yX5_stake yX5_stake, Cond.code yX5_stake cX5_stake 4 (some .int), Cond.methodLink RX5 95 yX5_stakeOf, Cond.instanceMethod yX5_stakeOf, Cond.selects RX5 yX5_stakeOf yX5_stakeOf, Cond.code yX5_stakeOf cX5_stakeOf 6 (some .int), Cond.methodLink RX5 92 yX5_least, Cond.static yX5_least, Cond.code yX5_least cX5_least 2 (some .int), Cond.methodLink RL 55 yX4_plan, Cond.instanceMethod yX4_plan, Cond.selects RX4 yX4_plan yX4_plan, Cond.code yX4_plan cX4_plan 7 (some .long), Cond.methodLink RX4 115 yX4_planWorth, Cond.instanceMethod yX4_planWorth, Cond.selects RX4 yX4_planWorth yX4_planWorth, Cond.code yX4_planWorth cX4_planWorth 10 (some .long), Cond.methodLink RX4 199 yX4_layRung]
def wsL_law_r15 : List Cond := [Cond.instanceMethod yX4_layRung, Cond.selects RX4 yX4_layRung yX4_layRung, Cond.code yX4_layRung cX4_layRung 7 none, Cond.methodLink RX4 203 yX4_playRung, Cond.instanceMethod yX4_playRung, Cond.selects RX4 yX4_playRung yX4_playRung, Cond.code yX4_playRung cX4_playRung 13 none, Cond.methodLink RL 59 yX5_plan, Cond.instanceMethod yX5_plan, Cond.selects RX5 yX5_plan yX5_plan, Cond.code yX5_plan cX5_plan 9 (some .long), Cond.fieldLink RX5 98 "StakeHouseModel" "played" "J", Cond.methodLink RX5 101 yX5_follow, Cond.instanceMethod yX5_follow, Cond.selects RX5 yX5_follow yX5_follow, Cond.code yX5_follow cX5_follow 12 none, Cond.methodLink RX5 105 yX5_weightAt, Cond.instanceMethod yX5_weightAt, Cond.selects RX5 yX5_weightAt yX5_weightAt, Cond.code yX5_weightAt cX5_weightAt 5 (some .long), Cond.methodLink RL 60 yX4_bold, Cond.instanceMethod yX4_bold, Cond.selects RX4 yX4_bold yX4_bold, Cond.code yX4_bold cX4_bold 7 (some .int)]
def wsL_law_r16 : List Cond := [Cond.methodLink RL 63 yX5_bold, Cond.instanceMethod yX5_bold, Cond.selects RX5 yX5_bold yX5_bold, Cond.code yX5_bold cX5_bold 6 (some .int), Cond.methodLink RL 64 yX4_count, Cond.instanceMethod yX4_count, Cond.selects RX4 yX4_count yX4_count, Cond.code yX4_count cX4_count 2 (some .int), Cond.methodLink RL 68 yX5_count, Cond.instanceMethod yX5_count, Cond.selects RX5 yX5_count yX5_count, Cond.code yX5_count cX5_count 2 (some .int), Cond.methodLink RL 69 yX4_trace, Cond.instanceMethod yX4_trace, Cond.selects RX4 yX4_trace yX4_trace, Cond.code yX4_trace cX4_trace 1 (some .long), Cond.methodLink RL 73 yX5_trace, Cond.instanceMethod yX5_trace, Cond.selects RX5 yX5_trace yX5_trace, Cond.code yX5_trace cX5_trace 1 (some .long)]
def wsL_law : List Cond := (wsL_law_r1 ++ (wsL_law_r2 ++ (wsL_law_r3 ++ (wsL_law_r4 ++ (wsL_law_r5 ++ (wsL_law_r6 ++ (wsL_law_r7 ++ (wsL_law_r8 ++ (wsL_law_r9 ++ (wsL_law_r10 ++ (wsL_law_r11 ++ (wsL_law_r12 ++ (wsL_law_r13 ++ (wsL_law_r14 ++ (wsL_law_r15 ++ wsL_law_r16))))))))))))))) ++ wsX40 ++ wsX50 ++ wsX00 ++ wsX30 ++ wsX20 ++ wsX10 ++ ([] : List Cond)
set_option maxRecDepth 20000 in
theorem ggL_law_X4_init : GoodIn wsL_law wsX4_init := goodIn_r _ [8, 9, 10, 11, 12, 13, 14, 15, 16, 17, 18, 19, 20, 21, 22, 23, 24, 25, 26, 27, 28, 29, 30, 31, 32, 33, 34, 35, 36, 37, 38, 39, 380, 381, 382, 383, 384, 385, 386, 387, 388, 389, 390, 405, 406, 407, 408, 409] (by decide +kernel) (by decide +kernel)
set_option maxRecDepth 20000 in
theorem gL_law_X4_init : GoodIn wsL_law (wsX4_init) := ggL_law_X4_init
set_option maxRecDepth 20000 in
theorem ggL_law_X5_init : GoodIn wsL_law wsX5_init := goodIn_r _ [42, 43, 10, 11, 44, 45, 14, 46, 47, 48, 49, 50, 51, 24, 52, 53, 54, 55, 391, 392, 393, 394, 395, 396, 397, 398, 399, 400, 401, 402, 403, 404] (by decide +kernel) (by decide +kernel)
set_option maxRecDepth 20000 in
theorem gL_law_X5_init : GoodIn wsL_law (wsX5_init) := ggL_law_X5_init
set_option maxRecDepth 20000 in
theorem ggL_law_X4_set : GoodIn wsL_law wsX4_set := goodIn_r _ [59, 27, 60, 61, 2, 62, 63, 64, 65, 66, 26, 15, 67, 68, 69, 70, 19, 20, 21, 71, 72, 73, 18, 74, 38, 380, 381, 382, 383, 384, 385, 386, 387, 388, 389, 390, 405, 406, 407, 408, 409] (by decide +kernel) (by decide +kernel)
set_option maxRecDepth 20000 in
theorem gL_law_X4_set : GoodIn wsL_law (wsV RL 13 RX4 yX4_set wsX4_set) := goodIn_app (goodIn_of _ (by decide +kernel)) ggL_law_X4_set
set_option maxRecDepth 20000 in
theorem ggL_law_X5_set : GoodIn wsL_law wsX5_set := goodIn_r _ [78, 44, 51, 45, 79, 80, 5, 81, 391, 392, 393, 394, 395, 396, 397, 398, 399, 400, 401, 402, 403, 404] (by decide +kernel) (by decide +kernel)
set_option maxRecDepth 20000 in
theorem gL_law_X5_set : GoodIn wsL_law (wsV RL 17 RX5 yX5_set wsX5_set) := goodIn_app (goodIn_of _ (by decide +kernel)) ggL_law_X5_set
set_option maxRecDepth 20000 in
theorem ggL_law_X4_game : GoodIn wsL_law wsX4_game := goodIn_r _ [85, 28, 13, 60, 61, 2, 62, 86, 87, 88, 89, 90, 91, 92, 93, 94, 12, 95, 96, 97, 98, 99, 100, 101, 102, 103, 104, 105, 106, 107, 108, 10, 11, 14, 109, 110, 111, 112, 113, 114, 115, 116, 117, 118, 119, 120, 121, 122, 123, 124, 125, 126, 127, 128, 129, 130, 131, 132, 133, 134, 135, 136, 137, 138, 139, 67, 68, 69, 70, 19, 20, 21, 71, 72, 73, 18, 74, 38, 380, 381, 382, 383, 384, 385, 386, 387, 388, 389, 390, 410, 411, 412, 413, 414, 415, 416, 417, 418, 419, 420, 421, 405, 406, 407, 408, 409] (by decide +kernel) (by decide +kernel)
set_option maxRecDepth 20000 in
theorem gL_law_X4_game : GoodIn wsL_law (wsV RL 18 RX4 yX4_game wsX4_game) := goodIn_app (goodIn_of _ (by decide +kernel)) ggL_law_X4_game
set_option maxRecDepth 20000 in
theorem ggL_law_X5_game : GoodIn wsL_law wsX5_game := goodIn_r _ [143, 55, 46, 47, 48, 49, 50, 79, 80, 5, 81, 391, 392, 393, 394, 395, 396, 397, 398, 399, 400, 401, 402, 403, 404] (by decide +kernel) (by decide +kernel)
set_option maxRecDepth 20000 in
theorem gL_law_X5_game : GoodIn wsL_law (wsV RL 22 RX5 yX5_game wsX5_game) := goodIn_app (goodIn_of _ (by decide +kernel)) ggL_law_X5_game
set_option maxRecDepth 20000 in
theorem ggL_law_X4_drop : GoodIn wsL_law wsX4_drop := goodIn_r _ [147, 28, 13, 67, 68, 69, 2, 70, 19, 20, 21, 71, 72, 73, 18, 74, 38, 380, 381, 382, 383, 384, 385, 386, 387, 388, 389, 390, 405, 406, 407, 408, 409] (by decide +kernel) (by decide +kernel)
set_option maxRecDepth 20000 in
theorem gL_law_X4_drop : GoodIn wsL_law (wsV RL 23 RX4 yX4_drop wsX4_drop) := goodIn_app (goodIn_of _ (by decide +kernel)) ggL_law_X4_drop
set_option maxRecDepth 20000 in
theorem ggL_law_X5_drop : GoodIn wsL_law wsX5_drop := goodIn_r _ [151, 55, 391, 392, 393, 394, 395, 396, 397, 398, 399, 400, 401, 402, 403, 404] (by decide +kernel) (by decide +kernel)
set_option maxRecDepth 20000 in
theorem gL_law_X5_drop : GoodIn wsL_law (wsV RL 27 RX5 yX5_drop wsX5_drop) := goodIn_app (goodIn_of _ (by decide +kernel)) ggL_law_X5_drop
set_option maxRecDepth 20000 in
theorem ggL_law_X4_win : GoodIn wsL_law wsX4_win := goodIn_r _ [155, 29, 156, 157, 158, 2, 159, 28, 13, 60, 61, 62, 160, 161, 162, 96, 163, 164, 165, 166, 167, 168, 94, 169, 170, 129, 171, 172, 91, 173, 174, 175, 135, 176, 119, 120, 121, 177, 123, 124, 125, 126, 127, 104, 128, 130, 131, 132, 100, 133, 134, 380, 381, 382, 383, 384, 385, 386, 387, 388, 389, 390, 415, 416, 417, 418, 410, 411, 412, 413, 414] (by decide +kernel) (by decide +kernel)
set_option maxRecDepth 20000 in
theorem gL_law_X4_win : GoodIn wsL_law (wsV RL 28 RX4 yX4_win wsX4_win) := goodIn_app (goodIn_of _ (by decide +kernel)) ggL_law_X4_win
set_option maxRecDepth 20000 in
theorem ggL_law_X5_win : GoodIn wsL_law wsX5_win := goodIn_r _ [181, 182, 46, 183, 184, 185, 186, 187, 5, 188, 55, 79, 80, 81, 189, 190, 191, 192, 48, 49, 391, 392, 393, 394, 395, 396, 397, 398, 399, 400, 401, 402, 403, 404] (by decide +kernel) (by decide +kernel)
set_option maxRecDepth 20000 in
theorem gL_law_X5_win : GoodIn wsL_law (wsV RL 31 RX5 yX5_win wsX5_win) := goodIn_app (goodIn_of _ (by decide +kernel)) ggL_law_X5_win
set_option maxRecDepth 20000 in
theorem ggL_law_X4_best : GoodIn wsL_law wsX4_best := goodIn_r _ [196, 19, 197, 198, 199, 2, 200, 201, 28, 202, 203, 204, 205, 206, 26, 27, 60, 61, 62, 207, 208, 209, 18, 210, 36, 37, 38, 211, 212, 213, 214, 215, 216, 217, 218, 219, 220, 221, 222, 223, 224, 225, 226, 227, 228, 229, 230, 231, 156, 157, 158, 159, 13, 232, 233, 234, 235, 236, 237, 238, 239, 240, 241, 242, 243, 244, 245, 246, 247, 248, 380, 381, 382, 383, 384, 385, 386, 387, 388, 389, 390, 405, 406, 407, 408, 409, 419, 420, 421, 415, 416, 417, 418, 410, 411, 412, 413, 414] (by decide +kernel) (by decide +kernel)
set_option maxRecDepth 20000 in
theorem gL_law_X4_best : GoodIn wsL_law (wsV RL 32 RX4 yX4_best wsX4_best) := goodIn_app (goodIn_of _ (by decide +kernel)) ggL_law_X4_best
set_option maxRecDepth 20000 in
theorem ggL_law_X5_best : GoodIn wsL_law wsX5_best := goodIn_r _ [252, 45, 253, 55, 254, 52, 255, 256, 257, 5, 258, 44, 79, 80, 81, 259, 260, 261, 262, 263, 264, 265, 266, 267, 50, 268, 269, 270, 271, 47, 272, 273, 274, 275, 189, 190, 191, 192, 46, 48, 49, 391, 392, 393, 394, 395, 396, 397, 398, 399, 400, 401, 402, 403, 404] (by decide +kernel) (by decide +kernel)
set_option maxRecDepth 20000 in
theorem gL_law_X5_best : GoodIn wsL_law (wsV RL 36 RX5 yX5_best wsX5_best) := goodIn_app (goodIn_of _ (by decide +kernel)) ggL_law_X5_best
set_option maxRecDepth 20000 in
theorem ggL_law_X4_stakes : GoodIn wsL_law wsX4_stakes := goodIn_r _ [279, 201, 19, 28, 156, 157, 158, 2, 159, 13, 60, 61, 62, 203, 204, 205, 206, 26, 27, 228, 229, 230, 231, 207, 208, 209, 18, 210, 36, 37, 38, 211, 212, 213, 214, 215, 216, 217, 218, 219, 220, 221, 222, 223, 224, 225, 226, 227, 232, 233, 234, 235, 236, 237, 238, 239, 240, 241, 242, 243, 244, 245, 246, 247, 248, 280, 281, 282, 283, 380, 381, 382, 383, 384, 385, 386, 387, 388, 389, 390, 405, 406, 407, 408, 409, 419, 420, 421, 415, 416, 417, 418, 410, 411, 412, 413, 414] (by decide +kernel) (by decide +kernel)
set_option maxRecDepth 20000 in
theorem gL_law_X4_stakes : GoodIn wsL_law (wsV RL 37 RX4 yX4_stakes wsX4_stakes) := goodIn_app (goodIn_of _ (by decide +kernel)) ggL_law_X4_stakes
set_option maxRecDepth 20000 in
theorem ggL_law_X5_stakes : GoodIn wsL_law wsX5_stakes := goodIn_r _ [287, 45, 253, 44, 55, 52, 263, 185, 186, 187, 5, 188, 79, 80, 81, 255, 256, 257, 258, 259, 260, 261, 262, 264, 265, 266, 267, 50, 268, 269, 270, 271, 47, 272, 273, 274, 275, 189, 190, 191, 192, 46, 48, 49, 391, 392, 393, 394, 395, 396, 397, 398, 399, 400, 401, 402, 403, 404] (by decide +kernel) (by decide +kernel)
set_option maxRecDepth 20000 in
theorem gL_law_X5_stakes : GoodIn wsL_law (wsV RL 41 RX5 yX5_stakes wsX5_stakes) := goodIn_app (goodIn_of _ (by decide +kernel)) ggL_law_X5_stakes
set_option maxRecDepth 20000 in
theorem ggL_law_X4_mean : GoodIn wsL_law wsX4_mean := goodIn_r _ [291, 20, 197, 198, 199, 2, 200, 201, 28, 202, 203, 204, 205, 206, 26, 27, 60, 61, 62, 207, 208, 209, 18, 210, 36, 37, 38, 211, 212, 213, 214, 215, 216, 217, 218, 219, 220, 221, 222, 223, 224, 225, 226, 227, 228, 229, 230, 231, 156, 157, 158, 159, 13, 232, 233, 234, 235, 236, 237, 238, 239, 240, 241, 242, 243, 244, 245, 246, 247, 248, 380, 381, 382, 383, 384, 385, 386, 387, 388, 389, 390, 405, 406, 407, 408, 409, 419, 420, 421, 415, 416, 417, 418, 410, 411, 412, 413, 414] (by decide +kernel) (by decide +kernel)
set_option maxRecDepth 20000 in
theorem gL_law_X4_mean : GoodIn wsL_law (wsV RL 42 RX4 yX4_mean wsX4_mean) := goodIn_app (goodIn_of _ (by decide +kernel)) ggL_law_X4_mean
set_option maxRecDepth 20000 in
theorem ggL_law_X5_mean : GoodIn wsL_law wsX5_mean := goodIn_r _ [295, 45, 253, 55, 254, 52, 255, 256, 257, 5, 258, 44, 79, 80, 81, 259, 260, 261, 262, 263, 264, 265, 266, 267, 50, 268, 269, 270, 271, 47, 272, 273, 274, 275, 189, 190, 191, 192, 46, 48, 49, 391, 392, 393, 394, 395, 396, 397, 398, 399, 400, 401, 402, 403, 404] (by decide +kernel) (by decide +kernel)
set_option maxRecDepth 20000 in
theorem gL_law_X5_mean : GoodIn wsL_law (wsV RL 45 RX5 yX5_mean wsX5_mean) := goodIn_app (goodIn_of _ (by decide +kernel)) ggL_law_X5_mean
set_option maxRecDepth 20000 in
theorem ggL_law_X4_tell : GoodIn wsL_law wsX4_tell := goodIn_r _ [299, 15, 228, 229, 230, 2, 231, 26, 60, 61, 62, 380, 381, 382, 383, 384, 385, 386, 387, 388, 389, 390] (by decide +kernel) (by decide +kernel)
set_option maxRecDepth 20000 in
theorem gL_law_X4_tell : GoodIn wsL_law (wsV RL 46 RX4 yX4_tell wsX4_tell) := goodIn_app (goodIn_of _ (by decide +kernel)) ggL_law_X4_tell
set_option maxRecDepth 20000 in
theorem ggL_law_X5_tell : GoodIn wsL_law wsX5_tell := goodIn_r _ [303, 44, 51, 79, 80, 5, 81, 391, 392, 393, 394, 395, 396, 397, 398, 399, 400, 401, 402, 403, 404] (by decide +kernel) (by decide +kernel)
set_option maxRecDepth 20000 in
theorem gL_law_X5_tell : GoodIn wsL_law (wsV RL 49 RX5 yX5_tell wsX5_tell) := goodIn_app (goodIn_of _ (by decide +kernel)) ggL_law_X5_tell
set_option maxRecDepth 20000 in
theorem ggL_law_X4_stake : GoodIn wsL_law wsX4_stake := goodIn_r _ [307, 156, 157, 158, 2, 159, 28, 13, 60, 61, 62, 228, 229, 230, 231, 26, 308, 309, 310, 311, 15, 239, 240, 226, 241, 312, 313, 314, 315, 236, 237, 238, 380, 381, 382, 383, 384, 385, 386, 387, 388, 389, 390, 419, 420, 421, 415, 416, 417, 418, 410, 411, 412, 413, 414] (by decide +kernel) (by decide +kernel)
set_option maxRecDepth 20000 in
theorem gL_law_X4_stake : GoodIn wsL_law (wsV RL 50 RX4 yX4_stake wsX4_stake) := goodIn_app (goodIn_of _ (by decide +kernel)) ggL_law_X4_stake
set_option maxRecDepth 20000 in
theorem ggL_law_X5_stake : GoodIn wsL_law wsX5_stake := goodIn_r _ [319, 44, 79, 80, 5, 81, 185, 186, 187, 188, 55, 320, 321, 322, 323, 51, 264, 265, 266, 267, 50, 324, 325, 326, 189, 190, 191, 192, 46, 48, 49, 391, 392, 393, 394, 395, 396, 397, 398, 399, 400, 401, 402, 403, 404] (by decide +kernel) (by decide +kernel)
set_option maxRecDepth 20000 in
theorem gL_law_X5_stake : GoodIn wsL_law (wsV RL 54 RX5 yX5_stake wsX5_stake) := goodIn_app (goodIn_of _ (by decide +kernel)) ggL_law_X5_stake
set_option maxRecDepth 20000 in
theorem ggL_law_X4_plan : GoodIn wsL_law wsX4_plan := goodIn_r _ [330, 201, 156, 157, 158, 2, 159, 28, 13, 60, 61, 62, 203, 204, 205, 206, 26, 27, 331, 332, 333, 334, 239, 240, 226, 241, 25, 335, 336, 337, 338, 22, 228, 229, 230, 231, 308, 309, 310, 311, 15, 312, 313, 314, 315, 236, 237, 238, 215, 216, 217, 218, 339, 340, 341, 342, 223, 242, 243, 244, 245, 246, 247, 248, 380, 381, 382, 383, 384, 385, 386, 387, 388, 389, 390, 419, 420, 421, 415, 416, 417, 418, 410, 411, 412, 413, 414] (by decide +kernel) (by decide +kernel)
set_option maxRecDepth 20000 in
theorem gL_law_X4_plan : GoodIn wsL_law (wsV RL 55 RX4 yX4_plan wsX4_plan) := goodIn_app (goodIn_of _ (by decide +kernel)) ggL_law_X4_plan
set_option maxRecDepth 20000 in
theorem ggL_law_X5_plan : GoodIn wsL_law wsX5_plan := goodIn_r _ [346, 45, 253, 347, 44, 79, 80, 5, 81, 185, 186, 187, 188, 55, 255, 256, 257, 258, 348, 349, 350, 351, 53, 54, 263, 47, 264, 265, 266, 267, 50, 324, 325, 326, 320, 321, 322, 323, 51, 189, 190, 191, 192, 46, 48, 49, 272, 273, 274, 275, 352, 353, 354, 355, 391, 392, 393, 394, 395, 396, 397, 398, 399, 400, 401, 402, 403, 404] (by decide +kernel) (by decide +kernel)
set_option maxRecDepth 20000 in
theorem gL_law_X5_plan : GoodIn wsL_law (wsV RL 59 RX5 yX5_plan wsX5_plan) := goodIn_app (goodIn_of _ (by decide +kernel)) ggL_law_X5_plan
set_option maxRecDepth 20000 in
theorem ggL_law_X4_bold : GoodIn wsL_law wsX4_bold := goodIn_r _ [359, 21, 156, 157, 158, 2, 159, 28, 13, 60, 61, 62, 203, 204, 205, 206, 26, 27, 207, 208, 209, 18, 210, 36, 37, 38, 211, 212, 213, 214, 215, 216, 217, 218, 219, 220, 221, 222, 223, 224, 225, 226, 227, 228, 229, 230, 231, 232, 233, 234, 235, 236, 237, 238, 239, 240, 241, 242, 243, 244, 245, 246, 247, 248, 331, 332, 333, 334, 25, 335, 336, 337, 338, 22, 308, 309, 310, 311, 15, 312, 313, 314, 315, 339, 340, 341, 342, 380, 381, 382, 383, 384, 385, 386, 387, 388, 389, 390, 405, 406, 407, 408, 409, 419, 420, 421, 415, 416, 417, 418, 410, 411, 412, 413, 414] (by decide +kernel) (by decide +kernel)
set_option maxRecDepth 20000 in
theorem gL_law_X4_bold : GoodIn wsL_law (wsV RL 60 RX4 yX4_bold wsX4_bold) := goodIn_app (goodIn_of _ (by decide +kernel)) ggL_law_X4_bold
set_option maxRecDepth 20000 in
theorem ggL_law_X5_bold : GoodIn wsL_law wsX5_bold := goodIn_r _ [363, 45, 44, 52, 185, 186, 187, 5, 188, 55, 79, 80, 81, 255, 256, 257, 258, 348, 349, 350, 351, 53, 347, 54, 263, 47, 264, 265, 266, 267, 50, 324, 325, 326, 320, 321, 322, 323, 51, 189, 190, 191, 192, 46, 48, 49, 272, 273, 274, 275, 352, 353, 354, 355, 259, 260, 261, 262, 268, 269, 270, 271, 391, 392, 393, 394, 395, 396, 397, 398, 399, 400, 401, 402, 403, 404] (by decide +kernel) (by decide +kernel)
set_option maxRecDepth 20000 in
theorem gL_law_X5_bold : GoodIn wsL_law (wsV RL 63 RX5 yX5_bold wsX5_bold) := goodIn_app (goodIn_of _ (by decide +kernel)) ggL_law_X5_bold
set_option maxRecDepth 20000 in
theorem ggL_law_X4_count : GoodIn wsL_law wsX4_count := goodIn_r _ [367, 26, 27, 28, 380, 381, 382, 383, 384, 385, 386, 387, 388, 389, 390] (by decide +kernel) (by decide +kernel)
set_option maxRecDepth 20000 in
theorem gL_law_X4_count : GoodIn wsL_law (wsV RL 64 RX4 yX4_count wsX4_count) := goodIn_app (goodIn_of _ (by decide +kernel)) ggL_law_X4_count
set_option maxRecDepth 20000 in
theorem ggL_law_X5_count : GoodIn wsL_law wsX5_count := goodIn_r _ [371, 44, 45, 55, 391, 392, 393, 394, 395, 396, 397, 398, 399, 400, 401, 402, 403, 404] (by decide +kernel) (by decide +kernel)
set_option maxRecDepth 20000 in
theorem gL_law_X5_count : GoodIn wsL_law (wsV RL 68 RX5 yX5_count wsX5_count) := goodIn_app (goodIn_of _ (by decide +kernel)) ggL_law_X5_count
set_option maxRecDepth 20000 in
theorem ggL_law_X4_trace : GoodIn wsL_law wsX4_trace := goodIn_r _ [375, 29, 380, 381, 382, 383, 384, 385, 386, 387, 388, 389, 390] (by decide +kernel) (by decide +kernel)
set_option maxRecDepth 20000 in
theorem gL_law_X4_trace : GoodIn wsL_law (wsV RL 69 RX4 yX4_trace wsX4_trace) := goodIn_app (goodIn_of _ (by decide +kernel)) ggL_law_X4_trace
set_option maxRecDepth 20000 in
theorem ggL_law_X5_trace : GoodIn wsL_law wsX5_trace := goodIn_r _ [379, 182, 391, 392, 393, 394, 395, 396, 397, 398, 399, 400, 401, 402, 403, 404] (by decide +kernel) (by decide +kernel)
set_option maxRecDepth 20000 in
theorem gL_law_X5_trace : GoodIn wsL_law (wsV RL 73 RX5 yX5_trace wsX5_trace) := goodIn_app (goodIn_of _ (by decide +kernel)) ggL_law_X5_trace
theorem dL_law_0 : decode cL_law 0 = .ok (.new 7, 3) := by decide +kernel
theorem dL_law_3 : decode cL_law 3 = .ok (.dup, 1) := by decide +kernel
theorem dL_law_4 : decode cL_law 4 = .ok (.invokespecial 9, 3) := by decide +kernel
theorem dL_law_7 : decode cL_law 7 = .ok (.astore_n 1, 1) := by decide +kernel
theorem dL_law_8 : decode cL_law 8 = .ok (.new 10, 3) := by decide +kernel
theorem dL_law_11 : decode cL_law 11 = .ok (.dup, 1) := by decide +kernel
theorem dL_law_12 : decode cL_law 12 = .ok (.invokespecial 12, 3) := by decide +kernel
theorem dL_law_15 : decode cL_law 15 = .ok (.astore_n 2, 1) := by decide +kernel
theorem dL_law_16 : decode cL_law 16 = .ok (.iconst 0, 1) := by decide +kernel
theorem dL_law_17 : decode cL_law 17 = .ok (.istore_n 3, 1) := by decide +kernel
theorem dL_law_18 : decode cL_law 18 = .ok (.iload_n 3, 1) := by decide +kernel
theorem dL_law_19 : decode cL_law 19 = .ok (.aload_n 0, 1) := by decide +kernel
theorem dL_law_20 : decode cL_law 20 = .ok (.arraylength, 1) := by decide +kernel
theorem dL_law_21 : decode cL_law 21 = .ok (.bipush 6, 2) := by decide +kernel
theorem dL_law_23 : decode cL_law 23 = .ok (.isub, 1) := by decide +kernel
theorem dL_law_24 : decode cL_law 24 = .ok (.if_icmp .gt 556, 3) := by decide +kernel
theorem dL_law_27 : decode cL_law 27 = .ok (.aload_n 0, 1) := by decide +kernel
theorem dL_law_28 : decode cL_law 28 = .ok (.iload_n 3, 1) := by decide +kernel
theorem dL_law_29 : decode cL_law 29 = .ok (.iaload, 1) := by decide +kernel
theorem dL_law_30 : decode cL_law 30 = .ok (.bipush 15, 2) := by decide +kernel
theorem dL_law_32 : decode cL_law 32 = .ok (.iand, 1) := by decide +kernel
theorem dL_law_33 : decode cL_law 33 = .ok (.tableswitch 541 0 12 #[67, 100, 163, 176, 209, 243, 287, 321, 354, 397, 461, 504, 527], 67) := by decide +kernel
theorem dL_law_100 : decode cL_law 100 = .ok (.aload_n 1, 1) := by decide +kernel
theorem dL_law_101 : decode cL_law 101 = .ok (.aload_n 0, 1) := by decide +kernel
theorem dL_law_102 : decode cL_law 102 = .ok (.iload_n 3, 1) := by decide +kernel
theorem dL_law_103 : decode cL_law 103 = .ok (.iconst 1, 1) := by decide +kernel
theorem dL_law_104 : decode cL_law 104 = .ok (.iadd, 1) := by decide +kernel
theorem dL_law_105 : decode cL_law 105 = .ok (.iaload, 1) := by decide +kernel
theorem dL_law_106 : decode cL_law 106 = .ok (.aload_n 0, 1) := by decide +kernel
theorem dL_law_107 : decode cL_law 107 = .ok (.iload_n 3, 1) := by decide +kernel
theorem dL_law_108 : decode cL_law 108 = .ok (.iconst 2, 1) := by decide +kernel
theorem dL_law_109 : decode cL_law 109 = .ok (.iadd, 1) := by decide +kernel
theorem dL_law_110 : decode cL_law 110 = .ok (.iaload, 1) := by decide +kernel
theorem dL_law_111 : decode cL_law 111 = .ok (.invokevirtual 13, 3) := by decide +kernel
theorem dL_law_114 : decode cL_law 114 = .ok (.aload_n 2, 1) := by decide +kernel
theorem dL_law_115 : decode cL_law 115 = .ok (.aload_n 0, 1) := by decide +kernel
theorem dL_law_116 : decode cL_law 116 = .ok (.iload_n 3, 1) := by decide +kernel
theorem dL_law_117 : decode cL_law 117 = .ok (.iconst 1, 1) := by decide +kernel
theorem dL_law_118 : decode cL_law 118 = .ok (.iadd, 1) := by decide +kernel
theorem dL_law_119 : decode cL_law 119 = .ok (.iaload, 1) := by decide +kernel
theorem dL_law_120 : decode cL_law 120 = .ok (.aload_n 0, 1) := by decide +kernel
theorem dL_law_121 : decode cL_law 121 = .ok (.iload_n 3, 1) := by decide +kernel
theorem dL_law_122 : decode cL_law 122 = .ok (.iconst 2, 1) := by decide +kernel
theorem dL_law_123 : decode cL_law 123 = .ok (.iadd, 1) := by decide +kernel
theorem dL_law_124 : decode cL_law 124 = .ok (.iaload, 1) := by decide +kernel
theorem dL_law_125 : decode cL_law 125 = .ok (.invokevirtual 17, 3) := by decide +kernel
theorem dL_law_128 : decode cL_law 128 = .ok (.if_icmp .eq 446, 3) := by decide +kernel
theorem dL_law_131 : decode cL_law 131 = .ok (.iconst 0, 1) := by decide +kernel
theorem dL_law_132 : decode cL_law 132 = .ok (.ireturn, 1) := by decide +kernel
theorem dL_law_133 : decode cL_law 133 = .ok (.aload_n 1, 1) := by decide +kernel
theorem dL_law_134 : decode cL_law 134 = .ok (.aload_n 0, 1) := by decide +kernel
theorem dL_law_135 : decode cL_law 135 = .ok (.iload_n 3, 1) := by decide +kernel
theorem dL_law_136 : decode cL_law 136 = .ok (.iconst 1, 1) := by decide +kernel
theorem dL_law_137 : decode cL_law 137 = .ok (.iadd, 1) := by decide +kernel
theorem dL_law_138 : decode cL_law 138 = .ok (.iaload, 1) := by decide +kernel
theorem dL_law_139 : decode cL_law 139 = .ok (.aload_n 0, 1) := by decide +kernel
theorem dL_law_140 : decode cL_law 140 = .ok (.iload_n 3, 1) := by decide +kernel
theorem dL_law_141 : decode cL_law 141 = .ok (.iconst 2, 1) := by decide +kernel
theorem dL_law_142 : decode cL_law 142 = .ok (.iadd, 1) := by decide +kernel
theorem dL_law_143 : decode cL_law 143 = .ok (.iaload, 1) := by decide +kernel
theorem dL_law_144 : decode cL_law 144 = .ok (.aload_n 0, 1) := by decide +kernel
theorem dL_law_145 : decode cL_law 145 = .ok (.iload_n 3, 1) := by decide +kernel
theorem dL_law_146 : decode cL_law 146 = .ok (.iconst 3, 1) := by decide +kernel
theorem dL_law_147 : decode cL_law 147 = .ok (.iadd, 1) := by decide +kernel
theorem dL_law_148 : decode cL_law 148 = .ok (.iaload, 1) := by decide +kernel
theorem dL_law_149 : decode cL_law 149 = .ok (.aload_n 0, 1) := by decide +kernel
theorem dL_law_150 : decode cL_law 150 = .ok (.iload_n 3, 1) := by decide +kernel
theorem dL_law_151 : decode cL_law 151 = .ok (.iconst 4, 1) := by decide +kernel
theorem dL_law_152 : decode cL_law 152 = .ok (.iadd, 1) := by decide +kernel
theorem dL_law_153 : decode cL_law 153 = .ok (.iaload, 1) := by decide +kernel
theorem dL_law_154 : decode cL_law 154 = .ok (.aload_n 0, 1) := by decide +kernel
theorem dL_law_155 : decode cL_law 155 = .ok (.iload_n 3, 1) := by decide +kernel
theorem dL_law_156 : decode cL_law 156 = .ok (.iconst 5, 1) := by decide +kernel
theorem dL_law_157 : decode cL_law 157 = .ok (.iadd, 1) := by decide +kernel
theorem dL_law_158 : decode cL_law 158 = .ok (.iaload, 1) := by decide +kernel
theorem dL_law_159 : decode cL_law 159 = .ok (.invokevirtual 18, 3) := by decide +kernel
theorem dL_law_162 : decode cL_law 162 = .ok (.aload_n 2, 1) := by decide +kernel
theorem dL_law_163 : decode cL_law 163 = .ok (.aload_n 0, 1) := by decide +kernel
theorem dL_law_164 : decode cL_law 164 = .ok (.iload_n 3, 1) := by decide +kernel
theorem dL_law_165 : decode cL_law 165 = .ok (.iconst 1, 1) := by decide +kernel
theorem dL_law_166 : decode cL_law 166 = .ok (.iadd, 1) := by decide +kernel
theorem dL_law_167 : decode cL_law 167 = .ok (.iaload, 1) := by decide +kernel
theorem dL_law_168 : decode cL_law 168 = .ok (.aload_n 0, 1) := by decide +kernel
theorem dL_law_169 : decode cL_law 169 = .ok (.iload_n 3, 1) := by decide +kernel
theorem dL_law_170 : decode cL_law 170 = .ok (.iconst 2, 1) := by decide +kernel
theorem dL_law_171 : decode cL_law 171 = .ok (.iadd, 1) := by decide +kernel
theorem dL_law_172 : decode cL_law 172 = .ok (.iaload, 1) := by decide +kernel
theorem dL_law_173 : decode cL_law 173 = .ok (.aload_n 0, 1) := by decide +kernel
theorem dL_law_174 : decode cL_law 174 = .ok (.iload_n 3, 1) := by decide +kernel
theorem dL_law_175 : decode cL_law 175 = .ok (.iconst 3, 1) := by decide +kernel
theorem dL_law_176 : decode cL_law 176 = .ok (.iadd, 1) := by decide +kernel
theorem dL_law_177 : decode cL_law 177 = .ok (.iaload, 1) := by decide +kernel
theorem dL_law_178 : decode cL_law 178 = .ok (.aload_n 0, 1) := by decide +kernel
theorem dL_law_179 : decode cL_law 179 = .ok (.iload_n 3, 1) := by decide +kernel
theorem dL_law_180 : decode cL_law 180 = .ok (.iconst 4, 1) := by decide +kernel
theorem dL_law_181 : decode cL_law 181 = .ok (.iadd, 1) := by decide +kernel
theorem dL_law_182 : decode cL_law 182 = .ok (.iaload, 1) := by decide +kernel
theorem dL_law_183 : decode cL_law 183 = .ok (.aload_n 0, 1) := by decide +kernel
theorem dL_law_184 : decode cL_law 184 = .ok (.iload_n 3, 1) := by decide +kernel
theorem dL_law_185 : decode cL_law 185 = .ok (.iconst 5, 1) := by decide +kernel
theorem dL_law_186 : decode cL_law 186 = .ok (.iadd, 1) := by decide +kernel
theorem dL_law_187 : decode cL_law 187 = .ok (.iaload, 1) := by decide +kernel
theorem dL_law_188 : decode cL_law 188 = .ok (.invokevirtual 22, 3) := by decide +kernel
theorem dL_law_191 : decode cL_law 191 = .ok (.if_icmp .eq 383, 3) := by decide +kernel
theorem dL_law_194 : decode cL_law 194 = .ok (.iconst 0, 1) := by decide +kernel
theorem dL_law_195 : decode cL_law 195 = .ok (.ireturn, 1) := by decide +kernel
theorem dL_law_196 : decode cL_law 196 = .ok (.aload_n 1, 1) := by decide +kernel
theorem dL_law_197 : decode cL_law 197 = .ok (.invokevirtual 23, 3) := by decide +kernel
theorem dL_law_200 : decode cL_law 200 = .ok (.aload_n 2, 1) := by decide +kernel
theorem dL_law_201 : decode cL_law 201 = .ok (.invokevirtual 27, 3) := by decide +kernel
theorem dL_law_204 : decode cL_law 204 = .ok (.if_icmp .eq 370, 3) := by decide +kernel
theorem dL_law_207 : decode cL_law 207 = .ok (.iconst 0, 1) := by decide +kernel
theorem dL_law_208 : decode cL_law 208 = .ok (.ireturn, 1) := by decide +kernel
theorem dL_law_209 : decode cL_law 209 = .ok (.aload_n 1, 1) := by decide +kernel
theorem dL_law_210 : decode cL_law 210 = .ok (.aload_n 0, 1) := by decide +kernel
theorem dL_law_211 : decode cL_law 211 = .ok (.iload_n 3, 1) := by decide +kernel
theorem dL_law_212 : decode cL_law 212 = .ok (.iconst 1, 1) := by decide +kernel
theorem dL_law_213 : decode cL_law 213 = .ok (.iadd, 1) := by decide +kernel
theorem dL_law_214 : decode cL_law 214 = .ok (.iaload, 1) := by decide +kernel
theorem dL_law_215 : decode cL_law 215 = .ok (.aload_n 0, 1) := by decide +kernel
theorem dL_law_216 : decode cL_law 216 = .ok (.iload_n 3, 1) := by decide +kernel
theorem dL_law_217 : decode cL_law 217 = .ok (.iconst 2, 1) := by decide +kernel
theorem dL_law_218 : decode cL_law 218 = .ok (.iadd, 1) := by decide +kernel
theorem dL_law_219 : decode cL_law 219 = .ok (.iaload, 1) := by decide +kernel
theorem dL_law_220 : decode cL_law 220 = .ok (.invokevirtual 28, 3) := by decide +kernel
theorem dL_law_223 : decode cL_law 223 = .ok (.aload_n 2, 1) := by decide +kernel
theorem dL_law_224 : decode cL_law 224 = .ok (.aload_n 0, 1) := by decide +kernel
theorem dL_law_225 : decode cL_law 225 = .ok (.iload_n 3, 1) := by decide +kernel
theorem dL_law_226 : decode cL_law 226 = .ok (.iconst 1, 1) := by decide +kernel
theorem dL_law_227 : decode cL_law 227 = .ok (.iadd, 1) := by decide +kernel
theorem dL_law_228 : decode cL_law 228 = .ok (.iaload, 1) := by decide +kernel
theorem dL_law_229 : decode cL_law 229 = .ok (.aload_n 0, 1) := by decide +kernel
theorem dL_law_230 : decode cL_law 230 = .ok (.iload_n 3, 1) := by decide +kernel
theorem dL_law_231 : decode cL_law 231 = .ok (.iconst 2, 1) := by decide +kernel
theorem dL_law_232 : decode cL_law 232 = .ok (.iadd, 1) := by decide +kernel
theorem dL_law_233 : decode cL_law 233 = .ok (.iaload, 1) := by decide +kernel
theorem dL_law_234 : decode cL_law 234 = .ok (.invokevirtual 31, 3) := by decide +kernel
theorem dL_law_237 : decode cL_law 237 = .ok (.if_icmp .eq 337, 3) := by decide +kernel
theorem dL_law_240 : decode cL_law 240 = .ok (.iconst 0, 1) := by decide +kernel
theorem dL_law_241 : decode cL_law 241 = .ok (.ireturn, 1) := by decide +kernel
theorem dL_law_242 : decode cL_law 242 = .ok (.aload_n 1, 1) := by decide +kernel
theorem dL_law_243 : decode cL_law 243 = .ok (.aload_n 0, 1) := by decide +kernel
theorem dL_law_244 : decode cL_law 244 = .ok (.iload_n 3, 1) := by decide +kernel
theorem dL_law_245 : decode cL_law 245 = .ok (.iconst 1, 1) := by decide +kernel
theorem dL_law_246 : decode cL_law 246 = .ok (.iadd, 1) := by decide +kernel
theorem dL_law_247 : decode cL_law 247 = .ok (.iaload, 1) := by decide +kernel
theorem dL_law_248 : decode cL_law 248 = .ok (.aload_n 0, 1) := by decide +kernel
theorem dL_law_249 : decode cL_law 249 = .ok (.iload_n 3, 1) := by decide +kernel
theorem dL_law_250 : decode cL_law 250 = .ok (.iconst 2, 1) := by decide +kernel
theorem dL_law_251 : decode cL_law 251 = .ok (.iadd, 1) := by decide +kernel
theorem dL_law_252 : decode cL_law 252 = .ok (.iaload, 1) := by decide +kernel
theorem dL_law_253 : decode cL_law 253 = .ok (.invokevirtual 32, 3) := by decide +kernel
theorem dL_law_256 : decode cL_law 256 = .ok (.aload_n 2, 1) := by decide +kernel
theorem dL_law_257 : decode cL_law 257 = .ok (.aload_n 0, 1) := by decide +kernel
theorem dL_law_258 : decode cL_law 258 = .ok (.iload_n 3, 1) := by decide +kernel
theorem dL_law_259 : decode cL_law 259 = .ok (.iconst 1, 1) := by decide +kernel
theorem dL_law_260 : decode cL_law 260 = .ok (.iadd, 1) := by decide +kernel
theorem dL_law_261 : decode cL_law 261 = .ok (.iaload, 1) := by decide +kernel
theorem dL_law_262 : decode cL_law 262 = .ok (.aload_n 0, 1) := by decide +kernel
theorem dL_law_263 : decode cL_law 263 = .ok (.iload_n 3, 1) := by decide +kernel
theorem dL_law_264 : decode cL_law 264 = .ok (.iconst 2, 1) := by decide +kernel
theorem dL_law_265 : decode cL_law 265 = .ok (.iadd, 1) := by decide +kernel
theorem dL_law_266 : decode cL_law 266 = .ok (.iaload, 1) := by decide +kernel
theorem dL_law_267 : decode cL_law 267 = .ok (.invokevirtual 36, 3) := by decide +kernel
theorem dL_law_270 : decode cL_law 270 = .ok (.lcmp, 1) := by decide +kernel
theorem dL_law_271 : decode cL_law 271 = .ok (.ifCond .eq 303, 3) := by decide +kernel
theorem dL_law_274 : decode cL_law 274 = .ok (.iconst 0, 1) := by decide +kernel
theorem dL_law_275 : decode cL_law 275 = .ok (.ireturn, 1) := by decide +kernel
theorem dL_law_276 : decode cL_law 276 = .ok (.aload_n 1, 1) := by decide +kernel
theorem dL_law_277 : decode cL_law 277 = .ok (.aload_n 0, 1) := by decide +kernel
theorem dL_law_278 : decode cL_law 278 = .ok (.iload_n 3, 1) := by decide +kernel
theorem dL_law_279 : decode cL_law 279 = .ok (.iconst 1, 1) := by decide +kernel
theorem dL_law_280 : decode cL_law 280 = .ok (.iadd, 1) := by decide +kernel
theorem dL_law_281 : decode cL_law 281 = .ok (.iaload, 1) := by decide +kernel
theorem dL_law_282 : decode cL_law 282 = .ok (.aload_n 0, 1) := by decide +kernel
theorem dL_law_283 : decode cL_law 283 = .ok (.iload_n 3, 1) := by decide +kernel
theorem dL_law_284 : decode cL_law 284 = .ok (.iconst 2, 1) := by decide +kernel
theorem dL_law_285 : decode cL_law 285 = .ok (.iadd, 1) := by decide +kernel
theorem dL_law_286 : decode cL_law 286 = .ok (.iaload, 1) := by decide +kernel
theorem dL_law_287 : decode cL_law 287 = .ok (.aload_n 0, 1) := by decide +kernel
theorem dL_law_288 : decode cL_law 288 = .ok (.iload_n 3, 1) := by decide +kernel
theorem dL_law_289 : decode cL_law 289 = .ok (.iconst 3, 1) := by decide +kernel
theorem dL_law_290 : decode cL_law 290 = .ok (.iadd, 1) := by decide +kernel
theorem dL_law_291 : decode cL_law 291 = .ok (.iaload, 1) := by decide +kernel
theorem dL_law_292 : decode cL_law 292 = .ok (.invokevirtual 37, 3) := by decide +kernel
theorem dL_law_295 : decode cL_law 295 = .ok (.aload_n 2, 1) := by decide +kernel
theorem dL_law_296 : decode cL_law 296 = .ok (.aload_n 0, 1) := by decide +kernel
theorem dL_law_297 : decode cL_law 297 = .ok (.iload_n 3, 1) := by decide +kernel
theorem dL_law_298 : decode cL_law 298 = .ok (.iconst 1, 1) := by decide +kernel
theorem dL_law_299 : decode cL_law 299 = .ok (.iadd, 1) := by decide +kernel
theorem dL_law_300 : decode cL_law 300 = .ok (.iaload, 1) := by decide +kernel
theorem dL_law_301 : decode cL_law 301 = .ok (.aload_n 0, 1) := by decide +kernel
theorem dL_law_302 : decode cL_law 302 = .ok (.iload_n 3, 1) := by decide +kernel
theorem dL_law_303 : decode cL_law 303 = .ok (.iconst 2, 1) := by decide +kernel
theorem dL_law_304 : decode cL_law 304 = .ok (.iadd, 1) := by decide +kernel
theorem dL_law_305 : decode cL_law 305 = .ok (.iaload, 1) := by decide +kernel
theorem dL_law_306 : decode cL_law 306 = .ok (.aload_n 0, 1) := by decide +kernel
theorem dL_law_307 : decode cL_law 307 = .ok (.iload_n 3, 1) := by decide +kernel
theorem dL_law_308 : decode cL_law 308 = .ok (.iconst 3, 1) := by decide +kernel
theorem dL_law_309 : decode cL_law 309 = .ok (.iadd, 1) := by decide +kernel
theorem dL_law_310 : decode cL_law 310 = .ok (.iaload, 1) := by decide +kernel
theorem dL_law_311 : decode cL_law 311 = .ok (.invokevirtual 41, 3) := by decide +kernel
theorem dL_law_314 : decode cL_law 314 = .ok (.lcmp, 1) := by decide +kernel
theorem dL_law_315 : decode cL_law 315 = .ok (.ifCond .eq 259, 3) := by decide +kernel
theorem dL_law_318 : decode cL_law 318 = .ok (.iconst 0, 1) := by decide +kernel
theorem dL_law_319 : decode cL_law 319 = .ok (.ireturn, 1) := by decide +kernel
theorem dL_law_320 : decode cL_law 320 = .ok (.aload_n 1, 1) := by decide +kernel
theorem dL_law_321 : decode cL_law 321 = .ok (.aload_n 0, 1) := by decide +kernel
theorem dL_law_322 : decode cL_law 322 = .ok (.iload_n 3, 1) := by decide +kernel
theorem dL_law_323 : decode cL_law 323 = .ok (.iconst 1, 1) := by decide +kernel
theorem dL_law_324 : decode cL_law 324 = .ok (.iadd, 1) := by decide +kernel
theorem dL_law_325 : decode cL_law 325 = .ok (.iaload, 1) := by decide +kernel
theorem dL_law_326 : decode cL_law 326 = .ok (.aload_n 0, 1) := by decide +kernel
theorem dL_law_327 : decode cL_law 327 = .ok (.iload_n 3, 1) := by decide +kernel
theorem dL_law_328 : decode cL_law 328 = .ok (.iconst 2, 1) := by decide +kernel
theorem dL_law_329 : decode cL_law 329 = .ok (.iadd, 1) := by decide +kernel
theorem dL_law_330 : decode cL_law 330 = .ok (.iaload, 1) := by decide +kernel
theorem dL_law_331 : decode cL_law 331 = .ok (.invokevirtual 42, 3) := by decide +kernel
theorem dL_law_334 : decode cL_law 334 = .ok (.aload_n 2, 1) := by decide +kernel
theorem dL_law_335 : decode cL_law 335 = .ok (.aload_n 0, 1) := by decide +kernel
theorem dL_law_336 : decode cL_law 336 = .ok (.iload_n 3, 1) := by decide +kernel
theorem dL_law_337 : decode cL_law 337 = .ok (.iconst 1, 1) := by decide +kernel
theorem dL_law_338 : decode cL_law 338 = .ok (.iadd, 1) := by decide +kernel
theorem dL_law_339 : decode cL_law 339 = .ok (.iaload, 1) := by decide +kernel
theorem dL_law_340 : decode cL_law 340 = .ok (.aload_n 0, 1) := by decide +kernel
theorem dL_law_341 : decode cL_law 341 = .ok (.iload_n 3, 1) := by decide +kernel
theorem dL_law_342 : decode cL_law 342 = .ok (.iconst 2, 1) := by decide +kernel
theorem dL_law_343 : decode cL_law 343 = .ok (.iadd, 1) := by decide +kernel
theorem dL_law_344 : decode cL_law 344 = .ok (.iaload, 1) := by decide +kernel
theorem dL_law_345 : decode cL_law 345 = .ok (.invokevirtual 45, 3) := by decide +kernel
theorem dL_law_348 : decode cL_law 348 = .ok (.lcmp, 1) := by decide +kernel
theorem dL_law_349 : decode cL_law 349 = .ok (.ifCond .eq 225, 3) := by decide +kernel
theorem dL_law_352 : decode cL_law 352 = .ok (.iconst 0, 1) := by decide +kernel
theorem dL_law_353 : decode cL_law 353 = .ok (.ireturn, 1) := by decide +kernel
theorem dL_law_354 : decode cL_law 354 = .ok (.aload_n 1, 1) := by decide +kernel
theorem dL_law_355 : decode cL_law 355 = .ok (.aload_n 0, 1) := by decide +kernel
theorem dL_law_356 : decode cL_law 356 = .ok (.iload_n 3, 1) := by decide +kernel
theorem dL_law_357 : decode cL_law 357 = .ok (.iconst 1, 1) := by decide +kernel
theorem dL_law_358 : decode cL_law 358 = .ok (.iadd, 1) := by decide +kernel
theorem dL_law_359 : decode cL_law 359 = .ok (.iaload, 1) := by decide +kernel
theorem dL_law_360 : decode cL_law 360 = .ok (.aload_n 0, 1) := by decide +kernel
theorem dL_law_361 : decode cL_law 361 = .ok (.iload_n 3, 1) := by decide +kernel
theorem dL_law_362 : decode cL_law 362 = .ok (.iconst 2, 1) := by decide +kernel
theorem dL_law_363 : decode cL_law 363 = .ok (.iadd, 1) := by decide +kernel
theorem dL_law_364 : decode cL_law 364 = .ok (.iaload, 1) := by decide +kernel
theorem dL_law_365 : decode cL_law 365 = .ok (.invokevirtual 46, 3) := by decide +kernel
theorem dL_law_368 : decode cL_law 368 = .ok (.aload_n 2, 1) := by decide +kernel
theorem dL_law_369 : decode cL_law 369 = .ok (.aload_n 0, 1) := by decide +kernel
theorem dL_law_370 : decode cL_law 370 = .ok (.iload_n 3, 1) := by decide +kernel
theorem dL_law_371 : decode cL_law 371 = .ok (.iconst 1, 1) := by decide +kernel
theorem dL_law_372 : decode cL_law 372 = .ok (.iadd, 1) := by decide +kernel
theorem dL_law_373 : decode cL_law 373 = .ok (.iaload, 1) := by decide +kernel
theorem dL_law_374 : decode cL_law 374 = .ok (.aload_n 0, 1) := by decide +kernel
theorem dL_law_375 : decode cL_law 375 = .ok (.iload_n 3, 1) := by decide +kernel
theorem dL_law_376 : decode cL_law 376 = .ok (.iconst 2, 1) := by decide +kernel
theorem dL_law_377 : decode cL_law 377 = .ok (.iadd, 1) := by decide +kernel
theorem dL_law_378 : decode cL_law 378 = .ok (.iaload, 1) := by decide +kernel
theorem dL_law_379 : decode cL_law 379 = .ok (.invokevirtual 49, 3) := by decide +kernel
theorem dL_law_382 : decode cL_law 382 = .ok (.if_icmp .eq 192, 3) := by decide +kernel
theorem dL_law_385 : decode cL_law 385 = .ok (.iconst 0, 1) := by decide +kernel
theorem dL_law_386 : decode cL_law 386 = .ok (.ireturn, 1) := by decide +kernel
theorem dL_law_387 : decode cL_law 387 = .ok (.aload_n 1, 1) := by decide +kernel
theorem dL_law_388 : decode cL_law 388 = .ok (.aload_n 0, 1) := by decide +kernel
theorem dL_law_389 : decode cL_law 389 = .ok (.iload_n 3, 1) := by decide +kernel
theorem dL_law_390 : decode cL_law 390 = .ok (.iconst 1, 1) := by decide +kernel
theorem dL_law_391 : decode cL_law 391 = .ok (.iadd, 1) := by decide +kernel
theorem dL_law_392 : decode cL_law 392 = .ok (.iaload, 1) := by decide +kernel
theorem dL_law_393 : decode cL_law 393 = .ok (.aload_n 0, 1) := by decide +kernel
theorem dL_law_394 : decode cL_law 394 = .ok (.iload_n 3, 1) := by decide +kernel
theorem dL_law_395 : decode cL_law 395 = .ok (.iconst 2, 1) := by decide +kernel
theorem dL_law_396 : decode cL_law 396 = .ok (.iadd, 1) := by decide +kernel
theorem dL_law_397 : decode cL_law 397 = .ok (.iaload, 1) := by decide +kernel
theorem dL_law_398 : decode cL_law 398 = .ok (.aload_n 0, 1) := by decide +kernel
theorem dL_law_399 : decode cL_law 399 = .ok (.iload_n 3, 1) := by decide +kernel
theorem dL_law_400 : decode cL_law 400 = .ok (.iconst 3, 1) := by decide +kernel
theorem dL_law_401 : decode cL_law 401 = .ok (.iadd, 1) := by decide +kernel
theorem dL_law_402 : decode cL_law 402 = .ok (.iaload, 1) := by decide +kernel
theorem dL_law_403 : decode cL_law 403 = .ok (.invokevirtual 50, 3) := by decide +kernel
theorem dL_law_406 : decode cL_law 406 = .ok (.aload_n 2, 1) := by decide +kernel
theorem dL_law_407 : decode cL_law 407 = .ok (.aload_n 0, 1) := by decide +kernel
theorem dL_law_408 : decode cL_law 408 = .ok (.iload_n 3, 1) := by decide +kernel
theorem dL_law_409 : decode cL_law 409 = .ok (.iconst 1, 1) := by decide +kernel
theorem dL_law_410 : decode cL_law 410 = .ok (.iadd, 1) := by decide +kernel
theorem dL_law_411 : decode cL_law 411 = .ok (.iaload, 1) := by decide +kernel
theorem dL_law_412 : decode cL_law 412 = .ok (.aload_n 0, 1) := by decide +kernel
theorem dL_law_413 : decode cL_law 413 = .ok (.iload_n 3, 1) := by decide +kernel
theorem dL_law_414 : decode cL_law 414 = .ok (.iconst 2, 1) := by decide +kernel
theorem dL_law_415 : decode cL_law 415 = .ok (.iadd, 1) := by decide +kernel
theorem dL_law_416 : decode cL_law 416 = .ok (.iaload, 1) := by decide +kernel
theorem dL_law_417 : decode cL_law 417 = .ok (.aload_n 0, 1) := by decide +kernel
theorem dL_law_418 : decode cL_law 418 = .ok (.iload_n 3, 1) := by decide +kernel
theorem dL_law_419 : decode cL_law 419 = .ok (.iconst 3, 1) := by decide +kernel
theorem dL_law_420 : decode cL_law 420 = .ok (.iadd, 1) := by decide +kernel
theorem dL_law_421 : decode cL_law 421 = .ok (.iaload, 1) := by decide +kernel
theorem dL_law_422 : decode cL_law 422 = .ok (.invokevirtual 54, 3) := by decide +kernel
theorem dL_law_425 : decode cL_law 425 = .ok (.if_icmp .eq 149, 3) := by decide +kernel
theorem dL_law_428 : decode cL_law 428 = .ok (.iconst 0, 1) := by decide +kernel
theorem dL_law_429 : decode cL_law 429 = .ok (.ireturn, 1) := by decide +kernel
theorem dL_law_430 : decode cL_law 430 = .ok (.aload_n 1, 1) := by decide +kernel
theorem dL_law_431 : decode cL_law 431 = .ok (.aload_n 0, 1) := by decide +kernel
theorem dL_law_432 : decode cL_law 432 = .ok (.iload_n 3, 1) := by decide +kernel
theorem dL_law_433 : decode cL_law 433 = .ok (.iconst 1, 1) := by decide +kernel
theorem dL_law_434 : decode cL_law 434 = .ok (.iadd, 1) := by decide +kernel
theorem dL_law_435 : decode cL_law 435 = .ok (.iaload, 1) := by decide +kernel
theorem dL_law_436 : decode cL_law 436 = .ok (.aload_n 0, 1) := by decide +kernel
theorem dL_law_437 : decode cL_law 437 = .ok (.iload_n 3, 1) := by decide +kernel
theorem dL_law_438 : decode cL_law 438 = .ok (.iconst 2, 1) := by decide +kernel
theorem dL_law_439 : decode cL_law 439 = .ok (.iadd, 1) := by decide +kernel
theorem dL_law_440 : decode cL_law 440 = .ok (.iaload, 1) := by decide +kernel
theorem dL_law_441 : decode cL_law 441 = .ok (.aload_n 0, 1) := by decide +kernel
theorem dL_law_442 : decode cL_law 442 = .ok (.iload_n 3, 1) := by decide +kernel
theorem dL_law_443 : decode cL_law 443 = .ok (.iconst 3, 1) := by decide +kernel
theorem dL_law_444 : decode cL_law 444 = .ok (.iadd, 1) := by decide +kernel
theorem dL_law_445 : decode cL_law 445 = .ok (.iaload, 1) := by decide +kernel
theorem dL_law_446 : decode cL_law 446 = .ok (.aload_n 0, 1) := by decide +kernel
theorem dL_law_447 : decode cL_law 447 = .ok (.iload_n 3, 1) := by decide +kernel
theorem dL_law_448 : decode cL_law 448 = .ok (.iconst 4, 1) := by decide +kernel
theorem dL_law_449 : decode cL_law 449 = .ok (.iadd, 1) := by decide +kernel
theorem dL_law_450 : decode cL_law 450 = .ok (.iaload, 1) := by decide +kernel
theorem dL_law_451 : decode cL_law 451 = .ok (.aload_n 0, 1) := by decide +kernel
theorem dL_law_452 : decode cL_law 452 = .ok (.iload_n 3, 1) := by decide +kernel
theorem dL_law_453 : decode cL_law 453 = .ok (.iconst 5, 1) := by decide +kernel
theorem dL_law_454 : decode cL_law 454 = .ok (.iadd, 1) := by decide +kernel
theorem dL_law_455 : decode cL_law 455 = .ok (.iaload, 1) := by decide +kernel
theorem dL_law_456 : decode cL_law 456 = .ok (.invokevirtual 55, 3) := by decide +kernel
theorem dL_law_459 : decode cL_law 459 = .ok (.aload_n 2, 1) := by decide +kernel
theorem dL_law_460 : decode cL_law 460 = .ok (.aload_n 0, 1) := by decide +kernel
theorem dL_law_461 : decode cL_law 461 = .ok (.iload_n 3, 1) := by decide +kernel
theorem dL_law_462 : decode cL_law 462 = .ok (.iconst 1, 1) := by decide +kernel
theorem dL_law_463 : decode cL_law 463 = .ok (.iadd, 1) := by decide +kernel
theorem dL_law_464 : decode cL_law 464 = .ok (.iaload, 1) := by decide +kernel
theorem dL_law_465 : decode cL_law 465 = .ok (.aload_n 0, 1) := by decide +kernel
theorem dL_law_466 : decode cL_law 466 = .ok (.iload_n 3, 1) := by decide +kernel
theorem dL_law_467 : decode cL_law 467 = .ok (.iconst 2, 1) := by decide +kernel
theorem dL_law_468 : decode cL_law 468 = .ok (.iadd, 1) := by decide +kernel
theorem dL_law_469 : decode cL_law 469 = .ok (.iaload, 1) := by decide +kernel
theorem dL_law_470 : decode cL_law 470 = .ok (.aload_n 0, 1) := by decide +kernel
theorem dL_law_471 : decode cL_law 471 = .ok (.iload_n 3, 1) := by decide +kernel
theorem dL_law_472 : decode cL_law 472 = .ok (.iconst 3, 1) := by decide +kernel
theorem dL_law_473 : decode cL_law 473 = .ok (.iadd, 1) := by decide +kernel
theorem dL_law_474 : decode cL_law 474 = .ok (.iaload, 1) := by decide +kernel
theorem dL_law_475 : decode cL_law 475 = .ok (.aload_n 0, 1) := by decide +kernel
theorem dL_law_476 : decode cL_law 476 = .ok (.iload_n 3, 1) := by decide +kernel
theorem dL_law_477 : decode cL_law 477 = .ok (.iconst 4, 1) := by decide +kernel
theorem dL_law_478 : decode cL_law 478 = .ok (.iadd, 1) := by decide +kernel
theorem dL_law_479 : decode cL_law 479 = .ok (.iaload, 1) := by decide +kernel
theorem dL_law_480 : decode cL_law 480 = .ok (.aload_n 0, 1) := by decide +kernel
theorem dL_law_481 : decode cL_law 481 = .ok (.iload_n 3, 1) := by decide +kernel
theorem dL_law_482 : decode cL_law 482 = .ok (.iconst 5, 1) := by decide +kernel
theorem dL_law_483 : decode cL_law 483 = .ok (.iadd, 1) := by decide +kernel
theorem dL_law_484 : decode cL_law 484 = .ok (.iaload, 1) := by decide +kernel
theorem dL_law_485 : decode cL_law 485 = .ok (.invokevirtual 59, 3) := by decide +kernel
theorem dL_law_488 : decode cL_law 488 = .ok (.lcmp, 1) := by decide +kernel
theorem dL_law_489 : decode cL_law 489 = .ok (.ifCond .eq 85, 3) := by decide +kernel
theorem dL_law_492 : decode cL_law 492 = .ok (.iconst 0, 1) := by decide +kernel
theorem dL_law_493 : decode cL_law 493 = .ok (.ireturn, 1) := by decide +kernel
theorem dL_law_494 : decode cL_law 494 = .ok (.aload_n 1, 1) := by decide +kernel
theorem dL_law_495 : decode cL_law 495 = .ok (.aload_n 0, 1) := by decide +kernel
theorem dL_law_496 : decode cL_law 496 = .ok (.iload_n 3, 1) := by decide +kernel
theorem dL_law_497 : decode cL_law 497 = .ok (.iconst 1, 1) := by decide +kernel
theorem dL_law_498 : decode cL_law 498 = .ok (.iadd, 1) := by decide +kernel
theorem dL_law_499 : decode cL_law 499 = .ok (.iaload, 1) := by decide +kernel
theorem dL_law_500 : decode cL_law 500 = .ok (.aload_n 0, 1) := by decide +kernel
theorem dL_law_501 : decode cL_law 501 = .ok (.iload_n 3, 1) := by decide +kernel
theorem dL_law_502 : decode cL_law 502 = .ok (.iconst 2, 1) := by decide +kernel
theorem dL_law_503 : decode cL_law 503 = .ok (.iadd, 1) := by decide +kernel
theorem dL_law_504 : decode cL_law 504 = .ok (.iaload, 1) := by decide +kernel
theorem dL_law_505 : decode cL_law 505 = .ok (.aload_n 0, 1) := by decide +kernel
theorem dL_law_506 : decode cL_law 506 = .ok (.iload_n 3, 1) := by decide +kernel
theorem dL_law_507 : decode cL_law 507 = .ok (.iconst 3, 1) := by decide +kernel
theorem dL_law_508 : decode cL_law 508 = .ok (.iadd, 1) := by decide +kernel
theorem dL_law_509 : decode cL_law 509 = .ok (.iaload, 1) := by decide +kernel
theorem dL_law_510 : decode cL_law 510 = .ok (.invokevirtual 60, 3) := by decide +kernel
theorem dL_law_513 : decode cL_law 513 = .ok (.aload_n 2, 1) := by decide +kernel
theorem dL_law_514 : decode cL_law 514 = .ok (.aload_n 0, 1) := by decide +kernel
theorem dL_law_515 : decode cL_law 515 = .ok (.iload_n 3, 1) := by decide +kernel
theorem dL_law_516 : decode cL_law 516 = .ok (.iconst 1, 1) := by decide +kernel
theorem dL_law_517 : decode cL_law 517 = .ok (.iadd, 1) := by decide +kernel
theorem dL_law_518 : decode cL_law 518 = .ok (.iaload, 1) := by decide +kernel
theorem dL_law_519 : decode cL_law 519 = .ok (.aload_n 0, 1) := by decide +kernel
theorem dL_law_520 : decode cL_law 520 = .ok (.iload_n 3, 1) := by decide +kernel
theorem dL_law_521 : decode cL_law 521 = .ok (.iconst 2, 1) := by decide +kernel
theorem dL_law_522 : decode cL_law 522 = .ok (.iadd, 1) := by decide +kernel
theorem dL_law_523 : decode cL_law 523 = .ok (.iaload, 1) := by decide +kernel
theorem dL_law_524 : decode cL_law 524 = .ok (.aload_n 0, 1) := by decide +kernel
theorem dL_law_525 : decode cL_law 525 = .ok (.iload_n 3, 1) := by decide +kernel
theorem dL_law_526 : decode cL_law 526 = .ok (.iconst 3, 1) := by decide +kernel
theorem dL_law_527 : decode cL_law 527 = .ok (.iadd, 1) := by decide +kernel
theorem dL_law_528 : decode cL_law 528 = .ok (.iaload, 1) := by decide +kernel
theorem dL_law_529 : decode cL_law 529 = .ok (.invokevirtual 63, 3) := by decide +kernel
theorem dL_law_532 : decode cL_law 532 = .ok (.if_icmp .eq 42, 3) := by decide +kernel
theorem dL_law_535 : decode cL_law 535 = .ok (.iconst 0, 1) := by decide +kernel
theorem dL_law_536 : decode cL_law 536 = .ok (.ireturn, 1) := by decide +kernel
theorem dL_law_537 : decode cL_law 537 = .ok (.aload_n 1, 1) := by decide +kernel
theorem dL_law_538 : decode cL_law 538 = .ok (.aload_n 0, 1) := by decide +kernel
theorem dL_law_539 : decode cL_law 539 = .ok (.iload_n 3, 1) := by decide +kernel
theorem dL_law_540 : decode cL_law 540 = .ok (.iconst 1, 1) := by decide +kernel
theorem dL_law_541 : decode cL_law 541 = .ok (.iadd, 1) := by decide +kernel
theorem dL_law_542 : decode cL_law 542 = .ok (.iaload, 1) := by decide +kernel
theorem dL_law_543 : decode cL_law 543 = .ok (.invokevirtual 64, 3) := by decide +kernel
theorem dL_law_546 : decode cL_law 546 = .ok (.aload_n 2, 1) := by decide +kernel
theorem dL_law_547 : decode cL_law 547 = .ok (.aload_n 0, 1) := by decide +kernel
theorem dL_law_548 : decode cL_law 548 = .ok (.iload_n 3, 1) := by decide +kernel
theorem dL_law_549 : decode cL_law 549 = .ok (.iconst 1, 1) := by decide +kernel
theorem dL_law_550 : decode cL_law 550 = .ok (.iadd, 1) := by decide +kernel
theorem dL_law_551 : decode cL_law 551 = .ok (.iaload, 1) := by decide +kernel
theorem dL_law_552 : decode cL_law 552 = .ok (.invokevirtual 68, 3) := by decide +kernel
theorem dL_law_555 : decode cL_law 555 = .ok (.if_icmp .eq 19, 3) := by decide +kernel
theorem dL_law_558 : decode cL_law 558 = .ok (.iconst 0, 1) := by decide +kernel
theorem dL_law_559 : decode cL_law 559 = .ok (.ireturn, 1) := by decide +kernel
theorem dL_law_560 : decode cL_law 560 = .ok (.aload_n 1, 1) := by decide +kernel
theorem dL_law_561 : decode cL_law 561 = .ok (.invokevirtual 69, 3) := by decide +kernel
theorem dL_law_564 : decode cL_law 564 = .ok (.aload_n 2, 1) := by decide +kernel
theorem dL_law_565 : decode cL_law 565 = .ok (.invokevirtual 73, 3) := by decide +kernel
theorem dL_law_568 : decode cL_law 568 = .ok (.lcmp, 1) := by decide +kernel
theorem dL_law_569 : decode cL_law 569 = .ok (.ifCond .eq 5, 3) := by decide +kernel
theorem dL_law_572 : decode cL_law 572 = .ok (.iconst 0, 1) := by decide +kernel
theorem dL_law_573 : decode cL_law 573 = .ok (.ireturn, 1) := by decide +kernel
theorem dL_law_574 : decode cL_law 574 = .ok (.iinc 3 6, 3) := by decide +kernel
theorem dL_law_577 : decode cL_law 577 = .ok (.goto (-559), 3) := by decide +kernel
theorem dL_law_580 : decode cL_law 580 = .ok (.iconst 1, 1) := by decide +kernel
theorem dL_law_581 : decode cL_law 581 = .ok (.ireturn, 1) := by decide +kernel

