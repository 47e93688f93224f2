def mX0_init : jMD := (RX0, yX0_init, cX0_init, 3, none)
theorem ok_X0_init : jMok mX0_init := ⟨rfl, by decide +kernel⟩
def mX0_fall : jMD := (RX0, yX0_fall, cX0_fall, 4, none)
theorem ok_X0_fall : jMok mX0_fall := ⟨rfl, by decide +kernel⟩
def mX0_come : jMD := (RX0, yX0_come, cX0_come, 5, none)
theorem ok_X0_come : jMok mX0_come := ⟨rfl, by decide +kernel⟩
def mX0_settle : jMD := (RX0, yX0_settle, cX0_settle, 5, none)
theorem ok_X0_settle : jMok mX0_settle := ⟨rfl, by decide +kernel⟩
def mX0_part : jMD := (RX0, yX0_part, cX0_part, 5, (some .long))
theorem ok_X0_part : jMok mX0_part := ⟨rfl, by decide +kernel⟩
def mX1_init : jMD := (RX1, yX1_init, cX1_init, 1, none)
theorem ok_X1_init : jMok mX1_init := ⟨rfl, by decide +kernel⟩
def mX1_perform : jMD := (RX1, yX1_perform, cX1_perform, 6, (some .int))
theorem ok_X1_perform : jMok mX1_perform := ⟨rfl, by decide +kernel⟩
def mX1_run : jMD := (RX1, yX1_run, cX1_run, 9, (some .int))
theorem ok_X1_run : jMok mX1_run := ⟨rfl, by decide +kernel⟩
def mX1_holderFrom : jMD := (RX1, yX1_holderFrom, cX1_holderFrom, 4, (some .int))
theorem ok_X1_holderFrom : jMok mX1_holderFrom := ⟨rfl, by decide +kernel⟩
def mX1_note : jMD := (RX1, yX1_note, cX1_note, 2, none)
theorem ok_X1_note : jMok mX1_note := ⟨rfl, by decide +kernel⟩
def mX2_init : jMD := (RX2, yX2_init, cX2_init, 1, none)
theorem ok_X2_init : jMok mX2_init := ⟨rfl, by decide +kernel⟩
def mX2_hasSuit : jMD := (RX2, yX2_hasSuit, cX2_hasSuit, 2, (some .boolean))
theorem ok_X2_hasSuit : jMok mX2_hasSuit := ⟨rfl, by decide +kernel⟩
def mX2_hasSuits : jMD := (RX2, yX2_hasSuits, cX2_hasSuits, 2, (some .boolean))
theorem ok_X2_hasSuits : jMok mX2_hasSuits := ⟨rfl, by decide +kernel⟩
def mX2_hasJudge : jMD := (RX2, yX2_hasJudge, cX2_hasJudge, 2, (some .boolean))
theorem ok_X2_hasJudge : jMok mX2_hasJudge := ⟨rfl, by decide +kernel⟩
def mX2_pointsOf : jMD := (RX2, yX2_pointsOf, cX2_pointsOf, 2, (some .int))
theorem ok_X2_pointsOf : jMok mX2_pointsOf := ⟨rfl, by decide +kernel⟩
def mX2_worthOf : jMD := (RX2, yX2_worthOf, cX2_worthOf, 2, (some .int))
theorem ok_X2_worthOf : jMok mX2_worthOf := ⟨rfl, by decide +kernel⟩
def mX2_kindOf : jMD := (RX2, yX2_kindOf, cX2_kindOf, 2, (some .int))
theorem ok_X2_kindOf : jMok mX2_kindOf := ⟨rfl, by decide +kernel⟩
def mX2_numberOf : jMD := (RX2, yX2_numberOf, cX2_numberOf, 2, (some .int))
theorem ok_X2_numberOf : jMok mX2_numberOf := ⟨rfl, by decide +kernel⟩
def mX2_write : jMD := (RX2, yX2_write, cX2_write, 3, none)
theorem ok_X2_write : jMok mX2_write := ⟨rfl, by decide +kernel⟩
def mX2_become : jMD := (RX2, yX2_become, cX2_become, 2, none)
theorem ok_X2_become : jMok mX2_become := ⟨rfl, by decide +kernel⟩
def mX3_init : jMD := (RX3, yX3_init, cX3_init, 1, none)
theorem ok_X3_init : jMok mX3_init := ⟨rfl, by decide +kernel⟩
def mX3_learn : jMD := (RX3, yX3_learn, cX3_learn, 8, (some .int))
theorem ok_X3_learn : jMok mX3_learn := ⟨rfl, by decide +kernel⟩
def mX3_goesOn : jMD := (RX3, yX3_goesOn, cX3_goesOn, 2, (some .boolean))
theorem ok_X3_goesOn : jMok mX3_goesOn := ⟨rfl, by decide +kernel⟩
def mX3_beginsClause : jMD := (RX3, yX3_beginsClause, cX3_beginsClause, 2, (some .boolean))
theorem ok_X3_beginsClause : jMok mX3_beginsClause := ⟨rfl, by decide +kernel⟩
def mX3_goesOnWord : jMD := (RX3, yX3_goesOnWord, cX3_goesOnWord, 3, (some .boolean))
theorem ok_X3_goesOnWord : jMok mX3_goesOnWord := ⟨rfl, by decide +kernel⟩
def mX3_beginNumber : jMD := (RX3, yX3_beginNumber, cX3_beginNumber, 2, none)
theorem ok_X3_beginNumber : jMok mX3_beginNumber := ⟨rfl, by decide +kernel⟩
def mX3_isDigit : jMD := (RX3, yX3_isDigit, cX3_isDigit, 2, (some .boolean))
theorem ok_X3_isDigit : jMok mX3_isDigit := ⟨rfl, by decide +kernel⟩
def mX3_endsAmount : jMD := (RX3, yX3_endsAmount, cX3_endsAmount, 2, (some .boolean))
theorem ok_X3_endsAmount : jMok mX3_endsAmount := ⟨rfl, by decide +kernel⟩
def mX3_beginsFactor : jMD := (RX3, yX3_beginsFactor, cX3_beginsFactor, 2, (some .boolean))
theorem ok_X3_beginsFactor : jMok mX3_beginsFactor := ⟨rfl, by decide +kernel⟩
def mX3_compares : jMD := (RX3, yX3_compares, cX3_compares, 2, (some .boolean))
theorem ok_X3_compares : jMok mX3_compares := ⟨rfl, by decide +kernel⟩
def mX3_endsTest : jMD := (RX3, yX3_endsTest, cX3_endsTest, 5, (some .boolean))
theorem ok_X3_endsTest : jMok mX3_endsTest := ⟨rfl, by decide +kernel⟩
def mX3_endFactor : jMD := (RX3, yX3_endFactor, cX3_endFactor, 4, none)
theorem ok_X3_endFactor : jMok mX3_endFactor := ⟨rfl, by decide +kernel⟩
def mX3_goesBehind : jMD := (RX3, yX3_goesBehind, cX3_goesBehind, 3, (some .boolean))
theorem ok_X3_goesBehind : jMok mX3_goesBehind := ⟨rfl, by decide +kernel⟩
def mX3_grow : jMD := (RX3, yX3_grow, cX3_grow, 4, none)
theorem ok_X3_grow : jMok mX3_grow := ⟨rfl, by decide +kernel⟩
def mX4_init : jMD := (RX4, yX4_init, cX4_init, 3, none)
theorem ok_X4_init : jMok mX4_init := ⟨rfl, by decide +kernel⟩
def mX4_prepareSuits : jMD := (RX4, yX4_prepareSuits, cX4_prepareSuits, 3, none)
theorem ok_X4_prepareSuits : jMok mX4_prepareSuits := ⟨rfl, by decide +kernel⟩
def mX4_order : jMD := (RX4, yX4_order, cX4_order, 3, none)
theorem ok_X4_order : jMok mX4_order := ⟨rfl, by decide +kernel⟩
def mX4_bring : jMD := (RX4, yX4_bring, cX4_bring, 6, none)
theorem ok_X4_bring : jMok mX4_bring := ⟨rfl, by decide +kernel⟩
def mX4_against : jMD := (RX4, yX4_against, cX4_against, 4, (some .int))
theorem ok_X4_against : jMok mX4_against := ⟨rfl, by decide +kernel⟩
def mX4_turns : jMD := (RX4, yX4_turns, cX4_turns, 15, (some .int))
theorem ok_X4_turns : jMok mX4_turns := ⟨rfl, by decide +kernel⟩
def mX4_shamsAhead : jMD := (RX4, yX4_shamsAhead, cX4_shamsAhead, 4, (some .int))
theorem ok_X4_shamsAhead : jMok mX4_shamsAhead := ⟨rfl, by decide +kernel⟩
def mX4_winsBehind : jMD := (RX4, yX4_winsBehind, cX4_winsBehind, 3, (some .boolean))
theorem ok_X4_winsBehind : jMok mX4_winsBehind := ⟨rfl, by decide +kernel⟩
def mX5_init : jMD := (RX5, yX5_init, cX5_init, 1, none)
theorem ok_X5_init : jMok mX5_init := ⟨rfl, by decide +kernel⟩
def mX5_open : jMD := (RX5, yX5_open, cX5_open, 6, none)
theorem ok_X5_open : jMok mX5_open := ⟨rfl, by decide +kernel⟩
def mX5_addUp : jMD := (RX5, yX5_addUp, cX5_addUp, 5, none)
theorem ok_X5_addUp : jMok mX5_addUp := ⟨rfl, by decide +kernel⟩
def mX5_setBar : jMD := (RX5, yX5_setBar, cX5_setBar, 2, none)
theorem ok_X5_setBar : jMok mX5_setBar := ⟨rfl, by decide +kernel⟩
def mX5_alike : jMD := (RX5, yX5_alike, cX5_alike, 3, (some .int))
theorem ok_X5_alike : jMok mX5_alike := ⟨rfl, by decide +kernel⟩
def mX5_push : jMD := (RX5, yX5_push, cX5_push, 3, none)
theorem ok_X5_push : jMok mX5_push := ⟨rfl, by decide +kernel⟩
def mX5_pop : jMD := (RX5, yX5_pop, cX5_pop, 1, none)
theorem ok_X5_pop : jMok mX5_pop := ⟨rfl, by decide +kernel⟩
def mX5_turn : jMD := (RX5, yX5_turn, cX5_turn, 2, none)
theorem ok_X5_turn : jMok mX5_turn := ⟨rfl, by decide +kernel⟩
def mX5_wasFor : jMD := (RX5, yX5_wasFor, cX5_wasFor, 2, (some .boolean))
theorem ok_X5_wasFor : jMok mX5_wasFor := ⟨rfl, by decide +kernel⟩
def mX5_follow : jMD := (RX5, yX5_follow, cX5_follow, 6, none)
theorem ok_X5_follow : jMok mX5_follow := ⟨rfl, by decide +kernel⟩
def mX5_rowTells : jMD := (RX5, yX5_rowTells, cX5_rowTells, 2, (some .int))
theorem ok_X5_rowTells : jMok mX5_rowTells := ⟨rfl, by decide +kernel⟩
def mX5_isOpen : jMD := (RX5, yX5_isOpen, cX5_isOpen, 2, (some .boolean))
theorem ok_X5_isOpen : jMok mX5_isOpen := ⟨rfl, by decide +kernel⟩
def mX5_isFor : jMD := (RX5, yX5_isFor, cX5_isFor, 3, (some .boolean))
theorem ok_X5_isFor : jMok mX5_isFor := ⟨rfl, by decide +kernel⟩
def mX5_decidedBy : jMD := (RX5, yX5_decidedBy, cX5_decidedBy, 2, (some .int))
theorem ok_X5_decidedBy : jMok mX5_decidedBy := ⟨rfl, by decide +kernel⟩
def mX5_wins : jMD := (RX5, yX5_wins, cX5_wins, 2, (some .boolean))
theorem ok_X5_wins : jMok mX5_wins := ⟨rfl, by decide +kernel⟩
def mX5_now : jMD := (RX5, yX5_now, cX5_now, 2, (some (.object "OtherwiseCourt$Tally")))
theorem ok_X5_now : jMok mX5_now := ⟨rfl, by decide +kernel⟩
def mX5_winsNow : jMD := (RX5, yX5_winsNow, cX5_winsNow, 2, (some .boolean))
theorem ok_X5_winsNow : jMok mX5_winsNow := ⟨rfl, by decide +kernel⟩
def mX5_timesWon : jMD := (RX5, yX5_timesWon, cX5_timesWon, 6, (some .int))
theorem ok_X5_timesWon : jMok mX5_timesWon := ⟨rfl, by decide +kernel⟩
def mX5_firstTurn : jMD := (RX5, yX5_firstTurn, cX5_firstTurn, 4, (some .int))
theorem ok_X5_firstTurn : jMok mX5_firstTurn := ⟨rfl, by decide +kernel⟩
def mX5_firstUnlawful : jMD := (RX5, yX5_firstUnlawful, cX5_firstUnlawful, 2, (some .int))
theorem ok_X5_firstUnlawful : jMok mX5_firstUnlawful := ⟨rfl, by decide +kernel⟩
def mX6_init : jMD := (RX6, yX6_init, cX6_init, 1, none)
theorem ok_X6_init : jMok mX6_init := ⟨rfl, by decide +kernel⟩
def mX6_begin : jMD := (RX6, yX6_begin, cX6_begin, 2, none)
theorem ok_X6_begin : jMok mX6_begin := ⟨rfl, by decide +kernel⟩
def mX6_become : jMD := (RX6, yX6_become, cX6_become, 2, none)
theorem ok_X6_become : jMok mX6_become := ⟨rfl, by decide +kernel⟩
def mX6_meet : jMD := (RX6, yX6_meet, cX6_meet, 4, none)
theorem ok_X6_meet : jMok mX6_meet := ⟨rfl, by decide +kernel⟩
def mX6_likes : jMD := (RX6, yX6_likes, cX6_likes, 1, (some .int))
theorem ok_X6_likes : jMok mX6_likes := ⟨rfl, by decide +kernel⟩
def mX6_torn : jMD := (RX6, yX6_torn, cX6_torn, 1, (some .boolean))
theorem ok_X6_torn : jMok mX6_torn := ⟨rfl, by decide +kernel⟩
def mX7_init : jMD := (RX7, yX7_init, cX7_init, 1, none)
theorem ok_X7_init : jMok mX7_init := ⟨rfl, by decide +kernel⟩
def mX7_feed : jMD := (RX7, yX7_feed, cX7_feed, 2, (some .int))
theorem ok_X7_feed : jMok mX7_feed := ⟨rfl, by decide +kernel⟩
def mX7_court : jMD := (RX7, yX7_court, cX7_court, 4, (some .int))
theorem ok_X7_court : jMok mX7_court := ⟨rfl, by decide +kernel⟩
def mX7_day : jMD := (RX7, yX7_day, cX7_day, 3, (some .int))
theorem ok_X7_day : jMok mX7_day := ⟨rfl, by decide +kernel⟩
def mX7_suit : jMD := (RX7, yX7_suit, cX7_suit, 3, (some .int))
theorem ok_X7_suit : jMok mX7_suit := ⟨rfl, by decide +kernel⟩
def mX7_of : jMD := (RX7, yX7_of, cX7_of, 3, (some .int))
theorem ok_X7_of : jMok mX7_of := ⟨rfl, by decide +kernel⟩
def mX7_judge : jMD := (RX7, yX7_judge, cX7_judge, 3, (some .int))
theorem ok_X7_judge : jMok mX7_judge := ⟨rfl, by decide +kernel⟩
def mX7_at : jMD := (RX7, yX7_at, cX7_at, 3, (some .int))
theorem ok_X7_at : jMok mX7_at := ⟨rfl, by decide +kernel⟩
def mX7_row : jMD := (RX7, yX7_row, cX7_row, 5, (some .int))
theorem ok_X7_row : jMok mX7_row := ⟨rfl, by decide +kernel⟩
def mX7_told : jMD := (RX7, yX7_told, cX7_told, 2, (some .int))
theorem ok_X7_told : jMok mX7_told := ⟨rfl, by decide +kernel⟩
def mX7_score : jMD := (RX7, yX7_score, cX7_score, 4, (some .int))
theorem ok_X7_score : jMok mX7_score := ⟨rfl, by decide +kernel⟩
def mX7_decides : jMD := (RX7, yX7_decides, cX7_decides, 5, (some .int))
theorem ok_X7_decides : jMok mX7_decides := ⟨rfl, by decide +kernel⟩
def mX7_hear : jMD := (RX7, yX7_hear, cX7_hear, 4, (some .int))
theorem ok_X7_hear : jMok mX7_hear := ⟨rfl, by decide +kernel⟩
def mX7_enter : jMD := (RX7, yX7_enter, cX7_enter, 3, (some .int))
theorem ok_X7_enter : jMok mX7_enter := ⟨rfl, by decide +kernel⟩
def mX7_entry : jMD := (RX7, yX7_entry, cX7_entry, 2, (some .int))
theorem ok_X7_entry : jMok mX7_entry := ⟨rfl, by decide +kernel⟩
def mX7_best : jMD := (RX7, yX7_best, cX7_best, 4, (some .int))
theorem ok_X7_best : jMok mX7_best := ⟨rfl, by decide +kernel⟩
def mX7_shams : jMD := (RX7, yX7_shams, cX7_shams, 5, (some .int))
theorem ok_X7_shams : jMok mX7_shams := ⟨rfl, by decide +kernel⟩
def mX7_point : jMD := (RX7, yX7_point, cX7_point, 7, (some .int))
theorem ok_X7_point : jMok mX7_point := ⟨rfl, by decide +kernel⟩
def mX7_rival : jMD := (RX7, yX7_rival, cX7_rival, 6, (some .int))
theorem ok_X7_rival : jMok mX7_rival := ⟨rfl, by decide +kernel⟩
def mX7_again : jMD := (RX7, yX7_again, cX7_again, 4, (some .int))
theorem ok_X7_again : jMok mX7_again := ⟨rfl, by decide +kernel⟩
def mX7_swing : jMD := (RX7, yX7_swing, cX7_swing, 3, (some .int))
theorem ok_X7_swing : jMok mX7_swing := ⟨rfl, by decide +kernel⟩
def mX7_unlawful : jMD := (RX7, yX7_unlawful, cX7_unlawful, 2, (some .int))
theorem ok_X7_unlawful : jMok mX7_unlawful := ⟨rfl, by decide +kernel⟩
def mX7_wrong : jMD := (RX7, yX7_wrong, cX7_wrong, 4, (some .int))
theorem ok_X7_wrong : jMok mX7_wrong := ⟨rfl, by decide +kernel⟩
def mX7_bars : jMD := (RX7, yX7_bars, cX7_bars, 7, (some .int))
theorem ok_X7_bars : jMok mX7_bars := ⟨rfl, by decide +kernel⟩
def mX7_queue : jMD := (RX7, yX7_queue, cX7_queue, 2, (some .int))
theorem ok_X7_queue : jMok mX7_queue := ⟨rfl, by decide +kernel⟩
def mX7_odds : jMD := (RX7, yX7_odds, cX7_odds, 4, (some .long))
theorem ok_X7_odds : jMok mX7_odds := ⟨rfl, by decide +kernel⟩
def mX7_expects : jMD := (RX7, yX7_expects, cX7_expects, 5, (some .long))
theorem ok_X7_expects : jMok mX7_expects := ⟨rfl, by decide +kernel⟩
def mX7_act : jMD := (RX7, yX7_act, cX7_act, 4, (some .int))
theorem ok_X7_act : jMok mX7_act := ⟨rfl, by decide +kernel⟩
def mX7_trace : jMD := (RX7, yX7_trace, cX7_trace, 2, (some .int))
theorem ok_X7_trace : jMok mX7_trace := ⟨rfl, by decide +kernel⟩
def mX7_as : jMD := (RX7, yX7_as, cX7_as, 5, (some .int))
theorem ok_X7_as : jMok mX7_as := ⟨rfl, by decide +kernel⟩
def mX7_image : jMD := (RX7, yX7_image, cX7_image, 1, (some .int))
theorem ok_X7_image : jMok mX7_image := ⟨rfl, by decide +kernel⟩
def mX7_undo : jMD := (RX7, yX7_undo, cX7_undo, 1, (some .int))
theorem ok_X7_undo : jMok mX7_undo := ⟨rfl, by decide +kernel⟩
def mX7_count : jMD := (RX7, yX7_count, cX7_count, 2, (some .int))
theorem ok_X7_count : jMok mX7_count := ⟨rfl, by decide +kernel⟩
def mX7_openFor : jMD := (RX7, yX7_openFor, cX7_openFor, 2, none)
theorem ok_X7_openFor : jMok mX7_openFor := ⟨rfl, by decide +kernel⟩
def mX8_init : jMD := (RX8, yX8_init, cX8_init, 1, none)
theorem ok_X8_init : jMok mX8_init := ⟨rfl, by decide +kernel⟩
def mX8_in : jMD := (RX8, yX8_in, cX8_in, 3, (some .boolean))
theorem ok_X8_in : jMok mX8_in := ⟨rfl, by decide +kernel⟩
def mX8_isSuit : jMD := (RX8, yX8_isSuit, cX8_isSuit, 2, (some .boolean))
theorem ok_X8_isSuit : jMok mX8_isSuit := ⟨rfl, by decide +kernel⟩
def mX8_isJudge : jMD := (RX8, yX8_isJudge, cX8_isJudge, 2, (some .boolean))
theorem ok_X8_isJudge : jMok mX8_isJudge := ⟨rfl, by decide +kernel⟩
def mX8_count1 : jMD := (RX8, yX8_count1, cX8_count1, 3, (some .int))
theorem ok_X8_count1 : jMok mX8_count1 := ⟨rfl, by decide +kernel⟩
def mX8_feed : jMD := (RX8, yX8_feed, cX8_feed, 2, (some .int))
theorem ok_X8_feed : jMok mX8_feed := ⟨rfl, by decide +kernel⟩
def mX8_here : jMD := (RX8, yX8_here, cX8_here, 1, (some .int))
theorem ok_X8_here : jMok mX8_here := ⟨rfl, by decide +kernel⟩
def mX8_must : jMD := (RX8, yX8_must, cX8_must, 2, none)
theorem ok_X8_must : jMok mX8_must := ⟨rfl, by decide +kernel⟩
def mX8_spells : jMD := (RX8, yX8_spells, cX8_spells, 3, none)
theorem ok_X8_spells : jMok mX8_spells := ⟨rfl, by decide +kernel⟩
def mX8_figures : jMD := (RX8, yX8_figures, cX8_figures, 3, (some .int))
theorem ok_X8_figures : jMok mX8_figures := ⟨rfl, by decide +kernel⟩
def mX8_among : jMD := (RX8, yX8_among, cX8_among, 3, (some .int))
theorem ok_X8_among : jMok mX8_among := ⟨rfl, by decide +kernel⟩
def mX8_emits : jMD := (RX8, yX8_emits, cX8_emits, 2, none)
theorem ok_X8_emits : jMok mX8_emits := ⟨rfl, by decide +kernel⟩
def mX8_factor : jMD := (RX8, yX8_factor, cX8_factor, 5, none)
theorem ok_X8_factor : jMok mX8_factor := ⟨rfl, by decide +kernel⟩
def mX8_every : jMD := (RX8, yX8_every, cX8_every, 1, none)
theorem ok_X8_every : jMok mX8_every := ⟨rfl, by decide +kernel⟩
def mX8_some : jMD := (RX8, yX8_some, cX8_some, 1, none)
theorem ok_X8_some : jMok mX8_some := ⟨rfl, by decide +kernel⟩
def mX8_much : jMD := (RX8, yX8_much, cX8_much, 4, none)
theorem ok_X8_much : jMok mX8_much := ⟨rfl, by decide +kernel⟩
def mX8_clauseHere : jMD := (RX8, yX8_clauseHere, cX8_clauseHere, 2, none)
theorem ok_X8_clauseHere : jMok mX8_clauseHere := ⟨rfl, by decide +kernel⟩
def mX8_court : jMD := (RX8, yX8_court, cX8_court, 2, (some .int))
theorem ok_X8_court : jMok mX8_court := ⟨rfl, by decide +kernel⟩
def mX8_barNow : jMD := (RX8, yX8_barNow, cX8_barNow, 1, (some .int))
theorem ok_X8_barNow : jMok mX8_barNow := ⟨rfl, by decide +kernel⟩
def mX8_day : jMD := (RX8, yX8_day, cX8_day, 3, (some .int))
theorem ok_X8_day : jMok mX8_day := ⟨rfl, by decide +kernel⟩
def mX8_told : jMD := (RX8, yX8_told, cX8_told, 2, (some .int))
theorem ok_X8_told : jMok mX8_told := ⟨rfl, by decide +kernel⟩
def mX8_suit : jMD := (RX8, yX8_suit, cX8_suit, 4, (some .int))
theorem ok_X8_suit : jMok mX8_suit := ⟨rfl, by decide +kernel⟩
def mX8_of : jMD := (RX8, yX8_of, cX8_of, 3, (some .int))
theorem ok_X8_of : jMok mX8_of := ⟨rfl, by decide +kernel⟩
def mX8_judge : jMD := (RX8, yX8_judge, cX8_judge, 5, (some .int))
theorem ok_X8_judge : jMok mX8_judge := ⟨rfl, by decide +kernel⟩
def mX8_row : jMD := (RX8, yX8_row, cX8_row, 5, (some .int))
theorem ok_X8_row : jMok mX8_row := ⟨rfl, by decide +kernel⟩
def mX8_looks : jMD := (RX8, yX8_looks, cX8_looks, 11, none)
theorem ok_X8_looks : jMok mX8_looks := ⟨rfl, by decide +kernel⟩
def mX8_looksFor : jMD := (RX8, yX8_looksFor, cX8_looksFor, 4, none)
theorem ok_X8_looksFor : jMok mX8_looksFor := ⟨rfl, by decide +kernel⟩
def mX8_scoreOf : jMD := (RX8, yX8_scoreOf, cX8_scoreOf, 3, (some .int))
theorem ok_X8_scoreOf : jMok mX8_scoreOf := ⟨rfl, by decide +kernel⟩
def mX8_at : jMD := (RX8, yX8_at, cX8_at, 3, (some .int))
theorem ok_X8_at : jMok mX8_at := ⟨rfl, by decide +kernel⟩
def mX8_score : jMD := (RX8, yX8_score, cX8_score, 4, (some .int))
theorem ok_X8_score : jMok mX8_score := ⟨rfl, by decide +kernel⟩
def mX8_opens : jMD := (RX8, yX8_opens, cX8_opens, 2, none)
theorem ok_X8_opens : jMok mX8_opens := ⟨rfl, by decide +kernel⟩
def mX8_writes : jMD := (RX8, yX8_writes, cX8_writes, 3, none)
theorem ok_X8_writes : jMok mX8_writes := ⟨rfl, by decide +kernel⟩
def mX8_isLike : jMD := (RX8, yX8_isLike, cX8_isLike, 3, (some .boolean))
theorem ok_X8_isLike : jMok mX8_isLike := ⟨rfl, by decide +kernel⟩
def mX8_likeOne : jMD := (RX8, yX8_likeOne, cX8_likeOne, 6, (some .int))
theorem ok_X8_likeOne : jMok mX8_likeOne := ⟨rfl, by decide +kernel⟩
def mX8_decidesMost : jMD := (RX8, yX8_decidesMost, cX8_decidesMost, 3, (some .int))
theorem ok_X8_decidesMost : jMok mX8_decidesMost := ⟨rfl, by decide +kernel⟩
def mX8_decidesBy : jMD := (RX8, yX8_decidesBy, cX8_decidesBy, 7, (some .int))
theorem ok_X8_decidesBy : jMok mX8_decidesBy := ⟨rfl, by decide +kernel⟩
def mX8_isForIt : jMD := (RX8, yX8_isForIt, cX8_isForIt, 4, (some .boolean))
theorem ok_X8_isForIt : jMok mX8_isForIt := ⟨rfl, by decide +kernel⟩
def mX8_hears : jMD := (RX8, yX8_hears, cX8_hears, 4, (some .boolean))
theorem ok_X8_hears : jMok mX8_hears := ⟨rfl, by decide +kernel⟩
def mX8_decides : jMD := (RX8, yX8_decides, cX8_decides, 5, (some .int))
theorem ok_X8_decides : jMok mX8_decides := ⟨rfl, by decide +kernel⟩
def mX8_enters : jMD := (RX8, yX8_enters, cX8_enters, 3, (some .int))
theorem ok_X8_enters : jMok mX8_enters := ⟨rfl, by decide +kernel⟩
def mX8_hear : jMD := (RX8, yX8_hear, cX8_hear, 4, (some .int))
theorem ok_X8_hear : jMok mX8_hear := ⟨rfl, by decide +kernel⟩
def mX8_enter : jMD := (RX8, yX8_enter, cX8_enter, 3, (some .int))
theorem ok_X8_enter : jMok mX8_enter := ⟨rfl, by decide +kernel⟩
def mX8_entry : jMD := (RX8, yX8_entry, cX8_entry, 2, (some .int))
theorem ok_X8_entry : jMok mX8_entry := ⟨rfl, by decide +kernel⟩
def mX8_ordersFrom : jMD := (RX8, yX8_ordersFrom, cX8_ordersFrom, 7, none)
theorem ok_X8_ordersFrom : jMok mX8_ordersFrom := ⟨rfl, by decide +kernel⟩
def mX8_isSet : jMD := (RX8, yX8_isSet, cX8_isSet, 2, (some .boolean))
theorem ok_X8_isSet : jMok mX8_isSet := ⟨rfl, by decide +kernel⟩
def mX8_best : jMD := (RX8, yX8_best, cX8_best, 4, (some .int))
theorem ok_X8_best : jMok mX8_best := ⟨rfl, by decide +kernel⟩
def mX8_looksForShams : jMD := (RX8, yX8_looksForShams, cX8_looksForShams, 6, (some .int))
theorem ok_X8_looksForShams : jMok mX8_looksForShams := ⟨rfl, by decide +kernel⟩
def mX8_shams : jMD := (RX8, yX8_shams, cX8_shams, 5, (some .int))
theorem ok_X8_shams : jMok mX8_shams := ⟨rfl, by decide +kernel⟩
def mX8_point : jMD := (RX8, yX8_point, cX8_point, 6, (some .int))
theorem ok_X8_point : jMok mX8_point := ⟨rfl, by decide +kernel⟩
def mX8_rivals : jMD := (RX8, yX8_rivals, cX8_rivals, 13, (some .int))
theorem ok_X8_rivals : jMok mX8_rivals := ⟨rfl, by decide +kernel⟩
def mX8_rival : jMD := (RX8, yX8_rival, cX8_rival, 6, (some .int))
theorem ok_X8_rival : jMok mX8_rival := ⟨rfl, by decide +kernel⟩
def mX8_again : jMD := (RX8, yX8_again, cX8_again, 6, (some .int))
theorem ok_X8_again : jMok mX8_again := ⟨rfl, by decide +kernel⟩
def mX8_swing : jMD := (RX8, yX8_swing, cX8_swing, 5, (some .int))
theorem ok_X8_swing : jMok mX8_swing := ⟨rfl, by decide +kernel⟩
def mX8_firstUnlawful : jMD := (RX8, yX8_firstUnlawful, cX8_firstUnlawful, 6, (some .int))
theorem ok_X8_firstUnlawful : jMok mX8_firstUnlawful := ⟨rfl, by decide +kernel⟩
def mX8_unlawful : jMD := (RX8, yX8_unlawful, cX8_unlawful, 2, (some .int))
theorem ok_X8_unlawful : jMok mX8_unlawful := ⟨rfl, by decide +kernel⟩
def mX8_wrong : jMD := (RX8, yX8_wrong, cX8_wrong, 4, (some .int))
theorem ok_X8_wrong : jMok mX8_wrong := ⟨rfl, by decide +kernel⟩
def mX8_bars : jMD := (RX8, yX8_bars, cX8_bars, 9, (some .int))
theorem ok_X8_bars : jMok mX8_bars := ⟨rfl, by decide +kernel⟩
def mX8_queue : jMD := (RX8, yX8_queue, cX8_queue, 2, (some .int))
theorem ok_X8_queue : jMok mX8_queue := ⟨rfl, by decide +kernel⟩
def mX8_falls : jMD := (RX8, yX8_falls, cX8_falls, 11, (some .long))
theorem ok_X8_falls : jMok mX8_falls := ⟨rfl, by decide +kernel⟩
def mX8_lowest : jMD := (RX8, yX8_lowest, cX8_lowest, 11, (some .long))
theorem ok_X8_lowest : jMok mX8_lowest := ⟨rfl, by decide +kernel⟩
def mX8_odds : jMD := (RX8, yX8_odds, cX8_odds, 4, (some .long))
theorem ok_X8_odds : jMok mX8_odds := ⟨rfl, by decide +kernel⟩
def mX8_expects : jMD := (RX8, yX8_expects, cX8_expects, 3, (some .long))
theorem ok_X8_expects : jMok mX8_expects := ⟨rfl, by decide +kernel⟩
def mX8_ranBody : jMD := (RX8, yX8_ranBody, cX8_ranBody, 2, none)
theorem ok_X8_ranBody : jMok mX8_ranBody := ⟨rfl, by decide +kernel⟩
def mX8_isUnder : jMD := (RX8, yX8_isUnder, cX8_isUnder, 2, (some .boolean))
theorem ok_X8_isUnder : jMok mX8_isUnder := ⟨rfl, by decide +kernel⟩
def mX8_plainHears : jMD := (RX8, yX8_plainHears, cX8_plainHears, 2, (some .int))
theorem ok_X8_plainHears : jMok mX8_plainHears := ⟨rfl, by decide +kernel⟩
def mX8_hearsActs : jMD := (RX8, yX8_hearsActs, cX8_hearsActs, 2, (some .int))
theorem ok_X8_hearsActs : jMok mX8_hearsActs := ⟨rfl, by decide +kernel⟩
def mX8_plainWeighs : jMD := (RX8, yX8_plainWeighs, cX8_plainWeighs, 2, (some .int))
theorem ok_X8_plainWeighs : jMok mX8_plainWeighs := ⟨rfl, by decide +kernel⟩
def mX8_weighsActs : jMD := (RX8, yX8_weighsActs, cX8_weighsActs, 2, (some .int))
theorem ok_X8_weighsActs : jMok mX8_weighsActs := ⟨rfl, by decide +kernel⟩
def mX8_plainSays : jMD := (RX8, yX8_plainSays, cX8_plainSays, 2, (some .int))
theorem ok_X8_plainSays : jMok mX8_plainSays := ⟨rfl, by decide +kernel⟩
def mX8_saysActs : jMD := (RX8, yX8_saysActs, cX8_saysActs, 3, (some .int))
theorem ok_X8_saysActs : jMok mX8_saysActs := ⟨rfl, by decide +kernel⟩
def mX8_act : jMD := (RX8, yX8_act, cX8_act, 4, (some .int))
theorem ok_X8_act : jMok mX8_act := ⟨rfl, by decide +kernel⟩
def mX8_trace : jMD := (RX8, yX8_trace, cX8_trace, 2, (some .int))
theorem ok_X8_trace : jMok mX8_trace := ⟨rfl, by decide +kernel⟩
def mX8_as : jMD := (RX8, yX8_as, cX8_as, 3, (some .int))
theorem ok_X8_as : jMok mX8_as := ⟨rfl, by decide +kernel⟩
def mX8_image : jMD := (RX8, yX8_image, cX8_image, 2, (some .int))
theorem ok_X8_image : jMok mX8_image := ⟨rfl, by decide +kernel⟩
def mX8_undo : jMD := (RX8, yX8_undo, cX8_undo, 2, (some .int))
theorem ok_X8_undo : jMok mX8_undo := ⟨rfl, by decide +kernel⟩
def mX8_count : jMD := (RX8, yX8_count, cX8_count, 2, (some .int))
theorem ok_X8_count : jMok mX8_count := ⟨rfl, by decide +kernel⟩
def mJ6_bitCount_0f7a4 : jMD := (RJ6, yJ6_bitCount_0f7a4, cJ6_bitCount_0f7a4, 1, (some .int))
theorem ok_J6_bitCount_0f7a4 : jMok mJ6_bitCount_0f7a4 := ⟨rfl, by decide +kernel⟩
def mJ0_length_8abf5 : jMD := (RJ0, yJ0_length_8abf5, cJ0_length_8abf5, 1, (some .int))
theorem ok_J0_length_8abf5 : jMok mJ0_length_8abf5 := ⟨rfl, by decide +kernel⟩
def mJ0_charAt_5068e : jMD := (RJ0, yJ0_charAt_5068e, cJ0_charAt_5068e, 2, (some .char))
theorem ok_J0_charAt_5068e : jMok mJ0_charAt_5068e := ⟨rfl, by decide +kernel⟩
def mJ0_coder_7d493 : jMD := (RJ0, yJ0_coder_7d493, cJ0_coder_7d493, 1, (some .byte))
theorem ok_J0_coder_7d493 : jMok mJ0_coder_7d493 := ⟨rfl, by decide +kernel⟩
def mJ0_isLatin1_aae02 : jMD := (RJ0, yJ0_isLatin1_aae02, cJ0_isLatin1_aae02, 1, (some .boolean))
theorem ok_J0_isLatin1_aae02 : jMok mJ0_isLatin1_aae02 := ⟨rfl, by decide +kernel⟩
def mJ0_checkIndex_df160 : jMD := (RJ0, yJ0_checkIndex_df160, cJ0_checkIndex_df160, 2, none)
theorem ok_J0_checkIndex_df160 : jMok mJ0_checkIndex_df160 := ⟨rfl, by decide +kernel⟩
def mJ1_charAt_3b067 : jMD := (RJ1, yJ1_charAt_3b067, cJ1_charAt_3b067, 2, (some .char))
theorem ok_J1_charAt_3b067 : jMok mJ1_charAt_3b067 := ⟨rfl, by decide +kernel⟩
def mJ3_checkIndex_8e157 : jMD := (RJ3, yJ3_checkIndex_8e157, cJ3_checkIndex_8e157, 3, (some .int))
theorem ok_J3_checkIndex_8e157 : jMok mJ3_checkIndex_8e157 := ⟨rfl, by decide +kernel⟩
def mL_law : jMD := (RL, yL_law, cL_law, 4, (some .boolean))
theorem ok_L_law : jMok mL_law := ⟨rfl, by decide +kernel⟩
theorem w_364 : (Cond.methodLink "OtherwiseCourt$Coins" 3 ⟨"java/lang/Object", "<init>", "()V"⟩) ∈ gTbl := gTbl_mem 364 (by decide +kernel) (by decide +kernel)
theorem w_365 : (Cond.classLink "OtherwiseCourt$Coins" 9 "OtherwiseCourt$Tally") ∈ gTbl := gTbl_mem 365 (by decide +kernel) (by decide +kernel)
theorem w_368 : (Cond.fieldLink "OtherwiseCourt$Coins" 11 "OtherwiseCourt$Coins" "tallies" "[LOtherwiseCourt$Tally;") ∈ gTbl := gTbl_mem 368 (by decide +kernel) (by decide +kernel)
theorem rl_X0_11 : jRL RX0 11 0 1 := ⟨_, rfl, by decide, w_368, by decide, by decide, Or.inr ⟨(.object "OtherwiseCourt$Tally"), by decide +kernel⟩⟩
theorem w_369 : (Cond.fieldLink "OtherwiseCourt$Coins" 17 "OtherwiseCourt$Coins" "chances" "[I") ∈ gTbl := gTbl_mem 369 (by decide +kernel) (by decide +kernel)
theorem rl_X0_17 : jRL RX0 17 0 2 := ⟨_, rfl, by decide, w_369, by decide, by decide, Or.inr ⟨.int, by decide +kernel⟩⟩
theorem w_367 : (Cond.fieldLink "OtherwiseCourt$Coins" 21 "OtherwiseCourt$Coins" "sitting" "LOtherwiseCourt$Sitting;") ∈ gTbl := gTbl_mem 367 (by decide +kernel) (by decide +kernel)
theorem rl_X0_21 : jRL RX0 21 0 0 := ⟨_, rfl, by decide, w_367, by decide, by decide, Or.inl ⟨"OtherwiseCourt$Sitting", by decide +kernel⟩⟩
theorem fl_X0_11 : jFL RX0 11 0 1 := ⟨_, rfl, by decide, w_368⟩
theorem w_248 : (Cond.instanceMethod ⟨"OtherwiseCourt$Tally", "<init>", "()V"⟩) ∈ gTbl := gTbl_mem 248 (by decide +kernel) (by decide +kernel)
theorem w_67 : (Cond.initialized "OtherwiseCourt$Tally") ∈ gTbl := gTbl_mem 67 (by decide +kernel) (by decide +kernel)
theorem w_249 : (Cond.code ⟨"OtherwiseCourt$Tally", "<init>", "()V"⟩ prog_8_method_1_code 1 none) ∈ gTbl := gTbl_mem 249 (by decide +kernel) (by decide +kernel)
theorem il_X0_25 : jIL RX0 25 mX6_init 0 := ⟨List.forall_mem_cons.mpr ⟨w_248, List.forall_mem_cons.mpr ⟨w_67, List.forall_mem_cons.mpr ⟨w_249, fun _ h => absurd h List.not_mem_nil⟩⟩⟩, by decide, by decide, by decide, by decide +kernel, rfl, rfl, Or.inr ⟨"OtherwiseCourt", by decide +kernel⟩⟩
theorem w_117 : (Cond.fieldLink "OtherwiseCourt$Coins" 26 "OtherwiseCourt$Hall" "queued" "I") ∈ gTbl := gTbl_mem 117 (by decide +kernel) (by decide +kernel)
theorem fl_X0_26 : jFL RX0 26 2 10 := ⟨_, rfl, by decide, w_117⟩
theorem fl_X0_17 : jFL RX0 17 0 2 := ⟨_, rfl, by decide, w_369⟩
theorem w_120 : (Cond.fieldLink "OtherwiseCourt$Coins" 38 "OtherwiseCourt$Hall" "queue" "[I") ∈ gTbl := gTbl_mem 120 (by decide +kernel) (by decide +kernel)
theorem fl_X0_38 : jFL RX0 38 2 11 := ⟨_, rfl, by decide, w_120⟩
theorem w_829 : (Cond.methodLink "OtherwiseCourt$Coins" 41 ⟨"OtherwiseCourt$Hall", "pointsOf", "(I)I"⟩) ∈ gTbl := gTbl_mem 829 (by decide +kernel) (by decide +kernel)
theorem w_561 : (Cond.instanceMethod ⟨"OtherwiseCourt$Hall", "pointsOf", "(I)I"⟩) ∈ gTbl := gTbl_mem 561 (by decide +kernel) (by decide +kernel)
theorem w_562 : (Cond.selects "OtherwiseCourt$Hall" ⟨"OtherwiseCourt$Hall", "pointsOf", "(I)I"⟩ ⟨"OtherwiseCourt$Hall", "pointsOf", "(I)I"⟩) ∈ gTbl := gTbl_mem 562 (by decide +kernel) (by decide +kernel)
theorem w_64 : (Cond.initialized "OtherwiseCourt$Hall") ∈ gTbl := gTbl_mem 64 (by decide +kernel) (by decide +kernel)
theorem w_563 : (Cond.code ⟨"OtherwiseCourt$Hall", "pointsOf", "(I)I"⟩ prog_4_method_5_code 2 (some .int)) ∈ gTbl := gTbl_mem 563 (by decide +kernel) (by decide +kernel)
theorem vl_X0_41 : jVL RX0 41 mX2_pointsOf 1 := ⟨List.forall_mem_cons.mpr ⟨w_829, List.forall_mem_cons.mpr ⟨w_561, List.forall_mem_cons.mpr ⟨w_562, List.forall_mem_cons.mpr ⟨w_64, List.forall_mem_cons.mpr ⟨w_563, fun _ h => absurd h List.not_mem_nil⟩⟩⟩⟩⟩, by decide, by decide, by decide, by decide +kernel⟩
theorem w_830 : (Cond.methodLink "OtherwiseCourt$Coins" 45 ⟨"OtherwiseCourt$Tally", "begin", "(I)V"⟩) ∈ gTbl := gTbl_mem 830 (by decide +kernel) (by decide +kernel)
theorem w_634 : (Cond.instanceMethod ⟨"OtherwiseCourt$Tally", "begin", "(I)V"⟩) ∈ gTbl := gTbl_mem 634 (by decide +kernel) (by decide +kernel)
theorem w_635 : (Cond.selects "OtherwiseCourt$Tally" ⟨"OtherwiseCourt$Tally", "begin", "(I)V"⟩ ⟨"OtherwiseCourt$Tally", "begin", "(I)V"⟩) ∈ gTbl := gTbl_mem 635 (by decide +kernel) (by decide +kernel)
theorem w_636 : (Cond.code ⟨"OtherwiseCourt$Tally", "begin", "(I)V"⟩ prog_8_method_2_code 2 none) ∈ gTbl := gTbl_mem 636 (by decide +kernel) (by decide +kernel)
theorem vl_X0_45 : jVL RX0 45 mX6_begin 1 := ⟨List.forall_mem_cons.mpr ⟨w_830, List.forall_mem_cons.mpr ⟨w_634, List.forall_mem_cons.mpr ⟨w_635, List.forall_mem_cons.mpr ⟨w_67, List.forall_mem_cons.mpr ⟨w_636, fun _ h => absurd h List.not_mem_nil⟩⟩⟩⟩⟩, by decide, by decide, by decide, by decide +kernel⟩
theorem fl_X0_21 : jFL RX0 21 0 0 := ⟨_, rfl, by decide, w_367⟩
theorem w_294 : (Cond.fieldLink "OtherwiseCourt$Coins" 49 "OtherwiseCourt$Sitting" "heard" "I") ∈ gTbl := gTbl_mem 294 (by decide +kernel) (by decide +kernel)
theorem fl_X0_49 : jFL RX0 49 5 6 := ⟨_, rfl, by decide, w_294⟩
theorem w_831 : (Cond.methodLink "OtherwiseCourt$Coins" 54 ⟨"OtherwiseCourt$Sitting", "follow", "(LOtherwiseCourt$Tally;I)V"⟩) ∈ gTbl := gTbl_mem 831 (by decide +kernel) (by decide +kernel)
theorem w_638 : (Cond.instanceMethod ⟨"OtherwiseCourt$Sitting", "follow", "(LOtherwiseCourt$Tally;I)V"⟩) ∈ gTbl := gTbl_mem 638 (by decide +kernel) (by decide +kernel)
theorem w_639 : (Cond.selects "OtherwiseCourt$Sitting" ⟨"OtherwiseCourt$Sitting", "follow", "(LOtherwiseCourt$Tally;I)V"⟩ ⟨"OtherwiseCourt$Sitting", "follow", "(LOtherwiseCourt$Tally;I)V"⟩) ∈ gTbl := gTbl_mem 639 (by decide +kernel) (by decide +kernel)
theorem w_66 : (Cond.initialized "OtherwiseCourt$Sitting") ∈ gTbl := gTbl_mem 66 (by decide +kernel) (by decide +kernel)
theorem w_640 : (Cond.code ⟨"OtherwiseCourt$Sitting", "follow", "(LOtherwiseCourt$Tally;I)V"⟩ prog_7_method_10_code 6 none) ∈ gTbl := gTbl_mem 640 (by decide +kernel) (by decide +kernel)
theorem vl_X0_54 : jVL RX0 54 mX5_follow 2 := ⟨List.forall_mem_cons.mpr ⟨w_831, List.forall_mem_cons.mpr ⟨w_638, List.forall_mem_cons.mpr ⟨w_639, List.forall_mem_cons.mpr ⟨w_66, List.forall_mem_cons.mpr ⟨w_640, fun _ h => absurd h List.not_mem_nil⟩⟩⟩⟩⟩, by decide, by decide, by decide, by decide +kernel⟩
theorem w_832 : (Cond.methodLink "OtherwiseCourt$Coins" 58 ⟨"OtherwiseCourt$Coins", "come", "(III)V"⟩) ∈ gTbl := gTbl_mem 832 (by decide +kernel) (by decide +kernel)
theorem w_834 : (Cond.instanceMethod ⟨"OtherwiseCourt$Coins", "come", "(III)V"⟩) ∈ gTbl := gTbl_mem 834 (by decide +kernel) (by decide +kernel)
theorem w_19 : (Cond.selects "OtherwiseCourt$Coins" ⟨"OtherwiseCourt$Coins", "come", "(III)V"⟩ ⟨"OtherwiseCourt$Coins", "come", "(III)V"⟩) ∈ gTbl := gTbl_mem 19 (by decide +kernel) (by decide +kernel)
theorem w_69 : (Cond.initialized "OtherwiseCourt$Coins") ∈ gTbl := gTbl_mem 69 (by decide +kernel) (by decide +kernel)
theorem w_835 : (Cond.code ⟨"OtherwiseCourt$Coins", "come", "(III)V"⟩ prog_2_method_3_code 5 none) ∈ gTbl := gTbl_mem 835 (by decide +kernel) (by decide +kernel)
theorem vl_X0_58 : jVL RX0 58 mX0_come 3 := ⟨List.forall_mem_cons.mpr ⟨w_832, List.forall_mem_cons.mpr ⟨w_834, List.forall_mem_cons.mpr ⟨w_19, List.forall_mem_cons.mpr ⟨w_69, List.forall_mem_cons.mpr ⟨w_835, fun _ h => absurd h List.not_mem_nil⟩⟩⟩⟩⟩, by decide, by decide, by decide, by decide +kernel⟩
theorem w_836 : (Cond.methodLink "OtherwiseCourt$Coins" 62 ⟨"OtherwiseCourt$Sitting", "now", "(LOtherwiseCourt$Tally;)LOtherwiseCourt$Tally;"⟩) ∈ gTbl := gTbl_mem 836 (by decide +kernel) (by decide +kernel)
theorem w_736 : (Cond.instanceMethod ⟨"OtherwiseCourt$Sitting", "now", "(LOtherwiseCourt$Tally;)LOtherwiseCourt$Tally;"⟩) ∈ gTbl := gTbl_mem 736 (by decide +kernel) (by decide +kernel)
theorem w_737 : (Cond.selects "OtherwiseCourt$Sitting" ⟨"OtherwiseCourt$Sitting", "now", "(LOtherwiseCourt$Tally;)LOtherwiseCourt$Tally;"⟩ ⟨"OtherwiseCourt$Sitting", "now", "(LOtherwiseCourt$Tally;)LOtherwiseCourt$Tally;"⟩) ∈ gTbl := gTbl_mem 737 (by decide +kernel) (by decide +kernel)
theorem w_738 : (Cond.code ⟨"OtherwiseCourt$Sitting", "now", "(LOtherwiseCourt$Tally;)LOtherwiseCourt$Tally;"⟩ prog_7_method_16_code 2 (some (.object "OtherwiseCourt$Tally"))) ∈ gTbl := gTbl_mem 738 (by decide +kernel) (by decide +kernel)
theorem vl_X0_62 : jVL RX0 62 mX5_now 1 := ⟨List.forall_mem_cons.mpr ⟨w_836, List.forall_mem_cons.mpr ⟨w_736, List.forall_mem_cons.mpr ⟨w_737, List.forall_mem_cons.mpr ⟨w_66, List.forall_mem_cons.mpr ⟨w_738, fun _ h => absurd h List.not_mem_nil⟩⟩⟩⟩⟩, by decide, by decide, by decide, by decide +kernel⟩
theorem w_837 : (Cond.methodLink "OtherwiseCourt$Coins" 66 ⟨"OtherwiseCourt$Sitting", "isOpen", "(LOtherwiseCourt$Tally;)Z"⟩) ∈ gTbl := gTbl_mem 837 (by decide +kernel) (by decide +kernel)
theorem w_838 : (Cond.instanceMethod ⟨"OtherwiseCourt$Sitting", "isOpen", "(LOtherwiseCourt$Tally;)Z"⟩) ∈ gTbl := gTbl_mem 838 (by decide +kernel) (by decide +kernel)
theorem w_839 : (Cond.selects "OtherwiseCourt$Sitting" ⟨"OtherwiseCourt$Sitting", "isOpen", "(LOtherwiseCourt$Tally;)Z"⟩ ⟨"OtherwiseCourt$Sitting", "isOpen", "(LOtherwiseCourt$Tally;)Z"⟩) ∈ gTbl := gTbl_mem 839 (by decide +kernel) (by decide +kernel)
theorem w_840 : (Cond.code ⟨"OtherwiseCourt$Sitting", "isOpen", "(LOtherwiseCourt$Tally;)Z"⟩ prog_7_method_12_code 2 (some .boolean)) ∈ gTbl := gTbl_mem 840 (by decide +kernel) (by decide +kernel)
theorem vl_X0_66 : jVL RX0 66 mX5_isOpen 1 := ⟨List.forall_mem_cons.mpr ⟨w_837, List.forall_mem_cons.mpr ⟨w_838, List.forall_mem_cons.mpr ⟨w_839, List.forall_mem_cons.mpr ⟨w_66, List.forall_mem_cons.mpr ⟨w_840, fun _ h => absurd h List.not_mem_nil⟩⟩⟩⟩⟩, by decide, by decide, by decide, by decide +kernel⟩
theorem w_841 : (Cond.methodLink "OtherwiseCourt$Coins" 70 ⟨"OtherwiseCourt$Coins", "settle", "(IIIZ)V"⟩) ∈ gTbl := gTbl_mem 841 (by decide +kernel) (by decide +kernel)
theorem w_843 : (Cond.instanceMethod ⟨"OtherwiseCourt$Coins", "settle", "(IIIZ)V"⟩) ∈ gTbl := gTbl_mem 843 (by decide +kernel) (by decide +kernel)
theorem w_20 : (Cond.selects "OtherwiseCourt$Coins" ⟨"OtherwiseCourt$Coins", "settle", "(IIIZ)V"⟩ ⟨"OtherwiseCourt$Coins", "settle", "(IIIZ)V"⟩) ∈ gTbl := gTbl_mem 20 (by decide +kernel) (by decide +kernel)
theorem w_844 : (Cond.code ⟨"OtherwiseCourt$Coins", "settle", "(IIIZ)V"⟩ prog_2_method_4_code 5 none) ∈ gTbl := gTbl_mem 844 (by decide +kernel) (by decide +kernel)
theorem vl_X0_70 : jVL RX0 70 mX0_settle 4 := ⟨List.forall_mem_cons.mpr ⟨w_841, List.forall_mem_cons.mpr ⟨w_843, List.forall_mem_cons.mpr ⟨w_20, List.forall_mem_cons.mpr ⟨w_69, List.forall_mem_cons.mpr ⟨w_844, fun _ h => absurd h List.not_mem_nil⟩⟩⟩⟩⟩, by decide, by decide, by decide, by decide +kernel⟩
theorem w_847 : (Cond.methodLink "OtherwiseCourt$Coins" 74 ⟨"OtherwiseCourt$Sitting", "isFor", "(LOtherwiseCourt$Tally;)Z"⟩) ∈ gTbl := gTbl_mem 847 (by decide +kernel) (by decide +kernel)
theorem w_649 : (Cond.instanceMethod ⟨"OtherwiseCourt$Sitting", "isFor", "(LOtherwiseCourt$Tally;)Z"⟩) ∈ gTbl := gTbl_mem 649 (by decide +kernel) (by decide +kernel)
theorem w_650 : (Cond.selects "OtherwiseCourt$Sitting" ⟨"OtherwiseCourt$Sitting", "isFor", "(LOtherwiseCourt$Tally;)Z"⟩ ⟨"OtherwiseCourt$Sitting", "isFor", "(LOtherwiseCourt$Tally;)Z"⟩) ∈ gTbl := gTbl_mem 650 (by decide +kernel) (by decide +kernel)
theorem w_651 : (Cond.code ⟨"OtherwiseCourt$Sitting", "isFor", "(LOtherwiseCourt$Tally;)Z"⟩ prog_7_method_13_code 3 (some .boolean)) ∈ gTbl := gTbl_mem 651 (by decide +kernel) (by decide +kernel)
theorem vl_X0_74 : jVL RX0 74 mX5_isFor 1 := ⟨List.forall_mem_cons.mpr ⟨w_847, List.forall_mem_cons.mpr ⟨w_649, List.forall_mem_cons.mpr ⟨w_650, List.forall_mem_cons.mpr ⟨w_66, List.forall_mem_cons.mpr ⟨w_651, fun _ h => absurd h List.not_mem_nil⟩⟩⟩⟩⟩, by decide, by decide, by decide, by decide +kernel⟩
theorem w_252 : (Cond.fieldLink "OtherwiseCourt$Coins" 77 "OtherwiseCourt$Tally" "points" "I") ∈ gTbl := gTbl_mem 252 (by decide +kernel) (by decide +kernel)
theorem fl_X0_77 : jFL RX0 77 6 0 := ⟨_, rfl, by decide, w_252⟩
theorem w_845 : (Cond.methodLink "OtherwiseCourt$Coins" 80 ⟨"OtherwiseCourt$Sitting", "push", "(IZ)V"⟩) ∈ gTbl := gTbl_mem 845 (by decide +kernel) (by decide +kernel)
theorem w_609 : (Cond.instanceMethod ⟨"OtherwiseCourt$Sitting", "push", "(IZ)V"⟩) ∈ gTbl := gTbl_mem 609 (by decide +kernel) (by decide +kernel)
theorem w_610 : (Cond.selects "OtherwiseCourt$Sitting" ⟨"OtherwiseCourt$Sitting", "push", "(IZ)V"⟩ ⟨"OtherwiseCourt$Sitting", "push", "(IZ)V"⟩) ∈ gTbl := gTbl_mem 610 (by decide +kernel) (by decide +kernel)
theorem w_611 : (Cond.code ⟨"OtherwiseCourt$Sitting", "push", "(IZ)V"⟩ prog_7_method_6_code 3 none) ∈ gTbl := gTbl_mem 611 (by decide +kernel) (by decide +kernel)
theorem vl_X0_80 : jVL RX0 80 mX5_push 2 := ⟨List.forall_mem_cons.mpr ⟨w_845, List.forall_mem_cons.mpr ⟨w_609, List.forall_mem_cons.mpr ⟨w_610, List.forall_mem_cons.mpr ⟨w_66, List.forall_mem_cons.mpr ⟨w_611, fun _ h => absurd h List.not_mem_nil⟩⟩⟩⟩⟩, by decide, by decide, by decide, by decide +kernel⟩
theorem w_846 : (Cond.methodLink "OtherwiseCourt$Coins" 84 ⟨"OtherwiseCourt$Sitting", "pop", "()V"⟩) ∈ gTbl := gTbl_mem 846 (by decide +kernel) (by decide +kernel)
theorem w_745 : (Cond.instanceMethod ⟨"OtherwiseCourt$Sitting", "pop", "()V"⟩) ∈ gTbl := gTbl_mem 745 (by decide +kernel) (by decide +kernel)
theorem w_746 : (Cond.selects "OtherwiseCourt$Sitting" ⟨"OtherwiseCourt$Sitting", "pop", "()V"⟩ ⟨"OtherwiseCourt$Sitting", "pop", "()V"⟩) ∈ gTbl := gTbl_mem 746 (by decide +kernel) (by decide +kernel)
theorem w_747 : (Cond.code ⟨"OtherwiseCourt$Sitting", "pop", "()V"⟩ prog_7_method_7_code 1 none) ∈ gTbl := gTbl_mem 747 (by decide +kernel) (by decide +kernel)
theorem vl_X0_84 : jVL RX0 84 mX5_pop 0 := ⟨List.forall_mem_cons.mpr ⟨w_846, List.forall_mem_cons.mpr ⟨w_745, List.forall_mem_cons.mpr ⟨w_746, List.forall_mem_cons.mpr ⟨w_66, List.forall_mem_cons.mpr ⟨w_747, fun _ h => absurd h List.not_mem_nil⟩⟩⟩⟩⟩, by decide, by decide, by decide, by decide +kernel⟩
theorem w_383 : (Cond.methodLink "OtherwiseCourt$Deeds" 3 ⟨"java/lang/Object", "<init>", "()V"⟩) ∈ gTbl := gTbl_mem 383 (by decide +kernel) (by decide +kernel)
theorem w_384 : (Cond.fieldLink "OtherwiseCourt$Deeds" 9 "OtherwiseCourt$Deeds" "bodies" "[I") ∈ gTbl := gTbl_mem 384 (by decide +kernel) (by decide +kernel)
theorem rl_X1_9 : jRL RX1 9 1 0 := ⟨_, rfl, by decide, w_384, by decide, by decide, Or.inr ⟨.int, by decide +kernel⟩⟩
theorem w_386 : (Cond.fieldLink "OtherwiseCourt$Deeds" 15 "OtherwiseCourt$Deeds" "ran" "I") ∈ gTbl := gTbl_mem 386 (by decide +kernel) (by decide +kernel)
theorem pl_X1_15 : jPL RX1 15 1 1 false := ⟨_, rfl, by decide, w_386, by decide, by decide⟩
theorem w_388 : (Cond.fieldLink "OtherwiseCourt$Deeds" 19 "OtherwiseCourt$Deeds" "judge" "I") ∈ gTbl := gTbl_mem 388 (by decide +kernel) (by decide +kernel)
theorem pl_X1_19 : jPL RX1 19 1 2 false := ⟨_, rfl, by decide, w_388, by decide, by decide⟩
theorem w_389 : (Cond.fieldLink "OtherwiseCourt$Deeds" 22 "OtherwiseCourt$Deeds" "kind" "I") ∈ gTbl := gTbl_mem 389 (by decide +kernel) (by decide +kernel)
theorem pl_X1_22 : jPL RX1 22 1 3 false := ⟨_, rfl, by decide, w_389, by decide, by decide⟩
theorem w_390 : (Cond.fieldLink "OtherwiseCourt$Deeds" 25 "OtherwiseCourt$Deeds" "number" "I") ∈ gTbl := gTbl_mem 390 (by decide +kernel) (by decide +kernel)
theorem pl_X1_25 : jPL RX1 25 1 4 false := ⟨_, rfl, by decide, w_390, by decide, by decide⟩
theorem fl_X1_22 : jFL RX1 22 1 3 := ⟨_, rfl, by decide, w_389⟩
theorem w_863 : (Cond.methodLink "OtherwiseCourt$Deeds" 28 ⟨"OtherwiseCourt$Deeds", "run", "(IIII)I"⟩) ∈ gTbl := gTbl_mem 863 (by decide +kernel) (by decide +kernel)
theorem w_865 : (Cond.instanceMethod ⟨"OtherwiseCourt$Deeds", "run", "(IIII)I"⟩) ∈ gTbl := gTbl_mem 865 (by decide +kernel) (by decide +kernel)
theorem w_21 : (Cond.selects "OtherwiseCourt$Deeds" ⟨"OtherwiseCourt$Deeds", "run", "(IIII)I"⟩ ⟨"OtherwiseCourt$Deeds", "run", "(IIII)I"⟩) ∈ gTbl := gTbl_mem 21 (by decide +kernel) (by decide +kernel)
theorem w_70 : (Cond.initialized "OtherwiseCourt$Deeds") ∈ gTbl := gTbl_mem 70 (by decide +kernel) (by decide +kernel)
theorem w_866 : (Cond.code ⟨"OtherwiseCourt$Deeds", "run", "(IIII)I"⟩ prog_3_method_3_code 9 (some .int)) ∈ gTbl := gTbl_mem 866 (by decide +kernel) (by decide +kernel)
theorem vl_X1_28 : jVL RX1 28 mX1_run 4 := ⟨List.forall_mem_cons.mpr ⟨w_863, List.forall_mem_cons.mpr ⟨w_865, List.forall_mem_cons.mpr ⟨w_21, List.forall_mem_cons.mpr ⟨w_70, List.forall_mem_cons.mpr ⟨w_866, fun _ h => absurd h List.not_mem_nil⟩⟩⟩⟩⟩, by decide, by decide, by decide, by decide +kernel⟩
theorem w_867 : (Cond.methodLink "OtherwiseCourt$Deeds" 32 ⟨"OtherwiseCourt$Deeds", "holderFrom", "(II)I"⟩) ∈ gTbl := gTbl_mem 867 (by decide +kernel) (by decide +kernel)
theorem w_868 : (Cond.static ⟨"OtherwiseCourt$Deeds", "holderFrom", "(II)I"⟩) ∈ gTbl := gTbl_mem 868 (by decide +kernel) (by decide +kernel)
theorem w_869 : (Cond.code ⟨"OtherwiseCourt$Deeds", "holderFrom", "(II)I"⟩ prog_3_method_4_code 4 (some .int)) ∈ gTbl := gTbl_mem 869 (by decide +kernel) (by decide +kernel)
theorem sl_X1_32 : jSL RX1 32 mX1_holderFrom 2 := ⟨List.forall_mem_cons.mpr ⟨w_867, List.forall_mem_cons.mpr ⟨w_868, List.forall_mem_cons.mpr ⟨w_70, List.forall_mem_cons.mpr ⟨w_869, fun _ h => absurd h List.not_mem_nil⟩⟩⟩⟩, by decide, by decide, by decide, by decide +kernel⟩
theorem w_870 : (Cond.fieldLink "OtherwiseCourt$Deeds" 36 "OtherwiseCourt$Deeds" "BODIES" "[I") ∈ gTbl := gTbl_mem 870 (by decide +kernel) (by decide +kernel)
theorem w_874 : (Cond.methodLink "OtherwiseCourt$Deeds" 42 ⟨"OtherwiseCourt$Deeds", "note", "(I)V"⟩) ∈ gTbl := gTbl_mem 874 (by decide +kernel) (by decide +kernel)
theorem w_876 : (Cond.instanceMethod ⟨"OtherwiseCourt$Deeds", "note", "(I)V"⟩) ∈ gTbl := gTbl_mem 876 (by decide +kernel) (by decide +kernel)
theorem w_22 : (Cond.selects "OtherwiseCourt$Deeds" ⟨"OtherwiseCourt$Deeds", "note", "(I)V"⟩ ⟨"OtherwiseCourt$Deeds", "note", "(I)V"⟩) ∈ gTbl := gTbl_mem 22 (by decide +kernel) (by decide +kernel)
theorem w_877 : (Cond.code ⟨"OtherwiseCourt$Deeds", "note", "(I)V"⟩ prog_3_method_5_code 2 none) ∈ gTbl := gTbl_mem 877 (by decide +kernel) (by decide +kernel)
theorem vl_X1_42 : jVL RX1 42 mX1_note 1 := ⟨List.forall_mem_cons.mpr ⟨w_874, List.forall_mem_cons.mpr ⟨w_876, List.forall_mem_cons.mpr ⟨w_22, List.forall_mem_cons.mpr ⟨w_70, List.forall_mem_cons.mpr ⟨w_877, fun _ h => absurd h List.not_mem_nil⟩⟩⟩⟩⟩, by decide, by decide, by decide, by decide +kernel⟩
theorem fl_X1_19 : jFL RX1 19 1 2 := ⟨_, rfl, by decide, w_388⟩
theorem fl_X1_25 : jFL RX1 25 1 4 := ⟨_, rfl, by decide, w_390⟩
theorem fl_X1_15 : jFL RX1 15 1 1 := ⟨_, rfl, by decide, w_386⟩
theorem fl_X1_9 : jFL RX1 9 1 0 := ⟨_, rfl, by decide, w_384⟩
theorem w_92 : (Cond.methodLink "OtherwiseCourt$Hall" 3 ⟨"java/lang/Object", "<init>", "()V"⟩) ∈ gTbl := gTbl_mem 92 (by decide +kernel) (by decide +kernel)
theorem w_93 : (Cond.fieldLink "OtherwiseCourt$Hall" 9 "OtherwiseCourt$Hall" "day" "I") ∈ gTbl := gTbl_mem 93 (by decide +kernel) (by decide +kernel)
theorem pl_X2_9 : jPL RX2 9 2 0 false := ⟨_, rfl, by decide, w_93, by decide, by decide⟩
theorem w_95 : (Cond.fieldLink "OtherwiseCourt$Hall" 15 "OtherwiseCourt$Hall" "suits" "I") ∈ gTbl := gTbl_mem 95 (by decide +kernel) (by decide +kernel)
theorem pl_X2_15 : jPL RX2 15 2 1 false := ⟨_, rfl, by decide, w_95, by decide, by decide⟩
theorem w_97 : (Cond.fieldLink "OtherwiseCourt$Hall" 18 "OtherwiseCourt$Hall" "points" "[I") ∈ gTbl := gTbl_mem 97 (by decide +kernel) (by decide +kernel)
theorem rl_X2_18 : jRL RX2 18 2 2 := ⟨_, rfl, by decide, w_97, by decide, by decide, Or.inr ⟨.int, by decide +kernel⟩⟩
theorem w_99 : (Cond.fieldLink "OtherwiseCourt$Hall" 22 "OtherwiseCourt$Hall" "worths" "[I") ∈ gTbl := gTbl_mem 99 (by decide +kernel) (by decide +kernel)
theorem rl_X2_22 : jRL RX2 22 2 3 := ⟨_, rfl, by decide, w_99, by decide, by decide, Or.inr ⟨.int, by decide +kernel⟩⟩
theorem w_101 : (Cond.fieldLink "OtherwiseCourt$Hall" 25 "OtherwiseCourt$Hall" "judges" "I") ∈ gTbl := gTbl_mem 101 (by decide +kernel) (by decide +kernel)
theorem pl_X2_25 : jPL RX2 25 2 4 false := ⟨_, rfl, by decide, w_101, by decide, by decide⟩
theorem w_103 : (Cond.fieldLink "OtherwiseCourt$Hall" 28 "OtherwiseCourt$Hall" "kinds" "[I") ∈ gTbl := gTbl_mem 103 (by decide +kernel) (by decide +kernel)
theorem rl_X2_28 : jRL RX2 28 2 5 := ⟨_, rfl, by decide, w_103, by decide, by decide, Or.inr ⟨.int, by decide +kernel⟩⟩
theorem w_105 : (Cond.fieldLink "OtherwiseCourt$Hall" 31 "OtherwiseCourt$Hall" "numbers" "[I") ∈ gTbl := gTbl_mem 105 (by decide +kernel) (by decide +kernel)
theorem rl_X2_31 : jRL RX2 31 2 6 := ⟨_, rfl, by decide, w_105, by decide, by decide, Or.inr ⟨.int, by decide +kernel⟩⟩
theorem w_107 : (Cond.fieldLink "OtherwiseCourt$Hall" 34 "OtherwiseCourt$Hall" "rows" "[I") ∈ gTbl := gTbl_mem 107 (by decide +kernel) (by decide +kernel)
theorem rl_X2_34 : jRL RX2 34 2 7 := ⟨_, rfl, by decide, w_107, by decide, by decide, Or.inr ⟨.int, by decide +kernel⟩⟩
theorem w_110 : (Cond.fieldLink "OtherwiseCourt$Hall" 37 "OtherwiseCourt$Hall" "entries" "I") ∈ gTbl := gTbl_mem 110 (by decide +kernel) (by decide +kernel)
theorem pl_X2_37 : jPL RX2 37 2 8 false := ⟨_, rfl, by decide, w_110, by decide, by decide⟩
theorem w_113 : (Cond.fieldLink "OtherwiseCourt$Hall" 40 "OtherwiseCourt$Hall" "book" "[I") ∈ gTbl := gTbl_mem 113 (by decide +kernel) (by decide +kernel)
theorem rl_X2_40 : jRL RX2 40 2 9 := ⟨_, rfl, by decide, w_113, by decide, by decide, Or.inr ⟨.int, by decide +kernel⟩⟩
theorem w_116 : (Cond.fieldLink "OtherwiseCourt$Hall" 43 "OtherwiseCourt$Hall" "queued" "I") ∈ gTbl := gTbl_mem 116 (by decide +kernel) (by decide +kernel)
theorem pl_X2_43 : jPL RX2 43 2 10 false := ⟨_, rfl, by decide, w_116, by decide, by decide⟩
theorem w_119 : (Cond.fieldLink "OtherwiseCourt$Hall" 46 "OtherwiseCourt$Hall" "queue" "[I") ∈ gTbl := gTbl_mem 119 (by decide +kernel) (by decide +kernel)
theorem rl_X2_46 : jRL RX2 46 2 11 := ⟨_, rfl, by decide, w_119, by decide, by decide, Or.inr ⟨.int, by decide +kernel⟩⟩
theorem w_122 : (Cond.fieldLink "OtherwiseCourt$Hall" 49 "OtherwiseCourt$Hall" "signs" "I") ∈ gTbl := gTbl_mem 122 (by decide +kernel) (by decide +kernel)
theorem pl_X2_49 : jPL RX2 49 2 12 false := ⟨_, rfl, by decide, w_122, by decide, by decide⟩
theorem w_124 : (Cond.fieldLink "OtherwiseCourt$Hall" 52 "OtherwiseCourt$Hall" "tape" "[B") ∈ gTbl := gTbl_mem 124 (by decide +kernel) (by decide +kernel)
theorem rl_X2_52 : jRL RX2 52 2 13 := ⟨_, rfl, by decide, w_124, by decide, by decide, Or.inr ⟨.byte, by decide +kernel⟩⟩
theorem w_126 : (Cond.fieldLink "OtherwiseCourt$Hall" 56 "OtherwiseCourt$Hall" "courts" "I") ∈ gTbl := gTbl_mem 126 (by decide +kernel) (by decide +kernel)
theorem pl_X2_56 : jPL RX2 56 2 14 false := ⟨_, rfl, by decide, w_126, by decide, by decide⟩
theorem w_128 : (Cond.fieldLink "OtherwiseCourt$Hall" 59 "OtherwiseCourt$Hall" "lawSize" "I") ∈ gTbl := gTbl_mem 128 (by decide +kernel) (by decide +kernel)
theorem pl_X2_59 : jPL RX2 59 2 15 false := ⟨_, rfl, by decide, w_128, by decide, by decide⟩
theorem w_130 : (Cond.fieldLink "OtherwiseCourt$Hall" 62 "OtherwiseCourt$Hall" "law" "[B") ∈ gTbl := gTbl_mem 130 (by decide +kernel) (by decide +kernel)
theorem rl_X2_62 : jRL RX2 62 2 16 := ⟨_, rfl, by decide, w_130, by decide, by decide, Or.inr ⟨.byte, by decide +kernel⟩⟩
theorem fl_X2_15 : jFL RX2 15 2 1 := ⟨_, rfl, by decide, w_95⟩
theorem fl_X2_25 : jFL RX2 25 2 4 := ⟨_, rfl, by decide, w_101⟩
theorem w_564 : (Cond.methodLink "OtherwiseCourt$Hall" 65 ⟨"OtherwiseCourt$Hall", "hasSuit", "(I)Z"⟩) ∈ gTbl := gTbl_mem 564 (by decide +kernel) (by decide +kernel)
theorem w_557 : (Cond.instanceMethod ⟨"OtherwiseCourt$Hall", "hasSuit", "(I)Z"⟩) ∈ gTbl := gTbl_mem 557 (by decide +kernel) (by decide +kernel)
theorem w_558 : (Cond.selects "OtherwiseCourt$Hall" ⟨"OtherwiseCourt$Hall", "hasSuit", "(I)Z"⟩ ⟨"OtherwiseCourt$Hall", "hasSuit", "(I)Z"⟩) ∈ gTbl := gTbl_mem 558 (by decide +kernel) (by decide +kernel)
theorem w_559 : (Cond.code ⟨"OtherwiseCourt$Hall", "hasSuit", "(I)Z"⟩ prog_4_method_2_code 2 (some .boolean)) ∈ gTbl := gTbl_mem 559 (by decide +kernel) (by decide +kernel)
theorem vl_X2_65 : jVL RX2 65 mX2_hasSuit 1 := ⟨List.forall_mem_cons.mpr ⟨w_564, List.forall_mem_cons.mpr ⟨w_557, List.forall_mem_cons.mpr ⟨w_558, List.forall_mem_cons.mpr ⟨w_64, List.forall_mem_cons.mpr ⟨w_559, fun _ h => absurd h List.not_mem_nil⟩⟩⟩⟩⟩, by decide, by decide, by decide, by decide +kernel⟩
theorem fl_X2_18 : jFL RX2 18 2 2 := ⟨_, rfl, by decide, w_97⟩
theorem fl_X2_22 : jFL RX2 22 2 3 := ⟨_, rfl, by decide, w_99⟩
theorem w_585 : (Cond.methodLink "OtherwiseCourt$Hall" 69 ⟨"OtherwiseCourt$Hall", "hasJudge", "(I)Z"⟩) ∈ gTbl := gTbl_mem 585 (by decide +kernel) (by decide +kernel)
theorem w_578 : (Cond.instanceMethod ⟨"OtherwiseCourt$Hall", "hasJudge", "(I)Z"⟩) ∈ gTbl := gTbl_mem 578 (by decide +kernel) (by decide +kernel)
theorem w_579 : (Cond.selects "OtherwiseCourt$Hall" ⟨"OtherwiseCourt$Hall", "hasJudge", "(I)Z"⟩ ⟨"OtherwiseCourt$Hall", "hasJudge", "(I)Z"⟩) ∈ gTbl := gTbl_mem 579 (by decide +kernel) (by decide +kernel)
theorem w_580 : (Cond.code ⟨"OtherwiseCourt$Hall", "hasJudge", "(I)Z"⟩ prog_4_method_4_code 2 (some .boolean)) ∈ gTbl := gTbl_mem 580 (by decide +kernel) (by decide +kernel)
theorem vl_X2_69 : jVL RX2 69 mX2_hasJudge 1 := ⟨List.forall_mem_cons.mpr ⟨w_585, List.forall_mem_cons.mpr ⟨w_578, List.forall_mem_cons.mpr ⟨w_579, List.forall_mem_cons.mpr ⟨w_64, List.forall_mem_cons.mpr ⟨w_580, fun _ h => absurd h List.not_mem_nil⟩⟩⟩⟩⟩, by decide, by decide, by decide, by decide +kernel⟩
theorem fl_X2_28 : jFL RX2 28 2 5 := ⟨_, rfl, by decide, w_103⟩
theorem fl_X2_31 : jFL RX2 31 2 6 := ⟨_, rfl, by decide, w_105⟩
theorem fl_X2_37 : jFL RX2 37 2 8 := ⟨_, rfl, by decide, w_110⟩
theorem fl_X2_40 : jFL RX2 40 2 9 := ⟨_, rfl, by decide, w_113⟩
theorem fl_X2_9 : jFL RX2 9 2 0 := ⟨_, rfl, by decide, w_93⟩
theorem fl_X2_43 : jFL RX2 43 2 10 := ⟨_, rfl, by decide, w_116⟩
theorem fl_X2_49 : jFL RX2 49 2 12 := ⟨_, rfl, by decide, w_122⟩
theorem fl_X2_56 : jFL RX2 56 2 14 := ⟨_, rfl, by decide, w_126⟩
theorem fl_X2_59 : jFL RX2 59 2 15 := ⟨_, rfl, by decide, w_128⟩
theorem w_895 : (Cond.methodLink "OtherwiseCourt$Hall" 72 ⟨"java/lang/System", "arraycopy", "(Ljava/lang/Object;ILjava/lang/Object;II)V"⟩) ∈ gTbl := gTbl_mem 895 (by decide +kernel) (by decide +kernel)
theorem fl_X2_34 : jFL RX2 34 2 7 := ⟨_, rfl, by decide, w_107⟩
theorem fl_X2_46 : jFL RX2 46 2 11 := ⟨_, rfl, by decide, w_119⟩
theorem fl_X2_52 : jFL RX2 52 2 13 := ⟨_, rfl, by decide, w_124⟩
theorem fl_X2_62 : jFL RX2 62 2 16 := ⟨_, rfl, by decide, w_130⟩
theorem w_174 : (Cond.methodLink "OtherwiseCourt$Law" 3 ⟨"java/lang/Object", "<init>", "()V"⟩) ∈ gTbl := gTbl_mem 174 (by decide +kernel) (by decide +kernel)
theorem w_175 : (Cond.fieldLink "OtherwiseCourt$Law" 9 "OtherwiseCourt$Law" "weights" "[I") ∈ gTbl := gTbl_mem 175 (by decide +kernel) (by decide +kernel)
theorem rl_X3_9 : jRL RX3 9 3 0 := ⟨_, rfl, by decide, w_175, by decide, by decide, Or.inr ⟨.int, by decide +kernel⟩⟩
theorem w_178 : (Cond.fieldLink "OtherwiseCourt$Law" 15 "OtherwiseCourt$Law" "clashes" "[I") ∈ gTbl := gTbl_mem 178 (by decide +kernel) (by decide +kernel)
theorem rl_X3_15 : jRL RX3 15 3 1 := ⟨_, rfl, by decide, w_178, by decide, by decide, Or.inr ⟨.int, by decide +kernel⟩⟩
theorem w_181 : (Cond.fieldLink "OtherwiseCourt$Law" 18 "OtherwiseCourt$Law" "bar" "I") ∈ gTbl := gTbl_mem 181 (by decide +kernel) (by decide +kernel)
theorem pl_X3_18 : jPL RX3 18 3 2 false := ⟨_, rfl, by decide, w_181, by decide, by decide⟩
theorem w_184 : (Cond.fieldLink "OtherwiseCourt$Law" 22 "OtherwiseCourt$Law" "kind" "I") ∈ gTbl := gTbl_mem 184 (by decide +kernel) (by decide +kernel)
theorem pl_X3_22 : jPL RX3 22 3 3 false := ⟨_, rfl, by decide, w_184, by decide, by decide⟩
theorem w_185 : (Cond.fieldLink "OtherwiseCourt$Law" 25 "OtherwiseCourt$Law" "number" "I") ∈ gTbl := gTbl_mem 185 (by decide +kernel) (by decide +kernel)
theorem pl_X3_25 : jPL RX3 25 3 4 false := ⟨_, rfl, by decide, w_185, by decide, by decide⟩
theorem w_186 : (Cond.fieldLink "OtherwiseCourt$Law" 28 "OtherwiseCourt$Law" "day" "I") ∈ gTbl := gTbl_mem 186 (by decide +kernel) (by decide +kernel)
theorem pl_X3_28 : jPL RX3 28 3 5 false := ⟨_, rfl, by decide, w_186, by decide, by decide⟩
theorem w_187 : (Cond.fieldLink "OtherwiseCourt$Law" 31 "OtherwiseCourt$Law" "state" "I") ∈ gTbl := gTbl_mem 187 (by decide +kernel) (by decide +kernel)
theorem pl_X3_31 : jPL RX3 31 3 6 false := ⟨_, rfl, by decide, w_187, by decide, by decide⟩
theorem w_188 : (Cond.fieldLink "OtherwiseCourt$Law" 34 "OtherwiseCourt$Law" "verb" "I") ∈ gTbl := gTbl_mem 188 (by decide +kernel) (by decide +kernel)
theorem pl_X3_34 : jPL RX3 34 3 7 false := ⟨_, rfl, by decide, w_188, by decide, by decide⟩
theorem w_189 : (Cond.fieldLink "OtherwiseCourt$Law" 37 "OtherwiseCourt$Law" "letter" "I") ∈ gTbl := gTbl_mem 189 (by decide +kernel) (by decide +kernel)
theorem pl_X3_37 : jPL RX3 37 3 8 false := ⟨_, rfl, by decide, w_189, by decide, by decide⟩
theorem w_190 : (Cond.fieldLink "OtherwiseCourt$Law" 40 "OtherwiseCourt$Law" "clauses" "I") ∈ gTbl := gTbl_mem 190 (by decide +kernel) (by decide +kernel)
theorem pl_X3_40 : jPL RX3 40 3 9 false := ⟨_, rfl, by decide, w_190, by decide, by decide⟩
theorem w_191 : (Cond.fieldLink "OtherwiseCourt$Law" 43 "OtherwiseCourt$Law" "amount" "I") ∈ gTbl := gTbl_mem 191 (by decide +kernel) (by decide +kernel)
theorem pl_X3_43 : jPL RX3 43 3 10 false := ⟨_, rfl, by decide, w_191, by decide, by decide⟩
theorem w_192 : (Cond.fieldLink "OtherwiseCourt$Law" 46 "OtherwiseCourt$Law" "digits" "I") ∈ gTbl := gTbl_mem 192 (by decide +kernel) (by decide +kernel)
theorem pl_X3_46 : jPL RX3 46 3 11 false := ⟨_, rfl, by decide, w_192, by decide, by decide⟩
theorem w_193 : (Cond.fieldLink "OtherwiseCourt$Law" 49 "OtherwiseCourt$Law" "times" "I") ∈ gTbl := gTbl_mem 193 (by decide +kernel) (by decide +kernel)
theorem pl_X3_49 : jPL RX3 49 3 12 false := ⟨_, rfl, by decide, w_193, by decide, by decide⟩
theorem w_194 : (Cond.fieldLink "OtherwiseCourt$Law" 52 "OtherwiseCourt$Law" "of" "I") ∈ gTbl := gTbl_mem 194 (by decide +kernel) (by decide +kernel)
theorem pl_X3_52 : jPL RX3 52 3 13 false := ⟨_, rfl, by decide, w_194, by decide, by decide⟩
theorem w_195 : (Cond.fieldLink "OtherwiseCourt$Law" 55 "OtherwiseCourt$Law" "how" "I") ∈ gTbl := gTbl_mem 195 (by decide +kernel) (by decide +kernel)
theorem pl_X3_55 : jPL RX3 55 3 14 false := ⟨_, rfl, by decide, w_195, by decide, by decide⟩
theorem w_196 : (Cond.fieldLink "OtherwiseCourt$Law" 58 "OtherwiseCourt$Law" "open" "I") ∈ gTbl := gTbl_mem 196 (by decide +kernel) (by decide +kernel)
theorem pl_X3_58 : jPL RX3 58 3 15 false := ⟨_, rfl, by decide, w_196, by decide, by decide⟩
theorem w_197 : (Cond.fieldLink "OtherwiseCourt$Law" 61 "OtherwiseCourt$Law" "openers" "[I") ∈ gTbl := gTbl_mem 197 (by decide +kernel) (by decide +kernel)
theorem rl_X3_61 : jRL RX3 61 3 16 := ⟨_, rfl, by decide, w_197, by decide, by decide, Or.inr ⟨.int, by decide +kernel⟩⟩
theorem w_198 : (Cond.fieldLink "OtherwiseCourt$Law" 64 "OtherwiseCourt$Law" "terms" "[I") ∈ gTbl := gTbl_mem 198 (by decide +kernel) (by decide +kernel)
theorem rl_X3_64 : jRL RX3 64 3 17 := ⟨_, rfl, by decide, w_198, by decide, by decide, Or.inr ⟨.int, by decide +kernel⟩⟩
theorem w_199 : (Cond.fieldLink "OtherwiseCourt$Law" 67 "OtherwiseCourt$Law" "factors" "[I") ∈ gTbl := gTbl_mem 199 (by decide +kernel) (by decide +kernel)
theorem rl_X3_67 : jRL RX3 67 3 18 := ⟨_, rfl, by decide, w_199, by decide, by decide, Or.inr ⟨.int, by decide +kernel⟩⟩
theorem fl_X3_9 : jFL RX3 9 3 0 := ⟨_, rfl, by decide, w_175⟩
theorem fl_X3_15 : jFL RX3 15 3 1 := ⟨_, rfl, by decide, w_178⟩
theorem w_445 : (Cond.methodLink "OtherwiseCourt$Law" 79 ⟨"OtherwiseCourt$Law", "goesOn", "(I)Z"⟩) ∈ gTbl := gTbl_mem 445 (by decide +kernel) (by decide +kernel)
theorem w_447 : (Cond.instanceMethod ⟨"OtherwiseCourt$Law", "goesOn", "(I)Z"⟩) ∈ gTbl := gTbl_mem 447 (by decide +kernel) (by decide +kernel)
theorem w_0 : (Cond.selects "OtherwiseCourt$Law" ⟨"OtherwiseCourt$Law", "goesOn", "(I)Z"⟩ ⟨"OtherwiseCourt$Law", "goesOn", "(I)Z"⟩) ∈ gTbl := gTbl_mem 0 (by decide +kernel) (by decide +kernel)
theorem w_65 : (Cond.initialized "OtherwiseCourt$Law") ∈ gTbl := gTbl_mem 65 (by decide +kernel) (by decide +kernel)
theorem w_448 : (Cond.code ⟨"OtherwiseCourt$Law", "goesOn", "(I)Z"⟩ prog_5_method_3_code 2 (some .boolean)) ∈ gTbl := gTbl_mem 448 (by decide +kernel) (by decide +kernel)
theorem vl_X3_79 : jVL RX3 79 mX3_goesOn 1 := ⟨List.forall_mem_cons.mpr ⟨w_445, List.forall_mem_cons.mpr ⟨w_447, List.forall_mem_cons.mpr ⟨w_0, List.forall_mem_cons.mpr ⟨w_65, List.forall_mem_cons.mpr ⟨w_448, fun _ h => absurd h List.not_mem_nil⟩⟩⟩⟩⟩, by decide, by decide, by decide, by decide +kernel⟩
theorem fl_X3_40 : jFL RX3 40 3 9 := ⟨_, rfl, by decide, w_190⟩
theorem fl_X3_31 : jFL RX3 31 3 6 := ⟨_, rfl, by decide, w_187⟩
theorem w_449 : (Cond.methodLink "OtherwiseCourt$Law" 83 ⟨"OtherwiseCourt$Law", "beginsClause", "(I)Z"⟩) ∈ gTbl := gTbl_mem 449 (by decide +kernel) (by decide +kernel)
theorem w_451 : (Cond.instanceMethod ⟨"OtherwiseCourt$Law", "beginsClause", "(I)Z"⟩) ∈ gTbl := gTbl_mem 451 (by decide +kernel) (by decide +kernel)
theorem w_1 : (Cond.selects "OtherwiseCourt$Law" ⟨"OtherwiseCourt$Law", "beginsClause", "(I)Z"⟩ ⟨"OtherwiseCourt$Law", "beginsClause", "(I)Z"⟩) ∈ gTbl := gTbl_mem 1 (by decide +kernel) (by decide +kernel)
theorem w_452 : (Cond.code ⟨"OtherwiseCourt$Law", "beginsClause", "(I)Z"⟩ prog_5_method_4_code 2 (some .boolean)) ∈ gTbl := gTbl_mem 452 (by decide +kernel) (by decide +kernel)
theorem vl_X3_83 : jVL RX3 83 mX3_beginsClause 1 := ⟨List.forall_mem_cons.mpr ⟨w_449, List.forall_mem_cons.mpr ⟨w_451, List.forall_mem_cons.mpr ⟨w_1, List.forall_mem_cons.mpr ⟨w_65, List.forall_mem_cons.mpr ⟨w_452, fun _ h => absurd h List.not_mem_nil⟩⟩⟩⟩⟩, by decide, by decide, by decide, by decide +kernel⟩
theorem w_453 : (Cond.methodLink "OtherwiseCourt$Law" 86 ⟨"OtherwiseCourt$Law", "goesOnWord", "(I)Z"⟩) ∈ gTbl := gTbl_mem 453 (by decide +kernel) (by decide +kernel)
theorem w_455 : (Cond.instanceMethod ⟨"OtherwiseCourt$Law", "goesOnWord", "(I)Z"⟩) ∈ gTbl := gTbl_mem 455 (by decide +kernel) (by decide +kernel)
theorem w_2 : (Cond.selects "OtherwiseCourt$Law" ⟨"OtherwiseCourt$Law", "goesOnWord", "(I)Z"⟩ ⟨"OtherwiseCourt$Law", "goesOnWord", "(I)Z"⟩) ∈ gTbl := gTbl_mem 2 (by decide +kernel) (by decide +kernel)
theorem w_456 : (Cond.code ⟨"OtherwiseCourt$Law", "goesOnWord", "(I)Z"⟩ prog_5_method_5_code 3 (some .boolean)) ∈ gTbl := gTbl_mem 456 (by decide +kernel) (by decide +kernel)
theorem vl_X3_86 : jVL RX3 86 mX3_goesOnWord 1 := ⟨List.forall_mem_cons.mpr ⟨w_453, List.forall_mem_cons.mpr ⟨w_455, List.forall_mem_cons.mpr ⟨w_2, List.forall_mem_cons.mpr ⟨w_65, List.forall_mem_cons.mpr ⟨w_456, fun _ h => absurd h List.not_mem_nil⟩⟩⟩⟩⟩, by decide, by decide, by decide, by decide +kernel⟩
theorem w_512 : (Cond.methodLink "OtherwiseCourt$Law" 89 ⟨"OtherwiseCourt$Law", "isDigit", "(I)Z"⟩) ∈ gTbl := gTbl_mem 512 (by decide +kernel) (by decide +kernel)
theorem w_514 : (Cond.instanceMethod ⟨"OtherwiseCourt$Law", "isDigit", "(I)Z"⟩) ∈ gTbl := gTbl_mem 514 (by decide +kernel) (by decide +kernel)
theorem w_4 : (Cond.selects "OtherwiseCourt$Law" ⟨"OtherwiseCourt$Law", "isDigit", "(I)Z"⟩ ⟨"OtherwiseCourt$Law", "isDigit", "(I)Z"⟩) ∈ gTbl := gTbl_mem 4 (by decide +kernel) (by decide +kernel)
theorem w_515 : (Cond.code ⟨"OtherwiseCourt$Law", "isDigit", "(I)Z"⟩ prog_5_method_7_code 2 (some .boolean)) ∈ gTbl := gTbl_mem 515 (by decide +kernel) (by decide +kernel)
theorem vl_X3_89 : jVL RX3 89 mX3_isDigit 1 := ⟨List.forall_mem_cons.mpr ⟨w_512, List.forall_mem_cons.mpr ⟨w_514, List.forall_mem_cons.mpr ⟨w_4, List.forall_mem_cons.mpr ⟨w_65, List.forall_mem_cons.mpr ⟨w_515, fun _ h => absurd h List.not_mem_nil⟩⟩⟩⟩⟩, by decide, by decide, by decide, by decide +kernel⟩
theorem fl_X3_46 : jFL RX3 46 3 11 := ⟨_, rfl, by decide, w_192⟩
theorem w_516 : (Cond.methodLink "OtherwiseCourt$Law" 92 ⟨"OtherwiseCourt$Law", "endsAmount", "(I)Z"⟩) ∈ gTbl := gTbl_mem 516 (by decide +kernel) (by decide +kernel)
theorem w_518 : (Cond.instanceMethod ⟨"OtherwiseCourt$Law", "endsAmount", "(I)Z"⟩) ∈ gTbl := gTbl_mem 518 (by decide +kernel) (by decide +kernel)
theorem w_5 : (Cond.selects "OtherwiseCourt$Law" ⟨"OtherwiseCourt$Law", "endsAmount", "(I)Z"⟩ ⟨"OtherwiseCourt$Law", "endsAmount", "(I)Z"⟩) ∈ gTbl := gTbl_mem 5 (by decide +kernel) (by decide +kernel)
theorem w_519 : (Cond.code ⟨"OtherwiseCourt$Law", "endsAmount", "(I)Z"⟩ prog_5_method_8_code 2 (some .boolean)) ∈ gTbl := gTbl_mem 519 (by decide +kernel) (by decide +kernel)
theorem vl_X3_92 : jVL RX3 92 mX3_endsAmount 1 := ⟨List.forall_mem_cons.mpr ⟨w_516, List.forall_mem_cons.mpr ⟨w_518, List.forall_mem_cons.mpr ⟨w_5, List.forall_mem_cons.mpr ⟨w_65, List.forall_mem_cons.mpr ⟨w_519, fun _ h => absurd h List.not_mem_nil⟩⟩⟩⟩⟩, by decide, by decide, by decide, by decide +kernel⟩
theorem w_520 : (Cond.methodLink "OtherwiseCourt$Law" 95 ⟨"OtherwiseCourt$Law", "beginsFactor", "(I)Z"⟩) ∈ gTbl := gTbl_mem 520 (by decide +kernel) (by decide +kernel)
theorem w_522 : (Cond.instanceMethod ⟨"OtherwiseCourt$Law", "beginsFactor", "(I)Z"⟩) ∈ gTbl := gTbl_mem 522 (by decide +kernel) (by decide +kernel)
theorem w_6 : (Cond.selects "OtherwiseCourt$Law" ⟨"OtherwiseCourt$Law", "beginsFactor", "(I)Z"⟩ ⟨"OtherwiseCourt$Law", "beginsFactor", "(I)Z"⟩) ∈ gTbl := gTbl_mem 6 (by decide +kernel) (by decide +kernel)
theorem w_523 : (Cond.code ⟨"OtherwiseCourt$Law", "beginsFactor", "(I)Z"⟩ prog_5_method_9_code 2 (some .boolean)) ∈ gTbl := gTbl_mem 523 (by decide +kernel) (by decide +kernel)
theorem vl_X3_95 : jVL RX3 95 mX3_beginsFactor 1 := ⟨List.forall_mem_cons.mpr ⟨w_520, List.forall_mem_cons.mpr ⟨w_522, List.forall_mem_cons.mpr ⟨w_6, List.forall_mem_cons.mpr ⟨w_65, List.forall_mem_cons.mpr ⟨w_523, fun _ h => absurd h List.not_mem_nil⟩⟩⟩⟩⟩, by decide, by decide, by decide, by decide +kernel⟩
theorem w_524 : (Cond.methodLink "OtherwiseCourt$Law" 98 ⟨"OtherwiseCourt$Law", "compares", "(I)Z"⟩) ∈ gTbl := gTbl_mem 524 (by decide +kernel) (by decide +kernel)
theorem w_526 : (Cond.instanceMethod ⟨"OtherwiseCourt$Law", "compares", "(I)Z"⟩) ∈ gTbl := gTbl_mem 526 (by decide +kernel) (by decide +kernel)
theorem w_7 : (Cond.selects "OtherwiseCourt$Law" ⟨"OtherwiseCourt$Law", "compares", "(I)Z"⟩ ⟨"OtherwiseCourt$Law", "compares", "(I)Z"⟩) ∈ gTbl := gTbl_mem 7 (by decide +kernel) (by decide +kernel)
theorem w_527 : (Cond.code ⟨"OtherwiseCourt$Law", "compares", "(I)Z"⟩ prog_5_method_10_code 2 (some .boolean)) ∈ gTbl := gTbl_mem 527 (by decide +kernel) (by decide +kernel)
theorem vl_X3_98 : jVL RX3 98 mX3_compares 1 := ⟨List.forall_mem_cons.mpr ⟨w_524, List.forall_mem_cons.mpr ⟨w_526, List.forall_mem_cons.mpr ⟨w_7, List.forall_mem_cons.mpr ⟨w_65, List.forall_mem_cons.mpr ⟨w_527, fun _ h => absurd h List.not_mem_nil⟩⟩⟩⟩⟩, by decide, by decide, by decide, by decide +kernel⟩
theorem w_528 : (Cond.methodLink "OtherwiseCourt$Law" 101 ⟨"OtherwiseCourt$Law", "endsTest", "(I)Z"⟩) ∈ gTbl := gTbl_mem 528 (by decide +kernel) (by decide +kernel)
theorem w_530 : (Cond.instanceMethod ⟨"OtherwiseCourt$Law", "endsTest", "(I)Z"⟩) ∈ gTbl := gTbl_mem 530 (by decide +kernel) (by decide +kernel)
theorem w_8 : (Cond.selects "OtherwiseCourt$Law" ⟨"OtherwiseCourt$Law", "endsTest", "(I)Z"⟩ ⟨"OtherwiseCourt$Law", "endsTest", "(I)Z"⟩) ∈ gTbl := gTbl_mem 8 (by decide +kernel) (by decide +kernel)
theorem w_531 : (Cond.code ⟨"OtherwiseCourt$Law", "endsTest", "(I)Z"⟩ prog_5_method_11_code 5 (some .boolean)) ∈ gTbl := gTbl_mem 531 (by decide +kernel) (by decide +kernel)
theorem vl_X3_101 : jVL RX3 101 mX3_endsTest 1 := ⟨List.forall_mem_cons.mpr ⟨w_528, List.forall_mem_cons.mpr ⟨w_530, List.forall_mem_cons.mpr ⟨w_8, List.forall_mem_cons.mpr ⟨w_65, List.forall_mem_cons.mpr ⟨w_531, fun _ h => absurd h List.not_mem_nil⟩⟩⟩⟩⟩, by decide, by decide, by decide, by decide +kernel⟩
theorem w_536 : (Cond.methodLink "OtherwiseCourt$Law" 104 ⟨"OtherwiseCourt$Law", "goesBehind", "(I)Z"⟩) ∈ gTbl := gTbl_mem 536 (by decide +kernel) (by decide +kernel)
theorem w_538 : (Cond.instanceMethod ⟨"OtherwiseCourt$Law", "goesBehind", "(I)Z"⟩) ∈ gTbl := gTbl_mem 538 (by decide +kernel) (by decide +kernel)
theorem w_10 : (Cond.selects "OtherwiseCourt$Law" ⟨"OtherwiseCourt$Law", "goesBehind", "(I)Z"⟩ ⟨"OtherwiseCourt$Law", "goesBehind", "(I)Z"⟩) ∈ gTbl := gTbl_mem 10 (by decide +kernel) (by decide +kernel)
theorem w_539 : (Cond.code ⟨"OtherwiseCourt$Law", "goesBehind", "(I)Z"⟩ prog_5_method_13_code 3 (some .boolean)) ∈ gTbl := gTbl_mem 539 (by decide +kernel) (by decide +kernel)
theorem vl_X3_104 : jVL RX3 104 mX3_goesBehind 1 := ⟨List.forall_mem_cons.mpr ⟨w_536, List.forall_mem_cons.mpr ⟨w_538, List.forall_mem_cons.mpr ⟨w_10, List.forall_mem_cons.mpr ⟨w_65, List.forall_mem_cons.mpr ⟨w_539, fun _ h => absurd h List.not_mem_nil⟩⟩⟩⟩⟩, by decide, by decide, by decide, by decide +kernel⟩
theorem fl_X3_34 : jFL RX3 34 3 7 := ⟨_, rfl, by decide, w_188⟩
theorem fl_X3_37 : jFL RX3 37 3 8 := ⟨_, rfl, by decide, w_189⟩
theorem w_460 : (Cond.methodLink "OtherwiseCourt$Law" 113 ⟨"java/lang/String", "length", "()I"⟩) ∈ gTbl := gTbl_mem 460 (by decide +kernel) (by decide +kernel)
theorem w_461 : (Cond.instanceMethod ⟨"java/lang/String", "length", "()I"⟩) ∈ gTbl := gTbl_mem 461 (by decide +kernel) (by decide +kernel)
theorem w_462 : (Cond.selects "java/lang/String" ⟨"java/lang/String", "length", "()I"⟩ ⟨"java/lang/String", "length", "()I"⟩) ∈ gTbl := gTbl_mem 462 (by decide +kernel) (by decide +kernel)
theorem w_73 : (Cond.initialized "java/lang/String") ∈ gTbl := gTbl_mem 73 (by decide +kernel) (by decide +kernel)
theorem w_463 : (Cond.code ⟨"java/lang/String", "length", "()I"⟩ prog_13_method_54_code 1 (some .int)) ∈ gTbl := gTbl_mem 463 (by decide +kernel) (by decide +kernel)
theorem vl_X3_113 : jVL RX3 113 mJ0_length_8abf5 0 := ⟨List.forall_mem_cons.mpr ⟨w_460, List.forall_mem_cons.mpr ⟨w_461, List.forall_mem_cons.mpr ⟨w_462, List.forall_mem_cons.mpr ⟨w_73, List.forall_mem_cons.mpr ⟨w_463, fun _ h => absurd h List.not_mem_nil⟩⟩⟩⟩⟩, by decide, by decide, by decide, by decide +kernel⟩
theorem w_470 : (Cond.methodLink "OtherwiseCourt$Law" 119 ⟨"java/lang/String", "charAt", "(I)C"⟩) ∈ gTbl := gTbl_mem 470 (by decide +kernel) (by decide +kernel)
theorem w_471 : (Cond.instanceMethod ⟨"java/lang/String", "charAt", "(I)C"⟩) ∈ gTbl := gTbl_mem 471 (by decide +kernel) (by decide +kernel)
theorem w_472 : (Cond.selects "java/lang/String" ⟨"java/lang/String", "charAt", "(I)C"⟩ ⟨"java/lang/String", "charAt", "(I)C"⟩) ∈ gTbl := gTbl_mem 472 (by decide +kernel) (by decide +kernel)
theorem w_473 : (Cond.code ⟨"java/lang/String", "charAt", "(I)C"⟩ prog_13_method_56_code 2 (some .char)) ∈ gTbl := gTbl_mem 473 (by decide +kernel) (by decide +kernel)
theorem vl_X3_119 : jVL RX3 119 mJ0_charAt_5068e 1 := ⟨List.forall_mem_cons.mpr ⟨w_470, List.forall_mem_cons.mpr ⟨w_471, List.forall_mem_cons.mpr ⟨w_472, List.forall_mem_cons.mpr ⟨w_73, List.forall_mem_cons.mpr ⟨w_473, fun _ h => absurd h List.not_mem_nil⟩⟩⟩⟩⟩, by decide, by decide, by decide, by decide +kernel⟩
theorem w_508 : (Cond.methodLink "OtherwiseCourt$Law" 123 ⟨"OtherwiseCourt$Law", "beginNumber", "(I)V"⟩) ∈ gTbl := gTbl_mem 508 (by decide +kernel) (by decide +kernel)
theorem w_510 : (Cond.instanceMethod ⟨"OtherwiseCourt$Law", "beginNumber", "(I)V"⟩) ∈ gTbl := gTbl_mem 510 (by decide +kernel) (by decide +kernel)
theorem w_3 : (Cond.selects "OtherwiseCourt$Law" ⟨"OtherwiseCourt$Law", "beginNumber", "(I)V"⟩ ⟨"OtherwiseCourt$Law", "beginNumber", "(I)V"⟩) ∈ gTbl := gTbl_mem 3 (by decide +kernel) (by decide +kernel)
theorem w_511 : (Cond.code ⟨"OtherwiseCourt$Law", "beginNumber", "(I)V"⟩ prog_5_method_6_code 2 none) ∈ gTbl := gTbl_mem 511 (by decide +kernel) (by decide +kernel)
theorem vl_X3_123 : jVL RX3 123 mX3_beginNumber 1 := ⟨List.forall_mem_cons.mpr ⟨w_508, List.forall_mem_cons.mpr ⟨w_510, List.forall_mem_cons.mpr ⟨w_3, List.forall_mem_cons.mpr ⟨w_65, List.forall_mem_cons.mpr ⟨w_511, fun _ h => absurd h List.not_mem_nil⟩⟩⟩⟩⟩, by decide, by decide, by decide, by decide +kernel⟩
theorem fl_X3_43 : jFL RX3 43 3 10 := ⟨_, rfl, by decide, w_191⟩
theorem fl_X3_64 : jFL RX3 64 3 17 := ⟨_, rfl, by decide, w_198⟩
theorem fl_X3_67 : jFL RX3 67 3 18 := ⟨_, rfl, by decide, w_199⟩
theorem fl_X3_58 : jFL RX3 58 3 15 := ⟨_, rfl, by decide, w_196⟩
theorem fl_X3_61 : jFL RX3 61 3 16 := ⟨_, rfl, by decide, w_197⟩
theorem fl_X3_52 : jFL RX3 52 3 13 := ⟨_, rfl, by decide, w_194⟩
theorem fl_X3_22 : jFL RX3 22 3 3 := ⟨_, rfl, by decide, w_184⟩
theorem fl_X3_25 : jFL RX3 25 3 4 := ⟨_, rfl, by decide, w_185⟩
theorem fl_X3_28 : jFL RX3 28 3 5 := ⟨_, rfl, by decide, w_186⟩
theorem fl_X3_55 : jFL RX3 55 3 14 := ⟨_, rfl, by decide, w_195⟩
theorem w_532 : (Cond.methodLink "OtherwiseCourt$Law" 127 ⟨"OtherwiseCourt$Law", "endFactor", "(I)V"⟩) ∈ gTbl := gTbl_mem 532 (by decide +kernel) (by decide +kernel)
theorem w_534 : (Cond.instanceMethod ⟨"OtherwiseCourt$Law", "endFactor", "(I)V"⟩) ∈ gTbl := gTbl_mem 534 (by decide +kernel) (by decide +kernel)
theorem w_9 : (Cond.selects "OtherwiseCourt$Law" ⟨"OtherwiseCourt$Law", "endFactor", "(I)V"⟩ ⟨"OtherwiseCourt$Law", "endFactor", "(I)V"⟩) ∈ gTbl := gTbl_mem 9 (by decide +kernel) (by decide +kernel)
theorem w_535 : (Cond.code ⟨"OtherwiseCourt$Law", "endFactor", "(I)V"⟩ prog_5_method_12_code 4 none) ∈ gTbl := gTbl_mem 535 (by decide +kernel) (by decide +kernel)
theorem vl_X3_127 : jVL RX3 127 mX3_endFactor 1 := ⟨List.forall_mem_cons.mpr ⟨w_532, List.forall_mem_cons.mpr ⟨w_534, List.forall_mem_cons.mpr ⟨w_9, List.forall_mem_cons.mpr ⟨w_65, List.forall_mem_cons.mpr ⟨w_535, fun _ h => absurd h List.not_mem_nil⟩⟩⟩⟩⟩, by decide, by decide, by decide, by decide +kernel⟩
theorem w_540 : (Cond.methodLink "OtherwiseCourt$Law" 130 ⟨"OtherwiseCourt$Law", "grow", "([II)V"⟩) ∈ gTbl := gTbl_mem 540 (by decide +kernel) (by decide +kernel)
theorem w_542 : (Cond.instanceMethod ⟨"OtherwiseCourt$Law", "grow", "([II)V"⟩) ∈ gTbl := gTbl_mem 542 (by decide +kernel) (by decide +kernel)
theorem w_11 : (Cond.selects "OtherwiseCourt$Law" ⟨"OtherwiseCourt$Law", "grow", "([II)V"⟩ ⟨"OtherwiseCourt$Law", "grow", "([II)V"⟩) ∈ gTbl := gTbl_mem 11 (by decide +kernel) (by decide +kernel)
theorem w_543 : (Cond.code ⟨"OtherwiseCourt$Law", "grow", "([II)V"⟩ prog_5_method_14_code 4 none) ∈ gTbl := gTbl_mem 543 (by decide +kernel) (by decide +kernel)
theorem vl_X3_130 : jVL RX3 130 mX3_grow 2 := ⟨List.forall_mem_cons.mpr ⟨w_540, List.forall_mem_cons.mpr ⟨w_542, List.forall_mem_cons.mpr ⟨w_11, List.forall_mem_cons.mpr ⟨w_65, List.forall_mem_cons.mpr ⟨w_543, fun _ h => absurd h List.not_mem_nil⟩⟩⟩⟩⟩, by decide, by decide, by decide, by decide +kernel⟩
theorem fl_X3_49 : jFL RX3 49 3 12 := ⟨_, rfl, by decide, w_193⟩
theorem w_330 : (Cond.methodLink "OtherwiseCourt$Search" 3 ⟨"java/lang/Object", "<init>", "()V"⟩) ∈ gTbl := gTbl_mem 330 (by decide +kernel) (by decide +kernel)
theorem w_331 : (Cond.classLink "OtherwiseCourt$Search" 9 "OtherwiseCourt$Tally") ∈ gTbl := gTbl_mem 331 (by decide +kernel) (by decide +kernel)
theorem w_335 : (Cond.fieldLink "OtherwiseCourt$Search" 11 "OtherwiseCourt$Search" "tallies" "[LOtherwiseCourt$Tally;") ∈ gTbl := gTbl_mem 335 (by decide +kernel) (by decide +kernel)
theorem rl_X4_11 : jRL RX4 11 4 1 := ⟨_, rfl, by decide, w_335, by decide, by decide, Or.inr ⟨(.object "OtherwiseCourt$Tally"), by decide +kernel⟩⟩
theorem w_336 : (Cond.fieldLink "OtherwiseCourt$Search" 17 "OtherwiseCourt$Search" "worths" "[I") ∈ gTbl := gTbl_mem 336 (by decide +kernel) (by decide +kernel)
theorem rl_X4_17 : jRL RX4 17 4 2 := ⟨_, rfl, by decide, w_336, by decide, by decide, Or.inr ⟨.int, by decide +kernel⟩⟩
theorem w_337 : (Cond.fieldLink "OtherwiseCourt$Search" 21 "OtherwiseCourt$Search" "tried" "[I") ∈ gTbl := gTbl_mem 337 (by decide +kernel) (by decide +kernel)
theorem rl_X4_21 : jRL RX4 21 4 3 := ⟨_, rfl, by decide, w_337, by decide, by decide, Or.inr ⟨.int, by decide +kernel⟩⟩
theorem w_338 : (Cond.fieldLink "OtherwiseCourt$Search" 24 "OtherwiseCourt$Search" "row" "[I") ∈ gTbl := gTbl_mem 338 (by decide +kernel) (by decide +kernel)
theorem rl_X4_24 : jRL RX4 24 4 4 := ⟨_, rfl, by decide, w_338, by decide, by decide, Or.inr ⟨.int, by decide +kernel⟩⟩
theorem w_340 : (Cond.fieldLink "OtherwiseCourt$Search" 27 "OtherwiseCourt$Search" "most" "I") ∈ gTbl := gTbl_mem 340 (by decide +kernel) (by decide +kernel)
theorem pl_X4_27 : jPL RX4 27 4 5 false := ⟨_, rfl, by decide, w_340, by decide, by decide⟩
theorem w_342 : (Cond.fieldLink "OtherwiseCourt$Search" 31 "OtherwiseCourt$Search" "first" "I") ∈ gTbl := gTbl_mem 342 (by decide +kernel) (by decide +kernel)
theorem pl_X4_31 : jPL RX4 31 4 6 false := ⟨_, rfl, by decide, w_342, by decide, by decide⟩
theorem w_334 : (Cond.fieldLink "OtherwiseCourt$Search" 34 "OtherwiseCourt$Search" "sitting" "LOtherwiseCourt$Sitting;") ∈ gTbl := gTbl_mem 334 (by decide +kernel) (by decide +kernel)
theorem rl_X4_34 : jRL RX4 34 4 0 := ⟨_, rfl, by decide, w_334, by decide, by decide, Or.inl ⟨"OtherwiseCourt$Sitting", by decide +kernel⟩⟩
theorem fl_X4_11 : jFL RX4 11 4 1 := ⟨_, rfl, by decide, w_335⟩
theorem il_X4_38 : jIL RX4 38 mX6_init 0 := ⟨List.forall_mem_cons.mpr ⟨w_248, List.forall_mem_cons.mpr ⟨w_67, List.forall_mem_cons.mpr ⟨w_249, fun _ h => absurd h List.not_mem_nil⟩⟩⟩, by decide, by decide, by decide, by decide +kernel, rfl, rfl, Or.inr ⟨"OtherwiseCourt", by decide +kernel⟩⟩
theorem w_720 : (Cond.methodLink "OtherwiseCourt$Search" 39 ⟨"OtherwiseCourt$Hall", "pointsOf", "(I)I"⟩) ∈ gTbl := gTbl_mem 720 (by decide +kernel) (by decide +kernel)
theorem vl_X4_39 : jVL RX4 39 mX2_pointsOf 1 := ⟨List.forall_mem_cons.mpr ⟨w_720, List.forall_mem_cons.mpr ⟨w_561, List.forall_mem_cons.mpr ⟨w_562, List.forall_mem_cons.mpr ⟨w_64, List.forall_mem_cons.mpr ⟨w_563, fun _ h => absurd h List.not_mem_nil⟩⟩⟩⟩⟩, by decide, by decide, by decide, by decide +kernel⟩
theorem w_721 : (Cond.methodLink "OtherwiseCourt$Search" 45 ⟨"OtherwiseCourt$Tally", "begin", "(I)V"⟩) ∈ gTbl := gTbl_mem 721 (by decide +kernel) (by decide +kernel)
theorem vl_X4_45 : jVL RX4 45 mX6_begin 1 := ⟨List.forall_mem_cons.mpr ⟨w_721, List.forall_mem_cons.mpr ⟨w_634, List.forall_mem_cons.mpr ⟨w_635, List.forall_mem_cons.mpr ⟨w_67, List.forall_mem_cons.mpr ⟨w_636, fun _ h => absurd h List.not_mem_nil⟩⟩⟩⟩⟩, by decide, by decide, by decide, by decide +kernel⟩
theorem fl_X4_34 : jFL RX4 34 4 0 := ⟨_, rfl, by decide, w_334⟩
theorem w_293 : (Cond.fieldLink "OtherwiseCourt$Search" 49 "OtherwiseCourt$Sitting" "heard" "I") ∈ gTbl := gTbl_mem 293 (by decide +kernel) (by decide +kernel)
theorem fl_X4_49 : jFL RX4 49 5 6 := ⟨_, rfl, by decide, w_293⟩
theorem w_722 : (Cond.methodLink "OtherwiseCourt$Search" 54 ⟨"OtherwiseCourt$Sitting", "follow", "(LOtherwiseCourt$Tally;I)V"⟩) ∈ gTbl := gTbl_mem 722 (by decide +kernel) (by decide +kernel)
theorem vl_X4_54 : jVL RX4 54 mX5_follow 2 := ⟨List.forall_mem_cons.mpr ⟨w_722, List.forall_mem_cons.mpr ⟨w_638, List.forall_mem_cons.mpr ⟨w_639, List.forall_mem_cons.mpr ⟨w_66, List.forall_mem_cons.mpr ⟨w_640, fun _ h => absurd h List.not_mem_nil⟩⟩⟩⟩⟩, by decide, by decide, by decide, by decide +kernel⟩
theorem fl_X4_17 : jFL RX4 17 4 2 := ⟨_, rfl, by decide, w_336⟩
theorem w_723 : (Cond.methodLink "OtherwiseCourt$Search" 58 ⟨"OtherwiseCourt$Hall", "worthOf", "(I)I"⟩) ∈ gTbl := gTbl_mem 723 (by decide +kernel) (by decide +kernel)
theorem w_566 : (Cond.instanceMethod ⟨"OtherwiseCourt$Hall", "worthOf", "(I)I"⟩) ∈ gTbl := gTbl_mem 566 (by decide +kernel) (by decide +kernel)
theorem w_567 : (Cond.selects "OtherwiseCourt$Hall" ⟨"OtherwiseCourt$Hall", "worthOf", "(I)I"⟩ ⟨"OtherwiseCourt$Hall", "worthOf", "(I)I"⟩) ∈ gTbl := gTbl_mem 567 (by decide +kernel) (by decide +kernel)
theorem w_568 : (Cond.code ⟨"OtherwiseCourt$Hall", "worthOf", "(I)I"⟩ prog_4_method_6_code 2 (some .int)) ∈ gTbl := gTbl_mem 568 (by decide +kernel) (by decide +kernel)
theorem vl_X4_58 : jVL RX4 58 mX2_worthOf 1 := ⟨List.forall_mem_cons.mpr ⟨w_723, List.forall_mem_cons.mpr ⟨w_566, List.forall_mem_cons.mpr ⟨w_567, List.forall_mem_cons.mpr ⟨w_64, List.forall_mem_cons.mpr ⟨w_568, fun _ h => absurd h List.not_mem_nil⟩⟩⟩⟩⟩, by decide, by decide, by decide, by decide +kernel⟩
theorem w_716 : (Cond.methodLink "OtherwiseCourt$Search" 61 ⟨"OtherwiseCourt$Search", "prepareSuits", "(LOtherwiseCourt$Hall;)V"⟩) ∈ gTbl := gTbl_mem 716 (by decide +kernel) (by decide +kernel)
theorem w_718 : (Cond.instanceMethod ⟨"OtherwiseCourt$Search", "prepareSuits", "(LOtherwiseCourt$Hall;)V"⟩) ∈ gTbl := gTbl_mem 718 (by decide +kernel) (by decide +kernel)
theorem w_15 : (Cond.selects "OtherwiseCourt$Search" ⟨"OtherwiseCourt$Search", "prepareSuits", "(LOtherwiseCourt$Hall;)V"⟩ ⟨"OtherwiseCourt$Search", "prepareSuits", "(LOtherwiseCourt$Hall;)V"⟩) ∈ gTbl := gTbl_mem 15 (by decide +kernel) (by decide +kernel)
theorem w_68 : (Cond.initialized "OtherwiseCourt$Search") ∈ gTbl := gTbl_mem 68 (by decide +kernel) (by decide +kernel)
theorem w_719 : (Cond.code ⟨"OtherwiseCourt$Search", "prepareSuits", "(LOtherwiseCourt$Hall;)V"⟩ prog_6_method_2_code 3 none) ∈ gTbl := gTbl_mem 719 (by decide +kernel) (by decide +kernel)
theorem vl_X4_61 : jVL RX4 61 mX4_prepareSuits 1 := ⟨List.forall_mem_cons.mpr ⟨w_716, List.forall_mem_cons.mpr ⟨w_718, List.forall_mem_cons.mpr ⟨w_15, List.forall_mem_cons.mpr ⟨w_68, List.forall_mem_cons.mpr ⟨w_719, fun _ h => absurd h List.not_mem_nil⟩⟩⟩⟩⟩, by decide, by decide, by decide, by decide +kernel⟩
theorem w_724 : (Cond.methodLink "OtherwiseCourt$Search" 65 ⟨"OtherwiseCourt$Search", "bring", "(III)V"⟩) ∈ gTbl := gTbl_mem 724 (by decide +kernel) (by decide +kernel)
theorem w_726 : (Cond.instanceMethod ⟨"OtherwiseCourt$Search", "bring", "(III)V"⟩) ∈ gTbl := gTbl_mem 726 (by decide +kernel) (by decide +kernel)
theorem w_16 : (Cond.selects "OtherwiseCourt$Search" ⟨"OtherwiseCourt$Search", "bring", "(III)V"⟩ ⟨"OtherwiseCourt$Search", "bring", "(III)V"⟩) ∈ gTbl := gTbl_mem 16 (by decide +kernel) (by decide +kernel)
theorem w_727 : (Cond.code ⟨"OtherwiseCourt$Search", "bring", "(III)V"⟩ prog_6_method_4_code 6 none) ∈ gTbl := gTbl_mem 727 (by decide +kernel) (by decide +kernel)
theorem vl_X4_65 : jVL RX4 65 mX4_bring 3 := ⟨List.forall_mem_cons.mpr ⟨w_724, List.forall_mem_cons.mpr ⟨w_726, List.forall_mem_cons.mpr ⟨w_16, List.forall_mem_cons.mpr ⟨w_68, List.forall_mem_cons.mpr ⟨w_727, fun _ h => absurd h List.not_mem_nil⟩⟩⟩⟩⟩, by decide, by decide, by decide, by decide +kernel⟩
theorem fl_X4_27 : jFL RX4 27 4 5 := ⟨_, rfl, by decide, w_340⟩
theorem fl_X4_21 : jFL RX4 21 4 3 := ⟨_, rfl, by decide, w_337⟩
theorem fl_X4_24 : jFL RX4 24 4 4 := ⟨_, rfl, by decide, w_338⟩
theorem w_728 : (Cond.methodLink "OtherwiseCourt$Search" 69 ⟨"java/lang/System", "arraycopy", "(Ljava/lang/Object;ILjava/lang/Object;II)V"⟩) ∈ gTbl := gTbl_mem 728 (by decide +kernel) (by decide +kernel)
theorem w_731 : (Cond.methodLink "OtherwiseCourt$Search" 75 ⟨"OtherwiseCourt$Sitting", "winsNow", "(LOtherwiseCourt$Tally;)Z"⟩) ∈ gTbl := gTbl_mem 731 (by decide +kernel) (by decide +kernel)
theorem w_732 : (Cond.instanceMethod ⟨"OtherwiseCourt$Sitting", "winsNow", "(LOtherwiseCourt$Tally;)Z"⟩) ∈ gTbl := gTbl_mem 732 (by decide +kernel) (by decide +kernel)
theorem w_733 : (Cond.selects "OtherwiseCourt$Sitting" ⟨"OtherwiseCourt$Sitting", "winsNow", "(LOtherwiseCourt$Tally;)Z"⟩ ⟨"OtherwiseCourt$Sitting", "winsNow", "(LOtherwiseCourt$Tally;)Z"⟩) ∈ gTbl := gTbl_mem 733 (by decide +kernel) (by decide +kernel)
theorem w_734 : (Cond.code ⟨"OtherwiseCourt$Sitting", "winsNow", "(LOtherwiseCourt$Tally;)Z"⟩ prog_7_method_17_code 2 (some .boolean)) ∈ gTbl := gTbl_mem 734 (by decide +kernel) (by decide +kernel)
theorem vl_X4_75 : jVL RX4 75 mX5_winsNow 1 := ⟨List.forall_mem_cons.mpr ⟨w_731, List.forall_mem_cons.mpr ⟨w_732, List.forall_mem_cons.mpr ⟨w_733, List.forall_mem_cons.mpr ⟨w_66, List.forall_mem_cons.mpr ⟨w_734, fun _ h => absurd h List.not_mem_nil⟩⟩⟩⟩⟩, by decide, by decide, by decide, by decide +kernel⟩
theorem w_253 : (Cond.fieldLink "OtherwiseCourt$Search" 79 "OtherwiseCourt$Tally" "points" "I") ∈ gTbl := gTbl_mem 253 (by decide +kernel) (by decide +kernel)
theorem fl_X4_79 : jFL RX4 79 6 0 := ⟨_, rfl, by decide, w_253⟩
theorem w_743 : (Cond.methodLink "OtherwiseCourt$Search" 82 ⟨"OtherwiseCourt$Sitting", "push", "(IZ)V"⟩) ∈ gTbl := gTbl_mem 743 (by decide +kernel) (by decide +kernel)
theorem vl_X4_82 : jVL RX4 82 mX5_push 2 := ⟨List.forall_mem_cons.mpr ⟨w_743, List.forall_mem_cons.mpr ⟨w_609, List.forall_mem_cons.mpr ⟨w_610, List.forall_mem_cons.mpr ⟨w_66, List.forall_mem_cons.mpr ⟨w_611, fun _ h => absurd h List.not_mem_nil⟩⟩⟩⟩⟩, by decide, by decide, by decide, by decide +kernel⟩
theorem w_744 : (Cond.methodLink "OtherwiseCourt$Search" 86 ⟨"OtherwiseCourt$Sitting", "pop", "()V"⟩) ∈ gTbl := gTbl_mem 744 (by decide +kernel) (by decide +kernel)
theorem vl_X4_86 : jVL RX4 86 mX5_pop 0 := ⟨List.forall_mem_cons.mpr ⟨w_744, List.forall_mem_cons.mpr ⟨w_745, List.forall_mem_cons.mpr ⟨w_746, List.forall_mem_cons.mpr ⟨w_66, List.forall_mem_cons.mpr ⟨w_747, fun _ h => absurd h List.not_mem_nil⟩⟩⟩⟩⟩, by decide, by decide, by decide, by decide +kernel⟩
theorem w_773 : (Cond.methodLink "OtherwiseCourt$Search" 89 ⟨"OtherwiseCourt$Search", "turns", "(IIZI)I"⟩) ∈ gTbl := gTbl_mem 773 (by decide +kernel) (by decide +kernel)
theorem w_775 : (Cond.instanceMethod ⟨"OtherwiseCourt$Search", "turns", "(IIZI)I"⟩) ∈ gTbl := gTbl_mem 775 (by decide +kernel) (by decide +kernel)
theorem w_18 : (Cond.selects "OtherwiseCourt$Search" ⟨"OtherwiseCourt$Search", "turns", "(IIZI)I"⟩ ⟨"OtherwiseCourt$Search", "turns", "(IIZI)I"⟩) ∈ gTbl := gTbl_mem 18 (by decide +kernel) (by decide +kernel)
theorem w_776 : (Cond.code ⟨"OtherwiseCourt$Search", "turns", "(IIZI)I"⟩ prog_6_method_6_code 15 (some .int)) ∈ gTbl := gTbl_mem 776 (by decide +kernel) (by decide +kernel)
theorem vl_X4_89 : jVL RX4 89 mX4_turns 4 := ⟨List.forall_mem_cons.mpr ⟨w_773, List.forall_mem_cons.mpr ⟨w_775, List.forall_mem_cons.mpr ⟨w_18, List.forall_mem_cons.mpr ⟨w_68, List.forall_mem_cons.mpr ⟨w_776, fun _ h => absurd h List.not_mem_nil⟩⟩⟩⟩⟩, by decide, by decide, by decide, by decide +kernel⟩
theorem w_756 : (Cond.methodLink "OtherwiseCourt$Search" 93 ⟨"OtherwiseCourt$Sitting", "wins", "(I)Z"⟩) ∈ gTbl := gTbl_mem 756 (by decide +kernel) (by decide +kernel)
theorem w_684 : (Cond.instanceMethod ⟨"OtherwiseCourt$Sitting", "wins", "(I)Z"⟩) ∈ gTbl := gTbl_mem 684 (by decide +kernel) (by decide +kernel)
theorem w_685 : (Cond.selects "OtherwiseCourt$Sitting" ⟨"OtherwiseCourt$Sitting", "wins", "(I)Z"⟩ ⟨"OtherwiseCourt$Sitting", "wins", "(I)Z"⟩) ∈ gTbl := gTbl_mem 685 (by decide +kernel) (by decide +kernel)
theorem w_686 : (Cond.code ⟨"OtherwiseCourt$Sitting", "wins", "(I)Z"⟩ prog_7_method_15_code 2 (some .boolean)) ∈ gTbl := gTbl_mem 686 (by decide +kernel) (by decide +kernel)
theorem vl_X4_93 : jVL RX4 93 mX5_wins 1 := ⟨List.forall_mem_cons.mpr ⟨w_756, List.forall_mem_cons.mpr ⟨w_684, List.forall_mem_cons.mpr ⟨w_685, List.forall_mem_cons.mpr ⟨w_66, List.forall_mem_cons.mpr ⟨w_686, fun _ h => absurd h List.not_mem_nil⟩⟩⟩⟩⟩, by decide, by decide, by decide, by decide +kernel⟩
theorem w_757 : (Cond.methodLink "OtherwiseCourt$Search" 97 ⟨"OtherwiseCourt$Search", "winsBehind", "(I)Z"⟩) ∈ gTbl := gTbl_mem 757 (by decide +kernel) (by decide +kernel)
theorem w_759 : (Cond.instanceMethod ⟨"OtherwiseCourt$Search", "winsBehind", "(I)Z"⟩) ∈ gTbl := gTbl_mem 759 (by decide +kernel) (by decide +kernel)
theorem w_17 : (Cond.selects "OtherwiseCourt$Search" ⟨"OtherwiseCourt$Search", "winsBehind", "(I)Z"⟩ ⟨"OtherwiseCourt$Search", "winsBehind", "(I)Z"⟩) ∈ gTbl := gTbl_mem 17 (by decide +kernel) (by decide +kernel)
theorem w_760 : (Cond.code ⟨"OtherwiseCourt$Search", "winsBehind", "(I)Z"⟩ prog_6_method_8_code 3 (some .boolean)) ∈ gTbl := gTbl_mem 760 (by decide +kernel) (by decide +kernel)
theorem vl_X4_97 : jVL RX4 97 mX4_winsBehind 1 := ⟨List.forall_mem_cons.mpr ⟨w_757, List.forall_mem_cons.mpr ⟨w_759, List.forall_mem_cons.mpr ⟨w_17, List.forall_mem_cons.mpr ⟨w_68, List.forall_mem_cons.mpr ⟨w_760, fun _ h => absurd h List.not_mem_nil⟩⟩⟩⟩⟩, by decide, by decide, by decide, by decide +kernel⟩
theorem w_299 : (Cond.fieldLink "OtherwiseCourt$Search" 100 "OtherwiseCourt$Sitting" "own" "LOtherwiseCourt$Tally;") ∈ gTbl := gTbl_mem 299 (by decide +kernel) (by decide +kernel)
theorem fl_X4_100 : jFL RX4 100 5 9 := ⟨_, rfl, by decide, w_299⟩
theorem w_244 : (Cond.methodLink "OtherwiseCourt$Sitting" 3 ⟨"java/lang/Object", "<init>", "()V"⟩) ∈ gTbl := gTbl_mem 244 (by decide +kernel) (by decide +kernel)
theorem w_286 : (Cond.fieldLink "OtherwiseCourt$Sitting" 9 "OtherwiseCourt$Sitting" "kind" "I") ∈ gTbl := gTbl_mem 286 (by decide +kernel) (by decide +kernel)
theorem pl_X5_9 : jPL RX5 9 5 0 false := ⟨_, rfl, by decide, w_286, by decide, by decide⟩
theorem w_287 : (Cond.fieldLink "OtherwiseCourt$Sitting" 15 "OtherwiseCourt$Sitting" "number" "I") ∈ gTbl := gTbl_mem 287 (by decide +kernel) (by decide +kernel)
theorem pl_X5_15 : jPL RX5 15 5 1 false := ⟨_, rfl, by decide, w_287, by decide, by decide⟩
theorem w_288 : (Cond.fieldLink "OtherwiseCourt$Sitting" 18 "OtherwiseCourt$Sitting" "bar" "I") ∈ gTbl := gTbl_mem 288 (by decide +kernel) (by decide +kernel)
theorem pl_X5_18 : jPL RX5 18 5 2 false := ⟨_, rfl, by decide, w_288, by decide, by decide⟩
theorem w_289 : (Cond.fieldLink "OtherwiseCourt$Sitting" 21 "OtherwiseCourt$Sitting" "row" "[I") ∈ gTbl := gTbl_mem 289 (by decide +kernel) (by decide +kernel)
theorem rl_X5_21 : jRL RX5 21 5 3 := ⟨_, rfl, by decide, w_289, by decide, by decide, Or.inr ⟨.int, by decide +kernel⟩⟩
theorem w_290 : (Cond.fieldLink "OtherwiseCourt$Sitting" 25 "OtherwiseCourt$Sitting" "weightOf" "[I") ∈ gTbl := gTbl_mem 290 (by decide +kernel) (by decide +kernel)
theorem rl_X5_25 : jRL RX5 25 5 4 := ⟨_, rfl, by decide, w_290, by decide, by decide, Or.inr ⟨.int, by decide +kernel⟩⟩
theorem w_291 : (Cond.fieldLink "OtherwiseCourt$Sitting" 28 "OtherwiseCourt$Sitting" "clashOf" "[I") ∈ gTbl := gTbl_mem 291 (by decide +kernel) (by decide +kernel)
theorem rl_X5_28 : jRL RX5 28 5 5 := ⟨_, rfl, by decide, w_291, by decide, by decide, Or.inr ⟨.int, by decide +kernel⟩⟩
theorem w_292 : (Cond.fieldLink "OtherwiseCourt$Sitting" 31 "OtherwiseCourt$Sitting" "heard" "I") ∈ gTbl := gTbl_mem 292 (by decide +kernel) (by decide +kernel)
theorem pl_X5_31 : jPL RX5 31 5 6 false := ⟨_, rfl, by decide, w_292, by decide, by decide⟩
theorem w_296 : (Cond.fieldLink "OtherwiseCourt$Sitting" 34 "OtherwiseCourt$Sitting" "points" "[I") ∈ gTbl := gTbl_mem 296 (by decide +kernel) (by decide +kernel)
theorem rl_X5_34 : jRL RX5 34 5 7 := ⟨_, rfl, by decide, w_296, by decide, by decide, Or.inr ⟨.int, by decide +kernel⟩⟩
theorem w_297 : (Cond.fieldLink "OtherwiseCourt$Sitting" 37 "OtherwiseCourt$Sitting" "fors" "[Z") ∈ gTbl := gTbl_mem 297 (by decide +kernel) (by decide +kernel)
theorem rl_X5_37 : jRL RX5 37 5 8 := ⟨_, rfl, by decide, w_297, by decide, by decide, Or.inr ⟨.boolean, by decide +kernel⟩⟩
theorem w_245 : (Cond.classLink "OtherwiseCourt$Sitting" 41 "OtherwiseCourt$Tally") ∈ gTbl := gTbl_mem 245 (by decide +kernel) (by decide +kernel)
theorem il_X5_43 : jIL RX5 43 mX6_init 0 := ⟨List.forall_mem_cons.mpr ⟨w_248, List.forall_mem_cons.mpr ⟨w_67, List.forall_mem_cons.mpr ⟨w_249, fun _ h => absurd h List.not_mem_nil⟩⟩⟩, by decide, by decide, by decide, by decide +kernel, rfl, rfl, Or.inr ⟨"OtherwiseCourt", by decide +kernel⟩⟩
theorem w_298 : (Cond.fieldLink "OtherwiseCourt$Sitting" 44 "OtherwiseCourt$Sitting" "own" "LOtherwiseCourt$Tally;") ∈ gTbl := gTbl_mem 298 (by decide +kernel) (by decide +kernel)
theorem rl_X5_44 : jRL RX5 44 5 9 := ⟨_, rfl, by decide, w_298, by decide, by decide, Or.inl ⟨"OtherwiseCourt$Tally", by decide +kernel⟩⟩
theorem w_301 : (Cond.fieldLink "OtherwiseCourt$Sitting" 48 "OtherwiseCourt$Sitting" "passing" "LOtherwiseCourt$Tally;") ∈ gTbl := gTbl_mem 301 (by decide +kernel) (by decide +kernel)
theorem rl_X5_48 : jRL RX5 48 5 10 := ⟨_, rfl, by decide, w_301, by decide, by decide, Or.inl ⟨"OtherwiseCourt$Tally", by decide +kernel⟩⟩
theorem w_598 : (Cond.methodLink "OtherwiseCourt$Sitting" 51 ⟨"OtherwiseCourt$Hall", "kindOf", "(I)I"⟩) ∈ gTbl := gTbl_mem 598 (by decide +kernel) (by decide +kernel)
theorem w_582 : (Cond.instanceMethod ⟨"OtherwiseCourt$Hall", "kindOf", "(I)I"⟩) ∈ gTbl := gTbl_mem 582 (by decide +kernel) (by decide +kernel)
theorem w_583 : (Cond.selects "OtherwiseCourt$Hall" ⟨"OtherwiseCourt$Hall", "kindOf", "(I)I"⟩ ⟨"OtherwiseCourt$Hall", "kindOf", "(I)I"⟩) ∈ gTbl := gTbl_mem 583 (by decide +kernel) (by decide +kernel)
theorem w_584 : (Cond.code ⟨"OtherwiseCourt$Hall", "kindOf", "(I)I"⟩ prog_4_method_7_code 2 (some .int)) ∈ gTbl := gTbl_mem 584 (by decide +kernel) (by decide +kernel)
theorem vl_X5_51 : jVL RX5 51 mX2_kindOf 1 := ⟨List.forall_mem_cons.mpr ⟨w_598, List.forall_mem_cons.mpr ⟨w_582, List.forall_mem_cons.mpr ⟨w_583, List.forall_mem_cons.mpr ⟨w_64, List.forall_mem_cons.mpr ⟨w_584, fun _ h => absurd h List.not_mem_nil⟩⟩⟩⟩⟩, by decide, by decide, by decide, by decide +kernel⟩
theorem w_599 : (Cond.methodLink "OtherwiseCourt$Sitting" 57 ⟨"OtherwiseCourt$Hall", "numberOf", "(I)I"⟩) ∈ gTbl := gTbl_mem 599 (by decide +kernel) (by decide +kernel)
theorem w_587 : (Cond.instanceMethod ⟨"OtherwiseCourt$Hall", "numberOf", "(I)I"⟩) ∈ gTbl := gTbl_mem 587 (by decide +kernel) (by decide +kernel)
theorem w_588 : (Cond.selects "OtherwiseCourt$Hall" ⟨"OtherwiseCourt$Hall", "numberOf", "(I)I"⟩ ⟨"OtherwiseCourt$Hall", "numberOf", "(I)I"⟩) ∈ gTbl := gTbl_mem 588 (by decide +kernel) (by decide +kernel)
theorem w_589 : (Cond.code ⟨"OtherwiseCourt$Hall", "numberOf", "(I)I"⟩ prog_4_method_8_code 2 (some .int)) ∈ gTbl := gTbl_mem 589 (by decide +kernel) (by decide +kernel)
theorem vl_X5_57 : jVL RX5 57 mX2_numberOf 1 := ⟨List.forall_mem_cons.mpr ⟨w_599, List.forall_mem_cons.mpr ⟨w_587, List.forall_mem_cons.mpr ⟨w_588, List.forall_mem_cons.mpr ⟨w_64, List.forall_mem_cons.mpr ⟨w_589, fun _ h => absurd h List.not_mem_nil⟩⟩⟩⟩⟩, by decide, by decide, by decide, by decide +kernel⟩
theorem fl_X5_21 : jFL RX5 21 5 3 := ⟨_, rfl, by decide, w_289⟩
theorem w_108 : (Cond.fieldLink "OtherwiseCourt$Sitting" 60 "OtherwiseCourt$Hall" "rows" "[I") ∈ gTbl := gTbl_mem 108 (by decide +kernel) (by decide +kernel)
theorem fl_X5_60 : jFL RX5 60 2 7 := ⟨_, rfl, by decide, w_108⟩
theorem w_176 : (Cond.fieldLink "OtherwiseCourt$Sitting" 63 "OtherwiseCourt$Law" "weights" "[I") ∈ gTbl := gTbl_mem 176 (by decide +kernel) (by decide +kernel)
theorem fl_X5_63 : jFL RX5 63 3 0 := ⟨_, rfl, by decide, w_176⟩
theorem fl_X5_25 : jFL RX5 25 5 4 := ⟨_, rfl, by decide, w_290⟩
theorem w_600 : (Cond.methodLink "OtherwiseCourt$Sitting" 68 ⟨"OtherwiseCourt$Sitting", "addUp", "([I[I)V"⟩) ∈ gTbl := gTbl_mem 600 (by decide +kernel) (by decide +kernel)
theorem w_601 : (Cond.static ⟨"OtherwiseCourt$Sitting", "addUp", "([I[I)V"⟩) ∈ gTbl := gTbl_mem 601 (by decide +kernel) (by decide +kernel)
theorem w_602 : (Cond.code ⟨"OtherwiseCourt$Sitting", "addUp", "([I[I)V"⟩ prog_7_method_3_code 5 none) ∈ gTbl := gTbl_mem 602 (by decide +kernel) (by decide +kernel)
theorem sl_X5_68 : jSL RX5 68 mX5_addUp 2 := ⟨List.forall_mem_cons.mpr ⟨w_600, List.forall_mem_cons.mpr ⟨w_601, List.forall_mem_cons.mpr ⟨w_66, List.forall_mem_cons.mpr ⟨w_602, fun _ h => absurd h List.not_mem_nil⟩⟩⟩⟩, by decide, by decide, by decide, by decide +kernel⟩
theorem w_179 : (Cond.fieldLink "OtherwiseCourt$Sitting" 72 "OtherwiseCourt$Law" "clashes" "[I") ∈ gTbl := gTbl_mem 179 (by decide +kernel) (by decide +kernel)
theorem fl_X5_72 : jFL RX5 72 3 1 := ⟨_, rfl, by decide, w_179⟩
theorem fl_X5_28 : jFL RX5 28 5 5 := ⟨_, rfl, by decide, w_291⟩
theorem w_182 : (Cond.fieldLink "OtherwiseCourt$Sitting" 75 "OtherwiseCourt$Law" "bar" "I") ∈ gTbl := gTbl_mem 182 (by decide +kernel) (by decide +kernel)
theorem fl_X5_75 : jFL RX5 75 3 2 := ⟨_, rfl, by decide, w_182⟩
theorem w_603 : (Cond.methodLink "OtherwiseCourt$Sitting" 76 ⟨"OtherwiseCourt$Sitting", "setBar", "(I)V"⟩) ∈ gTbl := gTbl_mem 603 (by decide +kernel) (by decide +kernel)
theorem w_604 : (Cond.instanceMethod ⟨"OtherwiseCourt$Sitting", "setBar", "(I)V"⟩) ∈ gTbl := gTbl_mem 604 (by decide +kernel) (by decide +kernel)
theorem w_605 : (Cond.selects "OtherwiseCourt$Sitting" ⟨"OtherwiseCourt$Sitting", "setBar", "(I)V"⟩ ⟨"OtherwiseCourt$Sitting", "setBar", "(I)V"⟩) ∈ gTbl := gTbl_mem 605 (by decide +kernel) (by decide +kernel)
theorem w_606 : (Cond.code ⟨"OtherwiseCourt$Sitting", "setBar", "(I)V"⟩ prog_7_method_4_code 2 none) ∈ gTbl := gTbl_mem 606 (by decide +kernel) (by decide +kernel)
theorem vl_X5_76 : jVL RX5 76 mX5_setBar 1 := ⟨List.forall_mem_cons.mpr ⟨w_603, List.forall_mem_cons.mpr ⟨w_604, List.forall_mem_cons.mpr ⟨w_605, List.forall_mem_cons.mpr ⟨w_66, List.forall_mem_cons.mpr ⟨w_606, fun _ h => absurd h List.not_mem_nil⟩⟩⟩⟩⟩, by decide, by decide, by decide, by decide +kernel⟩
theorem w_111 : (Cond.fieldLink "OtherwiseCourt$Sitting" 80 "OtherwiseCourt$Hall" "entries" "I") ∈ gTbl := gTbl_mem 111 (by decide +kernel) (by decide +kernel)
theorem fl_X5_80 : jFL RX5 80 2 8 := ⟨_, rfl, by decide, w_111⟩
theorem w_114 : (Cond.fieldLink "OtherwiseCourt$Sitting" 83 "OtherwiseCourt$Hall" "book" "[I") ∈ gTbl := gTbl_mem 114 (by decide +kernel) (by decide +kernel)
theorem fl_X5_83 : jFL RX5 83 2 9 := ⟨_, rfl, by decide, w_114⟩
theorem w_607 : (Cond.methodLink "OtherwiseCourt$Sitting" 86 ⟨"OtherwiseCourt$Hall", "pointsOf", "(I)I"⟩) ∈ gTbl := gTbl_mem 607 (by decide +kernel) (by decide +kernel)
theorem vl_X5_86 : jVL RX5 86 mX2_pointsOf 1 := ⟨List.forall_mem_cons.mpr ⟨w_607, List.forall_mem_cons.mpr ⟨w_561, List.forall_mem_cons.mpr ⟨w_562, List.forall_mem_cons.mpr ⟨w_64, List.forall_mem_cons.mpr ⟨w_563, fun _ h => absurd h List.not_mem_nil⟩⟩⟩⟩⟩, by decide, by decide, by decide, by decide +kernel⟩
theorem w_608 : (Cond.methodLink "OtherwiseCourt$Sitting" 89 ⟨"OtherwiseCourt$Sitting", "push", "(IZ)V"⟩) ∈ gTbl := gTbl_mem 608 (by decide +kernel) (by decide +kernel)
theorem vl_X5_89 : jVL RX5 89 mX5_push 2 := ⟨List.forall_mem_cons.mpr ⟨w_608, List.forall_mem_cons.mpr ⟨w_609, List.forall_mem_cons.mpr ⟨w_610, List.forall_mem_cons.mpr ⟨w_66, List.forall_mem_cons.mpr ⟨w_611, fun _ h => absurd h List.not_mem_nil⟩⟩⟩⟩⟩, by decide, by decide, by decide, by decide +kernel⟩
theorem fl_X5_9 : jFL RX5 9 5 0 := ⟨_, rfl, by decide, w_286⟩
theorem fl_X5_15 : jFL RX5 15 5 1 := ⟨_, rfl, by decide, w_287⟩
theorem fl_X5_31 : jFL RX5 31 5 6 := ⟨_, rfl, by decide, w_292⟩
theorem fl_X5_34 : jFL RX5 34 5 7 := ⟨_, rfl, by decide, w_296⟩
theorem fl_X5_37 : jFL RX5 37 5 8 := ⟨_, rfl, by decide, w_297⟩
theorem w_256 : (Cond.fieldLink "OtherwiseCourt$Sitting" 102 "OtherwiseCourt$Tally" "seen" "I") ∈ gTbl := gTbl_mem 256 (by decide +kernel) (by decide +kernel)
theorem fl_X5_102 : jFL RX5 102 6 1 := ⟨_, rfl, by decide, w_256⟩
theorem w_254 : (Cond.fieldLink "OtherwiseCourt$Sitting" 105 "OtherwiseCourt$Tally" "points" "I") ∈ gTbl := gTbl_mem 254 (by decide +kernel) (by decide +kernel)
theorem fl_X5_105 : jFL RX5 105 6 0 := ⟨_, rfl, by decide, w_254⟩
theorem w_643 : (Cond.methodLink "OtherwiseCourt$Sitting" 107 ⟨"OtherwiseCourt$Sitting", "alike", "(II)I"⟩) ∈ gTbl := gTbl_mem 643 (by decide +kernel) (by decide +kernel)
theorem w_626 : (Cond.instanceMethod ⟨"OtherwiseCourt$Sitting", "alike", "(II)I"⟩) ∈ gTbl := gTbl_mem 626 (by decide +kernel) (by decide +kernel)
theorem w_627 : (Cond.selects "OtherwiseCourt$Sitting" ⟨"OtherwiseCourt$Sitting", "alike", "(II)I"⟩ ⟨"OtherwiseCourt$Sitting", "alike", "(II)I"⟩) ∈ gTbl := gTbl_mem 627 (by decide +kernel) (by decide +kernel)
theorem w_628 : (Cond.code ⟨"OtherwiseCourt$Sitting", "alike", "(II)I"⟩ prog_7_method_5_code 3 (some .int)) ∈ gTbl := gTbl_mem 628 (by decide +kernel) (by decide +kernel)
theorem vl_X5_107 : jVL RX5 107 mX5_alike 2 := ⟨List.forall_mem_cons.mpr ⟨w_643, List.forall_mem_cons.mpr ⟨w_626, List.forall_mem_cons.mpr ⟨w_627, List.forall_mem_cons.mpr ⟨w_66, List.forall_mem_cons.mpr ⟨w_628, fun _ h => absurd h List.not_mem_nil⟩⟩⟩⟩⟩, by decide, by decide, by decide, by decide +kernel⟩
theorem fl_X5_18 : jFL RX5 18 5 2 := ⟨_, rfl, by decide, w_288⟩
theorem w_644 : (Cond.methodLink "OtherwiseCourt$Sitting" 110 ⟨"OtherwiseCourt$Tally", "meet", "(IIZ)V"⟩) ∈ gTbl := gTbl_mem 644 (by decide +kernel) (by decide +kernel)
theorem w_645 : (Cond.instanceMethod ⟨"OtherwiseCourt$Tally", "meet", "(IIZ)V"⟩) ∈ gTbl := gTbl_mem 645 (by decide +kernel) (by decide +kernel)
theorem w_646 : (Cond.selects "OtherwiseCourt$Tally" ⟨"OtherwiseCourt$Tally", "meet", "(IIZ)V"⟩ ⟨"OtherwiseCourt$Tally", "meet", "(IIZ)V"⟩) ∈ gTbl := gTbl_mem 646 (by decide +kernel) (by decide +kernel)
theorem w_647 : (Cond.code ⟨"OtherwiseCourt$Tally", "meet", "(IIZ)V"⟩ prog_8_method_4_code 4 none) ∈ gTbl := gTbl_mem 647 (by decide +kernel) (by decide +kernel)
theorem vl_X5_110 : jVL RX5 110 mX6_meet 3 := ⟨List.forall_mem_cons.mpr ⟨w_644, List.forall_mem_cons.mpr ⟨w_645, List.forall_mem_cons.mpr ⟨w_646, List.forall_mem_cons.mpr ⟨w_67, List.forall_mem_cons.mpr ⟨w_647, fun _ h => absurd h List.not_mem_nil⟩⟩⟩⟩⟩, by decide, by decide, by decide, by decide +kernel⟩
theorem pl_X5_102 : jPL RX5 102 6 1 false := ⟨_, rfl, by decide, w_256, by decide, by decide⟩
theorem w_656 : (Cond.methodLink "OtherwiseCourt$Sitting" 114 ⟨"java/lang/Integer", "bitCount", "(I)I"⟩) ∈ gTbl := gTbl_mem 656 (by decide +kernel) (by decide +kernel)
theorem w_657 : (Cond.static ⟨"java/lang/Integer", "bitCount", "(I)I"⟩) ∈ gTbl := gTbl_mem 657 (by decide +kernel) (by decide +kernel)
theorem w_77 : (Cond.initialized "java/lang/Integer") ∈ gTbl := gTbl_mem 77 (by decide +kernel) (by decide +kernel)
theorem w_658 : (Cond.code ⟨"java/lang/Integer", "bitCount", "(I)I"⟩ prog_11_method_49_code 1 (some .int)) ∈ gTbl := gTbl_mem 658 (by decide +kernel) (by decide +kernel)
theorem sl_X5_114 : jSL RX5 114 mJ6_bitCount_0f7a4 1 := ⟨List.forall_mem_cons.mpr ⟨w_656, List.forall_mem_cons.mpr ⟨w_657, List.forall_mem_cons.mpr ⟨w_77, List.forall_mem_cons.mpr ⟨w_658, fun _ h => absurd h List.not_mem_nil⟩⟩⟩⟩, by decide, by decide, by decide, by decide +kernel⟩
theorem w_652 : (Cond.methodLink "OtherwiseCourt$Sitting" 119 ⟨"OtherwiseCourt$Sitting", "rowTells", "(I)I"⟩) ∈ gTbl := gTbl_mem 652 (by decide +kernel) (by decide +kernel)
theorem w_654 : (Cond.instanceMethod ⟨"OtherwiseCourt$Sitting", "rowTells", "(I)I"⟩) ∈ gTbl := gTbl_mem 654 (by decide +kernel) (by decide +kernel)
theorem w_13 : (Cond.selects "OtherwiseCourt$Sitting" ⟨"OtherwiseCourt$Sitting", "rowTells", "(I)I"⟩ ⟨"OtherwiseCourt$Sitting", "rowTells", "(I)I"⟩) ∈ gTbl := gTbl_mem 13 (by decide +kernel) (by decide +kernel)
theorem w_655 : (Cond.code ⟨"OtherwiseCourt$Sitting", "rowTells", "(I)I"⟩ prog_7_method_11_code 2 (some .int)) ∈ gTbl := gTbl_mem 655 (by decide +kernel) (by decide +kernel)
theorem vl_X5_119 : jVL RX5 119 mX5_rowTells 1 := ⟨List.forall_mem_cons.mpr ⟨w_652, List.forall_mem_cons.mpr ⟨w_654, List.forall_mem_cons.mpr ⟨w_13, List.forall_mem_cons.mpr ⟨w_66, List.forall_mem_cons.mpr ⟨w_655, fun _ h => absurd h List.not_mem_nil⟩⟩⟩⟩⟩, by decide, by decide, by decide, by decide +kernel⟩
theorem w_662 : (Cond.methodLink "OtherwiseCourt$Sitting" 122 ⟨"OtherwiseCourt$Tally", "likes", "()I"⟩) ∈ gTbl := gTbl_mem 662 (by decide +kernel) (by decide +kernel)
theorem w_663 : (Cond.instanceMethod ⟨"OtherwiseCourt$Tally", "likes", "()I"⟩) ∈ gTbl := gTbl_mem 663 (by decide +kernel) (by decide +kernel)
theorem w_664 : (Cond.selects "OtherwiseCourt$Tally" ⟨"OtherwiseCourt$Tally", "likes", "()I"⟩ ⟨"OtherwiseCourt$Tally", "likes", "()I"⟩) ∈ gTbl := gTbl_mem 664 (by decide +kernel) (by decide +kernel)
theorem w_665 : (Cond.code ⟨"OtherwiseCourt$Tally", "likes", "()I"⟩ prog_8_method_5_code 1 (some .int)) ∈ gTbl := gTbl_mem 665 (by decide +kernel) (by decide +kernel)
theorem vl_X5_122 : jVL RX5 122 mX6_likes 0 := ⟨List.forall_mem_cons.mpr ⟨w_662, List.forall_mem_cons.mpr ⟨w_663, List.forall_mem_cons.mpr ⟨w_664, List.forall_mem_cons.mpr ⟨w_67, List.forall_mem_cons.mpr ⟨w_665, fun _ h => absurd h List.not_mem_nil⟩⟩⟩⟩⟩, by decide, by decide, by decide, by decide +kernel⟩
theorem w_260 : (Cond.fieldLink "OtherwiseCourt$Sitting" 126 "OtherwiseCourt$Tally" "latest" "I") ∈ gTbl := gTbl_mem 260 (by decide +kernel) (by decide +kernel)
theorem fl_X5_126 : jFL RX5 126 6 3 := ⟨_, rfl, by decide, w_260⟩
theorem w_666 : (Cond.methodLink "OtherwiseCourt$Sitting" 129 ⟨"OtherwiseCourt$Sitting", "wasFor", "(I)Z"⟩) ∈ gTbl := gTbl_mem 666 (by decide +kernel) (by decide +kernel)
theorem w_668 : (Cond.instanceMethod ⟨"OtherwiseCourt$Sitting", "wasFor", "(I)Z"⟩) ∈ gTbl := gTbl_mem 668 (by decide +kernel) (by decide +kernel)
theorem w_14 : (Cond.selects "OtherwiseCourt$Sitting" ⟨"OtherwiseCourt$Sitting", "wasFor", "(I)Z"⟩ ⟨"OtherwiseCourt$Sitting", "wasFor", "(I)Z"⟩) ∈ gTbl := gTbl_mem 14 (by decide +kernel) (by decide +kernel)
theorem w_669 : (Cond.code ⟨"OtherwiseCourt$Sitting", "wasFor", "(I)Z"⟩ prog_7_method_9_code 2 (some .boolean)) ∈ gTbl := gTbl_mem 669 (by decide +kernel) (by decide +kernel)
theorem vl_X5_129 : jVL RX5 129 mX5_wasFor 1 := ⟨List.forall_mem_cons.mpr ⟨w_666, List.forall_mem_cons.mpr ⟨w_668, List.forall_mem_cons.mpr ⟨w_14, List.forall_mem_cons.mpr ⟨w_66, List.forall_mem_cons.mpr ⟨w_669, fun _ h => absurd h List.not_mem_nil⟩⟩⟩⟩⟩, by decide, by decide, by decide, by decide +kernel⟩
theorem w_262 : (Cond.fieldLink "OtherwiseCourt$Sitting" 133 "OtherwiseCourt$Tally" "nearest" "I") ∈ gTbl := gTbl_mem 262 (by decide +kernel) (by decide +kernel)
theorem fl_X5_133 : jFL RX5 133 6 4 := ⟨_, rfl, by decide, w_262⟩
theorem w_265 : (Cond.fieldLink "OtherwiseCourt$Sitting" 136 "OtherwiseCourt$Tally" "wins" "I") ∈ gTbl := gTbl_mem 265 (by decide +kernel) (by decide +kernel)
theorem fl_X5_136 : jFL RX5 136 6 6 := ⟨_, rfl, by decide, w_265⟩
theorem w_267 : (Cond.fieldLink "OtherwiseCourt$Sitting" 139 "OtherwiseCourt$Tally" "losses" "I") ∈ gTbl := gTbl_mem 267 (by decide +kernel) (by decide +kernel)
theorem fl_X5_139 : jFL RX5 139 6 7 := ⟨_, rfl, by decide, w_267⟩
theorem w_258 : (Cond.fieldLink "OtherwiseCourt$Sitting" 142 "OtherwiseCourt$Tally" "earliest" "I") ∈ gTbl := gTbl_mem 258 (by decide +kernel) (by decide +kernel)
theorem fl_X5_142 : jFL RX5 142 6 2 := ⟨_, rfl, by decide, w_258⟩
theorem w_670 : (Cond.methodLink "OtherwiseCourt$Sitting" 145 ⟨"OtherwiseCourt$Tally", "torn", "()Z"⟩) ∈ gTbl := gTbl_mem 670 (by decide +kernel) (by decide +kernel)
theorem w_671 : (Cond.instanceMethod ⟨"OtherwiseCourt$Tally", "torn", "()Z"⟩) ∈ gTbl := gTbl_mem 671 (by decide +kernel) (by decide +kernel)
theorem w_672 : (Cond.selects "OtherwiseCourt$Tally" ⟨"OtherwiseCourt$Tally", "torn", "()Z"⟩ ⟨"OtherwiseCourt$Tally", "torn", "()Z"⟩) ∈ gTbl := gTbl_mem 672 (by decide +kernel) (by decide +kernel)
theorem w_673 : (Cond.code ⟨"OtherwiseCourt$Tally", "torn", "()Z"⟩ prog_8_method_6_code 1 (some .boolean)) ∈ gTbl := gTbl_mem 673 (by decide +kernel) (by decide +kernel)
theorem vl_X5_145 : jVL RX5 145 mX6_torn 0 := ⟨List.forall_mem_cons.mpr ⟨w_670, List.forall_mem_cons.mpr ⟨w_671, List.forall_mem_cons.mpr ⟨w_672, List.forall_mem_cons.mpr ⟨w_67, List.forall_mem_cons.mpr ⟨w_673, fun _ h => absurd h List.not_mem_nil⟩⟩⟩⟩⟩, by decide, by decide, by decide, by decide +kernel⟩
theorem fl_X5_44 : jFL RX5 44 5 9 := ⟨_, rfl, by decide, w_298⟩
theorem w_687 : (Cond.methodLink "OtherwiseCourt$Sitting" 149 ⟨"OtherwiseCourt$Tally", "begin", "(I)V"⟩) ∈ gTbl := gTbl_mem 687 (by decide +kernel) (by decide +kernel)
theorem vl_X5_149 : jVL RX5 149 mX6_begin 1 := ⟨List.forall_mem_cons.mpr ⟨w_687, List.forall_mem_cons.mpr ⟨w_634, List.forall_mem_cons.mpr ⟨w_635, List.forall_mem_cons.mpr ⟨w_67, List.forall_mem_cons.mpr ⟨w_636, fun _ h => absurd h List.not_mem_nil⟩⟩⟩⟩⟩, by decide, by decide, by decide, by decide +kernel⟩
theorem w_688 : (Cond.methodLink "OtherwiseCourt$Sitting" 152 ⟨"OtherwiseCourt$Sitting", "follow", "(LOtherwiseCourt$Tally;I)V"⟩) ∈ gTbl := gTbl_mem 688 (by decide +kernel) (by decide +kernel)
theorem vl_X5_152 : jVL RX5 152 mX5_follow 2 := ⟨List.forall_mem_cons.mpr ⟨w_688, List.forall_mem_cons.mpr ⟨w_638, List.forall_mem_cons.mpr ⟨w_639, List.forall_mem_cons.mpr ⟨w_66, List.forall_mem_cons.mpr ⟨w_640, fun _ h => absurd h List.not_mem_nil⟩⟩⟩⟩⟩, by decide, by decide, by decide, by decide +kernel⟩
theorem w_689 : (Cond.methodLink "OtherwiseCourt$Sitting" 156 ⟨"OtherwiseCourt$Sitting", "isFor", "(LOtherwiseCourt$Tally;)Z"⟩) ∈ gTbl := gTbl_mem 689 (by decide +kernel) (by decide +kernel)
theorem vl_X5_156 : jVL RX5 156 mX5_isFor 1 := ⟨List.forall_mem_cons.mpr ⟨w_689, List.forall_mem_cons.mpr ⟨w_649, List.forall_mem_cons.mpr ⟨w_650, List.forall_mem_cons.mpr ⟨w_66, List.forall_mem_cons.mpr ⟨w_651, fun _ h => absurd h List.not_mem_nil⟩⟩⟩⟩⟩, by decide, by decide, by decide, by decide +kernel⟩
theorem fl_X5_48 : jFL RX5 48 5 10 := ⟨_, rfl, by decide, w_301⟩
theorem w_739 : (Cond.methodLink "OtherwiseCourt$Sitting" 160 ⟨"OtherwiseCourt$Tally", "become", "(LOtherwiseCourt$Tally;)V"⟩) ∈ gTbl := gTbl_mem 739 (by decide +kernel) (by decide +kernel)
theorem w_740 : (Cond.instanceMethod ⟨"OtherwiseCourt$Tally", "become", "(LOtherwiseCourt$Tally;)V"⟩) ∈ gTbl := gTbl_mem 740 (by decide +kernel) (by decide +kernel)
theorem w_741 : (Cond.selects "OtherwiseCourt$Tally" ⟨"OtherwiseCourt$Tally", "become", "(LOtherwiseCourt$Tally;)V"⟩ ⟨"OtherwiseCourt$Tally", "become", "(LOtherwiseCourt$Tally;)V"⟩) ∈ gTbl := gTbl_mem 741 (by decide +kernel) (by decide +kernel)
theorem w_742 : (Cond.code ⟨"OtherwiseCourt$Tally", "become", "(LOtherwiseCourt$Tally;)V"⟩ prog_8_method_3_code 2 none) ∈ gTbl := gTbl_mem 742 (by decide +kernel) (by decide +kernel)
theorem vl_X5_160 : jVL RX5 160 mX6_become 1 := ⟨List.forall_mem_cons.mpr ⟨w_739, List.forall_mem_cons.mpr ⟨w_740, List.forall_mem_cons.mpr ⟨w_741, List.forall_mem_cons.mpr ⟨w_67, List.forall_mem_cons.mpr ⟨w_742, fun _ h => absurd h List.not_mem_nil⟩⟩⟩⟩⟩, by decide, by decide, by decide, by decide +kernel⟩
theorem w_735 : (Cond.methodLink "OtherwiseCourt$Sitting" 164 ⟨"OtherwiseCourt$Sitting", "now", "(LOtherwiseCourt$Tally;)LOtherwiseCourt$Tally;"⟩) ∈ gTbl := gTbl_mem 735 (by decide +kernel) (by decide +kernel)
theorem vl_X5_164 : jVL RX5 164 mX5_now 1 := ⟨List.forall_mem_cons.mpr ⟨w_735, List.forall_mem_cons.mpr ⟨w_736, List.forall_mem_cons.mpr ⟨w_737, List.forall_mem_cons.mpr ⟨w_66, List.forall_mem_cons.mpr ⟨w_738, fun _ h => absurd h List.not_mem_nil⟩⟩⟩⟩⟩, by decide, by decide, by decide, by decide +kernel⟩
theorem w_793 : (Cond.methodLink "OtherwiseCourt$Sitting" 168 ⟨"OtherwiseCourt$Sitting", "wins", "(I)Z"⟩) ∈ gTbl := gTbl_mem 793 (by decide +kernel) (by decide +kernel)
theorem vl_X5_168 : jVL RX5 168 mX5_wins 1 := ⟨List.forall_mem_cons.mpr ⟨w_793, List.forall_mem_cons.mpr ⟨w_684, List.forall_mem_cons.mpr ⟨w_685, List.forall_mem_cons.mpr ⟨w_66, List.forall_mem_cons.mpr ⟨w_686, fun _ h => absurd h List.not_mem_nil⟩⟩⟩⟩⟩, by decide, by decide, by decide, by decide +kernel⟩
theorem w_250 : (Cond.methodLink "OtherwiseCourt$Tally" 1 ⟨"java/lang/Object", "<init>", "()V"⟩) ∈ gTbl := gTbl_mem 250 (by decide +kernel) (by decide +kernel)
theorem w_251 : (Cond.fieldLink "OtherwiseCourt$Tally" 7 "OtherwiseCourt$Tally" "points" "I") ∈ gTbl := gTbl_mem 251 (by decide +kernel) (by decide +kernel)
theorem pl_X6_7 : jPL RX6 7 6 0 false := ⟨_, rfl, by decide, w_251, by decide, by decide⟩
theorem w_255 : (Cond.fieldLink "OtherwiseCourt$Tally" 13 "OtherwiseCourt$Tally" "seen" "I") ∈ gTbl := gTbl_mem 255 (by decide +kernel) (by decide +kernel)
theorem pl_X6_13 : jPL RX6 13 6 1 false := ⟨_, rfl, by decide, w_255, by decide, by decide⟩
theorem w_257 : (Cond.fieldLink "OtherwiseCourt$Tally" 16 "OtherwiseCourt$Tally" "earliest" "I") ∈ gTbl := gTbl_mem 257 (by decide +kernel) (by decide +kernel)
theorem pl_X6_16 : jPL RX6 16 6 2 false := ⟨_, rfl, by decide, w_257, by decide, by decide⟩
theorem w_259 : (Cond.fieldLink "OtherwiseCourt$Tally" 19 "OtherwiseCourt$Tally" "latest" "I") ∈ gTbl := gTbl_mem 259 (by decide +kernel) (by decide +kernel)
theorem pl_X6_19 : jPL RX6 19 6 3 false := ⟨_, rfl, by decide, w_259, by decide, by decide⟩
theorem w_261 : (Cond.fieldLink "OtherwiseCourt$Tally" 22 "OtherwiseCourt$Tally" "nearest" "I") ∈ gTbl := gTbl_mem 261 (by decide +kernel) (by decide +kernel)
theorem pl_X6_22 : jPL RX6 22 6 4 false := ⟨_, rfl, by decide, w_261, by decide, by decide⟩
theorem w_263 : (Cond.fieldLink "OtherwiseCourt$Tally" 25 "OtherwiseCourt$Tally" "nearness" "I") ∈ gTbl := gTbl_mem 263 (by decide +kernel) (by decide +kernel)
theorem pl_X6_25 : jPL RX6 25 6 5 false := ⟨_, rfl, by decide, w_263, by decide, by decide⟩
theorem w_264 : (Cond.fieldLink "OtherwiseCourt$Tally" 28 "OtherwiseCourt$Tally" "wins" "I") ∈ gTbl := gTbl_mem 264 (by decide +kernel) (by decide +kernel)
theorem pl_X6_28 : jPL RX6 28 6 6 false := ⟨_, rfl, by decide, w_264, by decide, by decide⟩
theorem w_266 : (Cond.fieldLink "OtherwiseCourt$Tally" 31 "OtherwiseCourt$Tally" "losses" "I") ∈ gTbl := gTbl_mem 266 (by decide +kernel) (by decide +kernel)
theorem pl_X6_31 : jPL RX6 31 6 7 false := ⟨_, rfl, by decide, w_266, by decide, by decide⟩
theorem fl_X6_7 : jFL RX6 7 6 0 := ⟨_, rfl, by decide, w_251⟩
theorem fl_X6_13 : jFL RX6 13 6 1 := ⟨_, rfl, by decide, w_255⟩
theorem fl_X6_16 : jFL RX6 16 6 2 := ⟨_, rfl, by decide, w_257⟩
theorem fl_X6_19 : jFL RX6 19 6 3 := ⟨_, rfl, by decide, w_259⟩
theorem fl_X6_22 : jFL RX6 22 6 4 := ⟨_, rfl, by decide, w_261⟩
theorem fl_X6_25 : jFL RX6 25 6 5 := ⟨_, rfl, by decide, w_263⟩
theorem fl_X6_28 : jFL RX6 28 6 6 := ⟨_, rfl, by decide, w_264⟩
theorem fl_X6_31 : jFL RX6 31 6 7 := ⟨_, rfl, by decide, w_266⟩
theorem w_84 : (Cond.methodLink "OtherwiseCourt" 5 ⟨"java/lang/Object", "<init>", "()V"⟩) ∈ gTbl := gTbl_mem 84 (by decide +kernel) (by decide +kernel)
theorem w_87 : (Cond.classLink "OtherwiseCourt" 11 "OtherwiseCourt$Hall") ∈ gTbl := gTbl_mem 87 (by decide +kernel) (by decide +kernel)
theorem w_90 : (Cond.instanceMethod ⟨"OtherwiseCourt$Hall", "<init>", "()V"⟩) ∈ gTbl := gTbl_mem 90 (by decide +kernel) (by decide +kernel)
theorem w_91 : (Cond.code ⟨"OtherwiseCourt$Hall", "<init>", "()V"⟩ prog_4_method_1_code 1 none) ∈ gTbl := gTbl_mem 91 (by decide +kernel) (by decide +kernel)
theorem il_X7_13 : jIL RX7 13 mX2_init 0 := ⟨List.forall_mem_cons.mpr ⟨w_90, List.forall_mem_cons.mpr ⟨w_64, List.forall_mem_cons.mpr ⟨w_91, fun _ h => absurd h List.not_mem_nil⟩⟩⟩, by decide, by decide, by decide, by decide +kernel, rfl, rfl, Or.inr ⟨"OtherwiseCourt", by decide +kernel⟩⟩
theorem w_402 : (Cond.fieldLink "OtherwiseCourt" 14 "OtherwiseCourt" "hall" "LOtherwiseCourt$Hall;") ∈ gTbl := gTbl_mem 402 (by decide +kernel) (by decide +kernel)
theorem rl_X7_14 : jRL RX7 14 7 0 := ⟨_, rfl, by decide, w_402, by decide, by decide, Or.inl ⟨"OtherwiseCourt$Hall", by decide +kernel⟩⟩
theorem w_403 : (Cond.fieldLink "OtherwiseCourt" 18 "OtherwiseCourt" "kept" "LOtherwiseCourt$Hall;") ∈ gTbl := gTbl_mem 403 (by decide +kernel) (by decide +kernel)
theorem rl_X7_18 : jRL RX7 18 7 1 := ⟨_, rfl, by decide, w_403, by decide, by decide, Or.inl ⟨"OtherwiseCourt$Hall", by decide +kernel⟩⟩
theorem w_404 : (Cond.fieldLink "OtherwiseCourt" 21 "OtherwiseCourt" "imaged" "Z") ∈ gTbl := gTbl_mem 404 (by decide +kernel) (by decide +kernel)
theorem pl_X7_21 : jPL RX7 21 7 2 true := ⟨_, rfl, by decide, w_404, by decide, by decide⟩
theorem w_169 : (Cond.classLink "OtherwiseCourt" 25 "OtherwiseCourt$Law") ∈ gTbl := gTbl_mem 169 (by decide +kernel) (by decide +kernel)
theorem w_172 : (Cond.instanceMethod ⟨"OtherwiseCourt$Law", "<init>", "()V"⟩) ∈ gTbl := gTbl_mem 172 (by decide +kernel) (by decide +kernel)
theorem w_173 : (Cond.code ⟨"OtherwiseCourt$Law", "<init>", "()V"⟩ prog_5_method_1_code 1 none) ∈ gTbl := gTbl_mem 173 (by decide +kernel) (by decide +kernel)
theorem il_X7_27 : jIL RX7 27 mX3_init 0 := ⟨List.forall_mem_cons.mpr ⟨w_172, List.forall_mem_cons.mpr ⟨w_65, List.forall_mem_cons.mpr ⟨w_173, fun _ h => absurd h List.not_mem_nil⟩⟩⟩, by decide, by decide, by decide, by decide +kernel, rfl, rfl, Or.inr ⟨"OtherwiseCourt", by decide +kernel⟩⟩
theorem w_405 : (Cond.fieldLink "OtherwiseCourt" 28 "OtherwiseCourt" "law" "LOtherwiseCourt$Law;") ∈ gTbl := gTbl_mem 405 (by decide +kernel) (by decide +kernel)
theorem rl_X7_28 : jRL RX7 28 7 3 := ⟨_, rfl, by decide, w_405, by decide, by decide, Or.inl ⟨"OtherwiseCourt$Law", by decide +kernel⟩⟩
theorem w_239 : (Cond.classLink "OtherwiseCourt" 32 "OtherwiseCourt$Sitting") ∈ gTbl := gTbl_mem 239 (by decide +kernel) (by decide +kernel)
theorem w_242 : (Cond.instanceMethod ⟨"OtherwiseCourt$Sitting", "<init>", "()V"⟩) ∈ gTbl := gTbl_mem 242 (by decide +kernel) (by decide +kernel)
theorem w_243 : (Cond.code ⟨"OtherwiseCourt$Sitting", "<init>", "()V"⟩ prog_7_method_1_code 1 none) ∈ gTbl := gTbl_mem 243 (by decide +kernel) (by decide +kernel)
theorem il_X7_34 : jIL RX7 34 mX5_init 0 := ⟨List.forall_mem_cons.mpr ⟨w_242, List.forall_mem_cons.mpr ⟨w_66, List.forall_mem_cons.mpr ⟨w_243, fun _ h => absurd h List.not_mem_nil⟩⟩⟩, by decide, by decide, by decide, by decide +kernel, rfl, rfl, Or.inr ⟨"OtherwiseCourt", by decide +kernel⟩⟩
theorem w_406 : (Cond.fieldLink "OtherwiseCourt" 35 "OtherwiseCourt" "sitting" "LOtherwiseCourt$Sitting;") ∈ gTbl := gTbl_mem 406 (by decide +kernel) (by decide +kernel)
theorem rl_X7_35 : jRL RX7 35 7 4 := ⟨_, rfl, by decide, w_406, by decide, by decide, Or.inl ⟨"OtherwiseCourt$Sitting", by decide +kernel⟩⟩
theorem w_325 : (Cond.classLink "OtherwiseCourt" 39 "OtherwiseCourt$Search") ∈ gTbl := gTbl_mem 325 (by decide +kernel) (by decide +kernel)
theorem fl_X7_35 : jFL RX7 35 7 4 := ⟨_, rfl, by decide, w_406⟩
theorem w_328 : (Cond.instanceMethod ⟨"OtherwiseCourt$Search", "<init>", "(LOtherwiseCourt$Sitting;)V"⟩) ∈ gTbl := gTbl_mem 328 (by decide +kernel) (by decide +kernel)
theorem w_329 : (Cond.code ⟨"OtherwiseCourt$Search", "<init>", "(LOtherwiseCourt$Sitting;)V"⟩ prog_6_method_1_code 3 none) ∈ gTbl := gTbl_mem 329 (by decide +kernel) (by decide +kernel)
theorem w_327 : (Cond.methodLink "OtherwiseCourt" 41 ⟨"OtherwiseCourt$Search", "<init>", "(LOtherwiseCourt$Sitting;)V"⟩) ∈ gTbl := gTbl_mem 327 (by decide +kernel) (by decide +kernel)
theorem il_X7_41 : jIL RX7 41 mX4_init 1 := ⟨List.forall_mem_cons.mpr ⟨w_328, List.forall_mem_cons.mpr ⟨w_68, List.forall_mem_cons.mpr ⟨w_329, fun _ h => absurd h List.not_mem_nil⟩⟩⟩, by decide, by decide, by decide, by decide +kernel, rfl, rfl, Or.inl w_327⟩
theorem w_407 : (Cond.fieldLink "OtherwiseCourt" 44 "OtherwiseCourt" "search" "LOtherwiseCourt$Search;") ∈ gTbl := gTbl_mem 407 (by decide +kernel) (by decide +kernel)
theorem rl_X7_44 : jRL RX7 44 7 5 := ⟨_, rfl, by decide, w_407, by decide, by decide, Or.inl ⟨"OtherwiseCourt$Search", by decide +kernel⟩⟩
theorem w_359 : (Cond.classLink "OtherwiseCourt" 48 "OtherwiseCourt$Coins") ∈ gTbl := gTbl_mem 359 (by decide +kernel) (by decide +kernel)
theorem w_362 : (Cond.instanceMethod ⟨"OtherwiseCourt$Coins", "<init>", "(LOtherwiseCourt$Sitting;)V"⟩) ∈ gTbl := gTbl_mem 362 (by decide +kernel) (by decide +kernel)
theorem w_363 : (Cond.code ⟨"OtherwiseCourt$Coins", "<init>", "(LOtherwiseCourt$Sitting;)V"⟩ prog_2_method_1_code 3 none) ∈ gTbl := gTbl_mem 363 (by decide +kernel) (by decide +kernel)
theorem w_361 : (Cond.methodLink "OtherwiseCourt" 50 ⟨"OtherwiseCourt$Coins", "<init>", "(LOtherwiseCourt$Sitting;)V"⟩) ∈ gTbl := gTbl_mem 361 (by decide +kernel) (by decide +kernel)
theorem il_X7_50 : jIL RX7 50 mX0_init 1 := ⟨List.forall_mem_cons.mpr ⟨w_362, List.forall_mem_cons.mpr ⟨w_69, List.forall_mem_cons.mpr ⟨w_363, fun _ h => absurd h List.not_mem_nil⟩⟩⟩, by decide, by decide, by decide, by decide +kernel, rfl, rfl, Or.inl w_361⟩
theorem w_408 : (Cond.fieldLink "OtherwiseCourt" 51 "OtherwiseCourt" "coins" "LOtherwiseCourt$Coins;") ∈ gTbl := gTbl_mem 408 (by decide +kernel) (by decide +kernel)
theorem rl_X7_51 : jRL RX7 51 7 6 := ⟨_, rfl, by decide, w_408, by decide, by decide, Or.inl ⟨"OtherwiseCourt$Coins", by decide +kernel⟩⟩
theorem w_378 : (Cond.classLink "OtherwiseCourt" 55 "OtherwiseCourt$Deeds") ∈ gTbl := gTbl_mem 378 (by decide +kernel) (by decide +kernel)
theorem w_381 : (Cond.instanceMethod ⟨"OtherwiseCourt$Deeds", "<init>", "()V"⟩) ∈ gTbl := gTbl_mem 381 (by decide +kernel) (by decide +kernel)
theorem w_382 : (Cond.code ⟨"OtherwiseCourt$Deeds", "<init>", "()V"⟩ prog_3_method_1_code 1 none) ∈ gTbl := gTbl_mem 382 (by decide +kernel) (by decide +kernel)
theorem il_X7_57 : jIL RX7 57 mX1_init 0 := ⟨List.forall_mem_cons.mpr ⟨w_381, List.forall_mem_cons.mpr ⟨w_70, List.forall_mem_cons.mpr ⟨w_382, fun _ h => absurd h List.not_mem_nil⟩⟩⟩, by decide, by decide, by decide, by decide +kernel, rfl, rfl, Or.inr ⟨"OtherwiseCourt", by decide +kernel⟩⟩
theorem w_409 : (Cond.fieldLink "OtherwiseCourt" 58 "OtherwiseCourt" "deeds" "LOtherwiseCourt$Deeds;") ∈ gTbl := gTbl_mem 409 (by decide +kernel) (by decide +kernel)
theorem rl_X7_58 : jRL RX7 58 7 7 := ⟨_, rfl, by decide, w_409, by decide, by decide, Or.inl ⟨"OtherwiseCourt$Deeds", by decide +kernel⟩⟩
theorem fl_X7_14 : jFL RX7 14 7 0 := ⟨_, rfl, by decide, w_402⟩
theorem w_123 : (Cond.fieldLink "OtherwiseCourt" 62 "OtherwiseCourt$Hall" "signs" "I") ∈ gTbl := gTbl_mem 123 (by decide +kernel) (by decide +kernel)
theorem fl_X7_62 : jFL RX7 62 2 12 := ⟨_, rfl, by decide, w_123⟩
theorem w_125 : (Cond.fieldLink "OtherwiseCourt" 66 "OtherwiseCourt$Hall" "tape" "[B") ∈ gTbl := gTbl_mem 125 (by decide +kernel) (by decide +kernel)
theorem fl_X7_66 : jFL RX7 66 2 13 := ⟨_, rfl, by decide, w_125⟩
theorem pl_X7_62 : jPL RX7 62 2 12 false := ⟨_, rfl, by decide, w_123, by decide, by decide⟩
theorem w_127 : (Cond.fieldLink "OtherwiseCourt" 70 "OtherwiseCourt$Hall" "courts" "I") ∈ gTbl := gTbl_mem 127 (by decide +kernel) (by decide +kernel)
theorem fl_X7_70 : jFL RX7 70 2 14 := ⟨_, rfl, by decide, w_127⟩
theorem fl_X7_28 : jFL RX7 28 7 3 := ⟨_, rfl, by decide, w_405⟩
theorem w_435 : (Cond.methodLink "OtherwiseCourt" 73 ⟨"OtherwiseCourt$Law", "learn", "([BIIII)I"⟩) ∈ gTbl := gTbl_mem 435 (by decide +kernel) (by decide +kernel)
theorem w_436 : (Cond.instanceMethod ⟨"OtherwiseCourt$Law", "learn", "([BIIII)I"⟩) ∈ gTbl := gTbl_mem 436 (by decide +kernel) (by decide +kernel)
theorem w_437 : (Cond.selects "OtherwiseCourt$Law" ⟨"OtherwiseCourt$Law", "learn", "([BIIII)I"⟩ ⟨"OtherwiseCourt$Law", "learn", "([BIIII)I"⟩) ∈ gTbl := gTbl_mem 437 (by decide +kernel) (by decide +kernel)
theorem w_438 : (Cond.code ⟨"OtherwiseCourt$Law", "learn", "([BIIII)I"⟩ prog_5_method_2_code 8 (some .int)) ∈ gTbl := gTbl_mem 438 (by decide +kernel) (by decide +kernel)
theorem vl_X7_73 : jVL RX7 73 mX3_learn 5 := ⟨List.forall_mem_cons.mpr ⟨w_435, List.forall_mem_cons.mpr ⟨w_436, List.forall_mem_cons.mpr ⟨w_437, List.forall_mem_cons.mpr ⟨w_65, List.forall_mem_cons.mpr ⟨w_438, fun _ h => absurd h List.not_mem_nil⟩⟩⟩⟩⟩, by decide, by decide, by decide, by decide +kernel⟩
theorem w_131 : (Cond.fieldLink "OtherwiseCourt" 77 "OtherwiseCourt$Hall" "law" "[B") ∈ gTbl := gTbl_mem 131 (by decide +kernel) (by decide +kernel)
theorem fl_X7_77 : jFL RX7 77 2 16 := ⟨_, rfl, by decide, w_131⟩
theorem w_129 : (Cond.fieldLink "OtherwiseCourt" 79 "OtherwiseCourt$Hall" "lawSize" "I") ∈ gTbl := gTbl_mem 129 (by decide +kernel) (by decide +kernel)
theorem pl_X7_79 : jPL RX7 79 2 15 false := ⟨_, rfl, by decide, w_129, by decide, by decide⟩
theorem pl_X7_70 : jPL RX7 70 2 14 false := ⟨_, rfl, by decide, w_127, by decide, by decide⟩
theorem w_94 : (Cond.fieldLink "OtherwiseCourt" 82 "OtherwiseCourt$Hall" "day" "I") ∈ gTbl := gTbl_mem 94 (by decide +kernel) (by decide +kernel)
theorem fl_X7_82 : jFL RX7 82 2 0 := ⟨_, rfl, by decide, w_94⟩
theorem pl_X7_82 : jPL RX7 82 2 0 false := ⟨_, rfl, by decide, w_94, by decide, by decide⟩
theorem w_96 : (Cond.fieldLink "OtherwiseCourt" 85 "OtherwiseCourt$Hall" "suits" "I") ∈ gTbl := gTbl_mem 96 (by decide +kernel) (by decide +kernel)
theorem fl_X7_85 : jFL RX7 85 2 1 := ⟨_, rfl, by decide, w_96⟩
theorem w_98 : (Cond.fieldLink "OtherwiseCourt" 88 "OtherwiseCourt$Hall" "points" "[I") ∈ gTbl := gTbl_mem 98 (by decide +kernel) (by decide +kernel)
theorem fl_X7_88 : jFL RX7 88 2 2 := ⟨_, rfl, by decide, w_98⟩
theorem w_100 : (Cond.fieldLink "OtherwiseCourt" 92 "OtherwiseCourt$Hall" "worths" "[I") ∈ gTbl := gTbl_mem 100 (by decide +kernel) (by decide +kernel)
theorem fl_X7_92 : jFL RX7 92 2 3 := ⟨_, rfl, by decide, w_100⟩
theorem pl_X7_85 : jPL RX7 85 2 1 false := ⟨_, rfl, by decide, w_96, by decide, by decide⟩
theorem w_556 : (Cond.methodLink "OtherwiseCourt" 95 ⟨"OtherwiseCourt$Hall", "hasSuit", "(I)Z"⟩) ∈ gTbl := gTbl_mem 556 (by decide +kernel) (by decide +kernel)
theorem vl_X7_95 : jVL RX7 95 mX2_hasSuit 1 := ⟨List.forall_mem_cons.mpr ⟨w_556, List.forall_mem_cons.mpr ⟨w_557, List.forall_mem_cons.mpr ⟨w_558, List.forall_mem_cons.mpr ⟨w_64, List.forall_mem_cons.mpr ⟨w_559, fun _ h => absurd h List.not_mem_nil⟩⟩⟩⟩⟩, by decide, by decide, by decide, by decide +kernel⟩
theorem w_560 : (Cond.methodLink "OtherwiseCourt" 99 ⟨"OtherwiseCourt$Hall", "pointsOf", "(I)I"⟩) ∈ gTbl := gTbl_mem 560 (by decide +kernel) (by decide +kernel)
theorem vl_X7_99 : jVL RX7 99 mX2_pointsOf 1 := ⟨List.forall_mem_cons.mpr ⟨w_560, List.forall_mem_cons.mpr ⟨w_561, List.forall_mem_cons.mpr ⟨w_562, List.forall_mem_cons.mpr ⟨w_64, List.forall_mem_cons.mpr ⟨w_563, fun _ h => absurd h List.not_mem_nil⟩⟩⟩⟩⟩, by decide, by decide, by decide, by decide +kernel⟩
theorem w_565 : (Cond.methodLink "OtherwiseCourt" 103 ⟨"OtherwiseCourt$Hall", "worthOf", "(I)I"⟩) ∈ gTbl := gTbl_mem 565 (by decide +kernel) (by decide +kernel)
theorem vl_X7_103 : jVL RX7 103 mX2_worthOf 1 := ⟨List.forall_mem_cons.mpr ⟨w_565, List.forall_mem_cons.mpr ⟨w_566, List.forall_mem_cons.mpr ⟨w_567, List.forall_mem_cons.mpr ⟨w_64, List.forall_mem_cons.mpr ⟨w_568, fun _ h => absurd h List.not_mem_nil⟩⟩⟩⟩⟩, by decide, by decide, by decide, by decide +kernel⟩
theorem w_102 : (Cond.fieldLink "OtherwiseCourt" 106 "OtherwiseCourt$Hall" "judges" "I") ∈ gTbl := gTbl_mem 102 (by decide +kernel) (by decide +kernel)
theorem fl_X7_106 : jFL RX7 106 2 4 := ⟨_, rfl, by decide, w_102⟩
theorem w_104 : (Cond.fieldLink "OtherwiseCourt" 109 "OtherwiseCourt$Hall" "kinds" "[I") ∈ gTbl := gTbl_mem 104 (by decide +kernel) (by decide +kernel)
theorem fl_X7_109 : jFL RX7 109 2 5 := ⟨_, rfl, by decide, w_104⟩
theorem w_106 : (Cond.fieldLink "OtherwiseCourt" 112 "OtherwiseCourt$Hall" "numbers" "[I") ∈ gTbl := gTbl_mem 106 (by decide +kernel) (by decide +kernel)
theorem fl_X7_112 : jFL RX7 112 2 6 := ⟨_, rfl, by decide, w_106⟩
theorem pl_X7_106 : jPL RX7 106 2 4 false := ⟨_, rfl, by decide, w_102, by decide, by decide⟩
theorem w_577 : (Cond.methodLink "OtherwiseCourt" 115 ⟨"OtherwiseCourt$Hall", "hasJudge", "(I)Z"⟩) ∈ gTbl := gTbl_mem 577 (by decide +kernel) (by decide +kernel)
theorem vl_X7_115 : jVL RX7 115 mX2_hasJudge 1 := ⟨List.forall_mem_cons.mpr ⟨w_577, List.forall_mem_cons.mpr ⟨w_578, List.forall_mem_cons.mpr ⟨w_579, List.forall_mem_cons.mpr ⟨w_64, List.forall_mem_cons.mpr ⟨w_580, fun _ h => absurd h List.not_mem_nil⟩⟩⟩⟩⟩, by decide, by decide, by decide, by decide +kernel⟩
theorem w_581 : (Cond.methodLink "OtherwiseCourt" 118 ⟨"OtherwiseCourt$Hall", "kindOf", "(I)I"⟩) ∈ gTbl := gTbl_mem 581 (by decide +kernel) (by decide +kernel)
theorem vl_X7_118 : jVL RX7 118 mX2_kindOf 1 := ⟨List.forall_mem_cons.mpr ⟨w_581, List.forall_mem_cons.mpr ⟨w_582, List.forall_mem_cons.mpr ⟨w_583, List.forall_mem_cons.mpr ⟨w_64, List.forall_mem_cons.mpr ⟨w_584, fun _ h => absurd h List.not_mem_nil⟩⟩⟩⟩⟩, by decide, by decide, by decide, by decide +kernel⟩
theorem w_586 : (Cond.methodLink "OtherwiseCourt" 121 ⟨"OtherwiseCourt$Hall", "numberOf", "(I)I"⟩) ∈ gTbl := gTbl_mem 586 (by decide +kernel) (by decide +kernel)
theorem vl_X7_121 : jVL RX7 121 mX2_numberOf 1 := ⟨List.forall_mem_cons.mpr ⟨w_586, List.forall_mem_cons.mpr ⟨w_587, List.forall_mem_cons.mpr ⟨w_588, List.forall_mem_cons.mpr ⟨w_64, List.forall_mem_cons.mpr ⟨w_589, fun _ h => absurd h List.not_mem_nil⟩⟩⟩⟩⟩, by decide, by decide, by decide, by decide +kernel⟩
theorem w_590 : (Cond.methodLink "OtherwiseCourt" 124 ⟨"OtherwiseCourt", "openFor", "(I)V"⟩) ∈ gTbl := gTbl_mem 590 (by decide +kernel) (by decide +kernel)
theorem w_592 : (Cond.instanceMethod ⟨"OtherwiseCourt", "openFor", "(I)V"⟩) ∈ gTbl := gTbl_mem 592 (by decide +kernel) (by decide +kernel)
theorem w_12 : (Cond.selects "OtherwiseCourt" ⟨"OtherwiseCourt", "openFor", "(I)V"⟩ ⟨"OtherwiseCourt", "openFor", "(I)V"⟩) ∈ gTbl := gTbl_mem 12 (by decide +kernel) (by decide +kernel)
theorem w_63 : (Cond.initialized "OtherwiseCourt") ∈ gTbl := gTbl_mem 63 (by decide +kernel) (by decide +kernel)
theorem w_593 : (Cond.code ⟨"OtherwiseCourt", "openFor", "(I)V"⟩ prog_1_method_34_code 2 none) ∈ gTbl := gTbl_mem 593 (by decide +kernel) (by decide +kernel)
theorem vl_X7_124 : jVL RX7 124 mX7_openFor 1 := ⟨List.forall_mem_cons.mpr ⟨w_590, List.forall_mem_cons.mpr ⟨w_592, List.forall_mem_cons.mpr ⟨w_12, List.forall_mem_cons.mpr ⟨w_63, List.forall_mem_cons.mpr ⟨w_593, fun _ h => absurd h List.not_mem_nil⟩⟩⟩⟩⟩, by decide, by decide, by decide, by decide +kernel⟩
theorem w_177 : (Cond.fieldLink "OtherwiseCourt" 128 "OtherwiseCourt$Law" "weights" "[I") ∈ gTbl := gTbl_mem 177 (by decide +kernel) (by decide +kernel)
theorem fl_X7_128 : jFL RX7 128 3 0 := ⟨_, rfl, by decide, w_177⟩
theorem w_180 : (Cond.fieldLink "OtherwiseCourt" 131 "OtherwiseCourt$Law" "clashes" "[I") ∈ gTbl := gTbl_mem 180 (by decide +kernel) (by decide +kernel)
theorem fl_X7_131 : jFL RX7 131 3 1 := ⟨_, rfl, by decide, w_180⟩
theorem w_109 : (Cond.fieldLink "OtherwiseCourt" 134 "OtherwiseCourt$Hall" "rows" "[I") ∈ gTbl := gTbl_mem 109 (by decide +kernel) (by decide +kernel)
theorem fl_X7_134 : jFL RX7 134 2 7 := ⟨_, rfl, by decide, w_109⟩
theorem fl_X7_79 : jFL RX7 79 2 15 := ⟨_, rfl, by decide, w_129⟩
theorem w_183 : (Cond.fieldLink "OtherwiseCourt" 137 "OtherwiseCourt$Law" "bar" "I") ∈ gTbl := gTbl_mem 183 (by decide +kernel) (by decide +kernel)
theorem fl_X7_137 : jFL RX7 137 3 2 := ⟨_, rfl, by decide, w_183⟩
theorem w_624 : (Cond.constant "OtherwiseCourt" 140 (-100001 : Int32)) ∈ gTbl := gTbl_mem 624 (by decide +kernel) (by decide +kernel)
theorem w_625 : (Cond.methodLink "OtherwiseCourt" 141 ⟨"OtherwiseCourt$Sitting", "alike", "(II)I"⟩) ∈ gTbl := gTbl_mem 625 (by decide +kernel) (by decide +kernel)
theorem vl_X7_141 : jVL RX7 141 mX5_alike 2 := ⟨List.forall_mem_cons.mpr ⟨w_625, List.forall_mem_cons.mpr ⟨w_626, List.forall_mem_cons.mpr ⟨w_627, List.forall_mem_cons.mpr ⟨w_66, List.forall_mem_cons.mpr ⟨w_628, fun _ h => absurd h List.not_mem_nil⟩⟩⟩⟩⟩, by decide, by decide, by decide, by decide +kernel⟩
theorem w_300 : (Cond.fieldLink "OtherwiseCourt" 145 "OtherwiseCourt$Sitting" "own" "LOtherwiseCourt$Tally;") ∈ gTbl := gTbl_mem 300 (by decide +kernel) (by decide +kernel)
theorem fl_X7_145 : jFL RX7 145 5 9 := ⟨_, rfl, by decide, w_300⟩
theorem w_633 : (Cond.methodLink "OtherwiseCourt" 149 ⟨"OtherwiseCourt$Tally", "begin", "(I)V"⟩) ∈ gTbl := gTbl_mem 633 (by decide +kernel) (by decide +kernel)
theorem vl_X7_149 : jVL RX7 149 mX6_begin 1 := ⟨List.forall_mem_cons.mpr ⟨w_633, List.forall_mem_cons.mpr ⟨w_634, List.forall_mem_cons.mpr ⟨w_635, List.forall_mem_cons.mpr ⟨w_67, List.forall_mem_cons.mpr ⟨w_636, fun _ h => absurd h List.not_mem_nil⟩⟩⟩⟩⟩, by decide, by decide, by decide, by decide +kernel⟩
theorem w_295 : (Cond.fieldLink "OtherwiseCourt" 154 "OtherwiseCourt$Sitting" "heard" "I") ∈ gTbl := gTbl_mem 295 (by decide +kernel) (by decide +kernel)
theorem fl_X7_154 : jFL RX7 154 5 6 := ⟨_, rfl, by decide, w_295⟩
theorem w_637 : (Cond.methodLink "OtherwiseCourt" 157 ⟨"OtherwiseCourt$Sitting", "follow", "(LOtherwiseCourt$Tally;I)V"⟩) ∈ gTbl := gTbl_mem 637 (by decide +kernel) (by decide +kernel)
theorem vl_X7_157 : jVL RX7 157 mX5_follow 2 := ⟨List.forall_mem_cons.mpr ⟨w_637, List.forall_mem_cons.mpr ⟨w_638, List.forall_mem_cons.mpr ⟨w_639, List.forall_mem_cons.mpr ⟨w_66, List.forall_mem_cons.mpr ⟨w_640, fun _ h => absurd h List.not_mem_nil⟩⟩⟩⟩⟩, by decide, by decide, by decide, by decide +kernel⟩
theorem w_648 : (Cond.methodLink "OtherwiseCourt" 161 ⟨"OtherwiseCourt$Sitting", "isFor", "(LOtherwiseCourt$Tally;)Z"⟩) ∈ gTbl := gTbl_mem 648 (by decide +kernel) (by decide +kernel)
theorem vl_X7_161 : jVL RX7 161 mX5_isFor 1 := ⟨List.forall_mem_cons.mpr ⟨w_648, List.forall_mem_cons.mpr ⟨w_649, List.forall_mem_cons.mpr ⟨w_650, List.forall_mem_cons.mpr ⟨w_66, List.forall_mem_cons.mpr ⟨w_651, fun _ h => absurd h List.not_mem_nil⟩⟩⟩⟩⟩, by decide, by decide, by decide, by decide +kernel⟩
theorem w_674 : (Cond.methodLink "OtherwiseCourt" 165 ⟨"OtherwiseCourt$Sitting", "decidedBy", "(LOtherwiseCourt$Tally;)I"⟩) ∈ gTbl := gTbl_mem 674 (by decide +kernel) (by decide +kernel)
theorem w_675 : (Cond.instanceMethod ⟨"OtherwiseCourt$Sitting", "decidedBy", "(LOtherwiseCourt$Tally;)I"⟩) ∈ gTbl := gTbl_mem 675 (by decide +kernel) (by decide +kernel)
theorem w_676 : (Cond.selects "OtherwiseCourt$Sitting" ⟨"OtherwiseCourt$Sitting", "decidedBy", "(LOtherwiseCourt$Tally;)I"⟩ ⟨"OtherwiseCourt$Sitting", "decidedBy", "(LOtherwiseCourt$Tally;)I"⟩) ∈ gTbl := gTbl_mem 676 (by decide +kernel) (by decide +kernel)
theorem w_677 : (Cond.code ⟨"OtherwiseCourt$Sitting", "decidedBy", "(LOtherwiseCourt$Tally;)I"⟩ prog_7_method_14_code 2 (some .int)) ∈ gTbl := gTbl_mem 677 (by decide +kernel) (by decide +kernel)
theorem vl_X7_165 : jVL RX7 165 mX5_decidedBy 1 := ⟨List.forall_mem_cons.mpr ⟨w_674, List.forall_mem_cons.mpr ⟨w_675, List.forall_mem_cons.mpr ⟨w_676, List.forall_mem_cons.mpr ⟨w_66, List.forall_mem_cons.mpr ⟨w_677, fun _ h => absurd h List.not_mem_nil⟩⟩⟩⟩⟩, by decide, by decide, by decide, by decide +kernel⟩
theorem w_678 : (Cond.methodLink "OtherwiseCourt" 169 ⟨"OtherwiseCourt$Tally", "likes", "()I"⟩) ∈ gTbl := gTbl_mem 678 (by decide +kernel) (by decide +kernel)
theorem vl_X7_169 : jVL RX7 169 mX6_likes 0 := ⟨List.forall_mem_cons.mpr ⟨w_678, List.forall_mem_cons.mpr ⟨w_663, List.forall_mem_cons.mpr ⟨w_664, List.forall_mem_cons.mpr ⟨w_67, List.forall_mem_cons.mpr ⟨w_665, fun _ h => absurd h List.not_mem_nil⟩⟩⟩⟩⟩, by decide, by decide, by decide, by decide +kernel⟩
theorem w_112 : (Cond.fieldLink "OtherwiseCourt" 173 "OtherwiseCourt$Hall" "entries" "I") ∈ gTbl := gTbl_mem 112 (by decide +kernel) (by decide +kernel)
theorem fl_X7_173 : jFL RX7 173 2 8 := ⟨_, rfl, by decide, w_112⟩
theorem w_683 : (Cond.methodLink "OtherwiseCourt" 176 ⟨"OtherwiseCourt$Sitting", "wins", "(I)Z"⟩) ∈ gTbl := gTbl_mem 683 (by decide +kernel) (by decide +kernel)
theorem vl_X7_176 : jVL RX7 176 mX5_wins 1 := ⟨List.forall_mem_cons.mpr ⟨w_683, List.forall_mem_cons.mpr ⟨w_684, List.forall_mem_cons.mpr ⟨w_685, List.forall_mem_cons.mpr ⟨w_66, List.forall_mem_cons.mpr ⟨w_686, fun _ h => absurd h List.not_mem_nil⟩⟩⟩⟩⟩, by decide, by decide, by decide, by decide +kernel⟩
theorem w_690 : (Cond.methodLink "OtherwiseCourt" 179 ⟨"OtherwiseCourt$Hall", "write", "(IZ)V"⟩) ∈ gTbl := gTbl_mem 690 (by decide +kernel) (by decide +kernel)
theorem w_691 : (Cond.instanceMethod ⟨"OtherwiseCourt$Hall", "write", "(IZ)V"⟩) ∈ gTbl := gTbl_mem 691 (by decide +kernel) (by decide +kernel)
theorem w_692 : (Cond.selects "OtherwiseCourt$Hall" ⟨"OtherwiseCourt$Hall", "write", "(IZ)V"⟩ ⟨"OtherwiseCourt$Hall", "write", "(IZ)V"⟩) ∈ gTbl := gTbl_mem 692 (by decide +kernel) (by decide +kernel)
theorem w_693 : (Cond.code ⟨"OtherwiseCourt$Hall", "write", "(IZ)V"⟩ prog_4_method_9_code 3 none) ∈ gTbl := gTbl_mem 693 (by decide +kernel) (by decide +kernel)
theorem vl_X7_179 : jVL RX7 179 mX2_write 2 := ⟨List.forall_mem_cons.mpr ⟨w_690, List.forall_mem_cons.mpr ⟨w_691, List.forall_mem_cons.mpr ⟨w_692, List.forall_mem_cons.mpr ⟨w_64, List.forall_mem_cons.mpr ⟨w_693, fun _ h => absurd h List.not_mem_nil⟩⟩⟩⟩⟩, by decide, by decide, by decide, by decide +kernel⟩
theorem pl_X7_173 : jPL RX7 173 2 8 false := ⟨_, rfl, by decide, w_112, by decide, by decide⟩
theorem w_115 : (Cond.fieldLink "OtherwiseCourt" 183 "OtherwiseCourt$Hall" "book" "[I") ∈ gTbl := gTbl_mem 115 (by decide +kernel) (by decide +kernel)
theorem fl_X7_183 : jFL RX7 183 2 9 := ⟨_, rfl, by decide, w_115⟩
theorem w_706 : (Cond.methodLink "OtherwiseCourt" 186 ⟨"OtherwiseCourt$Hall", "hasSuits", "(I)Z"⟩) ∈ gTbl := gTbl_mem 706 (by decide +kernel) (by decide +kernel)
theorem w_707 : (Cond.instanceMethod ⟨"OtherwiseCourt$Hall", "hasSuits", "(I)Z"⟩) ∈ gTbl := gTbl_mem 707 (by decide +kernel) (by decide +kernel)
theorem w_708 : (Cond.selects "OtherwiseCourt$Hall" ⟨"OtherwiseCourt$Hall", "hasSuits", "(I)Z"⟩ ⟨"OtherwiseCourt$Hall", "hasSuits", "(I)Z"⟩) ∈ gTbl := gTbl_mem 708 (by decide +kernel) (by decide +kernel)
theorem w_709 : (Cond.code ⟨"OtherwiseCourt$Hall", "hasSuits", "(I)Z"⟩ prog_4_method_3_code 2 (some .boolean)) ∈ gTbl := gTbl_mem 709 (by decide +kernel) (by decide +kernel)
theorem vl_X7_186 : jVL RX7 186 mX2_hasSuits 1 := ⟨List.forall_mem_cons.mpr ⟨w_706, List.forall_mem_cons.mpr ⟨w_707, List.forall_mem_cons.mpr ⟨w_708, List.forall_mem_cons.mpr ⟨w_64, List.forall_mem_cons.mpr ⟨w_709, fun _ h => absurd h List.not_mem_nil⟩⟩⟩⟩⟩, by decide, by decide, by decide, by decide +kernel⟩
theorem w_710 : (Cond.methodLink "OtherwiseCourt" 189 ⟨"java/lang/Integer", "bitCount", "(I)I"⟩) ∈ gTbl := gTbl_mem 710 (by decide +kernel) (by decide +kernel)
theorem sl_X7_189 : jSL RX7 189 mJ6_bitCount_0f7a4 1 := ⟨List.forall_mem_cons.mpr ⟨w_710, List.forall_mem_cons.mpr ⟨w_657, List.forall_mem_cons.mpr ⟨w_77, List.forall_mem_cons.mpr ⟨w_658, fun _ h => absurd h List.not_mem_nil⟩⟩⟩⟩, by decide, by decide, by decide, by decide +kernel⟩
theorem w_711 : (Cond.constant "OtherwiseCourt" 194 (-100002 : Int32)) ∈ gTbl := gTbl_mem 711 (by decide +kernel) (by decide +kernel)
theorem fl_X7_44 : jFL RX7 44 7 5 := ⟨_, rfl, by decide, w_407⟩
theorem w_712 : (Cond.methodLink "OtherwiseCourt" 195 ⟨"OtherwiseCourt$Search", "order", "(LOtherwiseCourt$Hall;I)V"⟩) ∈ gTbl := gTbl_mem 712 (by decide +kernel) (by decide +kernel)
theorem w_713 : (Cond.instanceMethod ⟨"OtherwiseCourt$Search", "order", "(LOtherwiseCourt$Hall;I)V"⟩) ∈ gTbl := gTbl_mem 713 (by decide +kernel) (by decide +kernel)
theorem w_714 : (Cond.selects "OtherwiseCourt$Search" ⟨"OtherwiseCourt$Search", "order", "(LOtherwiseCourt$Hall;I)V"⟩ ⟨"OtherwiseCourt$Search", "order", "(LOtherwiseCourt$Hall;I)V"⟩) ∈ gTbl := gTbl_mem 714 (by decide +kernel) (by decide +kernel)
theorem w_715 : (Cond.code ⟨"OtherwiseCourt$Search", "order", "(LOtherwiseCourt$Hall;I)V"⟩ prog_6_method_3_code 3 none) ∈ gTbl := gTbl_mem 715 (by decide +kernel) (by decide +kernel)
theorem vl_X7_195 : jVL RX7 195 mX4_order 2 := ⟨List.forall_mem_cons.mpr ⟨w_712, List.forall_mem_cons.mpr ⟨w_713, List.forall_mem_cons.mpr ⟨w_714, List.forall_mem_cons.mpr ⟨w_68, List.forall_mem_cons.mpr ⟨w_715, fun _ h => absurd h List.not_mem_nil⟩⟩⟩⟩⟩, by decide, by decide, by decide, by decide +kernel⟩
theorem w_341 : (Cond.fieldLink "OtherwiseCourt" 199 "OtherwiseCourt$Search" "most" "I") ∈ gTbl := gTbl_mem 341 (by decide +kernel) (by decide +kernel)
theorem fl_X7_199 : jFL RX7 199 4 5 := ⟨_, rfl, by decide, w_341⟩
theorem w_339 : (Cond.fieldLink "OtherwiseCourt" 202 "OtherwiseCourt$Search" "row" "[I") ∈ gTbl := gTbl_mem 339 (by decide +kernel) (by decide +kernel)
theorem fl_X7_202 : jFL RX7 202 4 4 := ⟨_, rfl, by decide, w_339⟩
theorem w_752 : (Cond.methodLink "OtherwiseCourt" 205 ⟨"OtherwiseCourt$Search", "shamsAhead", "(I)I"⟩) ∈ gTbl := gTbl_mem 752 (by decide +kernel) (by decide +kernel)
theorem w_753 : (Cond.instanceMethod ⟨"OtherwiseCourt$Search", "shamsAhead", "(I)I"⟩) ∈ gTbl := gTbl_mem 753 (by decide +kernel) (by decide +kernel)
theorem w_754 : (Cond.selects "OtherwiseCourt$Search" ⟨"OtherwiseCourt$Search", "shamsAhead", "(I)I"⟩ ⟨"OtherwiseCourt$Search", "shamsAhead", "(I)I"⟩) ∈ gTbl := gTbl_mem 754 (by decide +kernel) (by decide +kernel)
theorem w_755 : (Cond.code ⟨"OtherwiseCourt$Search", "shamsAhead", "(I)I"⟩ prog_6_method_7_code 4 (some .int)) ∈ gTbl := gTbl_mem 755 (by decide +kernel) (by decide +kernel)
theorem vl_X7_205 : jVL RX7 205 mX4_shamsAhead 1 := ⟨List.forall_mem_cons.mpr ⟨w_752, List.forall_mem_cons.mpr ⟨w_753, List.forall_mem_cons.mpr ⟨w_754, List.forall_mem_cons.mpr ⟨w_68, List.forall_mem_cons.mpr ⟨w_755, fun _ h => absurd h List.not_mem_nil⟩⟩⟩⟩⟩, by decide, by decide, by decide, by decide +kernel⟩
theorem w_769 : (Cond.methodLink "OtherwiseCourt" 208 ⟨"OtherwiseCourt$Search", "against", "(LOtherwiseCourt$Hall;II)I"⟩) ∈ gTbl := gTbl_mem 769 (by decide +kernel) (by decide +kernel)
theorem w_770 : (Cond.instanceMethod ⟨"OtherwiseCourt$Search", "against", "(LOtherwiseCourt$Hall;II)I"⟩) ∈ gTbl := gTbl_mem 770 (by decide +kernel) (by decide +kernel)
theorem w_771 : (Cond.selects "OtherwiseCourt$Search" ⟨"OtherwiseCourt$Search", "against", "(LOtherwiseCourt$Hall;II)I"⟩ ⟨"OtherwiseCourt$Search", "against", "(LOtherwiseCourt$Hall;II)I"⟩) ∈ gTbl := gTbl_mem 771 (by decide +kernel) (by decide +kernel)
theorem w_772 : (Cond.code ⟨"OtherwiseCourt$Search", "against", "(LOtherwiseCourt$Hall;II)I"⟩ prog_6_method_5_code 4 (some .int)) ∈ gTbl := gTbl_mem 772 (by decide +kernel) (by decide +kernel)
theorem vl_X7_208 : jVL RX7 208 mX4_against 3 := ⟨List.forall_mem_cons.mpr ⟨w_769, List.forall_mem_cons.mpr ⟨w_770, List.forall_mem_cons.mpr ⟨w_771, List.forall_mem_cons.mpr ⟨w_68, List.forall_mem_cons.mpr ⟨w_772, fun _ h => absurd h List.not_mem_nil⟩⟩⟩⟩⟩, by decide, by decide, by decide, by decide +kernel⟩
theorem w_343 : (Cond.fieldLink "OtherwiseCourt" 212 "OtherwiseCourt$Search" "first" "I") ∈ gTbl := gTbl_mem 343 (by decide +kernel) (by decide +kernel)
theorem fl_X7_212 : jFL RX7 212 4 6 := ⟨_, rfl, by decide, w_343⟩
theorem w_781 : (Cond.methodLink "OtherwiseCourt" 215 ⟨"OtherwiseCourt$Sitting", "timesWon", "(II)I"⟩) ∈ gTbl := gTbl_mem 781 (by decide +kernel) (by decide +kernel)
theorem w_782 : (Cond.instanceMethod ⟨"OtherwiseCourt$Sitting", "timesWon", "(II)I"⟩) ∈ gTbl := gTbl_mem 782 (by decide +kernel) (by decide +kernel)
theorem w_783 : (Cond.selects "OtherwiseCourt$Sitting" ⟨"OtherwiseCourt$Sitting", "timesWon", "(II)I"⟩ ⟨"OtherwiseCourt$Sitting", "timesWon", "(II)I"⟩) ∈ gTbl := gTbl_mem 783 (by decide +kernel) (by decide +kernel)
theorem w_784 : (Cond.code ⟨"OtherwiseCourt$Sitting", "timesWon", "(II)I"⟩ prog_7_method_18_code 6 (some .int)) ∈ gTbl := gTbl_mem 784 (by decide +kernel) (by decide +kernel)
theorem vl_X7_215 : jVL RX7 215 mX5_timesWon 2 := ⟨List.forall_mem_cons.mpr ⟨w_781, List.forall_mem_cons.mpr ⟨w_782, List.forall_mem_cons.mpr ⟨w_783, List.forall_mem_cons.mpr ⟨w_66, List.forall_mem_cons.mpr ⟨w_784, fun _ h => absurd h List.not_mem_nil⟩⟩⟩⟩⟩, by decide, by decide, by decide, by decide +kernel⟩
theorem w_789 : (Cond.methodLink "OtherwiseCourt" 218 ⟨"OtherwiseCourt$Sitting", "firstTurn", "(I)I"⟩) ∈ gTbl := gTbl_mem 789 (by decide +kernel) (by decide +kernel)
theorem w_790 : (Cond.instanceMethod ⟨"OtherwiseCourt$Sitting", "firstTurn", "(I)I"⟩) ∈ gTbl := gTbl_mem 790 (by decide +kernel) (by decide +kernel)
theorem w_791 : (Cond.selects "OtherwiseCourt$Sitting" ⟨"OtherwiseCourt$Sitting", "firstTurn", "(I)I"⟩ ⟨"OtherwiseCourt$Sitting", "firstTurn", "(I)I"⟩) ∈ gTbl := gTbl_mem 791 (by decide +kernel) (by decide +kernel)
theorem w_792 : (Cond.code ⟨"OtherwiseCourt$Sitting", "firstTurn", "(I)I"⟩ prog_7_method_19_code 4 (some .int)) ∈ gTbl := gTbl_mem 792 (by decide +kernel) (by decide +kernel)
theorem vl_X7_218 : jVL RX7 218 mX5_firstTurn 1 := ⟨List.forall_mem_cons.mpr ⟨w_789, List.forall_mem_cons.mpr ⟨w_790, List.forall_mem_cons.mpr ⟨w_791, List.forall_mem_cons.mpr ⟨w_66, List.forall_mem_cons.mpr ⟨w_792, fun _ h => absurd h List.not_mem_nil⟩⟩⟩⟩⟩, by decide, by decide, by decide, by decide +kernel⟩
theorem w_798 : (Cond.methodLink "OtherwiseCourt" 221 ⟨"OtherwiseCourt$Sitting", "firstUnlawful", "()I"⟩) ∈ gTbl := gTbl_mem 798 (by decide +kernel) (by decide +kernel)
theorem w_799 : (Cond.instanceMethod ⟨"OtherwiseCourt$Sitting", "firstUnlawful", "()I"⟩) ∈ gTbl := gTbl_mem 799 (by decide +kernel) (by decide +kernel)
theorem w_800 : (Cond.selects "OtherwiseCourt$Sitting" ⟨"OtherwiseCourt$Sitting", "firstUnlawful", "()I"⟩ ⟨"OtherwiseCourt$Sitting", "firstUnlawful", "()I"⟩) ∈ gTbl := gTbl_mem 800 (by decide +kernel) (by decide +kernel)
theorem w_801 : (Cond.code ⟨"OtherwiseCourt$Sitting", "firstUnlawful", "()I"⟩ prog_7_method_20_code 2 (some .int)) ∈ gTbl := gTbl_mem 801 (by decide +kernel) (by decide +kernel)
theorem vl_X7_221 : jVL RX7 221 mX5_firstUnlawful 0 := ⟨List.forall_mem_cons.mpr ⟨w_798, List.forall_mem_cons.mpr ⟨w_799, List.forall_mem_cons.mpr ⟨w_800, List.forall_mem_cons.mpr ⟨w_66, List.forall_mem_cons.mpr ⟨w_801, fun _ h => absurd h List.not_mem_nil⟩⟩⟩⟩⟩, by decide, by decide, by decide, by decide +kernel⟩
theorem w_806 : (Cond.methodLink "OtherwiseCourt" 224 ⟨"OtherwiseCourt$Sitting", "turn", "(I)V"⟩) ∈ gTbl := gTbl_mem 806 (by decide +kernel) (by decide +kernel)
theorem w_807 : (Cond.instanceMethod ⟨"OtherwiseCourt$Sitting", "turn", "(I)V"⟩) ∈ gTbl := gTbl_mem 807 (by decide +kernel) (by decide +kernel)
theorem w_808 : (Cond.selects "OtherwiseCourt$Sitting" ⟨"OtherwiseCourt$Sitting", "turn", "(I)V"⟩ ⟨"OtherwiseCourt$Sitting", "turn", "(I)V"⟩) ∈ gTbl := gTbl_mem 808 (by decide +kernel) (by decide +kernel)
theorem w_809 : (Cond.code ⟨"OtherwiseCourt$Sitting", "turn", "(I)V"⟩ prog_7_method_8_code 2 none) ∈ gTbl := gTbl_mem 809 (by decide +kernel) (by decide +kernel)
theorem vl_X7_224 : jVL RX7 224 mX5_turn 1 := ⟨List.forall_mem_cons.mpr ⟨w_806, List.forall_mem_cons.mpr ⟨w_807, List.forall_mem_cons.mpr ⟨w_808, List.forall_mem_cons.mpr ⟨w_66, List.forall_mem_cons.mpr ⟨w_809, fun _ h => absurd h List.not_mem_nil⟩⟩⟩⟩⟩, by decide, by decide, by decide, by decide +kernel⟩
theorem w_814 : (Cond.methodLink "OtherwiseCourt" 227 ⟨"OtherwiseCourt$Sitting", "setBar", "(I)V"⟩) ∈ gTbl := gTbl_mem 814 (by decide +kernel) (by decide +kernel)
theorem vl_X7_227 : jVL RX7 227 mX5_setBar 1 := ⟨List.forall_mem_cons.mpr ⟨w_814, List.forall_mem_cons.mpr ⟨w_604, List.forall_mem_cons.mpr ⟨w_605, List.forall_mem_cons.mpr ⟨w_66, List.forall_mem_cons.mpr ⟨w_606, fun _ h => absurd h List.not_mem_nil⟩⟩⟩⟩⟩, by decide, by decide, by decide, by decide +kernel⟩
theorem w_118 : (Cond.fieldLink "OtherwiseCourt" 230 "OtherwiseCourt$Hall" "queued" "I") ∈ gTbl := gTbl_mem 118 (by decide +kernel) (by decide +kernel)
theorem pl_X7_230 : jPL RX7 230 2 10 false := ⟨_, rfl, by decide, w_118, by decide, by decide⟩
theorem fl_X7_230 : jFL RX7 230 2 10 := ⟨_, rfl, by decide, w_118⟩
theorem w_121 : (Cond.fieldLink "OtherwiseCourt" 233 "OtherwiseCourt$Hall" "queue" "[I") ∈ gTbl := gTbl_mem 121 (by decide +kernel) (by decide +kernel)
theorem fl_X7_233 : jFL RX7 233 2 11 := ⟨_, rfl, by decide, w_121⟩
theorem w_823 : (Cond.constantLong "OtherwiseCourt" 236 (-9223372036854775808 : Int64)) ∈ gTbl := gTbl_mem 823 (by decide +kernel) (by decide +kernel)
theorem fl_X7_51 : jFL RX7 51 7 6 := ⟨_, rfl, by decide, w_408⟩
theorem w_824 : (Cond.methodLink "OtherwiseCourt" 238 ⟨"OtherwiseCourt$Coins", "fall", "(LOtherwiseCourt$Hall;)V"⟩) ∈ gTbl := gTbl_mem 824 (by decide +kernel) (by decide +kernel)
theorem w_825 : (Cond.instanceMethod ⟨"OtherwiseCourt$Coins", "fall", "(LOtherwiseCourt$Hall;)V"⟩) ∈ gTbl := gTbl_mem 825 (by decide +kernel) (by decide +kernel)
theorem w_826 : (Cond.selects "OtherwiseCourt$Coins" ⟨"OtherwiseCourt$Coins", "fall", "(LOtherwiseCourt$Hall;)V"⟩ ⟨"OtherwiseCourt$Coins", "fall", "(LOtherwiseCourt$Hall;)V"⟩) ∈ gTbl := gTbl_mem 826 (by decide +kernel) (by decide +kernel)
theorem w_827 : (Cond.code ⟨"OtherwiseCourt$Coins", "fall", "(LOtherwiseCourt$Hall;)V"⟩ prog_2_method_2_code 4 none) ∈ gTbl := gTbl_mem 827 (by decide +kernel) (by decide +kernel)
theorem vl_X7_238 : jVL RX7 238 mX0_fall 1 := ⟨List.forall_mem_cons.mpr ⟨w_824, List.forall_mem_cons.mpr ⟨w_825, List.forall_mem_cons.mpr ⟨w_826, List.forall_mem_cons.mpr ⟨w_69, List.forall_mem_cons.mpr ⟨w_827, fun _ h => absurd h List.not_mem_nil⟩⟩⟩⟩⟩, by decide, by decide, by decide, by decide +kernel⟩
theorem w_370 : (Cond.fieldLink "OtherwiseCourt" 242 "OtherwiseCourt$Coins" "chances" "[I") ∈ gTbl := gTbl_mem 370 (by decide +kernel) (by decide +kernel)
theorem fl_X7_242 : jFL RX7 242 0 2 := ⟨_, rfl, by decide, w_370⟩
theorem w_848 : (Cond.methodLink "OtherwiseCourt" 245 ⟨"OtherwiseCourt$Coins", "part", "(II)J"⟩) ∈ gTbl := gTbl_mem 848 (by decide +kernel) (by decide +kernel)
theorem w_849 : (Cond.static ⟨"OtherwiseCourt$Coins", "part", "(II)J"⟩) ∈ gTbl := gTbl_mem 849 (by decide +kernel) (by decide +kernel)
theorem w_850 : (Cond.code ⟨"OtherwiseCourt$Coins", "part", "(II)J"⟩ prog_2_method_5_code 5 (some .long)) ∈ gTbl := gTbl_mem 850 (by decide +kernel) (by decide +kernel)
theorem sl_X7_245 : jSL RX7 245 mX0_part 2 := ⟨List.forall_mem_cons.mpr ⟨w_848, List.forall_mem_cons.mpr ⟨w_849, List.forall_mem_cons.mpr ⟨w_69, List.forall_mem_cons.mpr ⟨w_850, fun _ h => absurd h List.not_mem_nil⟩⟩⟩⟩, by decide, by decide, by decide, by decide +kernel⟩
theorem fl_X7_58 : jFL RX7 58 7 7 := ⟨_, rfl, by decide, w_409⟩
theorem w_387 : (Cond.fieldLink "OtherwiseCourt" 249 "OtherwiseCourt$Deeds" "ran" "I") ∈ gTbl := gTbl_mem 387 (by decide +kernel) (by decide +kernel)
theorem pl_X7_249 : jPL RX7 249 1 1 false := ⟨_, rfl, by decide, w_387, by decide, by decide⟩
theorem w_859 : (Cond.methodLink "OtherwiseCourt" 252 ⟨"OtherwiseCourt$Deeds", "perform", "(IIIII)I"⟩) ∈ gTbl := gTbl_mem 859 (by decide +kernel) (by decide +kernel)
theorem w_860 : (Cond.instanceMethod ⟨"OtherwiseCourt$Deeds", "perform", "(IIIII)I"⟩) ∈ gTbl := gTbl_mem 860 (by decide +kernel) (by decide +kernel)
theorem w_861 : (Cond.selects "OtherwiseCourt$Deeds" ⟨"OtherwiseCourt$Deeds", "perform", "(IIIII)I"⟩ ⟨"OtherwiseCourt$Deeds", "perform", "(IIIII)I"⟩) ∈ gTbl := gTbl_mem 861 (by decide +kernel) (by decide +kernel)
theorem w_862 : (Cond.code ⟨"OtherwiseCourt$Deeds", "perform", "(IIIII)I"⟩ prog_3_method_2_code 6 (some .int)) ∈ gTbl := gTbl_mem 862 (by decide +kernel) (by decide +kernel)
theorem vl_X7_252 : jVL RX7 252 mX1_perform 5 := ⟨List.forall_mem_cons.mpr ⟨w_859, List.forall_mem_cons.mpr ⟨w_860, List.forall_mem_cons.mpr ⟨w_861, List.forall_mem_cons.mpr ⟨w_70, List.forall_mem_cons.mpr ⟨w_862, fun _ h => absurd h List.not_mem_nil⟩⟩⟩⟩⟩, by decide, by decide, by decide, by decide +kernel⟩
theorem fl_X7_249 : jFL RX7 249 1 1 := ⟨_, rfl, by decide, w_387⟩
theorem w_385 : (Cond.fieldLink "OtherwiseCourt" 256 "OtherwiseCourt$Deeds" "bodies" "[I") ∈ gTbl := gTbl_mem 385 (by decide +kernel) (by decide +kernel)
theorem fl_X7_256 : jFL RX7 256 1 0 := ⟨_, rfl, by decide, w_385⟩
theorem w_886 : (Cond.fieldLink "OtherwiseCourt" 259 "OtherwiseCourt" "ABOVE" "[I") ∈ gTbl := gTbl_mem 886 (by decide +kernel) (by decide +kernel)
theorem fl_X7_18 : jFL RX7 18 7 1 := ⟨_, rfl, by decide, w_403⟩
theorem w_891 : (Cond.methodLink "OtherwiseCourt" 262 ⟨"OtherwiseCourt$Hall", "become", "(LOtherwiseCourt$Hall;)V"⟩) ∈ gTbl := gTbl_mem 891 (by decide +kernel) (by decide +kernel)
theorem w_892 : (Cond.instanceMethod ⟨"OtherwiseCourt$Hall", "become", "(LOtherwiseCourt$Hall;)V"⟩) ∈ gTbl := gTbl_mem 892 (by decide +kernel) (by decide +kernel)
theorem w_893 : (Cond.selects "OtherwiseCourt$Hall" ⟨"OtherwiseCourt$Hall", "become", "(LOtherwiseCourt$Hall;)V"⟩ ⟨"OtherwiseCourt$Hall", "become", "(LOtherwiseCourt$Hall;)V"⟩) ∈ gTbl := gTbl_mem 893 (by decide +kernel) (by decide +kernel)
theorem w_894 : (Cond.code ⟨"OtherwiseCourt$Hall", "become", "(LOtherwiseCourt$Hall;)V"⟩ prog_4_method_10_code 2 none) ∈ gTbl := gTbl_mem 894 (by decide +kernel) (by decide +kernel)
theorem vl_X7_262 : jVL RX7 262 mX2_become 1 := ⟨List.forall_mem_cons.mpr ⟨w_891, List.forall_mem_cons.mpr ⟨w_892, List.forall_mem_cons.mpr ⟨w_893, List.forall_mem_cons.mpr ⟨w_64, List.forall_mem_cons.mpr ⟨w_894, fun _ h => absurd h List.not_mem_nil⟩⟩⟩⟩⟩, by decide, by decide, by decide, by decide +kernel⟩
theorem fl_X7_21 : jFL RX7 21 7 2 := ⟨_, rfl, by decide, w_404⟩
theorem w_594 : (Cond.methodLink "OtherwiseCourt" 265 ⟨"OtherwiseCourt$Sitting", "open", "(LOtherwiseCourt$Hall;LOtherwiseCourt$Law;I)V"⟩) ∈ gTbl := gTbl_mem 594 (by decide +kernel) (by decide +kernel)
theorem w_595 : (Cond.instanceMethod ⟨"OtherwiseCourt$Sitting", "open", "(LOtherwiseCourt$Hall;LOtherwiseCourt$Law;I)V"⟩) ∈ gTbl := gTbl_mem 595 (by decide +kernel) (by decide +kernel)
theorem w_596 : (Cond.selects "OtherwiseCourt$Sitting" ⟨"OtherwiseCourt$Sitting", "open", "(LOtherwiseCourt$Hall;LOtherwiseCourt$Law;I)V"⟩ ⟨"OtherwiseCourt$Sitting", "open", "(LOtherwiseCourt$Hall;LOtherwiseCourt$Law;I)V"⟩) ∈ gTbl := gTbl_mem 596 (by decide +kernel) (by decide +kernel)
theorem w_597 : (Cond.code ⟨"OtherwiseCourt$Sitting", "open", "(LOtherwiseCourt$Hall;LOtherwiseCourt$Law;I)V"⟩ prog_7_method_2_code 6 none) ∈ gTbl := gTbl_mem 597 (by decide +kernel) (by decide +kernel)
theorem vl_X7_265 : jVL RX7 265 mX5_open 3 := ⟨List.forall_mem_cons.mpr ⟨w_594, List.forall_mem_cons.mpr ⟨w_595, List.forall_mem_cons.mpr ⟨w_596, List.forall_mem_cons.mpr ⟨w_66, List.forall_mem_cons.mpr ⟨w_597, fun _ h => absurd h List.not_mem_nil⟩⟩⟩⟩⟩, by decide, by decide, by decide, by decide +kernel⟩
theorem w_909 : (Cond.methodLink "OtherwiseCourtModel" 3 ⟨"java/lang/Object", "<init>", "()V"⟩) ∈ gTbl := gTbl_mem 909 (by decide +kernel) (by decide +kernel)
theorem w_910 : (Cond.fieldLink "OtherwiseCourtModel" 9 "OtherwiseCourtModel" "s" "[I") ∈ gTbl := gTbl_mem 910 (by decide +kernel) (by decide +kernel)
theorem rl_X8_9 : jRL RX8 9 8 1 := ⟨_, rfl, by decide, w_910, by decide, by decide, Or.inr ⟨.int, by decide +kernel⟩⟩
theorem w_911 : (Cond.fieldLink "OtherwiseCourtModel" 15 "OtherwiseCourtModel" "image" "[I") ∈ gTbl := gTbl_mem 911 (by decide +kernel) (by decide +kernel)
theorem rl_X8_15 : jRL RX8 15 8 2 := ⟨_, rfl, by decide, w_911, by decide, by decide, Or.inr ⟨.int, by decide +kernel⟩⟩
theorem w_918 : (Cond.fieldLink "OtherwiseCourtModel" 18 "OtherwiseCourtModel" "by" "[I") ∈ gTbl := gTbl_mem 918 (by decide +kernel) (by decide +kernel)
theorem rl_X8_18 : jRL RX8 18 8 9 := ⟨_, rfl, by decide, w_918, by decide, by decide, Or.inr ⟨.int, by decide +kernel⟩⟩
theorem w_919 : (Cond.fieldLink "OtherwiseCourtModel" 21 "OtherwiseCourtModel" "truths" "[Z") ∈ gTbl := gTbl_mem 919 (by decide +kernel) (by decide +kernel)
theorem rl_X8_21 : jRL RX8 21 8 10 := ⟨_, rfl, by decide, w_919, by decide, by decide, Or.inr ⟨.boolean, by decide +kernel⟩⟩
theorem w_922 : (Cond.fieldLink "OtherwiseCourtModel" 25 "OtherwiseCourtModel" "weights" "[I") ∈ gTbl := gTbl_mem 922 (by decide +kernel) (by decide +kernel)
theorem rl_X8_25 : jRL RX8 25 8 13 := ⟨_, rfl, by decide, w_922, by decide, by decide, Or.inr ⟨.int, by decide +kernel⟩⟩
theorem w_923 : (Cond.fieldLink "OtherwiseCourtModel" 28 "OtherwiseCourtModel" "clashes" "[I") ∈ gTbl := gTbl_mem 923 (by decide +kernel) (by decide +kernel)
theorem rl_X8_28 : jRL RX8 28 8 14 := ⟨_, rfl, by decide, w_923, by decide, by decide, Or.inr ⟨.int, by decide +kernel⟩⟩
theorem w_925 : (Cond.fieldLink "OtherwiseCourtModel" 31 "OtherwiseCourtModel" "points" "[I") ∈ gTbl := gTbl_mem 925 (by decide +kernel) (by decide +kernel)
theorem rl_X8_31 : jRL RX8 31 8 16 := ⟨_, rfl, by decide, w_925, by decide, by decide, Or.inr ⟨.int, by decide +kernel⟩⟩
theorem w_926 : (Cond.fieldLink "OtherwiseCourtModel" 34 "OtherwiseCourtModel" "isFor" "[Z") ∈ gTbl := gTbl_mem 926 (by decide +kernel) (by decide +kernel)
theorem rl_X8_34 : jRL RX8 34 8 17 := ⟨_, rfl, by decide, w_926, by decide, by decide, Or.inr ⟨.boolean, by decide +kernel⟩⟩
theorem w_930 : (Cond.fieldLink "OtherwiseCourtModel" 37 "OtherwiseCourtModel" "order" "[I") ∈ gTbl := gTbl_mem 930 (by decide +kernel) (by decide +kernel)
theorem rl_X8_37 : jRL RX8 37 8 21 := ⟨_, rfl, by decide, w_930, by decide, by decide, Or.inr ⟨.int, by decide +kernel⟩⟩
theorem w_931 : (Cond.fieldLink "OtherwiseCourtModel" 40 "OtherwiseCourtModel" "bestOrder" "[I") ∈ gTbl := gTbl_mem 931 (by decide +kernel) (by decide +kernel)
theorem rl_X8_40 : jRL RX8 40 8 22 := ⟨_, rfl, by decide, w_931, by decide, by decide, Or.inr ⟨.int, by decide +kernel⟩⟩
theorem w_933 : (Cond.fieldLink "OtherwiseCourtModel" 43 "OtherwiseCourtModel" "shamPoints" "[I") ∈ gTbl := gTbl_mem 933 (by decide +kernel) (by decide +kernel)
theorem rl_X8_43 : jRL RX8 43 8 24 := ⟨_, rfl, by decide, w_933, by decide, by decide, Or.inr ⟨.int, by decide +kernel⟩⟩
theorem w_935 : (Cond.fieldLink "OtherwiseCourtModel" 46 "OtherwiseCourtModel" "bodies" "[I") ∈ gTbl := gTbl_mem 935 (by decide +kernel) (by decide +kernel)
theorem rl_X8_46 : jRL RX8 46 8 26 := ⟨_, rfl, by decide, w_935, by decide, by decide, Or.inr ⟨.int, by decide +kernel⟩⟩
theorem fl_X8_9 : jFL RX8 9 8 1 := ⟨_, rfl, by decide, w_910⟩
theorem w_1007 : (Cond.methodLink "OtherwiseCourtModel" 53 ⟨"OtherwiseCourtModel", "in", "(III)Z"⟩) ∈ gTbl := gTbl_mem 1007 (by decide +kernel) (by decide +kernel)
theorem w_1008 : (Cond.static ⟨"OtherwiseCourtModel", "in", "(III)Z"⟩) ∈ gTbl := gTbl_mem 1008 (by decide +kernel) (by decide +kernel)
theorem w_71 : (Cond.initialized "OtherwiseCourtModel") ∈ gTbl := gTbl_mem 71 (by decide +kernel) (by decide +kernel)
theorem w_1009 : (Cond.code ⟨"OtherwiseCourtModel", "in", "(III)Z"⟩ prog_10_method_3_code 3 (some .boolean)) ∈ gTbl := gTbl_mem 1009 (by decide +kernel) (by decide +kernel)
theorem sl_X8_53 : jSL RX8 53 mX8_in 3 := ⟨List.forall_mem_cons.mpr ⟨w_1007, List.forall_mem_cons.mpr ⟨w_1008, List.forall_mem_cons.mpr ⟨w_71, List.forall_mem_cons.mpr ⟨w_1009, fun _ h => absurd h List.not_mem_nil⟩⟩⟩⟩, by decide, by decide, by decide, by decide +kernel⟩
theorem w_914 : (Cond.fieldLink "OtherwiseCourtModel" 57 "OtherwiseCourtModel" "spot" "I") ∈ gTbl := gTbl_mem 914 (by decide +kernel) (by decide +kernel)
theorem fl_X8_57 : jFL RX8 57 8 5 := ⟨_, rfl, by decide, w_914⟩
theorem w_915 : (Cond.fieldLink "OtherwiseCourtModel" 60 "OtherwiseCourtModel" "end" "I") ∈ gTbl := gTbl_mem 915 (by decide +kernel) (by decide +kernel)
theorem fl_X8_60 : jFL RX8 60 8 6 := ⟨_, rfl, by decide, w_915⟩
theorem w_916 : (Cond.fieldLink "OtherwiseCourtModel" 63 "OtherwiseCourtModel" "isWrong" "Z") ∈ gTbl := gTbl_mem 916 (by decide +kernel) (by decide +kernel)
theorem fl_X8_63 : jFL RX8 63 8 7 := ⟨_, rfl, by decide, w_916⟩
theorem w_1018 : (Cond.methodLink "OtherwiseCourtModel" 67 ⟨"OtherwiseCourtModel", "here", "()I"⟩) ∈ gTbl := gTbl_mem 1018 (by decide +kernel) (by decide +kernel)
theorem w_1020 : (Cond.instanceMethod ⟨"OtherwiseCourtModel", "here", "()I"⟩) ∈ gTbl := gTbl_mem 1020 (by decide +kernel) (by decide +kernel)
theorem w_24 : (Cond.selects "OtherwiseCourtModel" ⟨"OtherwiseCourtModel", "here", "()I"⟩ ⟨"OtherwiseCourtModel", "here", "()I"⟩) ∈ gTbl := gTbl_mem 24 (by decide +kernel) (by decide +kernel)
theorem w_1021 : (Cond.code ⟨"OtherwiseCourtModel", "here", "()I"⟩ prog_10_method_8_code 1 (some .int)) ∈ gTbl := gTbl_mem 1021 (by decide +kernel) (by decide +kernel)
theorem vl_X8_67 : jVL RX8 67 mX8_here 0 := ⟨List.forall_mem_cons.mpr ⟨w_1018, List.forall_mem_cons.mpr ⟨w_1020, List.forall_mem_cons.mpr ⟨w_24, List.forall_mem_cons.mpr ⟨w_71, List.forall_mem_cons.mpr ⟨w_1021, fun _ h => absurd h List.not_mem_nil⟩⟩⟩⟩⟩, by decide, by decide, by decide, by decide +kernel⟩
theorem pl_X8_63 : jPL RX8 63 8 7 true := ⟨_, rfl, by decide, w_916, by decide, by decide⟩
theorem pl_X8_57 : jPL RX8 57 8 5 false := ⟨_, rfl, by decide, w_914, by decide, by decide⟩
theorem w_1031 : (Cond.methodLink "OtherwiseCourtModel" 71 ⟨"java/lang/String", "length", "()I"⟩) ∈ gTbl := gTbl_mem 1031 (by decide +kernel) (by decide +kernel)
theorem vl_X8_71 : jVL RX8 71 mJ0_length_8abf5 0 := ⟨List.forall_mem_cons.mpr ⟨w_1031, List.forall_mem_cons.mpr ⟨w_461, List.forall_mem_cons.mpr ⟨w_462, List.forall_mem_cons.mpr ⟨w_73, List.forall_mem_cons.mpr ⟨w_463, fun _ h => absurd h List.not_mem_nil⟩⟩⟩⟩⟩, by decide, by decide, by decide, by decide +kernel⟩
theorem w_1032 : (Cond.methodLink "OtherwiseCourtModel" 76 ⟨"java/lang/String", "charAt", "(I)C"⟩) ∈ gTbl := gTbl_mem 1032 (by decide +kernel) (by decide +kernel)
theorem vl_X8_76 : jVL RX8 76 mJ0_charAt_5068e 1 := ⟨List.forall_mem_cons.mpr ⟨w_1032, List.forall_mem_cons.mpr ⟨w_471, List.forall_mem_cons.mpr ⟨w_472, List.forall_mem_cons.mpr ⟨w_73, List.forall_mem_cons.mpr ⟨w_473, fun _ h => absurd h List.not_mem_nil⟩⟩⟩⟩⟩, by decide, by decide, by decide, by decide +kernel⟩
theorem w_1033 : (Cond.methodLink "OtherwiseCourtModel" 80 ⟨"OtherwiseCourtModel", "must", "(I)V"⟩) ∈ gTbl := gTbl_mem 1033 (by decide +kernel) (by decide +kernel)
theorem w_1035 : (Cond.instanceMethod ⟨"OtherwiseCourtModel", "must", "(I)V"⟩) ∈ gTbl := gTbl_mem 1035 (by decide +kernel) (by decide +kernel)
theorem w_27 : (Cond.selects "OtherwiseCourtModel" ⟨"OtherwiseCourtModel", "must", "(I)V"⟩ ⟨"OtherwiseCourtModel", "must", "(I)V"⟩) ∈ gTbl := gTbl_mem 27 (by decide +kernel) (by decide +kernel)
theorem w_1036 : (Cond.code ⟨"OtherwiseCourtModel", "must", "(I)V"⟩ prog_10_method_9_code 2 none) ∈ gTbl := gTbl_mem 1036 (by decide +kernel) (by decide +kernel)
theorem vl_X8_80 : jVL RX8 80 mX8_must 1 := ⟨List.forall_mem_cons.mpr ⟨w_1033, List.forall_mem_cons.mpr ⟨w_1035, List.forall_mem_cons.mpr ⟨w_27, List.forall_mem_cons.mpr ⟨w_71, List.forall_mem_cons.mpr ⟨w_1036, fun _ h => absurd h List.not_mem_nil⟩⟩⟩⟩⟩, by decide, by decide, by decide, by decide +kernel⟩
theorem w_913 : (Cond.fieldLink "OtherwiseCourtModel" 84 "OtherwiseCourtModel" "act" "I") ∈ gTbl := gTbl_mem 913 (by decide +kernel) (by decide +kernel)
theorem fl_X8_84 : jFL RX8 84 8 4 := ⟨_, rfl, by decide, w_913⟩
theorem w_917 : (Cond.fieldLink "OtherwiseCourtModel" 87 "OtherwiseCourtModel" "open" "I") ∈ gTbl := gTbl_mem 917 (by decide +kernel) (by decide +kernel)
theorem fl_X8_87 : jFL RX8 87 8 8 := ⟨_, rfl, by decide, w_917⟩
theorem pl_X8_87 : jPL RX8 87 8 8 false := ⟨_, rfl, by decide, w_917, by decide, by decide⟩
theorem w_1049 : (Cond.methodLink "OtherwiseCourtModel" 90 ⟨"OtherwiseCourtModel", "factor", "()V"⟩) ∈ gTbl := gTbl_mem 1049 (by decide +kernel) (by decide +kernel)
theorem w_1051 : (Cond.instanceMethod ⟨"OtherwiseCourtModel", "factor", "()V"⟩) ∈ gTbl := gTbl_mem 1051 (by decide +kernel) (by decide +kernel)
theorem w_31 : (Cond.selects "OtherwiseCourtModel" ⟨"OtherwiseCourtModel", "factor", "()V"⟩ ⟨"OtherwiseCourtModel", "factor", "()V"⟩) ∈ gTbl := gTbl_mem 31 (by decide +kernel) (by decide +kernel)
theorem w_1052 : (Cond.code ⟨"OtherwiseCourtModel", "factor", "()V"⟩ prog_10_method_14_code 5 none) ∈ gTbl := gTbl_mem 1052 (by decide +kernel) (by decide +kernel)
theorem vl_X8_90 : jVL RX8 90 mX8_factor 0 := ⟨List.forall_mem_cons.mpr ⟨w_1049, List.forall_mem_cons.mpr ⟨w_1051, List.forall_mem_cons.mpr ⟨w_31, List.forall_mem_cons.mpr ⟨w_71, List.forall_mem_cons.mpr ⟨w_1052, fun _ h => absurd h List.not_mem_nil⟩⟩⟩⟩⟩, by decide, by decide, by decide, by decide +kernel⟩
theorem w_1053 : (Cond.methodLink "OtherwiseCourtModel" 93 ⟨"OtherwiseCourtModel", "emits", "(I)V"⟩) ∈ gTbl := gTbl_mem 1053 (by decide +kernel) (by decide +kernel)
theorem w_1055 : (Cond.instanceMethod ⟨"OtherwiseCourtModel", "emits", "(I)V"⟩) ∈ gTbl := gTbl_mem 1055 (by decide +kernel) (by decide +kernel)
theorem w_32 : (Cond.selects "OtherwiseCourtModel" ⟨"OtherwiseCourtModel", "emits", "(I)V"⟩ ⟨"OtherwiseCourtModel", "emits", "(I)V"⟩) ∈ gTbl := gTbl_mem 32 (by decide +kernel) (by decide +kernel)
theorem w_1056 : (Cond.code ⟨"OtherwiseCourtModel", "emits", "(I)V"⟩ prog_10_method_13_code 2 none) ∈ gTbl := gTbl_mem 1056 (by decide +kernel) (by decide +kernel)
theorem vl_X8_93 : jVL RX8 93 mX8_emits 1 := ⟨List.forall_mem_cons.mpr ⟨w_1053, List.forall_mem_cons.mpr ⟨w_1055, List.forall_mem_cons.mpr ⟨w_32, List.forall_mem_cons.mpr ⟨w_71, List.forall_mem_cons.mpr ⟨w_1056, fun _ h => absurd h List.not_mem_nil⟩⟩⟩⟩⟩, by decide, by decide, by decide, by decide +kernel⟩
theorem w_1041 : (Cond.methodLink "OtherwiseCourtModel" 96 ⟨"OtherwiseCourtModel", "some", "()V"⟩) ∈ gTbl := gTbl_mem 1041 (by decide +kernel) (by decide +kernel)
theorem w_1043 : (Cond.instanceMethod ⟨"OtherwiseCourtModel", "some", "()V"⟩) ∈ gTbl := gTbl_mem 1043 (by decide +kernel) (by decide +kernel)
theorem w_29 : (Cond.selects "OtherwiseCourtModel" ⟨"OtherwiseCourtModel", "some", "()V"⟩ ⟨"OtherwiseCourtModel", "some", "()V"⟩) ∈ gTbl := gTbl_mem 29 (by decide +kernel) (by decide +kernel)
theorem w_1044 : (Cond.code ⟨"OtherwiseCourtModel", "some", "()V"⟩ prog_10_method_16_code 1 none) ∈ gTbl := gTbl_mem 1044 (by decide +kernel) (by decide +kernel)
theorem vl_X8_96 : jVL RX8 96 mX8_some 0 := ⟨List.forall_mem_cons.mpr ⟨w_1041, List.forall_mem_cons.mpr ⟨w_1043, List.forall_mem_cons.mpr ⟨w_29, List.forall_mem_cons.mpr ⟨w_71, List.forall_mem_cons.mpr ⟨w_1044, fun _ h => absurd h List.not_mem_nil⟩⟩⟩⟩⟩, by decide, by decide, by decide, by decide +kernel⟩
theorem w_1058 : (Cond.methodLink "OtherwiseCourtModel" 101 ⟨"OtherwiseCourtModel", "among", "(Ljava/lang/String;)I"⟩) ∈ gTbl := gTbl_mem 1058 (by decide +kernel) (by decide +kernel)
theorem w_1060 : (Cond.instanceMethod ⟨"OtherwiseCourtModel", "among", "(Ljava/lang/String;)I"⟩) ∈ gTbl := gTbl_mem 1060 (by decide +kernel) (by decide +kernel)
theorem w_33 : (Cond.selects "OtherwiseCourtModel" ⟨"OtherwiseCourtModel", "among", "(Ljava/lang/String;)I"⟩ ⟨"OtherwiseCourtModel", "among", "(Ljava/lang/String;)I"⟩) ∈ gTbl := gTbl_mem 33 (by decide +kernel) (by decide +kernel)
theorem w_1061 : (Cond.code ⟨"OtherwiseCourtModel", "among", "(Ljava/lang/String;)I"⟩ prog_10_method_12_code 3 (some .int)) ∈ gTbl := gTbl_mem 1061 (by decide +kernel) (by decide +kernel)
theorem vl_X8_101 : jVL RX8 101 mX8_among 1 := ⟨List.forall_mem_cons.mpr ⟨w_1058, List.forall_mem_cons.mpr ⟨w_1060, List.forall_mem_cons.mpr ⟨w_33, List.forall_mem_cons.mpr ⟨w_71, List.forall_mem_cons.mpr ⟨w_1061, fun _ h => absurd h List.not_mem_nil⟩⟩⟩⟩⟩, by decide, by decide, by decide, by decide +kernel⟩
theorem w_1037 : (Cond.methodLink "OtherwiseCourtModel" 107 ⟨"OtherwiseCourtModel", "figures", "()I"⟩) ∈ gTbl := gTbl_mem 1037 (by decide +kernel) (by decide +kernel)
theorem w_1039 : (Cond.instanceMethod ⟨"OtherwiseCourtModel", "figures", "()I"⟩) ∈ gTbl := gTbl_mem 1039 (by decide +kernel) (by decide +kernel)
theorem w_28 : (Cond.selects "OtherwiseCourtModel" ⟨"OtherwiseCourtModel", "figures", "()I"⟩ ⟨"OtherwiseCourtModel", "figures", "()I"⟩) ∈ gTbl := gTbl_mem 28 (by decide +kernel) (by decide +kernel)
theorem w_1040 : (Cond.code ⟨"OtherwiseCourtModel", "figures", "()I"⟩ prog_10_method_11_code 3 (some .int)) ∈ gTbl := gTbl_mem 1040 (by decide +kernel) (by decide +kernel)
theorem vl_X8_107 : jVL RX8 107 mX8_figures 0 := ⟨List.forall_mem_cons.mpr ⟨w_1037, List.forall_mem_cons.mpr ⟨w_1039, List.forall_mem_cons.mpr ⟨w_28, List.forall_mem_cons.mpr ⟨w_71, List.forall_mem_cons.mpr ⟨w_1040, fun _ h => absurd h List.not_mem_nil⟩⟩⟩⟩⟩, by decide, by decide, by decide, by decide +kernel⟩
theorem w_1045 : (Cond.methodLink "OtherwiseCourtModel" 110 ⟨"OtherwiseCourtModel", "every", "()V"⟩) ∈ gTbl := gTbl_mem 1045 (by decide +kernel) (by decide +kernel)
theorem w_1047 : (Cond.instanceMethod ⟨"OtherwiseCourtModel", "every", "()V"⟩) ∈ gTbl := gTbl_mem 1047 (by decide +kernel) (by decide +kernel)
theorem w_30 : (Cond.selects "OtherwiseCourtModel" ⟨"OtherwiseCourtModel", "every", "()V"⟩ ⟨"OtherwiseCourtModel", "every", "()V"⟩) ∈ gTbl := gTbl_mem 30 (by decide +kernel) (by decide +kernel)
theorem w_1048 : (Cond.code ⟨"OtherwiseCourtModel", "every", "()V"⟩ prog_10_method_15_code 1 none) ∈ gTbl := gTbl_mem 1048 (by decide +kernel) (by decide +kernel)
theorem vl_X8_110 : jVL RX8 110 mX8_every 0 := ⟨List.forall_mem_cons.mpr ⟨w_1045, List.forall_mem_cons.mpr ⟨w_1047, List.forall_mem_cons.mpr ⟨w_30, List.forall_mem_cons.mpr ⟨w_71, List.forall_mem_cons.mpr ⟨w_1048, fun _ h => absurd h List.not_mem_nil⟩⟩⟩⟩⟩, by decide, by decide, by decide, by decide +kernel⟩
theorem w_1027 : (Cond.methodLink "OtherwiseCourtModel" 113 ⟨"OtherwiseCourtModel", "spells", "(Ljava/lang/String;)V"⟩) ∈ gTbl := gTbl_mem 1027 (by decide +kernel) (by decide +kernel)
theorem w_1029 : (Cond.instanceMethod ⟨"OtherwiseCourtModel", "spells", "(Ljava/lang/String;)V"⟩) ∈ gTbl := gTbl_mem 1029 (by decide +kernel) (by decide +kernel)
theorem w_26 : (Cond.selects "OtherwiseCourtModel" ⟨"OtherwiseCourtModel", "spells", "(Ljava/lang/String;)V"⟩ ⟨"OtherwiseCourtModel", "spells", "(Ljava/lang/String;)V"⟩) ∈ gTbl := gTbl_mem 26 (by decide +kernel) (by decide +kernel)
theorem w_1030 : (Cond.code ⟨"OtherwiseCourtModel", "spells", "(Ljava/lang/String;)V"⟩ prog_10_method_10_code 3 none) ∈ gTbl := gTbl_mem 1030 (by decide +kernel) (by decide +kernel)
theorem vl_X8_113 : jVL RX8 113 mX8_spells 1 := ⟨List.forall_mem_cons.mpr ⟨w_1027, List.forall_mem_cons.mpr ⟨w_1029, List.forall_mem_cons.mpr ⟨w_26, List.forall_mem_cons.mpr ⟨w_71, List.forall_mem_cons.mpr ⟨w_1030, fun _ h => absurd h List.not_mem_nil⟩⟩⟩⟩⟩, by decide, by decide, by decide, by decide +kernel⟩
theorem w_1023 : (Cond.methodLink "OtherwiseCourtModel" 119 ⟨"OtherwiseCourtModel", "much", "(ILjava/lang/String;)V"⟩) ∈ gTbl := gTbl_mem 1023 (by decide +kernel) (by decide +kernel)
theorem w_1025 : (Cond.instanceMethod ⟨"OtherwiseCourtModel", "much", "(ILjava/lang/String;)V"⟩) ∈ gTbl := gTbl_mem 1025 (by decide +kernel) (by decide +kernel)
theorem w_25 : (Cond.selects "OtherwiseCourtModel" ⟨"OtherwiseCourtModel", "much", "(ILjava/lang/String;)V"⟩ ⟨"OtherwiseCourtModel", "much", "(ILjava/lang/String;)V"⟩) ∈ gTbl := gTbl_mem 25 (by decide +kernel) (by decide +kernel)
theorem w_1026 : (Cond.code ⟨"OtherwiseCourtModel", "much", "(ILjava/lang/String;)V"⟩ prog_10_method_17_code 4 none) ∈ gTbl := gTbl_mem 1026 (by decide +kernel) (by decide +kernel)
theorem vl_X8_119 : jVL RX8 119 mX8_much 2 := ⟨List.forall_mem_cons.mpr ⟨w_1023, List.forall_mem_cons.mpr ⟨w_1025, List.forall_mem_cons.mpr ⟨w_25, List.forall_mem_cons.mpr ⟨w_71, List.forall_mem_cons.mpr ⟨w_1026, fun _ h => absurd h List.not_mem_nil⟩⟩⟩⟩⟩, by decide, by decide, by decide, by decide +kernel⟩
theorem pl_X8_84 : jPL RX8 84 8 4 false := ⟨_, rfl, by decide, w_913, by decide, by decide⟩
theorem pl_X8_60 : jPL RX8 60 8 6 false := ⟨_, rfl, by decide, w_915, by decide, by decide⟩
theorem w_1014 : (Cond.methodLink "OtherwiseCourtModel" 127 ⟨"OtherwiseCourtModel", "clauseHere", "()V"⟩) ∈ gTbl := gTbl_mem 1014 (by decide +kernel) (by decide +kernel)
theorem w_1016 : (Cond.instanceMethod ⟨"OtherwiseCourtModel", "clauseHere", "()V"⟩) ∈ gTbl := gTbl_mem 1016 (by decide +kernel) (by decide +kernel)
theorem w_23 : (Cond.selects "OtherwiseCourtModel" ⟨"OtherwiseCourtModel", "clauseHere", "()V"⟩ ⟨"OtherwiseCourtModel", "clauseHere", "()V"⟩) ∈ gTbl := gTbl_mem 23 (by decide +kernel) (by decide +kernel)
theorem w_1017 : (Cond.code ⟨"OtherwiseCourtModel", "clauseHere", "()V"⟩ prog_10_method_18_code 2 none) ∈ gTbl := gTbl_mem 1017 (by decide +kernel) (by decide +kernel)
theorem vl_X8_127 : jVL RX8 127 mX8_clauseHere 0 := ⟨List.forall_mem_cons.mpr ⟨w_1014, List.forall_mem_cons.mpr ⟨w_1016, List.forall_mem_cons.mpr ⟨w_23, List.forall_mem_cons.mpr ⟨w_71, List.forall_mem_cons.mpr ⟨w_1017, fun _ h => absurd h List.not_mem_nil⟩⟩⟩⟩⟩, by decide, by decide, by decide, by decide +kernel⟩
theorem w_1073 : (Cond.methodLink "OtherwiseCourtModel" 130 ⟨"OtherwiseCourtModel", "barNow", "()I"⟩) ∈ gTbl := gTbl_mem 1073 (by decide +kernel) (by decide +kernel)
theorem w_1075 : (Cond.instanceMethod ⟨"OtherwiseCourtModel", "barNow", "()I"⟩) ∈ gTbl := gTbl_mem 1075 (by decide +kernel) (by decide +kernel)
theorem w_34 : (Cond.selects "OtherwiseCourtModel" ⟨"OtherwiseCourtModel", "barNow", "()I"⟩ ⟨"OtherwiseCourtModel", "barNow", "()I"⟩) ∈ gTbl := gTbl_mem 34 (by decide +kernel) (by decide +kernel)
theorem w_1076 : (Cond.code ⟨"OtherwiseCourtModel", "barNow", "()I"⟩ prog_10_method_20_code 1 (some .int)) ∈ gTbl := gTbl_mem 1076 (by decide +kernel) (by decide +kernel)
theorem vl_X8_130 : jVL RX8 130 mX8_barNow 0 := ⟨List.forall_mem_cons.mpr ⟨w_1073, List.forall_mem_cons.mpr ⟨w_1075, List.forall_mem_cons.mpr ⟨w_34, List.forall_mem_cons.mpr ⟨w_71, List.forall_mem_cons.mpr ⟨w_1076, fun _ h => absurd h List.not_mem_nil⟩⟩⟩⟩⟩, by decide, by decide, by decide, by decide +kernel⟩
theorem w_1085 : (Cond.methodLink "OtherwiseCourtModel" 133 ⟨"OtherwiseCourtModel", "isSuit", "(I)Z"⟩) ∈ gTbl := gTbl_mem 1085 (by decide +kernel) (by decide +kernel)
theorem w_1087 : (Cond.instanceMethod ⟨"OtherwiseCourtModel", "isSuit", "(I)Z"⟩) ∈ gTbl := gTbl_mem 1087 (by decide +kernel) (by decide +kernel)
theorem w_35 : (Cond.selects "OtherwiseCourtModel" ⟨"OtherwiseCourtModel", "isSuit", "(I)Z"⟩ ⟨"OtherwiseCourtModel", "isSuit", "(I)Z"⟩) ∈ gTbl := gTbl_mem 35 (by decide +kernel) (by decide +kernel)
theorem w_1088 : (Cond.code ⟨"OtherwiseCourtModel", "isSuit", "(I)Z"⟩ prog_10_method_4_code 2 (some .boolean)) ∈ gTbl := gTbl_mem 1088 (by decide +kernel) (by decide +kernel)
theorem vl_X8_133 : jVL RX8 133 mX8_isSuit 1 := ⟨List.forall_mem_cons.mpr ⟨w_1085, List.forall_mem_cons.mpr ⟨w_1087, List.forall_mem_cons.mpr ⟨w_35, List.forall_mem_cons.mpr ⟨w_71, List.forall_mem_cons.mpr ⟨w_1088, fun _ h => absurd h List.not_mem_nil⟩⟩⟩⟩⟩, by decide, by decide, by decide, by decide +kernel⟩
theorem w_1097 : (Cond.methodLink "OtherwiseCourtModel" 137 ⟨"OtherwiseCourtModel", "isJudge", "(I)Z"⟩) ∈ gTbl := gTbl_mem 1097 (by decide +kernel) (by decide +kernel)
theorem w_1099 : (Cond.instanceMethod ⟨"OtherwiseCourtModel", "isJudge", "(I)Z"⟩) ∈ gTbl := gTbl_mem 1099 (by decide +kernel) (by decide +kernel)
theorem w_36 : (Cond.selects "OtherwiseCourtModel" ⟨"OtherwiseCourtModel", "isJudge", "(I)Z"⟩ ⟨"OtherwiseCourtModel", "isJudge", "(I)Z"⟩) ∈ gTbl := gTbl_mem 36 (by decide +kernel) (by decide +kernel)
theorem w_1100 : (Cond.code ⟨"OtherwiseCourtModel", "isJudge", "(I)Z"⟩ prog_10_method_5_code 2 (some .boolean)) ∈ gTbl := gTbl_mem 1100 (by decide +kernel) (by decide +kernel)
theorem vl_X8_137 : jVL RX8 137 mX8_isJudge 1 := ⟨List.forall_mem_cons.mpr ⟨w_1097, List.forall_mem_cons.mpr ⟨w_1099, List.forall_mem_cons.mpr ⟨w_36, List.forall_mem_cons.mpr ⟨w_71, List.forall_mem_cons.mpr ⟨w_1100, fun _ h => absurd h List.not_mem_nil⟩⟩⟩⟩⟩, by decide, by decide, by decide, by decide +kernel⟩
theorem fl_X8_18 : jFL RX8 18 8 9 := ⟨_, rfl, by decide, w_918⟩
theorem w_920 : (Cond.fieldLink "OtherwiseCourtModel" 140 "OtherwiseCourtModel" "weighing" "I") ∈ gTbl := gTbl_mem 920 (by decide +kernel) (by decide +kernel)
theorem pl_X8_140 : jPL RX8 140 8 11 false := ⟨_, rfl, by decide, w_920, by decide, by decide⟩
theorem w_921 : (Cond.fieldLink "OtherwiseCourtModel" 143 "OtherwiseCourtModel" "clashing" "I") ∈ gTbl := gTbl_mem 921 (by decide +kernel) (by decide +kernel)
theorem pl_X8_143 : jPL RX8 143 8 12 false := ⟨_, rfl, by decide, w_921, by decide, by decide⟩
theorem fl_X8_21 : jFL RX8 21 8 10 := ⟨_, rfl, by decide, w_919⟩
theorem fl_X8_140 : jFL RX8 140 8 11 := ⟨_, rfl, by decide, w_920⟩
theorem fl_X8_143 : jFL RX8 143 8 12 := ⟨_, rfl, by decide, w_921⟩
theorem fl_X8_25 : jFL RX8 25 8 13 := ⟨_, rfl, by decide, w_922⟩
theorem fl_X8_28 : jFL RX8 28 8 14 := ⟨_, rfl, by decide, w_923⟩
theorem w_1105 : (Cond.methodLink "OtherwiseCourtModel" 146 ⟨"OtherwiseCourtModel", "looks", "(II)V"⟩) ∈ gTbl := gTbl_mem 1105 (by decide +kernel) (by decide +kernel)
theorem w_1107 : (Cond.instanceMethod ⟨"OtherwiseCourtModel", "looks", "(II)V"⟩) ∈ gTbl := gTbl_mem 1107 (by decide +kernel) (by decide +kernel)
theorem w_37 : (Cond.selects "OtherwiseCourtModel" ⟨"OtherwiseCourtModel", "looks", "(II)V"⟩ ⟨"OtherwiseCourtModel", "looks", "(II)V"⟩) ∈ gTbl := gTbl_mem 37 (by decide +kernel) (by decide +kernel)
theorem w_1108 : (Cond.code ⟨"OtherwiseCourtModel", "looks", "(II)V"⟩ prog_10_method_27_code 11 none) ∈ gTbl := gTbl_mem 1108 (by decide +kernel) (by decide +kernel)
theorem vl_X8_146 : jVL RX8 146 mX8_looks 2 := ⟨List.forall_mem_cons.mpr ⟨w_1105, List.forall_mem_cons.mpr ⟨w_1107, List.forall_mem_cons.mpr ⟨w_37, List.forall_mem_cons.mpr ⟨w_71, List.forall_mem_cons.mpr ⟨w_1108, fun _ h => absurd h List.not_mem_nil⟩⟩⟩⟩⟩, by decide, by decide, by decide, by decide +kernel⟩
theorem w_924 : (Cond.fieldLink "OtherwiseCourtModel" 150 "OtherwiseCourtModel" "bar" "I") ∈ gTbl := gTbl_mem 924 (by decide +kernel) (by decide +kernel)
theorem pl_X8_150 : jPL RX8 150 8 15 false := ⟨_, rfl, by decide, w_924, by decide, by decide⟩
theorem w_1113 : (Cond.constant "OtherwiseCourtModel" 153 (-100001 : Int32)) ∈ gTbl := gTbl_mem 1113 (by decide +kernel) (by decide +kernel)
theorem w_1114 : (Cond.methodLink "OtherwiseCourtModel" 154 ⟨"OtherwiseCourtModel", "looksFor", "(I)V"⟩) ∈ gTbl := gTbl_mem 1114 (by decide +kernel) (by decide +kernel)
theorem w_1116 : (Cond.instanceMethod ⟨"OtherwiseCourtModel", "looksFor", "(I)V"⟩) ∈ gTbl := gTbl_mem 1116 (by decide +kernel) (by decide +kernel)
theorem w_38 : (Cond.selects "OtherwiseCourtModel" ⟨"OtherwiseCourtModel", "looksFor", "(I)V"⟩ ⟨"OtherwiseCourtModel", "looksFor", "(I)V"⟩) ∈ gTbl := gTbl_mem 38 (by decide +kernel) (by decide +kernel)
theorem w_1117 : (Cond.code ⟨"OtherwiseCourtModel", "looksFor", "(I)V"⟩ prog_10_method_28_code 4 none) ∈ gTbl := gTbl_mem 1117 (by decide +kernel) (by decide +kernel)
theorem vl_X8_154 : jVL RX8 154 mX8_looksFor 1 := ⟨List.forall_mem_cons.mpr ⟨w_1114, List.forall_mem_cons.mpr ⟨w_1116, List.forall_mem_cons.mpr ⟨w_38, List.forall_mem_cons.mpr ⟨w_71, List.forall_mem_cons.mpr ⟨w_1117, fun _ h => absurd h List.not_mem_nil⟩⟩⟩⟩⟩, by decide, by decide, by decide, by decide +kernel⟩
theorem w_1118 : (Cond.methodLink "OtherwiseCourtModel" 157 ⟨"OtherwiseCourtModel", "scoreOf", "(II)I"⟩) ∈ gTbl := gTbl_mem 1118 (by decide +kernel) (by decide +kernel)
theorem w_1120 : (Cond.instanceMethod ⟨"OtherwiseCourtModel", "scoreOf", "(II)I"⟩) ∈ gTbl := gTbl_mem 1120 (by decide +kernel) (by decide +kernel)
theorem w_39 : (Cond.selects "OtherwiseCourtModel" ⟨"OtherwiseCourtModel", "scoreOf", "(II)I"⟩ ⟨"OtherwiseCourtModel", "scoreOf", "(II)I"⟩) ∈ gTbl := gTbl_mem 39 (by decide +kernel) (by decide +kernel)
theorem w_1121 : (Cond.code ⟨"OtherwiseCourtModel", "scoreOf", "(II)I"⟩ prog_10_method_29_code 3 (some .int)) ∈ gTbl := gTbl_mem 1121 (by decide +kernel) (by decide +kernel)
theorem vl_X8_157 : jVL RX8 157 mX8_scoreOf 2 := ⟨List.forall_mem_cons.mpr ⟨w_1118, List.forall_mem_cons.mpr ⟨w_1120, List.forall_mem_cons.mpr ⟨w_39, List.forall_mem_cons.mpr ⟨w_71, List.forall_mem_cons.mpr ⟨w_1121, fun _ h => absurd h List.not_mem_nil⟩⟩⟩⟩⟩, by decide, by decide, by decide, by decide +kernel⟩
theorem w_927 : (Cond.fieldLink "OtherwiseCourtModel" 161 "OtherwiseCourtModel" "many" "I") ∈ gTbl := gTbl_mem 927 (by decide +kernel) (by decide +kernel)
theorem pl_X8_161 : jPL RX8 161 8 18 false := ⟨_, rfl, by decide, w_927, by decide, by decide⟩
theorem w_1130 : (Cond.methodLink "OtherwiseCourtModel" 164 ⟨"OtherwiseCourtModel", "writes", "(IZ)V"⟩) ∈ gTbl := gTbl_mem 1130 (by decide +kernel) (by decide +kernel)
theorem w_1132 : (Cond.instanceMethod ⟨"OtherwiseCourtModel", "writes", "(IZ)V"⟩) ∈ gTbl := gTbl_mem 1132 (by decide +kernel) (by decide +kernel)
theorem w_41 : (Cond.selects "OtherwiseCourtModel" ⟨"OtherwiseCourtModel", "writes", "(IZ)V"⟩ ⟨"OtherwiseCourtModel", "writes", "(IZ)V"⟩) ∈ gTbl := gTbl_mem 41 (by decide +kernel) (by decide +kernel)
theorem w_1133 : (Cond.code ⟨"OtherwiseCourtModel", "writes", "(IZ)V"⟩ prog_10_method_33_code 3 none) ∈ gTbl := gTbl_mem 1133 (by decide +kernel) (by decide +kernel)
theorem vl_X8_164 : jVL RX8 164 mX8_writes 2 := ⟨List.forall_mem_cons.mpr ⟨w_1130, List.forall_mem_cons.mpr ⟨w_1132, List.forall_mem_cons.mpr ⟨w_41, List.forall_mem_cons.mpr ⟨w_71, List.forall_mem_cons.mpr ⟨w_1133, fun _ h => absurd h List.not_mem_nil⟩⟩⟩⟩⟩, by decide, by decide, by decide, by decide +kernel⟩
theorem fl_X8_31 : jFL RX8 31 8 16 := ⟨_, rfl, by decide, w_925⟩
theorem fl_X8_161 : jFL RX8 161 8 18 := ⟨_, rfl, by decide, w_927⟩
theorem fl_X8_34 : jFL RX8 34 8 17 := ⟨_, rfl, by decide, w_926⟩
theorem fl_X8_150 : jFL RX8 150 8 15 := ⟨_, rfl, by decide, w_924⟩
theorem w_1145 : (Cond.methodLink "OtherwiseCourtModel" 168 ⟨"OtherwiseCourtModel", "isLike", "(II)Z"⟩) ∈ gTbl := gTbl_mem 1145 (by decide +kernel) (by decide +kernel)
theorem w_1147 : (Cond.instanceMethod ⟨"OtherwiseCourtModel", "isLike", "(II)Z"⟩) ∈ gTbl := gTbl_mem 1147 (by decide +kernel) (by decide +kernel)
theorem w_44 : (Cond.selects "OtherwiseCourtModel" ⟨"OtherwiseCourtModel", "isLike", "(II)Z"⟩ ⟨"OtherwiseCourtModel", "isLike", "(II)Z"⟩) ∈ gTbl := gTbl_mem 44 (by decide +kernel) (by decide +kernel)
theorem w_1148 : (Cond.code ⟨"OtherwiseCourtModel", "isLike", "(II)Z"⟩ prog_10_method_34_code 3 (some .boolean)) ∈ gTbl := gTbl_mem 1148 (by decide +kernel) (by decide +kernel)
theorem vl_X8_168 : jVL RX8 168 mX8_isLike 2 := ⟨List.forall_mem_cons.mpr ⟨w_1145, List.forall_mem_cons.mpr ⟨w_1147, List.forall_mem_cons.mpr ⟨w_44, List.forall_mem_cons.mpr ⟨w_71, List.forall_mem_cons.mpr ⟨w_1148, fun _ h => absurd h List.not_mem_nil⟩⟩⟩⟩⟩, by decide, by decide, by decide, by decide +kernel⟩
theorem w_929 : (Cond.fieldLink "OtherwiseCourtModel" 172 "OtherwiseCourtModel" "likes" "I") ∈ gTbl := gTbl_mem 929 (by decide +kernel) (by decide +kernel)
theorem fl_X8_172 : jFL RX8 172 8 20 := ⟨_, rfl, by decide, w_929⟩
theorem w_1153 : (Cond.methodLink "OtherwiseCourtModel" 175 ⟨"OtherwiseCourtModel", "likeOne", "(II)I"⟩) ∈ gTbl := gTbl_mem 1153 (by decide +kernel) (by decide +kernel)
theorem w_1155 : (Cond.instanceMethod ⟨"OtherwiseCourtModel", "likeOne", "(II)I"⟩) ∈ gTbl := gTbl_mem 1155 (by decide +kernel) (by decide +kernel)
theorem w_46 : (Cond.selects "OtherwiseCourtModel" ⟨"OtherwiseCourtModel", "likeOne", "(II)I"⟩ ⟨"OtherwiseCourtModel", "likeOne", "(II)I"⟩) ∈ gTbl := gTbl_mem 46 (by decide +kernel) (by decide +kernel)
theorem w_1156 : (Cond.code ⟨"OtherwiseCourtModel", "likeOne", "(II)I"⟩ prog_10_method_35_code 6 (some .int)) ∈ gTbl := gTbl_mem 1156 (by decide +kernel) (by decide +kernel)
theorem vl_X8_175 : jVL RX8 175 mX8_likeOne 2 := ⟨List.forall_mem_cons.mpr ⟨w_1153, List.forall_mem_cons.mpr ⟨w_1155, List.forall_mem_cons.mpr ⟨w_46, List.forall_mem_cons.mpr ⟨w_71, List.forall_mem_cons.mpr ⟨w_1156, fun _ h => absurd h List.not_mem_nil⟩⟩⟩⟩⟩, by decide, by decide, by decide, by decide +kernel⟩
theorem w_1142 : (Cond.methodLink "OtherwiseCourtModel" 178 ⟨"OtherwiseCourtModel", "count1", "(I)I"⟩) ∈ gTbl := gTbl_mem 1142 (by decide +kernel) (by decide +kernel)
theorem w_1143 : (Cond.static ⟨"OtherwiseCourtModel", "count1", "(I)I"⟩) ∈ gTbl := gTbl_mem 1143 (by decide +kernel) (by decide +kernel)
theorem w_1144 : (Cond.code ⟨"OtherwiseCourtModel", "count1", "(I)I"⟩ prog_10_method_6_code 3 (some .int)) ∈ gTbl := gTbl_mem 1144 (by decide +kernel) (by decide +kernel)
theorem sl_X8_178 : jSL RX8 178 mX8_count1 1 := ⟨List.forall_mem_cons.mpr ⟨w_1142, List.forall_mem_cons.mpr ⟨w_1143, List.forall_mem_cons.mpr ⟨w_71, List.forall_mem_cons.mpr ⟨w_1144, fun _ h => absurd h List.not_mem_nil⟩⟩⟩⟩, by decide, by decide, by decide, by decide +kernel⟩
theorem pl_X8_172 : jPL RX8 172 8 20 false := ⟨_, rfl, by decide, w_929, by decide, by decide⟩
theorem w_928 : (Cond.fieldLink "OtherwiseCourtModel" 182 "OtherwiseCourtModel" "byWhich" "I") ∈ gTbl := gTbl_mem 928 (by decide +kernel) (by decide +kernel)
theorem pl_X8_182 : jPL RX8 182 8 19 false := ⟨_, rfl, by decide, w_928, by decide, by decide⟩
theorem w_1149 : (Cond.methodLink "OtherwiseCourtModel" 185 ⟨"OtherwiseCourtModel", "decidesMost", "(II)I"⟩) ∈ gTbl := gTbl_mem 1149 (by decide +kernel) (by decide +kernel)
theorem w_1151 : (Cond.instanceMethod ⟨"OtherwiseCourtModel", "decidesMost", "(II)I"⟩) ∈ gTbl := gTbl_mem 1151 (by decide +kernel) (by decide +kernel)
theorem w_45 : (Cond.selects "OtherwiseCourtModel" ⟨"OtherwiseCourtModel", "decidesMost", "(II)I"⟩ ⟨"OtherwiseCourtModel", "decidesMost", "(II)I"⟩) ∈ gTbl := gTbl_mem 45 (by decide +kernel) (by decide +kernel)
theorem w_1152 : (Cond.code ⟨"OtherwiseCourtModel", "decidesMost", "(II)I"⟩ prog_10_method_36_code 3 (some .int)) ∈ gTbl := gTbl_mem 1152 (by decide +kernel) (by decide +kernel)
theorem vl_X8_185 : jVL RX8 185 mX8_decidesMost 2 := ⟨List.forall_mem_cons.mpr ⟨w_1149, List.forall_mem_cons.mpr ⟨w_1151, List.forall_mem_cons.mpr ⟨w_45, List.forall_mem_cons.mpr ⟨w_71, List.forall_mem_cons.mpr ⟨w_1152, fun _ h => absurd h List.not_mem_nil⟩⟩⟩⟩⟩, by decide, by decide, by decide, by decide +kernel⟩
theorem fl_X8_182 : jFL RX8 182 8 19 := ⟨_, rfl, by decide, w_928⟩
theorem w_1138 : (Cond.methodLink "OtherwiseCourtModel" 188 ⟨"OtherwiseCourtModel", "decidesBy", "(II)I"⟩) ∈ gTbl := gTbl_mem 1138 (by decide +kernel) (by decide +kernel)
theorem w_1140 : (Cond.instanceMethod ⟨"OtherwiseCourtModel", "decidesBy", "(II)I"⟩) ∈ gTbl := gTbl_mem 1140 (by decide +kernel) (by decide +kernel)
theorem w_43 : (Cond.selects "OtherwiseCourtModel" ⟨"OtherwiseCourtModel", "decidesBy", "(II)I"⟩ ⟨"OtherwiseCourtModel", "decidesBy", "(II)I"⟩) ∈ gTbl := gTbl_mem 43 (by decide +kernel) (by decide +kernel)
theorem w_1141 : (Cond.code ⟨"OtherwiseCourtModel", "decidesBy", "(II)I"⟩ prog_10_method_37_code 7 (some .int)) ∈ gTbl := gTbl_mem 1141 (by decide +kernel) (by decide +kernel)
theorem vl_X8_188 : jVL RX8 188 mX8_decidesBy 2 := ⟨List.forall_mem_cons.mpr ⟨w_1138, List.forall_mem_cons.mpr ⟨w_1140, List.forall_mem_cons.mpr ⟨w_43, List.forall_mem_cons.mpr ⟨w_71, List.forall_mem_cons.mpr ⟨w_1141, fun _ h => absurd h List.not_mem_nil⟩⟩⟩⟩⟩, by decide, by decide, by decide, by decide +kernel⟩
theorem w_1134 : (Cond.methodLink "OtherwiseCourtModel" 191 ⟨"OtherwiseCourtModel", "isForIt", "(II)Z"⟩) ∈ gTbl := gTbl_mem 1134 (by decide +kernel) (by decide +kernel)
theorem w_1136 : (Cond.instanceMethod ⟨"OtherwiseCourtModel", "isForIt", "(II)Z"⟩) ∈ gTbl := gTbl_mem 1136 (by decide +kernel) (by decide +kernel)
theorem w_42 : (Cond.selects "OtherwiseCourtModel" ⟨"OtherwiseCourtModel", "isForIt", "(II)Z"⟩ ⟨"OtherwiseCourtModel", "isForIt", "(II)Z"⟩) ∈ gTbl := gTbl_mem 42 (by decide +kernel) (by decide +kernel)
theorem w_1137 : (Cond.code ⟨"OtherwiseCourtModel", "isForIt", "(II)Z"⟩ prog_10_method_38_code 4 (some .boolean)) ∈ gTbl := gTbl_mem 1137 (by decide +kernel) (by decide +kernel)
theorem vl_X8_191 : jVL RX8 191 mX8_isForIt 2 := ⟨List.forall_mem_cons.mpr ⟨w_1134, List.forall_mem_cons.mpr ⟨w_1136, List.forall_mem_cons.mpr ⟨w_42, List.forall_mem_cons.mpr ⟨w_71, List.forall_mem_cons.mpr ⟨w_1137, fun _ h => absurd h List.not_mem_nil⟩⟩⟩⟩⟩, by decide, by decide, by decide, by decide +kernel⟩
theorem w_1126 : (Cond.methodLink "OtherwiseCourtModel" 194 ⟨"OtherwiseCourtModel", "opens", "()V"⟩) ∈ gTbl := gTbl_mem 1126 (by decide +kernel) (by decide +kernel)
theorem w_1128 : (Cond.instanceMethod ⟨"OtherwiseCourtModel", "opens", "()V"⟩) ∈ gTbl := gTbl_mem 1128 (by decide +kernel) (by decide +kernel)
theorem w_40 : (Cond.selects "OtherwiseCourtModel" ⟨"OtherwiseCourtModel", "opens", "()V"⟩ ⟨"OtherwiseCourtModel", "opens", "()V"⟩) ∈ gTbl := gTbl_mem 40 (by decide +kernel) (by decide +kernel)
theorem w_1129 : (Cond.code ⟨"OtherwiseCourtModel", "opens", "()V"⟩ prog_10_method_32_code 2 none) ∈ gTbl := gTbl_mem 1129 (by decide +kernel) (by decide +kernel)
theorem vl_X8_194 : jVL RX8 194 mX8_opens 0 := ⟨List.forall_mem_cons.mpr ⟨w_1126, List.forall_mem_cons.mpr ⟨w_1128, List.forall_mem_cons.mpr ⟨w_40, List.forall_mem_cons.mpr ⟨w_71, List.forall_mem_cons.mpr ⟨w_1129, fun _ h => absurd h List.not_mem_nil⟩⟩⟩⟩⟩, by decide, by decide, by decide, by decide +kernel⟩
theorem w_1161 : (Cond.methodLink "OtherwiseCourtModel" 197 ⟨"OtherwiseCourtModel", "enters", "(IZ)I"⟩) ∈ gTbl := gTbl_mem 1161 (by decide +kernel) (by decide +kernel)
theorem w_1163 : (Cond.instanceMethod ⟨"OtherwiseCourtModel", "enters", "(IZ)I"⟩) ∈ gTbl := gTbl_mem 1163 (by decide +kernel) (by decide +kernel)
theorem w_47 : (Cond.selects "OtherwiseCourtModel" ⟨"OtherwiseCourtModel", "enters", "(IZ)I"⟩ ⟨"OtherwiseCourtModel", "enters", "(IZ)I"⟩) ∈ gTbl := gTbl_mem 47 (by decide +kernel) (by decide +kernel)
theorem w_1164 : (Cond.code ⟨"OtherwiseCourtModel", "enters", "(IZ)I"⟩ prog_10_method_41_code 3 (some .int)) ∈ gTbl := gTbl_mem 1164 (by decide +kernel) (by decide +kernel)
theorem vl_X8_197 : jVL RX8 197 mX8_enters 2 := ⟨List.forall_mem_cons.mpr ⟨w_1161, List.forall_mem_cons.mpr ⟨w_1163, List.forall_mem_cons.mpr ⟨w_47, List.forall_mem_cons.mpr ⟨w_71, List.forall_mem_cons.mpr ⟨w_1164, fun _ h => absurd h List.not_mem_nil⟩⟩⟩⟩⟩, by decide, by decide, by decide, by decide +kernel⟩
theorem w_932 : (Cond.fieldLink "OtherwiseCourtModel" 201 "OtherwiseCourtModel" "bestSum" "I") ∈ gTbl := gTbl_mem 932 (by decide +kernel) (by decide +kernel)
theorem fl_X8_201 : jFL RX8 201 8 23 := ⟨_, rfl, by decide, w_932⟩
theorem pl_X8_201 : jPL RX8 201 8 23 false := ⟨_, rfl, by decide, w_932, by decide, by decide⟩
theorem fl_X8_40 : jFL RX8 40 8 22 := ⟨_, rfl, by decide, w_931⟩
theorem fl_X8_37 : jFL RX8 37 8 21 := ⟨_, rfl, by decide, w_930⟩
theorem w_1186 : (Cond.methodLink "OtherwiseCourtModel" 204 ⟨"OtherwiseCourtModel", "hears", "(II)Z"⟩) ∈ gTbl := gTbl_mem 1186 (by decide +kernel) (by decide +kernel)
theorem w_1188 : (Cond.instanceMethod ⟨"OtherwiseCourtModel", "hears", "(II)Z"⟩) ∈ gTbl := gTbl_mem 1188 (by decide +kernel) (by decide +kernel)
theorem w_50 : (Cond.selects "OtherwiseCourtModel" ⟨"OtherwiseCourtModel", "hears", "(II)Z"⟩ ⟨"OtherwiseCourtModel", "hears", "(II)Z"⟩) ∈ gTbl := gTbl_mem 50 (by decide +kernel) (by decide +kernel)
theorem w_1189 : (Cond.code ⟨"OtherwiseCourtModel", "hears", "(II)Z"⟩ prog_10_method_39_code 4 (some .boolean)) ∈ gTbl := gTbl_mem 1189 (by decide +kernel) (by decide +kernel)
theorem vl_X8_204 : jVL RX8 204 mX8_hears 2 := ⟨List.forall_mem_cons.mpr ⟨w_1186, List.forall_mem_cons.mpr ⟨w_1188, List.forall_mem_cons.mpr ⟨w_50, List.forall_mem_cons.mpr ⟨w_71, List.forall_mem_cons.mpr ⟨w_1189, fun _ h => absurd h List.not_mem_nil⟩⟩⟩⟩⟩, by decide, by decide, by decide, by decide +kernel⟩
theorem w_1182 : (Cond.methodLink "OtherwiseCourtModel" 207 ⟨"OtherwiseCourtModel", "ordersFrom", "(IIII)V"⟩) ∈ gTbl := gTbl_mem 1182 (by decide +kernel) (by decide +kernel)
theorem w_1184 : (Cond.instanceMethod ⟨"OtherwiseCourtModel", "ordersFrom", "(IIII)V"⟩) ∈ gTbl := gTbl_mem 1184 (by decide +kernel) (by decide +kernel)
theorem w_49 : (Cond.selects "OtherwiseCourtModel" ⟨"OtherwiseCourtModel", "ordersFrom", "(IIII)V"⟩ ⟨"OtherwiseCourtModel", "ordersFrom", "(IIII)V"⟩) ∈ gTbl := gTbl_mem 49 (by decide +kernel) (by decide +kernel)
theorem w_1185 : (Cond.code ⟨"OtherwiseCourtModel", "ordersFrom", "(IIII)V"⟩ prog_10_method_45_code 7 none) ∈ gTbl := gTbl_mem 1185 (by decide +kernel) (by decide +kernel)
theorem vl_X8_207 : jVL RX8 207 mX8_ordersFrom 4 := ⟨List.forall_mem_cons.mpr ⟨w_1182, List.forall_mem_cons.mpr ⟨w_1184, List.forall_mem_cons.mpr ⟨w_49, List.forall_mem_cons.mpr ⟨w_71, List.forall_mem_cons.mpr ⟨w_1185, fun _ h => absurd h List.not_mem_nil⟩⟩⟩⟩⟩, by decide, by decide, by decide, by decide +kernel⟩
theorem w_1177 : (Cond.methodLink "OtherwiseCourtModel" 211 ⟨"OtherwiseCourtModel", "isSet", "(I)Z"⟩) ∈ gTbl := gTbl_mem 1177 (by decide +kernel) (by decide +kernel)
theorem w_1179 : (Cond.instanceMethod ⟨"OtherwiseCourtModel", "isSet", "(I)Z"⟩) ∈ gTbl := gTbl_mem 1179 (by decide +kernel) (by decide +kernel)
theorem w_48 : (Cond.selects "OtherwiseCourtModel" ⟨"OtherwiseCourtModel", "isSet", "(I)Z"⟩ ⟨"OtherwiseCourtModel", "isSet", "(I)Z"⟩) ∈ gTbl := gTbl_mem 48 (by decide +kernel) (by decide +kernel)
theorem w_1180 : (Cond.code ⟨"OtherwiseCourtModel", "isSet", "(I)Z"⟩ prog_10_method_46_code 2 (some .boolean)) ∈ gTbl := gTbl_mem 1180 (by decide +kernel) (by decide +kernel)
theorem vl_X8_211 : jVL RX8 211 mX8_isSet 1 := ⟨List.forall_mem_cons.mpr ⟨w_1177, List.forall_mem_cons.mpr ⟨w_1179, List.forall_mem_cons.mpr ⟨w_48, List.forall_mem_cons.mpr ⟨w_71, List.forall_mem_cons.mpr ⟨w_1180, fun _ h => absurd h List.not_mem_nil⟩⟩⟩⟩⟩, by decide, by decide, by decide, by decide +kernel⟩
theorem w_1181 : (Cond.constant "OtherwiseCourtModel" 214 (-100002 : Int32)) ∈ gTbl := gTbl_mem 1181 (by decide +kernel) (by decide +kernel)
theorem fl_X8_43 : jFL RX8 43 8 24 := ⟨_, rfl, by decide, w_933⟩
theorem w_1194 : (Cond.methodLink "OtherwiseCourtModel" 215 ⟨"OtherwiseCourtModel", "looksForShams", "(II)I"⟩) ∈ gTbl := gTbl_mem 1194 (by decide +kernel) (by decide +kernel)
theorem w_1196 : (Cond.instanceMethod ⟨"OtherwiseCourtModel", "looksForShams", "(II)I"⟩) ∈ gTbl := gTbl_mem 1196 (by decide +kernel) (by decide +kernel)
theorem w_51 : (Cond.selects "OtherwiseCourtModel" ⟨"OtherwiseCourtModel", "looksForShams", "(II)I"⟩ ⟨"OtherwiseCourtModel", "looksForShams", "(II)I"⟩) ∈ gTbl := gTbl_mem 51 (by decide +kernel) (by decide +kernel)
theorem w_1197 : (Cond.code ⟨"OtherwiseCourtModel", "looksForShams", "(II)I"⟩ prog_10_method_48_code 6 (some .int)) ∈ gTbl := gTbl_mem 1197 (by decide +kernel) (by decide +kernel)
theorem vl_X8_215 : jVL RX8 215 mX8_looksForShams 2 := ⟨List.forall_mem_cons.mpr ⟨w_1194, List.forall_mem_cons.mpr ⟨w_1196, List.forall_mem_cons.mpr ⟨w_51, List.forall_mem_cons.mpr ⟨w_71, List.forall_mem_cons.mpr ⟨w_1197, fun _ h => absurd h List.not_mem_nil⟩⟩⟩⟩⟩, by decide, by decide, by decide, by decide +kernel⟩
theorem w_1206 : (Cond.methodLink "OtherwiseCourtModel" 218 ⟨"OtherwiseCourtModel", "rivals", "(IIIZZ)I"⟩) ∈ gTbl := gTbl_mem 1206 (by decide +kernel) (by decide +kernel)
theorem w_1208 : (Cond.instanceMethod ⟨"OtherwiseCourtModel", "rivals", "(IIIZZ)I"⟩) ∈ gTbl := gTbl_mem 1208 (by decide +kernel) (by decide +kernel)
theorem w_52 : (Cond.selects "OtherwiseCourtModel" ⟨"OtherwiseCourtModel", "rivals", "(IIIZZ)I"⟩ ⟨"OtherwiseCourtModel", "rivals", "(IIIZZ)I"⟩) ∈ gTbl := gTbl_mem 52 (by decide +kernel) (by decide +kernel)
theorem w_1209 : (Cond.code ⟨"OtherwiseCourtModel", "rivals", "(IIIZZ)I"⟩ prog_10_method_51_code 13 (some .int)) ∈ gTbl := gTbl_mem 1209 (by decide +kernel) (by decide +kernel)
theorem vl_X8_218 : jVL RX8 218 mX8_rivals 5 := ⟨List.forall_mem_cons.mpr ⟨w_1206, List.forall_mem_cons.mpr ⟨w_1208, List.forall_mem_cons.mpr ⟨w_52, List.forall_mem_cons.mpr ⟨w_71, List.forall_mem_cons.mpr ⟨w_1209, fun _ h => absurd h List.not_mem_nil⟩⟩⟩⟩⟩, by decide, by decide, by decide, by decide +kernel⟩
theorem w_934 : (Cond.fieldLink "OtherwiseCourtModel" 222 "OtherwiseCourtModel" "firstOfOurs" "I") ∈ gTbl := gTbl_mem 934 (by decide +kernel) (by decide +kernel)
theorem fl_X8_222 : jFL RX8 222 8 25 := ⟨_, rfl, by decide, w_934⟩
theorem pl_X8_222 : jPL RX8 222 8 25 false := ⟨_, rfl, by decide, w_934, by decide, by decide⟩
theorem w_1222 : (Cond.methodLink "OtherwiseCourtModel" 225 ⟨"OtherwiseCourtModel", "firstUnlawful", "(II)I"⟩) ∈ gTbl := gTbl_mem 1222 (by decide +kernel) (by decide +kernel)
theorem w_1224 : (Cond.instanceMethod ⟨"OtherwiseCourtModel", "firstUnlawful", "(II)I"⟩) ∈ gTbl := gTbl_mem 1224 (by decide +kernel) (by decide +kernel)
theorem w_53 : (Cond.selects "OtherwiseCourtModel" ⟨"OtherwiseCourtModel", "firstUnlawful", "(II)I"⟩ ⟨"OtherwiseCourtModel", "firstUnlawful", "(II)I"⟩) ∈ gTbl := gTbl_mem 53 (by decide +kernel) (by decide +kernel)
theorem w_1225 : (Cond.code ⟨"OtherwiseCourtModel", "firstUnlawful", "(II)I"⟩ prog_10_method_55_code 6 (some .int)) ∈ gTbl := gTbl_mem 1225 (by decide +kernel) (by decide +kernel)
theorem vl_X8_225 : jVL RX8 225 mX8_firstUnlawful 2 := ⟨List.forall_mem_cons.mpr ⟨w_1222, List.forall_mem_cons.mpr ⟨w_1224, List.forall_mem_cons.mpr ⟨w_53, List.forall_mem_cons.mpr ⟨w_71, List.forall_mem_cons.mpr ⟨w_1225, fun _ h => absurd h List.not_mem_nil⟩⟩⟩⟩⟩, by decide, by decide, by decide, by decide +kernel⟩
theorem w_1243 : (Cond.methodLink "OtherwiseCourtModel" 228 ⟨"OtherwiseCourtModel", "falls", "(IIII)J"⟩) ∈ gTbl := gTbl_mem 1243 (by decide +kernel) (by decide +kernel)
theorem w_1245 : (Cond.instanceMethod ⟨"OtherwiseCourtModel", "falls", "(IIII)J"⟩) ∈ gTbl := gTbl_mem 1245 (by decide +kernel) (by decide +kernel)
theorem w_54 : (Cond.selects "OtherwiseCourtModel" ⟨"OtherwiseCourtModel", "falls", "(IIII)J"⟩ ⟨"OtherwiseCourtModel", "falls", "(IIII)J"⟩) ∈ gTbl := gTbl_mem 54 (by decide +kernel) (by decide +kernel)
theorem w_1246 : (Cond.code ⟨"OtherwiseCourtModel", "falls", "(IIII)J"⟩ prog_10_method_60_code 11 (some .long)) ∈ gTbl := gTbl_mem 1246 (by decide +kernel) (by decide +kernel)
theorem vl_X8_228 : jVL RX8 228 mX8_falls 4 := ⟨List.forall_mem_cons.mpr ⟨w_1243, List.forall_mem_cons.mpr ⟨w_1245, List.forall_mem_cons.mpr ⟨w_54, List.forall_mem_cons.mpr ⟨w_71, List.forall_mem_cons.mpr ⟨w_1246, fun _ h => absurd h List.not_mem_nil⟩⟩⟩⟩⟩, by decide, by decide, by decide, by decide +kernel⟩
theorem w_1242 : (Cond.constantLong "OtherwiseCourtModel" 232 (-9223372036854775808 : Int64)) ∈ gTbl := gTbl_mem 1242 (by decide +kernel) (by decide +kernel)
theorem w_1247 : (Cond.constantLong "OtherwiseCourtModel" 234 (256 : Int64)) ∈ gTbl := gTbl_mem 1247 (by decide +kernel) (by decide +kernel)
theorem w_1248 : (Cond.methodLink "OtherwiseCourtModel" 236 ⟨"OtherwiseCourtModel", "lowest", "(JJI)J"⟩) ∈ gTbl := gTbl_mem 1248 (by decide +kernel) (by decide +kernel)
theorem w_1249 : (Cond.static ⟨"OtherwiseCourtModel", "lowest", "(JJI)J"⟩) ∈ gTbl := gTbl_mem 1249 (by decide +kernel) (by decide +kernel)
theorem w_1250 : (Cond.code ⟨"OtherwiseCourtModel", "lowest", "(JJI)J"⟩ prog_10_method_61_code 11 (some .long)) ∈ gTbl := gTbl_mem 1250 (by decide +kernel) (by decide +kernel)
theorem sl_X8_236 : jSL RX8 236 mX8_lowest 3 := ⟨List.forall_mem_cons.mpr ⟨w_1248, List.forall_mem_cons.mpr ⟨w_1249, List.forall_mem_cons.mpr ⟨w_71, List.forall_mem_cons.mpr ⟨w_1250, fun _ h => absurd h List.not_mem_nil⟩⟩⟩⟩, by decide, by decide, by decide, by decide +kernel⟩
theorem w_936 : (Cond.fieldLink "OtherwiseCourtModel" 240 "OtherwiseCourtModel" "ran" "I") ∈ gTbl := gTbl_mem 936 (by decide +kernel) (by decide +kernel)
theorem fl_X8_240 : jFL RX8 240 8 27 := ⟨_, rfl, by decide, w_936⟩
theorem fl_X8_46 : jFL RX8 46 8 26 := ⟨_, rfl, by decide, w_935⟩
theorem pl_X8_240 : jPL RX8 240 8 27 false := ⟨_, rfl, by decide, w_936, by decide, by decide⟩
theorem w_1266 : (Cond.methodLink "OtherwiseCourtModel" 243 ⟨"OtherwiseCourtModel", "ranBody", "(I)V"⟩) ∈ gTbl := gTbl_mem 1266 (by decide +kernel) (by decide +kernel)
theorem w_1268 : (Cond.instanceMethod ⟨"OtherwiseCourtModel", "ranBody", "(I)V"⟩) ∈ gTbl := gTbl_mem 1268 (by decide +kernel) (by decide +kernel)
theorem w_56 : (Cond.selects "OtherwiseCourtModel" ⟨"OtherwiseCourtModel", "ranBody", "(I)V"⟩ ⟨"OtherwiseCourtModel", "ranBody", "(I)V"⟩) ∈ gTbl := gTbl_mem 56 (by decide +kernel) (by decide +kernel)
theorem w_1269 : (Cond.code ⟨"OtherwiseCourtModel", "ranBody", "(I)V"⟩ prog_10_method_64_code 2 none) ∈ gTbl := gTbl_mem 1269 (by decide +kernel) (by decide +kernel)
theorem vl_X8_243 : jVL RX8 243 mX8_ranBody 1 := ⟨List.forall_mem_cons.mpr ⟨w_1266, List.forall_mem_cons.mpr ⟨w_1268, List.forall_mem_cons.mpr ⟨w_56, List.forall_mem_cons.mpr ⟨w_71, List.forall_mem_cons.mpr ⟨w_1269, fun _ h => absurd h List.not_mem_nil⟩⟩⟩⟩⟩, by decide, by decide, by decide, by decide +kernel⟩
theorem w_938 : (Cond.fieldLink "OtherwiseCourtModel" 246 "OtherwiseCourtModel" "number" "I") ∈ gTbl := gTbl_mem 938 (by decide +kernel) (by decide +kernel)
theorem fl_X8_246 : jFL RX8 246 8 29 := ⟨_, rfl, by decide, w_938⟩
theorem w_937 : (Cond.fieldLink "OtherwiseCourtModel" 249 "OtherwiseCourtModel" "kind" "I") ∈ gTbl := gTbl_mem 937 (by decide +kernel) (by decide +kernel)
theorem fl_X8_249 : jFL RX8 249 8 28 := ⟨_, rfl, by decide, w_937⟩
theorem w_1263 : (Cond.methodLink "OtherwiseCourtModel" 252 ⟨"OtherwiseCourtModel", "isUnder", "(II)Z"⟩) ∈ gTbl := gTbl_mem 1263 (by decide +kernel) (by decide +kernel)
theorem w_1264 : (Cond.static ⟨"OtherwiseCourtModel", "isUnder", "(II)Z"⟩) ∈ gTbl := gTbl_mem 1264 (by decide +kernel) (by decide +kernel)
theorem w_1265 : (Cond.code ⟨"OtherwiseCourtModel", "isUnder", "(II)Z"⟩ prog_10_method_65_code 2 (some .boolean)) ∈ gTbl := gTbl_mem 1265 (by decide +kernel) (by decide +kernel)
theorem sl_X8_252 : jSL RX8 252 mX8_isUnder 2 := ⟨List.forall_mem_cons.mpr ⟨w_1263, List.forall_mem_cons.mpr ⟨w_1264, List.forall_mem_cons.mpr ⟨w_71, List.forall_mem_cons.mpr ⟨w_1265, fun _ h => absurd h List.not_mem_nil⟩⟩⟩⟩, by decide, by decide, by decide, by decide +kernel⟩
theorem w_1270 : (Cond.methodLink "OtherwiseCourtModel" 255 ⟨"OtherwiseCourtModel", "plainHears", "(I)I"⟩) ∈ gTbl := gTbl_mem 1270 (by decide +kernel) (by decide +kernel)
theorem w_1272 : (Cond.instanceMethod ⟨"OtherwiseCourtModel", "plainHears", "(I)I"⟩) ∈ gTbl := gTbl_mem 1272 (by decide +kernel) (by decide +kernel)
theorem w_57 : (Cond.selects "OtherwiseCourtModel" ⟨"OtherwiseCourtModel", "plainHears", "(I)I"⟩ ⟨"OtherwiseCourtModel", "plainHears", "(I)I"⟩) ∈ gTbl := gTbl_mem 57 (by decide +kernel) (by decide +kernel)
theorem w_1273 : (Cond.code ⟨"OtherwiseCourtModel", "plainHears", "(I)I"⟩ prog_10_method_66_code 2 (some .int)) ∈ gTbl := gTbl_mem 1273 (by decide +kernel) (by decide +kernel)
theorem vl_X8_255 : jVL RX8 255 mX8_plainHears 1 := ⟨List.forall_mem_cons.mpr ⟨w_1270, List.forall_mem_cons.mpr ⟨w_1272, List.forall_mem_cons.mpr ⟨w_57, List.forall_mem_cons.mpr ⟨w_71, List.forall_mem_cons.mpr ⟨w_1273, fun _ h => absurd h List.not_mem_nil⟩⟩⟩⟩⟩, by decide, by decide, by decide, by decide +kernel⟩
theorem w_1259 : (Cond.methodLink "OtherwiseCourtModel" 258 ⟨"OtherwiseCourtModel", "hearsActs", "(I)I"⟩) ∈ gTbl := gTbl_mem 1259 (by decide +kernel) (by decide +kernel)
theorem w_1261 : (Cond.instanceMethod ⟨"OtherwiseCourtModel", "hearsActs", "(I)I"⟩) ∈ gTbl := gTbl_mem 1261 (by decide +kernel) (by decide +kernel)
theorem w_55 : (Cond.selects "OtherwiseCourtModel" ⟨"OtherwiseCourtModel", "hearsActs", "(I)I"⟩ ⟨"OtherwiseCourtModel", "hearsActs", "(I)I"⟩) ∈ gTbl := gTbl_mem 55 (by decide +kernel) (by decide +kernel)
theorem w_1262 : (Cond.code ⟨"OtherwiseCourtModel", "hearsActs", "(I)I"⟩ prog_10_method_67_code 2 (some .int)) ∈ gTbl := gTbl_mem 1262 (by decide +kernel) (by decide +kernel)
theorem vl_X8_258 : jVL RX8 258 mX8_hearsActs 1 := ⟨List.forall_mem_cons.mpr ⟨w_1259, List.forall_mem_cons.mpr ⟨w_1261, List.forall_mem_cons.mpr ⟨w_55, List.forall_mem_cons.mpr ⟨w_71, List.forall_mem_cons.mpr ⟨w_1262, fun _ h => absurd h List.not_mem_nil⟩⟩⟩⟩⟩, by decide, by decide, by decide, by decide +kernel⟩
theorem w_939 : (Cond.fieldLink "OtherwiseCourtModel" 261 "OtherwiseCourtModel" "tellsV" "I") ∈ gTbl := gTbl_mem 939 (by decide +kernel) (by decide +kernel)
theorem fl_X8_261 : jFL RX8 261 8 30 := ⟨_, rfl, by decide, w_939⟩
theorem w_1278 : (Cond.methodLink "OtherwiseCourtModel" 264 ⟨"OtherwiseCourtModel", "plainWeighs", "(I)I"⟩) ∈ gTbl := gTbl_mem 1278 (by decide +kernel) (by decide +kernel)
theorem w_1280 : (Cond.instanceMethod ⟨"OtherwiseCourtModel", "plainWeighs", "(I)I"⟩) ∈ gTbl := gTbl_mem 1280 (by decide +kernel) (by decide +kernel)
theorem w_59 : (Cond.selects "OtherwiseCourtModel" ⟨"OtherwiseCourtModel", "plainWeighs", "(I)I"⟩ ⟨"OtherwiseCourtModel", "plainWeighs", "(I)I"⟩) ∈ gTbl := gTbl_mem 59 (by decide +kernel) (by decide +kernel)
theorem w_1281 : (Cond.code ⟨"OtherwiseCourtModel", "plainWeighs", "(I)I"⟩ prog_10_method_68_code 2 (some .int)) ∈ gTbl := gTbl_mem 1281 (by decide +kernel) (by decide +kernel)
theorem vl_X8_264 : jVL RX8 264 mX8_plainWeighs 1 := ⟨List.forall_mem_cons.mpr ⟨w_1278, List.forall_mem_cons.mpr ⟨w_1280, List.forall_mem_cons.mpr ⟨w_59, List.forall_mem_cons.mpr ⟨w_71, List.forall_mem_cons.mpr ⟨w_1281, fun _ h => absurd h List.not_mem_nil⟩⟩⟩⟩⟩, by decide, by decide, by decide, by decide +kernel⟩
theorem w_1274 : (Cond.methodLink "OtherwiseCourtModel" 267 ⟨"OtherwiseCourtModel", "weighsActs", "(I)I"⟩) ∈ gTbl := gTbl_mem 1274 (by decide +kernel) (by decide +kernel)
theorem w_1276 : (Cond.instanceMethod ⟨"OtherwiseCourtModel", "weighsActs", "(I)I"⟩) ∈ gTbl := gTbl_mem 1276 (by decide +kernel) (by decide +kernel)
theorem w_58 : (Cond.selects "OtherwiseCourtModel" ⟨"OtherwiseCourtModel", "weighsActs", "(I)I"⟩ ⟨"OtherwiseCourtModel", "weighsActs", "(I)I"⟩) ∈ gTbl := gTbl_mem 58 (by decide +kernel) (by decide +kernel)
theorem w_1277 : (Cond.code ⟨"OtherwiseCourtModel", "weighsActs", "(I)I"⟩ prog_10_method_69_code 2 (some .int)) ∈ gTbl := gTbl_mem 1277 (by decide +kernel) (by decide +kernel)
theorem vl_X8_267 : jVL RX8 267 mX8_weighsActs 1 := ⟨List.forall_mem_cons.mpr ⟨w_1274, List.forall_mem_cons.mpr ⟨w_1276, List.forall_mem_cons.mpr ⟨w_58, List.forall_mem_cons.mpr ⟨w_71, List.forall_mem_cons.mpr ⟨w_1277, fun _ h => absurd h List.not_mem_nil⟩⟩⟩⟩⟩, by decide, by decide, by decide, by decide +kernel⟩
theorem w_1286 : (Cond.methodLink "OtherwiseCourtModel" 270 ⟨"OtherwiseCourtModel", "plainSays", "(I)I"⟩) ∈ gTbl := gTbl_mem 1286 (by decide +kernel) (by decide +kernel)
theorem w_1288 : (Cond.instanceMethod ⟨"OtherwiseCourtModel", "plainSays", "(I)I"⟩) ∈ gTbl := gTbl_mem 1288 (by decide +kernel) (by decide +kernel)
theorem w_61 : (Cond.selects "OtherwiseCourtModel" ⟨"OtherwiseCourtModel", "plainSays", "(I)I"⟩ ⟨"OtherwiseCourtModel", "plainSays", "(I)I"⟩) ∈ gTbl := gTbl_mem 61 (by decide +kernel) (by decide +kernel)
theorem w_1289 : (Cond.code ⟨"OtherwiseCourtModel", "plainSays", "(I)I"⟩ prog_10_method_70_code 2 (some .int)) ∈ gTbl := gTbl_mem 1289 (by decide +kernel) (by decide +kernel)
theorem vl_X8_270 : jVL RX8 270 mX8_plainSays 1 := ⟨List.forall_mem_cons.mpr ⟨w_1286, List.forall_mem_cons.mpr ⟨w_1288, List.forall_mem_cons.mpr ⟨w_61, List.forall_mem_cons.mpr ⟨w_71, List.forall_mem_cons.mpr ⟨w_1289, fun _ h => absurd h List.not_mem_nil⟩⟩⟩⟩⟩, by decide, by decide, by decide, by decide +kernel⟩
theorem pl_X8_249 : jPL RX8 249 8 28 false := ⟨_, rfl, by decide, w_937, by decide, by decide⟩
theorem pl_X8_246 : jPL RX8 246 8 29 false := ⟨_, rfl, by decide, w_938, by decide, by decide⟩
theorem pl_X8_261 : jPL RX8 261 8 30 false := ⟨_, rfl, by decide, w_939, by decide, by decide⟩
theorem w_1282 : (Cond.methodLink "OtherwiseCourtModel" 273 ⟨"OtherwiseCourtModel", "saysActs", "(I)I"⟩) ∈ gTbl := gTbl_mem 1282 (by decide +kernel) (by decide +kernel)
theorem w_1284 : (Cond.instanceMethod ⟨"OtherwiseCourtModel", "saysActs", "(I)I"⟩) ∈ gTbl := gTbl_mem 1284 (by decide +kernel) (by decide +kernel)
theorem w_60 : (Cond.selects "OtherwiseCourtModel" ⟨"OtherwiseCourtModel", "saysActs", "(I)I"⟩ ⟨"OtherwiseCourtModel", "saysActs", "(I)I"⟩) ∈ gTbl := gTbl_mem 60 (by decide +kernel) (by decide +kernel)
theorem w_1285 : (Cond.code ⟨"OtherwiseCourtModel", "saysActs", "(I)I"⟩ prog_10_method_71_code 3 (some .int)) ∈ gTbl := gTbl_mem 1285 (by decide +kernel) (by decide +kernel)
theorem vl_X8_273 : jVL RX8 273 mX8_saysActs 1 := ⟨List.forall_mem_cons.mpr ⟨w_1282, List.forall_mem_cons.mpr ⟨w_1284, List.forall_mem_cons.mpr ⟨w_60, List.forall_mem_cons.mpr ⟨w_71, List.forall_mem_cons.mpr ⟨w_1285, fun _ h => absurd h List.not_mem_nil⟩⟩⟩⟩⟩, by decide, by decide, by decide, by decide +kernel⟩
theorem fl_X8_15 : jFL RX8 15 8 2 := ⟨_, rfl, by decide, w_911⟩
theorem w_912 : (Cond.fieldLink "OtherwiseCourtModel" 276 "OtherwiseCourtModel" "hasImage" "Z") ∈ gTbl := gTbl_mem 912 (by decide +kernel) (by decide +kernel)
theorem pl_X8_276 : jPL RX8 276 8 3 true := ⟨_, rfl, by decide, w_912, by decide, by decide⟩
theorem fl_X8_276 : jFL RX8 276 8 3 := ⟨_, rfl, by decide, w_912⟩
theorem w_1310 : (Cond.fieldLink "java/lang/String" 9 "java/lang/String" "value" "[B") ∈ gTbl := gTbl_mem 1310 (by decide +kernel) (by decide +kernel)
theorem w_464 : (Cond.methodLink "java/lang/String" 335 ⟨"java/lang/String", "coder", "()B"⟩) ∈ gTbl := gTbl_mem 464 (by decide +kernel) (by decide +kernel)
theorem w_465 : (Cond.instanceMethod ⟨"java/lang/String", "coder", "()B"⟩) ∈ gTbl := gTbl_mem 465 (by decide +kernel) (by decide +kernel)
theorem w_466 : (Cond.selects "java/lang/String" ⟨"java/lang/String", "coder", "()B"⟩ ⟨"java/lang/String", "coder", "()B"⟩) ∈ gTbl := gTbl_mem 466 (by decide +kernel) (by decide +kernel)
theorem w_467 : (Cond.code ⟨"java/lang/String", "coder", "()B"⟩ prog_13_method_152_code 1 (some .byte)) ∈ gTbl := gTbl_mem 467 (by decide +kernel) (by decide +kernel)
theorem vl_J0_335 : jVL RJ0 335 mJ0_coder_7d493 0 := ⟨List.forall_mem_cons.mpr ⟨w_464, List.forall_mem_cons.mpr ⟨w_465, List.forall_mem_cons.mpr ⟨w_466, List.forall_mem_cons.mpr ⟨w_73, List.forall_mem_cons.mpr ⟨w_467, fun _ h => absurd h List.not_mem_nil⟩⟩⟩⟩⟩, by decide, by decide, by decide, by decide +kernel⟩
theorem w_474 : (Cond.methodLink "java/lang/String" 492 ⟨"java/lang/String", "isLatin1", "()Z"⟩) ∈ gTbl := gTbl_mem 474 (by decide +kernel) (by decide +kernel)
theorem w_475 : (Cond.instanceMethod ⟨"java/lang/String", "isLatin1", "()Z"⟩) ∈ gTbl := gTbl_mem 475 (by decide +kernel) (by decide +kernel)
theorem w_476 : (Cond.selects "java/lang/String" ⟨"java/lang/String", "isLatin1", "()Z"⟩ ⟨"java/lang/String", "isLatin1", "()Z"⟩) ∈ gTbl := gTbl_mem 476 (by decide +kernel) (by decide +kernel)
theorem w_477 : (Cond.code ⟨"java/lang/String", "isLatin1", "()Z"⟩ prog_13_method_154_code 1 (some .boolean)) ∈ gTbl := gTbl_mem 477 (by decide +kernel) (by decide +kernel)
theorem vl_J0_492 : jVL RJ0 492 mJ0_isLatin1_aae02 0 := ⟨List.forall_mem_cons.mpr ⟨w_474, List.forall_mem_cons.mpr ⟨w_475, List.forall_mem_cons.mpr ⟨w_476, List.forall_mem_cons.mpr ⟨w_73, List.forall_mem_cons.mpr ⟨w_477, fun _ h => absurd h List.not_mem_nil⟩⟩⟩⟩⟩, by decide, by decide, by decide, by decide +kernel⟩
theorem w_478 : (Cond.methodLink "java/lang/String" 495 ⟨"java/lang/StringLatin1", "charAt", "([BI)C"⟩) ∈ gTbl := gTbl_mem 478 (by decide +kernel) (by decide +kernel)
theorem w_479 : (Cond.static ⟨"java/lang/StringLatin1", "charAt", "([BI)C"⟩) ∈ gTbl := gTbl_mem 479 (by decide +kernel) (by decide +kernel)
theorem w_74 : (Cond.initialized "java/lang/StringLatin1") ∈ gTbl := gTbl_mem 74 (by decide +kernel) (by decide +kernel)
theorem w_480 : (Cond.code ⟨"java/lang/StringLatin1", "charAt", "([BI)C"⟩ prog_14_method_2_code 2 (some .char)) ∈ gTbl := gTbl_mem 480 (by decide +kernel) (by decide +kernel)
theorem sl_J0_495 : jSL RJ0 495 mJ1_charAt_3b067 2 := ⟨List.forall_mem_cons.mpr ⟨w_478, List.forall_mem_cons.mpr ⟨w_479, List.forall_mem_cons.mpr ⟨w_74, List.forall_mem_cons.mpr ⟨w_480, fun _ h => absurd h List.not_mem_nil⟩⟩⟩⟩, by decide, by decide, by decide, by decide +kernel⟩
theorem w_468 : (Cond.fieldLink "java/lang/String" 38 "java/lang/String" "COMPACT_STRINGS" "Z") ∈ gTbl := gTbl_mem 468 (by decide +kernel) (by decide +kernel)
theorem w_1311 : (Cond.fieldLink "java/lang/String" 15 "java/lang/String" "coder" "B") ∈ gTbl := gTbl_mem 1311 (by decide +kernel) (by decide +kernel)
theorem w_484 : (Cond.fieldLink "java/lang/String" 1053 "jdk/internal/util/Preconditions" "SIOOBE_FORMATTER" "Ljava/util/function/BiFunction;") ∈ gTbl := gTbl_mem 484 (by decide +kernel) (by decide +kernel)
theorem w_486 : (Cond.methodLink "java/lang/String" 1059 ⟨"jdk/internal/util/Preconditions", "checkIndex", "(IILjava/util/function/BiFunction;)I"⟩) ∈ gTbl := gTbl_mem 486 (by decide +kernel) (by decide +kernel)
theorem w_487 : (Cond.static ⟨"jdk/internal/util/Preconditions", "checkIndex", "(IILjava/util/function/BiFunction;)I"⟩) ∈ gTbl := gTbl_mem 487 (by decide +kernel) (by decide +kernel)
theorem w_75 : (Cond.initialized "jdk/internal/util/Preconditions") ∈ gTbl := gTbl_mem 75 (by decide +kernel) (by decide +kernel)
theorem w_488 : (Cond.code ⟨"jdk/internal/util/Preconditions", "checkIndex", "(IILjava/util/function/BiFunction;)I"⟩ prog_17_method_11_code 3 (some .int)) ∈ gTbl := gTbl_mem 488 (by decide +kernel) (by decide +kernel)
theorem sl_J0_1059 : jSL RJ0 1059 mJ3_checkIndex_8e157 3 := ⟨List.forall_mem_cons.mpr ⟨w_486, List.forall_mem_cons.mpr ⟨w_487, List.forall_mem_cons.mpr ⟨w_75, List.forall_mem_cons.mpr ⟨w_488, fun _ h => absurd h List.not_mem_nil⟩⟩⟩⟩, by decide, by decide, by decide, by decide +kernel⟩
theorem w_481 : (Cond.methodLink "java/lang/StringLatin1" 9 ⟨"java/lang/String", "checkIndex", "(II)V"⟩) ∈ gTbl := gTbl_mem 481 (by decide +kernel) (by decide +kernel)
theorem w_482 : (Cond.static ⟨"java/lang/String", "checkIndex", "(II)V"⟩) ∈ gTbl := gTbl_mem 482 (by decide +kernel) (by decide +kernel)
theorem w_483 : (Cond.code ⟨"java/lang/String", "checkIndex", "(II)V"⟩ prog_13_method_155_code 2 none) ∈ gTbl := gTbl_mem 483 (by decide +kernel) (by decide +kernel)
theorem sl_J1_9 : jSL RJ1 9 mJ0_checkIndex_df160 2 := ⟨List.forall_mem_cons.mpr ⟨w_481, List.forall_mem_cons.mpr ⟨w_482, List.forall_mem_cons.mpr ⟨w_73, List.forall_mem_cons.mpr ⟨w_483, fun _ h => absurd h List.not_mem_nil⟩⟩⟩⟩, by decide, by decide, by decide, by decide +kernel⟩
theorem w_79 : (Cond.classLink "OtherwiseCourtLaw" 7 "OtherwiseCourt") ∈ gTbl := gTbl_mem 79 (by decide +kernel) (by decide +kernel)
theorem w_82 : (Cond.instanceMethod ⟨"OtherwiseCourt", "<init>", "()V"⟩) ∈ gTbl := gTbl_mem 82 (by decide +kernel) (by decide +kernel)
theorem w_83 : (Cond.code ⟨"OtherwiseCourt", "<init>", "()V"⟩ prog_1_method_1_code 1 none) ∈ gTbl := gTbl_mem 83 (by decide +kernel) (by decide +kernel)
theorem w_81 : (Cond.methodLink "OtherwiseCourtLaw" 9 ⟨"OtherwiseCourt", "<init>", "()V"⟩) ∈ gTbl := gTbl_mem 81 (by decide +kernel) (by decide +kernel)
theorem il_L_9 : jIL RL 9 mX7_init 0 := ⟨List.forall_mem_cons.mpr ⟨w_82, List.forall_mem_cons.mpr ⟨w_63, List.forall_mem_cons.mpr ⟨w_83, fun _ h => absurd h List.not_mem_nil⟩⟩⟩, by decide, by decide, by decide, by decide +kernel, rfl, rfl, Or.inl w_81⟩
theorem w_904 : (Cond.classLink "OtherwiseCourtLaw" 10 "OtherwiseCourtModel") ∈ gTbl := gTbl_mem 904 (by decide +kernel) (by decide +kernel)
theorem w_907 : (Cond.instanceMethod ⟨"OtherwiseCourtModel", "<init>", "()V"⟩) ∈ gTbl := gTbl_mem 907 (by decide +kernel) (by decide +kernel)
theorem w_908 : (Cond.code ⟨"OtherwiseCourtModel", "<init>", "()V"⟩ prog_10_method_1_code 1 none) ∈ gTbl := gTbl_mem 908 (by decide +kernel) (by decide +kernel)
theorem w_906 : (Cond.methodLink "OtherwiseCourtLaw" 12 ⟨"OtherwiseCourtModel", "<init>", "()V"⟩) ∈ gTbl := gTbl_mem 906 (by decide +kernel) (by decide +kernel)
theorem il_L_12 : jIL RL 12 mX8_init 0 := ⟨List.forall_mem_cons.mpr ⟨w_907, List.forall_mem_cons.mpr ⟨w_71, List.forall_mem_cons.mpr ⟨w_908, fun _ h => absurd h List.not_mem_nil⟩⟩⟩, by decide, by decide, by decide, by decide +kernel, rfl, rfl, Or.inl w_906⟩
theorem w_427 : (Cond.methodLink "OtherwiseCourtLaw" 13 ⟨"OtherwiseCourt", "feed", "(I)I"⟩) ∈ gTbl := gTbl_mem 427 (by decide +kernel) (by decide +kernel)
theorem w_428 : (Cond.instanceMethod ⟨"OtherwiseCourt", "feed", "(I)I"⟩) ∈ gTbl := gTbl_mem 428 (by decide +kernel) (by decide +kernel)
theorem w_429 : (Cond.selects "OtherwiseCourt" ⟨"OtherwiseCourt", "feed", "(I)I"⟩ ⟨"OtherwiseCourt", "feed", "(I)I"⟩) ∈ gTbl := gTbl_mem 429 (by decide +kernel) (by decide +kernel)
theorem w_430 : (Cond.code ⟨"OtherwiseCourt", "feed", "(I)I"⟩ prog_1_method_2_code 2 (some .int)) ∈ gTbl := gTbl_mem 430 (by decide +kernel) (by decide +kernel)
theorem vl_L_13 : jVL RL 13 mX7_feed 1 := ⟨List.forall_mem_cons.mpr ⟨w_427, List.forall_mem_cons.mpr ⟨w_428, List.forall_mem_cons.mpr ⟨w_429, List.forall_mem_cons.mpr ⟨w_63, List.forall_mem_cons.mpr ⟨w_430, fun _ h => absurd h List.not_mem_nil⟩⟩⟩⟩⟩, by decide, by decide, by decide, by decide +kernel⟩
theorem w_1003 : (Cond.methodLink "OtherwiseCourtLaw" 17 ⟨"OtherwiseCourtModel", "feed", "(I)I"⟩) ∈ gTbl := gTbl_mem 1003 (by decide +kernel) (by decide +kernel)
theorem w_1004 : (Cond.instanceMethod ⟨"OtherwiseCourtModel", "feed", "(I)I"⟩) ∈ gTbl := gTbl_mem 1004 (by decide +kernel) (by decide +kernel)
theorem w_1005 : (Cond.selects "OtherwiseCourtModel" ⟨"OtherwiseCourtModel", "feed", "(I)I"⟩ ⟨"OtherwiseCourtModel", "feed", "(I)I"⟩) ∈ gTbl := gTbl_mem 1005 (by decide +kernel) (by decide +kernel)
theorem w_1006 : (Cond.code ⟨"OtherwiseCourtModel", "feed", "(I)I"⟩ prog_10_method_7_code 2 (some .int)) ∈ gTbl := gTbl_mem 1006 (by decide +kernel) (by decide +kernel)
theorem vl_L_17 : jVL RL 17 mX8_feed 1 := ⟨List.forall_mem_cons.mpr ⟨w_1003, List.forall_mem_cons.mpr ⟨w_1004, List.forall_mem_cons.mpr ⟨w_1005, List.forall_mem_cons.mpr ⟨w_71, List.forall_mem_cons.mpr ⟨w_1006, fun _ h => absurd h List.not_mem_nil⟩⟩⟩⟩⟩, by decide, by decide, by decide, by decide +kernel⟩
theorem w_431 : (Cond.methodLink "OtherwiseCourtLaw" 18 ⟨"OtherwiseCourt", "court", "()I"⟩) ∈ gTbl := gTbl_mem 431 (by decide +kernel) (by decide +kernel)
theorem w_432 : (Cond.instanceMethod ⟨"OtherwiseCourt", "court", "()I"⟩) ∈ gTbl := gTbl_mem 432 (by decide +kernel) (by decide +kernel)
theorem w_433 : (Cond.selects "OtherwiseCourt" ⟨"OtherwiseCourt", "court", "()I"⟩ ⟨"OtherwiseCourt", "court", "()I"⟩) ∈ gTbl := gTbl_mem 433 (by decide +kernel) (by decide +kernel)
theorem w_434 : (Cond.code ⟨"OtherwiseCourt", "court", "()I"⟩ prog_1_method_3_code 4 (some .int)) ∈ gTbl := gTbl_mem 434 (by decide +kernel) (by decide +kernel)
theorem vl_L_18 : jVL RL 18 mX7_court 0 := ⟨List.forall_mem_cons.mpr ⟨w_431, List.forall_mem_cons.mpr ⟨w_432, List.forall_mem_cons.mpr ⟨w_433, List.forall_mem_cons.mpr ⟨w_63, List.forall_mem_cons.mpr ⟨w_434, fun _ h => absurd h List.not_mem_nil⟩⟩⟩⟩⟩, by decide, by decide, by decide, by decide +kernel⟩
theorem w_1010 : (Cond.methodLink "OtherwiseCourtLaw" 22 ⟨"OtherwiseCourtModel", "court", "()I"⟩) ∈ gTbl := gTbl_mem 1010 (by decide +kernel) (by decide +kernel)
theorem w_1011 : (Cond.instanceMethod ⟨"OtherwiseCourtModel", "court", "()I"⟩) ∈ gTbl := gTbl_mem 1011 (by decide +kernel) (by decide +kernel)
theorem w_1012 : (Cond.selects "OtherwiseCourtModel" ⟨"OtherwiseCourtModel", "court", "()I"⟩ ⟨"OtherwiseCourtModel", "court", "()I"⟩) ∈ gTbl := gTbl_mem 1012 (by decide +kernel) (by decide +kernel)
theorem w_1013 : (Cond.code ⟨"OtherwiseCourtModel", "court", "()I"⟩ prog_10_method_19_code 2 (some .int)) ∈ gTbl := gTbl_mem 1013 (by decide +kernel) (by decide +kernel)
theorem vl_L_22 : jVL RL 22 mX8_court 0 := ⟨List.forall_mem_cons.mpr ⟨w_1010, List.forall_mem_cons.mpr ⟨w_1011, List.forall_mem_cons.mpr ⟨w_1012, List.forall_mem_cons.mpr ⟨w_71, List.forall_mem_cons.mpr ⟨w_1013, fun _ h => absurd h List.not_mem_nil⟩⟩⟩⟩⟩, by decide, by decide, by decide, by decide +kernel⟩
theorem w_544 : (Cond.methodLink "OtherwiseCourtLaw" 23 ⟨"OtherwiseCourt", "day", "(I)I"⟩) ∈ gTbl := gTbl_mem 544 (by decide +kernel) (by decide +kernel)
theorem w_545 : (Cond.instanceMethod ⟨"OtherwiseCourt", "day", "(I)I"⟩) ∈ gTbl := gTbl_mem 545 (by decide +kernel) (by decide +kernel)
theorem w_546 : (Cond.selects "OtherwiseCourt" ⟨"OtherwiseCourt", "day", "(I)I"⟩ ⟨"OtherwiseCourt", "day", "(I)I"⟩) ∈ gTbl := gTbl_mem 546 (by decide +kernel) (by decide +kernel)
theorem w_547 : (Cond.code ⟨"OtherwiseCourt", "day", "(I)I"⟩ prog_1_method_4_code 3 (some .int)) ∈ gTbl := gTbl_mem 547 (by decide +kernel) (by decide +kernel)
theorem vl_L_23 : jVL RL 23 mX7_day 1 := ⟨List.forall_mem_cons.mpr ⟨w_544, List.forall_mem_cons.mpr ⟨w_545, List.forall_mem_cons.mpr ⟨w_546, List.forall_mem_cons.mpr ⟨w_63, List.forall_mem_cons.mpr ⟨w_547, fun _ h => absurd h List.not_mem_nil⟩⟩⟩⟩⟩, by decide, by decide, by decide, by decide +kernel⟩
theorem w_1065 : (Cond.methodLink "OtherwiseCourtLaw" 26 ⟨"OtherwiseCourtModel", "day", "(I)I"⟩) ∈ gTbl := gTbl_mem 1065 (by decide +kernel) (by decide +kernel)
theorem w_1066 : (Cond.instanceMethod ⟨"OtherwiseCourtModel", "day", "(I)I"⟩) ∈ gTbl := gTbl_mem 1066 (by decide +kernel) (by decide +kernel)
theorem w_1067 : (Cond.selects "OtherwiseCourtModel" ⟨"OtherwiseCourtModel", "day", "(I)I"⟩ ⟨"OtherwiseCourtModel", "day", "(I)I"⟩) ∈ gTbl := gTbl_mem 1067 (by decide +kernel) (by decide +kernel)
theorem w_1068 : (Cond.code ⟨"OtherwiseCourtModel", "day", "(I)I"⟩ prog_10_method_21_code 3 (some .int)) ∈ gTbl := gTbl_mem 1068 (by decide +kernel) (by decide +kernel)
theorem vl_L_26 : jVL RL 26 mX8_day 1 := ⟨List.forall_mem_cons.mpr ⟨w_1065, List.forall_mem_cons.mpr ⟨w_1066, List.forall_mem_cons.mpr ⟨w_1067, List.forall_mem_cons.mpr ⟨w_71, List.forall_mem_cons.mpr ⟨w_1068, fun _ h => absurd h List.not_mem_nil⟩⟩⟩⟩⟩, by decide, by decide, by decide, by decide +kernel⟩
theorem w_548 : (Cond.methodLink "OtherwiseCourtLaw" 27 ⟨"OtherwiseCourt", "suit", "(II)I"⟩) ∈ gTbl := gTbl_mem 548 (by decide +kernel) (by decide +kernel)
theorem w_549 : (Cond.instanceMethod ⟨"OtherwiseCourt", "suit", "(II)I"⟩) ∈ gTbl := gTbl_mem 549 (by decide +kernel) (by decide +kernel)
theorem w_550 : (Cond.selects "OtherwiseCourt" ⟨"OtherwiseCourt", "suit", "(II)I"⟩ ⟨"OtherwiseCourt", "suit", "(II)I"⟩) ∈ gTbl := gTbl_mem 550 (by decide +kernel) (by decide +kernel)
theorem w_551 : (Cond.code ⟨"OtherwiseCourt", "suit", "(II)I"⟩ prog_1_method_5_code 3 (some .int)) ∈ gTbl := gTbl_mem 551 (by decide +kernel) (by decide +kernel)
theorem vl_L_27 : jVL RL 27 mX7_suit 2 := ⟨List.forall_mem_cons.mpr ⟨w_548, List.forall_mem_cons.mpr ⟨w_549, List.forall_mem_cons.mpr ⟨w_550, List.forall_mem_cons.mpr ⟨w_63, List.forall_mem_cons.mpr ⟨w_551, fun _ h => absurd h List.not_mem_nil⟩⟩⟩⟩⟩, by decide, by decide, by decide, by decide +kernel⟩
theorem w_1077 : (Cond.methodLink "OtherwiseCourtLaw" 31 ⟨"OtherwiseCourtModel", "suit", "(II)I"⟩) ∈ gTbl := gTbl_mem 1077 (by decide +kernel) (by decide +kernel)
theorem w_1078 : (Cond.instanceMethod ⟨"OtherwiseCourtModel", "suit", "(II)I"⟩) ∈ gTbl := gTbl_mem 1078 (by decide +kernel) (by decide +kernel)
theorem w_1079 : (Cond.selects "OtherwiseCourtModel" ⟨"OtherwiseCourtModel", "suit", "(II)I"⟩ ⟨"OtherwiseCourtModel", "suit", "(II)I"⟩) ∈ gTbl := gTbl_mem 1079 (by decide +kernel) (by decide +kernel)
theorem w_1080 : (Cond.code ⟨"OtherwiseCourtModel", "suit", "(II)I"⟩ prog_10_method_23_code 4 (some .int)) ∈ gTbl := gTbl_mem 1080 (by decide +kernel) (by decide +kernel)
theorem vl_L_31 : jVL RL 31 mX8_suit 2 := ⟨List.forall_mem_cons.mpr ⟨w_1077, List.forall_mem_cons.mpr ⟨w_1078, List.forall_mem_cons.mpr ⟨w_1079, List.forall_mem_cons.mpr ⟨w_71, List.forall_mem_cons.mpr ⟨w_1080, fun _ h => absurd h List.not_mem_nil⟩⟩⟩⟩⟩, by decide, by decide, by decide, by decide +kernel⟩
theorem w_552 : (Cond.methodLink "OtherwiseCourtLaw" 32 ⟨"OtherwiseCourt", "of", "(II)I"⟩) ∈ gTbl := gTbl_mem 552 (by decide +kernel) (by decide +kernel)
theorem w_553 : (Cond.instanceMethod ⟨"OtherwiseCourt", "of", "(II)I"⟩) ∈ gTbl := gTbl_mem 553 (by decide +kernel) (by decide +kernel)
theorem w_554 : (Cond.selects "OtherwiseCourt" ⟨"OtherwiseCourt", "of", "(II)I"⟩ ⟨"OtherwiseCourt", "of", "(II)I"⟩) ∈ gTbl := gTbl_mem 554 (by decide +kernel) (by decide +kernel)
theorem w_555 : (Cond.code ⟨"OtherwiseCourt", "of", "(II)I"⟩ prog_1_method_6_code 3 (some .int)) ∈ gTbl := gTbl_mem 555 (by decide +kernel) (by decide +kernel)
theorem vl_L_32 : jVL RL 32 mX7_of 2 := ⟨List.forall_mem_cons.mpr ⟨w_552, List.forall_mem_cons.mpr ⟨w_553, List.forall_mem_cons.mpr ⟨w_554, List.forall_mem_cons.mpr ⟨w_63, List.forall_mem_cons.mpr ⟨w_555, fun _ h => absurd h List.not_mem_nil⟩⟩⟩⟩⟩, by decide, by decide, by decide, by decide +kernel⟩
theorem w_1081 : (Cond.methodLink "OtherwiseCourtLaw" 35 ⟨"OtherwiseCourtModel", "of", "(II)I"⟩) ∈ gTbl := gTbl_mem 1081 (by decide +kernel) (by decide +kernel)
theorem w_1082 : (Cond.instanceMethod ⟨"OtherwiseCourtModel", "of", "(II)I"⟩) ∈ gTbl := gTbl_mem 1082 (by decide +kernel) (by decide +kernel)
theorem w_1083 : (Cond.selects "OtherwiseCourtModel" ⟨"OtherwiseCourtModel", "of", "(II)I"⟩ ⟨"OtherwiseCourtModel", "of", "(II)I"⟩) ∈ gTbl := gTbl_mem 1083 (by decide +kernel) (by decide +kernel)
theorem w_1084 : (Cond.code ⟨"OtherwiseCourtModel", "of", "(II)I"⟩ prog_10_method_24_code 3 (some .int)) ∈ gTbl := gTbl_mem 1084 (by decide +kernel) (by decide +kernel)
theorem vl_L_35 : jVL RL 35 mX8_of 2 := ⟨List.forall_mem_cons.mpr ⟨w_1081, List.forall_mem_cons.mpr ⟨w_1082, List.forall_mem_cons.mpr ⟨w_1083, List.forall_mem_cons.mpr ⟨w_71, List.forall_mem_cons.mpr ⟨w_1084, fun _ h => absurd h List.not_mem_nil⟩⟩⟩⟩⟩, by decide, by decide, by decide, by decide +kernel⟩
theorem w_569 : (Cond.methodLink "OtherwiseCourtLaw" 36 ⟨"OtherwiseCourt", "judge", "(II)I"⟩) ∈ gTbl := gTbl_mem 569 (by decide +kernel) (by decide +kernel)
theorem w_570 : (Cond.instanceMethod ⟨"OtherwiseCourt", "judge", "(II)I"⟩) ∈ gTbl := gTbl_mem 570 (by decide +kernel) (by decide +kernel)
theorem w_571 : (Cond.selects "OtherwiseCourt" ⟨"OtherwiseCourt", "judge", "(II)I"⟩ ⟨"OtherwiseCourt", "judge", "(II)I"⟩) ∈ gTbl := gTbl_mem 571 (by decide +kernel) (by decide +kernel)
theorem w_572 : (Cond.code ⟨"OtherwiseCourt", "judge", "(II)I"⟩ prog_1_method_7_code 3 (some .int)) ∈ gTbl := gTbl_mem 572 (by decide +kernel) (by decide +kernel)
theorem vl_L_36 : jVL RL 36 mX7_judge 2 := ⟨List.forall_mem_cons.mpr ⟨w_569, List.forall_mem_cons.mpr ⟨w_570, List.forall_mem_cons.mpr ⟨w_571, List.forall_mem_cons.mpr ⟨w_63, List.forall_mem_cons.mpr ⟨w_572, fun _ h => absurd h List.not_mem_nil⟩⟩⟩⟩⟩, by decide, by decide, by decide, by decide +kernel⟩
theorem w_1089 : (Cond.methodLink "OtherwiseCourtLaw" 39 ⟨"OtherwiseCourtModel", "judge", "(II)I"⟩) ∈ gTbl := gTbl_mem 1089 (by decide +kernel) (by decide +kernel)
theorem w_1090 : (Cond.instanceMethod ⟨"OtherwiseCourtModel", "judge", "(II)I"⟩) ∈ gTbl := gTbl_mem 1090 (by decide +kernel) (by decide +kernel)
theorem w_1091 : (Cond.selects "OtherwiseCourtModel" ⟨"OtherwiseCourtModel", "judge", "(II)I"⟩ ⟨"OtherwiseCourtModel", "judge", "(II)I"⟩) ∈ gTbl := gTbl_mem 1091 (by decide +kernel) (by decide +kernel)
theorem w_1092 : (Cond.code ⟨"OtherwiseCourtModel", "judge", "(II)I"⟩ prog_10_method_25_code 5 (some .int)) ∈ gTbl := gTbl_mem 1092 (by decide +kernel) (by decide +kernel)
theorem vl_L_39 : jVL RL 39 mX8_judge 2 := ⟨List.forall_mem_cons.mpr ⟨w_1089, List.forall_mem_cons.mpr ⟨w_1090, List.forall_mem_cons.mpr ⟨w_1091, List.forall_mem_cons.mpr ⟨w_71, List.forall_mem_cons.mpr ⟨w_1092, fun _ h => absurd h List.not_mem_nil⟩⟩⟩⟩⟩, by decide, by decide, by decide, by decide +kernel⟩
theorem w_573 : (Cond.methodLink "OtherwiseCourtLaw" 40 ⟨"OtherwiseCourt", "at", "(II)I"⟩) ∈ gTbl := gTbl_mem 573 (by decide +kernel) (by decide +kernel)
theorem w_574 : (Cond.instanceMethod ⟨"OtherwiseCourt", "at", "(II)I"⟩) ∈ gTbl := gTbl_mem 574 (by decide +kernel) (by decide +kernel)
theorem w_575 : (Cond.selects "OtherwiseCourt" ⟨"OtherwiseCourt", "at", "(II)I"⟩ ⟨"OtherwiseCourt", "at", "(II)I"⟩) ∈ gTbl := gTbl_mem 575 (by decide +kernel) (by decide +kernel)
theorem w_576 : (Cond.code ⟨"OtherwiseCourt", "at", "(II)I"⟩ prog_1_method_8_code 3 (some .int)) ∈ gTbl := gTbl_mem 576 (by decide +kernel) (by decide +kernel)
theorem vl_L_40 : jVL RL 40 mX7_at 2 := ⟨List.forall_mem_cons.mpr ⟨w_573, List.forall_mem_cons.mpr ⟨w_574, List.forall_mem_cons.mpr ⟨w_575, List.forall_mem_cons.mpr ⟨w_63, List.forall_mem_cons.mpr ⟨w_576, fun _ h => absurd h List.not_mem_nil⟩⟩⟩⟩⟩, by decide, by decide, by decide, by decide +kernel⟩
theorem w_1101 : (Cond.methodLink "OtherwiseCourtLaw" 43 ⟨"OtherwiseCourtModel", "at", "(II)I"⟩) ∈ gTbl := gTbl_mem 1101 (by decide +kernel) (by decide +kernel)
theorem w_1102 : (Cond.instanceMethod ⟨"OtherwiseCourtModel", "at", "(II)I"⟩) ∈ gTbl := gTbl_mem 1102 (by decide +kernel) (by decide +kernel)
theorem w_1103 : (Cond.selects "OtherwiseCourtModel" ⟨"OtherwiseCourtModel", "at", "(II)I"⟩ ⟨"OtherwiseCourtModel", "at", "(II)I"⟩) ∈ gTbl := gTbl_mem 1103 (by decide +kernel) (by decide +kernel)
theorem w_1104 : (Cond.code ⟨"OtherwiseCourtModel", "at", "(II)I"⟩ prog_10_method_30_code 3 (some .int)) ∈ gTbl := gTbl_mem 1104 (by decide +kernel) (by decide +kernel)
theorem vl_L_43 : jVL RL 43 mX8_at 2 := ⟨List.forall_mem_cons.mpr ⟨w_1101, List.forall_mem_cons.mpr ⟨w_1102, List.forall_mem_cons.mpr ⟨w_1103, List.forall_mem_cons.mpr ⟨w_71, List.forall_mem_cons.mpr ⟨w_1104, fun _ h => absurd h List.not_mem_nil⟩⟩⟩⟩⟩, by decide, by decide, by decide, by decide +kernel⟩
theorem w_612 : (Cond.methodLink "OtherwiseCourtLaw" 44 ⟨"OtherwiseCourt", "row", "(III)I"⟩) ∈ gTbl := gTbl_mem 612 (by decide +kernel) (by decide +kernel)
theorem w_613 : (Cond.instanceMethod ⟨"OtherwiseCourt", "row", "(III)I"⟩) ∈ gTbl := gTbl_mem 613 (by decide +kernel) (by decide +kernel)
theorem w_614 : (Cond.selects "OtherwiseCourt" ⟨"OtherwiseCourt", "row", "(III)I"⟩ ⟨"OtherwiseCourt", "row", "(III)I"⟩) ∈ gTbl := gTbl_mem 614 (by decide +kernel) (by decide +kernel)
theorem w_615 : (Cond.code ⟨"OtherwiseCourt", "row", "(III)I"⟩ prog_1_method_9_code 5 (some .int)) ∈ gTbl := gTbl_mem 615 (by decide +kernel) (by decide +kernel)
theorem vl_L_44 : jVL RL 44 mX7_row 3 := ⟨List.forall_mem_cons.mpr ⟨w_612, List.forall_mem_cons.mpr ⟨w_613, List.forall_mem_cons.mpr ⟨w_614, List.forall_mem_cons.mpr ⟨w_63, List.forall_mem_cons.mpr ⟨w_615, fun _ h => absurd h List.not_mem_nil⟩⟩⟩⟩⟩, by decide, by decide, by decide, by decide +kernel⟩
theorem w_1093 : (Cond.methodLink "OtherwiseCourtLaw" 48 ⟨"OtherwiseCourtModel", "row", "(III)I"⟩) ∈ gTbl := gTbl_mem 1093 (by decide +kernel) (by decide +kernel)
theorem w_1094 : (Cond.instanceMethod ⟨"OtherwiseCourtModel", "row", "(III)I"⟩) ∈ gTbl := gTbl_mem 1094 (by decide +kernel) (by decide +kernel)
theorem w_1095 : (Cond.selects "OtherwiseCourtModel" ⟨"OtherwiseCourtModel", "row", "(III)I"⟩ ⟨"OtherwiseCourtModel", "row", "(III)I"⟩) ∈ gTbl := gTbl_mem 1095 (by decide +kernel) (by decide +kernel)
theorem w_1096 : (Cond.code ⟨"OtherwiseCourtModel", "row", "(III)I"⟩ prog_10_method_26_code 5 (some .int)) ∈ gTbl := gTbl_mem 1096 (by decide +kernel) (by decide +kernel)
theorem vl_L_48 : jVL RL 48 mX8_row 3 := ⟨List.forall_mem_cons.mpr ⟨w_1093, List.forall_mem_cons.mpr ⟨w_1094, List.forall_mem_cons.mpr ⟨w_1095, List.forall_mem_cons.mpr ⟨w_71, List.forall_mem_cons.mpr ⟨w_1096, fun _ h => absurd h List.not_mem_nil⟩⟩⟩⟩⟩, by decide, by decide, by decide, by decide +kernel⟩
theorem w_616 : (Cond.methodLink "OtherwiseCourtLaw" 49 ⟨"OtherwiseCourt", "told", "(I)I"⟩) ∈ gTbl := gTbl_mem 616 (by decide +kernel) (by decide +kernel)
theorem w_617 : (Cond.instanceMethod ⟨"OtherwiseCourt", "told", "(I)I"⟩) ∈ gTbl := gTbl_mem 617 (by decide +kernel) (by decide +kernel)
theorem w_618 : (Cond.selects "OtherwiseCourt" ⟨"OtherwiseCourt", "told", "(I)I"⟩ ⟨"OtherwiseCourt", "told", "(I)I"⟩) ∈ gTbl := gTbl_mem 618 (by decide +kernel) (by decide +kernel)
theorem w_619 : (Cond.code ⟨"OtherwiseCourt", "told", "(I)I"⟩ prog_1_method_10_code 2 (some .int)) ∈ gTbl := gTbl_mem 619 (by decide +kernel) (by decide +kernel)
theorem vl_L_49 : jVL RL 49 mX7_told 1 := ⟨List.forall_mem_cons.mpr ⟨w_616, List.forall_mem_cons.mpr ⟨w_617, List.forall_mem_cons.mpr ⟨w_618, List.forall_mem_cons.mpr ⟨w_63, List.forall_mem_cons.mpr ⟨w_619, fun _ h => absurd h List.not_mem_nil⟩⟩⟩⟩⟩, by decide, by decide, by decide, by decide +kernel⟩
theorem w_1069 : (Cond.methodLink "OtherwiseCourtLaw" 52 ⟨"OtherwiseCourtModel", "told", "(I)I"⟩) ∈ gTbl := gTbl_mem 1069 (by decide +kernel) (by decide +kernel)
theorem w_1070 : (Cond.instanceMethod ⟨"OtherwiseCourtModel", "told", "(I)I"⟩) ∈ gTbl := gTbl_mem 1070 (by decide +kernel) (by decide +kernel)
theorem w_1071 : (Cond.selects "OtherwiseCourtModel" ⟨"OtherwiseCourtModel", "told", "(I)I"⟩ ⟨"OtherwiseCourtModel", "told", "(I)I"⟩) ∈ gTbl := gTbl_mem 1071 (by decide +kernel) (by decide +kernel)
theorem w_1072 : (Cond.code ⟨"OtherwiseCourtModel", "told", "(I)I"⟩ prog_10_method_22_code 2 (some .int)) ∈ gTbl := gTbl_mem 1072 (by decide +kernel) (by decide +kernel)
theorem vl_L_52 : jVL RL 52 mX8_told 1 := ⟨List.forall_mem_cons.mpr ⟨w_1069, List.forall_mem_cons.mpr ⟨w_1070, List.forall_mem_cons.mpr ⟨w_1071, List.forall_mem_cons.mpr ⟨w_71, List.forall_mem_cons.mpr ⟨w_1072, fun _ h => absurd h List.not_mem_nil⟩⟩⟩⟩⟩, by decide, by decide, by decide, by decide +kernel⟩
theorem w_620 : (Cond.methodLink "OtherwiseCourtLaw" 53 ⟨"OtherwiseCourt", "score", "(III)I"⟩) ∈ gTbl := gTbl_mem 620 (by decide +kernel) (by decide +kernel)
theorem w_621 : (Cond.instanceMethod ⟨"OtherwiseCourt", "score", "(III)I"⟩) ∈ gTbl := gTbl_mem 621 (by decide +kernel) (by decide +kernel)
theorem w_622 : (Cond.selects "OtherwiseCourt" ⟨"OtherwiseCourt", "score", "(III)I"⟩ ⟨"OtherwiseCourt", "score", "(III)I"⟩) ∈ gTbl := gTbl_mem 622 (by decide +kernel) (by decide +kernel)
theorem w_623 : (Cond.code ⟨"OtherwiseCourt", "score", "(III)I"⟩ prog_1_method_11_code 4 (some .int)) ∈ gTbl := gTbl_mem 623 (by decide +kernel) (by decide +kernel)
theorem vl_L_53 : jVL RL 53 mX7_score 3 := ⟨List.forall_mem_cons.mpr ⟨w_620, List.forall_mem_cons.mpr ⟨w_621, List.forall_mem_cons.mpr ⟨w_622, List.forall_mem_cons.mpr ⟨w_63, List.forall_mem_cons.mpr ⟨w_623, fun _ h => absurd h List.not_mem_nil⟩⟩⟩⟩⟩, by decide, by decide, by decide, by decide +kernel⟩
theorem w_1109 : (Cond.methodLink "OtherwiseCourtLaw" 56 ⟨"OtherwiseCourtModel", "score", "(III)I"⟩) ∈ gTbl := gTbl_mem 1109 (by decide +kernel) (by decide +kernel)
theorem w_1110 : (Cond.instanceMethod ⟨"OtherwiseCourtModel", "score", "(III)I"⟩) ∈ gTbl := gTbl_mem 1110 (by decide +kernel) (by decide +kernel)
theorem w_1111 : (Cond.selects "OtherwiseCourtModel" ⟨"OtherwiseCourtModel", "score", "(III)I"⟩ ⟨"OtherwiseCourtModel", "score", "(III)I"⟩) ∈ gTbl := gTbl_mem 1111 (by decide +kernel) (by decide +kernel)
theorem w_1112 : (Cond.code ⟨"OtherwiseCourtModel", "score", "(III)I"⟩ prog_10_method_31_code 4 (some .int)) ∈ gTbl := gTbl_mem 1112 (by decide +kernel) (by decide +kernel)
theorem vl_L_56 : jVL RL 56 mX8_score 3 := ⟨List.forall_mem_cons.mpr ⟨w_1109, List.forall_mem_cons.mpr ⟨w_1110, List.forall_mem_cons.mpr ⟨w_1111, List.forall_mem_cons.mpr ⟨w_71, List.forall_mem_cons.mpr ⟨w_1112, fun _ h => absurd h List.not_mem_nil⟩⟩⟩⟩⟩, by decide, by decide, by decide, by decide +kernel⟩
theorem w_629 : (Cond.methodLink "OtherwiseCourtLaw" 57 ⟨"OtherwiseCourt", "decides", "(III)I"⟩) ∈ gTbl := gTbl_mem 629 (by decide +kernel) (by decide +kernel)
theorem w_630 : (Cond.instanceMethod ⟨"OtherwiseCourt", "decides", "(III)I"⟩) ∈ gTbl := gTbl_mem 630 (by decide +kernel) (by decide +kernel)
theorem w_631 : (Cond.selects "OtherwiseCourt" ⟨"OtherwiseCourt", "decides", "(III)I"⟩ ⟨"OtherwiseCourt", "decides", "(III)I"⟩) ∈ gTbl := gTbl_mem 631 (by decide +kernel) (by decide +kernel)
theorem w_632 : (Cond.code ⟨"OtherwiseCourt", "decides", "(III)I"⟩ prog_1_method_12_code 5 (some .int)) ∈ gTbl := gTbl_mem 632 (by decide +kernel) (by decide +kernel)
theorem vl_L_57 : jVL RL 57 mX7_decides 3 := ⟨List.forall_mem_cons.mpr ⟨w_629, List.forall_mem_cons.mpr ⟨w_630, List.forall_mem_cons.mpr ⟨w_631, List.forall_mem_cons.mpr ⟨w_63, List.forall_mem_cons.mpr ⟨w_632, fun _ h => absurd h List.not_mem_nil⟩⟩⟩⟩⟩, by decide, by decide, by decide, by decide +kernel⟩
theorem w_1122 : (Cond.methodLink "OtherwiseCourtLaw" 60 ⟨"OtherwiseCourtModel", "decides", "(III)I"⟩) ∈ gTbl := gTbl_mem 1122 (by decide +kernel) (by decide +kernel)
theorem w_1123 : (Cond.instanceMethod ⟨"OtherwiseCourtModel", "decides", "(III)I"⟩) ∈ gTbl := gTbl_mem 1123 (by decide +kernel) (by decide +kernel)
theorem w_1124 : (Cond.selects "OtherwiseCourtModel" ⟨"OtherwiseCourtModel", "decides", "(III)I"⟩ ⟨"OtherwiseCourtModel", "decides", "(III)I"⟩) ∈ gTbl := gTbl_mem 1124 (by decide +kernel) (by decide +kernel)
theorem w_1125 : (Cond.code ⟨"OtherwiseCourtModel", "decides", "(III)I"⟩ prog_10_method_40_code 5 (some .int)) ∈ gTbl := gTbl_mem 1125 (by decide +kernel) (by decide +kernel)
theorem vl_L_60 : jVL RL 60 mX8_decides 3 := ⟨List.forall_mem_cons.mpr ⟨w_1122, List.forall_mem_cons.mpr ⟨w_1123, List.forall_mem_cons.mpr ⟨w_1124, List.forall_mem_cons.mpr ⟨w_71, List.forall_mem_cons.mpr ⟨w_1125, fun _ h => absurd h List.not_mem_nil⟩⟩⟩⟩⟩, by decide, by decide, by decide, by decide +kernel⟩
theorem w_679 : (Cond.methodLink "OtherwiseCourtLaw" 61 ⟨"OtherwiseCourt", "hear", "(II)I"⟩) ∈ gTbl := gTbl_mem 679 (by decide +kernel) (by decide +kernel)
theorem w_680 : (Cond.instanceMethod ⟨"OtherwiseCourt", "hear", "(II)I"⟩) ∈ gTbl := gTbl_mem 680 (by decide +kernel) (by decide +kernel)
theorem w_681 : (Cond.selects "OtherwiseCourt" ⟨"OtherwiseCourt", "hear", "(II)I"⟩ ⟨"OtherwiseCourt", "hear", "(II)I"⟩) ∈ gTbl := gTbl_mem 681 (by decide +kernel) (by decide +kernel)
theorem w_682 : (Cond.code ⟨"OtherwiseCourt", "hear", "(II)I"⟩ prog_1_method_13_code 4 (some .int)) ∈ gTbl := gTbl_mem 682 (by decide +kernel) (by decide +kernel)
theorem vl_L_61 : jVL RL 61 mX7_hear 2 := ⟨List.forall_mem_cons.mpr ⟨w_679, List.forall_mem_cons.mpr ⟨w_680, List.forall_mem_cons.mpr ⟨w_681, List.forall_mem_cons.mpr ⟨w_63, List.forall_mem_cons.mpr ⟨w_682, fun _ h => absurd h List.not_mem_nil⟩⟩⟩⟩⟩, by decide, by decide, by decide, by decide +kernel⟩
theorem w_1157 : (Cond.methodLink "OtherwiseCourtLaw" 64 ⟨"OtherwiseCourtModel", "hear", "(II)I"⟩) ∈ gTbl := gTbl_mem 1157 (by decide +kernel) (by decide +kernel)
theorem w_1158 : (Cond.instanceMethod ⟨"OtherwiseCourtModel", "hear", "(II)I"⟩) ∈ gTbl := gTbl_mem 1158 (by decide +kernel) (by decide +kernel)
theorem w_1159 : (Cond.selects "OtherwiseCourtModel" ⟨"OtherwiseCourtModel", "hear", "(II)I"⟩ ⟨"OtherwiseCourtModel", "hear", "(II)I"⟩) ∈ gTbl := gTbl_mem 1159 (by decide +kernel) (by decide +kernel)
theorem w_1160 : (Cond.code ⟨"OtherwiseCourtModel", "hear", "(II)I"⟩ prog_10_method_42_code 4 (some .int)) ∈ gTbl := gTbl_mem 1160 (by decide +kernel) (by decide +kernel)
theorem vl_L_64 : jVL RL 64 mX8_hear 2 := ⟨List.forall_mem_cons.mpr ⟨w_1157, List.forall_mem_cons.mpr ⟨w_1158, List.forall_mem_cons.mpr ⟨w_1159, List.forall_mem_cons.mpr ⟨w_71, List.forall_mem_cons.mpr ⟨w_1160, fun _ h => absurd h List.not_mem_nil⟩⟩⟩⟩⟩, by decide, by decide, by decide, by decide +kernel⟩
theorem w_694 : (Cond.methodLink "OtherwiseCourtLaw" 65 ⟨"OtherwiseCourt", "enter", "(IZ)I"⟩) ∈ gTbl := gTbl_mem 694 (by decide +kernel) (by decide +kernel)
theorem w_695 : (Cond.instanceMethod ⟨"OtherwiseCourt", "enter", "(IZ)I"⟩) ∈ gTbl := gTbl_mem 695 (by decide +kernel) (by decide +kernel)
theorem w_696 : (Cond.selects "OtherwiseCourt" ⟨"OtherwiseCourt", "enter", "(IZ)I"⟩ ⟨"OtherwiseCourt", "enter", "(IZ)I"⟩) ∈ gTbl := gTbl_mem 696 (by decide +kernel) (by decide +kernel)
theorem w_697 : (Cond.code ⟨"OtherwiseCourt", "enter", "(IZ)I"⟩ prog_1_method_14_code 3 (some .int)) ∈ gTbl := gTbl_mem 697 (by decide +kernel) (by decide +kernel)
theorem vl_L_65 : jVL RL 65 mX7_enter 2 := ⟨List.forall_mem_cons.mpr ⟨w_694, List.forall_mem_cons.mpr ⟨w_695, List.forall_mem_cons.mpr ⟨w_696, List.forall_mem_cons.mpr ⟨w_63, List.forall_mem_cons.mpr ⟨w_697, fun _ h => absurd h List.not_mem_nil⟩⟩⟩⟩⟩, by decide, by decide, by decide, by decide +kernel⟩
theorem w_1165 : (Cond.methodLink "OtherwiseCourtLaw" 69 ⟨"OtherwiseCourtModel", "enter", "(IZ)I"⟩) ∈ gTbl := gTbl_mem 1165 (by decide +kernel) (by decide +kernel)
theorem w_1166 : (Cond.instanceMethod ⟨"OtherwiseCourtModel", "enter", "(IZ)I"⟩) ∈ gTbl := gTbl_mem 1166 (by decide +kernel) (by decide +kernel)
theorem w_1167 : (Cond.selects "OtherwiseCourtModel" ⟨"OtherwiseCourtModel", "enter", "(IZ)I"⟩ ⟨"OtherwiseCourtModel", "enter", "(IZ)I"⟩) ∈ gTbl := gTbl_mem 1167 (by decide +kernel) (by decide +kernel)
theorem w_1168 : (Cond.code ⟨"OtherwiseCourtModel", "enter", "(IZ)I"⟩ prog_10_method_43_code 3 (some .int)) ∈ gTbl := gTbl_mem 1168 (by decide +kernel) (by decide +kernel)
theorem vl_L_69 : jVL RL 69 mX8_enter 2 := ⟨List.forall_mem_cons.mpr ⟨w_1165, List.forall_mem_cons.mpr ⟨w_1166, List.forall_mem_cons.mpr ⟨w_1167, List.forall_mem_cons.mpr ⟨w_71, List.forall_mem_cons.mpr ⟨w_1168, fun _ h => absurd h List.not_mem_nil⟩⟩⟩⟩⟩, by decide, by decide, by decide, by decide +kernel⟩
theorem w_698 : (Cond.methodLink "OtherwiseCourtLaw" 70 ⟨"OtherwiseCourt", "entry", "(I)I"⟩) ∈ gTbl := gTbl_mem 698 (by decide +kernel) (by decide +kernel)
theorem w_699 : (Cond.instanceMethod ⟨"OtherwiseCourt", "entry", "(I)I"⟩) ∈ gTbl := gTbl_mem 699 (by decide +kernel) (by decide +kernel)
theorem w_700 : (Cond.selects "OtherwiseCourt" ⟨"OtherwiseCourt", "entry", "(I)I"⟩ ⟨"OtherwiseCourt", "entry", "(I)I"⟩) ∈ gTbl := gTbl_mem 700 (by decide +kernel) (by decide +kernel)
theorem w_701 : (Cond.code ⟨"OtherwiseCourt", "entry", "(I)I"⟩ prog_1_method_15_code 2 (some .int)) ∈ gTbl := gTbl_mem 701 (by decide +kernel) (by decide +kernel)
theorem vl_L_70 : jVL RL 70 mX7_entry 1 := ⟨List.forall_mem_cons.mpr ⟨w_698, List.forall_mem_cons.mpr ⟨w_699, List.forall_mem_cons.mpr ⟨w_700, List.forall_mem_cons.mpr ⟨w_63, List.forall_mem_cons.mpr ⟨w_701, fun _ h => absurd h List.not_mem_nil⟩⟩⟩⟩⟩, by decide, by decide, by decide, by decide +kernel⟩
theorem w_1169 : (Cond.methodLink "OtherwiseCourtLaw" 73 ⟨"OtherwiseCourtModel", "entry", "(I)I"⟩) ∈ gTbl := gTbl_mem 1169 (by decide +kernel) (by decide +kernel)
theorem w_1170 : (Cond.instanceMethod ⟨"OtherwiseCourtModel", "entry", "(I)I"⟩) ∈ gTbl := gTbl_mem 1170 (by decide +kernel) (by decide +kernel)
theorem w_1171 : (Cond.selects "OtherwiseCourtModel" ⟨"OtherwiseCourtModel", "entry", "(I)I"⟩ ⟨"OtherwiseCourtModel", "entry", "(I)I"⟩) ∈ gTbl := gTbl_mem 1171 (by decide +kernel) (by decide +kernel)
theorem w_1172 : (Cond.code ⟨"OtherwiseCourtModel", "entry", "(I)I"⟩ prog_10_method_44_code 2 (some .int)) ∈ gTbl := gTbl_mem 1172 (by decide +kernel) (by decide +kernel)
theorem vl_L_73 : jVL RL 73 mX8_entry 1 := ⟨List.forall_mem_cons.mpr ⟨w_1169, List.forall_mem_cons.mpr ⟨w_1170, List.forall_mem_cons.mpr ⟨w_1171, List.forall_mem_cons.mpr ⟨w_71, List.forall_mem_cons.mpr ⟨w_1172, fun _ h => absurd h List.not_mem_nil⟩⟩⟩⟩⟩, by decide, by decide, by decide, by decide +kernel⟩
theorem w_702 : (Cond.methodLink "OtherwiseCourtLaw" 74 ⟨"OtherwiseCourt", "best", "(III)I"⟩) ∈ gTbl := gTbl_mem 702 (by decide +kernel) (by decide +kernel)
theorem w_703 : (Cond.instanceMethod ⟨"OtherwiseCourt", "best", "(III)I"⟩) ∈ gTbl := gTbl_mem 703 (by decide +kernel) (by decide +kernel)
theorem w_704 : (Cond.selects "OtherwiseCourt" ⟨"OtherwiseCourt", "best", "(III)I"⟩ ⟨"OtherwiseCourt", "best", "(III)I"⟩) ∈ gTbl := gTbl_mem 704 (by decide +kernel) (by decide +kernel)
theorem w_705 : (Cond.code ⟨"OtherwiseCourt", "best", "(III)I"⟩ prog_1_method_16_code 4 (some .int)) ∈ gTbl := gTbl_mem 705 (by decide +kernel) (by decide +kernel)
theorem vl_L_74 : jVL RL 74 mX7_best 3 := ⟨List.forall_mem_cons.mpr ⟨w_702, List.forall_mem_cons.mpr ⟨w_703, List.forall_mem_cons.mpr ⟨w_704, List.forall_mem_cons.mpr ⟨w_63, List.forall_mem_cons.mpr ⟨w_705, fun _ h => absurd h List.not_mem_nil⟩⟩⟩⟩⟩, by decide, by decide, by decide, by decide +kernel⟩
theorem w_1173 : (Cond.methodLink "OtherwiseCourtLaw" 77 ⟨"OtherwiseCourtModel", "best", "(III)I"⟩) ∈ gTbl := gTbl_mem 1173 (by decide +kernel) (by decide +kernel)
theorem w_1174 : (Cond.instanceMethod ⟨"OtherwiseCourtModel", "best", "(III)I"⟩) ∈ gTbl := gTbl_mem 1174 (by decide +kernel) (by decide +kernel)
theorem w_1175 : (Cond.selects "OtherwiseCourtModel" ⟨"OtherwiseCourtModel", "best", "(III)I"⟩ ⟨"OtherwiseCourtModel", "best", "(III)I"⟩) ∈ gTbl := gTbl_mem 1175 (by decide +kernel) (by decide +kernel)
theorem w_1176 : (Cond.code ⟨"OtherwiseCourtModel", "best", "(III)I"⟩ prog_10_method_47_code 4 (some .int)) ∈ gTbl := gTbl_mem 1176 (by decide +kernel) (by decide +kernel)
theorem vl_L_77 : jVL RL 77 mX8_best 3 := ⟨List.forall_mem_cons.mpr ⟨w_1173, List.forall_mem_cons.mpr ⟨w_1174, List.forall_mem_cons.mpr ⟨w_1175, List.forall_mem_cons.mpr ⟨w_71, List.forall_mem_cons.mpr ⟨w_1176, fun _ h => absurd h List.not_mem_nil⟩⟩⟩⟩⟩, by decide, by decide, by decide, by decide +kernel⟩
theorem w_748 : (Cond.methodLink "OtherwiseCourtLaw" 78 ⟨"OtherwiseCourt", "shams", "(III)I"⟩) ∈ gTbl := gTbl_mem 748 (by decide +kernel) (by decide +kernel)
theorem w_749 : (Cond.instanceMethod ⟨"OtherwiseCourt", "shams", "(III)I"⟩) ∈ gTbl := gTbl_mem 749 (by decide +kernel) (by decide +kernel)
theorem w_750 : (Cond.selects "OtherwiseCourt" ⟨"OtherwiseCourt", "shams", "(III)I"⟩ ⟨"OtherwiseCourt", "shams", "(III)I"⟩) ∈ gTbl := gTbl_mem 750 (by decide +kernel) (by decide +kernel)
theorem w_751 : (Cond.code ⟨"OtherwiseCourt", "shams", "(III)I"⟩ prog_1_method_17_code 5 (some .int)) ∈ gTbl := gTbl_mem 751 (by decide +kernel) (by decide +kernel)
theorem vl_L_78 : jVL RL 78 mX7_shams 3 := ⟨List.forall_mem_cons.mpr ⟨w_748, List.forall_mem_cons.mpr ⟨w_749, List.forall_mem_cons.mpr ⟨w_750, List.forall_mem_cons.mpr ⟨w_63, List.forall_mem_cons.mpr ⟨w_751, fun _ h => absurd h List.not_mem_nil⟩⟩⟩⟩⟩, by decide, by decide, by decide, by decide +kernel⟩
theorem w_1190 : (Cond.methodLink "OtherwiseCourtLaw" 81 ⟨"OtherwiseCourtModel", "shams", "(III)I"⟩) ∈ gTbl := gTbl_mem 1190 (by decide +kernel) (by decide +kernel)
theorem w_1191 : (Cond.instanceMethod ⟨"OtherwiseCourtModel", "shams", "(III)I"⟩) ∈ gTbl := gTbl_mem 1191 (by decide +kernel) (by decide +kernel)
theorem w_1192 : (Cond.selects "OtherwiseCourtModel" ⟨"OtherwiseCourtModel", "shams", "(III)I"⟩ ⟨"OtherwiseCourtModel", "shams", "(III)I"⟩) ∈ gTbl := gTbl_mem 1192 (by decide +kernel) (by decide +kernel)
theorem w_1193 : (Cond.code ⟨"OtherwiseCourtModel", "shams", "(III)I"⟩ prog_10_method_49_code 5 (some .int)) ∈ gTbl := gTbl_mem 1193 (by decide +kernel) (by decide +kernel)
theorem vl_L_81 : jVL RL 81 mX8_shams 3 := ⟨List.forall_mem_cons.mpr ⟨w_1190, List.forall_mem_cons.mpr ⟨w_1191, List.forall_mem_cons.mpr ⟨w_1192, List.forall_mem_cons.mpr ⟨w_71, List.forall_mem_cons.mpr ⟨w_1193, fun _ h => absurd h List.not_mem_nil⟩⟩⟩⟩⟩, by decide, by decide, by decide, by decide +kernel⟩
theorem w_761 : (Cond.methodLink "OtherwiseCourtLaw" 82 ⟨"OtherwiseCourt", "point", "(III)I"⟩) ∈ gTbl := gTbl_mem 761 (by decide +kernel) (by decide +kernel)
theorem w_762 : (Cond.instanceMethod ⟨"OtherwiseCourt", "point", "(III)I"⟩) ∈ gTbl := gTbl_mem 762 (by decide +kernel) (by decide +kernel)
theorem w_763 : (Cond.selects "OtherwiseCourt" ⟨"OtherwiseCourt", "point", "(III)I"⟩ ⟨"OtherwiseCourt", "point", "(III)I"⟩) ∈ gTbl := gTbl_mem 763 (by decide +kernel) (by decide +kernel)
theorem w_764 : (Cond.code ⟨"OtherwiseCourt", "point", "(III)I"⟩ prog_1_method_18_code 7 (some .int)) ∈ gTbl := gTbl_mem 764 (by decide +kernel) (by decide +kernel)
theorem vl_L_82 : jVL RL 82 mX7_point 3 := ⟨List.forall_mem_cons.mpr ⟨w_761, List.forall_mem_cons.mpr ⟨w_762, List.forall_mem_cons.mpr ⟨w_763, List.forall_mem_cons.mpr ⟨w_63, List.forall_mem_cons.mpr ⟨w_764, fun _ h => absurd h List.not_mem_nil⟩⟩⟩⟩⟩, by decide, by decide, by decide, by decide +kernel⟩
theorem w_1198 : (Cond.methodLink "OtherwiseCourtLaw" 85 ⟨"OtherwiseCourtModel", "point", "(III)I"⟩) ∈ gTbl := gTbl_mem 1198 (by decide +kernel) (by decide +kernel)
theorem w_1199 : (Cond.instanceMethod ⟨"OtherwiseCourtModel", "point", "(III)I"⟩) ∈ gTbl := gTbl_mem 1199 (by decide +kernel) (by decide +kernel)
theorem w_1200 : (Cond.selects "OtherwiseCourtModel" ⟨"OtherwiseCourtModel", "point", "(III)I"⟩ ⟨"OtherwiseCourtModel", "point", "(III)I"⟩) ∈ gTbl := gTbl_mem 1200 (by decide +kernel) (by decide +kernel)
theorem w_1201 : (Cond.code ⟨"OtherwiseCourtModel", "point", "(III)I"⟩ prog_10_method_50_code 6 (some .int)) ∈ gTbl := gTbl_mem 1201 (by decide +kernel) (by decide +kernel)
theorem vl_L_85 : jVL RL 85 mX8_point 3 := ⟨List.forall_mem_cons.mpr ⟨w_1198, List.forall_mem_cons.mpr ⟨w_1199, List.forall_mem_cons.mpr ⟨w_1200, List.forall_mem_cons.mpr ⟨w_71, List.forall_mem_cons.mpr ⟨w_1201, fun _ h => absurd h List.not_mem_nil⟩⟩⟩⟩⟩, by decide, by decide, by decide, by decide +kernel⟩
theorem w_765 : (Cond.methodLink "OtherwiseCourtLaw" 86 ⟨"OtherwiseCourt", "rival", "(IIII)I"⟩) ∈ gTbl := gTbl_mem 765 (by decide +kernel) (by decide +kernel)
theorem w_766 : (Cond.instanceMethod ⟨"OtherwiseCourt", "rival", "(IIII)I"⟩) ∈ gTbl := gTbl_mem 766 (by decide +kernel) (by decide +kernel)
theorem w_767 : (Cond.selects "OtherwiseCourt" ⟨"OtherwiseCourt", "rival", "(IIII)I"⟩ ⟨"OtherwiseCourt", "rival", "(IIII)I"⟩) ∈ gTbl := gTbl_mem 767 (by decide +kernel) (by decide +kernel)
theorem w_768 : (Cond.code ⟨"OtherwiseCourt", "rival", "(IIII)I"⟩ prog_1_method_19_code 6 (some .int)) ∈ gTbl := gTbl_mem 768 (by decide +kernel) (by decide +kernel)
theorem vl_L_86 : jVL RL 86 mX7_rival 4 := ⟨List.forall_mem_cons.mpr ⟨w_765, List.forall_mem_cons.mpr ⟨w_766, List.forall_mem_cons.mpr ⟨w_767, List.forall_mem_cons.mpr ⟨w_63, List.forall_mem_cons.mpr ⟨w_768, fun _ h => absurd h List.not_mem_nil⟩⟩⟩⟩⟩, by decide, by decide, by decide, by decide +kernel⟩
theorem w_1202 : (Cond.methodLink "OtherwiseCourtLaw" 90 ⟨"OtherwiseCourtModel", "rival", "(IIII)I"⟩) ∈ gTbl := gTbl_mem 1202 (by decide +kernel) (by decide +kernel)
theorem w_1203 : (Cond.instanceMethod ⟨"OtherwiseCourtModel", "rival", "(IIII)I"⟩) ∈ gTbl := gTbl_mem 1203 (by decide +kernel) (by decide +kernel)
theorem w_1204 : (Cond.selects "OtherwiseCourtModel" ⟨"OtherwiseCourtModel", "rival", "(IIII)I"⟩ ⟨"OtherwiseCourtModel", "rival", "(IIII)I"⟩) ∈ gTbl := gTbl_mem 1204 (by decide +kernel) (by decide +kernel)
theorem w_1205 : (Cond.code ⟨"OtherwiseCourtModel", "rival", "(IIII)I"⟩ prog_10_method_52_code 6 (some .int)) ∈ gTbl := gTbl_mem 1205 (by decide +kernel) (by decide +kernel)
theorem vl_L_90 : jVL RL 90 mX8_rival 4 := ⟨List.forall_mem_cons.mpr ⟨w_1202, List.forall_mem_cons.mpr ⟨w_1203, List.forall_mem_cons.mpr ⟨w_1204, List.forall_mem_cons.mpr ⟨w_71, List.forall_mem_cons.mpr ⟨w_1205, fun _ h => absurd h List.not_mem_nil⟩⟩⟩⟩⟩, by decide, by decide, by decide, by decide +kernel⟩
theorem w_777 : (Cond.methodLink "OtherwiseCourtLaw" 91 ⟨"OtherwiseCourt", "again", "(III)I"⟩) ∈ gTbl := gTbl_mem 777 (by decide +kernel) (by decide +kernel)
theorem w_778 : (Cond.instanceMethod ⟨"OtherwiseCourt", "again", "(III)I"⟩) ∈ gTbl := gTbl_mem 778 (by decide +kernel) (by decide +kernel)
theorem w_779 : (Cond.selects "OtherwiseCourt" ⟨"OtherwiseCourt", "again", "(III)I"⟩ ⟨"OtherwiseCourt", "again", "(III)I"⟩) ∈ gTbl := gTbl_mem 779 (by decide +kernel) (by decide +kernel)
theorem w_780 : (Cond.code ⟨"OtherwiseCourt", "again", "(III)I"⟩ prog_1_method_20_code 4 (some .int)) ∈ gTbl := gTbl_mem 780 (by decide +kernel) (by decide +kernel)
theorem vl_L_91 : jVL RL 91 mX7_again 3 := ⟨List.forall_mem_cons.mpr ⟨w_777, List.forall_mem_cons.mpr ⟨w_778, List.forall_mem_cons.mpr ⟨w_779, List.forall_mem_cons.mpr ⟨w_63, List.forall_mem_cons.mpr ⟨w_780, fun _ h => absurd h List.not_mem_nil⟩⟩⟩⟩⟩, by decide, by decide, by decide, by decide +kernel⟩
theorem w_1210 : (Cond.methodLink "OtherwiseCourtLaw" 94 ⟨"OtherwiseCourtModel", "again", "(III)I"⟩) ∈ gTbl := gTbl_mem 1210 (by decide +kernel) (by decide +kernel)
theorem w_1211 : (Cond.instanceMethod ⟨"OtherwiseCourtModel", "again", "(III)I"⟩) ∈ gTbl := gTbl_mem 1211 (by decide +kernel) (by decide +kernel)
theorem w_1212 : (Cond.selects "OtherwiseCourtModel" ⟨"OtherwiseCourtModel", "again", "(III)I"⟩ ⟨"OtherwiseCourtModel", "again", "(III)I"⟩) ∈ gTbl := gTbl_mem 1212 (by decide +kernel) (by decide +kernel)
theorem w_1213 : (Cond.code ⟨"OtherwiseCourtModel", "again", "(III)I"⟩ prog_10_method_53_code 6 (some .int)) ∈ gTbl := gTbl_mem 1213 (by decide +kernel) (by decide +kernel)
theorem vl_L_94 : jVL RL 94 mX8_again 3 := ⟨List.forall_mem_cons.mpr ⟨w_1210, List.forall_mem_cons.mpr ⟨w_1211, List.forall_mem_cons.mpr ⟨w_1212, List.forall_mem_cons.mpr ⟨w_71, List.forall_mem_cons.mpr ⟨w_1213, fun _ h => absurd h List.not_mem_nil⟩⟩⟩⟩⟩, by decide, by decide, by decide, by decide +kernel⟩
theorem w_785 : (Cond.methodLink "OtherwiseCourtLaw" 95 ⟨"OtherwiseCourt", "swing", "(II)I"⟩) ∈ gTbl := gTbl_mem 785 (by decide +kernel) (by decide +kernel)
theorem w_786 : (Cond.instanceMethod ⟨"OtherwiseCourt", "swing", "(II)I"⟩) ∈ gTbl := gTbl_mem 786 (by decide +kernel) (by decide +kernel)
theorem w_787 : (Cond.selects "OtherwiseCourt" ⟨"OtherwiseCourt", "swing", "(II)I"⟩ ⟨"OtherwiseCourt", "swing", "(II)I"⟩) ∈ gTbl := gTbl_mem 787 (by decide +kernel) (by decide +kernel)
theorem w_788 : (Cond.code ⟨"OtherwiseCourt", "swing", "(II)I"⟩ prog_1_method_21_code 3 (some .int)) ∈ gTbl := gTbl_mem 788 (by decide +kernel) (by decide +kernel)
theorem vl_L_95 : jVL RL 95 mX7_swing 2 := ⟨List.forall_mem_cons.mpr ⟨w_785, List.forall_mem_cons.mpr ⟨w_786, List.forall_mem_cons.mpr ⟨w_787, List.forall_mem_cons.mpr ⟨w_63, List.forall_mem_cons.mpr ⟨w_788, fun _ h => absurd h List.not_mem_nil⟩⟩⟩⟩⟩, by decide, by decide, by decide, by decide +kernel⟩
theorem w_1214 : (Cond.methodLink "OtherwiseCourtLaw" 98 ⟨"OtherwiseCourtModel", "swing", "(II)I"⟩) ∈ gTbl := gTbl_mem 1214 (by decide +kernel) (by decide +kernel)
theorem w_1215 : (Cond.instanceMethod ⟨"OtherwiseCourtModel", "swing", "(II)I"⟩) ∈ gTbl := gTbl_mem 1215 (by decide +kernel) (by decide +kernel)
theorem w_1216 : (Cond.selects "OtherwiseCourtModel" ⟨"OtherwiseCourtModel", "swing", "(II)I"⟩ ⟨"OtherwiseCourtModel", "swing", "(II)I"⟩) ∈ gTbl := gTbl_mem 1216 (by decide +kernel) (by decide +kernel)
theorem w_1217 : (Cond.code ⟨"OtherwiseCourtModel", "swing", "(II)I"⟩ prog_10_method_54_code 5 (some .int)) ∈ gTbl := gTbl_mem 1217 (by decide +kernel) (by decide +kernel)
theorem vl_L_98 : jVL RL 98 mX8_swing 2 := ⟨List.forall_mem_cons.mpr ⟨w_1214, List.forall_mem_cons.mpr ⟨w_1215, List.forall_mem_cons.mpr ⟨w_1216, List.forall_mem_cons.mpr ⟨w_71, List.forall_mem_cons.mpr ⟨w_1217, fun _ h => absurd h List.not_mem_nil⟩⟩⟩⟩⟩, by decide, by decide, by decide, by decide +kernel⟩
theorem w_794 : (Cond.methodLink "OtherwiseCourtLaw" 99 ⟨"OtherwiseCourt", "unlawful", "(I)I"⟩) ∈ gTbl := gTbl_mem 794 (by decide +kernel) (by decide +kernel)
theorem w_795 : (Cond.instanceMethod ⟨"OtherwiseCourt", "unlawful", "(I)I"⟩) ∈ gTbl := gTbl_mem 795 (by decide +kernel) (by decide +kernel)
theorem w_796 : (Cond.selects "OtherwiseCourt" ⟨"OtherwiseCourt", "unlawful", "(I)I"⟩ ⟨"OtherwiseCourt", "unlawful", "(I)I"⟩) ∈ gTbl := gTbl_mem 796 (by decide +kernel) (by decide +kernel)
theorem w_797 : (Cond.code ⟨"OtherwiseCourt", "unlawful", "(I)I"⟩ prog_1_method_22_code 2 (some .int)) ∈ gTbl := gTbl_mem 797 (by decide +kernel) (by decide +kernel)
theorem vl_L_99 : jVL RL 99 mX7_unlawful 1 := ⟨List.forall_mem_cons.mpr ⟨w_794, List.forall_mem_cons.mpr ⟨w_795, List.forall_mem_cons.mpr ⟨w_796, List.forall_mem_cons.mpr ⟨w_63, List.forall_mem_cons.mpr ⟨w_797, fun _ h => absurd h List.not_mem_nil⟩⟩⟩⟩⟩, by decide, by decide, by decide, by decide +kernel⟩
theorem w_1218 : (Cond.methodLink "OtherwiseCourtLaw" 102 ⟨"OtherwiseCourtModel", "unlawful", "(I)I"⟩) ∈ gTbl := gTbl_mem 1218 (by decide +kernel) (by decide +kernel)
theorem w_1219 : (Cond.instanceMethod ⟨"OtherwiseCourtModel", "unlawful", "(I)I"⟩) ∈ gTbl := gTbl_mem 1219 (by decide +kernel) (by decide +kernel)
theorem w_1220 : (Cond.selects "OtherwiseCourtModel" ⟨"OtherwiseCourtModel", "unlawful", "(I)I"⟩ ⟨"OtherwiseCourtModel", "unlawful", "(I)I"⟩) ∈ gTbl := gTbl_mem 1220 (by decide +kernel) (by decide +kernel)
theorem w_1221 : (Cond.code ⟨"OtherwiseCourtModel", "unlawful", "(I)I"⟩ prog_10_method_56_code 2 (some .int)) ∈ gTbl := gTbl_mem 1221 (by decide +kernel) (by decide +kernel)
theorem vl_L_102 : jVL RL 102 mX8_unlawful 1 := ⟨List.forall_mem_cons.mpr ⟨w_1218, List.forall_mem_cons.mpr ⟨w_1219, List.forall_mem_cons.mpr ⟨w_1220, List.forall_mem_cons.mpr ⟨w_71, List.forall_mem_cons.mpr ⟨w_1221, fun _ h => absurd h List.not_mem_nil⟩⟩⟩⟩⟩, by decide, by decide, by decide, by decide +kernel⟩
theorem w_802 : (Cond.methodLink "OtherwiseCourtLaw" 103 ⟨"OtherwiseCourt", "wrong", "(I)I"⟩) ∈ gTbl := gTbl_mem 802 (by decide +kernel) (by decide +kernel)
theorem w_803 : (Cond.instanceMethod ⟨"OtherwiseCourt", "wrong", "(I)I"⟩) ∈ gTbl := gTbl_mem 803 (by decide +kernel) (by decide +kernel)
theorem w_804 : (Cond.selects "OtherwiseCourt" ⟨"OtherwiseCourt", "wrong", "(I)I"⟩ ⟨"OtherwiseCourt", "wrong", "(I)I"⟩) ∈ gTbl := gTbl_mem 804 (by decide +kernel) (by decide +kernel)
theorem w_805 : (Cond.code ⟨"OtherwiseCourt", "wrong", "(I)I"⟩ prog_1_method_23_code 4 (some .int)) ∈ gTbl := gTbl_mem 805 (by decide +kernel) (by decide +kernel)
theorem vl_L_103 : jVL RL 103 mX7_wrong 1 := ⟨List.forall_mem_cons.mpr ⟨w_802, List.forall_mem_cons.mpr ⟨w_803, List.forall_mem_cons.mpr ⟨w_804, List.forall_mem_cons.mpr ⟨w_63, List.forall_mem_cons.mpr ⟨w_805, fun _ h => absurd h List.not_mem_nil⟩⟩⟩⟩⟩, by decide, by decide, by decide, by decide +kernel⟩
theorem w_1226 : (Cond.methodLink "OtherwiseCourtLaw" 106 ⟨"OtherwiseCourtModel", "wrong", "(I)I"⟩) ∈ gTbl := gTbl_mem 1226 (by decide +kernel) (by decide +kernel)
theorem w_1227 : (Cond.instanceMethod ⟨"OtherwiseCourtModel", "wrong", "(I)I"⟩) ∈ gTbl := gTbl_mem 1227 (by decide +kernel) (by decide +kernel)
theorem w_1228 : (Cond.selects "OtherwiseCourtModel" ⟨"OtherwiseCourtModel", "wrong", "(I)I"⟩ ⟨"OtherwiseCourtModel", "wrong", "(I)I"⟩) ∈ gTbl := gTbl_mem 1228 (by decide +kernel) (by decide +kernel)
theorem w_1229 : (Cond.code ⟨"OtherwiseCourtModel", "wrong", "(I)I"⟩ prog_10_method_57_code 4 (some .int)) ∈ gTbl := gTbl_mem 1229 (by decide +kernel) (by decide +kernel)
theorem vl_L_106 : jVL RL 106 mX8_wrong 1 := ⟨List.forall_mem_cons.mpr ⟨w_1226, List.forall_mem_cons.mpr ⟨w_1227, List.forall_mem_cons.mpr ⟨w_1228, List.forall_mem_cons.mpr ⟨w_71, List.forall_mem_cons.mpr ⟨w_1229, fun _ h => absurd h List.not_mem_nil⟩⟩⟩⟩⟩, by decide, by decide, by decide, by decide +kernel⟩
theorem w_810 : (Cond.methodLink "OtherwiseCourtLaw" 107 ⟨"OtherwiseCourt", "bars", "(II)I"⟩) ∈ gTbl := gTbl_mem 810 (by decide +kernel) (by decide +kernel)
theorem w_811 : (Cond.instanceMethod ⟨"OtherwiseCourt", "bars", "(II)I"⟩) ∈ gTbl := gTbl_mem 811 (by decide +kernel) (by decide +kernel)
theorem w_812 : (Cond.selects "OtherwiseCourt" ⟨"OtherwiseCourt", "bars", "(II)I"⟩ ⟨"OtherwiseCourt", "bars", "(II)I"⟩) ∈ gTbl := gTbl_mem 812 (by decide +kernel) (by decide +kernel)
theorem w_813 : (Cond.code ⟨"OtherwiseCourt", "bars", "(II)I"⟩ prog_1_method_24_code 7 (some .int)) ∈ gTbl := gTbl_mem 813 (by decide +kernel) (by decide +kernel)
theorem vl_L_107 : jVL RL 107 mX7_bars 2 := ⟨List.forall_mem_cons.mpr ⟨w_810, List.forall_mem_cons.mpr ⟨w_811, List.forall_mem_cons.mpr ⟨w_812, List.forall_mem_cons.mpr ⟨w_63, List.forall_mem_cons.mpr ⟨w_813, fun _ h => absurd h List.not_mem_nil⟩⟩⟩⟩⟩, by decide, by decide, by decide, by decide +kernel⟩
theorem w_1230 : (Cond.methodLink "OtherwiseCourtLaw" 110 ⟨"OtherwiseCourtModel", "bars", "(II)I"⟩) ∈ gTbl := gTbl_mem 1230 (by decide +kernel) (by decide +kernel)
theorem w_1231 : (Cond.instanceMethod ⟨"OtherwiseCourtModel", "bars", "(II)I"⟩) ∈ gTbl := gTbl_mem 1231 (by decide +kernel) (by decide +kernel)
theorem w_1232 : (Cond.selects "OtherwiseCourtModel" ⟨"OtherwiseCourtModel", "bars", "(II)I"⟩ ⟨"OtherwiseCourtModel", "bars", "(II)I"⟩) ∈ gTbl := gTbl_mem 1232 (by decide +kernel) (by decide +kernel)
theorem w_1233 : (Cond.code ⟨"OtherwiseCourtModel", "bars", "(II)I"⟩ prog_10_method_58_code 9 (some .int)) ∈ gTbl := gTbl_mem 1233 (by decide +kernel) (by decide +kernel)
theorem vl_L_110 : jVL RL 110 mX8_bars 2 := ⟨List.forall_mem_cons.mpr ⟨w_1230, List.forall_mem_cons.mpr ⟨w_1231, List.forall_mem_cons.mpr ⟨w_1232, List.forall_mem_cons.mpr ⟨w_71, List.forall_mem_cons.mpr ⟨w_1233, fun _ h => absurd h List.not_mem_nil⟩⟩⟩⟩⟩, by decide, by decide, by decide, by decide +kernel⟩
theorem w_815 : (Cond.methodLink "OtherwiseCourtLaw" 111 ⟨"OtherwiseCourt", "queue", "(I)I"⟩) ∈ gTbl := gTbl_mem 815 (by decide +kernel) (by decide +kernel)
theorem w_816 : (Cond.instanceMethod ⟨"OtherwiseCourt", "queue", "(I)I"⟩) ∈ gTbl := gTbl_mem 816 (by decide +kernel) (by decide +kernel)
theorem w_817 : (Cond.selects "OtherwiseCourt" ⟨"OtherwiseCourt", "queue", "(I)I"⟩ ⟨"OtherwiseCourt", "queue", "(I)I"⟩) ∈ gTbl := gTbl_mem 817 (by decide +kernel) (by decide +kernel)
theorem w_818 : (Cond.code ⟨"OtherwiseCourt", "queue", "(I)I"⟩ prog_1_method_25_code 2 (some .int)) ∈ gTbl := gTbl_mem 818 (by decide +kernel) (by decide +kernel)
theorem vl_L_111 : jVL RL 111 mX7_queue 1 := ⟨List.forall_mem_cons.mpr ⟨w_815, List.forall_mem_cons.mpr ⟨w_816, List.forall_mem_cons.mpr ⟨w_817, List.forall_mem_cons.mpr ⟨w_63, List.forall_mem_cons.mpr ⟨w_818, fun _ h => absurd h List.not_mem_nil⟩⟩⟩⟩⟩, by decide, by decide, by decide, by decide +kernel⟩
theorem w_1234 : (Cond.methodLink "OtherwiseCourtLaw" 114 ⟨"OtherwiseCourtModel", "queue", "(I)I"⟩) ∈ gTbl := gTbl_mem 1234 (by decide +kernel) (by decide +kernel)
theorem w_1235 : (Cond.instanceMethod ⟨"OtherwiseCourtModel", "queue", "(I)I"⟩) ∈ gTbl := gTbl_mem 1235 (by decide +kernel) (by decide +kernel)
theorem w_1236 : (Cond.selects "OtherwiseCourtModel" ⟨"OtherwiseCourtModel", "queue", "(I)I"⟩ ⟨"OtherwiseCourtModel", "queue", "(I)I"⟩) ∈ gTbl := gTbl_mem 1236 (by decide +kernel) (by decide +kernel)
theorem w_1237 : (Cond.code ⟨"OtherwiseCourtModel", "queue", "(I)I"⟩ prog_10_method_59_code 2 (some .int)) ∈ gTbl := gTbl_mem 1237 (by decide +kernel) (by decide +kernel)
theorem vl_L_114 : jVL RL 114 mX8_queue 1 := ⟨List.forall_mem_cons.mpr ⟨w_1234, List.forall_mem_cons.mpr ⟨w_1235, List.forall_mem_cons.mpr ⟨w_1236, List.forall_mem_cons.mpr ⟨w_71, List.forall_mem_cons.mpr ⟨w_1237, fun _ h => absurd h List.not_mem_nil⟩⟩⟩⟩⟩, by decide, by decide, by decide, by decide +kernel⟩
theorem w_819 : (Cond.methodLink "OtherwiseCourtLaw" 115 ⟨"OtherwiseCourt", "odds", "(III)J"⟩) ∈ gTbl := gTbl_mem 819 (by decide +kernel) (by decide +kernel)
theorem w_820 : (Cond.instanceMethod ⟨"OtherwiseCourt", "odds", "(III)J"⟩) ∈ gTbl := gTbl_mem 820 (by decide +kernel) (by decide +kernel)
theorem w_821 : (Cond.selects "OtherwiseCourt" ⟨"OtherwiseCourt", "odds", "(III)J"⟩ ⟨"OtherwiseCourt", "odds", "(III)J"⟩) ∈ gTbl := gTbl_mem 821 (by decide +kernel) (by decide +kernel)
theorem w_822 : (Cond.code ⟨"OtherwiseCourt", "odds", "(III)J"⟩ prog_1_method_26_code 4 (some .long)) ∈ gTbl := gTbl_mem 822 (by decide +kernel) (by decide +kernel)
theorem vl_L_115 : jVL RL 115 mX7_odds 3 := ⟨List.forall_mem_cons.mpr ⟨w_819, List.forall_mem_cons.mpr ⟨w_820, List.forall_mem_cons.mpr ⟨w_821, List.forall_mem_cons.mpr ⟨w_63, List.forall_mem_cons.mpr ⟨w_822, fun _ h => absurd h List.not_mem_nil⟩⟩⟩⟩⟩, by decide, by decide, by decide, by decide +kernel⟩
theorem w_1238 : (Cond.methodLink "OtherwiseCourtLaw" 119 ⟨"OtherwiseCourtModel", "odds", "(III)J"⟩) ∈ gTbl := gTbl_mem 1238 (by decide +kernel) (by decide +kernel)
theorem w_1239 : (Cond.instanceMethod ⟨"OtherwiseCourtModel", "odds", "(III)J"⟩) ∈ gTbl := gTbl_mem 1239 (by decide +kernel) (by decide +kernel)
theorem w_1240 : (Cond.selects "OtherwiseCourtModel" ⟨"OtherwiseCourtModel", "odds", "(III)J"⟩ ⟨"OtherwiseCourtModel", "odds", "(III)J"⟩) ∈ gTbl := gTbl_mem 1240 (by decide +kernel) (by decide +kernel)
theorem w_1241 : (Cond.code ⟨"OtherwiseCourtModel", "odds", "(III)J"⟩ prog_10_method_62_code 4 (some .long)) ∈ gTbl := gTbl_mem 1241 (by decide +kernel) (by decide +kernel)
theorem vl_L_119 : jVL RL 119 mX8_odds 3 := ⟨List.forall_mem_cons.mpr ⟨w_1238, List.forall_mem_cons.mpr ⟨w_1239, List.forall_mem_cons.mpr ⟨w_1240, List.forall_mem_cons.mpr ⟨w_71, List.forall_mem_cons.mpr ⟨w_1241, fun _ h => absurd h List.not_mem_nil⟩⟩⟩⟩⟩, by decide, by decide, by decide, by decide +kernel⟩
theorem w_851 : (Cond.methodLink "OtherwiseCourtLaw" 120 ⟨"OtherwiseCourt", "expects", "(II)J"⟩) ∈ gTbl := gTbl_mem 851 (by decide +kernel) (by decide +kernel)
theorem w_852 : (Cond.instanceMethod ⟨"OtherwiseCourt", "expects", "(II)J"⟩) ∈ gTbl := gTbl_mem 852 (by decide +kernel) (by decide +kernel)
theorem w_853 : (Cond.selects "OtherwiseCourt" ⟨"OtherwiseCourt", "expects", "(II)J"⟩ ⟨"OtherwiseCourt", "expects", "(II)J"⟩) ∈ gTbl := gTbl_mem 853 (by decide +kernel) (by decide +kernel)
theorem w_854 : (Cond.code ⟨"OtherwiseCourt", "expects", "(II)J"⟩ prog_1_method_27_code 5 (some .long)) ∈ gTbl := gTbl_mem 854 (by decide +kernel) (by decide +kernel)
theorem vl_L_120 : jVL RL 120 mX7_expects 2 := ⟨List.forall_mem_cons.mpr ⟨w_851, List.forall_mem_cons.mpr ⟨w_852, List.forall_mem_cons.mpr ⟨w_853, List.forall_mem_cons.mpr ⟨w_63, List.forall_mem_cons.mpr ⟨w_854, fun _ h => absurd h List.not_mem_nil⟩⟩⟩⟩⟩, by decide, by decide, by decide, by decide +kernel⟩
theorem w_1251 : (Cond.methodLink "OtherwiseCourtLaw" 124 ⟨"OtherwiseCourtModel", "expects", "(II)J"⟩) ∈ gTbl := gTbl_mem 1251 (by decide +kernel) (by decide +kernel)
theorem w_1252 : (Cond.instanceMethod ⟨"OtherwiseCourtModel", "expects", "(II)J"⟩) ∈ gTbl := gTbl_mem 1252 (by decide +kernel) (by decide +kernel)
theorem w_1253 : (Cond.selects "OtherwiseCourtModel" ⟨"OtherwiseCourtModel", "expects", "(II)J"⟩ ⟨"OtherwiseCourtModel", "expects", "(II)J"⟩) ∈ gTbl := gTbl_mem 1253 (by decide +kernel) (by decide +kernel)
theorem w_1254 : (Cond.code ⟨"OtherwiseCourtModel", "expects", "(II)J"⟩ prog_10_method_63_code 3 (some .long)) ∈ gTbl := gTbl_mem 1254 (by decide +kernel) (by decide +kernel)
theorem vl_L_124 : jVL RL 124 mX8_expects 2 := ⟨List.forall_mem_cons.mpr ⟨w_1251, List.forall_mem_cons.mpr ⟨w_1252, List.forall_mem_cons.mpr ⟨w_1253, List.forall_mem_cons.mpr ⟨w_71, List.forall_mem_cons.mpr ⟨w_1254, fun _ h => absurd h List.not_mem_nil⟩⟩⟩⟩⟩, by decide, by decide, by decide, by decide +kernel⟩
theorem w_855 : (Cond.methodLink "OtherwiseCourtLaw" 125 ⟨"OtherwiseCourt", "act", "(III)I"⟩) ∈ gTbl := gTbl_mem 855 (by decide +kernel) (by decide +kernel)
theorem w_856 : (Cond.instanceMethod ⟨"OtherwiseCourt", "act", "(III)I"⟩) ∈ gTbl := gTbl_mem 856 (by decide +kernel) (by decide +kernel)
theorem w_857 : (Cond.selects "OtherwiseCourt" ⟨"OtherwiseCourt", "act", "(III)I"⟩ ⟨"OtherwiseCourt", "act", "(III)I"⟩) ∈ gTbl := gTbl_mem 857 (by decide +kernel) (by decide +kernel)
theorem w_858 : (Cond.code ⟨"OtherwiseCourt", "act", "(III)I"⟩ prog_1_method_28_code 4 (some .int)) ∈ gTbl := gTbl_mem 858 (by decide +kernel) (by decide +kernel)
theorem vl_L_125 : jVL RL 125 mX7_act 3 := ⟨List.forall_mem_cons.mpr ⟨w_855, List.forall_mem_cons.mpr ⟨w_856, List.forall_mem_cons.mpr ⟨w_857, List.forall_mem_cons.mpr ⟨w_63, List.forall_mem_cons.mpr ⟨w_858, fun _ h => absurd h List.not_mem_nil⟩⟩⟩⟩⟩, by decide, by decide, by decide, by decide +kernel⟩
theorem w_1255 : (Cond.methodLink "OtherwiseCourtLaw" 128 ⟨"OtherwiseCourtModel", "act", "(III)I"⟩) ∈ gTbl := gTbl_mem 1255 (by decide +kernel) (by decide +kernel)
theorem w_1256 : (Cond.instanceMethod ⟨"OtherwiseCourtModel", "act", "(III)I"⟩) ∈ gTbl := gTbl_mem 1256 (by decide +kernel) (by decide +kernel)
theorem w_1257 : (Cond.selects "OtherwiseCourtModel" ⟨"OtherwiseCourtModel", "act", "(III)I"⟩ ⟨"OtherwiseCourtModel", "act", "(III)I"⟩) ∈ gTbl := gTbl_mem 1257 (by decide +kernel) (by decide +kernel)
theorem w_1258 : (Cond.code ⟨"OtherwiseCourtModel", "act", "(III)I"⟩ prog_10_method_72_code 4 (some .int)) ∈ gTbl := gTbl_mem 1258 (by decide +kernel) (by decide +kernel)
theorem vl_L_128 : jVL RL 128 mX8_act 3 := ⟨List.forall_mem_cons.mpr ⟨w_1255, List.forall_mem_cons.mpr ⟨w_1256, List.forall_mem_cons.mpr ⟨w_1257, List.forall_mem_cons.mpr ⟨w_71, List.forall_mem_cons.mpr ⟨w_1258, fun _ h => absurd h List.not_mem_nil⟩⟩⟩⟩⟩, by decide, by decide, by decide, by decide +kernel⟩
theorem w_878 : (Cond.methodLink "OtherwiseCourtLaw" 129 ⟨"OtherwiseCourt", "trace", "(I)I"⟩) ∈ gTbl := gTbl_mem 878 (by decide +kernel) (by decide +kernel)
theorem w_879 : (Cond.instanceMethod ⟨"OtherwiseCourt", "trace", "(I)I"⟩) ∈ gTbl := gTbl_mem 879 (by decide +kernel) (by decide +kernel)
theorem w_880 : (Cond.selects "OtherwiseCourt" ⟨"OtherwiseCourt", "trace", "(I)I"⟩ ⟨"OtherwiseCourt", "trace", "(I)I"⟩) ∈ gTbl := gTbl_mem 880 (by decide +kernel) (by decide +kernel)
theorem w_881 : (Cond.code ⟨"OtherwiseCourt", "trace", "(I)I"⟩ prog_1_method_29_code 2 (some .int)) ∈ gTbl := gTbl_mem 881 (by decide +kernel) (by decide +kernel)
theorem vl_L_129 : jVL RL 129 mX7_trace 1 := ⟨List.forall_mem_cons.mpr ⟨w_878, List.forall_mem_cons.mpr ⟨w_879, List.forall_mem_cons.mpr ⟨w_880, List.forall_mem_cons.mpr ⟨w_63, List.forall_mem_cons.mpr ⟨w_881, fun _ h => absurd h List.not_mem_nil⟩⟩⟩⟩⟩, by decide, by decide, by decide, by decide +kernel⟩
theorem w_1290 : (Cond.methodLink "OtherwiseCourtLaw" 132 ⟨"OtherwiseCourtModel", "trace", "(I)I"⟩) ∈ gTbl := gTbl_mem 1290 (by decide +kernel) (by decide +kernel)
theorem w_1291 : (Cond.instanceMethod ⟨"OtherwiseCourtModel", "trace", "(I)I"⟩) ∈ gTbl := gTbl_mem 1291 (by decide +kernel) (by decide +kernel)
theorem w_1292 : (Cond.selects "OtherwiseCourtModel" ⟨"OtherwiseCourtModel", "trace", "(I)I"⟩ ⟨"OtherwiseCourtModel", "trace", "(I)I"⟩) ∈ gTbl := gTbl_mem 1292 (by decide +kernel) (by decide +kernel)
theorem w_1293 : (Cond.code ⟨"OtherwiseCourtModel", "trace", "(I)I"⟩ prog_10_method_73_code 2 (some .int)) ∈ gTbl := gTbl_mem 1293 (by decide +kernel) (by decide +kernel)
theorem vl_L_132 : jVL RL 132 mX8_trace 1 := ⟨List.forall_mem_cons.mpr ⟨w_1290, List.forall_mem_cons.mpr ⟨w_1291, List.forall_mem_cons.mpr ⟨w_1292, List.forall_mem_cons.mpr ⟨w_71, List.forall_mem_cons.mpr ⟨w_1293, fun _ h => absurd h List.not_mem_nil⟩⟩⟩⟩⟩, by decide, by decide, by decide, by decide +kernel⟩
theorem w_882 : (Cond.methodLink "OtherwiseCourtLaw" 133 ⟨"OtherwiseCourt", "as", "(II)I"⟩) ∈ gTbl := gTbl_mem 882 (by decide +kernel) (by decide +kernel)
theorem w_883 : (Cond.instanceMethod ⟨"OtherwiseCourt", "as", "(II)I"⟩) ∈ gTbl := gTbl_mem 883 (by decide +kernel) (by decide +kernel)
theorem w_884 : (Cond.selects "OtherwiseCourt" ⟨"OtherwiseCourt", "as", "(II)I"⟩ ⟨"OtherwiseCourt", "as", "(II)I"⟩) ∈ gTbl := gTbl_mem 884 (by decide +kernel) (by decide +kernel)
theorem w_885 : (Cond.code ⟨"OtherwiseCourt", "as", "(II)I"⟩ prog_1_method_30_code 5 (some .int)) ∈ gTbl := gTbl_mem 885 (by decide +kernel) (by decide +kernel)
theorem vl_L_133 : jVL RL 133 mX7_as 2 := ⟨List.forall_mem_cons.mpr ⟨w_882, List.forall_mem_cons.mpr ⟨w_883, List.forall_mem_cons.mpr ⟨w_884, List.forall_mem_cons.mpr ⟨w_63, List.forall_mem_cons.mpr ⟨w_885, fun _ h => absurd h List.not_mem_nil⟩⟩⟩⟩⟩, by decide, by decide, by decide, by decide +kernel⟩
theorem w_1294 : (Cond.methodLink "OtherwiseCourtLaw" 136 ⟨"OtherwiseCourtModel", "as", "(II)I"⟩) ∈ gTbl := gTbl_mem 1294 (by decide +kernel) (by decide +kernel)
theorem w_1295 : (Cond.instanceMethod ⟨"OtherwiseCourtModel", "as", "(II)I"⟩) ∈ gTbl := gTbl_mem 1295 (by decide +kernel) (by decide +kernel)
theorem w_1296 : (Cond.selects "OtherwiseCourtModel" ⟨"OtherwiseCourtModel", "as", "(II)I"⟩ ⟨"OtherwiseCourtModel", "as", "(II)I"⟩) ∈ gTbl := gTbl_mem 1296 (by decide +kernel) (by decide +kernel)
theorem w_1297 : (Cond.code ⟨"OtherwiseCourtModel", "as", "(II)I"⟩ prog_10_method_74_code 3 (some .int)) ∈ gTbl := gTbl_mem 1297 (by decide +kernel) (by decide +kernel)
theorem vl_L_136 : jVL RL 136 mX8_as 2 := ⟨List.forall_mem_cons.mpr ⟨w_1294, List.forall_mem_cons.mpr ⟨w_1295, List.forall_mem_cons.mpr ⟨w_1296, List.forall_mem_cons.mpr ⟨w_71, List.forall_mem_cons.mpr ⟨w_1297, fun _ h => absurd h List.not_mem_nil⟩⟩⟩⟩⟩, by decide, by decide, by decide, by decide +kernel⟩
theorem w_887 : (Cond.methodLink "OtherwiseCourtLaw" 137 ⟨"OtherwiseCourt", "image", "()I"⟩) ∈ gTbl := gTbl_mem 887 (by decide +kernel) (by decide +kernel)
theorem w_888 : (Cond.instanceMethod ⟨"OtherwiseCourt", "image", "()I"⟩) ∈ gTbl := gTbl_mem 888 (by decide +kernel) (by decide +kernel)
theorem w_889 : (Cond.selects "OtherwiseCourt" ⟨"OtherwiseCourt", "image", "()I"⟩ ⟨"OtherwiseCourt", "image", "()I"⟩) ∈ gTbl := gTbl_mem 889 (by decide +kernel) (by decide +kernel)
theorem w_890 : (Cond.code ⟨"OtherwiseCourt", "image", "()I"⟩ prog_1_method_31_code 1 (some .int)) ∈ gTbl := gTbl_mem 890 (by decide +kernel) (by decide +kernel)
theorem vl_L_137 : jVL RL 137 mX7_image 0 := ⟨List.forall_mem_cons.mpr ⟨w_887, List.forall_mem_cons.mpr ⟨w_888, List.forall_mem_cons.mpr ⟨w_889, List.forall_mem_cons.mpr ⟨w_63, List.forall_mem_cons.mpr ⟨w_890, fun _ h => absurd h List.not_mem_nil⟩⟩⟩⟩⟩, by decide, by decide, by decide, by decide +kernel⟩
theorem w_1298 : (Cond.methodLink "OtherwiseCourtLaw" 140 ⟨"OtherwiseCourtModel", "image", "()I"⟩) ∈ gTbl := gTbl_mem 1298 (by decide +kernel) (by decide +kernel)
theorem w_1299 : (Cond.instanceMethod ⟨"OtherwiseCourtModel", "image", "()I"⟩) ∈ gTbl := gTbl_mem 1299 (by decide +kernel) (by decide +kernel)
theorem w_1300 : (Cond.selects "OtherwiseCourtModel" ⟨"OtherwiseCourtModel", "image", "()I"⟩ ⟨"OtherwiseCourtModel", "image", "()I"⟩) ∈ gTbl := gTbl_mem 1300 (by decide +kernel) (by decide +kernel)
theorem w_1301 : (Cond.code ⟨"OtherwiseCourtModel", "image", "()I"⟩ prog_10_method_75_code 2 (some .int)) ∈ gTbl := gTbl_mem 1301 (by decide +kernel) (by decide +kernel)
theorem vl_L_140 : jVL RL 140 mX8_image 0 := ⟨List.forall_mem_cons.mpr ⟨w_1298, List.forall_mem_cons.mpr ⟨w_1299, List.forall_mem_cons.mpr ⟨w_1300, List.forall_mem_cons.mpr ⟨w_71, List.forall_mem_cons.mpr ⟨w_1301, fun _ h => absurd h List.not_mem_nil⟩⟩⟩⟩⟩, by decide, by decide, by decide, by decide +kernel⟩
theorem w_896 : (Cond.methodLink "OtherwiseCourtLaw" 141 ⟨"OtherwiseCourt", "undo", "()I"⟩) ∈ gTbl := gTbl_mem 896 (by decide +kernel) (by decide +kernel)
theorem w_897 : (Cond.instanceMethod ⟨"OtherwiseCourt", "undo", "()I"⟩) ∈ gTbl := gTbl_mem 897 (by decide +kernel) (by decide +kernel)
theorem w_898 : (Cond.selects "OtherwiseCourt" ⟨"OtherwiseCourt", "undo", "()I"⟩ ⟨"OtherwiseCourt", "undo", "()I"⟩) ∈ gTbl := gTbl_mem 898 (by decide +kernel) (by decide +kernel)
theorem w_899 : (Cond.code ⟨"OtherwiseCourt", "undo", "()I"⟩ prog_1_method_32_code 1 (some .int)) ∈ gTbl := gTbl_mem 899 (by decide +kernel) (by decide +kernel)
theorem vl_L_141 : jVL RL 141 mX7_undo 0 := ⟨List.forall_mem_cons.mpr ⟨w_896, List.forall_mem_cons.mpr ⟨w_897, List.forall_mem_cons.mpr ⟨w_898, List.forall_mem_cons.mpr ⟨w_63, List.forall_mem_cons.mpr ⟨w_899, fun _ h => absurd h List.not_mem_nil⟩⟩⟩⟩⟩, by decide, by decide, by decide, by decide +kernel⟩
theorem w_1302 : (Cond.methodLink "OtherwiseCourtLaw" 144 ⟨"OtherwiseCourtModel", "undo", "()I"⟩) ∈ gTbl := gTbl_mem 1302 (by decide +kernel) (by decide +kernel)
theorem w_1303 : (Cond.instanceMethod ⟨"OtherwiseCourtModel", "undo", "()I"⟩) ∈ gTbl := gTbl_mem 1303 (by decide +kernel) (by decide +kernel)
theorem w_1304 : (Cond.selects "OtherwiseCourtModel" ⟨"OtherwiseCourtModel", "undo", "()I"⟩ ⟨"OtherwiseCourtModel", "undo", "()I"⟩) ∈ gTbl := gTbl_mem 1304 (by decide +kernel) (by decide +kernel)
theorem w_1305 : (Cond.code ⟨"OtherwiseCourtModel", "undo", "()I"⟩ prog_10_method_76_code 2 (some .int)) ∈ gTbl := gTbl_mem 1305 (by decide +kernel) (by decide +kernel)
theorem vl_L_144 : jVL RL 144 mX8_undo 0 := ⟨List.forall_mem_cons.mpr ⟨w_1302, List.forall_mem_cons.mpr ⟨w_1303, List.forall_mem_cons.mpr ⟨w_1304, List.forall_mem_cons.mpr ⟨w_71, List.forall_mem_cons.mpr ⟨w_1305, fun _ h => absurd h List.not_mem_nil⟩⟩⟩⟩⟩, by decide, by decide, by decide, by decide +kernel⟩
theorem w_900 : (Cond.methodLink "OtherwiseCourtLaw" 145 ⟨"OtherwiseCourt", "count", "(I)I"⟩) ∈ gTbl := gTbl_mem 900 (by decide +kernel) (by decide +kernel)
theorem w_901 : (Cond.instanceMethod ⟨"OtherwiseCourt", "count", "(I)I"⟩) ∈ gTbl := gTbl_mem 901 (by decide +kernel) (by decide +kernel)
theorem w_902 : (Cond.selects "OtherwiseCourt" ⟨"OtherwiseCourt", "count", "(I)I"⟩ ⟨"OtherwiseCourt", "count", "(I)I"⟩) ∈ gTbl := gTbl_mem 902 (by decide +kernel) (by decide +kernel)
theorem w_903 : (Cond.code ⟨"OtherwiseCourt", "count", "(I)I"⟩ prog_1_method_33_code 2 (some .int)) ∈ gTbl := gTbl_mem 903 (by decide +kernel) (by decide +kernel)
theorem vl_L_145 : jVL RL 145 mX7_count 1 := ⟨List.forall_mem_cons.mpr ⟨w_900, List.forall_mem_cons.mpr ⟨w_901, List.forall_mem_cons.mpr ⟨w_902, List.forall_mem_cons.mpr ⟨w_63, List.forall_mem_cons.mpr ⟨w_903, fun _ h => absurd h List.not_mem_nil⟩⟩⟩⟩⟩, by decide, by decide, by decide, by decide +kernel⟩
theorem w_1306 : (Cond.methodLink "OtherwiseCourtLaw" 148 ⟨"OtherwiseCourtModel", "count", "(I)I"⟩) ∈ gTbl := gTbl_mem 1306 (by decide +kernel) (by decide +kernel)
theorem w_1307 : (Cond.instanceMethod ⟨"OtherwiseCourtModel", "count", "(I)I"⟩) ∈ gTbl := gTbl_mem 1307 (by decide +kernel) (by decide +kernel)
theorem w_1308 : (Cond.selects "OtherwiseCourtModel" ⟨"OtherwiseCourtModel", "count", "(I)I"⟩ ⟨"OtherwiseCourtModel", "count", "(I)I"⟩) ∈ gTbl := gTbl_mem 1308 (by decide +kernel) (by decide +kernel)
theorem w_1309 : (Cond.code ⟨"OtherwiseCourtModel", "count", "(I)I"⟩ prog_10_method_77_code 2 (some .int)) ∈ gTbl := gTbl_mem 1309 (by decide +kernel) (by decide +kernel)
theorem vl_L_148 : jVL RL 148 mX8_count 1 := ⟨List.forall_mem_cons.mpr ⟨w_1306, List.forall_mem_cons.mpr ⟨w_1307, List.forall_mem_cons.mpr ⟨w_1308, List.forall_mem_cons.mpr ⟨w_71, List.forall_mem_cons.mpr ⟨w_1309, fun _ h => absurd h List.not_mem_nil⟩⟩⟩⟩⟩, by decide, by decide, by decide, by decide +kernel⟩
theorem w_62 : (Cond.initialized "OtherwiseCourtLaw") ∈ gTbl := gTbl_mem 62 (by decide +kernel) (by decide +kernel)
theorem w_72 : (Cond.initialized "java/lang/Math") ∈ gTbl := gTbl_mem 72 (by decide +kernel) (by decide +kernel)
theorem w_76 : (Cond.initialized "java/lang/StringUTF16") ∈ gTbl := gTbl_mem 76 (by decide +kernel) (by decide +kernel)
theorem w_78 : (Cond.initialized "java/lang/System") ∈ gTbl := gTbl_mem 78 (by decide +kernel) (by decide +kernel)
theorem w_80 : (Cond.instantiable "OtherwiseCourt" 8) ∈ gTbl := gTbl_mem 80 (by decide +kernel) (by decide +kernel)
theorem w_88 : (Cond.instantiable "OtherwiseCourt$Hall" 17) ∈ gTbl := gTbl_mem 88 (by decide +kernel) (by decide +kernel)
theorem w_167 : (Cond.arrayClass .int) ∈ gTbl := gTbl_mem 167 (by decide +kernel) (by decide +kernel)
theorem w_168 : (Cond.arrayClass .byte) ∈ gTbl := gTbl_mem 168 (by decide +kernel) (by decide +kernel)
theorem w_170 : (Cond.instantiable "OtherwiseCourt$Law" 19) ∈ gTbl := gTbl_mem 170 (by decide +kernel) (by decide +kernel)
theorem w_240 : (Cond.instantiable "OtherwiseCourt$Sitting" 11) ∈ gTbl := gTbl_mem 240 (by decide +kernel) (by decide +kernel)
theorem w_246 : (Cond.instantiable "OtherwiseCourt$Tally" 8) ∈ gTbl := gTbl_mem 246 (by decide +kernel) (by decide +kernel)
theorem w_285 : (Cond.arrayClass .boolean) ∈ gTbl := gTbl_mem 285 (by decide +kernel) (by decide +kernel)
theorem w_326 : (Cond.instantiable "OtherwiseCourt$Search" 7) ∈ gTbl := gTbl_mem 326 (by decide +kernel) (by decide +kernel)
theorem w_360 : (Cond.instantiable "OtherwiseCourt$Coins" 3) ∈ gTbl := gTbl_mem 360 (by decide +kernel) (by decide +kernel)
theorem w_379 : (Cond.instantiable "OtherwiseCourt$Deeds" 5) ∈ gTbl := gTbl_mem 379 (by decide +kernel) (by decide +kernel)
theorem w_905 : (Cond.instantiable "OtherwiseCourtModel" 31) ∈ gTbl := gTbl_mem 905 (by decide +kernel) (by decide +kernel)
