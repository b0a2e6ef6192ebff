def mjCw (q : mjE × Nat) : Prop := (mjSub (q.2 / 1000))[q.2 % 1000]? = some (Cond.code q.1.2.1 q.1.2.2.1 q.1.2.2.2.1 q.1.2.2.2.2.1)
theorem mjcw0 : (mjSub 1)[111]? = some (Cond.code yX0_init cX0_init 1 none) := rfl
theorem mjcw1 : (mjSub 4)[26]? = some (Cond.code yX0_tell cX0_tell 6 none) := rfl
theorem mjcw2 : (mjSub 2)[185]? = some (Cond.code yX1_init cX1_init 1 none) := rfl
theorem mjcw3 : (mjSub 4)[117]? = some (Cond.code yX1_forget cX1_forget 1 none) := rfl
theorem mjcw4 : (mjSub 6)[165]? = some (Cond.code yX1_keep cX1_keep 7 none) := rfl
theorem mjcw5 : (mjSub 4)[136]? = some (Cond.code yX11_at cX11_at 2 (some .int)) := rfl
theorem mjcw6 : (mjSub 4)[22]? = some (Cond.code yX2_deed cX2_deed 2 (some (.object "BatonZones$Act"))) := rfl
theorem mjcw7 : (mjSub 3)[212]? = some (Cond.code yX2_hasTeam cX2_hasTeam 2 (some .boolean)) := rfl
theorem mjcw8 : (mjSub 3)[208]? = some (Cond.code yX2_runner cX2_runner 2 (some (.object "BatonZones$Team"))) := rfl
theorem mjcw9 : (mjSub 4)[9]? = some (Cond.code yX7_setLeg cX7_setLeg 4 none) := rfl
theorem mjcw10 : (mjSub 6)[184]? = some (Cond.code yX1_takeBack cX1_takeBack 5 none) := rfl
theorem mjcw11 : (mjSub 1)[41]? = some (Cond.code yX8_init cX8_init 1 none) := rfl
theorem mjcw12 : (mjSub 1)[77]? = some (Cond.code yX7_init cX7_init 1 none) := rfl
theorem mjcw13 : (mjSub 1)[35]? = some (Cond.code yX2_init cX2_init 2 none) := rfl
theorem mjcw14 : (mjSub 3)[16]? = some (Cond.code yX8_clear cX8_clear 1 none) := rfl
theorem mjcw15 : (mjSub 3)[12]? = some (Cond.code yX2_clear cX2_clear 1 none) := rfl
theorem mjcw16 : (mjSub 5)[48]? = some (Cond.code yX2_hasRule cX2_hasRule 2 (some .boolean)) := rfl
theorem mjcw17 : (mjSub 5)[209]? = some (Cond.code yX2_hasAct cX2_hasAct 2 (some .boolean)) := rfl
theorem mjcw18 : (mjSub 6)[46]? = some (Cond.code yX2_wasTold cX2_wasTold 2 (some .boolean)) := rfl
theorem mjcw19 : (mjSub 5)[160]? = some (Cond.code yX2_hasLeg cX2_hasLeg 3 (some .boolean)) := rfl
theorem mjcw20 : (mjSub 4)[194]? = some (Cond.code yX2_kindOfRule cX2_kindOfRule 2 (some .int)) := rfl
theorem mjcw21 : (mjSub 3)[219]? = some (Cond.code yX11_longAt cX11_longAt 2 (some .long)) := rfl
theorem mjcw22 : (mjSub 3)[216]? = some (Cond.code yX2_nameOfRule cX2_nameOfRule 2 (some .long)) := rfl
theorem mjcw23 : (mjSub 5)[11]? = some (Cond.code yX2_isWhole cX2_isWhole 2 (some .boolean)) := rfl
theorem mjcw24 : (mjSub 3)[223]? = some (Cond.code yX2_teamInLane cX2_teamInLane 3 (some .int)) := rfl
theorem mjcw25 : (mjSub 3)[204]? = some (Cond.code yX2_teamOfName cX2_teamOfName 4 (some .int)) := rfl
theorem mjcw26 : (mjSub 3)[200]? = some (Cond.code yX2_isNameTaken cX2_isNameTaken 4 (some .boolean)) := rfl
theorem mjcw27 : (mjSub 3)[227]? = some (Cond.code yX2_addTeam cX2_addTeam 5 none) := rfl
theorem mjcw28 : (mjSub 4)[18]? = some (Cond.code yX2_addAct cX2_addAct 6 none) := rfl
theorem mjcw29 : (mjSub 4)[105]? = some (Cond.code yX2_addRule cX2_addRule 4 none) := rfl
theorem mjcw30 : (mjSub 4)[1]? = some (Cond.code yX2_mostMetres cX2_mostMetres 2 (some .int)) := rfl
theorem mjcw31 : (mjSub 4)[129]? = some (Cond.code yX7_settle cX7_settle 3 none) := rfl
theorem mjcw32 : (mjSub 4)[133]? = some (Cond.code yX7_metresOf cX7_metresOf 2 (some .int)) := rfl
theorem mjcw33 : (mjSub 4)[140]? = some (Cond.code yX2_metresOutside cX2_metresOutside 2 (some .int)) := rfl
theorem mjcw34 : (mjSub 4)[145]? = some (Cond.code yX7_endOf cX7_endOf 2 (some .int)) := rfl
theorem mjcw35 : (mjSub 4)[125]? = some (Cond.code yX2_settle cX2_settle 5 none) := rfl
theorem mjcw36 : (mjSub 5)[188]? = some (Cond.code yX2_boxFrom cX2_boxFrom 2 (some .int)) := rfl
theorem mjcw37 : (mjSub 5)[192]? = some (Cond.code yX2_boxTo cX2_boxTo 2 (some .int)) := rfl
theorem mjcw38 : (mjSub 5)[201]? = some (Cond.code yX2_isInABox cX2_isInABox 3 (some .boolean)) := rfl
theorem mjcw39 : (mjSub 5)[184]? = some (Cond.code yX7_passOf cX7_passOf 2 (some .int)) := rfl
theorem mjcw40 : (mjSub 5)[180]? = some (Cond.code yX2_runInBox cX2_runInBox 6 (some .int)) := rfl
theorem mjcw41 : (mjSub 4)[179]? = some (Cond.code yX2_earlier cX2_earlier 9 (some .long)) := rfl
theorem mjcw42 : (mjSub 4)[190]? = some (Cond.code yX2_forcers cX2_forcers 9 (some .long)) := rfl
theorem mjcw43 : (mjSub 5)[95]? = some (Cond.code yX2_teamsAhead cX2_teamsAhead 7 (some .int)) := rfl
theorem mjcw44 : (mjSub 5)[90]? = some (Cond.code yX2_kth cX2_kth 4 (some .int)) := rfl
theorem mjcw45 : (mjSub 2)[52]? = some (Cond.code yX3_init cX3_init 1 none) := rfl
theorem mjcw46 : (mjSub 4)[42]? = some (Cond.code yX8_begin cX8_begin 2 none) := rfl
theorem mjcw47 : (mjSub 4)[46]? = some (Cond.code yX3_comparisonEnds cX3_comparisonEnds 2 (some .boolean)) := rfl
theorem mjcw48 : (mjSub 4)[54]? = some (Cond.code yX8_put cX8_put 4 none) := rfl
theorem mjcw49 : (mjSub 4)[50]? = some (Cond.code yX3_reduce cX3_reduce 4 none) := rfl
theorem mjcw50 : (mjSub 3)[150]? = some (Cond.code yX9_packed cX9_packed 6 (some .long)) := rfl
theorem mjcw51 : (mjSub 3)[146]? = some (Cond.code yX9_indexIn cX9_indexIn 3 (some .int)) := rfl
theorem mjcw52 : (mjSub 4)[58]? = some (Cond.code yX3_truthEnds cX3_truthEnds 3 (some .boolean)) := rfl
theorem mjcw53 : (mjSub 4)[64]? = some (Cond.code yX8_finish cX8_finish 1 none) := rfl
theorem mjcw54 : (mjSub 4)[68]? = some (Cond.code yX3_comparisonStarts cX3_comparisonStarts 2 (some .boolean)) := rfl
theorem mjcw55 : (mjSub 4)[76]? = some (Cond.code yX3_push cX3_push 3 none) := rfl
theorem mjcw56 : (mjSub 4)[72]? = some (Cond.code yX3_openOne cX3_openOne 3 (some .int)) := rfl
theorem mjcw57 : (mjSub 4)[80]? = some (Cond.code yX3_startNumber cX3_startNumber 4 (some .int)) := rfl
theorem mjcw58 : (mjSub 4)[92]? = some (Cond.code yX8_isComparison cX8_isComparison 1 (some .boolean)) := rfl
theorem mjcw59 : (mjSub 4)[89]? = some (Cond.code yX3_join cX3_join 4 (some .int)) := rfl
theorem mjcw60 : (mjSub 4)[96]? = some (Cond.code yX3_closeCurly cX3_closeCurly 2 (some .int)) := rfl
theorem mjcw61 : (mjSub 4)[85]? = some (Cond.code yX3_goOnWithNumber cX3_goOnWithNumber 3 (some .int)) := rfl
theorem mjcw62 : (mjSub 4)[100]? = some (Cond.code yX3_goOnWithTruth cX3_goOnWithTruth 4 (some .int)) := rfl
theorem mjcw63 : (mjSub 3)[34]? = some (Cond.code yX9_byteAt cX9_byteAt 2 (some .int)) := rfl
theorem mjcw64 : (mjSub 3)[37]? = some (Cond.code yX9_isLetter cX9_isLetter 1 (some .boolean)) := rfl
theorem mjcw65 : (mjSub 3)[41]? = some (Cond.code yX9_takeWord cX9_takeWord 1 none) := rfl
theorem mjcw66 : (mjSub 3)[44]? = some (Cond.code yX9_isDigit cX9_isDigit 1 (some .boolean)) := rfl
theorem mjcw67 : (mjSub 3)[48]? = some (Cond.code yX9_takeNumber cX9_takeNumber 1 none) := rfl
theorem mjcw68 : (mjSub 3)[30]? = some (Cond.code yX9_advance cX9_advance 2 none) := rfl
theorem mjcw69 : (mjSub 4)[38]? = some (Cond.code yX3_read cX3_read 6 (some .int)) := rfl
theorem mjcw70 : (mjSub 2)[114]? = some (Cond.code yX4_init cX4_init 1 none) := rfl
theorem mjcw71 : (mjSub 5)[223]? = some (Cond.code yX4_factNow cX4_factNow 2 (some .int)) := rfl
theorem mjcw72 : (mjSub 4)[173]? = some (Cond.code yX7_legAt cX7_legAt 3 (some .int)) := rfl
theorem mjcw73 : (mjSub 4)[169]? = some (Cond.code yX7_whereAt cX7_whereAt 6 (some .int)) := rfl
theorem mjcw74 : (mjSub 4)[163]? = some (Cond.code yX4_look cX4_look 13 none) := rfl
theorem mjcw75 : (mjSub 5)[219]? = some (Cond.code yX4_lookAt cX4_lookAt 4 none) := rfl
theorem mjcw76 : (mjSub 4)[34]? = some (Cond.code yX8_condition cX8_condition 2 (some .int)) := rfl
theorem mjcw77 : (mjSub 4)[203]? = some (Cond.code yX8_fromOf cX8_fromOf 3 (some .int)) := rfl
theorem mjcw78 : (mjSub 4)[209]? = some (Cond.code yX8_toOf cX8_toOf 3 (some .int)) := rfl
theorem mjcw79 : (mjSub 4)[218]? = some (Cond.code yX8_opAt cX8_opAt 2 (some .int)) := rfl
theorem mjcw80 : (mjSub 4)[222]? = some (Cond.code yX8_numberAt cX8_numberAt 2 (some .int)) := rfl
theorem mjcw81 : (mjSub 4)[228]? = some (Cond.code yX8_leftOf cX8_leftOf 2 (some .int)) := rfl
theorem mjcw82 : (mjSub 4)[236]? = some (Cond.code yX4_within32 cX4_within32 2 (some .long)) := rfl
theorem mjcw83 : (mjSub 4)[233]? = some (Cond.code yX4_reckon cX4_reckon 5 (some .long)) := rfl
theorem mjcw84 : (mjSub 4)[214]? = some (Cond.code yX4_work cX4_work 8 (some .long)) := rfl
theorem mjcw85 : (mjSub 4)[199]? = some (Cond.code yX4_isSo cX4_isSo 7 (some .boolean)) := rfl
theorem mjcw86 : (mjSub 6)[22]? = some (Cond.code yX4_isOfBoth cX4_isOfBoth 3 (some .boolean)) := rfl
theorem mjcw87 : (mjSub 6)[26]? = some (Cond.code yX4_isLeftEnough cX4_isLeftEnough 6 (some .boolean)) := rfl
theorem mjcw88 : (mjSub 6)[18]? = some (Cond.code yX4_weigh cX4_weigh 6 (some .int)) := rfl
theorem mjcw89 : (mjSub 6)[30]? = some (Cond.code yX4_pick cX4_pick 3 none) := rfl
theorem mjcw90 : (mjSub 6)[14]? = some (Cond.code yX4_choose cX4_choose 8 none) := rfl
theorem mjcw91 : (mjSub 6)[10]? = some (Cond.code yX4_reason cX4_reason 9 (some .int)) := rfl
theorem mjcw92 : (mjSub 5)[0]? = some (Cond.code yX8_isTold cX8_isTold 3 (some .boolean)) := rfl
theorem mjcw93 : (mjSub 4)[159]? = some (Cond.code yX4_rulesStriking cX4_rulesStriking 10 (some .int)) := rfl
theorem mjcw94 : (mjSub 6)[50]? = some (Cond.code yX4_tally cX4_tally 13 (some .int)) := rfl
theorem mjcw95 : (mjSub 6)[156]? = some (Cond.code yX4_isUnstruck cX4_isUnstruck 15 (some .boolean)) := rfl
theorem mjcw96 : (mjSub 6)[147]? = some (Cond.code yX4_fewestWaived cX4_fewestWaived 8 (some .int)) := rfl
theorem mjcw97 : (mjSub 2)[104]? = some (Cond.code yX5_init cX5_init 1 none) := rfl
theorem mjcw98 : (mjSub 5)[84]? = some (Cond.code yX5_kthAt cX5_kthAt 5 (some .int)) := rfl
theorem mjcw99 : (mjSub 4)[154]? = some (Cond.code yX7_time cX7_time 1 (some .int)) := rfl
theorem mjcw100 : (mjSub 5)[107]? = some (Cond.code yX5_lastTenth cX5_lastTenth 4 (some .int)) := rfl
theorem mjcw101 : (mjSub 5)[114]? = some (Cond.code yX5_leadAt cX5_leadAt 6 (some .int)) := rfl
theorem mjcw102 : (mjSub 5)[103]? = some (Cond.code yX5_boldestTenth cX5_boldestTenth 8 (some .int)) := rfl
theorem mjcw103 : (mjSub 5)[122]? = some (Cond.code yX5_leadChanges cX5_leadChanges 10 (some .int)) := rfl
theorem mjcw104 : (mjSub 5)[76]? = some (Cond.code yX7_arrival cX7_arrival 5 (some .int)) := rfl
theorem mjcw105 : (mjSub 5)[130]? = some (Cond.code yX5_kthToCut cX5_kthToCut 5 (some .int)) := rfl
theorem mjcw106 : (mjSub 5)[140]? = some (Cond.code yX5_laterToLine cX5_laterToLine 9 (some .int)) := rfl
theorem mjcw107 : (mjSub 5)[148]? = some (Cond.code yX5_mostWithin cX5_mostWithin 10 (some .int)) := rfl
theorem mjcw108 : (mjSub 5)[164]? = some (Cond.code yX7_tenthsOf cX7_tenthsOf 2 (some .int)) := rfl
theorem mjcw109 : (mjSub 5)[156]? = some (Cond.code yX5_fastestOf cX5_fastestOf 4 (some .int)) := rfl
theorem mjcw110 : (mjSub 5)[169]? = some (Cond.code yX5_sumOf cX5_sumOf 5 (some .int)) := rfl
theorem mjcw111 : (mjSub 2)[18]? = some (Cond.code yX9_init cX9_init 1 none) := rfl
theorem mjcw112 : (mjSub 2)[12]? = some (Cond.code yX6_init cX6_init 1 none) := rfl
theorem mjcw113 : (mjSub 3)[23]? = some (Cond.code yX9_open cX9_open 3 none) := rfl
theorem mjcw114 : (mjSub 3)[174]? = some (Cond.code yX6_fail cX6_fail 2 (some .boolean)) := rfl
theorem mjcw115 : (mjSub 3)[142]? = some (Cond.code yX6_takeWord cX6_takeWord 3 (some .boolean)) := rfl
theorem mjcw116 : (mjSub 3)[179]? = some (Cond.code yX6_takeNumber cX6_takeNumber 3 (some .boolean)) := rfl
theorem mjcw117 : (mjSub 3)[183]? = some (Cond.code yX6_takeSign cX6_takeSign 2 (some .boolean)) := rfl
theorem mjcw118 : (mjSub 3)[137]? = some (Cond.code yX6_readTrack cX6_readTrack 2 (some .boolean)) := rfl
theorem mjcw119 : (mjSub 3)[191]? = some (Cond.code yX9_isName cX9_isName 1 (some .boolean)) := rfl
theorem mjcw120 : (mjSub 3)[187]? = some (Cond.code yX6_readTeam cX6_readTeam 4 (some .boolean)) := rfl
theorem mjcw121 : (mjSub 3)[237]? = some (Cond.code yX6_takeTeam cX6_takeTeam 4 (some .int)) := rfl
theorem mjcw122 : (mjSub 4)[5]? = some (Cond.code yX7_addLeg cX7_addLeg 3 none) := rfl
theorem mjcw123 : (mjSub 3)[231]? = some (Cond.code yX6_readRuns cX6_readRuns 7 (some .boolean)) := rfl
theorem mjcw124 : (mjSub 4)[13]? = some (Cond.code yX6_readAct cX6_readAct 6 (some .boolean)) := rfl
theorem mjcw125 : (mjSub 4)[30]? = some (Cond.code yX6_readRule cX6_readRule 6 (some .boolean)) := rfl
theorem mjcw126 : (mjSub 4)[109]? = some (Cond.code yX6_readThrough cX6_readThrough 2 (some .boolean)) := rfl
theorem mjcw127 : (mjSub 4)[113]? = some (Cond.code yX6_readWithin cX6_readWithin 2 (some .boolean)) := rfl
theorem mjcw128 : (mjSub 3)[8]? = some (Cond.code yX6_read cX6_read 6 (some .int)) := rfl
theorem mjcw129 : (mjSub 5)[232]? = some (Cond.code yX8_comparisonsOf cX8_comparisonsOf 3 (some .int)) := rfl
theorem mjcw130 : (mjSub 5)[43]? = some (Cond.code yX9_letter cX9_letter 3 (some .int)) := rfl
theorem mjcw131 : (mjSub 2)[146]? = some (Cond.code yX10_init cX10_init 1 none) := rfl
theorem mjcw132 : (mjSub 5)[6]? = some (Cond.code yX10_strike cX10_strike 2 none) := rfl
theorem mjcw133 : (mjSub 5)[20]? = some (Cond.code yX10_isIn cX10_isIn 2 (some .boolean)) := rfl
theorem mjcw134 : (mjSub 5)[24]? = some (Cond.code yX10_rankOf cX10_rankOf 4 (some .int)) := rfl
theorem mjcw135 : (mjSub 5)[16]? = some (Cond.code yX10_decideThrough cX10_decideThrough 5 none) := rfl
theorem mjcw136 : (mjSub 4)[149]? = some (Cond.code yX10_decide cX10_decide 8 none) := rfl
theorem mjcw137 : (mjSub 6)[80]? = some (Cond.code yX10_rankByTime cX10_rankByTime 2 (some .int)) := rfl
theorem mjcw138 : (mjSub 6)[109]? = some (Cond.code yX10_rankByWould cX10_rankByWould 2 (some .int)) := rfl
theorem mjcw139 : (mjSub 6)[101]? = some (Cond.code yX10_wouldOf cX10_wouldOf 2 (some .int)) := rfl
theorem mjcw140 : (mjSub 6)[88]? = some (Cond.code yX10_kthOfResult cX10_kthOfResult 3 (some .int)) := rfl
theorem mjcw141 : (mjSub 6)[129]? = some (Cond.code yX10_isRunAgain cX10_isRunAgain 2 (some .boolean)) := rfl
theorem mjcw142 : (mjSub 6)[38]? = some (Cond.code yX10_rulesStriking cX10_rulesStriking 2 (some .int)) := rfl
theorem mjcw143 : (mjSub 6)[68]? = some (Cond.code yX10_firstRuleStriking cX10_firstRuleStriking 3 (some .int)) := rfl
theorem mjcw144 : (mjSub 6)[63]? = some (Cond.code yX10_firstStruckAct cX10_firstStruckAct 7 (some .int)) := rfl
theorem mjcw145 : (mjSub 6)[72]? = some (Cond.code yX10_struckActs cX10_struckActs 5 (some .int)) := rfl
theorem mjcw146 : (mjSub 6)[121]? = some (Cond.code yX10_impedersOf cX10_impedersOf 6 (some .int)) := rfl
theorem mjcw147 : (mjSub 1)[27]? = some (Cond.code yX11_init cX11_init 1 none) := rfl
theorem mjcw148 : (mjSub 2)[236]? = some (Cond.code yX11_feedNumber cX11_feedNumber 3 none) := rfl
theorem mjcw149 : (mjSub 2)[232]? = some (Cond.code yX11_feed cX11_feed 6 (some .int)) := rfl
theorem mjcw150 : (mjSub 3)[0]? = some (Cond.code yX11_end cX11_end 2 (some .int)) := rfl
theorem mjcw151 : (mjSub 4)[121]? = some (Cond.code yX11_settleAll cX11_settleAll 1 none) := rfl
theorem mjcw152 : (mjSub 3)[4]? = some (Cond.code yX11_book cX11_book 3 (some .int)) := rfl
theorem mjcw153 : (mjSub 5)[30]? = some (Cond.code yX11_fault cX11_fault 2 (some .int)) := rfl
theorem mjcw154 : (mjSub 5)[34]? = some (Cond.code yX11_about cX11_about 2 (some .int)) := rfl
theorem mjcw155 : (mjSub 5)[38]? = some (Cond.code yX11_name cX11_name 4 (some .int)) := rfl
theorem mjcw156 : (mjSub 5)[53]? = some (Cond.code yX11_team cX11_team 4 (some .int)) := rfl
theorem mjcw157 : (mjSub 5)[59]? = some (Cond.code yX11_lane cX11_lane 2 (some .int)) := rfl
theorem mjcw158 : (mjSub 5)[67]? = some (Cond.code yX11_isTenth cX11_isTenth 1 (some .boolean)) := rfl
theorem mjcw159 : (mjSub 5)[64]? = some (Cond.code yX11_place cX11_place 3 (some .int)) := rfl
theorem mjcw160 : (mjSub 5)[72]? = some (Cond.code yX11_comes cX11_comes 3 (some .int)) := rfl
theorem mjcw161 : (mjSub 5)[80]? = some (Cond.code yX11_order cX11_order 3 (some .int)) := rfl
theorem mjcw162 : (mjSub 5)[99]? = some (Cond.code yX11_boldest cX11_boldest 2 (some .int)) := rfl
theorem mjcw163 : (mjSub 5)[118]? = some (Cond.code yX11_changes cX11_changes 3 (some .int)) := rfl
theorem mjcw164 : (mjSub 5)[126]? = some (Cond.code yX11_cutIn cX11_cutIn 2 (some .int)) := rfl
theorem mjcw165 : (mjSub 5)[136]? = some (Cond.code yX11_behind cX11_behind 3 (some .int)) := rfl
theorem mjcw166 : (mjSub 5)[144]? = some (Cond.code yX11_crowd cX11_crowd 3 (some .int)) := rfl
theorem mjcw167 : (mjSub 5)[152]? = some (Cond.code yX11_fastest cX11_fastest 4 (some .int)) := rfl
theorem mjcw168 : (mjSub 5)[173]? = some (Cond.code yX11_leg cX11_leg 5 (some .int)) := rfl
theorem mjcw169 : (mjSub 5)[197]? = some (Cond.code yX11_inBox cX11_inBox 3 (some .int)) := rfl
theorem mjcw170 : (mjSub 5)[205]? = some (Cond.code yX11_act cX11_act 4 (some .int)) := rfl
theorem mjcw171 : (mjSub 5)[215]? = some (Cond.code yX11_fact cX11_fact 3 (some .int)) := rfl
theorem mjcw172 : (mjSub 5)[227]? = some (Cond.code yX11_rule cX11_rule 3 (some .int)) := rfl
theorem mjcw173 : (mjSub 6)[1]? = some (Cond.code yX11_canHold cX11_canHold 4 (some .boolean)) := rfl
theorem mjcw174 : (mjSub 5)[237]? = some (Cond.code yX11_holds cX11_holds 4 (some .int)) := rfl
theorem mjcw175 : (mjSub 6)[6]? = some (Cond.code yX11_why cX11_why 5 (some .int)) := rfl
theorem mjcw176 : (mjSub 6)[34]? = some (Cond.code yX11_struckBy cX11_struckBy 3 (some .int)) := rfl
theorem mjcw177 : (mjSub 6)[42]? = some (Cond.code yX11_clean cX11_clean 3 (some .int)) := rfl
theorem mjcw178 : (mjSub 6)[55]? = some (Cond.code yX11_free cX11_free 3 (some .int)) := rfl
theorem mjcw179 : (mjSub 6)[59]? = some (Cond.code yX11_struck cX11_struck 4 (some .int)) := rfl
theorem mjcw180 : (mjSub 6)[76]? = some (Cond.code yX11_rank cX11_rank 2 (some .int)) := rfl
theorem mjcw181 : (mjSub 6)[84]? = some (Cond.code yX11_result cX11_result 2 (some .int)) := rfl
theorem mjcw182 : (mjSub 6)[93]? = some (Cond.code yX11_who cX11_who 2 (some .int)) := rfl
theorem mjcw183 : (mjSub 6)[97]? = some (Cond.code yX11_would cX11_would 2 (some .int)) := rfl
theorem mjcw184 : (mjSub 6)[105]? = some (Cond.code yX11_fairRank cX11_fairRank 2 (some .int)) := rfl
theorem mjcw185 : (mjSub 6)[113]? = some (Cond.code yX11_margin cX11_margin 4 (some .int)) := rfl
theorem mjcw186 : (mjSub 6)[117]? = some (Cond.code yX11_impeders cX11_impeders 2 (some .int)) := rfl
theorem mjcw187 : (mjSub 6)[125]? = some (Cond.code yX11_again cX11_again 1 (some .int)) := rfl
theorem mjcw188 : (mjSub 6)[139]? = some (Cond.code yX11_winner cX11_winner 3 (some .int)) := rfl
theorem mjcw189 : (mjSub 6)[143]? = some (Cond.code yX11_stays cX11_stays 4 (some .int)) := rfl
theorem mjcw190 : (mjSub 6)[161]? = some (Cond.code yX11_appeal cX11_appeal 6 (some .int)) := rfl
theorem mjcw191 : (mjSub 6)[170]? = some (Cond.code yX11_waive cX11_waive 2 (some .int)) := rfl
theorem mjcw192 : (mjSub 6)[174]? = some (Cond.code yX11_measure cX11_measure 8 (some .int)) := rfl
theorem mjcw193 : (mjSub 6)[180]? = some (Cond.code yX11_undo cX11_undo 1 (some .int)) := rfl
theorem mjcw194 : (mjSub 6)[193]? = some (Cond.code yX12_init cX12_init 1 none) := rfl
theorem mjcw195 : (mjSub 7)[200]? = some (Cond.code yX12_isIn cX12_isIn 6 (some .boolean)) := rfl
theorem mjcw196 : (mjSub 8)[170]? = some (Cond.code yX12_truth cX12_truth 1 (some .int)) := rfl
theorem mjcw197 : (mjSub 8)[112]? = some (Cond.code yX12_holds1 cX12_holds1 2 (some .boolean)) := rfl
theorem mjcw198 : (mjSub 7)[193]? = some (Cond.code yX12_four cX12_four 3 none) := rfl
theorem mjcw199 : (mjSub 7)[189]? = some (Cond.code yX12_feed cX12_feed 6 (some .int)) := rfl
theorem mjcw200 : (mjSub 7)[197]? = some (Cond.code yX12_end cX12_end 2 (some .int)) := rfl
theorem mjcw201 : (mjSub 7)[212]? = some (Cond.code yX12_here cX12_here 2 (some .int)) := rfl
theorem mjcw202 : (mjSub 7)[215]? = some (Cond.code yX12_isLetter cX12_isLetter 1 (some .boolean)) := rfl
theorem mjcw203 : (mjSub 7)[218]? = some (Cond.code yX12_isDigit cX12_isDigit 1 (some .boolean)) := rfl
theorem mjcw204 : (mjSub 7)[221]? = some (Cond.code yX12_isSign cX12_isSign 1 (some .boolean)) := rfl
theorem mjcw205 : (mjSub 7)[208]? = some (Cond.code yX12_goOn cX12_goOn 3 none) := rfl
theorem mjcw206 : (mjSub 7)[234]? = some (Cond.code yX12_wrong cX12_wrong 2 none) := rfl
theorem mjcw207 : (mjSub 7)[238]? = some (Cond.code yX12_isGood cX12_isGood 1 (some .boolean)) := rfl
theorem mjcw208 : (mjSub 7)[230]? = some (Cond.code yX12_isWord cX12_isWord 3 (some .boolean)) := rfl
theorem mjcw209 : (mjSub 8)[10]? = some (Cond.code yX12_isSignHere cX12_isSignHere 2 (some .boolean)) := rfl
theorem mjcw210 : (mjSub 8)[40]? = some (Cond.code yX12_among cX12_among 5 (some .int)) := rfl
theorem mjcw211 : (mjSub 8)[27]? = some (Cond.code yX12_isKept cX12_isKept 1 (some .boolean)) := rfl
theorem mjcw212 : (mjSub 8)[6]? = some (Cond.code yX12_must cX12_must 2 none) := rfl
theorem mjcw213 : (mjSub 8)[2]? = some (Cond.code yX12_number cX12_number 4 (some .int)) := rfl
theorem mjcw214 : (mjSub 8)[89]? = some (Cond.code yX12_emits cX12_emits 2 none) := rfl
theorem mjcw215 : (mjSub 8)[77]? = some (Cond.code yX12_waitsFor cX12_waitsFor 2 none) := rfl
theorem mjcw216 : (mjSub 8)[97]? = some (Cond.code yX12_top cX12_top 1 (some .int)) := rfl
theorem mjcw217 : (mjSub 8)[73]? = some (Cond.code yX12_opens cX12_opens 2 none) := rfl
theorem mjcw218 : (mjSub 8)[93]? = some (Cond.code yX12_works cX12_works 3 none) := rfl
theorem mjcw219 : (mjSub 8)[85]? = some (Cond.code yX12_operand cX12_operand 2 none) := rfl
theorem mjcw220 : (mjSub 8)[101]? = some (Cond.code yX12_closes cX12_closes 2 none) := rfl
theorem mjcw221 : (mjSub 8)[81]? = some (Cond.code yX12_numberFormula cX12_numberFormula 2 none) := rfl
theorem mjcw222 : (mjSub 8)[105]? = some (Cond.code yX12_ends cX12_ends 1 none) := rfl
theorem mjcw223 : (mjSub 8)[69]? = some (Cond.code yX12_comparison cX12_comparison 3 none) := rfl
theorem mjcw224 : (mjSub 8)[65]? = some (Cond.code yX12_test cX12_test 2 none) := rfl
theorem mjcw225 : (mjSub 8)[23]? = some (Cond.code yX12_freshName cX12_freshName 3 none) := rfl
theorem mjcw226 : (mjSub 8)[49]? = some (Cond.code yX12_teamHere cX12_teamHere 2 (some .int)) := rfl
theorem mjcw227 : (mjSub 8)[19]? = some (Cond.code yX12_teamLine cX12_teamLine 3 none) := rfl
theorem mjcw228 : (mjSub 8)[45]? = some (Cond.code yX12_runsLine cX12_runsLine 5 none) := rfl
theorem mjcw229 : (mjSub 8)[57]? = some (Cond.code yX12_kindHere cX12_kindHere 3 (some .int)) := rfl
theorem mjcw230 : (mjSub 8)[53]? = some (Cond.code yX12_actLine cX12_actLine 6 none) := rfl
theorem mjcw231 : (mjSub 8)[61]? = some (Cond.code yX12_ruleLine cX12_ruleLine 2 none) := rfl
theorem mjcw232 : (mjSub 8)[109]? = some (Cond.code yX12_once cX12_once 2 none) := rfl
theorem mjcw233 : (mjSub 8)[14]? = some (Cond.code yX12_line cX12_line 1 none) := rfl
theorem mjcw234 : (mjSub 7)[225]? = some (Cond.code yX12_trackLine cX12_trackLine 1 none) := rfl
theorem mjcw235 : (mjSub 8)[116]? = some (Cond.code yX12_takes cX12_takes 2 none) := rfl
theorem mjcw236 : (mjSub 7)[204]? = some (Cond.code yX12_book cX12_book 1 (some .int)) := rfl
theorem mjcw237 : (mjSub 8)[120]? = some (Cond.code yX12_fault cX12_fault 2 (some .int)) := rfl
theorem mjcw238 : (mjSub 9)[227]? = some (Cond.code yX12_keeps cX12_keeps 2 none) := rfl
theorem mjcw239 : (mjSub 8)[124]? = some (Cond.code yX12_undo cX12_undo 2 (some .int)) := rfl
theorem mjcw240 : (mjSub 8)[150]? = some (Cond.code yX12_isTeam cX12_isTeam 2 (some .boolean)) := rfl
theorem mjcw241 : (mjSub 8)[182]? = some (Cond.code yX12_isTenth cX12_isTenth 2 (some .boolean)) := rfl
theorem mjcw242 : (mjSub 8)[163]? = some (Cond.code yX12_tenthsOf cX12_tenthsOf 3 (some .int)) := rfl
theorem mjcw243 : (mjSub 8)[199]? = some (Cond.code yX12_metresOf cX12_metresOf 3 (some .int)) := rfl
theorem mjcw244 : (mjSub 8)[195]? = some (Cond.code yX12_endPlace cX12_endPlace 3 (some .int)) := rfl
theorem mjcw245 : (mjSub 8)[159]? = some (Cond.code yX12_endTenth cX12_endTenth 5 (some .int)) := rfl
theorem mjcw246 : (mjSub 8)[155]? = some (Cond.code yX12_timeOf cX12_timeOf 2 (some .int)) := rfl
theorem mjcw247 : (mjSub 8)[167]? = some (Cond.code yX12_isWhole cX12_isWhole 2 (some .boolean)) := rfl
theorem mjcw248 : (mjSub 8)[191]? = some (Cond.code yX12_legAt cX12_legAt 4 (some .int)) := rfl
theorem mjcw249 : (mjSub 8)[187]? = some (Cond.code yX12_placeOf cX12_placeOf 7 (some .int)) := rfl
theorem mjcw250 : (mjSub 8)[137]? = some (Cond.code yX12_boxesOf cX12_boxesOf 2 (some .int)) := rfl
theorem mjcw251 : (mjSub 8)[133]? = some (Cond.code yX12_allActs cX12_allActs 3 (some .int)) := rfl
theorem mjcw252 : (mjSub 8)[128]? = some (Cond.code yX12_about cX12_about 2 (some .int)) := rfl
theorem mjcw253 : (mjSub 8)[141]? = some (Cond.code yX12_name cX12_name 8 (some .int)) := rfl
theorem mjcw254 : (mjSub 8)[146]? = some (Cond.code yX12_team cX12_team 3 (some .int)) := rfl
theorem mjcw255 : (mjSub 8)[174]? = some (Cond.code yX12_lane cX12_lane 3 (some .int)) := rfl
theorem mjcw256 : (mjSub 8)[178]? = some (Cond.code yX12_place cX12_place 3 (some .int)) := rfl
theorem mjcw257 : (mjSub 8)[207]? = some (Cond.code yX12_comesTo cX12_comesTo 4 (some .int)) := rfl
theorem mjcw258 : (mjSub 8)[203]? = some (Cond.code yX12_comes cX12_comes 3 (some .int)) := rfl
theorem mjcw259 : (mjSub 8)[215]? = some (Cond.code yX12_keyedAt cX12_keyedAt 5 (some .int)) := rfl
theorem mjcw260 : (mjSub 8)[211]? = some (Cond.code yX12_order cX12_order 4 (some .int)) := rfl
theorem mjcw261 : (mjSub 8)[219]? = some (Cond.code yX12_boldest cX12_boldest 8 (some .int)) := rfl
theorem mjcw262 : (mjSub 8)[223]? = some (Cond.code yX12_changes cX12_changes 8 (some .int)) := rfl
theorem mjcw263 : (mjSub 8)[227]? = some (Cond.code yX12_cutIn cX12_cutIn 3 (some .int)) := rfl
theorem mjcw264 : (mjSub 8)[231]? = some (Cond.code yX12_behind cX12_behind 8 (some .int)) := rfl
theorem mjcw265 : (mjSub 8)[235]? = some (Cond.code yX12_crowd cX12_crowd 8 (some .int)) := rfl
theorem mjcw266 : (mjSub 8)[239]? = some (Cond.code yX12_fastest cX12_fastest 8 (some .int)) := rfl
theorem mjcw267 : (mjSub 9)[8]? = some (Cond.code yX12_inBoxOf cX12_inBoxOf 8 (some .int)) := rfl
theorem mjcw268 : (mjSub 9)[4]? = some (Cond.code yX12_leg cX12_leg 5 (some .int)) := rfl
theorem mjcw269 : (mjSub 9)[12]? = some (Cond.code yX12_inBox cX12_inBox 6 (some .int)) := rfl
theorem mjcw270 : (mjSub 9)[21]? = some (Cond.code yX12_isAct cX12_isAct 2 (some .boolean)) := rfl
theorem mjcw271 : (mjSub 9)[35]? = some (Cond.code yX12_boxTeam cX12_boxTeam 4 (some .int)) := rfl
theorem mjcw272 : (mjSub 9)[47]? = some (Cond.code yX12_boxLeg cX12_boxLeg 4 (some .int)) := rfl
theorem mjcw273 : (mjSub 9)[27]? = some (Cond.code yX12_kindOf cX12_kindOf 2 (some .int)) := rfl
theorem mjcw274 : (mjSub 9)[31]? = some (Cond.code yX12_teamOf cX12_teamOf 2 (some .int)) := rfl
theorem mjcw275 : (mjSub 9)[39]? = some (Cond.code yX12_otherOf cX12_otherOf 2 (some .int)) := rfl
theorem mjcw276 : (mjSub 9)[43]? = some (Cond.code yX12_tenthOf cX12_tenthOf 2 (some .int)) := rfl
theorem mjcw277 : (mjSub 9)[51]? = some (Cond.code yX12_sizeOf cX12_sizeOf 3 (some .int)) := rfl
theorem mjcw278 : (mjSub 9)[55]? = some (Cond.code yX12_isWaived cX12_isWaived 3 (some .boolean)) := rfl
theorem mjcw279 : (mjSub 9)[67]? = some (Cond.code yX12_isAhead cX12_isAhead 3 (some .boolean)) := rfl
theorem mjcw280 : (mjSub 9)[63]? = some (Cond.code yX12_factOf cX12_factOf 9 (some .int)) := rfl
theorem mjcw281 : (mjSub 9)[17]? = some (Cond.code yX12_act cX12_act 3 (some .int)) := rfl
theorem mjcw282 : (mjSub 9)[59]? = some (Cond.code yX12_fact cX12_fact 3 (some .int)) := rfl
theorem mjcw283 : (mjSub 9)[114]? = some (Cond.code yX12_ones cX12_ones 5 (some .int)) := rfl
theorem mjcw284 : (mjSub 9)[111]? = some (Cond.code yX12_size cX12_size 2 (some .int)) := rfl
theorem mjcw285 : (mjSub 9)[101]? = some (Cond.code yX12_kept cX12_kept 3 (some .long)) := rfl
theorem mjcw286 : (mjSub 9)[118]? = some (Cond.code yX12_compares cX12_compares 7 none) := rfl
theorem mjcw287 : (mjSub 9)[107]? = some (Cond.code yX12_joins cX12_joins 8 none) := rfl
theorem mjcw288 : (mjSub 9)[97]? = some (Cond.code yX12_worked cX12_worked 10 (some .boolean)) := rfl
theorem mjcw289 : (mjSub 9)[79]? = some (Cond.code yX12_hasExcuse cX12_hasExcuse 2 (some .boolean)) := rfl
theorem mjcw290 : (mjSub 9)[93]? = some (Cond.code yX12_holdsPart cX12_holdsPart 4 (some .boolean)) := rfl
theorem mjcw291 : (mjSub 9)[75]? = some (Cond.code yX12_isRule cX12_isRule 2 (some .boolean)) := rfl
theorem mjcw292 : (mjSub 9)[89]? = some (Cond.code yX12_isAsked cX12_isAsked 4 (some .boolean)) := rfl
theorem mjcw293 : (mjSub 9)[71]? = some (Cond.code yX12_rule cX12_rule 5 (some .int)) := rfl
theorem mjcw294 : (mjSub 9)[85]? = some (Cond.code yX12_holds cX12_holds 4 (some .int)) := rfl
theorem mjcw295 : (mjSub 9)[122]? = some (Cond.code yX12_why cX12_why 9 (some .int)) := rfl
theorem mjcw296 : (mjSub 9)[130]? = some (Cond.code yX12_isStruck cX12_isStruck 3 (some .boolean)) := rfl
theorem mjcw297 : (mjSub 9)[126]? = some (Cond.code yX12_struckBy cX12_struckBy 3 (some .int)) := rfl
theorem mjcw298 : (mjSub 9)[142]? = some (Cond.code yX12_firstRule cX12_firstRule 3 (some .int)) := rfl
theorem mjcw299 : (mjSub 9)[138]? = some (Cond.code yX12_without cX12_without 10 (some .int)) := rfl
theorem mjcw300 : (mjSub 9)[134]? = some (Cond.code yX12_clean cX12_clean 3 (some .int)) := rfl
theorem mjcw301 : (mjSub 9)[146]? = some (Cond.code yX12_free cX12_free 3 (some .int)) := rfl
theorem mjcw302 : (mjSub 9)[154]? = some (Cond.code yX12_laysStruck cX12_laysStruck 2 none) := rfl
theorem mjcw303 : (mjSub 9)[150]? = some (Cond.code yX12_struck cX12_struck 6 (some .int)) := rfl
theorem mjcw304 : (mjSub 9)[162]? = some (Cond.code yX12_isInResult cX12_isInResult 2 (some .boolean)) := rfl
theorem mjcw305 : (mjSub 9)[166]? = some (Cond.code yX12_rankOf cX12_rankOf 4 (some .int)) := rfl
theorem mjcw306 : (mjSub 9)[158]? = some (Cond.code yX12_rank cX12_rank 2 (some .int)) := rfl
theorem mjcw307 : (mjSub 9)[170]? = some (Cond.code yX12_fairRank cX12_fairRank 4 (some .int)) := rfl
theorem mjcw308 : (mjSub 9)[178]? = some (Cond.code yX12_resultAt cX12_resultAt 3 (some .int)) := rfl
theorem mjcw309 : (mjSub 9)[174]? = some (Cond.code yX12_margin cX12_margin 3 (some .int)) := rfl
theorem mjcw310 : (mjSub 9)[182]? = some (Cond.code yX12_impeders cX12_impeders 4 (some .int)) := rfl
theorem mjcw311 : (mjSub 9)[186]? = some (Cond.code yX12_result cX12_result 2 (some .int)) := rfl
theorem mjcw312 : (mjSub 9)[198]? = some (Cond.code yX12_isThrough cX12_isThrough 2 (some .boolean)) := rfl
theorem mjcw313 : (mjSub 9)[194]? = some (Cond.code yX12_besides cX12_besides 4 (some .int)) := rfl
theorem mjcw314 : (mjSub 9)[190]? = some (Cond.code yX12_who cX12_who 4 (some .int)) := rfl
theorem mjcw315 : (mjSub 9)[202]? = some (Cond.code yX12_would cX12_would 2 (some .int)) := rfl
theorem mjcw316 : (mjSub 9)[206]? = some (Cond.code yX12_again cX12_again 5 (some .int)) := rfl
theorem mjcw317 : (mjSub 9)[210]? = some (Cond.code yX12_winner cX12_winner 3 (some .int)) := rfl
theorem mjcw318 : (mjSub 9)[218]? = some (Cond.code yX12_isClean cX12_isClean 3 (some .boolean)) := rfl
theorem mjcw319 : (mjSub 9)[214]? = some (Cond.code yX12_stays cX12_stays 7 (some .int)) := rfl
theorem mjcw320 : (mjSub 9)[222]? = some (Cond.code yX12_appeal cX12_appeal 5 (some .int)) := rfl
theorem mjcw321 : (mjSub 9)[231]? = some (Cond.code yX12_waive cX12_waive 2 (some .int)) := rfl
theorem mjcw322 : (mjSub 9)[235]? = some (Cond.code yX12_measure cX12_measure 7 (some .int)) := rfl
theorem mjcw323 : (mjSub 6)[132]? = some (Cond.code yJ6_bitCount_0f7a4 cJ6_bitCount_0f7a4 1 (some .int)) := rfl
theorem mjcw324 : (mjSub 4)[183]? = some (Cond.code yJ13_bitCount_95d88 cJ13_bitCount_95d88 2 (some .int)) := rfl
theorem mjcw325 : (mjSub 3)[19]? = some (Cond.code yJ7_fill_53178 cJ7_fill_53178 4 none) := rfl
theorem mjcw326 : (mjSub 6)[150]? = some (Cond.code yJ7_fill_d0a16 cJ7_fill_d0a16 5 none) := rfl
theorem mjcw327 : (mjSub 3)[67]? = some (Cond.code yJ0_length_8abf5 cJ0_length_8abf5 1 (some .int)) := rfl
theorem mjcw328 : (mjSub 3)[71]? = some (Cond.code yJ0_coder_7d493 cJ0_coder_7d493 1 (some .byte)) := rfl
theorem mjcw329 : (mjSub 3)[154]? = some (Cond.code yJ0_charAt_5068e cJ0_charAt_5068e 2 (some .char)) := rfl
theorem mjcw330 : (mjSub 3)[61]? = some (Cond.code yJ0_isLatin1_aae02 cJ0_isLatin1_aae02 1 (some .boolean)) := rfl
theorem mjcw331 : (mjSub 3)[157]? = some (Cond.code yJ1_charAt_3b067 cJ1_charAt_3b067 2 (some .char)) := rfl
theorem mjcw332 : (mjSub 3)[160]? = some (Cond.code yJ0_checkIndex_df160 cJ0_checkIndex_df160 2 none) := rfl
theorem mjcw333 : (mjSub 3)[163]? = some (Cond.code yJ3_checkIndex_8e157 cJ3_checkIndex_8e157 3 (some .int)) := rfl
theorem mjcw334 : (mjSub 3)[57]? = some (Cond.code yJ0_indexOf_7cf53 cJ0_indexOf_7cf53 3 (some .int)) := rfl
theorem mjcw335 : (mjSub 3)[53]? = some (Cond.code yJ0_indexOf_0f7a4 cJ0_indexOf_0f7a4 2 (some .int)) := rfl
theorem mjcw336 : (mjSub 3)[74]? = some (Cond.code yJ1_indexOf_4cfef cJ1_indexOf_4cfef 4 (some .int)) := rfl
theorem mjcw337 : (mjSub 3)[77]? = some (Cond.code yJ1_canEncode_9a6ad cJ1_canEncode_9a6ad 1 (some .boolean)) := rfl
theorem mjcw338 : (mjSub 3)[84]? = some (Cond.code yJ1_indexOfChar_4cfef cJ1_indexOfChar_4cfef 6 (some .int)) := rfl
theorem mjCw_0 : ∀ q ∈ [((0, yX0_init, cX0_init, 1, none, 1, 0), 1111), ((0, yX0_tell, cX0_tell, 6, none, 0, 5), 4026), ((1, yX1_init, cX1_init, 1, none, 1, 0), 2185), ((1, yX1_forget, cX1_forget, 1, none, 0, 0), 4117), ((1, yX1_keep, cX1_keep, 7, none, 1, 5), 6165), ((11, yX11_at, cX11_at, 2, (some .int), 0, 2), 4136), ((2, yX2_deed, cX2_deed, 2, (some (.object "BatonZones$Act")), 0, 1), 4022), ((2, yX2_hasTeam, cX2_hasTeam, 2, (some .boolean), 0, 1), 3212), ((2, yX2_runner, cX2_runner, 2, (some (.object "BatonZones$Team")), 1, 1), 3208), ((7, yX7_setLeg, cX7_setLeg, 4, none, 0, 3), 4009), ((1, yX1_takeBack, cX1_takeBack, 5, none, 2, 1), 6184), ((8, yX8_init, cX8_init, 1, none, 1, 0), 1041), ((7, yX7_init, cX7_init, 1, none, 1, 0), 1077), ((2, yX2_init, cX2_init, 2, none, 2, 0), 1035), ((8, yX8_clear, cX8_clear, 1, none, 1, 0), 3016), ((2, yX2_clear, cX2_clear, 1, none, 2, 0), 3012), ((2, yX2_hasRule, cX2_hasRule, 2, (some .boolean), 0, 1), 5048), ((2, yX2_hasAct, cX2_hasAct, 2, (some .boolean), 0, 1), 5209), ((2, yX2_wasTold, cX2_wasTold, 2, (some .boolean), 0, 1), 6046), ((2, yX2_hasLeg, cX2_hasLeg, 3, (some .boolean), 2, 2), 5160), ((2, yX2_kindOfRule, cX2_kindOfRule, 2, (some .int), 1, 1), 4194), ((11, yX11_longAt, cX11_longAt, 2, (some .long), 0, 2), 3219), ((2, yX2_nameOfRule, cX2_nameOfRule, 2, (some .long), 1, 1), 3216), ((2, yX2_isWhole, cX2_isWhole, 2, (some .boolean), 2, 1), 5011), ((2, yX2_teamInLane, cX2_teamInLane, 3, (some .int), 2, 1), 3223), ((2, yX2_teamOfName, cX2_teamOfName, 4, (some .int), 2, 1), 3204), ((2, yX2_isNameTaken, cX2_isNameTaken, 4, (some .boolean), 3, 1), 3200), ((2, yX2_addTeam, cX2_addTeam, 5, none, 2, 2), 3227), ((2, yX2_addAct, cX2_addAct, 6, none, 1, 5), 4018), ((2, yX2_addRule, cX2_addRule, 4, none, 0, 2), 4105)], mjCw q := List.forall_mem_cons.mpr ⟨mjcw0, List.forall_mem_cons.mpr ⟨mjcw1, List.forall_mem_cons.mpr ⟨mjcw2, List.forall_mem_cons.mpr ⟨mjcw3, List.forall_mem_cons.mpr ⟨mjcw4, List.forall_mem_cons.mpr ⟨mjcw5, List.forall_mem_cons.mpr ⟨mjcw6, List.forall_mem_cons.mpr ⟨mjcw7, List.forall_mem_cons.mpr ⟨mjcw8, List.forall_mem_cons.mpr ⟨mjcw9, List.forall_mem_cons.mpr ⟨mjcw10, List.forall_mem_cons.mpr ⟨mjcw11, List.forall_mem_cons.mpr ⟨mjcw12, List.forall_mem_cons.mpr ⟨mjcw13, List.forall_mem_cons.mpr ⟨mjcw14, List.forall_mem_cons.mpr ⟨mjcw15, List.forall_mem_cons.mpr ⟨mjcw16, List.forall_mem_cons.mpr ⟨mjcw17, List.forall_mem_cons.mpr ⟨mjcw18, List.forall_mem_cons.mpr ⟨mjcw19, List.forall_mem_cons.mpr ⟨mjcw20, List.forall_mem_cons.mpr ⟨mjcw21, List.forall_mem_cons.mpr ⟨mjcw22, List.forall_mem_cons.mpr ⟨mjcw23, List.forall_mem_cons.mpr ⟨mjcw24, List.forall_mem_cons.mpr ⟨mjcw25, List.forall_mem_cons.mpr ⟨mjcw26, List.forall_mem_cons.mpr ⟨mjcw27, List.forall_mem_cons.mpr ⟨mjcw28, List.forall_mem_cons.mpr ⟨mjcw29, (fun _ h => absurd h List.not_mem_nil)⟩⟩⟩⟩⟩⟩⟩⟩⟩⟩⟩⟩⟩⟩⟩⟩⟩⟩⟩⟩⟩⟩⟩⟩⟩⟩⟩⟩⟩⟩
theorem mjCw_1 : ∀ q ∈ [((2, yX2_mostMetres, cX2_mostMetres, 2, (some .int), 0, 1), 4001), ((7, yX7_settle, cX7_settle, 3, none, 0, 1), 4129), ((7, yX7_metresOf, cX7_metresOf, 2, (some .int), 1, 1), 4133), ((2, yX2_metresOutside, cX2_metresOutside, 2, (some .int), 1, 1), 4140), ((7, yX7_endOf, cX7_endOf, 2, (some .int), 1, 1), 4145), ((2, yX2_settle, cX2_settle, 5, none, 2, 0), 4125), ((2, yX2_boxFrom, cX2_boxFrom, 2, (some .int), 0, 1), 5188), ((2, yX2_boxTo, cX2_boxTo, 2, (some .int), 0, 1), 5192), ((2, yX2_isInABox, cX2_isInABox, 3, (some .boolean), 1, 1), 5201), ((7, yX7_passOf, cX7_passOf, 2, (some .int), 1, 1), 5184), ((2, yX2_runInBox, cX2_runInBox, 6, (some .int), 2, 3), 5180), ((2, yX2_earlier, cX2_earlier, 9, (some .long), 1, 2), 4179), ((2, yX2_forcers, cX2_forcers, 9, (some .long), 1, 2), 4190), ((2, yX2_teamsAhead, cX2_teamsAhead, 7, (some .int), 2, 2), 5095), ((2, yX2_kth, cX2_kth, 4, (some .int), 3, 2), 5090), ((3, yX3_init, cX3_init, 1, none, 1, 0), 2052), ((8, yX8_begin, cX8_begin, 2, none, 0, 1), 4042), ((3, yX3_comparisonEnds, cX3_comparisonEnds, 2, (some .boolean), 0, 1), 4046), ((8, yX8_put, cX8_put, 4, none, 0, 3), 4054), ((3, yX3_reduce, cX3_reduce, 4, none, 1, 2), 4050), ((9, yX9_packed, cX9_packed, 6, (some .long), 4, 2), 3150), ((9, yX9_indexIn, cX9_indexIn, 3, (some .int), 5, 1), 3146), ((3, yX3_truthEnds, cX3_truthEnds, 3, (some .boolean), 6, 1), 4058), ((8, yX8_finish, cX8_finish, 1, none, 0, 0), 4064), ((3, yX3_comparisonStarts, cX3_comparisonStarts, 2, (some .boolean), 6, 1), 4068), ((3, yX3_push, cX3_push, 3, none, 0, 2), 4076), ((3, yX3_openOne, cX3_openOne, 3, (some .int), 1, 2), 4072), ((3, yX3_startNumber, cX3_startNumber, 4, (some .int), 6, 2), 4080), ((8, yX8_isComparison, cX8_isComparison, 1, (some .boolean), 0, 1), 4092), ((3, yX3_join, cX3_join, 4, (some .int), 2, 3), 4089)], mjCw q := List.forall_mem_cons.mpr ⟨mjcw30, List.forall_mem_cons.mpr ⟨mjcw31, List.forall_mem_cons.mpr ⟨mjcw32, List.forall_mem_cons.mpr ⟨mjcw33, List.forall_mem_cons.mpr ⟨mjcw34, List.forall_mem_cons.mpr ⟨mjcw35, List.forall_mem_cons.mpr ⟨mjcw36, List.forall_mem_cons.mpr ⟨mjcw37, List.forall_mem_cons.mpr ⟨mjcw38, List.forall_mem_cons.mpr ⟨mjcw39, List.forall_mem_cons.mpr ⟨mjcw40, List.forall_mem_cons.mpr ⟨mjcw41, List.forall_mem_cons.mpr ⟨mjcw42, List.forall_mem_cons.mpr ⟨mjcw43, List.forall_mem_cons.mpr ⟨mjcw44, List.forall_mem_cons.mpr ⟨mjcw45, List.forall_mem_cons.mpr ⟨mjcw46, List.forall_mem_cons.mpr ⟨mjcw47, List.forall_mem_cons.mpr ⟨mjcw48, List.forall_mem_cons.mpr ⟨mjcw49, List.forall_mem_cons.mpr ⟨mjcw50, List.forall_mem_cons.mpr ⟨mjcw51, List.forall_mem_cons.mpr ⟨mjcw52, List.forall_mem_cons.mpr ⟨mjcw53, List.forall_mem_cons.mpr ⟨mjcw54, List.forall_mem_cons.mpr ⟨mjcw55, List.forall_mem_cons.mpr ⟨mjcw56, List.forall_mem_cons.mpr ⟨mjcw57, List.forall_mem_cons.mpr ⟨mjcw58, List.forall_mem_cons.mpr ⟨mjcw59, (fun _ h => absurd h List.not_mem_nil)⟩⟩⟩⟩⟩⟩⟩⟩⟩⟩⟩⟩⟩⟩⟩⟩⟩⟩⟩⟩⟩⟩⟩⟩⟩⟩⟩⟩⟩⟩
theorem mjCw_2 : ∀ q ∈ [((3, yX3_closeCurly, cX3_closeCurly, 2, (some .int), 2, 1), 4096), ((3, yX3_goOnWithNumber, cX3_goOnWithNumber, 3, (some .int), 3, 2), 4085), ((3, yX3_goOnWithTruth, cX3_goOnWithTruth, 4, (some .int), 6, 2), 4100), ((9, yX9_byteAt, cX9_byteAt, 2, (some .int), 0, 1), 3034), ((9, yX9_isLetter, cX9_isLetter, 1, (some .boolean), 0, 1), 3037), ((9, yX9_takeWord, cX9_takeWord, 1, none, 1, 0), 3041), ((9, yX9_isDigit, cX9_isDigit, 1, (some .boolean), 0, 1), 3044), ((9, yX9_takeNumber, cX9_takeNumber, 1, none, 1, 0), 3048), ((9, yX9_advance, cX9_advance, 2, none, 4, 0), 3030), ((3, yX3_read, cX3_read, 6, (some .int), 7, 3), 4038), ((4, yX4_init, cX4_init, 1, none, 1, 0), 2114), ((4, yX4_factNow, cX4_factNow, 2, (some .int), 1, 1), 5223), ((7, yX7_legAt, cX7_legAt, 3, (some .int), 1, 1), 4173), ((7, yX7_whereAt, cX7_whereAt, 6, (some .int), 2, 1), 4169), ((4, yX4_look, cX4_look, 13, none, 3, 5), 4163), ((4, yX4_lookAt, cX4_lookAt, 4, none, 4, 2), 5219), ((8, yX8_condition, cX8_condition, 2, (some .int), 0, 2), 4034), ((8, yX8_fromOf, cX8_fromOf, 3, (some .int), 1, 2), 4203), ((8, yX8_toOf, cX8_toOf, 3, (some .int), 1, 2), 4209), ((8, yX8_opAt, cX8_opAt, 2, (some .int), 1, 1), 4218), ((8, yX8_numberAt, cX8_numberAt, 2, (some .int), 1, 1), 4222), ((8, yX8_leftOf, cX8_leftOf, 2, (some .int), 1, 1), 4228), ((4, yX4_within32, cX4_within32, 2, (some .long), 0, 1), 4236), ((4, yX4_reckon, cX4_reckon, 5, (some .long), 1, 3), 4233), ((4, yX4_work, cX4_work, 8, (some .long), 2, 2), 4214), ((4, yX4_isSo, cX4_isSo, 7, (some .boolean), 3, 3), 4199), ((4, yX4_isOfBoth, cX4_isOfBoth, 3, (some .boolean), 1, 2), 6022), ((4, yX4_isLeftEnough, cX4_isLeftEnough, 6, (some .boolean), 2, 2), 6026), ((4, yX4_weigh, cX4_weigh, 6, (some .int), 3, 2), 6018), ((4, yX4_pick, cX4_pick, 3, none, 0, 2), 6030)], mjCw q := List.forall_mem_cons.mpr ⟨mjcw60, List.forall_mem_cons.mpr ⟨mjcw61, List.forall_mem_cons.mpr ⟨mjcw62, List.forall_mem_cons.mpr ⟨mjcw63, List.forall_mem_cons.mpr ⟨mjcw64, List.forall_mem_cons.mpr ⟨mjcw65, List.forall_mem_cons.mpr ⟨mjcw66, List.forall_mem_cons.mpr ⟨mjcw67, List.forall_mem_cons.mpr ⟨mjcw68, List.forall_mem_cons.mpr ⟨mjcw69, List.forall_mem_cons.mpr ⟨mjcw70, List.forall_mem_cons.mpr ⟨mjcw71, List.forall_mem_cons.mpr ⟨mjcw72, List.forall_mem_cons.mpr ⟨mjcw73, List.forall_mem_cons.mpr ⟨mjcw74, List.forall_mem_cons.mpr ⟨mjcw75, List.forall_mem_cons.mpr ⟨mjcw76, List.forall_mem_cons.mpr ⟨mjcw77, List.forall_mem_cons.mpr ⟨mjcw78, List.forall_mem_cons.mpr ⟨mjcw79, List.forall_mem_cons.mpr ⟨mjcw80, List.forall_mem_cons.mpr ⟨mjcw81, List.forall_mem_cons.mpr ⟨mjcw82, List.forall_mem_cons.mpr ⟨mjcw83, List.forall_mem_cons.mpr ⟨mjcw84, List.forall_mem_cons.mpr ⟨mjcw85, List.forall_mem_cons.mpr ⟨mjcw86, List.forall_mem_cons.mpr ⟨mjcw87, List.forall_mem_cons.mpr ⟨mjcw88, List.forall_mem_cons.mpr ⟨mjcw89, (fun _ h => absurd h List.not_mem_nil)⟩⟩⟩⟩⟩⟩⟩⟩⟩⟩⟩⟩⟩⟩⟩⟩⟩⟩⟩⟩⟩⟩⟩⟩⟩⟩⟩⟩⟩⟩
theorem mjCw_3 : ∀ q ∈ [((4, yX4_choose, cX4_choose, 8, none, 4, 3), 6014), ((4, yX4_reason, cX4_reason, 9, (some .int), 5, 4), 6010), ((8, yX8_isTold, cX8_isTold, 3, (some .boolean), 2, 2), 5000), ((4, yX4_rulesStriking, cX4_rulesStriking, 10, (some .int), 4, 5), 4159), ((4, yX4_tally, cX4_tally, 13, (some .int), 5, 4), 6050), ((4, yX4_isUnstruck, cX4_isUnstruck, 15, (some .boolean), 5, 3), 6156), ((4, yX4_fewestWaived, cX4_fewestWaived, 8, (some .int), 6, 2), 6147), ((5, yX5_init, cX5_init, 1, none, 1, 0), 2104), ((5, yX5_kthAt, cX5_kthAt, 5, (some .int), 4, 3), 5084), ((7, yX7_time, cX7_time, 1, (some .int), 1, 0), 4154), ((5, yX5_lastTenth, cX5_lastTenth, 4, (some .int), 2, 1), 5107), ((5, yX5_leadAt, cX5_leadAt, 6, (some .int), 3, 3), 5114), ((5, yX5_boldestTenth, cX5_boldestTenth, 8, (some .int), 4, 2), 5103), ((5, yX5_leadChanges, cX5_leadChanges, 10, (some .int), 3, 3), 5122), ((7, yX7_arrival, cX7_arrival, 5, (some .int), 1, 1), 5076), ((5, yX5_kthToCut, cX5_kthToCut, 5, (some .int), 4, 2), 5130), ((5, yX5_laterToLine, cX5_laterToLine, 9, (some .int), 2, 3), 5140), ((5, yX5_mostWithin, cX5_mostWithin, 10, (some .int), 3, 3), 5148), ((7, yX7_tenthsOf, cX7_tenthsOf, 2, (some .int), 1, 1), 5164), ((5, yX5_fastestOf, cX5_fastestOf, 4, (some .int), 4, 2), 5156), ((5, yX5_sumOf, cX5_sumOf, 5, (some .int), 3, 2), 5169), ((9, yX9_init, cX9_init, 1, none, 1, 0), 2018), ((6, yX6_init, cX6_init, 1, none, 2, 0), 2012), ((9, yX9_open, cX9_open, 3, none, 5, 2), 3023), ((6, yX6_fail, cX6_fail, 2, (some .boolean), 0, 1), 3174), ((6, yX6_takeWord, cX6_takeWord, 3, (some .boolean), 6, 2), 3142), ((6, yX6_takeNumber, cX6_takeNumber, 3, (some .boolean), 5, 2), 3179), ((6, yX6_takeSign, cX6_takeSign, 2, (some .boolean), 5, 1), 3183), ((6, yX6_readTrack, cX6_readTrack, 2, (some .boolean), 7, 1), 3137), ((9, yX9_isName, cX9_isName, 1, (some .boolean), 6, 0), 3191)], mjCw q := List.forall_mem_cons.mpr ⟨mjcw90, List.forall_mem_cons.mpr ⟨mjcw91, List.forall_mem_cons.mpr ⟨mjcw92, List.forall_mem_cons.mpr ⟨mjcw93, List.forall_mem_cons.mpr ⟨mjcw94, List.forall_mem_cons.mpr ⟨mjcw95, List.forall_mem_cons.mpr ⟨mjcw96, List.forall_mem_cons.mpr ⟨mjcw97, List.forall_mem_cons.mpr ⟨mjcw98, List.forall_mem_cons.mpr ⟨mjcw99, List.forall_mem_cons.mpr ⟨mjcw100, List.forall_mem_cons.mpr ⟨mjcw101, List.forall_mem_cons.mpr ⟨mjcw102, List.forall_mem_cons.mpr ⟨mjcw103, List.forall_mem_cons.mpr ⟨mjcw104, List.forall_mem_cons.mpr ⟨mjcw105, List.forall_mem_cons.mpr ⟨mjcw106, List.forall_mem_cons.mpr ⟨mjcw107, List.forall_mem_cons.mpr ⟨mjcw108, List.forall_mem_cons.mpr ⟨mjcw109, List.forall_mem_cons.mpr ⟨mjcw110, List.forall_mem_cons.mpr ⟨mjcw111, List.forall_mem_cons.mpr ⟨mjcw112, List.forall_mem_cons.mpr ⟨mjcw113, List.forall_mem_cons.mpr ⟨mjcw114, List.forall_mem_cons.mpr ⟨mjcw115, List.forall_mem_cons.mpr ⟨mjcw116, List.forall_mem_cons.mpr ⟨mjcw117, List.forall_mem_cons.mpr ⟨mjcw118, List.forall_mem_cons.mpr ⟨mjcw119, (fun _ h => absurd h List.not_mem_nil)⟩⟩⟩⟩⟩⟩⟩⟩⟩⟩⟩⟩⟩⟩⟩⟩⟩⟩⟩⟩⟩⟩⟩⟩⟩⟩⟩⟩⟩⟩
theorem mjCw_4 : ∀ q ∈ [((6, yX6_readTeam, cX6_readTeam, 4, (some .boolean), 7, 1), 3187), ((6, yX6_takeTeam, cX6_takeTeam, 4, (some .int), 7, 2), 3237), ((7, yX7_addLeg, cX7_addLeg, 3, none, 1, 2), 4005), ((6, yX6_readRuns, cX6_readRuns, 7, (some .boolean), 8, 1), 3231), ((6, yX6_readAct, cX6_readAct, 6, (some .boolean), 8, 1), 4013), ((6, yX6_readRule, cX6_readRule, 6, (some .boolean), 8, 1), 4030), ((6, yX6_readThrough, cX6_readThrough, 2, (some .boolean), 6, 1), 4109), ((6, yX6_readWithin, cX6_readWithin, 2, (some .boolean), 6, 1), 4113), ((6, yX6_read, cX6_read, 6, (some .int), 9, 3), 3008), ((8, yX8_comparisonsOf, cX8_comparisonsOf, 3, (some .int), 1, 2), 5232), ((9, yX9_letter, cX9_letter, 3, (some .int), 0, 2), 5043), ((10, yX10_init, cX10_init, 1, none, 1, 0), 2146), ((10, yX10_strike, cX10_strike, 2, none, 0, 1), 5006), ((10, yX10_isIn, cX10_isIn, 2, (some .boolean), 1, 1), 5020), ((10, yX10_rankOf, cX10_rankOf, 4, (some .int), 1, 2), 5024), ((10, yX10_decideThrough, cX10_decideThrough, 5, none, 2, 1), 5016), ((10, yX10_decide, cX10_decide, 8, none, 5, 3), 4149), ((10, yX10_rankByTime, cX10_rankByTime, 2, (some .int), 2, 1), 6080), ((10, yX10_rankByWould, cX10_rankByWould, 2, (some .int), 2, 1), 6109), ((10, yX10_wouldOf, cX10_wouldOf, 2, (some .int), 1, 1), 6101), ((10, yX10_kthOfResult, cX10_kthOfResult, 3, (some .int), 4, 2), 6088), ((10, yX10_isRunAgain, cX10_isRunAgain, 2, (some .boolean), 1, 0), 6129), ((10, yX10_rulesStriking, cX10_rulesStriking, 2, (some .int), 1, 1), 6038), ((10, yX10_firstRuleStriking, cX10_firstRuleStriking, 3, (some .int), 2, 1), 6068), ((10, yX10_firstStruckAct, cX10_firstStruckAct, 7, (some .int), 2, 2), 6063), ((10, yX10_struckActs, cX10_struckActs, 5, (some .int), 2, 2), 6072), ((10, yX10_impedersOf, cX10_impedersOf, 6, (some .int), 2, 2), 6121), ((11, yX11_init, cX11_init, 1, none, 3, 0), 1027), ((11, yX11_feedNumber, cX11_feedNumber, 3, none, 0, 1), 2236), ((11, yX11_feed, cX11_feed, 6, (some .int), 1, 5), 2232)], mjCw q := List.forall_mem_cons.mpr ⟨mjcw120, List.forall_mem_cons.mpr ⟨mjcw121, List.forall_mem_cons.mpr ⟨mjcw122, List.forall_mem_cons.mpr ⟨mjcw123, List.forall_mem_cons.mpr ⟨mjcw124, List.forall_mem_cons.mpr ⟨mjcw125, List.forall_mem_cons.mpr ⟨mjcw126, List.forall_mem_cons.mpr ⟨mjcw127, List.forall_mem_cons.mpr ⟨mjcw128, List.forall_mem_cons.mpr ⟨mjcw129, List.forall_mem_cons.mpr ⟨mjcw130, List.forall_mem_cons.mpr ⟨mjcw131, List.forall_mem_cons.mpr ⟨mjcw132, List.forall_mem_cons.mpr ⟨mjcw133, List.forall_mem_cons.mpr ⟨mjcw134, List.forall_mem_cons.mpr ⟨mjcw135, List.forall_mem_cons.mpr ⟨mjcw136, List.forall_mem_cons.mpr ⟨mjcw137, List.forall_mem_cons.mpr ⟨mjcw138, List.forall_mem_cons.mpr ⟨mjcw139, List.forall_mem_cons.mpr ⟨mjcw140, List.forall_mem_cons.mpr ⟨mjcw141, List.forall_mem_cons.mpr ⟨mjcw142, List.forall_mem_cons.mpr ⟨mjcw143, List.forall_mem_cons.mpr ⟨mjcw144, List.forall_mem_cons.mpr ⟨mjcw145, List.forall_mem_cons.mpr ⟨mjcw146, List.forall_mem_cons.mpr ⟨mjcw147, List.forall_mem_cons.mpr ⟨mjcw148, List.forall_mem_cons.mpr ⟨mjcw149, (fun _ h => absurd h List.not_mem_nil)⟩⟩⟩⟩⟩⟩⟩⟩⟩⟩⟩⟩⟩⟩⟩⟩⟩⟩⟩⟩⟩⟩⟩⟩⟩⟩⟩⟩⟩⟩
theorem mjCw_5 : ∀ q ∈ [((11, yX11_end, cX11_end, 2, (some .int), 0, 1), 3000), ((11, yX11_settleAll, cX11_settleAll, 1, none, 6, 0), 4121), ((11, yX11_book, cX11_book, 3, (some .int), 10, 0), 3004), ((11, yX11_fault, cX11_fault, 2, (some .int), 0, 1), 5030), ((11, yX11_about, cX11_about, 2, (some .int), 0, 1), 5034), ((11, yX11_name, cX11_name, 4, (some .int), 2, 3), 5038), ((11, yX11_team, cX11_team, 4, (some .int), 3, 2), 5053), ((11, yX11_lane, cX11_lane, 2, (some .int), 3, 1), 5059), ((11, yX11_isTenth, cX11_isTenth, 1, (some .boolean), 0, 1), 5067), ((11, yX11_place, cX11_place, 3, (some .int), 3, 2), 5064), ((11, yX11_comes, cX11_comes, 3, (some .int), 2, 2), 5072), ((11, yX11_order, cX11_order, 3, (some .int), 5, 2), 5080), ((11, yX11_boldest, cX11_boldest, 2, (some .int), 5, 1), 5099), ((11, yX11_changes, cX11_changes, 3, (some .int), 4, 2), 5118), ((11, yX11_cutIn, cX11_cutIn, 2, (some .int), 5, 1), 5126), ((11, yX11_behind, cX11_behind, 3, (some .int), 3, 2), 5136), ((11, yX11_crowd, cX11_crowd, 3, (some .int), 4, 2), 5144), ((11, yX11_fastest, cX11_fastest, 4, (some .int), 5, 2), 5152), ((11, yX11_leg, cX11_leg, 5, (some .int), 3, 3), 5173), ((11, yX11_inBox, cX11_inBox, 3, (some .int), 3, 2), 5197), ((11, yX11_act, cX11_act, 4, (some .int), 1, 2), 5205), ((11, yX11_fact, cX11_fact, 3, (some .int), 5, 2), 5215), ((11, yX11_rule, cX11_rule, 3, (some .int), 3, 2), 5227), ((11, yX11_canHold, cX11_canHold, 4, (some .boolean), 3, 3), 6001), ((11, yX11_holds, cX11_holds, 4, (some .int), 5, 3), 5237), ((11, yX11_why, cX11_why, 5, (some .int), 6, 4), 6006), ((11, yX11_struckBy, cX11_struckBy, 3, (some .int), 2, 2), 6034), ((11, yX11_clean, cX11_clean, 3, (some .int), 6, 2), 6042), ((11, yX11_free, cX11_free, 3, (some .int), 6, 2), 6055), ((11, yX11_struck, cX11_struck, 4, (some .int), 3, 2), 6059)], mjCw q := List.forall_mem_cons.mpr ⟨mjcw150, List.forall_mem_cons.mpr ⟨mjcw151, List.forall_mem_cons.mpr ⟨mjcw152, List.forall_mem_cons.mpr ⟨mjcw153, List.forall_mem_cons.mpr ⟨mjcw154, List.forall_mem_cons.mpr ⟨mjcw155, List.forall_mem_cons.mpr ⟨mjcw156, List.forall_mem_cons.mpr ⟨mjcw157, List.forall_mem_cons.mpr ⟨mjcw158, List.forall_mem_cons.mpr ⟨mjcw159, List.forall_mem_cons.mpr ⟨mjcw160, List.forall_mem_cons.mpr ⟨mjcw161, List.forall_mem_cons.mpr ⟨mjcw162, List.forall_mem_cons.mpr ⟨mjcw163, List.forall_mem_cons.mpr ⟨mjcw164, List.forall_mem_cons.mpr ⟨mjcw165, List.forall_mem_cons.mpr ⟨mjcw166, List.forall_mem_cons.mpr ⟨mjcw167, List.forall_mem_cons.mpr ⟨mjcw168, List.forall_mem_cons.mpr ⟨mjcw169, List.forall_mem_cons.mpr ⟨mjcw170, List.forall_mem_cons.mpr ⟨mjcw171, List.forall_mem_cons.mpr ⟨mjcw172, List.forall_mem_cons.mpr ⟨mjcw173, List.forall_mem_cons.mpr ⟨mjcw174, List.forall_mem_cons.mpr ⟨mjcw175, List.forall_mem_cons.mpr ⟨mjcw176, List.forall_mem_cons.mpr ⟨mjcw177, List.forall_mem_cons.mpr ⟨mjcw178, List.forall_mem_cons.mpr ⟨mjcw179, (fun _ h => absurd h List.not_mem_nil)⟩⟩⟩⟩⟩⟩⟩⟩⟩⟩⟩⟩⟩⟩⟩⟩⟩⟩⟩⟩⟩⟩⟩⟩⟩⟩⟩⟩⟩⟩
theorem mjCw_6 : ∀ q ∈ [((11, yX11_rank, cX11_rank, 2, (some .int), 3, 1), 6076), ((11, yX11_result, cX11_result, 2, (some .int), 5, 1), 6084), ((11, yX11_who, cX11_who, 2, (some .int), 0, 1), 6093), ((11, yX11_would, cX11_would, 2, (some .int), 3, 1), 6097), ((11, yX11_fairRank, cX11_fairRank, 2, (some .int), 3, 1), 6105), ((11, yX11_margin, cX11_margin, 4, (some .int), 5, 1), 6113), ((11, yX11_impeders, cX11_impeders, 2, (some .int), 3, 1), 6117), ((11, yX11_again, cX11_again, 1, (some .int), 2, 0), 6125), ((11, yX11_winner, cX11_winner, 3, (some .int), 6, 1), 6139), ((11, yX11_stays, cX11_stays, 4, (some .int), 7, 2), 6143), ((11, yX11_appeal, cX11_appeal, 6, (some .int), 7, 3), 6161), ((11, yX11_waive, cX11_waive, 2, (some .int), 7, 1), 6170), ((11, yX11_measure, cX11_measure, 8, (some .int), 7, 4), 6174), ((11, yX11_undo, cX11_undo, 1, (some .int), 7, 0), 6180), ((12, yX12_init, cX12_init, 1, none, 1, 0), 6193), ((12, yX12_isIn, cX12_isIn, 6, (some .boolean), 0, 3), 7200), ((12, yX12_truth, cX12_truth, 1, (some .int), 0, 1), 8170), ((12, yX12_holds1, cX12_holds1, 2, (some .boolean), 0, 2), 8112), ((12, yX12_four, cX12_four, 3, none, 0, 1), 7193), ((12, yX12_feed, cX12_feed, 6, (some .int), 1, 5), 7189), ((12, yX12_end, cX12_end, 2, (some .int), 1, 1), 7197), ((12, yX12_here, cX12_here, 2, (some .int), 0, 1), 7212), ((12, yX12_isLetter, cX12_isLetter, 1, (some .boolean), 0, 1), 7215), ((12, yX12_isDigit, cX12_isDigit, 1, (some .boolean), 0, 1), 7218), ((12, yX12_isSign, cX12_isSign, 1, (some .boolean), 0, 1), 7221), ((12, yX12_goOn, cX12_goOn, 3, none, 1, 0), 7208), ((12, yX12_wrong, cX12_wrong, 2, none, 0, 1), 7234), ((12, yX12_isGood, cX12_isGood, 1, (some .boolean), 0, 0), 7238), ((12, yX12_isWord, cX12_isWord, 3, (some .boolean), 0, 1), 7230), ((12, yX12_isSignHere, cX12_isSignHere, 2, (some .boolean), 0, 1), 8010)], mjCw q := List.forall_mem_cons.mpr ⟨mjcw180, List.forall_mem_cons.mpr ⟨mjcw181, List.forall_mem_cons.mpr ⟨mjcw182, List.forall_mem_cons.mpr ⟨mjcw183, List.forall_mem_cons.mpr ⟨mjcw184, List.forall_mem_cons.mpr ⟨mjcw185, List.forall_mem_cons.mpr ⟨mjcw186, List.forall_mem_cons.mpr ⟨mjcw187, List.forall_mem_cons.mpr ⟨mjcw188, List.forall_mem_cons.mpr ⟨mjcw189, List.forall_mem_cons.mpr ⟨mjcw190, List.forall_mem_cons.mpr ⟨mjcw191, List.forall_mem_cons.mpr ⟨mjcw192, List.forall_mem_cons.mpr ⟨mjcw193, List.forall_mem_cons.mpr ⟨mjcw194, List.forall_mem_cons.mpr ⟨mjcw195, List.forall_mem_cons.mpr ⟨mjcw196, List.forall_mem_cons.mpr ⟨mjcw197, List.forall_mem_cons.mpr ⟨mjcw198, List.forall_mem_cons.mpr ⟨mjcw199, List.forall_mem_cons.mpr ⟨mjcw200, List.forall_mem_cons.mpr ⟨mjcw201, List.forall_mem_cons.mpr ⟨mjcw202, List.forall_mem_cons.mpr ⟨mjcw203, List.forall_mem_cons.mpr ⟨mjcw204, List.forall_mem_cons.mpr ⟨mjcw205, List.forall_mem_cons.mpr ⟨mjcw206, List.forall_mem_cons.mpr ⟨mjcw207, List.forall_mem_cons.mpr ⟨mjcw208, List.forall_mem_cons.mpr ⟨mjcw209, (fun _ h => absurd h List.not_mem_nil)⟩⟩⟩⟩⟩⟩⟩⟩⟩⟩⟩⟩⟩⟩⟩⟩⟩⟩⟩⟩⟩⟩⟩⟩⟩⟩⟩⟩⟩⟩
theorem mjCw_7 : ∀ q ∈ [((12, yX12_among, cX12_among, 5, (some .int), 0, 3), 8040), ((12, yX12_isKept, cX12_isKept, 1, (some .boolean), 1, 0), 8027), ((12, yX12_must, cX12_must, 2, none, 2, 1), 8006), ((12, yX12_number, cX12_number, 4, (some .int), 2, 2), 8002), ((12, yX12_emits, cX12_emits, 2, none, 0, 1), 8089), ((12, yX12_waitsFor, cX12_waitsFor, 2, none, 0, 1), 8077), ((12, yX12_top, cX12_top, 1, (some .int), 0, 0), 8097), ((12, yX12_opens, cX12_opens, 2, none, 2, 1), 8073), ((12, yX12_works, cX12_works, 3, none, 1, 2), 8093), ((12, yX12_operand, cX12_operand, 2, none, 3, 0), 8085), ((12, yX12_closes, cX12_closes, 2, none, 2, 1), 8101), ((12, yX12_numberFormula, cX12_numberFormula, 2, none, 4, 0), 8081), ((12, yX12_ends, cX12_ends, 1, none, 1, 0), 8105), ((12, yX12_comparison, cX12_comparison, 3, none, 5, 0), 8069), ((12, yX12_test, cX12_test, 2, none, 6, 0), 8065), ((12, yX12_freshName, cX12_freshName, 3, none, 2, 2), 8023), ((12, yX12_teamHere, cX12_teamHere, 2, (some .int), 2, 0), 8049), ((12, yX12_teamLine, cX12_teamLine, 3, none, 3, 0), 8019), ((12, yX12_runsLine, cX12_runsLine, 5, none, 3, 0), 8045), ((12, yX12_kindHere, cX12_kindHere, 3, (some .int), 2, 1), 8057), ((12, yX12_actLine, cX12_actLine, 6, none, 3, 0), 8053), ((12, yX12_ruleLine, cX12_ruleLine, 2, none, 7, 0), 8061), ((12, yX12_once, cX12_once, 2, none, 2, 1), 8109), ((12, yX12_line, cX12_line, 1, none, 8, 0), 8014), ((12, yX12_trackLine, cX12_trackLine, 1, none, 3, 0), 7225), ((12, yX12_takes, cX12_takes, 2, none, 0, 0), 8116), ((12, yX12_book, cX12_book, 1, (some .int), 9, 0), 7204), ((12, yX12_fault, cX12_fault, 2, (some .int), 0, 1), 8120), ((12, yX12_keeps, cX12_keeps, 2, none, 0, 0), 9227), ((12, yX12_undo, cX12_undo, 2, (some .int), 0, 0), 8124)], mjCw q := List.forall_mem_cons.mpr ⟨mjcw210, List.forall_mem_cons.mpr ⟨mjcw211, List.forall_mem_cons.mpr ⟨mjcw212, List.forall_mem_cons.mpr ⟨mjcw213, List.forall_mem_cons.mpr ⟨mjcw214, List.forall_mem_cons.mpr ⟨mjcw215, List.forall_mem_cons.mpr ⟨mjcw216, List.forall_mem_cons.mpr ⟨mjcw217, List.forall_mem_cons.mpr ⟨mjcw218, List.forall_mem_cons.mpr ⟨mjcw219, List.forall_mem_cons.mpr ⟨mjcw220, List.forall_mem_cons.mpr ⟨mjcw221, List.forall_mem_cons.mpr ⟨mjcw222, List.forall_mem_cons.mpr ⟨mjcw223, List.forall_mem_cons.mpr ⟨mjcw224, List.forall_mem_cons.mpr ⟨mjcw225, List.forall_mem_cons.mpr ⟨mjcw226, List.forall_mem_cons.mpr ⟨mjcw227, List.forall_mem_cons.mpr ⟨mjcw228, List.forall_mem_cons.mpr ⟨mjcw229, List.forall_mem_cons.mpr ⟨mjcw230, List.forall_mem_cons.mpr ⟨mjcw231, List.forall_mem_cons.mpr ⟨mjcw232, List.forall_mem_cons.mpr ⟨mjcw233, List.forall_mem_cons.mpr ⟨mjcw234, List.forall_mem_cons.mpr ⟨mjcw235, List.forall_mem_cons.mpr ⟨mjcw236, List.forall_mem_cons.mpr ⟨mjcw237, List.forall_mem_cons.mpr ⟨mjcw238, List.forall_mem_cons.mpr ⟨mjcw239, (fun _ h => absurd h List.not_mem_nil)⟩⟩⟩⟩⟩⟩⟩⟩⟩⟩⟩⟩⟩⟩⟩⟩⟩⟩⟩⟩⟩⟩⟩⟩⟩⟩⟩⟩⟩⟩
theorem mjCw_8 : ∀ q ∈ [((12, yX12_isTeam, cX12_isTeam, 2, (some .boolean), 1, 1), 8150), ((12, yX12_isTenth, cX12_isTenth, 2, (some .boolean), 1, 1), 8182), ((12, yX12_tenthsOf, cX12_tenthsOf, 3, (some .int), 0, 2), 8163), ((12, yX12_metresOf, cX12_metresOf, 3, (some .int), 0, 2), 8199), ((12, yX12_endPlace, cX12_endPlace, 3, (some .int), 1, 2), 8195), ((12, yX12_endTenth, cX12_endTenth, 5, (some .int), 1, 2), 8159), ((12, yX12_timeOf, cX12_timeOf, 2, (some .int), 2, 1), 8155), ((12, yX12_isWhole, cX12_isWhole, 2, (some .boolean), 0, 1), 8167), ((12, yX12_legAt, cX12_legAt, 4, (some .int), 2, 2), 8191), ((12, yX12_placeOf, cX12_placeOf, 7, (some .int), 3, 2), 8187), ((12, yX12_boxesOf, cX12_boxesOf, 2, (some .int), 0, 1), 8137), ((12, yX12_allActs, cX12_allActs, 3, (some .int), 1, 0), 8133), ((12, yX12_about, cX12_about, 2, (some .int), 2, 1), 8128), ((12, yX12_name, cX12_name, 8, (some .int), 1, 3), 8141), ((12, yX12_team, cX12_team, 3, (some .int), 3, 2), 8146), ((12, yX12_lane, cX12_lane, 3, (some .int), 0, 1), 8174), ((12, yX12_place, cX12_place, 3, (some .int), 4, 2), 8178), ((12, yX12_comesTo, cX12_comesTo, 4, (some .int), 4, 2), 8207), ((12, yX12_comes, cX12_comes, 3, (some .int), 5, 2), 8203), ((12, yX12_keyedAt, cX12_keyedAt, 5, (some .int), 1, 1), 8215), ((12, yX12_order, cX12_order, 4, (some .int), 4, 2), 8211), ((12, yX12_boldest, cX12_boldest, 8, (some .int), 4, 1), 8219), ((12, yX12_changes, cX12_changes, 8, (some .int), 4, 2), 8223), ((12, yX12_cutIn, cX12_cutIn, 3, (some .int), 5, 1), 8227), ((12, yX12_behind, cX12_behind, 8, (some .int), 5, 2), 8231), ((12, yX12_crowd, cX12_crowd, 8, (some .int), 4, 2), 8235), ((12, yX12_fastest, cX12_fastest, 8, (some .int), 1, 2), 8239), ((12, yX12_inBoxOf, cX12_inBoxOf, 8, (some .int), 2, 3), 9008), ((12, yX12_leg, cX12_leg, 5, (some .int), 3, 3), 9004), ((12, yX12_inBox, cX12_inBox, 6, (some .int), 4, 2), 9012)], mjCw q := List.forall_mem_cons.mpr ⟨mjcw240, List.forall_mem_cons.mpr ⟨mjcw241, List.forall_mem_cons.mpr ⟨mjcw242, List.forall_mem_cons.mpr ⟨mjcw243, List.forall_mem_cons.mpr ⟨mjcw244, List.forall_mem_cons.mpr ⟨mjcw245, List.forall_mem_cons.mpr ⟨mjcw246, List.forall_mem_cons.mpr ⟨mjcw247, List.forall_mem_cons.mpr ⟨mjcw248, List.forall_mem_cons.mpr ⟨mjcw249, List.forall_mem_cons.mpr ⟨mjcw250, List.forall_mem_cons.mpr ⟨mjcw251, List.forall_mem_cons.mpr ⟨mjcw252, List.forall_mem_cons.mpr ⟨mjcw253, List.forall_mem_cons.mpr ⟨mjcw254, List.forall_mem_cons.mpr ⟨mjcw255, List.forall_mem_cons.mpr ⟨mjcw256, List.forall_mem_cons.mpr ⟨mjcw257, List.forall_mem_cons.mpr ⟨mjcw258, List.forall_mem_cons.mpr ⟨mjcw259, List.forall_mem_cons.mpr ⟨mjcw260, List.forall_mem_cons.mpr ⟨mjcw261, List.forall_mem_cons.mpr ⟨mjcw262, List.forall_mem_cons.mpr ⟨mjcw263, List.forall_mem_cons.mpr ⟨mjcw264, List.forall_mem_cons.mpr ⟨mjcw265, List.forall_mem_cons.mpr ⟨mjcw266, List.forall_mem_cons.mpr ⟨mjcw267, List.forall_mem_cons.mpr ⟨mjcw268, List.forall_mem_cons.mpr ⟨mjcw269, (fun _ h => absurd h List.not_mem_nil)⟩⟩⟩⟩⟩⟩⟩⟩⟩⟩⟩⟩⟩⟩⟩⟩⟩⟩⟩⟩⟩⟩⟩⟩⟩⟩⟩⟩⟩⟩
theorem mjCw_9 : ∀ q ∈ [((12, yX12_isAct, cX12_isAct, 2, (some .boolean), 2, 1), 9021), ((12, yX12_boxTeam, cX12_boxTeam, 4, (some .int), 1, 1), 9035), ((12, yX12_boxLeg, cX12_boxLeg, 4, (some .int), 2, 1), 9047), ((12, yX12_kindOf, cX12_kindOf, 2, (some .int), 0, 1), 9027), ((12, yX12_teamOf, cX12_teamOf, 2, (some .int), 2, 1), 9031), ((12, yX12_otherOf, cX12_otherOf, 2, (some .int), 0, 1), 9039), ((12, yX12_tenthOf, cX12_tenthOf, 2, (some .int), 3, 1), 9043), ((12, yX12_sizeOf, cX12_sizeOf, 3, (some .int), 3, 1), 9051), ((12, yX12_isWaived, cX12_isWaived, 3, (some .boolean), 1, 1), 9055), ((12, yX12_isAhead, cX12_isAhead, 3, (some .boolean), 4, 2), 9067), ((12, yX12_factOf, cX12_factOf, 9, (some .int), 5, 2), 9063), ((12, yX12_act, cX12_act, 3, (some .int), 4, 2), 9017), ((12, yX12_fact, cX12_fact, 3, (some .int), 6, 2), 9059), ((12, yX12_ones, cX12_ones, 5, (some .int), 0, 1), 9114), ((12, yX12_size, cX12_size, 2, (some .int), 1, 1), 9111), ((12, yX12_kept, cX12_kept, 3, (some .long), 0, 1), 9101), ((12, yX12_compares, cX12_compares, 7, none, 1, 1), 9118), ((12, yX12_joins, cX12_joins, 8, none, 2, 1), 9107), ((12, yX12_worked, cX12_worked, 10, (some .boolean), 6, 3), 9097), ((12, yX12_hasExcuse, cX12_hasExcuse, 2, (some .boolean), 0, 1), 9079), ((12, yX12_holdsPart, cX12_holdsPart, 4, (some .boolean), 7, 3), 9093), ((12, yX12_isRule, cX12_isRule, 2, (some .boolean), 1, 1), 9075), ((12, yX12_isAsked, cX12_isAsked, 4, (some .boolean), 3, 3), 9089), ((12, yX12_rule, cX12_rule, 5, (some .int), 2, 2), 9071), ((12, yX12_holds, cX12_holds, 4, (some .int), 8, 3), 9085), ((12, yX12_why, cX12_why, 9, (some .int), 8, 4), 9122), ((12, yX12_isStruck, cX12_isStruck, 3, (some .boolean), 8, 2), 9130), ((12, yX12_struckBy, cX12_struckBy, 3, (some .int), 9, 2), 9126), ((12, yX12_firstRule, cX12_firstRule, 3, (some .int), 9, 1), 9142), ((12, yX12_without, cX12_without, 10, (some .int), 10, 4), 9138)], mjCw q := List.forall_mem_cons.mpr ⟨mjcw270, List.forall_mem_cons.mpr ⟨mjcw271, List.forall_mem_cons.mpr ⟨mjcw272, List.forall_mem_cons.mpr ⟨mjcw273, List.forall_mem_cons.mpr ⟨mjcw274, List.forall_mem_cons.mpr ⟨mjcw275, List.forall_mem_cons.mpr ⟨mjcw276, List.forall_mem_cons.mpr ⟨mjcw277, List.forall_mem_cons.mpr ⟨mjcw278, List.forall_mem_cons.mpr ⟨mjcw279, List.forall_mem_cons.mpr ⟨mjcw280, List.forall_mem_cons.mpr ⟨mjcw281, List.forall_mem_cons.mpr ⟨mjcw282, List.forall_mem_cons.mpr ⟨mjcw283, List.forall_mem_cons.mpr ⟨mjcw284, List.forall_mem_cons.mpr ⟨mjcw285, List.forall_mem_cons.mpr ⟨mjcw286, List.forall_mem_cons.mpr ⟨mjcw287, List.forall_mem_cons.mpr ⟨mjcw288, List.forall_mem_cons.mpr ⟨mjcw289, List.forall_mem_cons.mpr ⟨mjcw290, List.forall_mem_cons.mpr ⟨mjcw291, List.forall_mem_cons.mpr ⟨mjcw292, List.forall_mem_cons.mpr ⟨mjcw293, List.forall_mem_cons.mpr ⟨mjcw294, List.forall_mem_cons.mpr ⟨mjcw295, List.forall_mem_cons.mpr ⟨mjcw296, List.forall_mem_cons.mpr ⟨mjcw297, List.forall_mem_cons.mpr ⟨mjcw298, List.forall_mem_cons.mpr ⟨mjcw299, (fun _ h => absurd h List.not_mem_nil)⟩⟩⟩⟩⟩⟩⟩⟩⟩⟩⟩⟩⟩⟩⟩⟩⟩⟩⟩⟩⟩⟩⟩⟩⟩⟩⟩⟩⟩⟩
theorem mjCw_10 : ∀ q ∈ [((12, yX12_clean, cX12_clean, 3, (some .int), 11, 2), 9134), ((12, yX12_free, cX12_free, 3, (some .int), 11, 2), 9146), ((12, yX12_laysStruck, cX12_laysStruck, 2, none, 10, 0), 9154), ((12, yX12_struck, cX12_struck, 6, (some .int), 11, 2), 9150), ((12, yX12_isInResult, cX12_isInResult, 2, (some .boolean), 1, 1), 9162), ((12, yX12_rankOf, cX12_rankOf, 4, (some .int), 3, 1), 9166), ((12, yX12_rank, cX12_rank, 2, (some .int), 11, 1), 9158), ((12, yX12_fairRank, cX12_fairRank, 4, (some .int), 11, 1), 9170), ((12, yX12_resultAt, cX12_resultAt, 3, (some .int), 11, 1), 9178), ((12, yX12_margin, cX12_margin, 3, (some .int), 12, 1), 9174), ((12, yX12_impeders, cX12_impeders, 4, (some .int), 11, 1), 9182), ((12, yX12_result, cX12_result, 2, (some .int), 12, 1), 9186), ((12, yX12_isThrough, cX12_isThrough, 2, (some .boolean), 4, 1), 9198), ((12, yX12_besides, cX12_besides, 4, (some .int), 5, 0), 9194), ((12, yX12_who, cX12_who, 4, (some .int), 11, 1), 9190), ((12, yX12_would, cX12_would, 2, (some .int), 11, 1), 9202), ((12, yX12_again, cX12_again, 5, (some .int), 11, 0), 9206), ((12, yX12_winner, cX12_winner, 3, (some .int), 12, 1), 9210), ((12, yX12_isClean, cX12_isClean, 3, (some .boolean), 10, 1), 9218), ((12, yX12_stays, cX12_stays, 7, (some .int), 11, 2), 9214), ((12, yX12_appeal, cX12_appeal, 5, (some .int), 1, 3), 9222), ((12, yX12_waive, cX12_waive, 2, (some .int), 1, 1), 9231), ((12, yX12_measure, cX12_measure, 7, (some .int), 3, 4), 9235), ((14, yJ6_bitCount_0f7a4, cJ6_bitCount_0f7a4, 1, (some .int), 0, 1), 6132), ((15, yJ13_bitCount_95d88, cJ13_bitCount_95d88, 2, (some .int), 0, 1), 4183), ((17, yJ7_fill_53178, cJ7_fill_53178, 4, none, 0, 2), 3019), ((17, yJ7_fill_d0a16, cJ7_fill_d0a16, 5, none, 0, 2), 6150), ((18, yJ0_length_8abf5, cJ0_length_8abf5, 1, (some .int), 1, 0), 3067), ((18, yJ0_coder_7d493, cJ0_coder_7d493, 1, (some .byte), 0, 0), 3071), ((18, yJ0_charAt_5068e, cJ0_charAt_5068e, 2, (some .char), 3, 1), 3154)], mjCw q := List.forall_mem_cons.mpr ⟨mjcw300, List.forall_mem_cons.mpr ⟨mjcw301, List.forall_mem_cons.mpr ⟨mjcw302, List.forall_mem_cons.mpr ⟨mjcw303, List.forall_mem_cons.mpr ⟨mjcw304, List.forall_mem_cons.mpr ⟨mjcw305, List.forall_mem_cons.mpr ⟨mjcw306, List.forall_mem_cons.mpr ⟨mjcw307, List.forall_mem_cons.mpr ⟨mjcw308, List.forall_mem_cons.mpr ⟨mjcw309, List.forall_mem_cons.mpr ⟨mjcw310, List.forall_mem_cons.mpr ⟨mjcw311, List.forall_mem_cons.mpr ⟨mjcw312, List.forall_mem_cons.mpr ⟨mjcw313, List.forall_mem_cons.mpr ⟨mjcw314, List.forall_mem_cons.mpr ⟨mjcw315, List.forall_mem_cons.mpr ⟨mjcw316, List.forall_mem_cons.mpr ⟨mjcw317, List.forall_mem_cons.mpr ⟨mjcw318, List.forall_mem_cons.mpr ⟨mjcw319, List.forall_mem_cons.mpr ⟨mjcw320, List.forall_mem_cons.mpr ⟨mjcw321, List.forall_mem_cons.mpr ⟨mjcw322, List.forall_mem_cons.mpr ⟨mjcw323, List.forall_mem_cons.mpr ⟨mjcw324, List.forall_mem_cons.mpr ⟨mjcw325, List.forall_mem_cons.mpr ⟨mjcw326, List.forall_mem_cons.mpr ⟨mjcw327, List.forall_mem_cons.mpr ⟨mjcw328, List.forall_mem_cons.mpr ⟨mjcw329, (fun _ h => absurd h List.not_mem_nil)⟩⟩⟩⟩⟩⟩⟩⟩⟩⟩⟩⟩⟩⟩⟩⟩⟩⟩⟩⟩⟩⟩⟩⟩⟩⟩⟩⟩⟩⟩
theorem mjCw_11 : ∀ q ∈ [((18, yJ0_isLatin1_aae02, cJ0_isLatin1_aae02, 1, (some .boolean), 0, 0), 3061), ((19, yJ1_charAt_3b067, cJ1_charAt_3b067, 2, (some .char), 2, 2), 3157), ((18, yJ0_checkIndex_df160, cJ0_checkIndex_df160, 2, none, 1, 2), 3160), ((20, yJ3_checkIndex_8e157, cJ3_checkIndex_8e157, 3, (some .int), 0, 3), 3163), ((18, yJ0_indexOf_7cf53, cJ0_indexOf_7cf53, 3, (some .int), 2, 2), 3057), ((18, yJ0_indexOf_0f7a4, cJ0_indexOf_0f7a4, 2, (some .int), 3, 1), 3053), ((19, yJ1_indexOf_4cfef, cJ1_indexOf_4cfef, 4, (some .int), 1, 4), 3074), ((19, yJ1_canEncode_9a6ad, cJ1_canEncode_9a6ad, 1, (some .boolean), 0, 1), 3077), ((19, yJ1_indexOfChar_4cfef, cJ1_indexOfChar_4cfef, 6, (some .int), 0, 4), 3084)], mjCw q := List.forall_mem_cons.mpr ⟨mjcw330, List.forall_mem_cons.mpr ⟨mjcw331, List.forall_mem_cons.mpr ⟨mjcw332, List.forall_mem_cons.mpr ⟨mjcw333, List.forall_mem_cons.mpr ⟨mjcw334, List.forall_mem_cons.mpr ⟨mjcw335, List.forall_mem_cons.mpr ⟨mjcw336, List.forall_mem_cons.mpr ⟨mjcw337, List.forall_mem_cons.mpr ⟨mjcw338, (fun _ h => absurd h List.not_mem_nil)⟩⟩⟩⟩⟩⟩⟩⟩⟩
theorem mjCz_0 : (((List.range 30).map (· + 0)).map fun k => (mjG k, (mjMw k).1)) = [((0, yX0_init, cX0_init, 1, none, 1, 0), 1111), ((0, yX0_tell, cX0_tell, 6, none, 0, 5), 4026), ((1, yX1_init, cX1_init, 1, none, 1, 0), 2185), ((1, yX1_forget, cX1_forget, 1, none, 0, 0), 4117), ((1, yX1_keep, cX1_keep, 7, none, 1, 5), 6165), ((11, yX11_at, cX11_at, 2, (some .int), 0, 2), 4136), ((2, yX2_deed, cX2_deed, 2, (some (.object "BatonZones$Act")), 0, 1), 4022), ((2, yX2_hasTeam, cX2_hasTeam, 2, (some .boolean), 0, 1), 3212), ((2, yX2_runner, cX2_runner, 2, (some (.object "BatonZones$Team")), 1, 1), 3208), ((7, yX7_setLeg, cX7_setLeg, 4, none, 0, 3), 4009), ((1, yX1_takeBack, cX1_takeBack, 5, none, 2, 1), 6184), ((8, yX8_init, cX8_init, 1, none, 1, 0), 1041), ((7, yX7_init, cX7_init, 1, none, 1, 0), 1077), ((2, yX2_init, cX2_init, 2, none, 2, 0), 1035), ((8, yX8_clear, cX8_clear, 1, none, 1, 0), 3016), ((2, yX2_clear, cX2_clear, 1, none, 2, 0), 3012), ((2, yX2_hasRule, cX2_hasRule, 2, (some .boolean), 0, 1), 5048), ((2, yX2_hasAct, cX2_hasAct, 2, (some .boolean), 0, 1), 5209), ((2, yX2_wasTold, cX2_wasTold, 2, (some .boolean), 0, 1), 6046), ((2, yX2_hasLeg, cX2_hasLeg, 3, (some .boolean), 2, 2), 5160), ((2, yX2_kindOfRule, cX2_kindOfRule, 2, (some .int), 1, 1), 4194), ((11, yX11_longAt, cX11_longAt, 2, (some .long), 0, 2), 3219), ((2, yX2_nameOfRule, cX2_nameOfRule, 2, (some .long), 1, 1), 3216), ((2, yX2_isWhole, cX2_isWhole, 2, (some .boolean), 2, 1), 5011), ((2, yX2_teamInLane, cX2_teamInLane, 3, (some .int), 2, 1), 3223), ((2, yX2_teamOfName, cX2_teamOfName, 4, (some .int), 2, 1), 3204), ((2, yX2_isNameTaken, cX2_isNameTaken, 4, (some .boolean), 3, 1), 3200), ((2, yX2_addTeam, cX2_addTeam, 5, none, 2, 2), 3227), ((2, yX2_addAct, cX2_addAct, 6, none, 1, 5), 4018), ((2, yX2_addRule, cX2_addRule, 4, none, 0, 2), 4105)] := by rfl
theorem mjCz_1 : (((List.range 30).map (· + 30)).map fun k => (mjG k, (mjMw k).1)) = [((2, yX2_mostMetres, cX2_mostMetres, 2, (some .int), 0, 1), 4001), ((7, yX7_settle, cX7_settle, 3, none, 0, 1), 4129), ((7, yX7_metresOf, cX7_metresOf, 2, (some .int), 1, 1), 4133), ((2, yX2_metresOutside, cX2_metresOutside, 2, (some .int), 1, 1), 4140), ((7, yX7_endOf, cX7_endOf, 2, (some .int), 1, 1), 4145), ((2, yX2_settle, cX2_settle, 5, none, 2, 0), 4125), ((2, yX2_boxFrom, cX2_boxFrom, 2, (some .int), 0, 1), 5188), ((2, yX2_boxTo, cX2_boxTo, 2, (some .int), 0, 1), 5192), ((2, yX2_isInABox, cX2_isInABox, 3, (some .boolean), 1, 1), 5201), ((7, yX7_passOf, cX7_passOf, 2, (some .int), 1, 1), 5184), ((2, yX2_runInBox, cX2_runInBox, 6, (some .int), 2, 3), 5180), ((2, yX2_earlier, cX2_earlier, 9, (some .long), 1, 2), 4179), ((2, yX2_forcers, cX2_forcers, 9, (some .long), 1, 2), 4190), ((2, yX2_teamsAhead, cX2_teamsAhead, 7, (some .int), 2, 2), 5095), ((2, yX2_kth, cX2_kth, 4, (some .int), 3, 2), 5090), ((3, yX3_init, cX3_init, 1, none, 1, 0), 2052), ((8, yX8_begin, cX8_begin, 2, none, 0, 1), 4042), ((3, yX3_comparisonEnds, cX3_comparisonEnds, 2, (some .boolean), 0, 1), 4046), ((8, yX8_put, cX8_put, 4, none, 0, 3), 4054), ((3, yX3_reduce, cX3_reduce, 4, none, 1, 2), 4050), ((9, yX9_packed, cX9_packed, 6, (some .long), 4, 2), 3150), ((9, yX9_indexIn, cX9_indexIn, 3, (some .int), 5, 1), 3146), ((3, yX3_truthEnds, cX3_truthEnds, 3, (some .boolean), 6, 1), 4058), ((8, yX8_finish, cX8_finish, 1, none, 0, 0), 4064), ((3, yX3_comparisonStarts, cX3_comparisonStarts, 2, (some .boolean), 6, 1), 4068), ((3, yX3_push, cX3_push, 3, none, 0, 2), 4076), ((3, yX3_openOne, cX3_openOne, 3, (some .int), 1, 2), 4072), ((3, yX3_startNumber, cX3_startNumber, 4, (some .int), 6, 2), 4080), ((8, yX8_isComparison, cX8_isComparison, 1, (some .boolean), 0, 1), 4092), ((3, yX3_join, cX3_join, 4, (some .int), 2, 3), 4089)] := by rfl
theorem mjCz_2 : (((List.range 30).map (· + 60)).map fun k => (mjG k, (mjMw k).1)) = [((3, yX3_closeCurly, cX3_closeCurly, 2, (some .int), 2, 1), 4096), ((3, yX3_goOnWithNumber, cX3_goOnWithNumber, 3, (some .int), 3, 2), 4085), ((3, yX3_goOnWithTruth, cX3_goOnWithTruth, 4, (some .int), 6, 2), 4100), ((9, yX9_byteAt, cX9_byteAt, 2, (some .int), 0, 1), 3034), ((9, yX9_isLetter, cX9_isLetter, 1, (some .boolean), 0, 1), 3037), ((9, yX9_takeWord, cX9_takeWord, 1, none, 1, 0), 3041), ((9, yX9_isDigit, cX9_isDigit, 1, (some .boolean), 0, 1), 3044), ((9, yX9_takeNumber, cX9_takeNumber, 1, none, 1, 0), 3048), ((9, yX9_advance, cX9_advance, 2, none, 4, 0), 3030), ((3, yX3_read, cX3_read, 6, (some .int), 7, 3), 4038), ((4, yX4_init, cX4_init, 1, none, 1, 0), 2114), ((4, yX4_factNow, cX4_factNow, 2, (some .int), 1, 1), 5223), ((7, yX7_legAt, cX7_legAt, 3, (some .int), 1, 1), 4173), ((7, yX7_whereAt, cX7_whereAt, 6, (some .int), 2, 1), 4169), ((4, yX4_look, cX4_look, 13, none, 3, 5), 4163), ((4, yX4_lookAt, cX4_lookAt, 4, none, 4, 2), 5219), ((8, yX8_condition, cX8_condition, 2, (some .int), 0, 2), 4034), ((8, yX8_fromOf, cX8_fromOf, 3, (some .int), 1, 2), 4203), ((8, yX8_toOf, cX8_toOf, 3, (some .int), 1, 2), 4209), ((8, yX8_opAt, cX8_opAt, 2, (some .int), 1, 1), 4218), ((8, yX8_numberAt, cX8_numberAt, 2, (some .int), 1, 1), 4222), ((8, yX8_leftOf, cX8_leftOf, 2, (some .int), 1, 1), 4228), ((4, yX4_within32, cX4_within32, 2, (some .long), 0, 1), 4236), ((4, yX4_reckon, cX4_reckon, 5, (some .long), 1, 3), 4233), ((4, yX4_work, cX4_work, 8, (some .long), 2, 2), 4214), ((4, yX4_isSo, cX4_isSo, 7, (some .boolean), 3, 3), 4199), ((4, yX4_isOfBoth, cX4_isOfBoth, 3, (some .boolean), 1, 2), 6022), ((4, yX4_isLeftEnough, cX4_isLeftEnough, 6, (some .boolean), 2, 2), 6026), ((4, yX4_weigh, cX4_weigh, 6, (some .int), 3, 2), 6018), ((4, yX4_pick, cX4_pick, 3, none, 0, 2), 6030)] := by rfl
theorem mjCz_3 : (((List.range 30).map (· + 90)).map fun k => (mjG k, (mjMw k).1)) = [((4, yX4_choose, cX4_choose, 8, none, 4, 3), 6014), ((4, yX4_reason, cX4_reason, 9, (some .int), 5, 4), 6010), ((8, yX8_isTold, cX8_isTold, 3, (some .boolean), 2, 2), 5000), ((4, yX4_rulesStriking, cX4_rulesStriking, 10, (some .int), 4, 5), 4159), ((4, yX4_tally, cX4_tally, 13, (some .int), 5, 4), 6050), ((4, yX4_isUnstruck, cX4_isUnstruck, 15, (some .boolean), 5, 3), 6156), ((4, yX4_fewestWaived, cX4_fewestWaived, 8, (some .int), 6, 2), 6147), ((5, yX5_init, cX5_init, 1, none, 1, 0), 2104), ((5, yX5_kthAt, cX5_kthAt, 5, (some .int), 4, 3), 5084), ((7, yX7_time, cX7_time, 1, (some .int), 1, 0), 4154), ((5, yX5_lastTenth, cX5_lastTenth, 4, (some .int), 2, 1), 5107), ((5, yX5_leadAt, cX5_leadAt, 6, (some .int), 3, 3), 5114), ((5, yX5_boldestTenth, cX5_boldestTenth, 8, (some .int), 4, 2), 5103), ((5, yX5_leadChanges, cX5_leadChanges, 10, (some .int), 3, 3), 5122), ((7, yX7_arrival, cX7_arrival, 5, (some .int), 1, 1), 5076), ((5, yX5_kthToCut, cX5_kthToCut, 5, (some .int), 4, 2), 5130), ((5, yX5_laterToLine, cX5_laterToLine, 9, (some .int), 2, 3), 5140), ((5, yX5_mostWithin, cX5_mostWithin, 10, (some .int), 3, 3), 5148), ((7, yX7_tenthsOf, cX7_tenthsOf, 2, (some .int), 1, 1), 5164), ((5, yX5_fastestOf, cX5_fastestOf, 4, (some .int), 4, 2), 5156), ((5, yX5_sumOf, cX5_sumOf, 5, (some .int), 3, 2), 5169), ((9, yX9_init, cX9_init, 1, none, 1, 0), 2018), ((6, yX6_init, cX6_init, 1, none, 2, 0), 2012), ((9, yX9_open, cX9_open, 3, none, 5, 2), 3023), ((6, yX6_fail, cX6_fail, 2, (some .boolean), 0, 1), 3174), ((6, yX6_takeWord, cX6_takeWord, 3, (some .boolean), 6, 2), 3142), ((6, yX6_takeNumber, cX6_takeNumber, 3, (some .boolean), 5, 2), 3179), ((6, yX6_takeSign, cX6_takeSign, 2, (some .boolean), 5, 1), 3183), ((6, yX6_readTrack, cX6_readTrack, 2, (some .boolean), 7, 1), 3137), ((9, yX9_isName, cX9_isName, 1, (some .boolean), 6, 0), 3191)] := by rfl
theorem mjCz_4 : (((List.range 30).map (· + 120)).map fun k => (mjG k, (mjMw k).1)) = [((6, yX6_readTeam, cX6_readTeam, 4, (some .boolean), 7, 1), 3187), ((6, yX6_takeTeam, cX6_takeTeam, 4, (some .int), 7, 2), 3237), ((7, yX7_addLeg, cX7_addLeg, 3, none, 1, 2), 4005), ((6, yX6_readRuns, cX6_readRuns, 7, (some .boolean), 8, 1), 3231), ((6, yX6_readAct, cX6_readAct, 6, (some .boolean), 8, 1), 4013), ((6, yX6_readRule, cX6_readRule, 6, (some .boolean), 8, 1), 4030), ((6, yX6_readThrough, cX6_readThrough, 2, (some .boolean), 6, 1), 4109), ((6, yX6_readWithin, cX6_readWithin, 2, (some .boolean), 6, 1), 4113), ((6, yX6_read, cX6_read, 6, (some .int), 9, 3), 3008), ((8, yX8_comparisonsOf, cX8_comparisonsOf, 3, (some .int), 1, 2), 5232), ((9, yX9_letter, cX9_letter, 3, (some .int), 0, 2), 5043), ((10, yX10_init, cX10_init, 1, none, 1, 0), 2146), ((10, yX10_strike, cX10_strike, 2, none, 0, 1), 5006), ((10, yX10_isIn, cX10_isIn, 2, (some .boolean), 1, 1), 5020), ((10, yX10_rankOf, cX10_rankOf, 4, (some .int), 1, 2), 5024), ((10, yX10_decideThrough, cX10_decideThrough, 5, none, 2, 1), 5016), ((10, yX10_decide, cX10_decide, 8, none, 5, 3), 4149), ((10, yX10_rankByTime, cX10_rankByTime, 2, (some .int), 2, 1), 6080), ((10, yX10_rankByWould, cX10_rankByWould, 2, (some .int), 2, 1), 6109), ((10, yX10_wouldOf, cX10_wouldOf, 2, (some .int), 1, 1), 6101), ((10, yX10_kthOfResult, cX10_kthOfResult, 3, (some .int), 4, 2), 6088), ((10, yX10_isRunAgain, cX10_isRunAgain, 2, (some .boolean), 1, 0), 6129), ((10, yX10_rulesStriking, cX10_rulesStriking, 2, (some .int), 1, 1), 6038), ((10, yX10_firstRuleStriking, cX10_firstRuleStriking, 3, (some .int), 2, 1), 6068), ((10, yX10_firstStruckAct, cX10_firstStruckAct, 7, (some .int), 2, 2), 6063), ((10, yX10_struckActs, cX10_struckActs, 5, (some .int), 2, 2), 6072), ((10, yX10_impedersOf, cX10_impedersOf, 6, (some .int), 2, 2), 6121), ((11, yX11_init, cX11_init, 1, none, 3, 0), 1027), ((11, yX11_feedNumber, cX11_feedNumber, 3, none, 0, 1), 2236), ((11, yX11_feed, cX11_feed, 6, (some .int), 1, 5), 2232)] := by rfl
theorem mjCz_5 : (((List.range 30).map (· + 150)).map fun k => (mjG k, (mjMw k).1)) = [((11, yX11_end, cX11_end, 2, (some .int), 0, 1), 3000), ((11, yX11_settleAll, cX11_settleAll, 1, none, 6, 0), 4121), ((11, yX11_book, cX11_book, 3, (some .int), 10, 0), 3004), ((11, yX11_fault, cX11_fault, 2, (some .int), 0, 1), 5030), ((11, yX11_about, cX11_about, 2, (some .int), 0, 1), 5034), ((11, yX11_name, cX11_name, 4, (some .int), 2, 3), 5038), ((11, yX11_team, cX11_team, 4, (some .int), 3, 2), 5053), ((11, yX11_lane, cX11_lane, 2, (some .int), 3, 1), 5059), ((11, yX11_isTenth, cX11_isTenth, 1, (some .boolean), 0, 1), 5067), ((11, yX11_place, cX11_place, 3, (some .int), 3, 2), 5064), ((11, yX11_comes, cX11_comes, 3, (some .int), 2, 2), 5072), ((11, yX11_order, cX11_order, 3, (some .int), 5, 2), 5080), ((11, yX11_boldest, cX11_boldest, 2, (some .int), 5, 1), 5099), ((11, yX11_changes, cX11_changes, 3, (some .int), 4, 2), 5118), ((11, yX11_cutIn, cX11_cutIn, 2, (some .int), 5, 1), 5126), ((11, yX11_behind, cX11_behind, 3, (some .int), 3, 2), 5136), ((11, yX11_crowd, cX11_crowd, 3, (some .int), 4, 2), 5144), ((11, yX11_fastest, cX11_fastest, 4, (some .int), 5, 2), 5152), ((11, yX11_leg, cX11_leg, 5, (some .int), 3, 3), 5173), ((11, yX11_inBox, cX11_inBox, 3, (some .int), 3, 2), 5197), ((11, yX11_act, cX11_act, 4, (some .int), 1, 2), 5205), ((11, yX11_fact, cX11_fact, 3, (some .int), 5, 2), 5215), ((11, yX11_rule, cX11_rule, 3, (some .int), 3, 2), 5227), ((11, yX11_canHold, cX11_canHold, 4, (some .boolean), 3, 3), 6001), ((11, yX11_holds, cX11_holds, 4, (some .int), 5, 3), 5237), ((11, yX11_why, cX11_why, 5, (some .int), 6, 4), 6006), ((11, yX11_struckBy, cX11_struckBy, 3, (some .int), 2, 2), 6034), ((11, yX11_clean, cX11_clean, 3, (some .int), 6, 2), 6042), ((11, yX11_free, cX11_free, 3, (some .int), 6, 2), 6055), ((11, yX11_struck, cX11_struck, 4, (some .int), 3, 2), 6059)] := by rfl
theorem mjCz_6 : (((List.range 30).map (· + 180)).map fun k => (mjG k, (mjMw k).1)) = [((11, yX11_rank, cX11_rank, 2, (some .int), 3, 1), 6076), ((11, yX11_result, cX11_result, 2, (some .int), 5, 1), 6084), ((11, yX11_who, cX11_who, 2, (some .int), 0, 1), 6093), ((11, yX11_would, cX11_would, 2, (some .int), 3, 1), 6097), ((11, yX11_fairRank, cX11_fairRank, 2, (some .int), 3, 1), 6105), ((11, yX11_margin, cX11_margin, 4, (some .int), 5, 1), 6113), ((11, yX11_impeders, cX11_impeders, 2, (some .int), 3, 1), 6117), ((11, yX11_again, cX11_again, 1, (some .int), 2, 0), 6125), ((11, yX11_winner, cX11_winner, 3, (some .int), 6, 1), 6139), ((11, yX11_stays, cX11_stays, 4, (some .int), 7, 2), 6143), ((11, yX11_appeal, cX11_appeal, 6, (some .int), 7, 3), 6161), ((11, yX11_waive, cX11_waive, 2, (some .int), 7, 1), 6170), ((11, yX11_measure, cX11_measure, 8, (some .int), 7, 4), 6174), ((11, yX11_undo, cX11_undo, 1, (some .int), 7, 0), 6180), ((12, yX12_init, cX12_init, 1, none, 1, 0), 6193), ((12, yX12_isIn, cX12_isIn, 6, (some .boolean), 0, 3), 7200), ((12, yX12_truth, cX12_truth, 1, (some .int), 0, 1), 8170), ((12, yX12_holds1, cX12_holds1, 2, (some .boolean), 0, 2), 8112), ((12, yX12_four, cX12_four, 3, none, 0, 1), 7193), ((12, yX12_feed, cX12_feed, 6, (some .int), 1, 5), 7189), ((12, yX12_end, cX12_end, 2, (some .int), 1, 1), 7197), ((12, yX12_here, cX12_here, 2, (some .int), 0, 1), 7212), ((12, yX12_isLetter, cX12_isLetter, 1, (some .boolean), 0, 1), 7215), ((12, yX12_isDigit, cX12_isDigit, 1, (some .boolean), 0, 1), 7218), ((12, yX12_isSign, cX12_isSign, 1, (some .boolean), 0, 1), 7221), ((12, yX12_goOn, cX12_goOn, 3, none, 1, 0), 7208), ((12, yX12_wrong, cX12_wrong, 2, none, 0, 1), 7234), ((12, yX12_isGood, cX12_isGood, 1, (some .boolean), 0, 0), 7238), ((12, yX12_isWord, cX12_isWord, 3, (some .boolean), 0, 1), 7230), ((12, yX12_isSignHere, cX12_isSignHere, 2, (some .boolean), 0, 1), 8010)] := by rfl
theorem mjCz_7 : (((List.range 30).map (· + 210)).map fun k => (mjG k, (mjMw k).1)) = [((12, yX12_among, cX12_among, 5, (some .int), 0, 3), 8040), ((12, yX12_isKept, cX12_isKept, 1, (some .boolean), 1, 0), 8027), ((12, yX12_must, cX12_must, 2, none, 2, 1), 8006), ((12, yX12_number, cX12_number, 4, (some .int), 2, 2), 8002), ((12, yX12_emits, cX12_emits, 2, none, 0, 1), 8089), ((12, yX12_waitsFor, cX12_waitsFor, 2, none, 0, 1), 8077), ((12, yX12_top, cX12_top, 1, (some .int), 0, 0), 8097), ((12, yX12_opens, cX12_opens, 2, none, 2, 1), 8073), ((12, yX12_works, cX12_works, 3, none, 1, 2), 8093), ((12, yX12_operand, cX12_operand, 2, none, 3, 0), 8085), ((12, yX12_closes, cX12_closes, 2, none, 2, 1), 8101), ((12, yX12_numberFormula, cX12_numberFormula, 2, none, 4, 0), 8081), ((12, yX12_ends, cX12_ends, 1, none, 1, 0), 8105), ((12, yX12_comparison, cX12_comparison, 3, none, 5, 0), 8069), ((12, yX12_test, cX12_test, 2, none, 6, 0), 8065), ((12, yX12_freshName, cX12_freshName, 3, none, 2, 2), 8023), ((12, yX12_teamHere, cX12_teamHere, 2, (some .int), 2, 0), 8049), ((12, yX12_teamLine, cX12_teamLine, 3, none, 3, 0), 8019), ((12, yX12_runsLine, cX12_runsLine, 5, none, 3, 0), 8045), ((12, yX12_kindHere, cX12_kindHere, 3, (some .int), 2, 1), 8057), ((12, yX12_actLine, cX12_actLine, 6, none, 3, 0), 8053), ((12, yX12_ruleLine, cX12_ruleLine, 2, none, 7, 0), 8061), ((12, yX12_once, cX12_once, 2, none, 2, 1), 8109), ((12, yX12_line, cX12_line, 1, none, 8, 0), 8014), ((12, yX12_trackLine, cX12_trackLine, 1, none, 3, 0), 7225), ((12, yX12_takes, cX12_takes, 2, none, 0, 0), 8116), ((12, yX12_book, cX12_book, 1, (some .int), 9, 0), 7204), ((12, yX12_fault, cX12_fault, 2, (some .int), 0, 1), 8120), ((12, yX12_keeps, cX12_keeps, 2, none, 0, 0), 9227), ((12, yX12_undo, cX12_undo, 2, (some .int), 0, 0), 8124)] := by rfl
theorem mjCz_8 : (((List.range 30).map (· + 240)).map fun k => (mjG k, (mjMw k).1)) = [((12, yX12_isTeam, cX12_isTeam, 2, (some .boolean), 1, 1), 8150), ((12, yX12_isTenth, cX12_isTenth, 2, (some .boolean), 1, 1), 8182), ((12, yX12_tenthsOf, cX12_tenthsOf, 3, (some .int), 0, 2), 8163), ((12, yX12_metresOf, cX12_metresOf, 3, (some .int), 0, 2), 8199), ((12, yX12_endPlace, cX12_endPlace, 3, (some .int), 1, 2), 8195), ((12, yX12_endTenth, cX12_endTenth, 5, (some .int), 1, 2), 8159), ((12, yX12_timeOf, cX12_timeOf, 2, (some .int), 2, 1), 8155), ((12, yX12_isWhole, cX12_isWhole, 2, (some .boolean), 0, 1), 8167), ((12, yX12_legAt, cX12_legAt, 4, (some .int), 2, 2), 8191), ((12, yX12_placeOf, cX12_placeOf, 7, (some .int), 3, 2), 8187), ((12, yX12_boxesOf, cX12_boxesOf, 2, (some .int), 0, 1), 8137), ((12, yX12_allActs, cX12_allActs, 3, (some .int), 1, 0), 8133), ((12, yX12_about, cX12_about, 2, (some .int), 2, 1), 8128), ((12, yX12_name, cX12_name, 8, (some .int), 1, 3), 8141), ((12, yX12_team, cX12_team, 3, (some .int), 3, 2), 8146), ((12, yX12_lane, cX12_lane, 3, (some .int), 0, 1), 8174), ((12, yX12_place, cX12_place, 3, (some .int), 4, 2), 8178), ((12, yX12_comesTo, cX12_comesTo, 4, (some .int), 4, 2), 8207), ((12, yX12_comes, cX12_comes, 3, (some .int), 5, 2), 8203), ((12, yX12_keyedAt, cX12_keyedAt, 5, (some .int), 1, 1), 8215), ((12, yX12_order, cX12_order, 4, (some .int), 4, 2), 8211), ((12, yX12_boldest, cX12_boldest, 8, (some .int), 4, 1), 8219), ((12, yX12_changes, cX12_changes, 8, (some .int), 4, 2), 8223), ((12, yX12_cutIn, cX12_cutIn, 3, (some .int), 5, 1), 8227), ((12, yX12_behind, cX12_behind, 8, (some .int), 5, 2), 8231), ((12, yX12_crowd, cX12_crowd, 8, (some .int), 4, 2), 8235), ((12, yX12_fastest, cX12_fastest, 8, (some .int), 1, 2), 8239), ((12, yX12_inBoxOf, cX12_inBoxOf, 8, (some .int), 2, 3), 9008), ((12, yX12_leg, cX12_leg, 5, (some .int), 3, 3), 9004), ((12, yX12_inBox, cX12_inBox, 6, (some .int), 4, 2), 9012)] := by rfl
theorem mjCz_9 : (((List.range 30).map (· + 270)).map fun k => (mjG k, (mjMw k).1)) = [((12, yX12_isAct, cX12_isAct, 2, (some .boolean), 2, 1), 9021), ((12, yX12_boxTeam, cX12_boxTeam, 4, (some .int), 1, 1), 9035), ((12, yX12_boxLeg, cX12_boxLeg, 4, (some .int), 2, 1), 9047), ((12, yX12_kindOf, cX12_kindOf, 2, (some .int), 0, 1), 9027), ((12, yX12_teamOf, cX12_teamOf, 2, (some .int), 2, 1), 9031), ((12, yX12_otherOf, cX12_otherOf, 2, (some .int), 0, 1), 9039), ((12, yX12_tenthOf, cX12_tenthOf, 2, (some .int), 3, 1), 9043), ((12, yX12_sizeOf, cX12_sizeOf, 3, (some .int), 3, 1), 9051), ((12, yX12_isWaived, cX12_isWaived, 3, (some .boolean), 1, 1), 9055), ((12, yX12_isAhead, cX12_isAhead, 3, (some .boolean), 4, 2), 9067), ((12, yX12_factOf, cX12_factOf, 9, (some .int), 5, 2), 9063), ((12, yX12_act, cX12_act, 3, (some .int), 4, 2), 9017), ((12, yX12_fact, cX12_fact, 3, (some .int), 6, 2), 9059), ((12, yX12_ones, cX12_ones, 5, (some .int), 0, 1), 9114), ((12, yX12_size, cX12_size, 2, (some .int), 1, 1), 9111), ((12, yX12_kept, cX12_kept, 3, (some .long), 0, 1), 9101), ((12, yX12_compares, cX12_compares, 7, none, 1, 1), 9118), ((12, yX12_joins, cX12_joins, 8, none, 2, 1), 9107), ((12, yX12_worked, cX12_worked, 10, (some .boolean), 6, 3), 9097), ((12, yX12_hasExcuse, cX12_hasExcuse, 2, (some .boolean), 0, 1), 9079), ((12, yX12_holdsPart, cX12_holdsPart, 4, (some .boolean), 7, 3), 9093), ((12, yX12_isRule, cX12_isRule, 2, (some .boolean), 1, 1), 9075), ((12, yX12_isAsked, cX12_isAsked, 4, (some .boolean), 3, 3), 9089), ((12, yX12_rule, cX12_rule, 5, (some .int), 2, 2), 9071), ((12, yX12_holds, cX12_holds, 4, (some .int), 8, 3), 9085), ((12, yX12_why, cX12_why, 9, (some .int), 8, 4), 9122), ((12, yX12_isStruck, cX12_isStruck, 3, (some .boolean), 8, 2), 9130), ((12, yX12_struckBy, cX12_struckBy, 3, (some .int), 9, 2), 9126), ((12, yX12_firstRule, cX12_firstRule, 3, (some .int), 9, 1), 9142), ((12, yX12_without, cX12_without, 10, (some .int), 10, 4), 9138)] := by rfl
theorem mjCz_10 : (((List.range 30).map (· + 300)).map fun k => (mjG k, (mjMw k).1)) = [((12, yX12_clean, cX12_clean, 3, (some .int), 11, 2), 9134), ((12, yX12_free, cX12_free, 3, (some .int), 11, 2), 9146), ((12, yX12_laysStruck, cX12_laysStruck, 2, none, 10, 0), 9154), ((12, yX12_struck, cX12_struck, 6, (some .int), 11, 2), 9150), ((12, yX12_isInResult, cX12_isInResult, 2, (some .boolean), 1, 1), 9162), ((12, yX12_rankOf, cX12_rankOf, 4, (some .int), 3, 1), 9166), ((12, yX12_rank, cX12_rank, 2, (some .int), 11, 1), 9158), ((12, yX12_fairRank, cX12_fairRank, 4, (some .int), 11, 1), 9170), ((12, yX12_resultAt, cX12_resultAt, 3, (some .int), 11, 1), 9178), ((12, yX12_margin, cX12_margin, 3, (some .int), 12, 1), 9174), ((12, yX12_impeders, cX12_impeders, 4, (some .int), 11, 1), 9182), ((12, yX12_result, cX12_result, 2, (some .int), 12, 1), 9186), ((12, yX12_isThrough, cX12_isThrough, 2, (some .boolean), 4, 1), 9198), ((12, yX12_besides, cX12_besides, 4, (some .int), 5, 0), 9194), ((12, yX12_who, cX12_who, 4, (some .int), 11, 1), 9190), ((12, yX12_would, cX12_would, 2, (some .int), 11, 1), 9202), ((12, yX12_again, cX12_again, 5, (some .int), 11, 0), 9206), ((12, yX12_winner, cX12_winner, 3, (some .int), 12, 1), 9210), ((12, yX12_isClean, cX12_isClean, 3, (some .boolean), 10, 1), 9218), ((12, yX12_stays, cX12_stays, 7, (some .int), 11, 2), 9214), ((12, yX12_appeal, cX12_appeal, 5, (some .int), 1, 3), 9222), ((12, yX12_waive, cX12_waive, 2, (some .int), 1, 1), 9231), ((12, yX12_measure, cX12_measure, 7, (some .int), 3, 4), 9235), ((14, yJ6_bitCount_0f7a4, cJ6_bitCount_0f7a4, 1, (some .int), 0, 1), 6132), ((15, yJ13_bitCount_95d88, cJ13_bitCount_95d88, 2, (some .int), 0, 1), 4183), ((17, yJ7_fill_53178, cJ7_fill_53178, 4, none, 0, 2), 3019), ((17, yJ7_fill_d0a16, cJ7_fill_d0a16, 5, none, 0, 2), 6150), ((18, yJ0_length_8abf5, cJ0_length_8abf5, 1, (some .int), 1, 0), 3067), ((18, yJ0_coder_7d493, cJ0_coder_7d493, 1, (some .byte), 0, 0), 3071), ((18, yJ0_charAt_5068e, cJ0_charAt_5068e, 2, (some .char), 3, 1), 3154)] := by rfl
theorem mjCz_11 : (((List.range 9).map (· + 330)).map fun k => (mjG k, (mjMw k).1)) = [((18, yJ0_isLatin1_aae02, cJ0_isLatin1_aae02, 1, (some .boolean), 0, 0), 3061), ((19, yJ1_charAt_3b067, cJ1_charAt_3b067, 2, (some .char), 2, 2), 3157), ((18, yJ0_checkIndex_df160, cJ0_checkIndex_df160, 2, none, 1, 2), 3160), ((20, yJ3_checkIndex_8e157, cJ3_checkIndex_8e157, 3, (some .int), 0, 3), 3163), ((18, yJ0_indexOf_7cf53, cJ0_indexOf_7cf53, 3, (some .int), 2, 2), 3057), ((18, yJ0_indexOf_0f7a4, cJ0_indexOf_0f7a4, 2, (some .int), 3, 1), 3053), ((19, yJ1_indexOf_4cfef, cJ1_indexOf_4cfef, 4, (some .int), 1, 4), 3074), ((19, yJ1_canEncode_9a6ad, cJ1_canEncode_9a6ad, 1, (some .boolean), 0, 1), 3077), ((19, yJ1_indexOfChar_4cfef, cJ1_indexOfChar_4cfef, 6, (some .int), 0, 4), 3084)] := by rfl
theorem mjCw_ok (k : Nat) (h : k < 339) : Cond.code (mjY k) (mjB k) (mjML k) (mjRt k) ∈ mjW := by
  have g : ∀ (b w : Nat) (l : List (mjE × Nat)), (((List.range w).map (· + b)).map fun k => (mjG k, (mjMw k).1)) = l → (∀ q ∈ l, mjCw q) → b ≤ k → k < b + w → Cond.code (mjY k) (mjB k) (mjML k) (mjRt k) ∈ mjW := by
    intro b w l hl hq h1 h2
    have h3 : (mjG k, (mjMw k).1) ∈ l := by
      rw [← hl]
      exact List.mem_map.mpr ⟨k, List.mem_map.mpr ⟨k - b, List.mem_range.mpr (by omega), by omega⟩, rfl⟩
    have h4 := hq _ h3
    exact List.mem_filter.mpr ⟨mjSub_in _ _ (List.mem_of_getElem? h4), rfl⟩
  by_cases h0 : k < 30
  · exact g 0 30 _ mjCz_0 mjCw_0 (by omega) h0
  by_cases h1 : k < 60
  · exact g 30 30 _ mjCz_1 mjCw_1 (by omega) h1
  by_cases h2 : k < 90
  · exact g 60 30 _ mjCz_2 mjCw_2 (by omega) h2
  by_cases h3 : k < 120
  · exact g 90 30 _ mjCz_3 mjCw_3 (by omega) h3
  by_cases h4 : k < 150
  · exact g 120 30 _ mjCz_4 mjCw_4 (by omega) h4
  by_cases h5 : k < 180
  · exact g 150 30 _ mjCz_5 mjCw_5 (by omega) h5
  by_cases h6 : k < 210
  · exact g 180 30 _ mjCz_6 mjCw_6 (by omega) h6
  by_cases h7 : k < 240
  · exact g 210 30 _ mjCz_7 mjCw_7 (by omega) h7
  by_cases h8 : k < 270
  · exact g 240 30 _ mjCz_8 mjCw_8 (by omega) h8
  by_cases h9 : k < 300
  · exact g 270 30 _ mjCz_9 mjCw_9 (by omega) h9
  by_cases h10 : k < 330
  · exact g 300 30 _ mjCz_10 mjCw_10 (by omega) h10
  by_cases h11 : k < 339
  · exact g 330 9 _ mjCz_11 mjCw_11 (by omega) h11
  omega
def mjMOk (k : Nat) : Bool := match mjMw k with
  | (_, b, kd, c, d) => (mjOk b (.initialized (mjY k).cls) && (if kd = 1 then mjOk c (.static (mjY k)) else mjOk c (.instanceMethod (mjY k))) && (if kd = 0 then mjOk d (.selects (mjY k).cls (mjY k) (mjY k)) else true) && (if kd = 2 then decide ((mjY k).name = "<init>") else true) && decide ((mjY k).cls = mjCn (mjCls k)) && decide ((mjY k).cls ≠ "java/lang/invoke/MethodHandle" ∧ (mjY k).cls ≠ "java/lang/invoke/VarHandle" ∧ (parseMethodDescriptor (mjY k).desc).map (fun d => d.parameters.length) = some (mjNa k)) && plainName (mjY k).cls && decide (kd < 3) && decide (kd = 2 → mjRt k = none))
set_option maxRecDepth 100000 in
theorem mjM_ok0 : (((List.range 15).map (· + 0)).all mjMOk) = true := by decide +kernel
set_option maxRecDepth 100000 in
theorem mjM_ok1 : (((List.range 15).map (· + 15)).all mjMOk) = true := by decide +kernel
set_option maxRecDepth 100000 in
theorem mjM_ok2 : (((List.range 15).map (· + 30)).all mjMOk) = true := by decide +kernel
set_option maxRecDepth 100000 in
theorem mjM_ok3 : (((List.range 15).map (· + 45)).all mjMOk) = true := by decide +kernel
set_option maxRecDepth 100000 in
theorem mjM_ok4 : (((List.range 15).map (· + 60)).all mjMOk) = true := by decide +kernel
set_option maxRecDepth 100000 in
theorem mjM_ok5 : (((List.range 15).map (· + 75)).all mjMOk) = true := by decide +kernel
set_option maxRecDepth 100000 in
theorem mjM_ok6 : (((List.range 15).map (· + 90)).all mjMOk) = true := by decide +kernel
set_option maxRecDepth 100000 in
theorem mjM_ok7 : (((List.range 15).map (· + 105)).all mjMOk) = true := by decide +kernel
set_option maxRecDepth 100000 in
theorem mjM_ok8 : (((List.range 15).map (· + 120)).all mjMOk) = true := by decide +kernel
set_option maxRecDepth 100000 in
theorem mjM_ok9 : (((List.range 15).map (· + 135)).all mjMOk) = true := by decide +kernel
set_option maxRecDepth 100000 in
theorem mjM_ok10 : (((List.range 15).map (· + 150)).all mjMOk) = true := by decide +kernel
set_option maxRecDepth 100000 in
theorem mjM_ok11 : (((List.range 15).map (· + 165)).all mjMOk) = true := by decide +kernel
set_option maxRecDepth 100000 in
theorem mjM_ok12 : (((List.range 15).map (· + 180)).all mjMOk) = true := by decide +kernel
set_option maxRecDepth 100000 in
theorem mjM_ok13 : (((List.range 15).map (· + 195)).all mjMOk) = true := by decide +kernel
set_option maxRecDepth 100000 in
theorem mjM_ok14 : (((List.range 15).map (· + 210)).all mjMOk) = true := by decide +kernel
set_option maxRecDepth 100000 in
theorem mjM_ok15 : (((List.range 15).map (· + 225)).all mjMOk) = true := by decide +kernel
set_option maxRecDepth 100000 in
theorem mjM_ok16 : (((List.range 15).map (· + 240)).all mjMOk) = true := by decide +kernel
set_option maxRecDepth 100000 in
theorem mjM_ok17 : (((List.range 15).map (· + 255)).all mjMOk) = true := by decide +kernel
set_option maxRecDepth 100000 in
theorem mjM_ok18 : (((List.range 15).map (· + 270)).all mjMOk) = true := by decide +kernel
set_option maxRecDepth 100000 in
theorem mjM_ok19 : (((List.range 15).map (· + 285)).all mjMOk) = true := by decide +kernel
set_option maxRecDepth 100000 in
theorem mjM_ok20 : (((List.range 15).map (· + 300)).all mjMOk) = true := by decide +kernel
set_option maxRecDepth 100000 in
theorem mjM_ok21 : (((List.range 15).map (· + 315)).all mjMOk) = true := by decide +kernel
set_option maxRecDepth 100000 in
theorem mjM_ok22 : (((List.range 9).map (· + 330)).all mjMOk) = true := by decide +kernel
theorem mjM_ok (k : Nat) (h : k < 339) : mjMOk k = true := by
  have g : ∀ (b w : Nat), (((List.range w).map (· + b)).all mjMOk) = true → b ≤ k → k < b + w → mjMOk k = true := fun b w hb h1 h2 => List.all_eq_true.mp hb k (List.mem_map.mpr ⟨k - b, List.mem_range.mpr (by omega), by omega⟩)
  by_cases h0 : k < 15
  · exact g 0 15 mjM_ok0 (by omega) h0
  by_cases h1 : k < 30
  · exact g 15 15 mjM_ok1 (by omega) h1
  by_cases h2 : k < 45
  · exact g 30 15 mjM_ok2 (by omega) h2
  by_cases h3 : k < 60
  · exact g 45 15 mjM_ok3 (by omega) h3
  by_cases h4 : k < 75
  · exact g 60 15 mjM_ok4 (by omega) h4
  by_cases h5 : k < 90
  · exact g 75 15 mjM_ok5 (by omega) h5
  by_cases h6 : k < 105
  · exact g 90 15 mjM_ok6 (by omega) h6
  by_cases h7 : k < 120
  · exact g 105 15 mjM_ok7 (by omega) h7
  by_cases h8 : k < 135
  · exact g 120 15 mjM_ok8 (by omega) h8
  by_cases h9 : k < 150
  · exact g 135 15 mjM_ok9 (by omega) h9
  by_cases h10 : k < 165
  · exact g 150 15 mjM_ok10 (by omega) h10
  by_cases h11 : k < 180
  · exact g 165 15 mjM_ok11 (by omega) h11
  by_cases h12 : k < 195
  · exact g 180 15 mjM_ok12 (by omega) h12
  by_cases h13 : k < 210
  · exact g 195 15 mjM_ok13 (by omega) h13
  by_cases h14 : k < 225
  · exact g 210 15 mjM_ok14 (by omega) h14
  by_cases h15 : k < 240
  · exact g 225 15 mjM_ok15 (by omega) h15
  by_cases h16 : k < 255
  · exact g 240 15 mjM_ok16 (by omega) h16
  by_cases h17 : k < 270
  · exact g 255 15 mjM_ok17 (by omega) h17
  by_cases h18 : k < 285
  · exact g 270 15 mjM_ok18 (by omega) h18
  by_cases h19 : k < 300
  · exact g 285 15 mjM_ok19 (by omega) h19
  by_cases h20 : k < 315
  · exact g 300 15 mjM_ok20 (by omega) h20
  by_cases h21 : k < 330
  · exact g 315 15 mjM_ok21 (by omega) h21
  by_cases h22 : k < 339
  · exact g 330 9 mjM_ok22 (by omega) h22
  omega
