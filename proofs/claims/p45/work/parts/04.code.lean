/-! the words of the methods' code -/
def mjCw (q : mjE × Nat) : Prop := (mjSub (q.2 / 1000))[q.2 % 1000]? = some (Cond.code q.1.2.1 q.1.2.2.1 q.1.2.2.2.1 q.1.2.2.2.2.1)
theorem mjcw0 : (mjSub 1)[124]? = some (Cond.code yX0_init cX0_init 1 none) := rfl
theorem mjcw1 : (mjSub 4)[22]? = some (Cond.code yX0_tell cX0_tell 6 none) := rfl
theorem mjcw2 : (mjSub 2)[193]? = some (Cond.code yX1_init cX1_init 1 none) := rfl
theorem mjcw3 : (mjSub 4)[113]? = some (Cond.code yX1_forget cX1_forget 1 none) := rfl
theorem mjcw4 : (mjSub 5)[44]? = some (Cond.code yX1_keep cX1_keep 7 none) := rfl
theorem mjcw5 : (mjSub 4)[132]? = some (Cond.code yX11_at cX11_at 2 (some .int)) := rfl
theorem mjcw6 : (mjSub 4)[18]? = some (Cond.code yX2_deed cX2_deed 2 (some (.object "BatonZones$Act"))) := rfl
theorem mjcw7 : (mjSub 3)[208]? = some (Cond.code yX2_hasTeam cX2_hasTeam 2 (some .boolean)) := rfl
theorem mjcw8 : (mjSub 3)[204]? = some (Cond.code yX2_runner cX2_runner 2 (some (.object "BatonZones$Team"))) := rfl
theorem mjcw9 : (mjSub 4)[5]? = some (Cond.code yX7_setLeg cX7_setLeg 4 none) := rfl
theorem mjcw10 : (mjSub 5)[74]? = some (Cond.code yX1_takeBack cX1_takeBack 5 none) := rfl
theorem mjcw11 : (mjSub 1)[55]? = some (Cond.code yX8_init cX8_init 1 none) := rfl
theorem mjcw12 : (mjSub 1)[91]? = some (Cond.code yX7_init cX7_init 1 none) := rfl
theorem mjcw13 : (mjSub 1)[49]? = some (Cond.code yX2_init cX2_init 2 none) := rfl
theorem mjcw14 : (mjSub 3)[12]? = some (Cond.code yX8_clear cX8_clear 1 none) := rfl
theorem mjcw15 : (mjSub 3)[8]? = some (Cond.code yX2_clear cX2_clear 1 none) := rfl
theorem mjcw16 : (mjSub 9)[27]? = some (Cond.code yX2_hasRule cX2_hasRule 2 (some .boolean)) := rfl
theorem mjcw17 : (mjSub 8)[175]? = some (Cond.code yX2_hasAct cX2_hasAct 2 (some .boolean)) := rfl
theorem mjcw18 : (mjSub 5)[39]? = some (Cond.code yX2_wasTold cX2_wasTold 2 (some .boolean)) := rfl
theorem mjcw19 : (mjSub 5)[57]? = some (Cond.code yX2_hasLeg cX2_hasLeg 3 (some .boolean)) := rfl
theorem mjcw20 : (mjSub 4)[190]? = some (Cond.code yX2_kindOfRule cX2_kindOfRule 2 (some .int)) := rfl
theorem mjcw21 : (mjSub 3)[215]? = some (Cond.code yX11_longAt cX11_longAt 2 (some .long)) := rfl
theorem mjcw22 : (mjSub 3)[212]? = some (Cond.code yX2_nameOfRule cX2_nameOfRule 2 (some .long)) := rfl
theorem mjcw23 : (mjSub 5)[7]? = some (Cond.code yX2_isWhole cX2_isWhole 2 (some .boolean)) := rfl
theorem mjcw24 : (mjSub 3)[219]? = some (Cond.code yX2_teamInLane cX2_teamInLane 3 (some .int)) := rfl
theorem mjcw25 : (mjSub 3)[200]? = some (Cond.code yX2_teamOfName cX2_teamOfName 4 (some .int)) := rfl
theorem mjcw26 : (mjSub 3)[196]? = some (Cond.code yX2_isNameTaken cX2_isNameTaken 4 (some .boolean)) := rfl
theorem mjcw27 : (mjSub 3)[223]? = some (Cond.code yX2_addTeam cX2_addTeam 5 none) := rfl
theorem mjcw28 : (mjSub 4)[14]? = some (Cond.code yX2_addAct cX2_addAct 6 none) := rfl
theorem mjcw29 : (mjSub 4)[101]? = some (Cond.code yX2_addRule cX2_addRule 4 none) := rfl
theorem mjcw30 : (mjSub 3)[237]? = some (Cond.code yX2_mostMetres cX2_mostMetres 2 (some .int)) := rfl
theorem mjcw31 : (mjSub 4)[125]? = some (Cond.code yX7_settle cX7_settle 3 none) := rfl
theorem mjcw32 : (mjSub 4)[129]? = some (Cond.code yX7_metresOf cX7_metresOf 2 (some .int)) := rfl
theorem mjcw33 : (mjSub 4)[136]? = some (Cond.code yX2_metresOutside cX2_metresOutside 2 (some .int)) := rfl
theorem mjcw34 : (mjSub 4)[141]? = some (Cond.code yX7_endOf cX7_endOf 2 (some .int)) := rfl
theorem mjcw35 : (mjSub 4)[121]? = some (Cond.code yX2_settle cX2_settle 5 none) := rfl
theorem mjcw36 : (mjSub 8)[218]? = some (Cond.code yX2_boxFrom cX2_boxFrom 2 (some .int)) := rfl
theorem mjcw37 : (mjSub 8)[222]? = some (Cond.code yX2_boxTo cX2_boxTo 2 (some .int)) := rfl
theorem mjcw38 : (mjSub 8)[239]? = some (Cond.code yX2_isInABox cX2_isInABox 3 (some .boolean)) := rfl
theorem mjcw39 : (mjSub 8)[214]? = some (Cond.code yX7_passOf cX7_passOf 2 (some .int)) := rfl
theorem mjcw40 : (mjSub 8)[210]? = some (Cond.code yX2_runInBox cX2_runInBox 6 (some .int)) := rfl
theorem mjcw41 : (mjSub 4)[175]? = some (Cond.code yX2_earlier cX2_earlier 9 (some .long)) := rfl
theorem mjcw42 : (mjSub 4)[186]? = some (Cond.code yX2_forcers cX2_forcers 9 (some .long)) := rfl
theorem mjcw43 : (mjSub 9)[97]? = some (Cond.code yX2_teamsAhead cX2_teamsAhead 7 (some .int)) := rfl
theorem mjcw44 : (mjSub 9)[92]? = some (Cond.code yX2_kth cX2_kth 4 (some .int)) := rfl
theorem mjcw45 : (mjSub 2)[62]? = some (Cond.code yX3_init cX3_init 1 none) := rfl
theorem mjcw46 : (mjSub 4)[38]? = some (Cond.code yX8_begin cX8_begin 2 none) := rfl
theorem mjcw47 : (mjSub 4)[42]? = some (Cond.code yX3_comparisonEnds cX3_comparisonEnds 2 (some .boolean)) := rfl
theorem mjcw48 : (mjSub 4)[50]? = some (Cond.code yX8_put cX8_put 4 none) := rfl
theorem mjcw49 : (mjSub 4)[46]? = some (Cond.code yX3_reduce cX3_reduce 4 none) := rfl
theorem mjcw50 : (mjSub 3)[146]? = some (Cond.code yX9_packed cX9_packed 6 (some .long)) := rfl
theorem mjcw51 : (mjSub 3)[142]? = some (Cond.code yX9_indexIn cX9_indexIn 3 (some .int)) := rfl
theorem mjcw52 : (mjSub 4)[54]? = some (Cond.code yX3_truthEnds cX3_truthEnds 3 (some .boolean)) := rfl
theorem mjcw53 : (mjSub 4)[60]? = some (Cond.code yX8_finish cX8_finish 1 none) := rfl
theorem mjcw54 : (mjSub 4)[64]? = some (Cond.code yX3_comparisonStarts cX3_comparisonStarts 2 (some .boolean)) := rfl
theorem mjcw55 : (mjSub 4)[72]? = some (Cond.code yX3_push cX3_push 3 none) := rfl
theorem mjcw56 : (mjSub 4)[68]? = some (Cond.code yX3_openOne cX3_openOne 3 (some .int)) := rfl
theorem mjcw57 : (mjSub 4)[76]? = some (Cond.code yX3_startNumber cX3_startNumber 4 (some .int)) := rfl
theorem mjcw58 : (mjSub 4)[88]? = some (Cond.code yX8_isComparison cX8_isComparison 1 (some .boolean)) := rfl
theorem mjcw59 : (mjSub 4)[85]? = some (Cond.code yX3_join cX3_join 4 (some .int)) := rfl
theorem mjcw60 : (mjSub 4)[92]? = some (Cond.code yX3_closeCurly cX3_closeCurly 2 (some .int)) := rfl
theorem mjcw61 : (mjSub 4)[81]? = some (Cond.code yX3_goOnWithNumber cX3_goOnWithNumber 3 (some .int)) := rfl
theorem mjcw62 : (mjSub 4)[96]? = some (Cond.code yX3_goOnWithTruth cX3_goOnWithTruth 4 (some .int)) := rfl
theorem mjcw63 : (mjSub 3)[30]? = some (Cond.code yX9_byteAt cX9_byteAt 2 (some .int)) := rfl
theorem mjcw64 : (mjSub 3)[33]? = some (Cond.code yX9_isLetter cX9_isLetter 1 (some .boolean)) := rfl
theorem mjcw65 : (mjSub 3)[37]? = some (Cond.code yX9_takeWord cX9_takeWord 1 none) := rfl
theorem mjcw66 : (mjSub 3)[40]? = some (Cond.code yX9_isDigit cX9_isDigit 1 (some .boolean)) := rfl
theorem mjcw67 : (mjSub 3)[44]? = some (Cond.code yX9_takeNumber cX9_takeNumber 1 none) := rfl
theorem mjcw68 : (mjSub 3)[26]? = some (Cond.code yX9_advance cX9_advance 2 none) := rfl
theorem mjcw69 : (mjSub 4)[34]? = some (Cond.code yX3_read cX3_read 6 (some .int)) := rfl
theorem mjcw70 : (mjSub 2)[122]? = some (Cond.code yX4_init cX4_init 1 none) := rfl
theorem mjcw71 : (mjSub 4)[169]? = some (Cond.code yX7_legAt cX7_legAt 3 (some .int)) := rfl
theorem mjcw72 : (mjSub 4)[165]? = some (Cond.code yX7_whereAt cX7_whereAt 6 (some .int)) := rfl
theorem mjcw73 : (mjSub 4)[159]? = some (Cond.code yX4_look cX4_look 13 none) := rfl
theorem mjcw74 : (mjSub 9)[50]? = some (Cond.code yX4_lookAt cX4_lookAt 4 none) := rfl
theorem mjcw75 : (mjSub 4)[30]? = some (Cond.code yX8_condition cX8_condition 2 (some .int)) := rfl
theorem mjcw76 : (mjSub 4)[199]? = some (Cond.code yX8_fromOf cX8_fromOf 3 (some .int)) := rfl
theorem mjcw77 : (mjSub 4)[205]? = some (Cond.code yX8_toOf cX8_toOf 3 (some .int)) := rfl
theorem mjcw78 : (mjSub 4)[214]? = some (Cond.code yX8_opAt cX8_opAt 2 (some .int)) := rfl
theorem mjcw79 : (mjSub 4)[218]? = some (Cond.code yX8_numberAt cX8_numberAt 2 (some .int)) := rfl
theorem mjcw80 : (mjSub 4)[224]? = some (Cond.code yX8_leftOf cX8_leftOf 2 (some .int)) := rfl
theorem mjcw81 : (mjSub 4)[232]? = some (Cond.code yX4_within32 cX4_within32 2 (some .long)) := rfl
theorem mjcw82 : (mjSub 4)[229]? = some (Cond.code yX4_reckon cX4_reckon 5 (some .long)) := rfl
theorem mjcw83 : (mjSub 4)[210]? = some (Cond.code yX4_work cX4_work 8 (some .long)) := rfl
theorem mjcw84 : (mjSub 4)[195]? = some (Cond.code yX4_isSo cX4_isSo 7 (some .boolean)) := rfl
theorem mjcw85 : (mjSub 9)[71]? = some (Cond.code yX4_isOfBoth cX4_isOfBoth 3 (some .boolean)) := rfl
theorem mjcw86 : (mjSub 9)[75]? = some (Cond.code yX4_isLeftEnough cX4_isLeftEnough 6 (some .boolean)) := rfl
theorem mjcw87 : (mjSub 9)[67]? = some (Cond.code yX4_weigh cX4_weigh 6 (some .int)) := rfl
theorem mjcw88 : (mjSub 9)[79]? = some (Cond.code yX4_pick cX4_pick 3 none) := rfl
theorem mjcw89 : (mjSub 9)[63]? = some (Cond.code yX4_choose cX4_choose 8 none) := rfl
theorem mjcw90 : (mjSub 9)[59]? = some (Cond.code yX4_reason cX4_reason 9 (some .int)) := rfl
theorem mjcw91 : (mjSub 4)[236]? = some (Cond.code yX8_isTold cX8_isTold 3 (some .boolean)) := rfl
theorem mjcw92 : (mjSub 4)[155]? = some (Cond.code yX4_rulesStriking cX4_rulesStriking 10 (some .int)) := rfl
theorem mjcw93 : (mjSub 9)[114]? = some (Cond.code yX4_isUnstruck cX4_isUnstruck 15 (some .boolean)) := rfl
theorem mjcw94 : (mjSub 9)[105]? = some (Cond.code yX4_fewestWaived cX4_fewestWaived 8 (some .int)) := rfl
theorem mjcw95 : (mjSub 2)[112]? = some (Cond.code yX5_init cX5_init 1 none) := rfl
theorem mjcw96 : (mjSub 4)[150]? = some (Cond.code yX7_time cX7_time 1 (some .int)) := rfl
theorem mjcw97 : (mjSub 9)[11]? = some (Cond.code yX5_lastTenth cX5_lastTenth 4 (some .int)) := rfl
theorem mjcw98 : (mjSub 9)[7]? = some (Cond.code yX5_leadChanges cX5_leadChanges 10 (some .int)) := rfl
theorem mjcw99 : (mjSub 8)[231]? = some (Cond.code yX7_arrival cX7_arrival 5 (some .int)) := rfl
theorem mjcw100 : (mjSub 5)[63]? = some (Cond.code yX7_tenthsOf cX7_tenthsOf 2 (some .int)) := rfl
theorem mjcw101 : (mjSub 2)[28]? = some (Cond.code yX9_init cX9_init 1 none) := rfl
theorem mjcw102 : (mjSub 2)[22]? = some (Cond.code yX6_init cX6_init 1 none) := rfl
theorem mjcw103 : (mjSub 3)[19]? = some (Cond.code yX9_open cX9_open 3 none) := rfl
theorem mjcw104 : (mjSub 3)[170]? = some (Cond.code yX6_fail cX6_fail 2 (some .boolean)) := rfl
theorem mjcw105 : (mjSub 3)[138]? = some (Cond.code yX6_takeWord cX6_takeWord 3 (some .boolean)) := rfl
theorem mjcw106 : (mjSub 3)[175]? = some (Cond.code yX6_takeNumber cX6_takeNumber 3 (some .boolean)) := rfl
theorem mjcw107 : (mjSub 3)[179]? = some (Cond.code yX6_takeSign cX6_takeSign 2 (some .boolean)) := rfl
theorem mjcw108 : (mjSub 3)[133]? = some (Cond.code yX6_readTrack cX6_readTrack 2 (some .boolean)) := rfl
theorem mjcw109 : (mjSub 3)[187]? = some (Cond.code yX9_isName cX9_isName 1 (some .boolean)) := rfl
theorem mjcw110 : (mjSub 3)[183]? = some (Cond.code yX6_readTeam cX6_readTeam 4 (some .boolean)) := rfl
theorem mjcw111 : (mjSub 3)[233]? = some (Cond.code yX6_takeTeam cX6_takeTeam 4 (some .int)) := rfl
theorem mjcw112 : (mjSub 4)[1]? = some (Cond.code yX7_addLeg cX7_addLeg 3 none) := rfl
theorem mjcw113 : (mjSub 3)[227]? = some (Cond.code yX6_readRuns cX6_readRuns 7 (some .boolean)) := rfl
theorem mjcw114 : (mjSub 4)[9]? = some (Cond.code yX6_readAct cX6_readAct 6 (some .boolean)) := rfl
theorem mjcw115 : (mjSub 4)[26]? = some (Cond.code yX6_readRule cX6_readRule 6 (some .boolean)) := rfl
theorem mjcw116 : (mjSub 4)[105]? = some (Cond.code yX6_readThrough cX6_readThrough 2 (some .boolean)) := rfl
theorem mjcw117 : (mjSub 4)[109]? = some (Cond.code yX6_readWithin cX6_readWithin 2 (some .boolean)) := rfl
theorem mjcw118 : (mjSub 3)[4]? = some (Cond.code yX6_read cX6_read 6 (some .int)) := rfl
theorem mjcw119 : (mjSub 9)[37]? = some (Cond.code yX8_comparisonsOf cX8_comparisonsOf 3 (some .int)) := rfl
theorem mjcw120 : (mjSub 2)[154]? = some (Cond.code yX10_init cX10_init 1 none) := rfl
theorem mjcw121 : (mjSub 5)[2]? = some (Cond.code yX10_strike cX10_strike 2 none) := rfl
theorem mjcw122 : (mjSub 5)[16]? = some (Cond.code yX10_isIn cX10_isIn 2 (some .boolean)) := rfl
theorem mjcw123 : (mjSub 5)[20]? = some (Cond.code yX10_rankOf cX10_rankOf 4 (some .int)) := rfl
theorem mjcw124 : (mjSub 5)[12]? = some (Cond.code yX10_decideThrough cX10_decideThrough 5 none) := rfl
theorem mjcw125 : (mjSub 4)[145]? = some (Cond.code yX10_decide cX10_decide 8 none) := rfl
theorem mjcw126 : (mjSub 8)[134]? = some (Cond.code yX10_rankByTime cX10_rankByTime 2 (some .int)) := rfl
theorem mjcw127 : (mjSub 8)[143]? = some (Cond.code yX10_wouldOf cX10_wouldOf 2 (some .int)) := rfl
theorem mjcw128 : (mjSub 9)[88]? = some (Cond.code yX10_kthOfResult cX10_kthOfResult 3 (some .int)) := rfl
theorem mjcw129 : (mjSub 8)[184]? = some (Cond.code yX10_isRunAgain cX10_isRunAgain 2 (some .boolean)) := rfl
theorem mjcw130 : (mjSub 8)[155]? = some (Cond.code yX10_rulesStriking cX10_rulesStriking 2 (some .int)) := rfl
theorem mjcw131 : (mjSub 8)[159]? = some (Cond.code yX10_firstRuleStriking cX10_firstRuleStriking 3 (some .int)) := rfl
theorem mjcw132 : (mjSub 8)[151]? = some (Cond.code yX10_firstStruckAct cX10_firstStruckAct 7 (some .int)) := rfl
theorem mjcw133 : (mjSub 8)[163]? = some (Cond.code yX10_struckActs cX10_struckActs 5 (some .int)) := rfl
theorem mjcw134 : (mjSub 1)[41]? = some (Cond.code yX11_init cX11_init 1 none) := rfl
theorem mjcw135 : (mjSub 8)[114]? = some (Cond.code yX11_feedNumber cX11_feedNumber 3 none) := rfl
theorem mjcw136 : (mjSub 8)[110]? = some (Cond.code yX11_feed cX11_feed 6 (some .int)) := rfl
theorem mjcw137 : (mjSub 8)[118]? = some (Cond.code yX11_end cX11_end 2 (some .int)) := rfl
theorem mjcw138 : (mjSub 4)[117]? = some (Cond.code yX11_settleAll cX11_settleAll 1 none) := rfl
theorem mjcw139 : (mjSub 3)[0]? = some (Cond.code yX11_book cX11_book 3 (some .int)) := rfl
theorem mjcw140 : (mjSub 5)[26]? = some (Cond.code yX11_about cX11_about 2 (some .int)) := rfl
theorem mjcw141 : (mjSub 8)[167]? = some (Cond.code yX11_team cX11_team 4 (some .int)) := rfl
theorem mjcw142 : (mjSub 5)[30]? = some (Cond.code yX11_lane cX11_lane 2 (some .int)) := rfl
theorem mjcw143 : (mjSub 8)[200]? = some (Cond.code yX11_isTenth cX11_isTenth 1 (some .boolean)) := rfl
theorem mjcw144 : (mjSub 8)[197]? = some (Cond.code yX11_place cX11_place 3 (some .int)) := rfl
theorem mjcw145 : (mjSub 8)[227]? = some (Cond.code yX11_comes cX11_comes 3 (some .int)) := rfl
theorem mjcw146 : (mjSub 9)[3]? = some (Cond.code yX11_changes cX11_changes 3 (some .int)) := rfl
theorem mjcw147 : (mjSub 8)[205]? = some (Cond.code yX11_leg cX11_leg 5 (some .int)) := rfl
theorem mjcw148 : (mjSub 8)[235]? = some (Cond.code yX11_inBox cX11_inBox 3 (some .int)) := rfl
theorem mjcw149 : (mjSub 8)[171]? = some (Cond.code yX11_act cX11_act 4 (some .int)) := rfl
theorem mjcw150 : (mjSub 9)[32]? = some (Cond.code yX11_rule cX11_rule 3 (some .int)) := rfl
theorem mjcw151 : (mjSub 9)[46]? = some (Cond.code yX11_canHold cX11_canHold 4 (some .boolean)) := rfl
theorem mjcw152 : (mjSub 9)[42]? = some (Cond.code yX11_holds cX11_holds 4 (some .int)) := rfl
theorem mjcw153 : (mjSub 9)[55]? = some (Cond.code yX11_why cX11_why 5 (some .int)) := rfl
theorem mjcw154 : (mjSub 9)[23]? = some (Cond.code yX11_struckBy cX11_struckBy 3 (some .int)) := rfl
theorem mjcw155 : (mjSub 8)[147]? = some (Cond.code yX11_struck cX11_struck 4 (some .int)) := rfl
theorem mjcw156 : (mjSub 8)[129]? = some (Cond.code yX11_rank cX11_rank 2 (some .int)) := rfl
theorem mjcw157 : (mjSub 9)[84]? = some (Cond.code yX11_result cX11_result 2 (some .int)) := rfl
theorem mjcw158 : (mjSub 8)[125]? = some (Cond.code yX11_who cX11_who 2 (some .int)) := rfl
theorem mjcw159 : (mjSub 8)[138]? = some (Cond.code yX11_would cX11_would 2 (some .int)) := rfl
theorem mjcw160 : (mjSub 8)[180]? = some (Cond.code yX11_again cX11_again 1 (some .int)) := rfl
theorem mjcw161 : (mjSub 9)[101]? = some (Cond.code yX11_stays cX11_stays 4 (some .int)) := rfl
theorem mjcw162 : (mjSub 5)[35]? = some (Cond.code yX11_appeal cX11_appeal 6 (some .int)) := rfl
theorem mjcw163 : (mjSub 5)[49]? = some (Cond.code yX11_waive cX11_waive 2 (some .int)) := rfl
theorem mjcw164 : (mjSub 5)[53]? = some (Cond.code yX11_measure cX11_measure 8 (some .int)) := rfl
theorem mjcw165 : (mjSub 5)[70]? = some (Cond.code yX11_undo cX11_undo 1 (some .int)) := rfl
theorem mjcw166 : (mjSub 8)[187]? = some (Cond.code yJ6_bitCount_0f7a4 cJ6_bitCount_0f7a4 1 (some .int)) := rfl
theorem mjcw167 : (mjSub 4)[179]? = some (Cond.code yJ13_bitCount_95d88 cJ13_bitCount_95d88 2 (some .int)) := rfl
theorem mjcw168 : (mjSub 3)[15]? = some (Cond.code yJ7_fill_53178 cJ7_fill_53178 4 none) := rfl
theorem mjcw169 : (mjSub 9)[108]? = some (Cond.code yJ7_fill_d0a16 cJ7_fill_d0a16 5 none) := rfl
theorem mjcw170 : (mjSub 3)[63]? = some (Cond.code yJ0_length_8abf5 cJ0_length_8abf5 1 (some .int)) := rfl
theorem mjcw171 : (mjSub 3)[67]? = some (Cond.code yJ0_coder_7d493 cJ0_coder_7d493 1 (some .byte)) := rfl
theorem mjcw172 : (mjSub 3)[150]? = some (Cond.code yJ0_charAt_5068e cJ0_charAt_5068e 2 (some .char)) := rfl
theorem mjcw173 : (mjSub 3)[57]? = some (Cond.code yJ0_isLatin1_aae02 cJ0_isLatin1_aae02 1 (some .boolean)) := rfl
theorem mjcw174 : (mjSub 3)[153]? = some (Cond.code yJ1_charAt_3b067 cJ1_charAt_3b067 2 (some .char)) := rfl
theorem mjcw175 : (mjSub 3)[156]? = some (Cond.code yJ0_checkIndex_df160 cJ0_checkIndex_df160 2 none) := rfl
theorem mjcw176 : (mjSub 3)[159]? = some (Cond.code yJ3_checkIndex_8e157 cJ3_checkIndex_8e157 3 (some .int)) := rfl
theorem mjcw177 : (mjSub 3)[53]? = some (Cond.code yJ0_indexOf_7cf53 cJ0_indexOf_7cf53 3 (some .int)) := rfl
theorem mjcw178 : (mjSub 3)[49]? = some (Cond.code yJ0_indexOf_0f7a4 cJ0_indexOf_0f7a4 2 (some .int)) := rfl
theorem mjcw179 : (mjSub 3)[70]? = some (Cond.code yJ1_indexOf_4cfef cJ1_indexOf_4cfef 4 (some .int)) := rfl
theorem mjcw180 : (mjSub 3)[73]? = some (Cond.code yJ1_canEncode_9a6ad cJ1_canEncode_9a6ad 1 (some .boolean)) := rfl
theorem mjcw181 : (mjSub 3)[80]? = some (Cond.code yJ1_indexOfChar_4cfef cJ1_indexOfChar_4cfef 6 (some .int)) := rfl
theorem mjcw182 : (mjSub 7)[48]? = some (Cond.code yX12_init cX12_init 1 none) := rfl
theorem mjcw183 : (mjSub 7)[100]? = some (Cond.code yX13_init cX13_init 3 none) := rfl
theorem mjcw184 : (mjSub 5)[120]? = some (Cond.code yL_cell cL_cell 2 (some .int)) := rfl
theorem mjcw185 : (mjSub 5)[117]? = some (Cond.code yL_pick cL_pick 3 (some .int)) := rfl
theorem mjcw186 : (mjSub 7)[131]? = some (Cond.code yX13_next cX13_next 2 (some .int)) := rfl
theorem mjcw187 : (mjSub 7)[140]? = some (Cond.code yX14_init cX14_init 5 none) := rfl
theorem mjcw188 : (mjSub 7)[165]? = some (Cond.code yX13_m cX13_m 4 (some (.object "BatonZonesLaw$Part"))) := rfl
theorem mjcw189 : (mjSub 7)[169]? = some (Cond.code yX13_u cX13_u 5 (some (.object "BatonZonesLaw$Part"))) := rfl
theorem mjcw190 : (mjSub 7)[161]? = some (Cond.code yX13_e cX13_e 5 (some (.object "BatonZonesLaw$Part"))) := rfl
theorem mjcw191 : (mjSub 7)[127]? = some (Cond.code yX13_b cX13_b 8 (some (.object "BatonZonesLaw$Part"))) := rfl
theorem mjcw192 : (mjSub 7)[119]? = some (Cond.code yX13_t cX13_t 5 (some (.object "BatonZonesLaw$Part"))) := rfl
theorem mjcw193 : (mjSub 7)[123]? = some (Cond.code yX13_a cX13_a 5 (some (.object "BatonZonesLaw$Part"))) := rfl
theorem mjcw194 : (mjSub 7)[75]? = some (Cond.code yX15_init cX15_init 1 none) := rfl
theorem mjcw195 : (mjSub 5)[114]? = some (Cond.code yX17_next cX17_next 2 (some .int)) := rfl
theorem mjcw196 : (mjSub 7)[17]? = some (Cond.code yX17_teams cX17_teams 1 (some .int)) := rfl
theorem mjcw197 : (mjSub 5)[83]? = some (Cond.code yX17_init cX17_init 8 none) := rfl
theorem mjcw198 : (mjSub 8)[104]? = some (Cond.code yL_feeds cL_feeds 6 (some .boolean)) := rfl
theorem mjcw199 : (mjSub 8)[121]? = some (Cond.code yL_all cL_all 4 (some (.array .int))) := rfl
theorem mjcw200 : (mjSub 8)[193]? = some (Cond.code yL_runs cL_runs 11 (some .boolean)) := rfl
theorem mjcw201 : (mjSub 9)[19]? = some (Cond.code yL_judged cL_judged 8 (some .boolean)) := rfl
theorem mjcw202 : (mjSub 5)[130]? = some (Cond.code yJ5_init_d00df cJ5_init_d00df 2 none) := rfl
theorem mjcw203 : (mjSub 6)[92]? = some (Cond.code yJ5_init_a7421 cJ5_init_a7421 5 none) := rfl
theorem mjcw204 : (mjSub 6)[189]? = some (Cond.code yJ5_append_3fe6f cJ5_append_3fe6f 2 (some (.object "java/lang/AbstractStringBuilder"))) := rfl
theorem mjcw205 : (mjSub 6)[9]? = some (Cond.code yJ5_append_c97b9 cJ5_append_c97b9 4 (some (.object "java/lang/AbstractStringBuilder"))) := rfl
theorem mjcw206 : (mjSub 7)[205]? = some (Cond.code yJ5_append_2ceeb cJ5_append_2ceeb 3 (some (.object "java/lang/AbstractStringBuilder"))) := rfl
theorem mjcw207 : (mjSub 7)[198]? = some (Cond.code yJ5_append_8f9a3 cJ5_append_8f9a3 2 (some (.object "java/lang/AbstractStringBuilder"))) := rfl
theorem mjcw208 : (mjSub 5)[161]? = some (Cond.code yJ5_append_cf1ce cJ5_append_cf1ce 3 (some (.object "java/lang/AbstractStringBuilder"))) := rfl
theorem mjcw209 : (mjSub 5)[169]? = some (Cond.code yJ5_ensureCapacityInternal_d00df cJ5_ensureCapacityInternal_d00df 3 none) := rfl
theorem mjcw210 : (mjSub 7)[220]? = some (Cond.code yJ5_getBytes_840e7 cJ5_getBytes_840e7 4 none) := rfl
theorem mjcw211 : (mjSub 7)[215]? = some (Cond.code yJ5_getCoder_7d493 cJ5_getCoder_7d493 1 (some .byte)) := rfl
theorem mjcw212 : (mjSub 6)[47]? = some (Cond.code yJ5_getValue_6d5f1 cJ5_getValue_6d5f1 1 (some (.array .byte))) := rfl
theorem mjcw213 : (mjSub 7)[210]? = some (Cond.code yJ5_inflateIfNeededFor_56e69 cJ5_inflateIfNeededFor_56e69 2 none) := rfl
theorem mjcw214 : (mjSub 5)[216]? = some (Cond.code yJ5_inflateIfNeededFor_a7421 cJ5_inflateIfNeededFor_a7421 2 none) := rfl
theorem mjcw215 : (mjSub 5)[201]? = some (Cond.code yJ5_isLatin1_aae02 cJ5_isLatin1_aae02 1 (some .boolean)) := rfl
theorem mjcw216 : (mjSub 6)[55]? = some (Cond.code yJ5_length_8abf5 cJ5_length_8abf5 1 (some .int)) := rfl
theorem mjcw217 : (mjSub 5)[173]? = some (Cond.code yJ5_newCapacity_0f7a4 cJ5_newCapacity_0f7a4 6 (some .int)) := rfl
theorem mjcw218 : (mjSub 5)[212]? = some (Cond.code yJ5_putStringAt_47b60 cJ5_putStringAt_47b60 3 none) := rfl
theorem mjcw219 : (mjSub 6)[159]? = some (Cond.code yJ6_equals_9ea2d cJ6_equals_9ea2d 2 (some .boolean)) := rfl
theorem mjcw220 : (mjSub 6)[15]? = some (Cond.code yJ6_getChars_ba4f3 cJ6_getChars_ba4f3 7 (some .int)) := rfl
theorem mjcw221 : (mjSub 6)[163]? = some (Cond.code yJ6_intValue_8abf5 cJ6_intValue_8abf5 1 (some .int)) := rfl
theorem mjcw222 : (mjSub 6)[12]? = some (Cond.code yJ6_stringSize_0f7a4 cJ6_stringSize_0f7a4 4 (some .int)) := rfl
theorem mjcw223 : (mjSub 6)[100]? = some (Cond.code yJ6_valueOf_2dffe cJ6_valueOf_2dffe 1 (some (.object "java/lang/Integer"))) := rfl
theorem mjcw224 : (mjSub 6)[41]? = some (Cond.code yJ0_init_db425 cJ0_init_db425 5 none) := rfl
theorem mjcw225 : (mjSub 6)[38]? = some (Cond.code yJ0_init_81219 cJ0_init_81219 2 none) := rfl
theorem mjcw226 : (mjSub 6)[0]? = some (Cond.code yJ0_getBytes_840e7 cJ0_getBytes_840e7 4 none) := rfl
theorem mjcw227 : (mjSub 5)[127]? = some (Cond.code yJ4_init_da8c8 cJ4_init_da8c8 1 none) := rfl
theorem mjcw228 : (mjSub 6)[89]? = some (Cond.code yJ4_init_a7421 cJ4_init_a7421 2 none) := rfl
theorem mjcw229 : (mjSub 6)[186]? = some (Cond.code yJ4_append_cf468 cJ4_append_cf468 2 (some (.object "java/lang/StringBuilder"))) := rfl
theorem mjcw230 : (mjSub 6)[6]? = some (Cond.code yJ4_append_bf812 cJ4_append_bf812 2 (some (.object "java/lang/StringBuilder"))) := rfl
theorem mjcw231 : (mjSub 7)[195]? = some (Cond.code yJ4_append_1fab5 cJ4_append_1fab5 2 (some (.object "java/lang/StringBuilder"))) := rfl
theorem mjcw232 : (mjSub 6)[96]? = some (Cond.code yJ4_append_cf1ce cJ4_append_cf1ce 2 (some (.object "java/lang/AbstractStringBuilder"))) := rfl
theorem mjcw233 : (mjSub 5)[158]? = some (Cond.code yJ4_append_15ec4 cJ4_append_15ec4 2 (some (.object "java/lang/StringBuilder"))) := rfl
theorem mjcw234 : (mjSub 6)[53]? = some (Cond.code yJ4_length_8abf5 cJ4_length_8abf5 1 (some .int)) := rfl
theorem mjcw235 : (mjSub 6)[33]? = some (Cond.code yJ4_toString_0e30d cJ4_toString_0e30d 1 (some (.object "java/lang/String"))) := rfl
theorem mjcw236 : (mjSub 6)[192]? = some (Cond.code yJ1_canEncode_fc78d cJ1_canEncode_fc78d 1 (some .boolean)) := rfl
theorem mjcw237 : (mjSub 5)[95]? = some (Cond.code yJxa1e45_init_da8c8 cJxa1e45_init_da8c8 1 none) := rfl
theorem mjcw238 : (mjSub 5)[92]? = some (Cond.code yJxc12de_init_da8c8 cJxc12de_init_da8c8 1 none) := rfl
theorem mjcw239 : (mjSub 5)[89]? = some (Cond.code yJx4a65c_init_da8c8 cJx4a65c_init_da8c8 1 none) := rfl
theorem mjcw240 : (mjSub 6)[204]? = some (Cond.code yJx4a65c_add_9ea2d cJx4a65c_add_9ea2d 2 (some .boolean)) := rfl
theorem mjcw241 : (mjSub 6)[208]? = some (Cond.code yJx4a65c_add_72be8 cJx4a65c_add_72be8 4 none) := rfl
theorem mjcw242 : (mjSub 6)[127]? = some (Cond.code yJx4a65c_contains_9ea2d cJx4a65c_contains_9ea2d 2 (some .boolean)) := rfl
theorem mjcw243 : (mjSub 7)[35]? = some (Cond.code yJx4a65c_elementData_915e3 cJx4a65c_elementData_915e3 2 (some (.object "java/lang/Object"))) := rfl
theorem mjcw244 : (mjSub 7)[27]? = some (Cond.code yJx4a65c_get_915e3 cJx4a65c_get_915e3 2 (some (.object "java/lang/Object"))) := rfl
theorem mjcw245 : (mjSub 6)[212]? = some (Cond.code yJx4a65c_grow_d5877 cJx4a65c_grow_d5877 1 (some (.array (.object "java/lang/Object")))) := rfl
theorem mjcw246 : (mjSub 6)[216]? = some (Cond.code yJx4a65c_grow_92f84 cJx4a65c_grow_92f84 4 (some (.array (.object "java/lang/Object")))) := rfl
theorem mjcw247 : (mjSub 6)[131]? = some (Cond.code yJx4a65c_indexOf_e47da cJx4a65c_indexOf_e47da 2 (some .int)) := rfl
theorem mjcw248 : (mjSub 6)[135]? = some (Cond.code yJx4a65c_indexOfRange_bf822 cJx4a65c_indexOfRange_bf822 6 (some .int)) := rfl
theorem mjcw249 : (mjSub 6)[182]? = some (Cond.code yJx4a65c_size_8abf5 cJx4a65c_size_8abf5 1 (some .int)) := rfl
theorem mjcw250 : (mjSub 6)[65]? = some (Cond.code yJ7_checkLength_df160 cJ7_checkLength_df160 2 none) := rfl
theorem mjcw251 : (mjSub 5)[185]? = some (Cond.code yJ7_copyOf_9075b cJ7_copyOf_9075b 3 (some (.array .byte))) := rfl
theorem mjcw252 : (mjSub 6)[59]? = some (Cond.code yJ7_copyOfRange_39247 cJ7_copyOfRange_39247 3 (some (.array .byte))) := rfl
theorem mjcw253 : (mjSub 6)[62]? = some (Cond.code yJ7_copyOfRangeByte_39247 cJ7_copyOfRangeByte_39247 5 (some (.array .byte))) := rfl
theorem mjcw254 : (mjSub 7)[30]? = some (Cond.code yJ15_checkIndex_7cf53 cJ15_checkIndex_7cf53 2 (some .int)) := rfl
theorem mjcw255 : (mjSub 5)[176]? = some (Cond.code yJ8_newLength_cabcc cJ8_newLength_cabcc 4 (some .int)) := rfl
theorem mjCw_0 : ∀ q ∈ [((0, yX0_init, cX0_init, 1, none, 0), 1124), ((0, yX0_tell, cX0_tell, 6, none, 5), 4022), ((1, yX1_init, cX1_init, 1, none, 0), 2193), ((1, yX1_forget, cX1_forget, 1, none, 0), 4113), ((1, yX1_keep, cX1_keep, 7, none, 5), 5044), ((11, yX11_at, cX11_at, 2, (some .int), 2), 4132), ((2, yX2_deed, cX2_deed, 2, (some (.object "BatonZones$Act")), 1), 4018), ((2, yX2_hasTeam, cX2_hasTeam, 2, (some .boolean), 1), 3208), ((2, yX2_runner, cX2_runner, 2, (some (.object "BatonZones$Team")), 1), 3204), ((7, yX7_setLeg, cX7_setLeg, 4, none, 3), 4005), ((1, yX1_takeBack, cX1_takeBack, 5, none, 1), 5074), ((8, yX8_init, cX8_init, 1, none, 0), 1055), ((7, yX7_init, cX7_init, 1, none, 0), 1091), ((2, yX2_init, cX2_init, 2, none, 0), 1049), ((8, yX8_clear, cX8_clear, 1, none, 0), 3012), ((2, yX2_clear, cX2_clear, 1, none, 0), 3008), ((2, yX2_hasRule, cX2_hasRule, 2, (some .boolean), 1), 9027), ((2, yX2_hasAct, cX2_hasAct, 2, (some .boolean), 1), 8175), ((2, yX2_wasTold, cX2_wasTold, 2, (some .boolean), 1), 5039), ((2, yX2_hasLeg, cX2_hasLeg, 3, (some .boolean), 2), 5057), ((2, yX2_kindOfRule, cX2_kindOfRule, 2, (some .int), 1), 4190), ((11, yX11_longAt, cX11_longAt, 2, (some .long), 2), 3215), ((2, yX2_nameOfRule, cX2_nameOfRule, 2, (some .long), 1), 3212), ((2, yX2_isWhole, cX2_isWhole, 2, (some .boolean), 1), 5007), ((2, yX2_teamInLane, cX2_teamInLane, 3, (some .int), 1), 3219), ((2, yX2_teamOfName, cX2_teamOfName, 4, (some .int), 1), 3200), ((2, yX2_isNameTaken, cX2_isNameTaken, 4, (some .boolean), 1), 3196), ((2, yX2_addTeam, cX2_addTeam, 5, none, 2), 3223), ((2, yX2_addAct, cX2_addAct, 6, none, 5), 4014), ((2, yX2_addRule, cX2_addRule, 4, none, 2), 4101)], mjCw q := List.forall_mem_cons.mpr ⟨mjcw0, List.forall_mem_cons.mpr ⟨mjcw1, List.forall_mem_cons.mpr ⟨mjcw2, List.forall_mem_cons.mpr ⟨mjcw3, List.forall_mem_cons.mpr ⟨mjcw4, List.forall_mem_cons.mpr ⟨mjcw5, List.forall_mem_cons.mpr ⟨mjcw6, List.forall_mem_cons.mpr ⟨mjcw7, List.forall_mem_cons.mpr ⟨mjcw8, List.forall_mem_cons.mpr ⟨mjcw9, List.forall_mem_cons.mpr ⟨mjcw10, List.forall_mem_cons.mpr ⟨mjcw11, List.forall_mem_cons.mpr ⟨mjcw12, List.forall_mem_cons.mpr ⟨mjcw13, List.forall_mem_cons.mpr ⟨mjcw14, List.forall_mem_cons.mpr ⟨mjcw15, List.forall_mem_cons.mpr ⟨mjcw16, List.forall_mem_cons.mpr ⟨mjcw17, List.forall_mem_cons.mpr ⟨mjcw18, List.forall_mem_cons.mpr ⟨mjcw19, List.forall_mem_cons.mpr ⟨mjcw20, List.forall_mem_cons.mpr ⟨mjcw21, List.forall_mem_cons.mpr ⟨mjcw22, List.forall_mem_cons.mpr ⟨mjcw23, List.forall_mem_cons.mpr ⟨mjcw24, List.forall_mem_cons.mpr ⟨mjcw25, List.forall_mem_cons.mpr ⟨mjcw26, List.forall_mem_cons.mpr ⟨mjcw27, List.forall_mem_cons.mpr ⟨mjcw28, List.forall_mem_cons.mpr ⟨mjcw29, (fun _ h => absurd h List.not_mem_nil)⟩⟩⟩⟩⟩⟩⟩⟩⟩⟩⟩⟩⟩⟩⟩⟩⟩⟩⟩⟩⟩⟩⟩⟩⟩⟩⟩⟩⟩⟩
theorem mjCw_1 : ∀ q ∈ [((2, yX2_mostMetres, cX2_mostMetres, 2, (some .int), 1), 3237), ((7, yX7_settle, cX7_settle, 3, none, 1), 4125), ((7, yX7_metresOf, cX7_metresOf, 2, (some .int), 1), 4129), ((2, yX2_metresOutside, cX2_metresOutside, 2, (some .int), 1), 4136), ((7, yX7_endOf, cX7_endOf, 2, (some .int), 1), 4141), ((2, yX2_settle, cX2_settle, 5, none, 0), 4121), ((2, yX2_boxFrom, cX2_boxFrom, 2, (some .int), 1), 8218), ((2, yX2_boxTo, cX2_boxTo, 2, (some .int), 1), 8222), ((2, yX2_isInABox, cX2_isInABox, 3, (some .boolean), 1), 8239), ((7, yX7_passOf, cX7_passOf, 2, (some .int), 1), 8214), ((2, yX2_runInBox, cX2_runInBox, 6, (some .int), 3), 8210), ((2, yX2_earlier, cX2_earlier, 9, (some .long), 2), 4175), ((2, yX2_forcers, cX2_forcers, 9, (some .long), 2), 4186), ((2, yX2_teamsAhead, cX2_teamsAhead, 7, (some .int), 2), 9097), ((2, yX2_kth, cX2_kth, 4, (some .int), 2), 9092), ((3, yX3_init, cX3_init, 1, none, 0), 2062), ((8, yX8_begin, cX8_begin, 2, none, 1), 4038), ((3, yX3_comparisonEnds, cX3_comparisonEnds, 2, (some .boolean), 1), 4042), ((8, yX8_put, cX8_put, 4, none, 3), 4050), ((3, yX3_reduce, cX3_reduce, 4, none, 2), 4046), ((9, yX9_packed, cX9_packed, 6, (some .long), 2), 3146), ((9, yX9_indexIn, cX9_indexIn, 3, (some .int), 1), 3142), ((3, yX3_truthEnds, cX3_truthEnds, 3, (some .boolean), 1), 4054), ((8, yX8_finish, cX8_finish, 1, none, 0), 4060), ((3, yX3_comparisonStarts, cX3_comparisonStarts, 2, (some .boolean), 1), 4064), ((3, yX3_push, cX3_push, 3, none, 2), 4072), ((3, yX3_openOne, cX3_openOne, 3, (some .int), 2), 4068), ((3, yX3_startNumber, cX3_startNumber, 4, (some .int), 2), 4076), ((8, yX8_isComparison, cX8_isComparison, 1, (some .boolean), 1), 4088), ((3, yX3_join, cX3_join, 4, (some .int), 3), 4085)], mjCw q := List.forall_mem_cons.mpr ⟨mjcw30, List.forall_mem_cons.mpr ⟨mjcw31, List.forall_mem_cons.mpr ⟨mjcw32, List.forall_mem_cons.mpr ⟨mjcw33, List.forall_mem_cons.mpr ⟨mjcw34, List.forall_mem_cons.mpr ⟨mjcw35, List.forall_mem_cons.mpr ⟨mjcw36, List.forall_mem_cons.mpr ⟨mjcw37, List.forall_mem_cons.mpr ⟨mjcw38, List.forall_mem_cons.mpr ⟨mjcw39, List.forall_mem_cons.mpr ⟨mjcw40, List.forall_mem_cons.mpr ⟨mjcw41, List.forall_mem_cons.mpr ⟨mjcw42, List.forall_mem_cons.mpr ⟨mjcw43, List.forall_mem_cons.mpr ⟨mjcw44, List.forall_mem_cons.mpr ⟨mjcw45, List.forall_mem_cons.mpr ⟨mjcw46, List.forall_mem_cons.mpr ⟨mjcw47, List.forall_mem_cons.mpr ⟨mjcw48, List.forall_mem_cons.mpr ⟨mjcw49, List.forall_mem_cons.mpr ⟨mjcw50, List.forall_mem_cons.mpr ⟨mjcw51, List.forall_mem_cons.mpr ⟨mjcw52, List.forall_mem_cons.mpr ⟨mjcw53, List.forall_mem_cons.mpr ⟨mjcw54, List.forall_mem_cons.mpr ⟨mjcw55, List.forall_mem_cons.mpr ⟨mjcw56, List.forall_mem_cons.mpr ⟨mjcw57, List.forall_mem_cons.mpr ⟨mjcw58, List.forall_mem_cons.mpr ⟨mjcw59, (fun _ h => absurd h List.not_mem_nil)⟩⟩⟩⟩⟩⟩⟩⟩⟩⟩⟩⟩⟩⟩⟩⟩⟩⟩⟩⟩⟩⟩⟩⟩⟩⟩⟩⟩⟩⟩
theorem mjCw_2 : ∀ q ∈ [((3, yX3_closeCurly, cX3_closeCurly, 2, (some .int), 1), 4092), ((3, yX3_goOnWithNumber, cX3_goOnWithNumber, 3, (some .int), 2), 4081), ((3, yX3_goOnWithTruth, cX3_goOnWithTruth, 4, (some .int), 2), 4096), ((9, yX9_byteAt, cX9_byteAt, 2, (some .int), 1), 3030), ((9, yX9_isLetter, cX9_isLetter, 1, (some .boolean), 1), 3033), ((9, yX9_takeWord, cX9_takeWord, 1, none, 0), 3037), ((9, yX9_isDigit, cX9_isDigit, 1, (some .boolean), 1), 3040), ((9, yX9_takeNumber, cX9_takeNumber, 1, none, 0), 3044), ((9, yX9_advance, cX9_advance, 2, none, 0), 3026), ((3, yX3_read, cX3_read, 6, (some .int), 3), 4034), ((4, yX4_init, cX4_init, 1, none, 0), 2122), ((7, yX7_legAt, cX7_legAt, 3, (some .int), 1), 4169), ((7, yX7_whereAt, cX7_whereAt, 6, (some .int), 1), 4165), ((4, yX4_look, cX4_look, 13, none, 5), 4159), ((4, yX4_lookAt, cX4_lookAt, 4, none, 2), 9050), ((8, yX8_condition, cX8_condition, 2, (some .int), 2), 4030), ((8, yX8_fromOf, cX8_fromOf, 3, (some .int), 2), 4199), ((8, yX8_toOf, cX8_toOf, 3, (some .int), 2), 4205), ((8, yX8_opAt, cX8_opAt, 2, (some .int), 1), 4214), ((8, yX8_numberAt, cX8_numberAt, 2, (some .int), 1), 4218), ((8, yX8_leftOf, cX8_leftOf, 2, (some .int), 1), 4224), ((4, yX4_within32, cX4_within32, 2, (some .long), 1), 4232), ((4, yX4_reckon, cX4_reckon, 5, (some .long), 3), 4229), ((4, yX4_work, cX4_work, 8, (some .long), 2), 4210), ((4, yX4_isSo, cX4_isSo, 7, (some .boolean), 3), 4195), ((4, yX4_isOfBoth, cX4_isOfBoth, 3, (some .boolean), 2), 9071), ((4, yX4_isLeftEnough, cX4_isLeftEnough, 6, (some .boolean), 2), 9075), ((4, yX4_weigh, cX4_weigh, 6, (some .int), 2), 9067), ((4, yX4_pick, cX4_pick, 3, none, 2), 9079), ((4, yX4_choose, cX4_choose, 8, none, 3), 9063)], mjCw q := List.forall_mem_cons.mpr ⟨mjcw60, List.forall_mem_cons.mpr ⟨mjcw61, List.forall_mem_cons.mpr ⟨mjcw62, List.forall_mem_cons.mpr ⟨mjcw63, List.forall_mem_cons.mpr ⟨mjcw64, List.forall_mem_cons.mpr ⟨mjcw65, List.forall_mem_cons.mpr ⟨mjcw66, List.forall_mem_cons.mpr ⟨mjcw67, List.forall_mem_cons.mpr ⟨mjcw68, List.forall_mem_cons.mpr ⟨mjcw69, List.forall_mem_cons.mpr ⟨mjcw70, List.forall_mem_cons.mpr ⟨mjcw71, List.forall_mem_cons.mpr ⟨mjcw72, List.forall_mem_cons.mpr ⟨mjcw73, List.forall_mem_cons.mpr ⟨mjcw74, List.forall_mem_cons.mpr ⟨mjcw75, List.forall_mem_cons.mpr ⟨mjcw76, List.forall_mem_cons.mpr ⟨mjcw77, List.forall_mem_cons.mpr ⟨mjcw78, List.forall_mem_cons.mpr ⟨mjcw79, List.forall_mem_cons.mpr ⟨mjcw80, List.forall_mem_cons.mpr ⟨mjcw81, List.forall_mem_cons.mpr ⟨mjcw82, List.forall_mem_cons.mpr ⟨mjcw83, List.forall_mem_cons.mpr ⟨mjcw84, List.forall_mem_cons.mpr ⟨mjcw85, List.forall_mem_cons.mpr ⟨mjcw86, List.forall_mem_cons.mpr ⟨mjcw87, List.forall_mem_cons.mpr ⟨mjcw88, List.forall_mem_cons.mpr ⟨mjcw89, (fun _ h => absurd h List.not_mem_nil)⟩⟩⟩⟩⟩⟩⟩⟩⟩⟩⟩⟩⟩⟩⟩⟩⟩⟩⟩⟩⟩⟩⟩⟩⟩⟩⟩⟩⟩⟩
theorem mjCw_3 : ∀ q ∈ [((4, yX4_reason, cX4_reason, 9, (some .int), 4), 9059), ((8, yX8_isTold, cX8_isTold, 3, (some .boolean), 2), 4236), ((4, yX4_rulesStriking, cX4_rulesStriking, 10, (some .int), 5), 4155), ((4, yX4_isUnstruck, cX4_isUnstruck, 15, (some .boolean), 3), 9114), ((4, yX4_fewestWaived, cX4_fewestWaived, 8, (some .int), 2), 9105), ((5, yX5_init, cX5_init, 1, none, 0), 2112), ((7, yX7_time, cX7_time, 1, (some .int), 0), 4150), ((5, yX5_lastTenth, cX5_lastTenth, 4, (some .int), 1), 9011), ((5, yX5_leadChanges, cX5_leadChanges, 10, (some .int), 3), 9007), ((7, yX7_arrival, cX7_arrival, 5, (some .int), 1), 8231), ((7, yX7_tenthsOf, cX7_tenthsOf, 2, (some .int), 1), 5063), ((9, yX9_init, cX9_init, 1, none, 0), 2028), ((6, yX6_init, cX6_init, 1, none, 0), 2022), ((9, yX9_open, cX9_open, 3, none, 2), 3019), ((6, yX6_fail, cX6_fail, 2, (some .boolean), 1), 3170), ((6, yX6_takeWord, cX6_takeWord, 3, (some .boolean), 2), 3138), ((6, yX6_takeNumber, cX6_takeNumber, 3, (some .boolean), 2), 3175), ((6, yX6_takeSign, cX6_takeSign, 2, (some .boolean), 1), 3179), ((6, yX6_readTrack, cX6_readTrack, 2, (some .boolean), 1), 3133), ((9, yX9_isName, cX9_isName, 1, (some .boolean), 0), 3187), ((6, yX6_readTeam, cX6_readTeam, 4, (some .boolean), 1), 3183), ((6, yX6_takeTeam, cX6_takeTeam, 4, (some .int), 2), 3233), ((7, yX7_addLeg, cX7_addLeg, 3, none, 2), 4001), ((6, yX6_readRuns, cX6_readRuns, 7, (some .boolean), 1), 3227), ((6, yX6_readAct, cX6_readAct, 6, (some .boolean), 1), 4009), ((6, yX6_readRule, cX6_readRule, 6, (some .boolean), 1), 4026), ((6, yX6_readThrough, cX6_readThrough, 2, (some .boolean), 1), 4105), ((6, yX6_readWithin, cX6_readWithin, 2, (some .boolean), 1), 4109), ((6, yX6_read, cX6_read, 6, (some .int), 3), 3004), ((8, yX8_comparisonsOf, cX8_comparisonsOf, 3, (some .int), 2), 9037)], mjCw q := List.forall_mem_cons.mpr ⟨mjcw90, List.forall_mem_cons.mpr ⟨mjcw91, List.forall_mem_cons.mpr ⟨mjcw92, List.forall_mem_cons.mpr ⟨mjcw93, List.forall_mem_cons.mpr ⟨mjcw94, List.forall_mem_cons.mpr ⟨mjcw95, List.forall_mem_cons.mpr ⟨mjcw96, List.forall_mem_cons.mpr ⟨mjcw97, List.forall_mem_cons.mpr ⟨mjcw98, List.forall_mem_cons.mpr ⟨mjcw99, List.forall_mem_cons.mpr ⟨mjcw100, List.forall_mem_cons.mpr ⟨mjcw101, List.forall_mem_cons.mpr ⟨mjcw102, List.forall_mem_cons.mpr ⟨mjcw103, List.forall_mem_cons.mpr ⟨mjcw104, List.forall_mem_cons.mpr ⟨mjcw105, List.forall_mem_cons.mpr ⟨mjcw106, List.forall_mem_cons.mpr ⟨mjcw107, List.forall_mem_cons.mpr ⟨mjcw108, List.forall_mem_cons.mpr ⟨mjcw109, List.forall_mem_cons.mpr ⟨mjcw110, List.forall_mem_cons.mpr ⟨mjcw111, List.forall_mem_cons.mpr ⟨mjcw112, List.forall_mem_cons.mpr ⟨mjcw113, List.forall_mem_cons.mpr ⟨mjcw114, List.forall_mem_cons.mpr ⟨mjcw115, List.forall_mem_cons.mpr ⟨mjcw116, List.forall_mem_cons.mpr ⟨mjcw117, List.forall_mem_cons.mpr ⟨mjcw118, List.forall_mem_cons.mpr ⟨mjcw119, (fun _ h => absurd h List.not_mem_nil)⟩⟩⟩⟩⟩⟩⟩⟩⟩⟩⟩⟩⟩⟩⟩⟩⟩⟩⟩⟩⟩⟩⟩⟩⟩⟩⟩⟩⟩⟩
theorem mjCw_4 : ∀ q ∈ [((10, yX10_init, cX10_init, 1, none, 0), 2154), ((10, yX10_strike, cX10_strike, 2, none, 1), 5002), ((10, yX10_isIn, cX10_isIn, 2, (some .boolean), 1), 5016), ((10, yX10_rankOf, cX10_rankOf, 4, (some .int), 2), 5020), ((10, yX10_decideThrough, cX10_decideThrough, 5, none, 1), 5012), ((10, yX10_decide, cX10_decide, 8, none, 3), 4145), ((10, yX10_rankByTime, cX10_rankByTime, 2, (some .int), 1), 8134), ((10, yX10_wouldOf, cX10_wouldOf, 2, (some .int), 1), 8143), ((10, yX10_kthOfResult, cX10_kthOfResult, 3, (some .int), 2), 9088), ((10, yX10_isRunAgain, cX10_isRunAgain, 2, (some .boolean), 0), 8184), ((10, yX10_rulesStriking, cX10_rulesStriking, 2, (some .int), 1), 8155), ((10, yX10_firstRuleStriking, cX10_firstRuleStriking, 3, (some .int), 1), 8159), ((10, yX10_firstStruckAct, cX10_firstStruckAct, 7, (some .int), 2), 8151), ((10, yX10_struckActs, cX10_struckActs, 5, (some .int), 2), 8163), ((11, yX11_init, cX11_init, 1, none, 0), 1041), ((11, yX11_feedNumber, cX11_feedNumber, 3, none, 1), 8114), ((11, yX11_feed, cX11_feed, 6, (some .int), 5), 8110), ((11, yX11_end, cX11_end, 2, (some .int), 1), 8118), ((11, yX11_settleAll, cX11_settleAll, 1, none, 0), 4117), ((11, yX11_book, cX11_book, 3, (some .int), 0), 3000), ((11, yX11_about, cX11_about, 2, (some .int), 1), 5026), ((11, yX11_team, cX11_team, 4, (some .int), 2), 8167), ((11, yX11_lane, cX11_lane, 2, (some .int), 1), 5030), ((11, yX11_isTenth, cX11_isTenth, 1, (some .boolean), 1), 8200), ((11, yX11_place, cX11_place, 3, (some .int), 2), 8197), ((11, yX11_comes, cX11_comes, 3, (some .int), 2), 8227), ((11, yX11_changes, cX11_changes, 3, (some .int), 2), 9003), ((11, yX11_leg, cX11_leg, 5, (some .int), 3), 8205), ((11, yX11_inBox, cX11_inBox, 3, (some .int), 2), 8235), ((11, yX11_act, cX11_act, 4, (some .int), 2), 8171)], mjCw q := List.forall_mem_cons.mpr ⟨mjcw120, List.forall_mem_cons.mpr ⟨mjcw121, List.forall_mem_cons.mpr ⟨mjcw122, List.forall_mem_cons.mpr ⟨mjcw123, List.forall_mem_cons.mpr ⟨mjcw124, List.forall_mem_cons.mpr ⟨mjcw125, List.forall_mem_cons.mpr ⟨mjcw126, List.forall_mem_cons.mpr ⟨mjcw127, List.forall_mem_cons.mpr ⟨mjcw128, List.forall_mem_cons.mpr ⟨mjcw129, List.forall_mem_cons.mpr ⟨mjcw130, List.forall_mem_cons.mpr ⟨mjcw131, List.forall_mem_cons.mpr ⟨mjcw132, List.forall_mem_cons.mpr ⟨mjcw133, List.forall_mem_cons.mpr ⟨mjcw134, List.forall_mem_cons.mpr ⟨mjcw135, List.forall_mem_cons.mpr ⟨mjcw136, List.forall_mem_cons.mpr ⟨mjcw137, List.forall_mem_cons.mpr ⟨mjcw138, List.forall_mem_cons.mpr ⟨mjcw139, List.forall_mem_cons.mpr ⟨mjcw140, List.forall_mem_cons.mpr ⟨mjcw141, List.forall_mem_cons.mpr ⟨mjcw142, List.forall_mem_cons.mpr ⟨mjcw143, List.forall_mem_cons.mpr ⟨mjcw144, List.forall_mem_cons.mpr ⟨mjcw145, List.forall_mem_cons.mpr ⟨mjcw146, List.forall_mem_cons.mpr ⟨mjcw147, List.forall_mem_cons.mpr ⟨mjcw148, List.forall_mem_cons.mpr ⟨mjcw149, (fun _ h => absurd h List.not_mem_nil)⟩⟩⟩⟩⟩⟩⟩⟩⟩⟩⟩⟩⟩⟩⟩⟩⟩⟩⟩⟩⟩⟩⟩⟩⟩⟩⟩⟩⟩⟩
theorem mjCw_5 : ∀ q ∈ [((11, yX11_rule, cX11_rule, 3, (some .int), 2), 9032), ((11, yX11_canHold, cX11_canHold, 4, (some .boolean), 3), 9046), ((11, yX11_holds, cX11_holds, 4, (some .int), 3), 9042), ((11, yX11_why, cX11_why, 5, (some .int), 4), 9055), ((11, yX11_struckBy, cX11_struckBy, 3, (some .int), 2), 9023), ((11, yX11_struck, cX11_struck, 4, (some .int), 2), 8147), ((11, yX11_rank, cX11_rank, 2, (some .int), 1), 8129), ((11, yX11_result, cX11_result, 2, (some .int), 1), 9084), ((11, yX11_who, cX11_who, 2, (some .int), 1), 8125), ((11, yX11_would, cX11_would, 2, (some .int), 1), 8138), ((11, yX11_again, cX11_again, 1, (some .int), 0), 8180), ((11, yX11_stays, cX11_stays, 4, (some .int), 2), 9101), ((11, yX11_appeal, cX11_appeal, 6, (some .int), 3), 5035), ((11, yX11_waive, cX11_waive, 2, (some .int), 1), 5049), ((11, yX11_measure, cX11_measure, 8, (some .int), 4), 5053), ((11, yX11_undo, cX11_undo, 1, (some .int), 0), 5070), ((17, yJ6_bitCount_0f7a4, cJ6_bitCount_0f7a4, 1, (some .int), 1), 8187), ((22, yJ13_bitCount_95d88, cJ13_bitCount_95d88, 2, (some .int), 1), 4179), ((24, yJ7_fill_53178, cJ7_fill_53178, 4, none, 2), 3015), ((24, yJ7_fill_d0a16, cJ7_fill_d0a16, 5, none, 2), 9108), ((18, yJ0_length_8abf5, cJ0_length_8abf5, 1, (some .int), 0), 3063), ((18, yJ0_coder_7d493, cJ0_coder_7d493, 1, (some .byte), 0), 3067), ((18, yJ0_charAt_5068e, cJ0_charAt_5068e, 2, (some .char), 1), 3150), ((18, yJ0_isLatin1_aae02, cJ0_isLatin1_aae02, 1, (some .boolean), 0), 3057), ((25, yJ1_charAt_3b067, cJ1_charAt_3b067, 2, (some .char), 2), 3153), ((18, yJ0_checkIndex_df160, cJ0_checkIndex_df160, 2, none, 2), 3156), ((26, yJ3_checkIndex_8e157, cJ3_checkIndex_8e157, 3, (some .int), 3), 3159), ((18, yJ0_indexOf_7cf53, cJ0_indexOf_7cf53, 3, (some .int), 2), 3053), ((18, yJ0_indexOf_0f7a4, cJ0_indexOf_0f7a4, 2, (some .int), 1), 3049), ((25, yJ1_indexOf_4cfef, cJ1_indexOf_4cfef, 4, (some .int), 4), 3070)], mjCw q := List.forall_mem_cons.mpr ⟨mjcw150, List.forall_mem_cons.mpr ⟨mjcw151, List.forall_mem_cons.mpr ⟨mjcw152, List.forall_mem_cons.mpr ⟨mjcw153, List.forall_mem_cons.mpr ⟨mjcw154, List.forall_mem_cons.mpr ⟨mjcw155, List.forall_mem_cons.mpr ⟨mjcw156, List.forall_mem_cons.mpr ⟨mjcw157, List.forall_mem_cons.mpr ⟨mjcw158, List.forall_mem_cons.mpr ⟨mjcw159, List.forall_mem_cons.mpr ⟨mjcw160, List.forall_mem_cons.mpr ⟨mjcw161, List.forall_mem_cons.mpr ⟨mjcw162, List.forall_mem_cons.mpr ⟨mjcw163, List.forall_mem_cons.mpr ⟨mjcw164, List.forall_mem_cons.mpr ⟨mjcw165, List.forall_mem_cons.mpr ⟨mjcw166, List.forall_mem_cons.mpr ⟨mjcw167, List.forall_mem_cons.mpr ⟨mjcw168, List.forall_mem_cons.mpr ⟨mjcw169, List.forall_mem_cons.mpr ⟨mjcw170, List.forall_mem_cons.mpr ⟨mjcw171, List.forall_mem_cons.mpr ⟨mjcw172, List.forall_mem_cons.mpr ⟨mjcw173, List.forall_mem_cons.mpr ⟨mjcw174, List.forall_mem_cons.mpr ⟨mjcw175, List.forall_mem_cons.mpr ⟨mjcw176, List.forall_mem_cons.mpr ⟨mjcw177, List.forall_mem_cons.mpr ⟨mjcw178, List.forall_mem_cons.mpr ⟨mjcw179, (fun _ h => absurd h List.not_mem_nil)⟩⟩⟩⟩⟩⟩⟩⟩⟩⟩⟩⟩⟩⟩⟩⟩⟩⟩⟩⟩⟩⟩⟩⟩⟩⟩⟩⟩⟩⟩
theorem mjCw_6 : ∀ q ∈ [((25, yJ1_canEncode_9a6ad, cJ1_canEncode_9a6ad, 1, (some .boolean), 1), 3073), ((25, yJ1_indexOfChar_4cfef, cJ1_indexOfChar_4cfef, 6, (some .int), 4), 3080), ((12, yX12_init, cX12_init, 1, none, 0), 7048), ((13, yX13_init, cX13_init, 3, none, 2), 7100), ((21, yL_cell, cL_cell, 2, (some .int), 2), 5120), ((21, yL_pick, cL_pick, 3, (some .int), 3), 5117), ((13, yX13_next, cX13_next, 2, (some .int), 1), 7131), ((14, yX14_init, cX14_init, 5, none, 4), 7140), ((13, yX13_m, cX13_m, 4, (some (.object "BatonZonesLaw$Part")), 2), 7165), ((13, yX13_u, cX13_u, 5, (some (.object "BatonZonesLaw$Part")), 2), 7169), ((13, yX13_e, cX13_e, 5, (some (.object "BatonZonesLaw$Part")), 2), 7161), ((13, yX13_b, cX13_b, 8, (some (.object "BatonZonesLaw$Part")), 2), 7127), ((13, yX13_t, cX13_t, 5, (some (.object "BatonZonesLaw$Part")), 2), 7119), ((13, yX13_a, cX13_a, 5, (some (.object "BatonZonesLaw$Part")), 2), 7123), ((15, yX15_init, cX15_init, 1, none, 0), 7075), ((16, yX17_next, cX17_next, 2, (some .int), 1), 5114), ((16, yX17_teams, cX17_teams, 1, (some .int), 0), 7017), ((16, yX17_init, cX17_init, 8, none, 1), 5083), ((21, yL_feeds, cL_feeds, 6, (some .boolean), 2), 8104), ((21, yL_all, cL_all, 4, (some (.array .int)), 1), 8121), ((21, yL_runs, cL_runs, 11, (some .boolean), 3), 8193), ((21, yL_judged, cL_judged, 8, (some .boolean), 1), 9019), ((27, yJ5_init_d00df, cJ5_init_d00df, 2, none, 1), 5130), ((27, yJ5_init_a7421, cJ5_init_a7421, 5, none, 1), 6092), ((27, yJ5_append_3fe6f, cJ5_append_3fe6f, 2, (some (.object "java/lang/AbstractStringBuilder")), 1), 6189), ((27, yJ5_append_c97b9, cJ5_append_c97b9, 4, (some (.object "java/lang/AbstractStringBuilder")), 1), 6009), ((27, yJ5_append_2ceeb, cJ5_append_2ceeb, 3, (some (.object "java/lang/AbstractStringBuilder")), 1), 7205), ((27, yJ5_append_8f9a3, cJ5_append_8f9a3, 2, (some (.object "java/lang/AbstractStringBuilder")), 1), 7198), ((27, yJ5_append_cf1ce, cJ5_append_cf1ce, 3, (some (.object "java/lang/AbstractStringBuilder")), 1), 5161), ((27, yJ5_ensureCapacityInternal_d00df, cJ5_ensureCapacityInternal_d00df, 3, none, 1), 5169)], mjCw q := List.forall_mem_cons.mpr ⟨mjcw180, List.forall_mem_cons.mpr ⟨mjcw181, List.forall_mem_cons.mpr ⟨mjcw182, List.forall_mem_cons.mpr ⟨mjcw183, List.forall_mem_cons.mpr ⟨mjcw184, List.forall_mem_cons.mpr ⟨mjcw185, List.forall_mem_cons.mpr ⟨mjcw186, List.forall_mem_cons.mpr ⟨mjcw187, List.forall_mem_cons.mpr ⟨mjcw188, List.forall_mem_cons.mpr ⟨mjcw189, List.forall_mem_cons.mpr ⟨mjcw190, List.forall_mem_cons.mpr ⟨mjcw191, List.forall_mem_cons.mpr ⟨mjcw192, List.forall_mem_cons.mpr ⟨mjcw193, List.forall_mem_cons.mpr ⟨mjcw194, List.forall_mem_cons.mpr ⟨mjcw195, List.forall_mem_cons.mpr ⟨mjcw196, List.forall_mem_cons.mpr ⟨mjcw197, List.forall_mem_cons.mpr ⟨mjcw198, List.forall_mem_cons.mpr ⟨mjcw199, List.forall_mem_cons.mpr ⟨mjcw200, List.forall_mem_cons.mpr ⟨mjcw201, List.forall_mem_cons.mpr ⟨mjcw202, List.forall_mem_cons.mpr ⟨mjcw203, List.forall_mem_cons.mpr ⟨mjcw204, List.forall_mem_cons.mpr ⟨mjcw205, List.forall_mem_cons.mpr ⟨mjcw206, List.forall_mem_cons.mpr ⟨mjcw207, List.forall_mem_cons.mpr ⟨mjcw208, List.forall_mem_cons.mpr ⟨mjcw209, (fun _ h => absurd h List.not_mem_nil)⟩⟩⟩⟩⟩⟩⟩⟩⟩⟩⟩⟩⟩⟩⟩⟩⟩⟩⟩⟩⟩⟩⟩⟩⟩⟩⟩⟩⟩⟩
theorem mjCw_7 : ∀ q ∈ [((27, yJ5_getBytes_840e7, cJ5_getBytes_840e7, 4, none, 3), 7220), ((27, yJ5_getCoder_7d493, cJ5_getCoder_7d493, 1, (some .byte), 0), 7215), ((27, yJ5_getValue_6d5f1, cJ5_getValue_6d5f1, 1, (some (.array .byte)), 0), 6047), ((27, yJ5_inflateIfNeededFor_56e69, cJ5_inflateIfNeededFor_56e69, 2, none, 1), 7210), ((27, yJ5_inflateIfNeededFor_a7421, cJ5_inflateIfNeededFor_a7421, 2, none, 1), 5216), ((27, yJ5_isLatin1_aae02, cJ5_isLatin1_aae02, 1, (some .boolean), 0), 5201), ((27, yJ5_length_8abf5, cJ5_length_8abf5, 1, (some .int), 0), 6055), ((27, yJ5_newCapacity_0f7a4, cJ5_newCapacity_0f7a4, 6, (some .int), 1), 5173), ((27, yJ5_putStringAt_47b60, cJ5_putStringAt_47b60, 3, none, 2), 5212), ((17, yJ6_equals_9ea2d, cJ6_equals_9ea2d, 2, (some .boolean), 1), 6159), ((17, yJ6_getChars_ba4f3, cJ6_getChars_ba4f3, 7, (some .int), 3), 6015), ((17, yJ6_intValue_8abf5, cJ6_intValue_8abf5, 1, (some .int), 0), 6163), ((17, yJ6_stringSize_0f7a4, cJ6_stringSize_0f7a4, 4, (some .int), 1), 6012), ((17, yJ6_valueOf_2dffe, cJ6_valueOf_2dffe, 1, (some (.object "java/lang/Integer")), 1), 6100), ((18, yJ0_init_db425, cJ0_init_db425, 5, none, 2), 6041), ((18, yJ0_init_81219, cJ0_init_81219, 2, none, 1), 6038), ((18, yJ0_getBytes_840e7, cJ0_getBytes_840e7, 4, none, 3), 6000), ((19, yJ4_init_da8c8, cJ4_init_da8c8, 1, none, 0), 5127), ((19, yJ4_init_a7421, cJ4_init_a7421, 2, none, 1), 6089), ((19, yJ4_append_cf468, cJ4_append_cf468, 2, (some (.object "java/lang/StringBuilder")), 1), 6186), ((19, yJ4_append_bf812, cJ4_append_bf812, 2, (some (.object "java/lang/StringBuilder")), 1), 6006), ((19, yJ4_append_1fab5, cJ4_append_1fab5, 2, (some (.object "java/lang/StringBuilder")), 1), 7195), ((19, yJ4_append_cf1ce, cJ4_append_cf1ce, 2, (some (.object "java/lang/AbstractStringBuilder")), 1), 6096), ((19, yJ4_append_15ec4, cJ4_append_15ec4, 2, (some (.object "java/lang/StringBuilder")), 1), 5158), ((19, yJ4_length_8abf5, cJ4_length_8abf5, 1, (some .int), 0), 6053), ((19, yJ4_toString_0e30d, cJ4_toString_0e30d, 1, (some (.object "java/lang/String")), 0), 6033), ((25, yJ1_canEncode_fc78d, cJ1_canEncode_fc78d, 1, (some .boolean), 1), 6192), ((29, yJxa1e45_init_da8c8, cJxa1e45_init_da8c8, 1, none, 0), 5095), ((28, yJxc12de_init_da8c8, cJxc12de_init_da8c8, 1, none, 0), 5092), ((20, yJx4a65c_init_da8c8, cJx4a65c_init_da8c8, 1, none, 0), 5089)], mjCw q := List.forall_mem_cons.mpr ⟨mjcw210, List.forall_mem_cons.mpr ⟨mjcw211, List.forall_mem_cons.mpr ⟨mjcw212, List.forall_mem_cons.mpr ⟨mjcw213, List.forall_mem_cons.mpr ⟨mjcw214, List.forall_mem_cons.mpr ⟨mjcw215, List.forall_mem_cons.mpr ⟨mjcw216, List.forall_mem_cons.mpr ⟨mjcw217, List.forall_mem_cons.mpr ⟨mjcw218, List.forall_mem_cons.mpr ⟨mjcw219, List.forall_mem_cons.mpr ⟨mjcw220, List.forall_mem_cons.mpr ⟨mjcw221, List.forall_mem_cons.mpr ⟨mjcw222, List.forall_mem_cons.mpr ⟨mjcw223, List.forall_mem_cons.mpr ⟨mjcw224, List.forall_mem_cons.mpr ⟨mjcw225, List.forall_mem_cons.mpr ⟨mjcw226, List.forall_mem_cons.mpr ⟨mjcw227, List.forall_mem_cons.mpr ⟨mjcw228, List.forall_mem_cons.mpr ⟨mjcw229, List.forall_mem_cons.mpr ⟨mjcw230, List.forall_mem_cons.mpr ⟨mjcw231, List.forall_mem_cons.mpr ⟨mjcw232, List.forall_mem_cons.mpr ⟨mjcw233, List.forall_mem_cons.mpr ⟨mjcw234, List.forall_mem_cons.mpr ⟨mjcw235, List.forall_mem_cons.mpr ⟨mjcw236, List.forall_mem_cons.mpr ⟨mjcw237, List.forall_mem_cons.mpr ⟨mjcw238, List.forall_mem_cons.mpr ⟨mjcw239, (fun _ h => absurd h List.not_mem_nil)⟩⟩⟩⟩⟩⟩⟩⟩⟩⟩⟩⟩⟩⟩⟩⟩⟩⟩⟩⟩⟩⟩⟩⟩⟩⟩⟩⟩⟩⟩
theorem mjCw_8 : ∀ q ∈ [((20, yJx4a65c_add_9ea2d, cJx4a65c_add_9ea2d, 2, (some .boolean), 1), 6204), ((20, yJx4a65c_add_72be8, cJx4a65c_add_72be8, 4, none, 3), 6208), ((20, yJx4a65c_contains_9ea2d, cJx4a65c_contains_9ea2d, 2, (some .boolean), 1), 6127), ((20, yJx4a65c_elementData_915e3, cJx4a65c_elementData_915e3, 2, (some (.object "java/lang/Object")), 1), 7035), ((20, yJx4a65c_get_915e3, cJx4a65c_get_915e3, 2, (some (.object "java/lang/Object")), 1), 7027), ((20, yJx4a65c_grow_d5877, cJx4a65c_grow_d5877, 1, (some (.array (.object "java/lang/Object"))), 0), 6212), ((20, yJx4a65c_grow_92f84, cJx4a65c_grow_92f84, 4, (some (.array (.object "java/lang/Object"))), 1), 6216), ((20, yJx4a65c_indexOf_e47da, cJx4a65c_indexOf_e47da, 2, (some .int), 1), 6131), ((20, yJx4a65c_indexOfRange_bf822, cJx4a65c_indexOfRange_bf822, 6, (some .int), 3), 6135), ((20, yJx4a65c_size_8abf5, cJx4a65c_size_8abf5, 1, (some .int), 0), 6182), ((24, yJ7_checkLength_df160, cJ7_checkLength_df160, 2, none, 2), 6065), ((24, yJ7_copyOf_9075b, cJ7_copyOf_9075b, 3, (some (.array .byte)), 2), 5185), ((24, yJ7_copyOfRange_39247, cJ7_copyOfRange_39247, 3, (some (.array .byte)), 3), 6059), ((24, yJ7_copyOfRangeByte_39247, cJ7_copyOfRangeByte_39247, 5, (some (.array .byte)), 3), 6062), ((31, yJ15_checkIndex_7cf53, cJ15_checkIndex_7cf53, 2, (some .int), 2), 7030), ((30, yJ8_newLength_cabcc, cJ8_newLength_cabcc, 4, (some .int), 3), 5176)], mjCw q := List.forall_mem_cons.mpr ⟨mjcw240, List.forall_mem_cons.mpr ⟨mjcw241, List.forall_mem_cons.mpr ⟨mjcw242, List.forall_mem_cons.mpr ⟨mjcw243, List.forall_mem_cons.mpr ⟨mjcw244, List.forall_mem_cons.mpr ⟨mjcw245, List.forall_mem_cons.mpr ⟨mjcw246, List.forall_mem_cons.mpr ⟨mjcw247, List.forall_mem_cons.mpr ⟨mjcw248, List.forall_mem_cons.mpr ⟨mjcw249, List.forall_mem_cons.mpr ⟨mjcw250, List.forall_mem_cons.mpr ⟨mjcw251, List.forall_mem_cons.mpr ⟨mjcw252, List.forall_mem_cons.mpr ⟨mjcw253, List.forall_mem_cons.mpr ⟨mjcw254, List.forall_mem_cons.mpr ⟨mjcw255, (fun _ h => absurd h List.not_mem_nil)⟩⟩⟩⟩⟩⟩⟩⟩⟩⟩⟩⟩⟩⟩⟩⟩
theorem mjCz_0 : (((List.range 30).map (· + 0)).map fun k => (mjG k, (mjMw k).1)) = [((0, yX0_init, cX0_init, 1, none, 0), 1124), ((0, yX0_tell, cX0_tell, 6, none, 5), 4022), ((1, yX1_init, cX1_init, 1, none, 0), 2193), ((1, yX1_forget, cX1_forget, 1, none, 0), 4113), ((1, yX1_keep, cX1_keep, 7, none, 5), 5044), ((11, yX11_at, cX11_at, 2, (some .int), 2), 4132), ((2, yX2_deed, cX2_deed, 2, (some (.object "BatonZones$Act")), 1), 4018), ((2, yX2_hasTeam, cX2_hasTeam, 2, (some .boolean), 1), 3208), ((2, yX2_runner, cX2_runner, 2, (some (.object "BatonZones$Team")), 1), 3204), ((7, yX7_setLeg, cX7_setLeg, 4, none, 3), 4005), ((1, yX1_takeBack, cX1_takeBack, 5, none, 1), 5074), ((8, yX8_init, cX8_init, 1, none, 0), 1055), ((7, yX7_init, cX7_init, 1, none, 0), 1091), ((2, yX2_init, cX2_init, 2, none, 0), 1049), ((8, yX8_clear, cX8_clear, 1, none, 0), 3012), ((2, yX2_clear, cX2_clear, 1, none, 0), 3008), ((2, yX2_hasRule, cX2_hasRule, 2, (some .boolean), 1), 9027), ((2, yX2_hasAct, cX2_hasAct, 2, (some .boolean), 1), 8175), ((2, yX2_wasTold, cX2_wasTold, 2, (some .boolean), 1), 5039), ((2, yX2_hasLeg, cX2_hasLeg, 3, (some .boolean), 2), 5057), ((2, yX2_kindOfRule, cX2_kindOfRule, 2, (some .int), 1), 4190), ((11, yX11_longAt, cX11_longAt, 2, (some .long), 2), 3215), ((2, yX2_nameOfRule, cX2_nameOfRule, 2, (some .long), 1), 3212), ((2, yX2_isWhole, cX2_isWhole, 2, (some .boolean), 1), 5007), ((2, yX2_teamInLane, cX2_teamInLane, 3, (some .int), 1), 3219), ((2, yX2_teamOfName, cX2_teamOfName, 4, (some .int), 1), 3200), ((2, yX2_isNameTaken, cX2_isNameTaken, 4, (some .boolean), 1), 3196), ((2, yX2_addTeam, cX2_addTeam, 5, none, 2), 3223), ((2, yX2_addAct, cX2_addAct, 6, none, 5), 4014), ((2, yX2_addRule, cX2_addRule, 4, none, 2), 4101)] := by rfl
theorem mjCz_1 : (((List.range 30).map (· + 30)).map fun k => (mjG k, (mjMw k).1)) = [((2, yX2_mostMetres, cX2_mostMetres, 2, (some .int), 1), 3237), ((7, yX7_settle, cX7_settle, 3, none, 1), 4125), ((7, yX7_metresOf, cX7_metresOf, 2, (some .int), 1), 4129), ((2, yX2_metresOutside, cX2_metresOutside, 2, (some .int), 1), 4136), ((7, yX7_endOf, cX7_endOf, 2, (some .int), 1), 4141), ((2, yX2_settle, cX2_settle, 5, none, 0), 4121), ((2, yX2_boxFrom, cX2_boxFrom, 2, (some .int), 1), 8218), ((2, yX2_boxTo, cX2_boxTo, 2, (some .int), 1), 8222), ((2, yX2_isInABox, cX2_isInABox, 3, (some .boolean), 1), 8239), ((7, yX7_passOf, cX7_passOf, 2, (some .int), 1), 8214), ((2, yX2_runInBox, cX2_runInBox, 6, (some .int), 3), 8210), ((2, yX2_earlier, cX2_earlier, 9, (some .long), 2), 4175), ((2, yX2_forcers, cX2_forcers, 9, (some .long), 2), 4186), ((2, yX2_teamsAhead, cX2_teamsAhead, 7, (some .int), 2), 9097), ((2, yX2_kth, cX2_kth, 4, (some .int), 2), 9092), ((3, yX3_init, cX3_init, 1, none, 0), 2062), ((8, yX8_begin, cX8_begin, 2, none, 1), 4038), ((3, yX3_comparisonEnds, cX3_comparisonEnds, 2, (some .boolean), 1), 4042), ((8, yX8_put, cX8_put, 4, none, 3), 4050), ((3, yX3_reduce, cX3_reduce, 4, none, 2), 4046), ((9, yX9_packed, cX9_packed, 6, (some .long), 2), 3146), ((9, yX9_indexIn, cX9_indexIn, 3, (some .int), 1), 3142), ((3, yX3_truthEnds, cX3_truthEnds, 3, (some .boolean), 1), 4054), ((8, yX8_finish, cX8_finish, 1, none, 0), 4060), ((3, yX3_comparisonStarts, cX3_comparisonStarts, 2, (some .boolean), 1), 4064), ((3, yX3_push, cX3_push, 3, none, 2), 4072), ((3, yX3_openOne, cX3_openOne, 3, (some .int), 2), 4068), ((3, yX3_startNumber, cX3_startNumber, 4, (some .int), 2), 4076), ((8, yX8_isComparison, cX8_isComparison, 1, (some .boolean), 1), 4088), ((3, yX3_join, cX3_join, 4, (some .int), 3), 4085)] := by rfl
theorem mjCz_2 : (((List.range 30).map (· + 60)).map fun k => (mjG k, (mjMw k).1)) = [((3, yX3_closeCurly, cX3_closeCurly, 2, (some .int), 1), 4092), ((3, yX3_goOnWithNumber, cX3_goOnWithNumber, 3, (some .int), 2), 4081), ((3, yX3_goOnWithTruth, cX3_goOnWithTruth, 4, (some .int), 2), 4096), ((9, yX9_byteAt, cX9_byteAt, 2, (some .int), 1), 3030), ((9, yX9_isLetter, cX9_isLetter, 1, (some .boolean), 1), 3033), ((9, yX9_takeWord, cX9_takeWord, 1, none, 0), 3037), ((9, yX9_isDigit, cX9_isDigit, 1, (some .boolean), 1), 3040), ((9, yX9_takeNumber, cX9_takeNumber, 1, none, 0), 3044), ((9, yX9_advance, cX9_advance, 2, none, 0), 3026), ((3, yX3_read, cX3_read, 6, (some .int), 3), 4034), ((4, yX4_init, cX4_init, 1, none, 0), 2122), ((7, yX7_legAt, cX7_legAt, 3, (some .int), 1), 4169), ((7, yX7_whereAt, cX7_whereAt, 6, (some .int), 1), 4165), ((4, yX4_look, cX4_look, 13, none, 5), 4159), ((4, yX4_lookAt, cX4_lookAt, 4, none, 2), 9050), ((8, yX8_condition, cX8_condition, 2, (some .int), 2), 4030), ((8, yX8_fromOf, cX8_fromOf, 3, (some .int), 2), 4199), ((8, yX8_toOf, cX8_toOf, 3, (some .int), 2), 4205), ((8, yX8_opAt, cX8_opAt, 2, (some .int), 1), 4214), ((8, yX8_numberAt, cX8_numberAt, 2, (some .int), 1), 4218), ((8, yX8_leftOf, cX8_leftOf, 2, (some .int), 1), 4224), ((4, yX4_within32, cX4_within32, 2, (some .long), 1), 4232), ((4, yX4_reckon, cX4_reckon, 5, (some .long), 3), 4229), ((4, yX4_work, cX4_work, 8, (some .long), 2), 4210), ((4, yX4_isSo, cX4_isSo, 7, (some .boolean), 3), 4195), ((4, yX4_isOfBoth, cX4_isOfBoth, 3, (some .boolean), 2), 9071), ((4, yX4_isLeftEnough, cX4_isLeftEnough, 6, (some .boolean), 2), 9075), ((4, yX4_weigh, cX4_weigh, 6, (some .int), 2), 9067), ((4, yX4_pick, cX4_pick, 3, none, 2), 9079), ((4, yX4_choose, cX4_choose, 8, none, 3), 9063)] := by rfl
theorem mjCz_3 : (((List.range 30).map (· + 90)).map fun k => (mjG k, (mjMw k).1)) = [((4, yX4_reason, cX4_reason, 9, (some .int), 4), 9059), ((8, yX8_isTold, cX8_isTold, 3, (some .boolean), 2), 4236), ((4, yX4_rulesStriking, cX4_rulesStriking, 10, (some .int), 5), 4155), ((4, yX4_isUnstruck, cX4_isUnstruck, 15, (some .boolean), 3), 9114), ((4, yX4_fewestWaived, cX4_fewestWaived, 8, (some .int), 2), 9105), ((5, yX5_init, cX5_init, 1, none, 0), 2112), ((7, yX7_time, cX7_time, 1, (some .int), 0), 4150), ((5, yX5_lastTenth, cX5_lastTenth, 4, (some .int), 1), 9011), ((5, yX5_leadChanges, cX5_leadChanges, 10, (some .int), 3), 9007), ((7, yX7_arrival, cX7_arrival, 5, (some .int), 1), 8231), ((7, yX7_tenthsOf, cX7_tenthsOf, 2, (some .int), 1), 5063), ((9, yX9_init, cX9_init, 1, none, 0), 2028), ((6, yX6_init, cX6_init, 1, none, 0), 2022), ((9, yX9_open, cX9_open, 3, none, 2), 3019), ((6, yX6_fail, cX6_fail, 2, (some .boolean), 1), 3170), ((6, yX6_takeWord, cX6_takeWord, 3, (some .boolean), 2), 3138), ((6, yX6_takeNumber, cX6_takeNumber, 3, (some .boolean), 2), 3175), ((6, yX6_takeSign, cX6_takeSign, 2, (some .boolean), 1), 3179), ((6, yX6_readTrack, cX6_readTrack, 2, (some .boolean), 1), 3133), ((9, yX9_isName, cX9_isName, 1, (some .boolean), 0), 3187), ((6, yX6_readTeam, cX6_readTeam, 4, (some .boolean), 1), 3183), ((6, yX6_takeTeam, cX6_takeTeam, 4, (some .int), 2), 3233), ((7, yX7_addLeg, cX7_addLeg, 3, none, 2), 4001), ((6, yX6_readRuns, cX6_readRuns, 7, (some .boolean), 1), 3227), ((6, yX6_readAct, cX6_readAct, 6, (some .boolean), 1), 4009), ((6, yX6_readRule, cX6_readRule, 6, (some .boolean), 1), 4026), ((6, yX6_readThrough, cX6_readThrough, 2, (some .boolean), 1), 4105), ((6, yX6_readWithin, cX6_readWithin, 2, (some .boolean), 1), 4109), ((6, yX6_read, cX6_read, 6, (some .int), 3), 3004), ((8, yX8_comparisonsOf, cX8_comparisonsOf, 3, (some .int), 2), 9037)] := by rfl
theorem mjCz_4 : (((List.range 30).map (· + 120)).map fun k => (mjG k, (mjMw k).1)) = [((10, yX10_init, cX10_init, 1, none, 0), 2154), ((10, yX10_strike, cX10_strike, 2, none, 1), 5002), ((10, yX10_isIn, cX10_isIn, 2, (some .boolean), 1), 5016), ((10, yX10_rankOf, cX10_rankOf, 4, (some .int), 2), 5020), ((10, yX10_decideThrough, cX10_decideThrough, 5, none, 1), 5012), ((10, yX10_decide, cX10_decide, 8, none, 3), 4145), ((10, yX10_rankByTime, cX10_rankByTime, 2, (some .int), 1), 8134), ((10, yX10_wouldOf, cX10_wouldOf, 2, (some .int), 1), 8143), ((10, yX10_kthOfResult, cX10_kthOfResult, 3, (some .int), 2), 9088), ((10, yX10_isRunAgain, cX10_isRunAgain, 2, (some .boolean), 0), 8184), ((10, yX10_rulesStriking, cX10_rulesStriking, 2, (some .int), 1), 8155), ((10, yX10_firstRuleStriking, cX10_firstRuleStriking, 3, (some .int), 1), 8159), ((10, yX10_firstStruckAct, cX10_firstStruckAct, 7, (some .int), 2), 8151), ((10, yX10_struckActs, cX10_struckActs, 5, (some .int), 2), 8163), ((11, yX11_init, cX11_init, 1, none, 0), 1041), ((11, yX11_feedNumber, cX11_feedNumber, 3, none, 1), 8114), ((11, yX11_feed, cX11_feed, 6, (some .int), 5), 8110), ((11, yX11_end, cX11_end, 2, (some .int), 1), 8118), ((11, yX11_settleAll, cX11_settleAll, 1, none, 0), 4117), ((11, yX11_book, cX11_book, 3, (some .int), 0), 3000), ((11, yX11_about, cX11_about, 2, (some .int), 1), 5026), ((11, yX11_team, cX11_team, 4, (some .int), 2), 8167), ((11, yX11_lane, cX11_lane, 2, (some .int), 1), 5030), ((11, yX11_isTenth, cX11_isTenth, 1, (some .boolean), 1), 8200), ((11, yX11_place, cX11_place, 3, (some .int), 2), 8197), ((11, yX11_comes, cX11_comes, 3, (some .int), 2), 8227), ((11, yX11_changes, cX11_changes, 3, (some .int), 2), 9003), ((11, yX11_leg, cX11_leg, 5, (some .int), 3), 8205), ((11, yX11_inBox, cX11_inBox, 3, (some .int), 2), 8235), ((11, yX11_act, cX11_act, 4, (some .int), 2), 8171)] := by rfl
theorem mjCz_5 : (((List.range 30).map (· + 150)).map fun k => (mjG k, (mjMw k).1)) = [((11, yX11_rule, cX11_rule, 3, (some .int), 2), 9032), ((11, yX11_canHold, cX11_canHold, 4, (some .boolean), 3), 9046), ((11, yX11_holds, cX11_holds, 4, (some .int), 3), 9042), ((11, yX11_why, cX11_why, 5, (some .int), 4), 9055), ((11, yX11_struckBy, cX11_struckBy, 3, (some .int), 2), 9023), ((11, yX11_struck, cX11_struck, 4, (some .int), 2), 8147), ((11, yX11_rank, cX11_rank, 2, (some .int), 1), 8129), ((11, yX11_result, cX11_result, 2, (some .int), 1), 9084), ((11, yX11_who, cX11_who, 2, (some .int), 1), 8125), ((11, yX11_would, cX11_would, 2, (some .int), 1), 8138), ((11, yX11_again, cX11_again, 1, (some .int), 0), 8180), ((11, yX11_stays, cX11_stays, 4, (some .int), 2), 9101), ((11, yX11_appeal, cX11_appeal, 6, (some .int), 3), 5035), ((11, yX11_waive, cX11_waive, 2, (some .int), 1), 5049), ((11, yX11_measure, cX11_measure, 8, (some .int), 4), 5053), ((11, yX11_undo, cX11_undo, 1, (some .int), 0), 5070), ((17, yJ6_bitCount_0f7a4, cJ6_bitCount_0f7a4, 1, (some .int), 1), 8187), ((22, yJ13_bitCount_95d88, cJ13_bitCount_95d88, 2, (some .int), 1), 4179), ((24, yJ7_fill_53178, cJ7_fill_53178, 4, none, 2), 3015), ((24, yJ7_fill_d0a16, cJ7_fill_d0a16, 5, none, 2), 9108), ((18, yJ0_length_8abf5, cJ0_length_8abf5, 1, (some .int), 0), 3063), ((18, yJ0_coder_7d493, cJ0_coder_7d493, 1, (some .byte), 0), 3067), ((18, yJ0_charAt_5068e, cJ0_charAt_5068e, 2, (some .char), 1), 3150), ((18, yJ0_isLatin1_aae02, cJ0_isLatin1_aae02, 1, (some .boolean), 0), 3057), ((25, yJ1_charAt_3b067, cJ1_charAt_3b067, 2, (some .char), 2), 3153), ((18, yJ0_checkIndex_df160, cJ0_checkIndex_df160, 2, none, 2), 3156), ((26, yJ3_checkIndex_8e157, cJ3_checkIndex_8e157, 3, (some .int), 3), 3159), ((18, yJ0_indexOf_7cf53, cJ0_indexOf_7cf53, 3, (some .int), 2), 3053), ((18, yJ0_indexOf_0f7a4, cJ0_indexOf_0f7a4, 2, (some .int), 1), 3049), ((25, yJ1_indexOf_4cfef, cJ1_indexOf_4cfef, 4, (some .int), 4), 3070)] := by rfl
theorem mjCz_6 : (((List.range 30).map (· + 180)).map fun k => (mjG k, (mjMw k).1)) = [((25, yJ1_canEncode_9a6ad, cJ1_canEncode_9a6ad, 1, (some .boolean), 1), 3073), ((25, yJ1_indexOfChar_4cfef, cJ1_indexOfChar_4cfef, 6, (some .int), 4), 3080), ((12, yX12_init, cX12_init, 1, none, 0), 7048), ((13, yX13_init, cX13_init, 3, none, 2), 7100), ((21, yL_cell, cL_cell, 2, (some .int), 2), 5120), ((21, yL_pick, cL_pick, 3, (some .int), 3), 5117), ((13, yX13_next, cX13_next, 2, (some .int), 1), 7131), ((14, yX14_init, cX14_init, 5, none, 4), 7140), ((13, yX13_m, cX13_m, 4, (some (.object "BatonZonesLaw$Part")), 2), 7165), ((13, yX13_u, cX13_u, 5, (some (.object "BatonZonesLaw$Part")), 2), 7169), ((13, yX13_e, cX13_e, 5, (some (.object "BatonZonesLaw$Part")), 2), 7161), ((13, yX13_b, cX13_b, 8, (some (.object "BatonZonesLaw$Part")), 2), 7127), ((13, yX13_t, cX13_t, 5, (some (.object "BatonZonesLaw$Part")), 2), 7119), ((13, yX13_a, cX13_a, 5, (some (.object "BatonZonesLaw$Part")), 2), 7123), ((15, yX15_init, cX15_init, 1, none, 0), 7075), ((16, yX17_next, cX17_next, 2, (some .int), 1), 5114), ((16, yX17_teams, cX17_teams, 1, (some .int), 0), 7017), ((16, yX17_init, cX17_init, 8, none, 1), 5083), ((21, yL_feeds, cL_feeds, 6, (some .boolean), 2), 8104), ((21, yL_all, cL_all, 4, (some (.array .int)), 1), 8121), ((21, yL_runs, cL_runs, 11, (some .boolean), 3), 8193), ((21, yL_judged, cL_judged, 8, (some .boolean), 1), 9019), ((27, yJ5_init_d00df, cJ5_init_d00df, 2, none, 1), 5130), ((27, yJ5_init_a7421, cJ5_init_a7421, 5, none, 1), 6092), ((27, yJ5_append_3fe6f, cJ5_append_3fe6f, 2, (some (.object "java/lang/AbstractStringBuilder")), 1), 6189), ((27, yJ5_append_c97b9, cJ5_append_c97b9, 4, (some (.object "java/lang/AbstractStringBuilder")), 1), 6009), ((27, yJ5_append_2ceeb, cJ5_append_2ceeb, 3, (some (.object "java/lang/AbstractStringBuilder")), 1), 7205), ((27, yJ5_append_8f9a3, cJ5_append_8f9a3, 2, (some (.object "java/lang/AbstractStringBuilder")), 1), 7198), ((27, yJ5_append_cf1ce, cJ5_append_cf1ce, 3, (some (.object "java/lang/AbstractStringBuilder")), 1), 5161), ((27, yJ5_ensureCapacityInternal_d00df, cJ5_ensureCapacityInternal_d00df, 3, none, 1), 5169)] := by rfl
theorem mjCz_7 : (((List.range 30).map (· + 210)).map fun k => (mjG k, (mjMw k).1)) = [((27, yJ5_getBytes_840e7, cJ5_getBytes_840e7, 4, none, 3), 7220), ((27, yJ5_getCoder_7d493, cJ5_getCoder_7d493, 1, (some .byte), 0), 7215), ((27, yJ5_getValue_6d5f1, cJ5_getValue_6d5f1, 1, (some (.array .byte)), 0), 6047), ((27, yJ5_inflateIfNeededFor_56e69, cJ5_inflateIfNeededFor_56e69, 2, none, 1), 7210), ((27, yJ5_inflateIfNeededFor_a7421, cJ5_inflateIfNeededFor_a7421, 2, none, 1), 5216), ((27, yJ5_isLatin1_aae02, cJ5_isLatin1_aae02, 1, (some .boolean), 0), 5201), ((27, yJ5_length_8abf5, cJ5_length_8abf5, 1, (some .int), 0), 6055), ((27, yJ5_newCapacity_0f7a4, cJ5_newCapacity_0f7a4, 6, (some .int), 1), 5173), ((27, yJ5_putStringAt_47b60, cJ5_putStringAt_47b60, 3, none, 2), 5212), ((17, yJ6_equals_9ea2d, cJ6_equals_9ea2d, 2, (some .boolean), 1), 6159), ((17, yJ6_getChars_ba4f3, cJ6_getChars_ba4f3, 7, (some .int), 3), 6015), ((17, yJ6_intValue_8abf5, cJ6_intValue_8abf5, 1, (some .int), 0), 6163), ((17, yJ6_stringSize_0f7a4, cJ6_stringSize_0f7a4, 4, (some .int), 1), 6012), ((17, yJ6_valueOf_2dffe, cJ6_valueOf_2dffe, 1, (some (.object "java/lang/Integer")), 1), 6100), ((18, yJ0_init_db425, cJ0_init_db425, 5, none, 2), 6041), ((18, yJ0_init_81219, cJ0_init_81219, 2, none, 1), 6038), ((18, yJ0_getBytes_840e7, cJ0_getBytes_840e7, 4, none, 3), 6000), ((19, yJ4_init_da8c8, cJ4_init_da8c8, 1, none, 0), 5127), ((19, yJ4_init_a7421, cJ4_init_a7421, 2, none, 1), 6089), ((19, yJ4_append_cf468, cJ4_append_cf468, 2, (some (.object "java/lang/StringBuilder")), 1), 6186), ((19, yJ4_append_bf812, cJ4_append_bf812, 2, (some (.object "java/lang/StringBuilder")), 1), 6006), ((19, yJ4_append_1fab5, cJ4_append_1fab5, 2, (some (.object "java/lang/StringBuilder")), 1), 7195), ((19, yJ4_append_cf1ce, cJ4_append_cf1ce, 2, (some (.object "java/lang/AbstractStringBuilder")), 1), 6096), ((19, yJ4_append_15ec4, cJ4_append_15ec4, 2, (some (.object "java/lang/StringBuilder")), 1), 5158), ((19, yJ4_length_8abf5, cJ4_length_8abf5, 1, (some .int), 0), 6053), ((19, yJ4_toString_0e30d, cJ4_toString_0e30d, 1, (some (.object "java/lang/String")), 0), 6033), ((25, yJ1_canEncode_fc78d, cJ1_canEncode_fc78d, 1, (some .boolean), 1), 6192), ((29, yJxa1e45_init_da8c8, cJxa1e45_init_da8c8, 1, none, 0), 5095), ((28, yJxc12de_init_da8c8, cJxc12de_init_da8c8, 1, none, 0), 5092), ((20, yJx4a65c_init_da8c8, cJx4a65c_init_da8c8, 1, none, 0), 5089)] := by rfl
theorem mjCz_8 : (((List.range 16).map (· + 240)).map fun k => (mjG k, (mjMw k).1)) = [((20, yJx4a65c_add_9ea2d, cJx4a65c_add_9ea2d, 2, (some .boolean), 1), 6204), ((20, yJx4a65c_add_72be8, cJx4a65c_add_72be8, 4, none, 3), 6208), ((20, yJx4a65c_contains_9ea2d, cJx4a65c_contains_9ea2d, 2, (some .boolean), 1), 6127), ((20, yJx4a65c_elementData_915e3, cJx4a65c_elementData_915e3, 2, (some (.object "java/lang/Object")), 1), 7035), ((20, yJx4a65c_get_915e3, cJx4a65c_get_915e3, 2, (some (.object "java/lang/Object")), 1), 7027), ((20, yJx4a65c_grow_d5877, cJx4a65c_grow_d5877, 1, (some (.array (.object "java/lang/Object"))), 0), 6212), ((20, yJx4a65c_grow_92f84, cJx4a65c_grow_92f84, 4, (some (.array (.object "java/lang/Object"))), 1), 6216), ((20, yJx4a65c_indexOf_e47da, cJx4a65c_indexOf_e47da, 2, (some .int), 1), 6131), ((20, yJx4a65c_indexOfRange_bf822, cJx4a65c_indexOfRange_bf822, 6, (some .int), 3), 6135), ((20, yJx4a65c_size_8abf5, cJx4a65c_size_8abf5, 1, (some .int), 0), 6182), ((24, yJ7_checkLength_df160, cJ7_checkLength_df160, 2, none, 2), 6065), ((24, yJ7_copyOf_9075b, cJ7_copyOf_9075b, 3, (some (.array .byte)), 2), 5185), ((24, yJ7_copyOfRange_39247, cJ7_copyOfRange_39247, 3, (some (.array .byte)), 3), 6059), ((24, yJ7_copyOfRangeByte_39247, cJ7_copyOfRangeByte_39247, 5, (some (.array .byte)), 3), 6062), ((31, yJ15_checkIndex_7cf53, cJ15_checkIndex_7cf53, 2, (some .int), 2), 7030), ((30, yJ8_newLength_cabcc, cJ8_newLength_cabcc, 4, (some .int), 3), 5176)] := by rfl
theorem mjCw_ok (k : Nat) (h : k < 256) : Cond.code (mjY k) (mjB k) (mjML k) (mjRt k) ∈ mjW := by
  have g : ∀ (b w : Nat) (l : List (mjE × Nat)), (((List.range w).map (· + b)).map fun k => (mjG k, (mjMw k).1)) = l → (∀ q ∈ l, mjCw q) → b ≤ k → k < b + w → Cond.code (mjY k) (mjB k) (mjML k) (mjRt k) ∈ mjW := by
    intro b w l hl hq h1 h2
    have h3 : (mjG k, (mjMw k).1) ∈ l := by
      rw [← hl]
      exact List.mem_map.mpr ⟨k, List.mem_map.mpr ⟨k - b, List.mem_range.mpr (by omega), by omega⟩, rfl⟩
    have h4 := hq _ h3
    exact List.mem_filter.mpr ⟨mjSub_in _ _ (List.mem_of_getElem? h4), rfl⟩
  by_cases h0 : k < 30
  · exact g 0 30 _ mjCz_0 mjCw_0 (by omega) h0
  by_cases h1 : k < 60
  · exact g 30 30 _ mjCz_1 mjCw_1 (by omega) h1
  by_cases h2 : k < 90
  · exact g 60 30 _ mjCz_2 mjCw_2 (by omega) h2
  by_cases h3 : k < 120
  · exact g 90 30 _ mjCz_3 mjCw_3 (by omega) h3
  by_cases h4 : k < 150
  · exact g 120 30 _ mjCz_4 mjCw_4 (by omega) h4
  by_cases h5 : k < 180
  · exact g 150 30 _ mjCz_5 mjCw_5 (by omega) h5
  by_cases h6 : k < 210
  · exact g 180 30 _ mjCz_6 mjCw_6 (by omega) h6
  by_cases h7 : k < 240
  · exact g 210 30 _ mjCz_7 mjCw_7 (by omega) h7
  by_cases h8 : k < 256
  · exact g 240 16 _ mjCz_8 mjCw_8 (by omega) h8
  omega
def mjMOk (k : Nat) : Bool := match mjMw k with
  | (_, b, kd, c) => (mjOk b (.initialized (mjY k).cls) && (if kd = 1 then mjOk c (.static (mjY k)) else mjOk c (.instanceMethod (mjY k))) && (if kd = 2 then decide ((mjY k).name = "<init>") else decide ((mjY k).name ≠ "<init>")) && decide ((mjY k).cls = mjCn (mjCls k)) && decide ((mjY k).cls ≠ "java/lang/invoke/MethodHandle" ∧ (mjY k).cls ≠ "java/lang/invoke/VarHandle" ∧ (parseMethodDescriptor (mjY k).desc).map (fun d => d.parameters.length) = some (mjNa k)) && plainName (mjY k).cls && (if kd = 2 then decide (mjRt k = none) else true) && decide (kd < 3))
set_option maxRecDepth 100000 in
theorem mjM_ok0 : (((List.range 15).map (· + 0)).all mjMOk) = true := by decide +kernel
set_option maxRecDepth 100000 in
theorem mjM_ok1 : (((List.range 15).map (· + 15)).all mjMOk) = true := by decide +kernel
set_option maxRecDepth 100000 in
theorem mjM_ok2 : (((List.range 15).map (· + 30)).all mjMOk) = true := by decide +kernel
set_option maxRecDepth 100000 in
theorem mjM_ok3 : (((List.range 15).map (· + 45)).all mjMOk) = true := by decide +kernel
set_option maxRecDepth 100000 in
theorem mjM_ok4 : (((List.range 15).map (· + 60)).all mjMOk) = true := by decide +kernel
set_option maxRecDepth 100000 in
theorem mjM_ok5 : (((List.range 15).map (· + 75)).all mjMOk) = true := by decide +kernel
set_option maxRecDepth 100000 in
theorem mjM_ok6 : (((List.range 15).map (· + 90)).all mjMOk) = true := by decide +kernel
set_option maxRecDepth 100000 in
theorem mjM_ok7 : (((List.range 15).map (· + 105)).all mjMOk) = true := by decide +kernel
set_option maxRecDepth 100000 in
theorem mjM_ok8 : (((List.range 15).map (· + 120)).all mjMOk) = true := by decide +kernel
set_option maxRecDepth 100000 in
theorem mjM_ok9 : (((List.range 15).map (· + 135)).all mjMOk) = true := by decide +kernel
set_option maxRecDepth 100000 in
theorem mjM_ok10 : (((List.range 15).map (· + 150)).all mjMOk) = true := by decide +kernel
set_option maxRecDepth 100000 in
theorem mjM_ok11 : (((List.range 15).map (· + 165)).all mjMOk) = true := by decide +kernel
set_option maxRecDepth 100000 in
theorem mjM_ok12 : (((List.range 15).map (· + 180)).all mjMOk) = true := by decide +kernel
set_option maxRecDepth 100000 in
theorem mjM_ok13 : (((List.range 15).map (· + 195)).all mjMOk) = true := by decide +kernel
set_option maxRecDepth 100000 in
theorem mjM_ok14 : (((List.range 15).map (· + 210)).all mjMOk) = true := by decide +kernel
set_option maxRecDepth 100000 in
theorem mjM_ok15 : (((List.range 15).map (· + 225)).all mjMOk) = true := by decide +kernel
set_option maxRecDepth 100000 in
theorem mjM_ok16 : (((List.range 15).map (· + 240)).all mjMOk) = true := by decide +kernel
set_option maxRecDepth 100000 in
theorem mjM_ok17 : (((List.range 1).map (· + 255)).all mjMOk) = true := by decide +kernel
theorem mjM_ok (k : Nat) (h : k < 256) : mjMOk k = true := by
  have g : ∀ (b w : Nat), (((List.range w).map (· + b)).all mjMOk) = true → b ≤ k → k < b + w → mjMOk k = true := fun b w hb h1 h2 => List.all_eq_true.mp hb k (List.mem_map.mpr ⟨k - b, List.mem_range.mpr (by omega), by omega⟩)
  by_cases h0 : k < 15
  · exact g 0 15 mjM_ok0 (by omega) h0
  by_cases h1 : k < 30
  · exact g 15 15 mjM_ok1 (by omega) h1
  by_cases h2 : k < 45
  · exact g 30 15 mjM_ok2 (by omega) h2
  by_cases h3 : k < 60
  · exact g 45 15 mjM_ok3 (by omega) h3
  by_cases h4 : k < 75
  · exact g 60 15 mjM_ok4 (by omega) h4
  by_cases h5 : k < 90
  · exact g 75 15 mjM_ok5 (by omega) h5
  by_cases h6 : k < 105
  · exact g 90 15 mjM_ok6 (by omega) h6
  by_cases h7 : k < 120
  · exact g 105 15 mjM_ok7 (by omega) h7
  by_cases h8 : k < 135
  · exact g 120 15 mjM_ok8 (by omega) h8
  by_cases h9 : k < 150
  · exact g 135 15 mjM_ok9 (by omega) h9
  by_cases h10 : k < 165
  · exact g 150 15 mjM_ok10 (by omega) h10
  by_cases h11 : k < 180
  · exact g 165 15 mjM_ok11 (by omega) h11
  by_cases h12 : k < 195
  · exact g 180 15 mjM_ok12 (by omega) h12
  by_cases h13 : k < 210
  · exact g 195 15 mjM_ok13 (by omega) h13
  by_cases h14 : k < 225
  · exact g 210 15 mjM_ok14 (by omega) h14
  by_cases h15 : k < 240
  · exact g 225 15 mjM_ok15 (by omega) h15
  by_cases h16 : k < 255
  · exact g 240 15 mjM_ok16 (by omega) h16
  by_cases h17 : k < 256
  · exact g 255 1 mjM_ok17 (by omega) h17
  omega
