set_option maxRecDepth 20000 in
theorem mk_m_copy : MOK M_m_copy 2 true := mOK_eq (pc := 5227) (pi := 1015) (p1 := 5226) (p2 := 45) (by decide +kernel)
set_option maxRecDepth 20000 in
theorem mk_m_keep : MOK M_m_keep 0 true := mOK_eq (pc := 5223) (pi := 1015) (p1 := 5222) (p2 := 44) (by decide +kernel)
set_option maxRecDepth 20000 in
theorem mk_m_tries : MOK M_m_tries 1 true := mOK_eq (pc := 7168) (pi := 1015) (p1 := 7167) (p2 := 91) (by decide +kernel)
set_option maxRecDepth 20000 in
theorem mk_m_isIn : MOK M_m_isIn 3 false := mOK_eq (pc := 6130) (pi := 1015) (p1 := 6129) (p2 := 0) (by decide +kernel)
set_option maxRecDepth 20000 in
theorem mk_m_held : MOK M_m_held 3 false := mOK_eq (pc := 7088) (pi := 1015) (p1 := 7087) (p2 := 0) (by decide +kernel)
set_option maxRecDepth 20000 in
theorem mk_m_isPerson : MOK M_m_isPerson 1 true := mOK_eq (pc := 7034) (pi := 1015) (p1 := 7033) (p2 := 69) (by decide +kernel)
set_option maxRecDepth 20000 in
theorem mk_m_isGate : MOK M_m_isGate 1 true := mOK_eq (pc := 7038) (pi := 1015) (p1 := 7037) (p2 := 70) (by decide +kernel)
set_option maxRecDepth 20000 in
theorem mk_m_isLot : MOK M_m_isLot 1 true := mOK_eq (pc := 7096) (pi := 1015) (p1 := 7095) (p2 := 81) (by decide +kernel)
set_option maxRecDepth 20000 in
theorem mk_m_isBorn : MOK M_m_isBorn 1 true := mOK_eq (pc := 7115) (pi := 1015) (p1 := 7114) (p2 := 85) (by decide +kernel)
set_option maxRecDepth 20000 in
theorem mk_m_person : MOK M_m_person 1 true := mOK_eq (pc := 6119) (pi := 1015) (p1 := 6117) (p2 := 6118) (by decide +kernel)
set_option maxRecDepth 20000 in
theorem mk_m_gate : MOK M_m_gate 1 true := mOK_eq (pc := 6123) (pi := 1015) (p1 := 6121) (p2 := 6122) (by decide +kernel)
set_option maxRecDepth 20000 in
theorem mk_m_hour : MOK M_m_hour 1 true := mOK_eq (pc := 6127) (pi := 1015) (p1 := 6125) (p2 := 6126) (by decide +kernel)
set_option maxRecDepth 20000 in
theorem mk_m_four : MOK M_m_four 1 true := mOK_eq (pc := 6138) (pi := 1015) (p1 := 6137) (p2 := 46) (by decide +kernel)
set_option maxRecDepth 20000 in
theorem mk_m_feed : MOK M_m_feed 5 true := mOK_eq (pc := 6134) (pi := 1015) (p1 := 6132) (p2 := 6133) (by decide +kernel)
set_option maxRecDepth 20000 in
theorem mk_m_end : MOK M_m_end 1 true := mOK_eq (pc := 6142) (pi := 1015) (p1 := 6140) (p2 := 6141) (by decide +kernel)
set_option maxRecDepth 20000 in
theorem mk_m_byteAt : MOK M_m_byteAt 1 true := mOK_eq (pc := 6158) (pi := 1015) (p1 := 6157) (p2 := 49) (by decide +kernel)
set_option maxRecDepth 20000 in
theorem mk_m_isLetter : MOK M_m_isLetter 1 false := mOK_eq (pc := 6165) (pi := 1015) (p1 := 6164) (p2 := 0) (by decide +kernel)
set_option maxRecDepth 20000 in
theorem mk_m_isDigit : MOK M_m_isDigit 1 false := mOK_eq (pc := 6161) (pi := 1015) (p1 := 6160) (p2 := 0) (by decide +kernel)
set_option maxRecDepth 20000 in
theorem mk_m_nextToken : MOK M_m_nextToken 0 true := mOK_eq (pc := 6154) (pi := 1015) (p1 := 6153) (p2 := 48) (by decide +kernel)
set_option maxRecDepth 20000 in
theorem mk_m_w3 : MOK M_m_w3 3 false := mOK_eq (pc := 6179) (pi := 1015) (p1 := 6178) (p2 := 0) (by decide +kernel)
set_option maxRecDepth 20000 in
theorem mk_m_w5 : MOK M_m_w5 5 false := mOK_eq (pc := 7004) (pi := 1015) (p1 := 7003) (p2 := 0) (by decide +kernel)
set_option maxRecDepth 20000 in
theorem mk_m_w4 : MOK M_m_w4 4 false := mOK_eq (pc := 6176) (pi := 1015) (p1 := 6175) (p2 := 0) (by decide +kernel)
set_option maxRecDepth 20000 in
theorem mk_m_isWord : MOK M_m_isWord 1 true := mOK_eq (pc := 6183) (pi := 1015) (p1 := 6182) (p2 := 52) (by decide +kernel)
set_option maxRecDepth 20000 in
theorem mk_m_emit : MOK M_m_emit 2 true := mOK_eq (pc := 6225) (pi := 1015) (p1 := 6224) (p2 := 62) (by decide +kernel)
set_option maxRecDepth 20000 in
theorem mk_m_push : MOK M_m_push 1 true := mOK_eq (pc := 6229) (pi := 1015) (p1 := 6228) (p2 := 63) (by decide +kernel)
set_option maxRecDepth 20000 in
theorem mk_m_whole : MOK M_m_whole 0 true := mOK_eq (pc := 6233) (pi := 1015) (p1 := 6232) (p2 := 64) (by decide +kernel)
set_option maxRecDepth 20000 in
theorem mk_m_settle : MOK M_m_settle 1 true := mOK_eq (pc := 6221) (pi := 1015) (p1 := 6220) (p2 := 61) (by decide +kernel)
set_option maxRecDepth 20000 in
theorem mk_m_nameOf : MOK M_m_nameOf 0 true := mOK_eq (pc := 7001) (pi := 1015) (p1 := 7000) (p2 := 66) (by decide +kernel)
set_option maxRecDepth 20000 in
theorem mk_m_isBarred : MOK M_m_isBarred 1 true := mOK_eq (pc := 7009) (pi := 1015) (p1 := 7008) (p2 := 67) (by decide +kernel)
set_option maxRecDepth 20000 in
theorem mk_m_beginOne : MOK M_m_beginOne 0 true := mOK_eq (pc := 6237) (pi := 1015) (p1 := 6236) (p2 := 65) (by decide +kernel)
set_option maxRecDepth 20000 in
theorem mk_m_hasParen : MOK M_m_hasParen 0 true := mOK_eq (pc := 6213) (pi := 1015) (p1 := 6212) (p2 := 59) (by decide +kernel)
set_option maxRecDepth 20000 in
theorem mk_m_goesOn : MOK M_m_goesOn 0 true := mOK_eq (pc := 6209) (pi := 1015) (p1 := 6208) (p2 := 58) (by decide +kernel)
set_option maxRecDepth 20000 in
theorem mk_m_behindOne : MOK M_m_behindOne 0 true := mOK_eq (pc := 6217) (pi := 1015) (p1 := 6216) (p2 := 60) (by decide +kernel)
set_option maxRecDepth 20000 in
theorem mk_m_summed : MOK M_m_summed 0 true := mOK_eq (pc := 6205) (pi := 1015) (p1 := 6204) (p2 := 57) (by decide +kernel)
set_option maxRecDepth 20000 in
theorem mk_m_compareOf : MOK M_m_compareOf 0 true := mOK_eq (pc := 7013) (pi := 1015) (p1 := 7012) (p2 := 68) (by decide +kernel)
set_option maxRecDepth 20000 in
theorem mk_m_asks : MOK M_m_asks 0 true := mOK_eq (pc := 6201) (pi := 1015) (p1 := 6200) (p2 := 56) (by decide +kernel)
set_option maxRecDepth 20000 in
theorem mk_m_either : MOK M_m_either 0 true := mOK_eq (pc := 6197) (pi := 1015) (p1 := 6196) (p2 := 55) (by decide +kernel)
set_option maxRecDepth 20000 in
theorem mk_m_sortOf : MOK M_m_sortOf 0 true := mOK_eq (pc := 6173) (pi := 1015) (p1 := 6172) (p2 := 51) (by decide +kernel)
set_option maxRecDepth 20000 in
theorem mk_m_figure : MOK M_m_figure 2 true := mOK_eq (pc := 6192) (pi := 1015) (p1 := 6191) (p2 := 54) (by decide +kernel)
set_option maxRecDepth 20000 in
theorem mk_m_goneBy : MOK M_m_goneBy 1 true := mOK_eq (pc := 6188) (pi := 1015) (p1 := 6187) (p2 := 53) (by decide +kernel)
set_option maxRecDepth 20000 in
theorem mk_m_clause : MOK M_m_clause 0 true := mOK_eq (pc := 6169) (pi := 1015) (p1 := 6168) (p2 := 50) (by decide +kernel)
set_option maxRecDepth 20000 in
theorem mk_m_readText : MOK M_m_readText 0 true := mOK_eq (pc := 6150) (pi := 1015) (p1 := 6149) (p2 := 47) (by decide +kernel)
set_option maxRecDepth 20000 in
theorem mk_m_text : MOK M_m_text 0 true := mOK_eq (pc := 6146) (pi := 1015) (p1 := 6144) (p2 := 6145) (by decide +kernel)
set_option maxRecDepth 20000 in
theorem mk_m_fault : MOK M_m_fault 1 true := mOK_eq (pc := 7018) (pi := 1015) (p1 := 7016) (p2 := 7017) (by decide +kernel)
set_option maxRecDepth 20000 in
theorem mk_m_by : MOK M_m_by 1 true := mOK_eq (pc := 7022) (pi := 1015) (p1 := 7020) (p2 := 7021) (by decide +kernel)
set_option maxRecDepth 20000 in
theorem mk_m_nameAt : MOK M_m_nameAt 1 true := mOK_eq (pc := 7046) (pi := 1015) (p1 := 7045) (p2 := 72) (by decide +kernel)
set_option maxRecDepth 20000 in
theorem mk_m_hung : MOK M_m_hung 1 true := mOK_eq (pc := 7050) (pi := 1015) (p1 := 7049) (p2 := 73) (by decide +kernel)
set_option maxRecDepth 20000 in
theorem mk_m_nameAll : MOK M_m_nameAll 2 true := mOK_eq (pc := 7054) (pi := 1015) (p1 := 7053) (p2 := 74) (by decide +kernel)
set_option maxRecDepth 20000 in
theorem mk_m_clauses : MOK M_m_clauses 0 true := mOK_eq (pc := 7058) (pi := 1015) (p1 := 7057) (p2 := 75) (by decide +kernel)
set_option maxRecDepth 20000 in
theorem mk_m_sortAt : MOK M_m_sortAt 1 true := mOK_eq (pc := 7062) (pi := 1015) (p1 := 7061) (p2 := 76) (by decide +kernel)
set_option maxRecDepth 20000 in
theorem mk_m_clip : MOK M_m_clip 1 false := mOK_eq (pc := 7072) (pi := 1015) (p1 := 7071) (p2 := 0) (by decide +kernel)
set_option maxRecDepth 20000 in
theorem mk_m_two : MOK M_m_two 3 false := mOK_eq (pc := 7069) (pi := 1015) (p1 := 7068) (p2 := 0) (by decide +kernel)
set_option maxRecDepth 20000 in
theorem mk_m_isAsked : MOK M_m_isAsked 3 false := mOK_eq (pc := 7077) (pi := 1015) (p1 := 7076) (p2 := 0) (by decide +kernel)
set_option maxRecDepth 20000 in
theorem mk_m_work : MOK M_m_work 1 true := mOK_eq (pc := 7066) (pi := 1015) (p1 := 7065) (p2 := 77) (by decide +kernel)
set_option maxRecDepth 20000 in
theorem mk_m_can : MOK M_m_can 2 true := mOK_eq (pc := 7042) (pi := 1015) (p1 := 7041) (p2 := 71) (by decide +kernel)
set_option maxRecDepth 20000 in
theorem mk_m_clauseOf : MOK M_m_clauseOf 1 true := mOK_eq (pc := 7085) (pi := 1015) (p1 := 7084) (p2 := 79) (by decide +kernel)
set_option maxRecDepth 20000 in
theorem mk_m_feeOf : MOK M_m_feeOf 2 true := mOK_eq (pc := 7081) (pi := 1015) (p1 := 7080) (p2 := 78) (by decide +kernel)
set_option maxRecDepth 20000 in
theorem mk_m_leave : MOK M_m_leave 2 true := mOK_eq (pc := 7092) (pi := 1015) (p1 := 7091) (p2 := 80) (by decide +kernel)
set_option maxRecDepth 20000 in
theorem mk_m_draw : MOK M_m_draw 1 true := mOK_eq (pc := 7100) (pi := 1015) (p1 := 7099) (p2 := 82) (by decide +kernel)
set_option maxRecDepth 20000 in
theorem mk_m_heapAt : MOK M_m_heapAt 2 true := mOK_eq (pc := 7111) (pi := 1015) (p1 := 7110) (p2 := 84) (by decide +kernel)
set_option maxRecDepth 20000 in
theorem mk_m_chosen : MOK M_m_chosen 2 true := mOK_eq (pc := 7107) (pi := 1015) (p1 := 7106) (p2 := 83) (by decide +kernel)
set_option maxRecDepth 20000 in
theorem mk_m_come : MOK M_m_come 3 true := mOK_eq (pc := 7119) (pi := 1015) (p1 := 7118) (p2 := 86) (by decide +kernel)
set_option maxRecDepth 20000 in
theorem mk_m_go : MOK M_m_go 2 true := mOK_eq (pc := 7030) (pi := 1015) (p1 := 7028) (p2 := 7029) (by decide +kernel)
set_option maxRecDepth 20000 in
theorem mk_m_gone : MOK M_m_gone 1 true := mOK_eq (pc := 7026) (pi := 1015) (p1 := 7024) (p2 := 7025) (by decide +kernel)
set_option maxRecDepth 20000 in
theorem mk_m_goes : MOK M_m_goes 2 true := mOK_eq (pc := 7172) (pi := 1015) (p1 := 7171) (p2 := 92) (by decide +kernel)
set_option maxRecDepth 20000 in
theorem mk_m_owesOf : MOK M_m_owesOf 1 true := mOK_eq (pc := 7128) (pi := 1015) (p1 := 7127) (p2 := 87) (by decide +kernel)
set_option maxRecDepth 20000 in
theorem mk_m_didOf : MOK M_m_didOf 1 true := mOK_eq (pc := 7132) (pi := 1015) (p1 := 7131) (p2 := 88) (by decide +kernel)
set_option maxRecDepth 20000 in
theorem mk_m_of : MOK M_m_of 2 true := mOK_eq (pc := 7124) (pi := 1015) (p1 := 7122) (p2 := 7123) (by decide +kernel)
set_option maxRecDepth 20000 in
theorem mk_m_holder : MOK M_m_holder 1 true := mOK_eq (pc := 7140) (pi := 1015) (p1 := 7139) (p2 := 89) (by decide +kernel)
set_option maxRecDepth 20000 in
theorem mk_m_called : MOK M_m_called 1 true := mOK_eq (pc := 7136) (pi := 1015) (p1 := 7134) (p2 := 7135) (by decide +kernel)
set_option maxRecDepth 20000 in
theorem mk_m_heap : MOK M_m_heap 2 true := mOK_eq (pc := 7144) (pi := 1015) (p1 := 7142) (p2 := 7143) (by decide +kernel)
set_option maxRecDepth 20000 in
theorem mk_m_deed : MOK M_m_deed 2 true := mOK_eq (pc := 7148) (pi := 1015) (p1 := 7146) (p2 := 7147) (by decide +kernel)
set_option maxRecDepth 20000 in
theorem mk_m_owes : MOK M_m_owes 1 true := mOK_eq (pc := 7152) (pi := 1015) (p1 := 7150) (p2 := 7151) (by decide +kernel)
set_option maxRecDepth 20000 in
theorem mk_m_row : MOK M_m_row 2 true := mOK_eq (pc := 7156) (pi := 1015) (p1 := 7154) (p2 := 7155) (by decide +kernel)
set_option maxRecDepth 20000 in
theorem mk_m_doRow : MOK M_m_doRow 0 true := mOK_eq (pc := 7164) (pi := 1015) (p1 := 7163) (p2 := 90) (by decide +kernel)
set_option maxRecDepth 20000 in
theorem mk_m_judge : MOK M_m_judge 0 true := mOK_eq (pc := 7160) (pi := 1015) (p1 := 7158) (p2 := 7159) (by decide +kernel)
set_option maxRecDepth 20000 in
theorem mk_m_then : MOK M_m_then 1 true := mOK_eq (pc := 7176) (pi := 1015) (p1 := 7174) (p2 := 7175) (by decide +kernel)
set_option maxRecDepth 20000 in
theorem mk_m_common : MOK M_m_common 2 false := mOK_eq (pc := 7192) (pi := 1015) (p1 := 7191) (p2 := 0) (by decide +kernel)
set_option maxRecDepth 20000 in
theorem mk_m_add : MOK M_m_add 1 true := mOK_eq (pc := 7189) (pi := 1015) (p1 := 7188) (p2 := 94) (by decide +kernel)
set_option maxRecDepth 20000 in
theorem mk_m_stepOn : MOK M_m_stepOn 1 true := mOK_eq (pc := 7196) (pi := 1015) (p1 := 7195) (p2 := 95) (by decide +kernel)
set_option maxRecDepth 20000 in
theorem mk_m_lotMany : MOK M_m_lotMany 0 true := mOK_eq (pc := 7184) (pi := 1015) (p1 := 7183) (p2 := 93) (by decide +kernel)
set_option maxRecDepth 20000 in
theorem mk_m_chance : MOK M_m_chance 3 true := mOK_eq (pc := 7180) (pi := 1015) (p1 := 7178) (p2 := 7179) (by decide +kernel)
set_option maxRecDepth 20000 in
theorem mk_m_line : MOK M_m_line 3 true := mOK_eq (pc := 7200) (pi := 1015) (p1 := 7198) (p2 := 7199) (by decide +kernel)
set_option maxRecDepth 20000 in
theorem mk_m_isSo : MOK M_m_isSo 4 true := mOK_eq (pc := 7220) (pi := 1015) (p1 := 7219) (p2 := 99) (by decide +kernel)
set_option maxRecDepth 20000 in
theorem mk_m_stepBook : MOK M_m_stepBook 1 true := mOK_eq (pc := 7216) (pi := 1015) (p1 := 7215) (p2 := 98) (by decide +kernel)
set_option maxRecDepth 20000 in
theorem mk_m_count : MOK M_m_count 0 true := mOK_eq (pc := 7212) (pi := 1015) (p1 := 7211) (p2 := 97) (by decide +kernel)
set_option maxRecDepth 20000 in
theorem mk_m_findWays : MOK M_m_findWays 0 true := mOK_eq (pc := 7208) (pi := 1015) (p1 := 7207) (p2 := 96) (by decide +kernel)
set_option maxRecDepth 20000 in
theorem mk_m_ways : MOK M_m_ways 0 true := mOK_eq (pc := 7204) (pi := 1015) (p1 := 7202) (p2 := 7203) (by decide +kernel)
set_option maxRecDepth 20000 in
theorem mk_m_may : MOK M_m_may 1 true := mOK_eq (pc := 7224) (pi := 1015) (p1 := 7222) (p2 := 7223) (by decide +kernel)
set_option maxRecDepth 20000 in
theorem mk_m_ask : MOK M_m_ask 1 true := mOK_eq (pc := 7228) (pi := 1015) (p1 := 7226) (p2 := 7227) (by decide +kernel)
set_option maxRecDepth 20000 in
theorem mk_m_sumOf : MOK M_m_sumOf 0 true := mOK_eq (pc := 8008) (pi := 1015) (p1 := 8007) (p2 := 103) (by decide +kernel)
set_option maxRecDepth 20000 in
theorem mk_m_isState : MOK M_m_isState 1 true := mOK_eq (pc := 8024) (pi := 1015) (p1 := 8023) (p2 := 107) (by decide +kernel)
set_option maxRecDepth 20000 in
theorem mk_m_isKnown : MOK M_m_isKnown 1 true := mOK_eq (pc := 8020) (pi := 1015) (p1 := 8019) (p2 := 106) (by decide +kernel)
set_option maxRecDepth 20000 in
theorem mk_m_addState : MOK M_m_addState 3 true := mOK_eq (pc := 8012) (pi := 1015) (p1 := 8011) (p2 := 104) (by decide +kernel)
set_option maxRecDepth 20000 in
theorem mk_m_isGoal : MOK M_m_isGoal 3 true := mOK_eq (pc := 8016) (pi := 1015) (p1 := 8015) (p2 := 105) (by decide +kernel)
set_option maxRecDepth 20000 in
theorem mk_m_findGoal : MOK M_m_findGoal 4 true := mOK_eq (pc := 8004) (pi := 1015) (p1 := 8003) (p2 := 102) (by decide +kernel)
set_option maxRecDepth 20000 in
theorem mk_m_isSet : MOK M_m_isSet 1 true := mOK_eq (pc := 7236) (pi := 1015) (p1 := 7235) (p2 := 100) (by decide +kernel)
set_option maxRecDepth 20000 in
theorem mk_m_areTwo : MOK M_m_areTwo 2 true := mOK_eq (pc := 8000) (pi := 1015) (p1 := 7239) (p2 := 101) (by decide +kernel)
set_option maxRecDepth 20000 in
theorem mk_m_fewest : MOK M_m_fewest 5 true := mOK_eq (pc := 7232) (pi := 1015) (p1 := 7230) (p2 := 7231) (by decide +kernel)
set_option maxRecDepth 20000 in
theorem mk_m_third : MOK M_m_third 2 true := mOK_eq (pc := 8028) (pi := 1015) (p1 := 8026) (p2 := 8027) (by decide +kernel)
set_option maxRecDepth 20000 in
theorem mk_m_nextOrder : MOK M_m_nextOrder 1 true := mOK_eq (pc := 8036) (pi := 1015) (p1 := 8035) (p2 := 108) (by decide +kernel)
set_option maxRecDepth 20000 in
theorem mk_m_left : MOK M_m_left 3 true := mOK_eq (pc := 8032) (pi := 1015) (p1 := 8030) (p2 := 8031) (by decide +kernel)
set_option maxRecDepth 20000 in
theorem mk_m_thief : MOK M_m_thief 2 true := mOK_eq (pc := 8040) (pi := 1015) (p1 := 8038) (p2 := 8039) (by decide +kernel)
set_option maxRecDepth 20000 in
theorem mk_m_seed : MOK M_m_seed 1 true := mOK_eq (pc := 8044) (pi := 1015) (p1 := 8042) (p2 := 8043) (by decide +kernel)
set_option maxRecDepth 20000 in
theorem mk_m_days : MOK M_m_days 1 true := mOK_eq (pc := 8048) (pi := 1015) (p1 := 8046) (p2 := 8047) (by decide +kernel)
set_option maxRecDepth 20000 in
theorem mk_m_image : MOK M_m_image 0 true := mOK_eq (pc := 8052) (pi := 1015) (p1 := 8050) (p2 := 8051) (by decide +kernel)
set_option maxRecDepth 20000 in
theorem mk_m_back : MOK M_m_back 0 true := mOK_eq (pc := 8056) (pi := 1015) (p1 := 8054) (p2 := 8055) (by decide +kernel)
set_option maxRecDepth 20000 in
theorem mk_m_about : MOK M_m_about 1 true := mOK_eq (pc := 8060) (pi := 1015) (p1 := 8058) (p2 := 8059) (by decide +kernel)
set_option maxRecDepth 20000 in
theorem lk_12_86 : LK "LastNameModel" 86 ⟨"LastNameModel", "copy", "(II)V"⟩ false := LK_p 5224 (by decide +kernel)
set_option maxRecDepth 20000 in
theorem lk_12_93 : LK "LastNameModel" 93 ⟨"LastNameModel", "isIn", "(III)Z"⟩ false := LK_p 6128 (by decide +kernel)
set_option maxRecDepth 20000 in
theorem lk_12_100 : LK "LastNameModel" 100 ⟨"LastNameModel", "four", "(I)V"⟩ false := LK_p 6135 (by decide +kernel)
set_option maxRecDepth 20000 in
theorem lk_12_107 : LK "LastNameModel" 107 ⟨"LastNameModel", "byteAt", "(I)I"⟩ false := LK_p 6155 (by decide +kernel)
set_option maxRecDepth 20000 in
theorem lk_12_125 : LK "LastNameModel" 125 ⟨"LastNameModel", "isLetter", "(I)Z"⟩ false := LK_p 6163 (by decide +kernel)
set_option maxRecDepth 20000 in
theorem lk_12_117 : LK "LastNameModel" 117 ⟨"LastNameModel", "isDigit", "(I)Z"⟩ false := LK_p 6159 (by decide +kernel)
set_option maxRecDepth 20000 in
theorem lk_12_132 : LK "LastNameModel" 132 ⟨"LastNameModel", "w3", "(III)J"⟩ false := LK_p 6177 (by decide +kernel)
set_option maxRecDepth 20000 in
theorem lk_12_156 : LK "LastNameModel" 156 ⟨"LastNameModel", "emit", "(II)V"⟩ false := LK_p 6222 (by decide +kernel)
set_option maxRecDepth 20000 in
theorem lk_12_159 : LK "LastNameModel" 159 ⟨"LastNameModel", "w4", "(IIII)J"⟩ false := LK_p 6174 (by decide +kernel)
set_option maxRecDepth 20000 in
theorem lk_12_136 : LK "LastNameModel" 136 ⟨"LastNameModel", "w5", "(IIIII)J"⟩ false := LK_p 7002 (by decide +kernel)
set_option maxRecDepth 20000 in
theorem lk_12_168 : LK "LastNameModel" 168 ⟨"LastNameModel", "nextToken", "()V"⟩ false := LK_p 6151 (by decide +kernel)
set_option maxRecDepth 20000 in
theorem lk_12_181 : LK "LastNameModel" 181 ⟨"LastNameModel", "push", "(I)V"⟩ false := LK_p 6226 (by decide +kernel)
set_option maxRecDepth 20000 in
theorem lk_12_171 : LK "LastNameModel" 171 ⟨"LastNameModel", "whole", "()V"⟩ false := LK_p 6230 (by decide +kernel)
set_option maxRecDepth 20000 in
theorem lk_12_174 : LK "LastNameModel" 174 ⟨"LastNameModel", "nameOf", "()I"⟩ false := LK_p 6238 (by decide +kernel)
set_option maxRecDepth 20000 in
theorem lk_12_178 : LK "LastNameModel" 178 ⟨"LastNameModel", "isBarred", "(I)Z"⟩ false := LK_p 7006 (by decide +kernel)
set_option maxRecDepth 20000 in
theorem lk_12_184 : LK "LastNameModel" 184 ⟨"LastNameModel", "hasParen", "()Z"⟩ false := LK_p 6210 (by decide +kernel)
set_option maxRecDepth 20000 in
theorem lk_12_188 : LK "LastNameModel" 188 ⟨"LastNameModel", "settle", "(I)V"⟩ false := LK_p 6218 (by decide +kernel)
set_option maxRecDepth 20000 in
theorem lk_12_197 : LK "LastNameModel" 197 ⟨"LastNameModel", "beginOne", "()I"⟩ false := LK_p 6234 (by decide +kernel)
set_option maxRecDepth 20000 in
theorem lk_12_194 : LK "LastNameModel" 194 ⟨"LastNameModel", "behindOne", "()I"⟩ false := LK_p 6214 (by decide +kernel)
set_option maxRecDepth 20000 in
theorem lk_12_191 : LK "LastNameModel" 191 ⟨"LastNameModel", "goesOn", "()Z"⟩ false := LK_p 6206 (by decide +kernel)
set_option maxRecDepth 20000 in
theorem lk_12_200 : LK "LastNameModel" 200 ⟨"LastNameModel", "isWord", "(J)Z"⟩ false := LK_p 6180 (by decide +kernel)
set_option maxRecDepth 20000 in
theorem lk_12_204 : LK "LastNameModel" 204 ⟨"LastNameModel", "summed", "()I"⟩ false := LK_p 6202 (by decide +kernel)
set_option maxRecDepth 20000 in
theorem lk_12_207 : LK "LastNameModel" 207 ⟨"LastNameModel", "compareOf", "()I"⟩ false := LK_p 7010 (by decide +kernel)
set_option maxRecDepth 20000 in
theorem lk_12_210 : LK "LastNameModel" 210 ⟨"LastNameModel", "asks", "()I"⟩ false := LK_p 6198 (by decide +kernel)
set_option maxRecDepth 20000 in
theorem lk_12_217 : LK "LastNameModel" 217 ⟨"LastNameModel", "figure", "(II)I"⟩ false := LK_p 6189 (by decide +kernel)
set_option maxRecDepth 20000 in
theorem lk_12_232 : LK "LastNameModel" 232 ⟨"LastNameModel", "either", "()I"⟩ false := LK_p 6194 (by decide +kernel)
set_option maxRecDepth 20000 in
theorem lk_12_229 : LK "LastNameModel" 229 ⟨"LastNameModel", "goneBy", "(I)I"⟩ false := LK_p 6185 (by decide +kernel)
set_option maxRecDepth 20000 in
theorem lk_12_223 : LK "LastNameModel" 223 ⟨"LastNameModel", "sortOf", "()I"⟩ false := LK_p 6170 (by decide +kernel)
set_option maxRecDepth 20000 in
theorem lk_12_235 : LK "LastNameModel" 235 ⟨"LastNameModel", "clause", "()I"⟩ false := LK_p 6166 (by decide +kernel)
set_option maxRecDepth 20000 in
theorem lk_12_238 : LK "LastNameModel" 238 ⟨"LastNameModel", "readText", "()I"⟩ false := LK_p 6147 (by decide +kernel)
set_option maxRecDepth 20000 in
theorem lk_12_269 : LK "LastNameModel" 269 ⟨"LastNameModel", "nameAt", "(I)I"⟩ false := LK_p 7043 (by decide +kernel)
set_option maxRecDepth 20000 in
theorem lk_12_266 : LK "LastNameModel" 266 ⟨"LastNameModel", "hung", "(I)I"⟩ false := LK_p 7047 (by decide +kernel)
set_option maxRecDepth 20000 in
theorem lk_12_248 : LK "LastNameModel" 248 ⟨"LastNameModel", "clip", "(J)J"⟩ false := LK_p 7070 (by decide +kernel)
set_option maxRecDepth 20000 in
theorem lk_12_256 : LK "LastNameModel" 256 ⟨"LastNameModel", "isAsked", "(IJJ)Z"⟩ false := LK_p 7075 (by decide +kernel)
set_option maxRecDepth 20000 in
theorem lk_12_252 : LK "LastNameModel" 252 ⟨"LastNameModel", "two", "(IJJ)J"⟩ false := LK_p 7067 (by decide +kernel)
set_option maxRecDepth 20000 in
theorem lk_12_275 : LK "LastNameModel" 275 ⟨"LastNameModel", "work", "(I)V"⟩ false := LK_p 7063 (by decide +kernel)
set_option maxRecDepth 20000 in
theorem lk_12_263 : LK "LastNameModel" 263 ⟨"LastNameModel", "sortAt", "(I)I"⟩ false := LK_p 7059 (by decide +kernel)
set_option maxRecDepth 20000 in
theorem lk_12_260 : LK "LastNameModel" 260 ⟨"LastNameModel", "clauses", "()I"⟩ false := LK_p 7055 (by decide +kernel)
set_option maxRecDepth 20000 in
theorem lk_12_272 : LK "LastNameModel" 272 ⟨"LastNameModel", "nameAll", "(II)V"⟩ false := LK_p 7051 (by decide +kernel)
set_option maxRecDepth 20000 in
theorem lk_12_281 : LK "LastNameModel" 281 ⟨"LastNameModel", "held", "(JII)I"⟩ false := LK_p 7086 (by decide +kernel)
set_option maxRecDepth 20000 in
theorem lk_12_278 : LK "LastNameModel" 278 ⟨"LastNameModel", "clauseOf", "(I)I"⟩ false := LK_p 7082 (by decide +kernel)
set_option maxRecDepth 20000 in
theorem lk_12_285 : LK "LastNameModel" 285 ⟨"LastNameModel", "heapAt", "(II)I"⟩ false := LK_p 7108 (by decide +kernel)
set_option maxRecDepth 20000 in
theorem lk_12_288 : LK "LastNameModel" 288 ⟨"LastNameModel", "isBorn", "(I)Z"⟩ false := LK_p 7112 (by decide +kernel)
set_option maxRecDepth 20000 in
theorem lk_12_322 : LK "LastNameModel" 322 ⟨"LastNameModel", "come", "(III)V"⟩ false := LK_p 7116 (by decide +kernel)
set_option maxRecDepth 20000 in
theorem lk_12_319 : LK "LastNameModel" 319 ⟨"LastNameModel", "chosen", "(II)I"⟩ false := LK_p 7104 (by decide +kernel)
set_option maxRecDepth 20000 in
theorem lk_12_316 : LK "LastNameModel" 316 ⟨"LastNameModel", "draw", "(I)I"⟩ false := LK_p 7097 (by decide +kernel)
set_option maxRecDepth 20000 in
theorem lk_12_313 : LK "LastNameModel" 313 ⟨"LastNameModel", "isLot", "(I)Z"⟩ false := LK_p 7093 (by decide +kernel)
set_option maxRecDepth 20000 in
theorem lk_12_310 : LK "LastNameModel" 310 ⟨"LastNameModel", "leave", "(II)V"⟩ false := LK_p 7089 (by decide +kernel)
set_option maxRecDepth 20000 in
theorem lk_12_307 : LK "LastNameModel" 307 ⟨"LastNameModel", "feeOf", "(II)I"⟩ false := LK_p 7078 (by decide +kernel)
set_option maxRecDepth 20000 in
theorem lk_12_303 : LK "LastNameModel" 303 ⟨"LastNameModel", "can", "(II)Z"⟩ false := LK_p 7039 (by decide +kernel)
set_option maxRecDepth 20000 in
theorem lk_12_300 : LK "LastNameModel" 300 ⟨"LastNameModel", "isGate", "(I)Z"⟩ false := LK_p 7035 (by decide +kernel)
set_option maxRecDepth 20000 in
theorem lk_12_297 : LK "LastNameModel" 297 ⟨"LastNameModel", "isPerson", "(I)Z"⟩ false := LK_p 7031 (by decide +kernel)
set_option maxRecDepth 20000 in
theorem lk_12_241 : LK "LastNameModel" 241 ⟨"LastNameModel", "go", "(II)I"⟩ false := LK_p 7027 (by decide +kernel)
set_option maxRecDepth 20000 in
theorem lk_12_329 : LK "LastNameModel" 329 ⟨"LastNameModel", "didOf", "(I)I"⟩ false := LK_p 7129 (by decide +kernel)
set_option maxRecDepth 20000 in
theorem lk_12_326 : LK "LastNameModel" 326 ⟨"LastNameModel", "owesOf", "(I)I"⟩ false := LK_p 7125 (by decide +kernel)
set_option maxRecDepth 20000 in
theorem lk_12_332 : LK "LastNameModel" 332 ⟨"LastNameModel", "holder", "(I)I"⟩ false := LK_p 7137 (by decide +kernel)
set_option maxRecDepth 20000 in
theorem lk_12_338 : LK "LastNameModel" 338 ⟨"LastNameModel", "goes", "(II)Z"⟩ false := LK_p 7169 (by decide +kernel)
set_option maxRecDepth 20000 in
theorem lk_12_335 : LK "LastNameModel" 335 ⟨"LastNameModel", "tries", "(I)V"⟩ false := LK_p 7165 (by decide +kernel)
set_option maxRecDepth 20000 in
theorem lk_12_341 : LK "LastNameModel" 341 ⟨"LastNameModel", "doRow", "()I"⟩ false := LK_p 7161 (by decide +kernel)
set_option maxRecDepth 20000 in
theorem lk_12_347 : LK "LastNameModel" 347 ⟨"LastNameModel", "common", "(JJ)J"⟩ false := LK_p 7190 (by decide +kernel)
set_option maxRecDepth 20000 in
theorem lk_12_363 : LK "LastNameModel" 363 ⟨"LastNameModel", "stepOn", "(I)Z"⟩ false := LK_p 7193 (by decide +kernel)
set_option maxRecDepth 20000 in
theorem lk_12_359 : LK "LastNameModel" 359 ⟨"LastNameModel", "add", "(J)V"⟩ false := LK_p 7186 (by decide +kernel)
set_option maxRecDepth 20000 in
theorem lk_12_354 : LK "LastNameModel" 354 ⟨"LastNameModel", "lotMany", "()I"⟩ false := LK_p 7181 (by decide +kernel)
set_option maxRecDepth 20000 in
theorem lk_12_366 : LK "LastNameModel" 366 ⟨"LastNameModel", "isSo", "(IIII)Z"⟩ false := LK_p 7217 (by decide +kernel)
set_option maxRecDepth 20000 in
theorem lk_12_376 : LK "LastNameModel" 376 ⟨"LastNameModel", "stepBook", "(I)Z"⟩ false := LK_p 7213 (by decide +kernel)
set_option maxRecDepth 20000 in
theorem lk_12_373 : LK "LastNameModel" 373 ⟨"LastNameModel", "count", "()V"⟩ false := LK_p 7209 (by decide +kernel)
set_option maxRecDepth 20000 in
theorem lk_12_379 : LK "LastNameModel" 379 ⟨"LastNameModel", "findWays", "()V"⟩ false := LK_p 7205 (by decide +kernel)
set_option maxRecDepth 20000 in
theorem lk_12_382 : LK "LastNameModel" 382 ⟨"LastNameModel", "isState", "(I)Z"⟩ false := LK_p 8021 (by decide +kernel)
set_option maxRecDepth 20000 in
theorem lk_12_394 : LK "LastNameModel" 394 ⟨"LastNameModel", "isGoal", "(III)Z"⟩ false := LK_p 8013 (by decide +kernel)
set_option maxRecDepth 20000 in
theorem lk_12_391 : LK "LastNameModel" 391 ⟨"LastNameModel", "addState", "(III)V"⟩ false := LK_p 8009 (by decide +kernel)
set_option maxRecDepth 20000 in
theorem lk_12_397 : LK "LastNameModel" 397 ⟨"LastNameModel", "isKnown", "(I)Z"⟩ false := LK_p 8017 (by decide +kernel)
set_option maxRecDepth 20000 in
theorem lk_12_388 : LK "LastNameModel" 388 ⟨"LastNameModel", "sumOf", "()I"⟩ false := LK_p 8005 (by decide +kernel)
set_option maxRecDepth 20000 in
theorem lk_12_406 : LK "LastNameModel" 406 ⟨"LastNameModel", "findGoal", "(IIII)I"⟩ false := LK_p 8001 (by decide +kernel)
set_option maxRecDepth 20000 in
theorem lk_12_403 : LK "LastNameModel" 403 ⟨"LastNameModel", "areTwo", "(II)Z"⟩ false := LK_p 7237 (by decide +kernel)
set_option maxRecDepth 20000 in
theorem lk_12_400 : LK "LastNameModel" 400 ⟨"LastNameModel", "isSet", "(I)Z"⟩ false := LK_p 7233 (by decide +kernel)
set_option maxRecDepth 20000 in
theorem lk_12_410 : LK "LastNameModel" 410 ⟨"LastNameModel", "nextOrder", "(I)Z"⟩ false := LK_p 8033 (by decide +kernel)
set_option maxRecDepth 20000 in
theorem lk_12_83 : LK "LastNameModel" 83 ⟨"LastNameModel", "keep", "()V"⟩ false := LK_p 5220 (by decide +kernel)
