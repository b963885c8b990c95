set_option maxRecDepth 20000 in
theorem mk_arr_fill_II : MOK M_arr_fill_II 2 false := mOK_eq (pc := 1046) (pi := 1004) (p1 := 1045) (p2 := 0) (by decide +kernel)
set_option maxRecDepth 20000 in
theorem mk_math_max_II : MOK M_math_max_II 2 false := mOK_eq (pc := 1067) (pi := 1006) (p1 := 1066) (p2 := 0) (by decide +kernel)
set_option maxRecDepth 20000 in
theorem mk_math_max_JJ : MOK M_math_max_JJ 2 false := mOK_eq (pc := 4077) (pi := 1006) (p1 := 4076) (p2 := 0) (by decide +kernel)
set_option maxRecDepth 20000 in
theorem mk_math_min_II : MOK M_math_min_II 2 false := mOK_eq (pc := 3104) (pi := 1006) (p1 := 3103) (p2 := 0) (by decide +kernel)
set_option maxRecDepth 20000 in
theorem mk_math_min_JJ : MOK M_math_min_JJ 2 false := mOK_eq (pc := 4074) (pi := 1006) (p1 := 4073) (p2 := 0) (by decide +kernel)
set_option maxRecDepth 20000 in
theorem mk_town_nameAtBirth : MOK M_town_nameAtBirth 2 true := mOK_eq (pc := 2210) (pi := 1003) (p1 := 2208) (p2 := 2209) (by decide +kernel)
set_option maxRecDepth 20000 in
theorem mk_world_addPerson : MOK M_world_addPerson 1 true := mOK_eq (pc := 2206) (pi := 1002) (p1 := 2204) (p2 := 2205) (by decide +kernel)
set_option maxRecDepth 20000 in
theorem mk_x_person : MOK M_x_person 1 true := mOK_eq (pc := 2202) (pi := 1001) (p1 := 2200) (p2 := 2201) (by decide +kernel)
set_option maxRecDepth 20000 in
theorem mk_world_addGate : MOK M_world_addGate 1 true := mOK_eq (pc := 2218) (pi := 1002) (p1 := 2216) (p2 := 2217) (by decide +kernel)
set_option maxRecDepth 20000 in
theorem mk_x_gate : MOK M_x_gate 1 true := mOK_eq (pc := 2214) (pi := 1001) (p1 := 2212) (p2 := 2213) (by decide +kernel)
set_option maxRecDepth 20000 in
theorem mk_x_hour : MOK M_x_hour 1 true := mOK_eq (pc := 2222) (pi := 1001) (p1 := 2220) (p2 := 2221) (by decide +kernel)
set_option maxRecDepth 20000 in
theorem mk_rd_addFour : MOK M_rd_addFour 1 true := mOK_eq (pc := 2230) (pi := 1007) (p1 := 2228) (p2 := 2229) (by decide +kernel)
set_option maxRecDepth 20000 in
theorem mk_x_feed : MOK M_x_feed 5 true := mOK_eq (pc := 2226) (pi := 1001) (p1 := 2224) (p2 := 2225) (by decide +kernel)
set_option maxRecDepth 20000 in
theorem mk_x_end : MOK M_x_end 1 true := mOK_eq (pc := 2234) (pi := 1001) (p1 := 2232) (p2 := 2233) (by decide +kernel)
set_option maxRecDepth 20000 in
theorem mk_rd_byteAt : MOK M_rd_byteAt 1 true := mOK_eq (pc := 3010) (pi := 1007) (p1 := 3009) (p2 := 1) (by decide +kernel)
set_option maxRecDepth 20000 in
theorem mk_rd_isBlank : MOK M_rd_isBlank 1 false := mOK_eq (pc := 3013) (pi := 1007) (p1 := 3012) (p2 := 0) (by decide +kernel)
set_option maxRecDepth 20000 in
theorem mk_rd_isLetter : MOK M_rd_isLetter 1 false := mOK_eq (pc := 3020) (pi := 1007) (p1 := 3019) (p2 := 0) (by decide +kernel)
set_option maxRecDepth 20000 in
theorem mk_rd_isDigit : MOK M_rd_isDigit 1 false := mOK_eq (pc := 3023) (pi := 1007) (p1 := 3022) (p2 := 0) (by decide +kernel)
set_option maxRecDepth 20000 in
theorem mk_rd_endOfToken : MOK M_rd_endOfToken 1 true := mOK_eq (pc := 3017) (pi := 1007) (p1 := 3016) (p2 := 2) (by decide +kernel)
set_option maxRecDepth 20000 in
theorem mk_rd_isWordAt : MOK M_rd_isWordAt 3 true := mOK_eq (pc := 3084) (pi := 1007) (p1 := 3083) (p2 := 5) (by decide +kernel)
set_option maxRecDepth 20000 in
theorem mk_rd_kindOfWord : MOK M_rd_kindOfWord 2 true := mOK_eq (pc := 3031) (pi := 1007) (p1 := 3030) (p2 := 4) (by decide +kernel)
set_option maxRecDepth 20000 in
theorem mk_rd_kindOfToken : MOK M_rd_kindOfToken 2 true := mOK_eq (pc := 3027) (pi := 1007) (p1 := 3026) (p2 := 3) (by decide +kernel)
set_option maxRecDepth 20000 in
theorem mk_rd_numberOf : MOK M_rd_numberOf 2 true := mOK_eq (pc := 3146) (pi := 1007) (p1 := 3145) (p2 := 6) (by decide +kernel)
set_option maxRecDepth 20000 in
theorem mk_rd_addToken : MOK M_rd_addToken 3 true := mOK_eq (pc := 3151) (pi := 1007) (p1 := 3150) (p2 := 7) (by decide +kernel)
set_option maxRecDepth 20000 in
theorem mk_rd_split : MOK M_rd_split 0 true := mOK_eq (pc := 3006) (pi := 1007) (p1 := 3005) (p2 := 0) (by decide +kernel)
set_option maxRecDepth 20000 in
theorem mk_law_clear : MOK M_law_clear 0 true := mOK_eq (pc := 3155) (pi := 1008) (p1 := 3153) (p2 := 3154) (by decide +kernel)
set_option maxRecDepth 20000 in
theorem mk_law_hasAlready : MOK M_law_hasAlready 1 true := mOK_eq (pc := 3163) (pi := 1008) (p1 := 3161) (p2 := 3162) (by decide +kernel)
set_option maxRecDepth 20000 in
theorem mk_rd_faultOfClause : MOK M_rd_faultOfClause 0 true := mOK_eq (pc := 3159) (pi := 1007) (p1 := 3158) (p2 := 8) (by decide +kernel)
set_option maxRecDepth 20000 in
theorem mk_rd_fail : MOK M_rd_fail 1 true := mOK_eq (pc := 3167) (pi := 1007) (p1 := 3166) (p2 := 9) (by decide +kernel)
set_option maxRecDepth 20000 in
theorem mk_rd_step : MOK M_rd_step 0 true := mOK_eq (pc := 3175) (pi := 1007) (p1 := 3174) (p2 := 11) (by decide +kernel)
set_option maxRecDepth 20000 in
theorem mk_rd_readNumber : MOK M_rd_readNumber 1 true := mOK_eq (pc := 3179) (pi := 1007) (p1 := 3178) (p2 := 12) (by decide +kernel)
set_option maxRecDepth 20000 in
theorem mk_rd_expect : MOK M_rd_expect 1 true := mOK_eq (pc := 3183) (pi := 1007) (p1 := 3182) (p2 := 13) (by decide +kernel)
set_option maxRecDepth 20000 in
theorem mk_law_addClause : MOK M_law_addClause 3 true := mOK_eq (pc := 3187) (pi := 1008) (p1 := 3185) (p2 := 3186) (by decide +kernel)
set_option maxRecDepth 20000 in
theorem mk_rd_readGo : MOK M_rd_readGo 0 true := mOK_eq (pc := 3171) (pi := 1007) (p1 := 3170) (p2 := 10) (by decide +kernel)
set_option maxRecDepth 20000 in
theorem mk_rd_opens : MOK M_rd_opens 1 true := mOK_eq (pc := 3203) (pi := 1007) (p1 := 3202) (p2 := 17) (by decide +kernel)
set_option maxRecDepth 20000 in
theorem mk_law_emit : MOK M_law_emit 1 true := mOK_eq (pc := 3207) (pi := 1008) (p1 := 3205) (p2 := 3206) (by decide +kernel)
set_option maxRecDepth 20000 in
theorem mk_rd_readName : MOK M_rd_readName 0 true := mOK_eq (pc := 3223) (pi := 1007) (p1 := 3222) (p2 := 21) (by decide +kernel)
set_option maxRecDepth 20000 in
theorem mk_rd_readSum : MOK M_rd_readSum 1 true := mOK_eq (pc := 3211) (pi := 1007) (p1 := 3210) (p2 := 18) (by decide +kernel)
set_option maxRecDepth 20000 in
theorem mk_rd_readProduct : MOK M_rd_readProduct 1 true := mOK_eq (pc := 3215) (pi := 1007) (p1 := 3214) (p2 := 19) (by decide +kernel)
set_option maxRecDepth 20000 in
theorem mk_rd_readOne : MOK M_rd_readOne 1 true := mOK_eq (pc := 3219) (pi := 1007) (p1 := 3218) (p2 := 20) (by decide +kernel)
set_option maxRecDepth 20000 in
theorem mk_rd_compares : MOK M_rd_compares 1 false := mOK_eq (pc := 3226) (pi := 1007) (p1 := 3225) (p2 := 0) (by decide +kernel)
set_option maxRecDepth 20000 in
theorem mk_rd_readAsk : MOK M_rd_readAsk 1 true := mOK_eq (pc := 3199) (pi := 1007) (p1 := 3198) (p2 := 16) (by decide +kernel)
set_option maxRecDepth 20000 in
theorem mk_rd_readEither : MOK M_rd_readEither 0 true := mOK_eq (pc := 3195) (pi := 1007) (p1 := 3194) (p2 := 15) (by decide +kernel)
set_option maxRecDepth 20000 in
theorem mk_rd_readRule : MOK M_rd_readRule 1 true := mOK_eq (pc := 3191) (pi := 1007) (p1 := 3190) (p2 := 14) (by decide +kernel)
set_option maxRecDepth 20000 in
theorem mk_rd_readTape : MOK M_rd_readTape 0 true := mOK_eq (pc := 3002) (pi := 1007) (p1 := 3000) (p2 := 3001) (by decide +kernel)
set_option maxRecDepth 20000 in
theorem mk_law_copyFrom : MOK M_law_copyFrom 1 true := mOK_eq (pc := 3230) (pi := 1008) (p1 := 3228) (p2 := 3229) (by decide +kernel)
set_option maxRecDepth 20000 in
theorem mk_x_text : MOK M_x_text 0 true := mOK_eq (pc := 2238) (pi := 1001) (p1 := 2236) (p2 := 2237) (by decide +kernel)
set_option maxRecDepth 20000 in
theorem mk_x_fault : MOK M_x_fault 1 true := mOK_eq (pc := 3238) (pi := 1001) (p1 := 3236) (p2 := 3237) (by decide +kernel)
set_option maxRecDepth 20000 in
theorem mk_x_by : MOK M_x_by 1 true := mOK_eq (pc := 4002) (pi := 1001) (p1 := 4000) (p2 := 4001) (by decide +kernel)
set_option maxRecDepth 20000 in
theorem mk_law_kindOf : MOK M_law_kindOf 1 true := mOK_eq (pc := 4010) (pi := 1008) (p1 := 4008) (p2 := 4009) (by decide +kernel)
set_option maxRecDepth 20000 in
theorem mk_law_fromOf : MOK M_law_fromOf 1 true := mOK_eq (pc := 4014) (pi := 1008) (p1 := 4012) (p2 := 4013) (by decide +kernel)
set_option maxRecDepth 20000 in
theorem mk_law_toOf : MOK M_law_toOf 1 true := mOK_eq (pc := 4018) (pi := 1008) (p1 := 4016) (p2 := 4017) (by decide +kernel)
set_option maxRecDepth 20000 in
theorem mk_world_hasPerson : MOK M_world_hasPerson 1 true := mOK_eq (pc := 4030) (pi := 1002) (p1 := 4028) (p2 := 4029) (by decide +kernel)
set_option maxRecDepth 20000 in
theorem mk_world_hasGate : MOK M_world_hasGate 1 true := mOK_eq (pc := 4034) (pi := 1002) (p1 := 4032) (p2 := 4033) (by decide +kernel)
set_option maxRecDepth 20000 in
theorem mk_town_nameOf : MOK M_town_nameOf 1 true := mOK_eq (pc := 4038) (pi := 1003) (p1 := 4036) (p2 := 4037) (by decide +kernel)
set_option maxRecDepth 20000 in
theorem mk_town_sizeOf : MOK M_town_sizeOf 1 true := mOK_eq (pc := 4042) (pi := 1003) (p1 := 4040) (p2 := 4041) (by decide +kernel)
set_option maxRecDepth 20000 in
theorem mk_go_ruling : MOK M_go_ruling 0 true := mOK_eq (pc := 4050) (pi := 1009) (p1 := 4049) (p2 := 23) (by decide +kernel)
set_option maxRecDepth 20000 in
theorem mk_go_tellGoing : MOK M_go_tellGoing 3 true := mOK_eq (pc := 4054) (pi := 1009) (p1 := 4053) (p2 := 24) (by decide +kernel)
set_option maxRecDepth 20000 in
theorem mk_law_codeAt : MOK M_law_codeAt 1 true := mOK_eq (pc := 4065) (pi := 1008) (p1 := 4063) (p2 := 4064) (by decide +kernel)
set_option maxRecDepth 20000 in
theorem mk_sums_worthOfBoth : MOK M_sums_worthOfBoth 3 false := mOK_eq (pc := 4069) (pi := 1010) (p1 := 4068) (p2 := 0) (by decide +kernel)
set_option maxRecDepth 20000 in
theorem mk_sums_worthOf : MOK M_sums_worthOf 2 true := mOK_eq (pc := 4059) (pi := 1010) (p1 := 4057) (p2 := 4058) (by decide +kernel)
set_option maxRecDepth 20000 in
theorem mk_go_isBarred : MOK M_go_isBarred 3 true := mOK_eq (pc := 4046) (pi := 1009) (p1 := 4045) (p2 := 22) (by decide +kernel)
set_option maxRecDepth 20000 in
theorem mk_go_canBe : MOK M_go_canBe 3 true := mOK_eq (pc := 4026) (pi := 1009) (p1 := 4024) (p2 := 4025) (by decide +kernel)
set_option maxRecDepth 20000 in
theorem mk_go_feeOf : MOK M_go_feeOf 3 true := mOK_eq (pc := 4081) (pi := 1009) (p1 := 4080) (p2 := 25) (by decide +kernel)
set_option maxRecDepth 20000 in
theorem mk_town_leave : MOK M_town_leave 2 true := mOK_eq (pc := 4087) (pi := 1003) (p1 := 4085) (p2 := 4086) (by decide +kernel)
set_option maxRecDepth 20000 in
theorem mk_world_draw : MOK M_world_draw 1 true := mOK_eq (pc := 4093) (pi := 1002) (p1 := 4091) (p2 := 4092) (by decide +kernel)
set_option maxRecDepth 20000 in
theorem mk_town_nameAt : MOK M_town_nameAt 2 true := mOK_eq (pc := 4101) (pi := 1003) (p1 := 4099) (p2 := 4100) (by decide +kernel)
set_option maxRecDepth 20000 in
theorem mk_go_placeFor : MOK M_go_placeFor 3 true := mOK_eq (pc := 4097) (pi := 1009) (p1 := 4095) (p2 := 4096) (by decide +kernel)
set_option maxRecDepth 20000 in
theorem mk_town_enter : MOK M_town_enter 3 true := mOK_eq (pc := 4105) (pi := 1003) (p1 := 4103) (p2 := 4104) (by decide +kernel)
set_option maxRecDepth 20000 in
theorem mk_go_doNow : MOK M_go_doNow 2 true := mOK_eq (pc := 4022) (pi := 1009) (p1 := 4020) (p2 := 4021) (by decide +kernel)
set_option maxRecDepth 20000 in
theorem mk_x_gone1 : MOK M_x_gone1 1 true := mOK_eq (pc := 4006) (pi := 1001) (p1 := 4004) (p2 := 4005) (by decide +kernel)
set_option maxRecDepth 20000 in
theorem mk_x_go : MOK M_x_go 2 true := mOK_eq (pc := 4110) (pi := 1001) (p1 := 4108) (p2 := 4109) (by decide +kernel)
set_option maxRecDepth 20000 in
theorem mk_tri_at : MOK M_tri_at 2 true := mOK_eq (pc := 4128) (pi := 1005) (p1 := 4126) (p2 := 4127) (by decide +kernel)
set_option maxRecDepth 20000 in
theorem mk_world_coinsWhere : MOK M_world_coinsWhere 2 true := mOK_eq (pc := 4124) (pi := 1002) (p1 := 4123) (p2 := 26) (by decide +kernel)
set_option maxRecDepth 20000 in
theorem mk_world_owedUnder : MOK M_world_owedUnder 1 true := mOK_eq (pc := 4120) (pi := 1002) (p1 := 4118) (p2 := 4119) (by decide +kernel)
set_option maxRecDepth 20000 in
theorem mk_world_didBy : MOK M_world_didBy 1 true := mOK_eq (pc := 4132) (pi := 1002) (p1 := 4130) (p2 := 4131) (by decide +kernel)
set_option maxRecDepth 20000 in
theorem mk_x_of : MOK M_x_of 2 true := mOK_eq (pc := 4114) (pi := 1001) (p1 := 4112) (p2 := 4113) (by decide +kernel)
set_option maxRecDepth 20000 in
theorem mk_x_isName : MOK M_x_isName 1 false := mOK_eq (pc := 4139) (pi := 1001) (p1 := 4138) (p2 := 0) (by decide +kernel)
set_option maxRecDepth 20000 in
theorem mk_town_holderOf : MOK M_town_holderOf 1 true := mOK_eq (pc := 4143) (pi := 1003) (p1 := 4141) (p2 := 4142) (by decide +kernel)
set_option maxRecDepth 20000 in
theorem mk_x_called : MOK M_x_called 1 true := mOK_eq (pc := 4136) (pi := 1001) (p1 := 4134) (p2 := 4135) (by decide +kernel)
set_option maxRecDepth 20000 in
theorem mk_x_heap : MOK M_x_heap 2 true := mOK_eq (pc := 4147) (pi := 1001) (p1 := 4145) (p2 := 4146) (by decide +kernel)
set_option maxRecDepth 20000 in
theorem mk_tri_add : MOK M_tri_add 3 true := mOK_eq (pc := 4158) (pi := 1005) (p1 := 4156) (p2 := 4157) (by decide +kernel)
set_option maxRecDepth 20000 in
theorem mk_x_deed : MOK M_x_deed 2 true := mOK_eq (pc := 4154) (pi := 1001) (p1 := 4152) (p2 := 4153) (by decide +kernel)
set_option maxRecDepth 20000 in
theorem mk_x_owes : MOK M_x_owes 1 true := mOK_eq (pc := 4162) (pi := 1001) (p1 := 4160) (p2 := 4161) (by decide +kernel)
set_option maxRecDepth 20000 in
theorem mk_x_row : MOK M_x_row 2 true := mOK_eq (pc := 4166) (pi := 1001) (p1 := 4164) (p2 := 4165) (by decide +kernel)
set_option maxRecDepth 20000 in
theorem mk_town_copyFrom : MOK M_town_copyFrom 1 true := mOK_eq (pc := 4178) (pi := 1003) (p1 := 4176) (p2 := 4177) (by decide +kernel)
set_option maxRecDepth 20000 in
theorem mk_go_doTried : MOK M_go_doTried 3 true := mOK_eq (pc := 4184) (pi := 1009) (p1 := 4182) (p2 := 4183) (by decide +kernel)
set_option maxRecDepth 20000 in
theorem mk_go_judgeRow : MOK M_go_judgeRow 0 true := mOK_eq (pc := 4174) (pi := 1009) (p1 := 4172) (p2 := 4173) (by decide +kernel)
set_option maxRecDepth 20000 in
theorem mk_x_judge : MOK M_x_judge 0 true := mOK_eq (pc := 4170) (pi := 1001) (p1 := 4168) (p2 := 4169) (by decide +kernel)
set_option maxRecDepth 20000 in
theorem mk_x_then : MOK M_x_then 1 true := mOK_eq (pc := 4188) (pi := 1001) (p1 := 4186) (p2 := 4187) (by decide +kernel)
set_option maxRecDepth 20000 in
theorem mk_x_isNameOrNone : MOK M_x_isNameOrNone 1 false := mOK_eq (pc := 4195) (pi := 1001) (p1 := 4194) (p2 := 0) (by decide +kernel)
set_option maxRecDepth 20000 in
theorem mk_odds_isOfLot : MOK M_odds_isOfLot 1 true := mOK_eq (pc := 4205) (pi := 1011) (p1 := 4204) (p2 := 27) (by decide +kernel)
set_option maxRecDepth 20000 in
theorem mk_odds_lotsOfRow : MOK M_odds_lotsOfRow 0 true := mOK_eq (pc := 4200) (pi := 1011) (p1 := 4198) (p2 := 4199) (by decide +kernel)
set_option maxRecDepth 20000 in
theorem mk_town_packed : MOK M_town_packed 0 true := mOK_eq (pc := 4227) (pi := 1003) (p1 := 4225) (p2 := 4226) (by decide +kernel)
set_option maxRecDepth 20000 in
theorem mk_town_unpack : MOK M_town_unpack 1 true := mOK_eq (pc := 4232) (pi := 1003) (p1 := 4230) (p2 := 4231) (by decide +kernel)
set_option maxRecDepth 20000 in
theorem mk_odds_sumFrom : MOK M_odds_sumFrom 2 true := mOK_eq (pc := 4216) (pi := 1011) (p1 := 4215) (p2 := 28) (by decide +kernel)
set_option maxRecDepth 20000 in
theorem mk_odds_sumOfLot : MOK M_odds_sumOfLot 2 true := mOK_eq (pc := 4221) (pi := 1011) (p1 := 4220) (p2 := 29) (by decide +kernel)
set_option maxRecDepth 20000 in
theorem mk_odds_commonDivisor : MOK M_odds_commonDivisor 2 false := mOK_eq (pc := 4236) (pi := 1011) (p1 := 4235) (p2 := 0) (by decide +kernel)
set_option maxRecDepth 20000 in
theorem mk_odds_reckon : MOK M_odds_reckon 2 true := mOK_eq (pc := 4210) (pi := 1011) (p1 := 4208) (p2 := 4209) (by decide +kernel)
set_option maxRecDepth 20000 in
theorem mk_x_chance : MOK M_x_chance 3 true := mOK_eq (pc := 4192) (pi := 1001) (p1 := 4190) (p2 := 4191) (by decide +kernel)
set_option maxRecDepth 20000 in
theorem mk_ways_isLost : MOK M_ways_isLost 1 true := mOK_eq (pc := 5009) (pi := 1012) (p1 := 5008) (p2 := 30) (by decide +kernel)
set_option maxRecDepth 20000 in
theorem mk_ways_hasLost : MOK M_ways_hasLost 0 true := mOK_eq (pc := 5005) (pi := 1012) (p1 := 5003) (p2 := 5004) (by decide +kernel)
set_option maxRecDepth 20000 in
theorem mk_x_line : MOK M_x_line 3 true := mOK_eq (pc := 5001) (pi := 1001) (p1 := 4239) (p2 := 5000) (by decide +kernel)
set_option maxRecDepth 20000 in
theorem mk_ways_tellPlace : MOK M_ways_tellPlace 2 true := mOK_eq (pc := 5033) (pi := 1012) (p1 := 5032) (p2 := 33) (by decide +kernel)
set_option maxRecDepth 20000 in
theorem mk_ways_tellEnd : MOK M_ways_tellEnd 0 true := mOK_eq (pc := 5028) (pi := 1012) (p1 := 5027) (p2 := 32) (by decide +kernel)
set_option maxRecDepth 20000 in
theorem mk_ways_mayBeOf : MOK M_ways_mayBeOf 2 true := mOK_eq (pc := 5044) (pi := 1012) (p1 := 5043) (p2 := 35) (by decide +kernel)
set_option maxRecDepth 20000 in
theorem mk_ways_follow : MOK M_ways_follow 1 true := mOK_eq (pc := 5024) (pi := 1012) (p1 := 5023) (p2 := 31) (by decide +kernel)
set_option maxRecDepth 20000 in
theorem mk_ways_followGoing : MOK M_ways_followGoing 3 true := mOK_eq (pc := 5040) (pi := 1012) (p1 := 5039) (p2 := 34) (by decide +kernel)
set_option maxRecDepth 20000 in
theorem mk_ways_followIn : MOK M_ways_followIn 4 true := mOK_eq (pc := 5052) (pi := 1012) (p1 := 5051) (p2 := 36) (by decide +kernel)
set_option maxRecDepth 20000 in
theorem mk_ways_reckon : MOK M_ways_reckon 0 true := mOK_eq (pc := 5018) (pi := 1012) (p1 := 5016) (p2 := 5017) (by decide +kernel)
set_option maxRecDepth 20000 in
theorem mk_x_ways : MOK M_x_ways 0 true := mOK_eq (pc := 5014) (pi := 1001) (p1 := 5012) (p2 := 5013) (by decide +kernel)
set_option maxRecDepth 20000 in
theorem mk_x_may : MOK M_x_may 1 true := mOK_eq (pc := 5058) (pi := 1001) (p1 := 5056) (p2 := 5057) (by decide +kernel)
set_option maxRecDepth 20000 in
theorem mk_ways_greatestPart : MOK M_ways_greatestPart 1 true := mOK_eq (pc := 5070) (pi := 1012) (p1 := 5068) (p2 := 5069) (by decide +kernel)
set_option maxRecDepth 20000 in
theorem mk_ways_whomToLookAt : MOK M_ways_whomToLookAt 0 true := mOK_eq (pc := 5066) (pi := 1012) (p1 := 5064) (p2 := 5065) (by decide +kernel)
set_option maxRecDepth 20000 in
theorem mk_x_ask : MOK M_x_ask 1 true := mOK_eq (pc := 5062) (pi := 1001) (p1 := 5060) (p2 := 5061) (by decide +kernel)
set_option maxRecDepth 20000 in
theorem mk_srch_wantNothing : MOK M_srch_wantNothing 0 true := mOK_eq (pc := 5084) (pi := 1013) (p1 := 5082) (p2 := 5083) (by decide +kernel)
set_option maxRecDepth 20000 in
theorem mk_srch_want : MOK M_srch_want 2 true := mOK_eq (pc := 5089) (pi := 1013) (p1 := 5087) (p2 := 5088) (by decide +kernel)
set_option maxRecDepth 20000 in
theorem mk_world_isInside : MOK M_world_isInside 1 true := mOK_eq (pc := 5093) (pi := 1002) (p1 := 5091) (p2 := 5092) (by decide +kernel)
set_option maxRecDepth 20000 in
theorem mk_x_setGoal : MOK M_x_setGoal 3 true := mOK_eq (pc := 5080) (pi := 1001) (p1 := 5079) (p2 := 37) (by decide +kernel)
set_option maxRecDepth 20000 in
theorem mk_srch_slotOf : MOK M_srch_slotOf 1 true := mOK_eq (pc := 5109) (pi := 1013) (p1 := 5108) (p2 := 39) (by decide +kernel)
set_option maxRecDepth 20000 in
theorem mk_srch_add : MOK M_srch_add 2 true := mOK_eq (pc := 5105) (pi := 1013) (p1 := 5104) (p2 := 38) (by decide +kernel)
set_option maxRecDepth 20000 in
theorem mk_srch_isAsWanted : MOK M_srch_isAsWanted 0 true := mOK_eq (pc := 5114) (pi := 1013) (p1 := 5113) (p2 := 40) (by decide +kernel)
set_option maxRecDepth 20000 in
theorem mk_srch_goOnFrom : MOK M_srch_goOnFrom 2 true := mOK_eq (pc := 5119) (pi := 1013) (p1 := 5118) (p2 := 41) (by decide +kernel)
set_option maxRecDepth 20000 in
theorem mk_srch_find : MOK M_srch_find 1 true := mOK_eq (pc := 5099) (pi := 1013) (p1 := 5097) (p2 := 5098) (by decide +kernel)
set_option maxRecDepth 20000 in
theorem mk_srch_lengthOf : MOK M_srch_lengthOf 1 true := mOK_eq (pc := 5125) (pi := 1013) (p1 := 5123) (p2 := 5124) (by decide +kernel)
set_option maxRecDepth 20000 in
theorem mk_srch_goingOf : MOK M_srch_goingOf 2 true := mOK_eq (pc := 5129) (pi := 1013) (p1 := 5127) (p2 := 5128) (by decide +kernel)
set_option maxRecDepth 20000 in
theorem mk_x_fewest : MOK M_x_fewest 5 true := mOK_eq (pc := 5076) (pi := 1001) (p1 := 5074) (p2 := 5075) (by decide +kernel)
set_option maxRecDepth 20000 in
theorem mk_x_third : MOK M_x_third 2 true := mOK_eq (pc := 5134) (pi := 1001) (p1 := 5132) (p2 := 5133) (by decide +kernel)
set_option maxRecDepth 20000 in
theorem mk_world_countInside : MOK M_world_countInside 0 true := mOK_eq (pc := 5142) (pi := 1002) (p1 := 5140) (p2 := 5141) (by decide +kernel)
set_option maxRecDepth 20000 in
theorem mk_crw_countFrom : MOK M_crw_countFrom 2 true := mOK_eq (pc := 5153) (pi := 1014) (p1 := 5152) (p2 := 42) (by decide +kernel)
set_option maxRecDepth 20000 in
theorem mk_crw_countOrders : MOK M_crw_countOrders 3 true := mOK_eq (pc := 5147) (pi := 1014) (p1 := 5145) (p2 := 5146) (by decide +kernel)
set_option maxRecDepth 20000 in
theorem mk_x_left : MOK M_x_left 3 true := mOK_eq (pc := 5138) (pi := 1001) (p1 := 5136) (p2 := 5137) (by decide +kernel)
set_option maxRecDepth 20000 in
theorem mk_crw_lesser : MOK M_crw_lesser 2 false := mOK_eq (pc := 5173) (pi := 1014) (p1 := 5172) (p2 := 0) (by decide +kernel)
set_option maxRecDepth 20000 in
theorem mk_crw_leastFrom : MOK M_crw_leastFrom 2 true := mOK_eq (pc := 5169) (pi := 1014) (p1 := 5168) (p2 := 43) (by decide +kernel)
set_option maxRecDepth 20000 in
theorem mk_crw_leastOwed : MOK M_crw_leastOwed 2 true := mOK_eq (pc := 5165) (pi := 1014) (p1 := 5163) (p2 := 5164) (by decide +kernel)
set_option maxRecDepth 20000 in
theorem mk_x_thief : MOK M_x_thief 2 true := mOK_eq (pc := 5161) (pi := 1001) (p1 := 5159) (p2 := 5160) (by decide +kernel)
set_option maxRecDepth 20000 in
theorem mk_world_sow : MOK M_world_sow 1 true := mOK_eq (pc := 5183) (pi := 1002) (p1 := 5181) (p2 := 5182) (by decide +kernel)
set_option maxRecDepth 20000 in
theorem mk_x_seed : MOK M_x_seed 1 true := mOK_eq (pc := 5179) (pi := 1001) (p1 := 5177) (p2 := 5178) (by decide +kernel)
set_option maxRecDepth 20000 in
theorem mk_x_days : MOK M_x_days 1 true := mOK_eq (pc := 5187) (pi := 1001) (p1 := 5185) (p2 := 5186) (by decide +kernel)
set_option maxRecDepth 20000 in
theorem mk_tri_copyFrom : MOK M_tri_copyFrom 1 true := mOK_eq (pc := 5202) (pi := 1005) (p1 := 5200) (p2 := 5201) (by decide +kernel)
set_option maxRecDepth 20000 in
theorem mk_world_copyFrom : MOK M_world_copyFrom 1 true := mOK_eq (pc := 5196) (pi := 1002) (p1 := 5194) (p2 := 5195) (by decide +kernel)
set_option maxRecDepth 20000 in
theorem mk_x_image : MOK M_x_image 0 true := mOK_eq (pc := 5192) (pi := 1001) (p1 := 5190) (p2 := 5191) (by decide +kernel)
set_option maxRecDepth 20000 in
theorem mk_x_back : MOK M_x_back 0 true := mOK_eq (pc := 5208) (pi := 1001) (p1 := 5206) (p2 := 5207) (by decide +kernel)
set_option maxRecDepth 20000 in
theorem mk_x_about : MOK M_x_about 1 true := mOK_eq (pc := 5212) (pi := 1001) (p1 := 5210) (p2 := 5211) (by decide +kernel)
set_option maxRecDepth 20000 in
theorem cpW_ok : cpW := ⟨wdOK_mem (i := 3233) (by decide +kernel), wdOK_mem (i := 3232) (by decide +kernel), wdOK_mem (i := 1021) (by decide +kernel)⟩
set_option maxRecDepth 20000 in
theorem lc_2_37 : Jvm.Cond.methodLink "LastName$Law" 37 arraycopyName ∈ ALLW := wdOK_mem (i := 3231) (by decide +kernel)
set_option maxRecDepth 20000 in
theorem lc_7_29 : Jvm.Cond.methodLink "LastName$Town" 29 arraycopyName ∈ ALLW := wdOK_mem (i := 4179) (by decide +kernel)
set_option maxRecDepth 20000 in
theorem lc_8_28 : Jvm.Cond.methodLink "LastName$Triples" 28 arraycopyName ∈ ALLW := wdOK_mem (i := 5204) (by decide +kernel)
set_option maxRecDepth 20000 in
theorem lc_10_66 : Jvm.Cond.methodLink "LastName$World" 66 arraycopyName ∈ ALLW := wdOK_mem (i := 5197) (by decide +kernel)
set_option maxRecDepth 20000 in
theorem lk_10_79 : LK "LastName$World" 79 ⟨"LastName$Town", "nameAtBirth", "(II)V"⟩ false := LK_p 2207 (by decide +kernel)
set_option maxRecDepth 20000 in
theorem lk_11_72 : LK "LastName" 72 ⟨"LastName$World", "addPerson", "(Z)I"⟩ false := LK_p 2203 (by decide +kernel)
set_option maxRecDepth 20000 in
theorem lk_11_76 : LK "LastName" 76 ⟨"LastName$World", "addGate", "(Z)I"⟩ false := LK_p 2215 (by decide +kernel)
set_option maxRecDepth 20000 in
theorem lk_11_86 : LK "LastName" 86 ⟨"LastName$Reader", "addFour", "(I)V"⟩ false := LK_p 2227 (by decide +kernel)
set_option maxRecDepth 20000 in
theorem lk_4_77 : LK "LastName$Reader" 77 ⟨"LastName$Reader", "byteAt", "(I)I"⟩ false := LK_p 3007 (by decide +kernel)
set_option maxRecDepth 20000 in
theorem lk_4_92 : LK "LastName$Reader" 92 ⟨"LastName$Reader", "isDigit", "(I)Z"⟩ false := LK_p 3021 (by decide +kernel)
set_option maxRecDepth 20000 in
theorem lk_4_102 : LK "LastName$Reader" 102 ⟨"LastName$Reader", "isLetter", "(I)Z"⟩ false := LK_p 3018 (by decide +kernel)
set_option maxRecDepth 20000 in
theorem lk_4_123 : LK "LastName$Reader" 123 ⟨"LastName$Reader", "isWordAt", "(III)Z"⟩ false := LK_p 3081 (by decide +kernel)
set_option maxRecDepth 20000 in
theorem lk_4_105 : LK "LastName$Reader" 105 ⟨"LastName$Reader", "kindOfWord", "(II)I"⟩ false := LK_p 3028 (by decide +kernel)
set_option maxRecDepth 20000 in
theorem lk_4_127 : LK "LastName$Reader" 127 ⟨"java/lang/Math", "min", "(II)I"⟩ false := LK_p 3147 (by decide +kernel)
set_option maxRecDepth 20000 in
theorem lk_4_98 : LK "LastName$Reader" 98 ⟨"LastName$Reader", "addToken", "(III)V"⟩ false := LK_p 3148 (by decide +kernel)
set_option maxRecDepth 20000 in
theorem lk_4_95 : LK "LastName$Reader" 95 ⟨"LastName$Reader", "numberOf", "(II)I"⟩ false := LK_p 3143 (by decide +kernel)
set_option maxRecDepth 20000 in
theorem lk_4_88 : LK "LastName$Reader" 88 ⟨"LastName$Reader", "kindOfToken", "(II)I"⟩ false := LK_p 3024 (by decide +kernel)
set_option maxRecDepth 20000 in
theorem lk_4_85 : LK "LastName$Reader" 85 ⟨"LastName$Reader", "endOfToken", "(I)I"⟩ false := LK_p 3014 (by decide +kernel)
set_option maxRecDepth 20000 in
theorem lk_4_81 : LK "LastName$Reader" 81 ⟨"LastName$Reader", "isBlank", "(I)Z"⟩ false := LK_p 3011 (by decide +kernel)
set_option maxRecDepth 20000 in
theorem lk_4_132 : LK "LastName$Reader" 132 ⟨"LastName$Law", "hasAlready", "(I)Z"⟩ false := LK_p 3160 (by decide +kernel)
set_option maxRecDepth 20000 in
theorem lk_4_138 : LK "LastName$Reader" 138 ⟨"LastName$Reader", "step", "()V"⟩ false := LK_p 3172 (by decide +kernel)
set_option maxRecDepth 20000 in
theorem lk_4_67 : LK "LastName$Reader" 67 ⟨"LastName$Reader", "fail", "(I)V"⟩ false := LK_p 3164 (by decide +kernel)
set_option maxRecDepth 20000 in
theorem lk_4_147 : LK "LastName$Reader" 147 ⟨"LastName$Law", "addClause", "(III)V"⟩ false := LK_p 3184 (by decide +kernel)
set_option maxRecDepth 20000 in
theorem lk_4_144 : LK "LastName$Reader" 144 ⟨"LastName$Reader", "expect", "(I)V"⟩ false := LK_p 3180 (by decide +kernel)
set_option maxRecDepth 20000 in
theorem lk_4_141 : LK "LastName$Reader" 141 ⟨"LastName$Reader", "readNumber", "(I)I"⟩ false := LK_p 3176 (by decide +kernel)
set_option maxRecDepth 20000 in
theorem lk_4_162 : LK "LastName$Reader" 162 ⟨"LastName$Law", "emit", "(I)V"⟩ false := LK_p 3204 (by decide +kernel)
set_option maxRecDepth 20000 in
theorem lk_4_171 : LK "LastName$Reader" 171 ⟨"LastName$Reader", "readProduct", "(I)V"⟩ false := LK_p 3212 (by decide +kernel)
set_option maxRecDepth 20000 in
theorem lk_4_174 : LK "LastName$Reader" 174 ⟨"LastName$Reader", "readOne", "(I)V"⟩ false := LK_p 3216 (by decide +kernel)
set_option maxRecDepth 20000 in
theorem lk_4_177 : LK "LastName$Reader" 177 ⟨"LastName$Reader", "readName", "()V"⟩ false := LK_p 3220 (by decide +kernel)
set_option maxRecDepth 20000 in
theorem lk_4_165 : LK "LastName$Reader" 165 ⟨"LastName$Reader", "opens", "(I)Z"⟩ false := LK_p 3200 (by decide +kernel)
set_option maxRecDepth 20000 in
theorem lk_4_156 : LK "LastName$Reader" 156 ⟨"LastName$Reader", "readSum", "(I)V"⟩ false := LK_p 3208 (by decide +kernel)
set_option maxRecDepth 20000 in
theorem lk_4_168 : LK "LastName$Reader" 168 ⟨"LastName$Reader", "compares", "(I)Z"⟩ false := LK_p 3224 (by decide +kernel)
set_option maxRecDepth 20000 in
theorem lk_4_159 : LK "LastName$Reader" 159 ⟨"LastName$Reader", "readAsk", "(I)V"⟩ false := LK_p 3196 (by decide +kernel)
set_option maxRecDepth 20000 in
theorem lk_4_153 : LK "LastName$Reader" 153 ⟨"LastName$Reader", "readEither", "()V"⟩ false := LK_p 3192 (by decide +kernel)
set_option maxRecDepth 20000 in
theorem lk_4_74 : LK "LastName$Reader" 74 ⟨"LastName$Reader", "readRule", "(I)V"⟩ false := LK_p 3188 (by decide +kernel)
set_option maxRecDepth 20000 in
theorem lk_4_71 : LK "LastName$Reader" 71 ⟨"LastName$Reader", "readGo", "()V"⟩ false := LK_p 3168 (by decide +kernel)
set_option maxRecDepth 20000 in
theorem lk_4_63 : LK "LastName$Reader" 63 ⟨"LastName$Reader", "faultOfClause", "()I"⟩ false := LK_p 3156 (by decide +kernel)
set_option maxRecDepth 20000 in
theorem lk_4_60 : LK "LastName$Reader" 60 ⟨"LastName$Law", "clear", "()V"⟩ false := LK_p 3152 (by decide +kernel)
set_option maxRecDepth 20000 in
theorem lk_4_57 : LK "LastName$Reader" 57 ⟨"LastName$Reader", "split", "()V"⟩ false := LK_p 3003 (by decide +kernel)
set_option maxRecDepth 20000 in
theorem lk_11_101 : LK "LastName" 101 ⟨"LastName$Law", "copyFrom", "(LLastName$Law;)V"⟩ false := LK_p 3227 (by decide +kernel)
set_option maxRecDepth 20000 in
theorem lk_11_93 : LK "LastName" 93 ⟨"LastName$Reader", "readTape", "()Z"⟩ false := LK_p 2239 (by decide +kernel)
set_option maxRecDepth 20000 in
theorem lk_1_50 : LK "LastName$Goings" 50 ⟨"LastName$Town", "sizeOf", "(I)I"⟩ false := LK_p 4039 (by decide +kernel)
set_option maxRecDepth 20000 in
theorem lk_1_46 : LK "LastName$Goings" 46 ⟨"LastName$Town", "nameOf", "(I)I"⟩ false := LK_p 4035 (by decide +kernel)
set_option maxRecDepth 20000 in
theorem lk_6_30 : LK "LastName$Sums" 30 ⟨"java/lang/Math", "max", "(II)I"⟩ false := LK_p 4066 (by decide +kernel)
set_option maxRecDepth 20000 in
theorem lk_6_48 : LK "LastName$Sums" 48 ⟨"java/lang/Math", "max", "(JJ)J"⟩ false := LK_p 4075 (by decide +kernel)
set_option maxRecDepth 20000 in
theorem lk_6_44 : LK "LastName$Sums" 44 ⟨"java/lang/Math", "min", "(JJ)J"⟩ false := LK_p 4072 (by decide +kernel)
set_option maxRecDepth 20000 in
theorem lk_6_36 : LK "LastName$Sums" 36 ⟨"LastName$Sums", "worthOfBoth", "(IJJ)J"⟩ false := LK_p 4067 (by decide +kernel)
set_option maxRecDepth 20000 in
theorem lk_6_27 : LK "LastName$Sums" 27 ⟨"LastName$Law", "codeAt", "(I)I"⟩ false := LK_p 4062 (by decide +kernel)
set_option maxRecDepth 20000 in
theorem lk_6_24 : LK "LastName$Sums" 24 ⟨"LastName$Law", "fromOf", "(I)I"⟩ false := LK_p 4061 (by decide +kernel)
set_option maxRecDepth 20000 in
theorem lk_6_18 : LK "LastName$Sums" 18 ⟨"LastName$Law", "toOf", "(I)I"⟩ false := LK_p 4060 (by decide +kernel)
set_option maxRecDepth 20000 in
theorem lk_1_57 : LK "LastName$Goings" 57 ⟨"LastName$Goings", "ruling", "()LLastName$Law;"⟩ false := LK_p 4047 (by decide +kernel)
set_option maxRecDepth 20000 in
theorem lk_1_72 : LK "LastName$Goings" 72 ⟨"LastName$Sums", "worthOf", "(LLastName$Law;I)I"⟩ false := LK_p 4056 (by decide +kernel)
set_option maxRecDepth 20000 in
theorem lk_1_69 : LK "LastName$Goings" 69 ⟨"LastName$Law", "kindOf", "(I)I"⟩ false := LK_p 4055 (by decide +kernel)
set_option maxRecDepth 20000 in
theorem lk_1_60 : LK "LastName$Goings" 60 ⟨"LastName$Goings", "tellGoing", "(LLastName$Town;II)V"⟩ false := LK_p 4051 (by decide +kernel)
set_option maxRecDepth 20000 in
theorem lk_1_53 : LK "LastName$Goings" 53 ⟨"LastName$Goings", "isBarred", "(LLastName$Town;II)Z"⟩ false := LK_p 4043 (by decide +kernel)
set_option maxRecDepth 20000 in
theorem lk_1_43 : LK "LastName$Goings" 43 ⟨"LastName$World", "hasGate", "(I)Z"⟩ false := LK_p 4031 (by decide +kernel)
set_option maxRecDepth 20000 in
theorem lk_1_39 : LK "LastName$Goings" 39 ⟨"LastName$World", "hasPerson", "(I)Z"⟩ false := LK_p 4027 (by decide +kernel)
set_option maxRecDepth 20000 in
theorem lk_1_85 : LK "LastName$Goings" 85 ⟨"java/lang/Math", "max", "(II)I"⟩ false := LK_p 4083 (by decide +kernel)
set_option maxRecDepth 20000 in
theorem lk_1_79 : LK "LastName$Goings" 79 ⟨"java/lang/Math", "min", "(II)I"⟩ false := LK_p 4082 (by decide +kernel)
set_option maxRecDepth 20000 in
theorem lk_7_35 : LK "LastName$Town" 35 ⟨"LastName$Town", "sizeOf", "(I)I"⟩ false := LK_p 4089 (by decide +kernel)
set_option maxRecDepth 20000 in
theorem lk_7_39 : LK "LastName$Town" 39 ⟨"LastName$Town", "nameOf", "(I)I"⟩ false := LK_p 4088 (by decide +kernel)
set_option maxRecDepth 20000 in
theorem lk_1_91 : LK "LastName$Goings" 91 ⟨"LastName$Town", "nameAt", "(II)I"⟩ false := LK_p 4098 (by decide +kernel)
set_option maxRecDepth 20000 in
theorem lk_7_42 : LK "LastName$Town" 42 ⟨"LastName$Town", "nameAt", "(II)I"⟩ false := LK_p 4106 (by decide +kernel)
set_option maxRecDepth 20000 in
theorem lk_1_133 : LK "LastName$Goings" 133 ⟨"LastName$Town", "enter", "(III)I"⟩ false := LK_p 4102 (by decide +kernel)
set_option maxRecDepth 20000 in
theorem lk_1_130 : LK "LastName$Goings" 130 ⟨"LastName$Goings", "placeFor", "(LLastName$Town;II)I"⟩ false := LK_p 4094 (by decide +kernel)
set_option maxRecDepth 20000 in
theorem lk_1_127 : LK "LastName$Goings" 127 ⟨"LastName$World", "draw", "(I)I"⟩ false := LK_p 4090 (by decide +kernel)
set_option maxRecDepth 20000 in
theorem lk_1_121 : LK "LastName$Goings" 121 ⟨"LastName$Town", "leave", "(II)I"⟩ false := LK_p 4084 (by decide +kernel)
set_option maxRecDepth 20000 in
theorem lk_1_114 : LK "LastName$Goings" 114 ⟨"LastName$Goings", "feeOf", "(LLastName$Town;II)I"⟩ false := LK_p 4078 (by decide +kernel)
set_option maxRecDepth 20000 in
theorem lk_1_108 : LK "LastName$Goings" 108 ⟨"LastName$Goings", "canBe", "(LLastName$Town;II)Z"⟩ false := LK_p 4023 (by decide +kernel)
set_option maxRecDepth 20000 in
theorem lk_11_131 : LK "LastName" 131 ⟨"LastName$Goings", "doNow", "(II)I"⟩ false := LK_p 4019 (by decide +kernel)
set_option maxRecDepth 20000 in
theorem lk_11_128 : LK "LastName" 128 ⟨"LastName$Law", "toOf", "(I)I"⟩ false := LK_p 4015 (by decide +kernel)
set_option maxRecDepth 20000 in
theorem lk_11_125 : LK "LastName" 125 ⟨"LastName$Law", "fromOf", "(I)I"⟩ false := LK_p 4011 (by decide +kernel)
set_option maxRecDepth 20000 in
theorem lk_11_121 : LK "LastName" 121 ⟨"LastName$Law", "kindOf", "(I)I"⟩ false := LK_p 4007 (by decide +kernel)
set_option maxRecDepth 20000 in
theorem lk_10_101 : LK "LastName$World" 101 ⟨"LastName$Triples", "at", "(II)I"⟩ false := LK_p 4125 (by decide +kernel)
set_option maxRecDepth 20000 in
theorem lk_10_94 : LK "LastName$World" 94 ⟨"LastName$World", "coinsWhere", "(II)I"⟩ false := LK_p 4121 (by decide +kernel)
set_option maxRecDepth 20000 in
theorem lk_11_158 : LK "LastName" 158 ⟨"LastName$World", "didBy", "(I)I"⟩ false := LK_p 4129 (by decide +kernel)
set_option maxRecDepth 20000 in
theorem lk_11_155 : LK "LastName" 155 ⟨"LastName$World", "owedUnder", "(I)I"⟩ false := LK_p 4117 (by decide +kernel)
set_option maxRecDepth 20000 in
theorem lk_11_143 : LK "LastName" 143 ⟨"LastName$Town", "nameOf", "(I)I"⟩ false := LK_p 4116 (by decide +kernel)
set_option maxRecDepth 20000 in
theorem lk_11_135 : LK "LastName" 135 ⟨"LastName$World", "hasPerson", "(I)Z"⟩ false := LK_p 4115 (by decide +kernel)
set_option maxRecDepth 20000 in
theorem lk_11_168 : LK "LastName" 168 ⟨"LastName$Town", "holderOf", "(I)I"⟩ false := LK_p 4140 (by decide +kernel)
set_option maxRecDepth 20000 in
theorem lk_11_165 : LK "LastName" 165 ⟨"LastName", "isName", "(I)Z"⟩ false := LK_p 4137 (by decide +kernel)
set_option maxRecDepth 20000 in
theorem lk_11_177 : LK "LastName" 177 ⟨"LastName$Town", "nameAt", "(II)I"⟩ false := LK_p 4150 (by decide +kernel)
set_option maxRecDepth 20000 in
theorem lk_11_174 : LK "LastName" 174 ⟨"LastName$Town", "sizeOf", "(I)I"⟩ false := LK_p 4149 (by decide +kernel)
set_option maxRecDepth 20000 in
theorem lk_11_171 : LK "LastName" 171 ⟨"LastName$World", "hasGate", "(I)Z"⟩ false := LK_p 4148 (by decide +kernel)
set_option maxRecDepth 20000 in
theorem lk_11_184 : LK "LastName" 184 ⟨"LastName$Triples", "add", "(III)I"⟩ false := LK_p 4155 (by decide +kernel)
set_option maxRecDepth 20000 in
theorem lk_1_151 : LK "LastName$Goings" 151 ⟨"LastName$Goings", "doTried", "(LLastName$Town;II)I"⟩ false := LK_p 4181 (by decide +kernel)
set_option maxRecDepth 20000 in
theorem lk_1_148 : LK "LastName$Goings" 148 ⟨"LastName$Triples", "at", "(II)I"⟩ false := LK_p 4180 (by decide +kernel)
set_option maxRecDepth 20000 in
theorem lk_1_137 : LK "LastName$Goings" 137 ⟨"LastName$Town", "copyFrom", "(LLastName$Town;)V"⟩ false := LK_p 4175 (by decide +kernel)
set_option maxRecDepth 20000 in
theorem lk_11_194 : LK "LastName" 194 ⟨"LastName$Goings", "judgeRow", "()I"⟩ false := LK_p 4171 (by decide +kernel)
set_option maxRecDepth 20000 in
theorem lk_3_59 : LK "LastName$Odds" 59 ⟨"LastName$World", "hasGate", "(I)Z"⟩ false := LK_p 4206 (by decide +kernel)
set_option maxRecDepth 20000 in
theorem lk_3_55 : LK "LastName$Odds" 55 ⟨"LastName$Odds", "isOfLot", "(I)Z"⟩ false := LK_p 4202 (by decide +kernel)
set_option maxRecDepth 20000 in
theorem lk_3_51 : LK "LastName$Odds" 51 ⟨"LastName$Triples", "at", "(II)I"⟩ false := LK_p 4201 (by decide +kernel)
set_option maxRecDepth 20000 in
theorem lk_7_23 : LK "LastName$Town" 23 ⟨"java/util/Arrays", "fill", "([II)V"⟩ false := LK_p 1044 (by decide +kernel)
set_option maxRecDepth 20000 in
theorem lk_3_86 : LK "LastName$Odds" 86 ⟨"LastName$Town", "nameOf", "(I)I"⟩ false := LK_p 4217 (by decide +kernel)
set_option maxRecDepth 20000 in
theorem lk_3_73 : LK "LastName$Odds" 73 ⟨"LastName$Odds", "sumFrom", "(IJ)J"⟩ false := LK_p 4213 (by decide +kernel)
set_option maxRecDepth 20000 in
theorem lk_3_93 : LK "LastName$Odds" 93 ⟨"LastName$Goings", "doTried", "(LLastName$Town;II)I"⟩ false := LK_p 4233 (by decide +kernel)
set_option maxRecDepth 20000 in
theorem lk_3_90 : LK "LastName$Odds" 90 ⟨"LastName$Odds", "sumOfLot", "(IJ)J"⟩ false := LK_p 4218 (by decide +kernel)
set_option maxRecDepth 20000 in
theorem lk_3_114 : LK "LastName$Odds" 114 ⟨"LastName$Town", "unpack", "(J)V"⟩ false := LK_p 4229 (by decide +kernel)
set_option maxRecDepth 20000 in
theorem lk_3_110 : LK "LastName$Odds" 110 ⟨"LastName$Town", "enter", "(III)I"⟩ false := LK_p 4228 (by decide +kernel)
set_option maxRecDepth 20000 in
theorem lk_3_106 : LK "LastName$Odds" 106 ⟨"LastName$Town", "packed", "()J"⟩ false := LK_p 4224 (by decide +kernel)
set_option maxRecDepth 20000 in
theorem lk_3_102 : LK "LastName$Odds" 102 ⟨"LastName$Goings", "canBe", "(LLastName$Town;II)Z"⟩ false := LK_p 4223 (by decide +kernel)
set_option maxRecDepth 20000 in
theorem lk_3_99 : LK "LastName$Odds" 99 ⟨"LastName$Town", "sizeOf", "(I)I"⟩ false := LK_p 4222 (by decide +kernel)
set_option maxRecDepth 20000 in
theorem lk_3_81 : LK "LastName$Odds" 81 ⟨"java/lang/Math", "max", "(JJ)J"⟩ false := LK_p 4237 (by decide +kernel)
set_option maxRecDepth 20000 in
theorem lk_3_77 : LK "LastName$Odds" 77 ⟨"LastName$Odds", "commonDivisor", "(JJ)J"⟩ false := LK_p 4234 (by decide +kernel)
set_option maxRecDepth 20000 in
theorem lk_3_67 : LK "LastName$Odds" 67 ⟨"LastName$Town", "copyFrom", "(LLastName$Town;)V"⟩ false := LK_p 4211 (by decide +kernel)
set_option maxRecDepth 20000 in
theorem lk_11_209 : LK "LastName" 209 ⟨"LastName$Odds", "reckon", "(II)V"⟩ false := LK_p 4207 (by decide +kernel)
set_option maxRecDepth 20000 in
theorem lk_11_206 : LK "LastName" 206 ⟨"LastName$Odds", "lotsOfRow", "()I"⟩ false := LK_p 4197 (by decide +kernel)
set_option maxRecDepth 20000 in
theorem lk_11_201 : LK "LastName" 201 ⟨"LastName", "isNameOrNone", "(I)Z"⟩ false := LK_p 4193 (by decide +kernel)
set_option maxRecDepth 20000 in
theorem lk_9_54 : LK "LastName$Ways" 54 ⟨"LastName$Triples", "at", "(II)I"⟩ false := LK_p 5010 (by decide +kernel)
set_option maxRecDepth 20000 in
theorem lk_9_50 : LK "LastName$Ways" 50 ⟨"LastName$Ways", "isLost", "(I)Z"⟩ false := LK_p 5006 (by decide +kernel)
set_option maxRecDepth 20000 in
theorem lk_11_222 : LK "LastName" 222 ⟨"LastName$Ways", "hasLost", "()Z"⟩ false := LK_p 5002 (by decide +kernel)
set_option maxRecDepth 20000 in
theorem lk_9_137 : LK "LastName$Ways" 137 ⟨"LastName", "isName", "(I)Z"⟩ true := LK_n 5034 (by decide +kernel)
set_option maxRecDepth 20000 in
theorem lk_9_133 : LK "LastName$Ways" 133 ⟨"LastName$Ways", "tellPlace", "(II)V"⟩ false := LK_p 5030 (by decide +kernel)
set_option maxRecDepth 20000 in
theorem lk_9_96 : LK "LastName$Ways" 96 ⟨"LastName$Town", "nameOf", "(I)I"⟩ false := LK_p 5029 (by decide +kernel)
set_option maxRecDepth 20000 in
theorem lk_9_126 : LK "LastName$Ways" 126 ⟨"LastName$Town", "nameAt", "(II)I"⟩ false := LK_p 5036 (by decide +kernel)
set_option maxRecDepth 20000 in
theorem lk_9_115 : LK "LastName$Ways" 115 ⟨"LastName$Town", "sizeOf", "(I)I"⟩ false := LK_p 5035 (by decide +kernel)
set_option maxRecDepth 20000 in
theorem lk_9_73 : LK "LastName$Ways" 73 ⟨"LastName$Ways", "tellEnd", "()V"⟩ false := LK_p 5025 (by decide +kernel)
set_option maxRecDepth 20000 in
theorem lk_9_82 : LK "LastName$Ways" 82 ⟨"LastName$Ways", "followGoing", "(III)V"⟩ false := LK_p 5037 (by decide +kernel)
set_option maxRecDepth 20000 in
theorem lk_9_118 : LK "LastName$Ways" 118 ⟨"LastName$Ways", "followIn", "(IIII)V"⟩ false := LK_p 5049 (by decide +kernel)
set_option maxRecDepth 20000 in
theorem lk_9_122 : LK "LastName$Ways" 122 ⟨"LastName$Goings", "placeFor", "(LLastName$Town;II)I"⟩ false := LK_p 5054 (by decide +kernel)
set_option maxRecDepth 20000 in
theorem lk_9_107 : LK "LastName$Ways" 107 ⟨"LastName$Town", "unpack", "(J)V"⟩ false := LK_p 5048 (by decide +kernel)
set_option maxRecDepth 20000 in
theorem lk_9_69 : LK "LastName$Ways" 69 ⟨"LastName$Ways", "follow", "(I)V"⟩ false := LK_p 5021 (by decide +kernel)
set_option maxRecDepth 20000 in
theorem lk_9_104 : LK "LastName$Ways" 104 ⟨"LastName$Town", "leave", "(II)I"⟩ false := LK_p 5047 (by decide +kernel)
set_option maxRecDepth 20000 in
theorem lk_9_100 : LK "LastName$Ways" 100 ⟨"LastName$Town", "packed", "()J"⟩ false := LK_p 5046 (by decide +kernel)
set_option maxRecDepth 20000 in
theorem lk_9_90 : LK "LastName$Ways" 90 ⟨"LastName$Goings", "canBe", "(LLastName$Town;II)Z"⟩ false := LK_p 5045 (by decide +kernel)
set_option maxRecDepth 20000 in
theorem lk_9_86 : LK "LastName$Ways" 86 ⟨"LastName$Ways", "mayBeOf", "(II)Z"⟩ false := LK_p 5041 (by decide +kernel)
set_option maxRecDepth 20000 in
theorem lk_9_129 : LK "LastName$Ways" 129 ⟨"LastName$Town", "enter", "(III)I"⟩ false := LK_p 5053 (by decide +kernel)
set_option maxRecDepth 20000 in
theorem lk_9_58 : LK "LastName$Ways" 58 ⟨"java/util/Arrays", "fill", "([II)V"⟩ false := LK_p 5019 (by decide +kernel)
set_option maxRecDepth 20000 in
theorem lk_9_65 : LK "LastName$Ways" 65 ⟨"LastName$Town", "copyFrom", "(LLastName$Town;)V"⟩ false := LK_p 5020 (by decide +kernel)
set_option maxRecDepth 20000 in
theorem lk_11_225 : LK "LastName" 225 ⟨"LastName$Ways", "reckon", "()V"⟩ false := LK_p 5015 (by decide +kernel)
set_option maxRecDepth 20000 in
theorem lk_9_140 : LK "LastName$Ways" 140 ⟨"java/lang/Math", "max", "(II)I"⟩ false := LK_p 5071 (by decide +kernel)
set_option maxRecDepth 20000 in
theorem lk_9_145 : LK "LastName$Ways" 145 ⟨"LastName$Ways", "greatestPart", "(I)I"⟩ false := LK_p 5067 (by decide +kernel)
set_option maxRecDepth 20000 in
theorem lk_11_239 : LK "LastName" 239 ⟨"LastName$Ways", "greatestPart", "(I)I"⟩ false := LK_p 5072 (by decide +kernel)
set_option maxRecDepth 20000 in
theorem lk_11_236 : LK "LastName" 236 ⟨"LastName$Ways", "whomToLookAt", "()I"⟩ false := LK_p 5063 (by decide +kernel)
set_option maxRecDepth 20000 in
theorem lk_5_44 : LK "LastName$Search" 44 ⟨"java/util/Arrays", "fill", "([II)V"⟩ false := LK_p 5085 (by decide +kernel)
set_option maxRecDepth 20000 in
theorem lk_10_87 : LK "LastName$World" 87 ⟨"LastName$Town", "nameOf", "(I)I"⟩ false := LK_p 5095 (by decide +kernel)
set_option maxRecDepth 20000 in
theorem lk_10_83 : LK "LastName$World" 83 ⟨"LastName$World", "hasPerson", "(I)Z"⟩ false := LK_p 5094 (by decide +kernel)
set_option maxRecDepth 20000 in
theorem lk_11_258 : LK "LastName" 258 ⟨"LastName$Search", "want", "(II)V"⟩ false := LK_p 5086 (by decide +kernel)
set_option maxRecDepth 20000 in
theorem lk_11_261 : LK "LastName" 261 ⟨"LastName$World", "isInside", "(I)Z"⟩ false := LK_p 5090 (by decide +kernel)
set_option maxRecDepth 20000 in
theorem lk_11_255 : LK "LastName" 255 ⟨"LastName$Search", "wantNothing", "()V"⟩ false := LK_p 5081 (by decide +kernel)
set_option maxRecDepth 20000 in
theorem lk_5_97 : LK "LastName$Search" 97 ⟨"LastName$Search", "slotOf", "(J)I"⟩ false := LK_p 5106 (by decide +kernel)
set_option maxRecDepth 20000 in
theorem lk_5_93 : LK "LastName$Search" 93 ⟨"LastName$Town", "nameOf", "(I)I"⟩ false := LK_p 5115 (by decide +kernel)
set_option maxRecDepth 20000 in
theorem lk_5_73 : LK "LastName$Search" 73 ⟨"LastName$Town", "unpack", "(J)V"⟩ false := LK_p 5120 (by decide +kernel)
set_option maxRecDepth 20000 in
theorem lk_5_65 : LK "LastName$Search" 65 ⟨"LastName$Search", "isAsWanted", "()Z"⟩ false := LK_p 5111 (by decide +kernel)
set_option maxRecDepth 20000 in
theorem lk_5_61 : LK "LastName$Search" 61 ⟨"LastName$Search", "add", "(JI)Z"⟩ false := LK_p 5102 (by decide +kernel)
set_option maxRecDepth 20000 in
theorem lk_5_57 : LK "LastName$Search" 57 ⟨"LastName$Town", "packed", "()J"⟩ false := LK_p 5101 (by decide +kernel)
set_option maxRecDepth 20000 in
theorem lk_5_87 : LK "LastName$Search" 87 ⟨"LastName$Goings", "doTried", "(LLastName$Town;II)I"⟩ false := LK_p 5121 (by decide +kernel)
set_option maxRecDepth 20000 in
theorem lk_5_69 : LK "LastName$Search" 69 ⟨"LastName$Search", "goOnFrom", "(II)I"⟩ false := LK_p 5116 (by decide +kernel)
set_option maxRecDepth 20000 in
theorem lk_5_53 : LK "LastName$Search" 53 ⟨"LastName$Town", "copyFrom", "(LLastName$Town;)V"⟩ false := LK_p 5100 (by decide +kernel)
set_option maxRecDepth 20000 in
theorem lk_5_103 : LK "LastName$Search" 103 ⟨"LastName$Search", "lengthOf", "(I)I"⟩ false := LK_p 5130 (by decide +kernel)
set_option maxRecDepth 20000 in
theorem lk_11_252 : LK "LastName" 252 ⟨"LastName$Search", "goingOf", "(II)I"⟩ false := LK_p 5126 (by decide +kernel)
set_option maxRecDepth 20000 in
theorem lk_11_249 : LK "LastName" 249 ⟨"LastName$Search", "lengthOf", "(I)I"⟩ false := LK_p 5122 (by decide +kernel)
set_option maxRecDepth 20000 in
theorem lk_11_246 : LK "LastName" 246 ⟨"LastName$Search", "find", "(I)I"⟩ false := LK_p 5096 (by decide +kernel)
set_option maxRecDepth 20000 in
theorem lk_11_242 : LK "LastName" 242 ⟨"LastName", "setGoal", "(III)Z"⟩ false := LK_p 5077 (by decide +kernel)
set_option maxRecDepth 20000 in
theorem lk_10_91 : LK "LastName$World" 91 ⟨"LastName$World", "isInside", "(I)Z"⟩ false := LK_p 5143 (by decide +kernel)
set_option maxRecDepth 20000 in
theorem lk_0_54 : LK "LastName$Crowd" 54 ⟨"LastName$Town", "nameOf", "(I)I"⟩ false := LK_p 5154 (by decide +kernel)
set_option maxRecDepth 20000 in
theorem lk_0_68 : LK "LastName$Crowd" 68 ⟨"LastName$Town", "unpack", "(J)V"⟩ false := LK_p 5157 (by decide +kernel)
set_option maxRecDepth 20000 in
theorem lk_0_50 : LK "LastName$Crowd" 50 ⟨"LastName$Crowd", "countFrom", "(II)I"⟩ false := LK_p 5150 (by decide +kernel)
set_option maxRecDepth 20000 in
theorem lk_0_62 : LK "LastName$Crowd" 62 ⟨"LastName$Goings", "doTried", "(LLastName$Town;II)I"⟩ false := LK_p 5156 (by decide +kernel)
set_option maxRecDepth 20000 in
theorem lk_0_58 : LK "LastName$Crowd" 58 ⟨"LastName$Town", "packed", "()J"⟩ false := LK_p 5155 (by decide +kernel)
set_option maxRecDepth 20000 in
theorem lk_0_46 : LK "LastName$Crowd" 46 ⟨"LastName$World", "isInside", "(I)Z"⟩ false := LK_p 5149 (by decide +kernel)
set_option maxRecDepth 20000 in
theorem lk_0_39 : LK "LastName$Crowd" 39 ⟨"LastName$Town", "copyFrom", "(LLastName$Town;)V"⟩ false := LK_p 5148 (by decide +kernel)
set_option maxRecDepth 20000 in
theorem lk_11_270 : LK "LastName" 270 ⟨"LastName$Crowd", "countOrders", "(III)I"⟩ false := LK_p 5144 (by decide +kernel)
set_option maxRecDepth 20000 in
theorem lk_11_267 : LK "LastName" 267 ⟨"LastName$World", "countInside", "()I"⟩ false := LK_p 5139 (by decide +kernel)
set_option maxRecDepth 20000 in
theorem lk_0_88 : LK "LastName$Crowd" 88 ⟨"java/lang/Math", "max", "(II)I"⟩ false := LK_p 5174 (by decide +kernel)
set_option maxRecDepth 20000 in
theorem lk_0_93 : LK "LastName$Crowd" 93 ⟨"java/lang/Math", "min", "(II)I"⟩ false := LK_p 5175 (by decide +kernel)
set_option maxRecDepth 20000 in
theorem lk_0_85 : LK "LastName$Crowd" 85 ⟨"LastName$Crowd", "lesser", "(II)I"⟩ false := LK_p 5171 (by decide +kernel)
set_option maxRecDepth 20000 in
theorem lk_0_72 : LK "LastName$Crowd" 72 ⟨"LastName$Crowd", "leastFrom", "(II)I"⟩ false := LK_p 5166 (by decide +kernel)
set_option maxRecDepth 20000 in
theorem lk_0_75 : LK "LastName$Crowd" 75 ⟨"LastName$World", "owedUnder", "(I)I"⟩ false := LK_p 5170 (by decide +kernel)
set_option maxRecDepth 20000 in
theorem lk_11_273 : LK "LastName" 273 ⟨"LastName$Crowd", "leastOwed", "(II)I"⟩ false := LK_p 5162 (by decide +kernel)
set_option maxRecDepth 20000 in
theorem lk_11_276 : LK "LastName" 276 ⟨"LastName$World", "sow", "(I)V"⟩ false := LK_p 5180 (by decide +kernel)
set_option maxRecDepth 20000 in
theorem lk_11_282 : LK "LastName" 282 ⟨"LastName$World", "draw", "(I)I"⟩ false := LK_p 5188 (by decide +kernel)
set_option maxRecDepth 20000 in
theorem lk_8_25 : LK "LastName$Triples" 25 ⟨"java/lang/Math", "min", "(II)I"⟩ false := LK_p 5203 (by decide +kernel)
set_option maxRecDepth 20000 in
theorem lk_10_76 : LK "LastName$World" 76 ⟨"LastName$Triples", "copyFrom", "(LLastName$Triples;)V"⟩ false := LK_p 5199 (by decide +kernel)
set_option maxRecDepth 20000 in
theorem lk_10_72 : LK "LastName$World" 72 ⟨"LastName$Town", "copyFrom", "(LLastName$Town;)V"⟩ false := LK_p 5198 (by decide +kernel)
set_option maxRecDepth 20000 in
theorem lk_11_285 : LK "LastName" 285 ⟨"LastName$World", "copyFrom", "(LLastName$World;)V"⟩ false := LK_p 5193 (by decide +kernel)
