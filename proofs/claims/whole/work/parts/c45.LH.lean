/-! ===== words of the law's calls ===== -/
set_option maxRecDepth 100000 in
theorem cd_X11_stop : Cond.code yX11_stop cX11_stop 2 (some .int) ∈ lw_U := lw_Uin (i := 655) (rfl) rfl
theorem cw_L_7 : CVk "LastbusLaw" 7 yX11_stop cX11_stop 2 (some .int) 1 := ⟨lw_Uin (i := 652) (by decide +kernel) rfl, lw_Uin (i := 653) (by decide +kernel) rfl, lw_Uin (i := 654) (by decide +kernel) rfl, lw_Uin (i := 103) (by decide +kernel) rfl, cd_X11_stop, ⟨by decide +kernel, by decide +kernel, by decide +kernel⟩⟩
set_option maxRecDepth 100000 in
theorem cd_X11_setChange : Cond.code yX11_setChange cX11_setChange 4 (some .int) ∈ lw_U := lw_Uin (i := 781) (rfl) rfl
theorem cw_L_17 : CVk "LastbusLaw" 17 yX11_setChange cX11_setChange 4 (some .int) 2 := ⟨lw_Uin (i := 778) (by decide +kernel) rfl, lw_Uin (i := 779) (by decide +kernel) rfl, lw_Uin (i := 780) (by decide +kernel) rfl, lw_Uin (i := 103) (by decide +kernel) rfl, cd_X11_setChange, ⟨by decide +kernel, by decide +kernel, by decide +kernel⟩⟩
set_option maxRecDepth 100000 in
theorem cd_X11_walk : Cond.code yX11_walk cX11_walk 5 (some .int) ∈ lw_U := lw_Uin (i := 809) (rfl) rfl
theorem cw_L_23 : CVk "LastbusLaw" 23 yX11_walk cX11_walk 5 (some .int) 3 := ⟨lw_Uin (i := 806) (by decide +kernel) rfl, lw_Uin (i := 807) (by decide +kernel) rfl, lw_Uin (i := 808) (by decide +kernel) rfl, lw_Uin (i := 103) (by decide +kernel) rfl, cd_X11_walk, ⟨by decide +kernel, by decide +kernel, by decide +kernel⟩⟩
set_option maxRecDepth 100000 in
theorem cd_X11_walkTime : Cond.code yX11_walkTime cX11_walkTime 3 (some .int) ∈ lw_U := lw_Uin (i := 821) (rfl) rfl
theorem cw_L_27 : CVk "LastbusLaw" 27 yX11_walkTime cX11_walkTime 3 (some .int) 2 := ⟨lw_Uin (i := 818) (by decide +kernel) rfl, lw_Uin (i := 819) (by decide +kernel) rfl, lw_Uin (i := 820) (by decide +kernel) rfl, lw_Uin (i := 103) (by decide +kernel) rfl, cd_X11_walkTime, ⟨by decide +kernel, by decide +kernel, by decide +kernel⟩⟩
set_option maxRecDepth 100000 in
theorem cd_X11_service : Cond.code yX11_service cX11_service 1 (some .int) ∈ lw_U := lw_Uin (i := 857) (rfl) rfl
theorem cw_L_32 : CVk "LastbusLaw" 32 yX11_service cX11_service 1 (some .int) 0 := ⟨lw_Uin (i := 854) (by decide +kernel) rfl, lw_Uin (i := 855) (by decide +kernel) rfl, lw_Uin (i := 856) (by decide +kernel) rfl, lw_Uin (i := 103) (by decide +kernel) rfl, cd_X11_service, ⟨by decide +kernel, by decide +kernel, by decide +kernel⟩⟩
set_option maxRecDepth 100000 in
theorem cd_X11_week : Cond.code yX11_week cX11_week 6 (some .int) ∈ lw_U := lw_Uin (i := 869) (rfl) rfl
theorem cw_L_36 : CVk "LastbusLaw" 36 yX11_week cX11_week 6 (some .int) 4 := ⟨lw_Uin (i := 866) (by decide +kernel) rfl, lw_Uin (i := 867) (by decide +kernel) rfl, lw_Uin (i := 868) (by decide +kernel) rfl, lw_Uin (i := 103) (by decide +kernel) rfl, cd_X11_week, ⟨by decide +kernel, by decide +kernel, by decide +kernel⟩⟩
set_option maxRecDepth 100000 in
theorem cd_X11_putDay : Cond.code yX11_putDay cX11_putDay 5 (some .boolean) ∈ lw_U := lw_Uin (i := 899) (rfl) rfl
theorem cw_L_40 : CVk "LastbusLaw" 40 yX11_putDay cX11_putDay 5 (some .boolean) 3 := ⟨lw_Uin (i := 896) (by decide +kernel) rfl, lw_Uin (i := 897) (by decide +kernel) rfl, lw_Uin (i := 898) (by decide +kernel) rfl, lw_Uin (i := 103) (by decide +kernel) rfl, cd_X11_putDay, ⟨by decide +kernel, by decide +kernel, by decide +kernel⟩⟩
set_option maxRecDepth 100000 in
theorem cd_X11_runsOn : Cond.code yX11_runsOn cX11_runsOn 3 (some .boolean) ∈ lw_U := lw_Uin (i := 907) (rfl) rfl
theorem cw_L_44 : CVk "LastbusLaw" 44 yX11_runsOn cX11_runsOn 3 (some .boolean) 2 := ⟨lw_Uin (i := 904) (by decide +kernel) rfl, lw_Uin (i := 905) (by decide +kernel) rfl, lw_Uin (i := 906) (by decide +kernel) rfl, lw_Uin (i := 103) (by decide +kernel) rfl, cd_X11_runsOn, ⟨by decide +kernel, by decide +kernel, by decide +kernel⟩⟩
set_option maxRecDepth 100000 in
theorem cd_X11_nextDay : Cond.code yX11_nextDay cX11_nextDay 4 (some .int) ∈ lw_U := lw_Uin (i := 914) (rfl) rfl
theorem cw_L_48 : CVk "LastbusLaw" 48 yX11_nextDay cX11_nextDay 4 (some .int) 2 := ⟨lw_Uin (i := 911) (by decide +kernel) rfl, lw_Uin (i := 912) (by decide +kernel) rfl, lw_Uin (i := 913) (by decide +kernel) rfl, lw_Uin (i := 103) (by decide +kernel) rfl, cd_X11_nextDay, ⟨by decide +kernel, by decide +kernel, by decide +kernel⟩⟩
set_option maxRecDepth 100000 in
theorem cd_X11_trip : Cond.code yX11_trip cX11_trip 4 (some .int) ∈ lw_U := lw_Uin (i := 926) (rfl) rfl
theorem cw_L_51 : CVk "LastbusLaw" 51 yX11_trip cX11_trip 4 (some .int) 3 := ⟨lw_Uin (i := 923) (by decide +kernel) rfl, lw_Uin (i := 924) (by decide +kernel) rfl, lw_Uin (i := 925) (by decide +kernel) rfl, lw_Uin (i := 103) (by decide +kernel) rfl, cd_X11_trip, ⟨by decide +kernel, by decide +kernel, by decide +kernel⟩⟩
set_option maxRecDepth 100000 in
theorem cd_X11_call : Cond.code yX11_call cX11_call 6 (some .int) ∈ lw_U := lw_Uin (i := 946) (rfl) rfl
theorem cw_L_54 : CVk "LastbusLaw" 54 yX11_call cX11_call 6 (some .int) 4 := ⟨lw_Uin (i := 943) (by decide +kernel) rfl, lw_Uin (i := 944) (by decide +kernel) rfl, lw_Uin (i := 945) (by decide +kernel) rfl, lw_Uin (i := 103) (by decide +kernel) rfl, cd_X11_call, ⟨by decide +kernel, by decide +kernel, by decide +kernel⟩⟩
set_option maxRecDepth 100000 in
theorem cd_X11_calls : Cond.code yX11_calls cX11_calls 2 (some .int) ∈ lw_U := lw_Uin (i := 968) (rfl) rfl
theorem cw_L_57 : CVk "LastbusLaw" 57 yX11_calls cX11_calls 2 (some .int) 1 := ⟨lw_Uin (i := 965) (by decide +kernel) rfl, lw_Uin (i := 966) (by decide +kernel) rfl, lw_Uin (i := 967) (by decide +kernel) rfl, lw_Uin (i := 103) (by decide +kernel) rfl, cd_X11_calls, ⟨by decide +kernel, by decide +kernel, by decide +kernel⟩⟩
set_option maxRecDepth 100000 in
theorem cd_X11_stopAt : Cond.code yX11_stopAt cX11_stopAt 3 (some .int) ∈ lw_U := lw_Uin (i := 975) (rfl) rfl
theorem cw_L_60 : CVk "LastbusLaw" 60 yX11_stopAt cX11_stopAt 3 (some .int) 2 := ⟨lw_Uin (i := 972) (by decide +kernel) rfl, lw_Uin (i := 973) (by decide +kernel) rfl, lw_Uin (i := 974) (by decide +kernel) rfl, lw_Uin (i := 103) (by decide +kernel) rfl, cd_X11_stopAt, ⟨by decide +kernel, by decide +kernel, by decide +kernel⟩⟩
set_option maxRecDepth 100000 in
theorem cd_X11_timeAt : Cond.code yX11_timeAt cX11_timeAt 4 (some .int) ∈ lw_U := lw_Uin (i := 987) (rfl) rfl
theorem cw_L_63 : CVk "LastbusLaw" 63 yX11_timeAt cX11_timeAt 4 (some .int) 3 := ⟨lw_Uin (i := 984) (by decide +kernel) rfl, lw_Uin (i := 985) (by decide +kernel) rfl, lw_Uin (i := 986) (by decide +kernel) rfl, lw_Uin (i := 103) (by decide +kernel) rfl, cd_X11_timeAt, ⟨by decide +kernel, by decide +kernel, by decide +kernel⟩⟩
set_option maxRecDepth 100000 in
theorem cd_X11_shift : Cond.code yX11_shift cX11_shift 3 (some .int) ∈ lw_U := lw_Uin (i := 994) (rfl) rfl
theorem cw_L_67 : CVk "LastbusLaw" 67 yX11_shift cX11_shift 3 (some .int) 2 := ⟨lw_Uin (i := 991) (by decide +kernel) rfl, lw_Uin (i := 992) (by decide +kernel) rfl, lw_Uin (i := 993) (by decide +kernel) rfl, lw_Uin (i := 103) (by decide +kernel) rfl, cd_X11_shift, ⟨by decide +kernel, by decide +kernel, by decide +kernel⟩⟩
set_option maxRecDepth 100000 in
theorem cd_X11_type : Cond.code yX11_type cX11_type 2 (some .int) ∈ lw_U := lw_Uin (i := 1009) (rfl) rfl
theorem cw_L_70 : CVk "LastbusLaw" 70 yX11_type cX11_type 2 (some .int) 1 := ⟨lw_Uin (i := 1006) (by decide +kernel) rfl, lw_Uin (i := 1007) (by decide +kernel) rfl, lw_Uin (i := 1008) (by decide +kernel) rfl, lw_Uin (i := 103) (by decide +kernel) rfl, cd_X11_type, ⟨by decide +kernel, by decide +kernel, by decide +kernel⟩⟩
set_option maxRecDepth 100000 in
theorem cd_X11_typeNumber : Cond.code yX11_typeNumber cX11_typeNumber 2 (some .int) ∈ lw_U := lw_Uin (i := 1025) (rfl) rfl
theorem cw_L_74 : CVk "LastbusLaw" 74 yX11_typeNumber cX11_typeNumber 2 (some .int) 1 := ⟨lw_Uin (i := 1022) (by decide +kernel) rfl, lw_Uin (i := 1023) (by decide +kernel) rfl, lw_Uin (i := 1024) (by decide +kernel) rfl, lw_Uin (i := 103) (by decide +kernel) rfl, cd_X11_typeNumber, ⟨by decide +kernel, by decide +kernel, by decide +kernel⟩⟩
set_option maxRecDepth 100000 in
theorem cd_X11_readRow : Cond.code yX11_readRow cX11_readRow 3 (some .int) ∈ lw_U := lw_Uin (i := 1042) (rfl) rfl
theorem cw_L_77 : CVk "LastbusLaw" 77 yX11_readRow cX11_readRow 3 (some .int) 0 := ⟨lw_Uin (i := 1039) (by decide +kernel) rfl, lw_Uin (i := 1040) (by decide +kernel) rfl, lw_Uin (i := 1041) (by decide +kernel) rfl, lw_Uin (i := 103) (by decide +kernel) rfl, cd_X11_readRow, ⟨by decide +kernel, by decide +kernel, by decide +kernel⟩⟩
set_option maxRecDepth 100000 in
theorem cd_X11_faultAt : Cond.code yX11_faultAt cX11_faultAt 1 (some .int) ∈ lw_U := lw_Uin (i := 1094) (rfl) rfl
theorem cw_L_82 : CVk "LastbusLaw" 82 yX11_faultAt cX11_faultAt 1 (some .int) 0 := ⟨lw_Uin (i := 1091) (by decide +kernel) rfl, lw_Uin (i := 1092) (by decide +kernel) rfl, lw_Uin (i := 1093) (by decide +kernel) rfl, lw_Uin (i := 103) (by decide +kernel) rfl, cd_X11_faultAt, ⟨by decide +kernel, by decide +kernel, by decide +kernel⟩⟩
set_option maxRecDepth 100000 in
theorem cd_X11_late : Cond.code yX11_late cX11_late 7 (some .int) ∈ lw_U := lw_Uin (i := 1102) (rfl) rfl
theorem cw_L_85 : CVk "LastbusLaw" 85 yX11_late cX11_late 7 (some .int) 4 := ⟨lw_Uin (i := 1099) (by decide +kernel) rfl, lw_Uin (i := 1100) (by decide +kernel) rfl, lw_Uin (i := 1101) (by decide +kernel) rfl, lw_Uin (i := 103) (by decide +kernel) rfl, cd_X11_late, ⟨by decide +kernel, by decide +kernel, by decide +kernel⟩⟩
set_option maxRecDepth 100000 in
theorem cd_X11_lateness : Cond.code yX11_lateness cX11_lateness 4 (some .int) ∈ lw_U := lw_Uin (i := 1122) (rfl) rfl
theorem cw_L_88 : CVk "LastbusLaw" 88 yX11_lateness cX11_lateness 4 (some .int) 3 := ⟨lw_Uin (i := 1119) (by decide +kernel) rfl, lw_Uin (i := 1120) (by decide +kernel) rfl, lw_Uin (i := 1121) (by decide +kernel) rfl, lw_Uin (i := 103) (by decide +kernel) rfl, cd_X11_lateness, ⟨by decide +kernel, by decide +kernel, by decide +kernel⟩⟩
set_option maxRecDepth 100000 in
theorem cd_X11_earliest : Cond.code yX11_earliest cX11_earliest 5 (some .int) ∈ lw_U := lw_Uin (i := 1133) (rfl) rfl
theorem cw_L_91 : CVk "LastbusLaw" 91 yX11_earliest cX11_earliest 5 (some .int) 4 := ⟨lw_Uin (i := 1130) (by decide +kernel) rfl, lw_Uin (i := 1131) (by decide +kernel) rfl, lw_Uin (i := 1132) (by decide +kernel) rfl, lw_Uin (i := 103) (by decide +kernel) rfl, cd_X11_earliest, ⟨by decide +kernel, by decide +kernel, by decide +kernel⟩⟩
set_option maxRecDepth 100000 in
theorem cd_X11_earliestByQueue : Cond.code yX11_earliestByQueue cX11_earliestByQueue 5 (some .int) ∈ lw_U := lw_Uin (i := 1216) (rfl) rfl
theorem cw_L_94 : CVk "LastbusLaw" 94 yX11_earliestByQueue cX11_earliestByQueue 5 (some .int) 4 := ⟨lw_Uin (i := 1213) (by decide +kernel) rfl, lw_Uin (i := 1214) (by decide +kernel) rfl, lw_Uin (i := 1215) (by decide +kernel) rfl, lw_Uin (i := 103) (by decide +kernel) rfl, cd_X11_earliestByQueue, ⟨by decide +kernel, by decide +kernel, by decide +kernel⟩⟩
set_option maxRecDepth 100000 in
theorem cd_X11_earliestByRounds : Cond.code yX11_earliestByRounds cX11_earliestByRounds 5 (some .int) ∈ lw_U := lw_Uin (i := 1240) (rfl) rfl
theorem cw_L_97 : CVk "LastbusLaw" 97 yX11_earliestByRounds cX11_earliestByRounds 5 (some .int) 4 := ⟨lw_Uin (i := 1237) (by decide +kernel) rfl, lw_Uin (i := 1238) (by decide +kernel) rfl, lw_Uin (i := 1239) (by decide +kernel) rfl, lw_Uin (i := 103) (by decide +kernel) rfl, cd_X11_earliestByRounds, ⟨by decide +kernel, by decide +kernel, by decide +kernel⟩⟩
set_option maxRecDepth 100000 in
theorem cd_X11_wall : Cond.code yX11_wall cX11_wall 7 (some .int) ∈ lw_U := lw_Uin (i := 1267) (rfl) rfl
theorem cw_L_100 : CVk "LastbusLaw" 100 yX11_wall cX11_wall 7 (some .int) 4 := ⟨lw_Uin (i := 1264) (by decide +kernel) rfl, lw_Uin (i := 1265) (by decide +kernel) rfl, lw_Uin (i := 1266) (by decide +kernel) rfl, lw_Uin (i := 103) (by decide +kernel) rfl, cd_X11_wall, ⟨by decide +kernel, by decide +kernel, by decide +kernel⟩⟩
set_option maxRecDepth 100000 in
theorem cd_X11_last : Cond.code yX11_last cX11_last 6 (some .int) ∈ lw_U := lw_Uin (i := 1274) (rfl) rfl
theorem cw_L_103 : CVk "LastbusLaw" 103 yX11_last cX11_last 6 (some .int) 4 := ⟨lw_Uin (i := 1271) (by decide +kernel) rfl, lw_Uin (i := 1272) (by decide +kernel) rfl, lw_Uin (i := 1273) (by decide +kernel) rfl, lw_Uin (i := 103) (by decide +kernel) rfl, cd_X11_last, ⟨by decide +kernel, by decide +kernel, by decide +kernel⟩⟩
set_option maxRecDepth 100000 in
theorem cd_X11_chain : Cond.code yX11_chain cX11_chain 5 (some .int) ∈ lw_U := lw_Uin (i := 1301) (rfl) rfl
theorem cw_L_106 : CVk "LastbusLaw" 106 yX11_chain cX11_chain 5 (some .int) 4 := ⟨lw_Uin (i := 1298) (by decide +kernel) rfl, lw_Uin (i := 1299) (by decide +kernel) rfl, lw_Uin (i := 1300) (by decide +kernel) rfl, lw_Uin (i := 103) (by decide +kernel) rfl, cd_X11_chain, ⟨by decide +kernel, by decide +kernel, by decide +kernel⟩⟩
set_option maxRecDepth 100000 in
theorem cd_X11_ride : Cond.code yX11_ride cX11_ride 3 (some .int) ∈ lw_U := lw_Uin (i := 1329) (rfl) rfl
theorem cw_L_109 : CVk "LastbusLaw" 109 yX11_ride cX11_ride 3 (some .int) 2 := ⟨lw_Uin (i := 1326) (by decide +kernel) rfl, lw_Uin (i := 1327) (by decide +kernel) rfl, lw_Uin (i := 1328) (by decide +kernel) rfl, lw_Uin (i := 103) (by decide +kernel) rfl, cd_X11_ride, ⟨by decide +kernel, by decide +kernel, by decide +kernel⟩⟩
set_option maxRecDepth 100000 in
theorem cd_X11_onBoard : Cond.code yX11_onBoard cX11_onBoard 5 (some .int) ∈ lw_U := lw_Uin (i := 1338) (rfl) rfl
theorem cw_L_113 : CVk "LastbusLaw" 113 yX11_onBoard cX11_onBoard 5 (some .int) 4 := ⟨lw_Uin (i := 1335) (by decide +kernel) rfl, lw_Uin (i := 1336) (by decide +kernel) rfl, lw_Uin (i := 1337) (by decide +kernel) rfl, lw_Uin (i := 103) (by decide +kernel) rfl, cd_X11_onBoard, ⟨by decide +kernel, by decide +kernel, by decide +kernel⟩⟩
set_option maxRecDepth 100000 in
theorem cd_X11_pairs : Cond.code yX11_pairs cX11_pairs 4 (some .int) ∈ lw_U := lw_Uin (i := 1356) (rfl) rfl
theorem cw_L_116 : CVk "LastbusLaw" 116 yX11_pairs cX11_pairs 4 (some .int) 3 := ⟨lw_Uin (i := 1353) (by decide +kernel) rfl, lw_Uin (i := 1354) (by decide +kernel) rfl, lw_Uin (i := 1355) (by decide +kernel) rfl, lw_Uin (i := 103) (by decide +kernel) rfl, cd_X11_pairs, ⟨by decide +kernel, by decide +kernel, by decide +kernel⟩⟩
set_option maxRecDepth 100000 in
theorem cd_X11_pair : Cond.code yX11_pair cX11_pair 6 (some .int) ∈ lw_U := lw_Uin (i := 1376) (rfl) rfl
theorem cw_L_119 : CVk "LastbusLaw" 119 yX11_pair cX11_pair 6 (some .int) 5 := ⟨lw_Uin (i := 1373) (by decide +kernel) rfl, lw_Uin (i := 1374) (by decide +kernel) rfl, lw_Uin (i := 1375) (by decide +kernel) rfl, lw_Uin (i := 103) (by decide +kernel) rfl, cd_X11_pair, ⟨by decide +kernel, by decide +kernel, by decide +kernel⟩⟩
set_option maxRecDepth 100000 in
theorem cd_X11_byPairs : Cond.code yX11_byPairs cX11_byPairs 6 (some .int) ∈ lw_U := lw_Uin (i := 1384) (rfl) rfl
theorem cw_L_123 : CVk "LastbusLaw" 123 yX11_byPairs cX11_byPairs 6 (some .int) 4 := ⟨lw_Uin (i := 1381) (by decide +kernel) rfl, lw_Uin (i := 1382) (by decide +kernel) rfl, lw_Uin (i := 1383) (by decide +kernel) rfl, lw_Uin (i := 103) (by decide +kernel) rfl, cd_X11_byPairs, ⟨by decide +kernel, by decide +kernel, by decide +kernel⟩⟩
set_option maxRecDepth 100000 in
theorem cd_X11_choices : Cond.code yX11_choices cX11_choices 7 (some .int) ∈ lw_U := lw_Uin (i := 1395) (rfl) rfl
theorem cw_L_126 : CVk "LastbusLaw" 126 yX11_choices cX11_choices 7 (some .int) 4 := ⟨lw_Uin (i := 1392) (by decide +kernel) rfl, lw_Uin (i := 1393) (by decide +kernel) rfl, lw_Uin (i := 1394) (by decide +kernel) rfl, lw_Uin (i := 103) (by decide +kernel) rfl, cd_X11_choices, ⟨by decide +kernel, by decide +kernel, by decide +kernel⟩⟩
set_option maxRecDepth 100000 in
theorem cd_X11_choice : Cond.code yX11_choice cX11_choice 8 (some .int) ∈ lw_U := lw_Uin (i := 1407) (rfl) rfl
theorem cw_L_129 : CVk "LastbusLaw" 129 yX11_choice cX11_choice 8 (some .int) 5 := ⟨lw_Uin (i := 1404) (by decide +kernel) rfl, lw_Uin (i := 1405) (by decide +kernel) rfl, lw_Uin (i := 1406) (by decide +kernel) rfl, lw_Uin (i := 103) (by decide +kernel) rfl, cd_X11_choice, ⟨by decide +kernel, by decide +kernel, by decide +kernel⟩⟩
set_option maxRecDepth 100000 in
theorem cd_X11_holds : Cond.code yX11_holds cX11_holds 9 (some .boolean) ∈ lw_U := lw_Uin (i := 1415) (rfl) rfl
theorem cw_L_133 : CVk "LastbusLaw" 133 yX11_holds cX11_holds 9 (some .boolean) 5 := ⟨lw_Uin (i := 1412) (by decide +kernel) rfl, lw_Uin (i := 1413) (by decide +kernel) rfl, lw_Uin (i := 1414) (by decide +kernel) rfl, lw_Uin (i := 103) (by decide +kernel) rfl, cd_X11_holds, ⟨by decide +kernel, by decide +kernel, by decide +kernel⟩⟩
set_option maxRecDepth 100000 in
theorem cd_X11_wish : Cond.code yX11_wish cX11_wish 6 (some .int) ∈ lw_U := lw_Uin (i := 1431) (rfl) rfl
theorem cw_L_137 : CVk "LastbusLaw" 137 yX11_wish cX11_wish 6 (some .int) 5 := ⟨lw_Uin (i := 1428) (by decide +kernel) rfl, lw_Uin (i := 1429) (by decide +kernel) rfl, lw_Uin (i := 1430) (by decide +kernel) rfl, lw_Uin (i := 103) (by decide +kernel) rfl, cd_X11_wish, ⟨by decide +kernel, by decide +kernel, by decide +kernel⟩⟩
set_option maxRecDepth 100000 in
theorem cd_X11_waitCost : Cond.code yX11_waitCost cX11_waitCost 4 (some .int) ∈ lw_U := lw_Uin (i := 1444) (rfl) rfl
theorem cw_L_140 : CVk "LastbusLaw" 140 yX11_waitCost cX11_waitCost 4 (some .int) 2 := ⟨lw_Uin (i := 1441) (by decide +kernel) rfl, lw_Uin (i := 1442) (by decide +kernel) rfl, lw_Uin (i := 1443) (by decide +kernel) rfl, lw_Uin (i := 103) (by decide +kernel) rfl, cd_X11_waitCost, ⟨by decide +kernel, by decide +kernel, by decide +kernel⟩⟩
set_option maxRecDepth 100000 in
theorem cd_X11_bestWaits : Cond.code yX11_bestWaits cX11_bestWaits 6 (some .int) ∈ lw_U := lw_Uin (i := 1491) (rfl) rfl
theorem cw_L_143 : CVk "LastbusLaw" 143 yX11_bestWaits cX11_bestWaits 6 (some .int) 1 := ⟨lw_Uin (i := 1488) (by decide +kernel) rfl, lw_Uin (i := 1489) (by decide +kernel) rfl, lw_Uin (i := 1490) (by decide +kernel) rfl, lw_Uin (i := 103) (by decide +kernel) rfl, cd_X11_bestWaits, ⟨by decide +kernel, by decide +kernel, by decide +kernel⟩⟩
set_option maxRecDepth 100000 in
theorem cd_X11_lost : Cond.code yX11_lost cX11_lost 3 (some .int) ∈ lw_U := lw_Uin (i := 1498) (rfl) rfl
theorem cw_L_146 : CVk "LastbusLaw" 146 yX11_lost cX11_lost 3 (some .int) 2 := ⟨lw_Uin (i := 1495) (by decide +kernel) rfl, lw_Uin (i := 1496) (by decide +kernel) rfl, lw_Uin (i := 1497) (by decide +kernel) rfl, lw_Uin (i := 103) (by decide +kernel) rfl, cd_X11_lost, ⟨by decide +kernel, by decide +kernel, by decide +kernel⟩⟩
set_option maxRecDepth 100000 in
theorem cd_X11_bridges : Cond.code yX11_bridges cX11_bridges 4 (some .int) ∈ lw_U := lw_Uin (i := 1517) (rfl) rfl
theorem cw_L_149 : CVk "LastbusLaw" 149 yX11_bridges cX11_bridges 4 (some .int) 1 := ⟨lw_Uin (i := 1514) (by decide +kernel) rfl, lw_Uin (i := 1515) (by decide +kernel) rfl, lw_Uin (i := 1516) (by decide +kernel) rfl, lw_Uin (i := 103) (by decide +kernel) rfl, cd_X11_bridges, ⟨by decide +kernel, by decide +kernel, by decide +kernel⟩⟩
set_option maxRecDepth 100000 in
theorem cd_X11_vehicles : Cond.code yX11_vehicles cX11_vehicles 2 (some .int) ∈ lw_U := lw_Uin (i := 1524) (rfl) rfl
theorem cw_L_152 : CVk "LastbusLaw" 152 yX11_vehicles cX11_vehicles 2 (some .int) 1 := ⟨lw_Uin (i := 1521) (by decide +kernel) rfl, lw_Uin (i := 1522) (by decide +kernel) rfl, lw_Uin (i := 1523) (by decide +kernel) rfl, lw_Uin (i := 103) (by decide +kernel) rfl, cd_X11_vehicles, ⟨by decide +kernel, by decide +kernel, by decide +kernel⟩⟩
set_option maxRecDepth 100000 in
theorem cd_X11_vehiclesByMatching : Cond.code yX11_vehiclesByMatching cX11_vehiclesByMatching 2 (some .int) ∈ lw_U := lw_Uin (i := 1545) (rfl) rfl
theorem cw_L_155 : CVk "LastbusLaw" 155 yX11_vehiclesByMatching cX11_vehiclesByMatching 2 (some .int) 1 := ⟨lw_Uin (i := 1542) (by decide +kernel) rfl, lw_Uin (i := 1543) (by decide +kernel) rfl, lw_Uin (i := 1544) (by decide +kernel) rfl, lw_Uin (i := 103) (by decide +kernel) rfl, cd_X11_vehiclesByMatching, ⟨by decide +kernel, by decide +kernel, by decide +kernel⟩⟩
set_option maxRecDepth 100000 in
theorem cd_X11_gains : Cond.code yX11_gains cX11_gains 5 (some .int) ∈ lw_U := lw_Uin (i := 1568) (rfl) rfl
theorem cw_L_158 : CVk "LastbusLaw" 158 yX11_gains cX11_gains 5 (some .int) 4 := ⟨lw_Uin (i := 1565) (by decide +kernel) rfl, lw_Uin (i := 1566) (by decide +kernel) rfl, lw_Uin (i := 1567) (by decide +kernel) rfl, lw_Uin (i := 103) (by decide +kernel) rfl, cd_X11_gains, ⟨by decide +kernel, by decide +kernel, by decide +kernel⟩⟩
set_option maxRecDepth 100000 in
theorem cd_X11_loses : Cond.code yX11_loses cX11_loses 5 (some .int) ∈ lw_U := lw_Uin (i := 1583) (rfl) rfl
theorem cw_L_161 : CVk "LastbusLaw" 161 yX11_loses cX11_loses 5 (some .int) 4 := ⟨lw_Uin (i := 1580) (by decide +kernel) rfl, lw_Uin (i := 1581) (by decide +kernel) rfl, lw_Uin (i := 1582) (by decide +kernel) rfl, lw_Uin (i := 103) (by decide +kernel) rfl, cd_X11_loses, ⟨by decide +kernel, by decide +kernel, by decide +kernel⟩⟩
set_option maxRecDepth 100000 in
theorem cd_X11_reachShare : Cond.code yX11_reachShare cX11_reachShare 6 (some .float) ∈ lw_U := lw_Uin (i := 1604) (rfl) rfl
theorem cw_L_164 : CVk "LastbusLaw" 164 yX11_reachShare cX11_reachShare 6 (some .float) 1 := ⟨lw_Uin (i := 1601) (by decide +kernel) rfl, lw_Uin (i := 1602) (by decide +kernel) rfl, lw_Uin (i := 1603) (by decide +kernel) rfl, lw_Uin (i := 103) (by decide +kernel) rfl, cd_X11_reachShare, ⟨by decide +kernel, by decide +kernel, by decide +kernel⟩⟩
set_option maxRecDepth 100000 in
theorem cd_X11_meanBetween : Cond.code yX11_meanBetween cX11_meanBetween 5 (some .double) ∈ lw_U := lw_Uin (i := 1614) (rfl) rfl
theorem cw_L_170 : CVk "LastbusLaw" 170 yX11_meanBetween cX11_meanBetween 5 (some .double) 0 := ⟨lw_Uin (i := 1611) (by decide +kernel) rfl, lw_Uin (i := 1612) (by decide +kernel) rfl, lw_Uin (i := 1613) (by decide +kernel) rfl, lw_Uin (i := 103) (by decide +kernel) rfl, cd_X11_meanBetween, ⟨by decide +kernel, by decide +kernel, by decide +kernel⟩⟩
set_option maxRecDepth 100000 in
theorem cd_X11_isSound : Cond.code yX11_isSound cX11_isSound 2 (some .boolean) ∈ lw_U := lw_Uin (i := 1622) (rfl) rfl
theorem cw_L_174 : CVk "LastbusLaw" 174 yX11_isSound cX11_isSound 2 (some .boolean) 1 := ⟨lw_Uin (i := 1619) (by decide +kernel) rfl, lw_Uin (i := 1620) (by decide +kernel) rfl, lw_Uin (i := 1621) (by decide +kernel) rfl, lw_Uin (i := 103) (by decide +kernel) rfl, cd_X11_isSound, ⟨by decide +kernel, by decide +kernel, by decide +kernel⟩⟩
/-! ===== the law's helpers ===== -/
def rm_L_stop : Room := { frames := 8, cells := 2, slots := 12, locals := 125 }
def hh_L_stop : List (Nat × Nat × Nat × Nat) := [(0, 9, 12, 13), (0, 9, 15, 15)]
set_option maxRecDepth 20000 in
set_option maxHeartbeats 4000000 in
theorem H_stop (G : Gl) (p0 : Int) (m : Mem) (r : (Int ⊕ Nat) × Mem) (h : C_stop p0 m = some r) (hx : ∀ x, r.1 = .inr x → x ∈ [0, 1]) : ConW SHL G yL_stop cL_stop 4 (some .int) hh_L_stop rm_L_stop [VR 0, VI p0, VR 489] m (hout wrI [0, 1] r m) := by
  refine conW_of (own := "LastbusLaw") (by decide) rfl (Nat.le_of_ble_eq_true rfl) (fun C X tb nc => ?_)
  obtain ⟨O, hO⟩ : ∃ O : Res × Mem, O = hout wrI [0, 1] r m := ⟨_, rfl⟩
  rw [← hO]
  show J SHL G rm_L_stop (.inl O) C 0 0 0 [(0, VR 0), (1, VI p0), (2, VR 489)] [] m
  refine s_load0 X 2 rfl dL_stop_0 ?_
  refine s_const X (by unfold InR; omega) dL_stop_1 ?_
  refine s_load0 X 0 rfl dL_stop_2 ?_
  refine s_iload_n X 1 rfl dL_stop_3 ?_
  refine s_callVH (As := [VI p0]) X cw_L_7 SHL_0 rfl dL_stop_4 (con_C (L_C_stop G p0 m r h)) rfl ⟨Nat.le_of_ble_eq_true rfl, Nat.le_of_ble_eq_true rfl⟩ ⟨Nat.le_of_ble_eq_true rfl, Nat.le_of_ble_eq_true rfl⟩ (Nat.le_of_ble_eq_true rfl) ?_ ?_
  · obtain ⟨r1, m1⟩ := r
    intro x h9
    cases r1 with
    | inl v => cases h9
    | inr x0 =>
      cases h9
      have hx0 := hx _ rfl
      simp only [List.mem_cons, List.not_mem_nil, or_false] at hx0
      rcases hx0 with rfl | rfl
      · exact jx_catch (hp := 12) (z := 1) X tb nc ⟨[], [(0, 9, 15, 15)], (0, 9, 12, 13), rfl, (fun z hz => by cases hz), by decide +kernel, by decide, rfl, cl_L_13, cstT _⟩ ⟨by unfold InR; omega, Or.inr ⟨3, by decide, dL_stop_12, dL_stop_13, dL_stop_14⟩⟩ (Nat.le_of_ble_eq_true rfl) (Nat.le_of_ble_eq_true rfl) (by show O = _; rw [hO]; rfl)
      · exact jx_catch (hp := 15) (z := 2) X tb nc ⟨[(0, 9, 12, 13)], [], (0, 9, 15, 15), rfl, (List.forall_mem_cons.mpr ⟨⟨by decide, "java/lang/IllegalArgumentException", cl_L_13, by decide +kernel⟩, (fun z hz => by cases hz)⟩), by decide +kernel, by decide, rfl, cl_L_15, cstT _⟩ ⟨by unfold InR; omega, Or.inr ⟨3, by decide, dL_stop_15, dL_stop_16, dL_stop_17⟩⟩ (Nat.le_of_ble_eq_true rfl) (Nat.le_of_ble_eq_true rfl) (by show O = _; rw [hO]; rfl)
  · obtain ⟨r1, m1⟩ := r
    intro v h9
    cases r1 with
    | inr x0 => cases h9
    | inl a =>
      cases h9
      show J SHL G rm_L_stop (.inl O) C 2 12 7 [(0, VR 0), (1, VI p0), (2, VR 489)] [VI a, VI 0, VR 489] (putM 0 455 m m1)
      refine s_i2l X dL_stop_7 ?_
      refine s_last X SHL_489 dL_stop_8 ?_
      refine s_goto (tgt := 18) X dL_stop_9 (by omega) ?_
      refine s_const X (by unfold InR; omega) dL_stop_18 ?_
      exact s_iret X (Nat.le_of_ble_eq_true rfl) (Nat.le_of_ble_eq_true rfl) (by show O = _; rw [hO]; rfl) dL_stop_19
def rm_L_setChange : Room := { frames := 8, cells := 2, slots := 12, locals := 127 }
def hh_L_setChange : List (Nat × Nat × Nat × Nat) := [(0, 10, 13, 21), (0, 10, 17, 13)]
set_option maxRecDepth 20000 in
set_option maxHeartbeats 4000000 in
theorem H_setChange (G : Gl) (p0 : Int) (p1 : Int) (m : Mem) (r : (Int ⊕ Nat) × Mem) (h : C_setChange p0 p1 m = some r) (hx : ∀ x, r.1 = .inr x → x ∈ [2, 0]) : ConW SHL G yL_setChange cL_setChange 5 (some .int) hh_L_setChange rm_L_setChange [VR 0, VI p0, VI p1, VR 489] m (hout wrI [2, 0] r m) := by
  refine conW_of (own := "LastbusLaw") (by decide) rfl (Nat.le_of_ble_eq_true rfl) (fun C X tb nc => ?_)
  obtain ⟨O, hO⟩ : ∃ O : Res × Mem, O = hout wrI [2, 0] r m := ⟨_, rfl⟩
  rw [← hO]
  show J SHL G rm_L_setChange (.inl O) C 0 0 0 [(0, VR 0), (1, VI p0), (2, VI p1), (3, VR 489)] [] m
  refine s_load0 X 3 rfl dL_setChange_0 ?_
  refine s_const X (by unfold InR; omega) dL_setChange_1 ?_
  refine s_load0 X 0 rfl dL_setChange_2 ?_
  refine s_iload_n X 1 rfl dL_setChange_3 ?_
  refine s_iload_n X 2 rfl dL_setChange_4 ?_
  refine s_callVH (As := [VI p0, VI p1]) X cw_L_17 SHL_0 rfl dL_setChange_5 (con_C (L_C_setChange G p0 p1 m r h)) rfl ⟨Nat.le_of_ble_eq_true rfl, Nat.le_of_ble_eq_true rfl⟩ ⟨Nat.le_of_ble_eq_true rfl, Nat.le_of_ble_eq_true rfl⟩ (Nat.le_of_ble_eq_true rfl) ?_ ?_
  · obtain ⟨r1, m1⟩ := r
    intro x h9
    cases r1 with
    | inl v => cases h9
    | inr x0 =>
      cases h9
      have hx0 := hx _ rfl
      simp only [List.mem_cons, List.not_mem_nil, or_false] at hx0
      rcases hx0 with rfl | rfl
      · exact jx_catch (hp := 13) (z := 1) X tb nc ⟨[], [(0, 10, 17, 13)], (0, 10, 13, 21), rfl, (fun z hz => by cases hz), by decide +kernel, by decide, rfl, cl_L_21, cstT _⟩ ⟨by unfold InR; omega, Or.inl ⟨4, by decide, dL_setChange_13, dL_setChange_15, dL_setChange_16⟩⟩ (Nat.le_of_ble_eq_true rfl) (Nat.le_of_ble_eq_true rfl) (by show O = _; rw [hO]; rfl)
      · exact jx_catch (hp := 17) (z := 2) X tb nc ⟨[(0, 10, 13, 21)], [], (0, 10, 17, 13), rfl, (List.forall_mem_cons.mpr ⟨⟨by decide, "java/lang/IndexOutOfBoundsException", cl_L_21, by decide +kernel⟩, (fun z hz => by cases hz)⟩), by decide +kernel, by decide, rfl, cl_L_13, cstT _⟩ ⟨by unfold InR; omega, Or.inl ⟨4, by decide, dL_setChange_17, dL_setChange_19, dL_setChange_20⟩⟩ (Nat.le_of_ble_eq_true rfl) (Nat.le_of_ble_eq_true rfl) (by show O = _; rw [hO]; rfl)
  · obtain ⟨r1, m1⟩ := r
    intro v h9
    cases r1 with
    | inr x0 => cases h9
    | inl a =>
      cases h9
      show J SHL G rm_L_setChange (.inl O) C 2 12 8 [(0, VR 0), (1, VI p0), (2, VI p1), (3, VR 489)] [VI a, VI 0, VR 489] (putM 0 455 m m1)
      refine s_i2l X dL_setChange_8 ?_
      refine s_last X SHL_489 dL_setChange_9 ?_
      refine s_goto (tgt := 21) X dL_setChange_10 (by omega) ?_
      refine s_const X (by unfold InR; omega) dL_setChange_21 ?_
      exact s_iret X (Nat.le_of_ble_eq_true rfl) (Nat.le_of_ble_eq_true rfl) (by show O = _; rw [hO]; rfl) dL_setChange_22
def rm_L_walk : Room := { frames := 8, cells := 4, slots := 24, locals := 128 }
def hh_L_walk : List (Nat × Nat × Nat × Nat) := [(0, 12, 15, 21), (0, 12, 19, 13)]
set_option maxRecDepth 20000 in
set_option maxHeartbeats 4000000 in
theorem H_walk (G : Gl) (p0 : Int) (p1 : Int) (p2 : Int) (m : Mem) (r : (Int ⊕ Nat) × Mem) (h : C_walk p0 p1 p2 m = some r) (hx : ∀ x, r.1 = .inr x → x ∈ [2, 0]) : ConW SHL G yL_walk cL_walk 6 (some .int) hh_L_walk rm_L_walk [VR 0, VI p0, VI p1, VI p2, VR 489] m (hout wrI [2, 0] r m) := by
  refine conW_of (own := "LastbusLaw") (by decide) rfl (Nat.le_of_ble_eq_true rfl) (fun C X tb nc => ?_)
  obtain ⟨O, hO⟩ : ∃ O : Res × Mem, O = hout wrI [2, 0] r m := ⟨_, rfl⟩
  rw [← hO]
  show J SHL G rm_L_walk (.inl O) C 0 0 0 [(0, VR 0), (1, VI p0), (2, VI p1), (3, VI p2), (4, VR 489)] [] m
  refine s_loadR X 4 rfl dL_walk_0 ?_
  refine s_const X (by unfold InR; omega) dL_walk_2 ?_
  refine s_load0 X 0 rfl dL_walk_3 ?_
  refine s_iload_n X 1 rfl dL_walk_4 ?_
  refine s_iload_n X 2 rfl dL_walk_5 ?_
  refine s_iload_n X 3 rfl dL_walk_6 ?_
  refine s_callVH (As := [VI p0, VI p1, VI p2]) X cw_L_23 SHL_0 rfl dL_walk_7 (con_C (L_C_walk G p0 p1 p2 m r h)) rfl ⟨Nat.le_of_ble_eq_true rfl, Nat.le_of_ble_eq_true rfl⟩ ⟨Nat.le_of_ble_eq_true rfl, Nat.le_of_ble_eq_true rfl⟩ (Nat.le_of_ble_eq_true rfl) ?_ ?_
  · obtain ⟨r1, m1⟩ := r
    intro x h9
    cases r1 with
    | inl v => cases h9
    | inr x0 =>
      cases h9
      have hx0 := hx _ rfl
      simp only [List.mem_cons, List.not_mem_nil, or_false] at hx0
      rcases hx0 with rfl | rfl
      · exact jx_catch (hp := 15) (z := 1) X tb nc ⟨[], [(0, 12, 19, 13)], (0, 12, 15, 21), rfl, (fun z hz => by cases hz), by decide +kernel, by decide, rfl, cl_L_21, cstT _⟩ ⟨by unfold InR; omega, Or.inl ⟨5, by decide, dL_walk_15, dL_walk_17, dL_walk_18⟩⟩ (Nat.le_of_ble_eq_true rfl) (Nat.le_of_ble_eq_true rfl) (by show O = _; rw [hO]; rfl)
      · exact jx_catch (hp := 19) (z := 2) X tb nc ⟨[(0, 12, 15, 21)], [], (0, 12, 19, 13), rfl, (List.forall_mem_cons.mpr ⟨⟨by decide, "java/lang/IndexOutOfBoundsException", cl_L_21, by decide +kernel⟩, (fun z hz => by cases hz)⟩), by decide +kernel, by decide, rfl, cl_L_13, cstT _⟩ ⟨by unfold InR; omega, Or.inl ⟨5, by decide, dL_walk_19, dL_walk_21, dL_walk_22⟩⟩ (Nat.le_of_ble_eq_true rfl) (Nat.le_of_ble_eq_true rfl) (by show O = _; rw [hO]; rfl)
  · obtain ⟨r1, m1⟩ := r
    intro v h9
    cases r1 with
    | inr x0 => cases h9
    | inl a =>
      cases h9
      show J SHL G rm_L_walk (.inl O) C 4 24 10 [(0, VR 0), (1, VI p0), (2, VI p1), (3, VI p2), (4, VR 489)] [VI a, VI 0, VR 489] (putM 0 455 m m1)
      refine s_i2l X dL_walk_10 ?_
      refine s_last X SHL_489 dL_walk_11 ?_
      refine s_goto (tgt := 23) X dL_walk_12 (by omega) ?_
      refine s_const X (by unfold InR; omega) dL_walk_23 ?_
      exact s_iret X (Nat.le_of_ble_eq_true rfl) (Nat.le_of_ble_eq_true rfl) (by show O = _; rw [hO]; rfl) dL_walk_24
def rm_L_walkTime : Room := { frames := 8, cells := 3, slots := 18, locals := 125 }
def hh_L_walkTime : List (Nat × Nat × Nat × Nat) := [(0, 10, 13, 21), (0, 10, 17, 30)]
set_option maxRecDepth 20000 in
set_option maxHeartbeats 4000000 in
theorem H_walkTime (G : Gl) (p0 : Int) (p1 : Int) (m : Mem) (r : (Int ⊕ Nat) × Mem) (h : C_walkTime p0 p1 m = some r) (hx : ∀ x, r.1 = .inr x → x ∈ [2, 5]) : ConW SHL G yL_walkTime cL_walkTime 5 (some .int) hh_L_walkTime rm_L_walkTime [VR 0, VI p0, VI p1, VR 489] m (hout wrI [2, 5] r m) := by
  refine conW_of (own := "LastbusLaw") (by decide) rfl (Nat.le_of_ble_eq_true rfl) (fun C X tb nc => ?_)
  obtain ⟨O, hO⟩ : ∃ O : Res × Mem, O = hout wrI [2, 5] r m := ⟨_, rfl⟩
  rw [← hO]
  show J SHL G rm_L_walkTime (.inl O) C 0 0 0 [(0, VR 0), (1, VI p0), (2, VI p1), (3, VR 489)] [] m
  refine s_load0 X 3 rfl dL_walkTime_0 ?_
  refine s_const X (by unfold InR; omega) dL_walkTime_1 ?_
  refine s_load0 X 0 rfl dL_walkTime_2 ?_
  refine s_iload_n X 1 rfl dL_walkTime_3 ?_
  refine s_iload_n X 2 rfl dL_walkTime_4 ?_
  refine s_callVH (As := [VI p0, VI p1]) X cw_L_27 SHL_0 rfl dL_walkTime_5 (con_C (L_C_walkTime G p0 p1 m r h)) rfl ⟨Nat.le_of_ble_eq_true rfl, Nat.le_of_ble_eq_true rfl⟩ ⟨Nat.le_of_ble_eq_true rfl, Nat.le_of_ble_eq_true rfl⟩ (Nat.le_of_ble_eq_true rfl) ?_ ?_
  · obtain ⟨r1, m1⟩ := r
    intro x h9
    cases r1 with
    | inl v => cases h9
    | inr x0 =>
      cases h9
      have hx0 := hx _ rfl
      simp only [List.mem_cons, List.not_mem_nil, or_false] at hx0
      rcases hx0 with rfl | rfl
      · exact jx_catch (hp := 13) (z := 1) X tb nc ⟨[], [(0, 10, 17, 30)], (0, 10, 13, 21), rfl, (fun z hz => by cases hz), by decide +kernel, by decide, rfl, cl_L_21, cstT _⟩ ⟨by unfold InR; omega, Or.inl ⟨4, by decide, dL_walkTime_13, dL_walkTime_15, dL_walkTime_16⟩⟩ (Nat.le_of_ble_eq_true rfl) (Nat.le_of_ble_eq_true rfl) (by show O = _; rw [hO]; rfl)
      · exact jx_catch (hp := 17) (z := 2) X tb nc ⟨[(0, 10, 13, 21)], [], (0, 10, 17, 30), rfl, (List.forall_mem_cons.mpr ⟨⟨by decide, "java/lang/IndexOutOfBoundsException", cl_L_21, by decide +kernel⟩, (fun z hz => by cases hz)⟩), by decide +kernel, by decide, rfl, cl_L_30, cstT _⟩ ⟨by unfold InR; omega, Or.inl ⟨4, by decide, dL_walkTime_17, dL_walkTime_19, dL_walkTime_20⟩⟩ (Nat.le_of_ble_eq_true rfl) (Nat.le_of_ble_eq_true rfl) (by show O = _; rw [hO]; rfl)
  · obtain ⟨r1, m1⟩ := r
    intro v h9
    cases r1 with
    | inr x0 => cases h9
    | inl a =>
      cases h9
      show J SHL G rm_L_walkTime (.inl O) C 3 18 8 [(0, VR 0), (1, VI p0), (2, VI p1), (3, VR 489)] [VI a, VI 0, VR 489] (putM 0 455 m m1)
      refine s_i2l X dL_walkTime_8 ?_
      refine s_last X SHL_489 dL_walkTime_9 ?_
      refine s_goto (tgt := 21) X dL_walkTime_10 (by omega) ?_
      refine s_const X (by unfold InR; omega) dL_walkTime_21 ?_
      exact s_iret X (Nat.le_of_ble_eq_true rfl) (Nat.le_of_ble_eq_true rfl) (by show O = _; rw [hO]; rfl) dL_walkTime_22
def rm_L_service : Room := { frames := 7, cells := 1, slots := 6, locals := 102 }
def hh_L_service : List (Nat × Nat × Nat × Nat) := [(0, 8, 11, 15)]
set_option maxRecDepth 20000 in
set_option maxHeartbeats 4000000 in
theorem H_service (G : Gl)  (m : Mem) (r : (Int ⊕ Nat) × Mem) (h : C_service m = some r) (hx : ∀ x, r.1 = .inr x → x ∈ [1]) : ConW SHL G yL_service cL_service 3 (some .int) hh_L_service rm_L_service [VR 0, VR 489] m (hout wrI [1] r m) := by
  refine conW_of (own := "LastbusLaw") (by decide) rfl (Nat.le_of_ble_eq_true rfl) (fun C X tb nc => ?_)
  obtain ⟨O, hO⟩ : ∃ O : Res × Mem, O = hout wrI [1] r m := ⟨_, rfl⟩
  rw [← hO]
  show J SHL G rm_L_service (.inl O) C 0 0 0 [(0, VR 0), (1, VR 489)] [] m
  refine s_load0 X 1 rfl dL_service_0 ?_
  refine s_const X (by unfold InR; omega) dL_service_1 ?_
  refine s_load0 X 0 rfl dL_service_2 ?_
  refine s_callVH (As := []) X cw_L_32 SHL_0 rfl dL_service_3 (con_C (L_C_service G m r h)) rfl ⟨Nat.le_of_ble_eq_true rfl, Nat.le_of_ble_eq_true rfl⟩ ⟨Nat.le_of_ble_eq_true rfl, Nat.le_of_ble_eq_true rfl⟩ (Nat.le_of_ble_eq_true rfl) ?_ ?_
  · obtain ⟨r1, m1⟩ := r
    intro x h9
    cases r1 with
    | inl v => cases h9
    | inr x0 =>
      cases h9
      have hx0 := hx _ rfl
      simp only [List.mem_cons, List.not_mem_nil, or_false] at hx0
      rcases hx0 with rfl
      · exact jx_catch (hp := 11) (z := 1) X tb nc ⟨[], [], (0, 8, 11, 15), rfl, (fun z hz => by cases hz), by decide +kernel, by decide, rfl, cl_L_15, cstT _⟩ ⟨by unfold InR; omega, Or.inr ⟨2, by decide, dL_service_11, dL_service_12, dL_service_13⟩⟩ (Nat.le_of_ble_eq_true rfl) (Nat.le_of_ble_eq_true rfl) (by show O = _; rw [hO]; rfl)
  · obtain ⟨r1, m1⟩ := r
    intro v h9
    cases r1 with
    | inr x0 => cases h9
    | inl a =>
      cases h9
      show J SHL G rm_L_service (.inl O) C 1 6 6 [(0, VR 0), (1, VR 489)] [VI a, VI 0, VR 489] (putM 0 455 m m1)
      refine s_i2l X dL_service_6 ?_
      refine s_last X SHL_489 dL_service_7 ?_
      refine s_goto (tgt := 14) X dL_service_8 (by omega) ?_
      refine s_const X (by unfold InR; omega) dL_service_14 ?_
      exact s_iret X (Nat.le_of_ble_eq_true rfl) (Nat.le_of_ble_eq_true rfl) (by show O = _; rw [hO]; rfl) dL_service_15
def rm_L_week : Room := { frames := 9, cells := 5, slots := 30, locals := 149 }
def hh_L_week : List (Nat × Nat × Nat × Nat) := [(0, 14, 17, 21), (0, 14, 21, 13)]
set_option maxRecDepth 20000 in
set_option maxHeartbeats 4000000 in
theorem H_week (G : Gl) (p0 : Int) (p1 : Int) (p2 : Int) (p3 : Int) (m : Mem) (r : (Int ⊕ Nat) × Mem) (h : C_week p0 p1 p2 p3 m = some r) (hx : ∀ x, r.1 = .inr x → x ∈ [2, 0]) : ConW SHL G yL_week cL_week 7 (some .int) hh_L_week rm_L_week [VR 0, VI p0, VI p1, VI p2, VI p3, VR 489] m (hout wrI [2, 0] r m) := by
  refine conW_of (own := "LastbusLaw") (by decide) rfl (Nat.le_of_ble_eq_true rfl) (fun C X tb nc => ?_)
  obtain ⟨O, hO⟩ : ∃ O : Res × Mem, O = hout wrI [2, 0] r m := ⟨_, rfl⟩
  rw [← hO]
  show J SHL G rm_L_week (.inl O) C 0 0 0 [(0, VR 0), (1, VI p0), (2, VI p1), (3, VI p2), (4, VI p3), (5, VR 489)] [] m
  refine s_loadR X 5 rfl dL_week_0 ?_
  refine s_const X (by unfold InR; omega) dL_week_2 ?_
  refine s_load0 X 0 rfl dL_week_3 ?_
  refine s_iload_n X 1 rfl dL_week_4 ?_
  refine s_iload_n X 2 rfl dL_week_5 ?_
  refine s_iload_n X 3 rfl dL_week_6 ?_
  refine s_iload X 4 rfl dL_week_7 ?_
  refine s_callVH (As := [VI p0, VI p1, VI p2, VI p3]) X cw_L_36 SHL_0 rfl dL_week_9 (con_C (L_C_week G p0 p1 p2 p3 m r h)) rfl ⟨Nat.le_of_ble_eq_true rfl, Nat.le_of_ble_eq_true rfl⟩ ⟨Nat.le_of_ble_eq_true rfl, Nat.le_of_ble_eq_true rfl⟩ (Nat.le_of_ble_eq_true rfl) ?_ ?_
  · obtain ⟨r1, m1⟩ := r
    intro x h9
    cases r1 with
    | inl v => cases h9
    | inr x0 =>
      cases h9
      have hx0 := hx _ rfl
      simp only [List.mem_cons, List.not_mem_nil, or_false] at hx0
      rcases hx0 with rfl | rfl
      · exact jx_catch (hp := 17) (z := 1) X tb nc ⟨[], [(0, 14, 21, 13)], (0, 14, 17, 21), rfl, (fun z hz => by cases hz), by decide +kernel, by decide, rfl, cl_L_21, cstT _⟩ ⟨by unfold InR; omega, Or.inl ⟨6, by decide, dL_week_17, dL_week_19, dL_week_20⟩⟩ (Nat.le_of_ble_eq_true rfl) (Nat.le_of_ble_eq_true rfl) (by show O = _; rw [hO]; rfl)
      · exact jx_catch (hp := 21) (z := 2) X tb nc ⟨[(0, 14, 17, 21)], [], (0, 14, 21, 13), rfl, (List.forall_mem_cons.mpr ⟨⟨by decide, "java/lang/IndexOutOfBoundsException", cl_L_21, by decide +kernel⟩, (fun z hz => by cases hz)⟩), by decide +kernel, by decide, rfl, cl_L_13, cstT _⟩ ⟨by unfold InR; omega, Or.inl ⟨6, by decide, dL_week_21, dL_week_23, dL_week_24⟩⟩ (Nat.le_of_ble_eq_true rfl) (Nat.le_of_ble_eq_true rfl) (by show O = _; rw [hO]; rfl)
  · obtain ⟨r1, m1⟩ := r
    intro v h9
    cases r1 with
    | inr x0 => cases h9
    | inl a =>
      cases h9
      show J SHL G rm_L_week (.inl O) C 5 30 12 [(0, VR 0), (1, VI p0), (2, VI p1), (3, VI p2), (4, VI p3), (5, VR 489)] [VI a, VI 0, VR 489] (putM 0 455 m m1)
      refine s_i2l X dL_week_12 ?_
      refine s_last X SHL_489 dL_week_13 ?_
      refine s_goto (tgt := 25) X dL_week_14 (by omega) ?_
      refine s_const X (by unfold InR; omega) dL_week_25 ?_
      exact s_iret X (Nat.le_of_ble_eq_true rfl) (Nat.le_of_ble_eq_true rfl) (by show O = _; rw [hO]; rfl) dL_week_26
def rm_L_putDay : Room := { frames := 9, cells := 2, slots := 12, locals := 148 }
def hh_L_putDay : List (Nat × Nat × Nat × Nat) := [(0, 19, 22, 21), (0, 19, 26, 13)]
set_option maxRecDepth 20000 in
set_option maxHeartbeats 4000000 in
theorem H_putDay (G : Gl) (p0 : Int) (p1 : Int) (p2 : Int) (m : Mem) (r : (Int ⊕ Nat) × Mem) (h : C_putDay p0 p1 p2 m = some r) (hx : ∀ x, r.1 = .inr x → x ∈ [2, 0]) : ConW SHL G yL_putDay cL_putDay 6 (some .int) hh_L_putDay rm_L_putDay [VR 0, VI p0, VI p1, VI p2, VR 489] m (hout wrB [2, 0] r m) := by
  refine conW_of (own := "LastbusLaw") (by decide) rfl (Nat.le_of_ble_eq_true rfl) (fun C X tb nc => ?_)
  obtain ⟨O, hO⟩ : ∃ O : Res × Mem, O = hout wrB [2, 0] r m := ⟨_, rfl⟩
  rw [← hO]
  show J SHL G rm_L_putDay (.inl O) C 0 0 0 [(0, VR 0), (1, VI p0), (2, VI p1), (3, VI p2), (4, VR 489)] [] m
  refine s_loadR X 4 rfl dL_putDay_0 ?_
  refine s_const X (by unfold InR; omega) dL_putDay_2 ?_
  refine s_load0 X 0 rfl dL_putDay_3 ?_
  refine s_iload_n X 1 rfl dL_putDay_4 ?_
  refine s_iload_n X 2 rfl dL_putDay_5 ?_
  refine s_iload_n X 3 rfl dL_putDay_6 ?_
  refine s_callVH (As := [VI p0, VI p1, VI p2]) X cw_L_40 SHL_0 rfl dL_putDay_7 (con_C (L_C_putDay G p0 p1 p2 m r h)) rfl ⟨Nat.le_of_ble_eq_true rfl, Nat.le_of_ble_eq_true rfl⟩ ⟨Nat.le_of_ble_eq_true rfl, Nat.le_of_ble_eq_true rfl⟩ (Nat.le_of_ble_eq_true rfl) ?_ ?_
  · obtain ⟨r1, m1⟩ := r
    intro x h9
    cases r1 with
    | inl v => cases h9
    | inr x0 =>
      cases h9
      have hx0 := hx _ rfl
      simp only [List.mem_cons, List.not_mem_nil, or_false] at hx0
      rcases hx0 with rfl | rfl
      · exact jx_catch (hp := 22) (z := 1) X tb nc ⟨[], [(0, 19, 26, 13)], (0, 19, 22, 21), rfl, (fun z hz => by cases hz), by decide +kernel, by decide, rfl, cl_L_21, cstT _⟩ ⟨by unfold InR; omega, Or.inl ⟨5, by decide, dL_putDay_22, dL_putDay_24, dL_putDay_25⟩⟩ (Nat.le_of_ble_eq_true rfl) (Nat.le_of_ble_eq_true rfl) (by show O = _; rw [hO]; rfl)
      · exact jx_catch (hp := 26) (z := 2) X tb nc ⟨[(0, 19, 22, 21)], [], (0, 19, 26, 13), rfl, (List.forall_mem_cons.mpr ⟨⟨by decide, "java/lang/IndexOutOfBoundsException", cl_L_21, by decide +kernel⟩, (fun z hz => by cases hz)⟩), by decide +kernel, by decide, rfl, cl_L_13, cstT _⟩ ⟨by unfold InR; omega, Or.inl ⟨5, by decide, dL_putDay_26, dL_putDay_28, dL_putDay_29⟩⟩ (Nat.le_of_ble_eq_true rfl) (Nat.le_of_ble_eq_true rfl) (by show O = _; rw [hO]; rfl)
  · obtain ⟨r1, m1⟩ := r
    intro v h9
    cases r1 with
    | inr x0 => cases h9
    | inl a =>
      cases h9
      show J SHL G rm_L_putDay (.inl O) C 2 12 10 [(0, VR 0), (1, VI p0), (2, VI p1), (3, VI p2), (4, VR 489)] [VI a, VI 0, VR 489] (putM 0 455 m m1)
      refine s_ifeq_t (tgt := 17) X dL_putDay_10 (by omega) (fun c1 => ?_) (fun c1 => ?_)
      · refine s_lconst X dL_putDay_17 ?_
        refine s_last X SHL_489 dL_putDay_18 ?_
        refine s_goto (tgt := 30) X dL_putDay_19 (by omega) ?_
        refine s_const X (by unfold InR; omega) dL_putDay_30 ?_
        exact s_iret X (Nat.le_of_ble_eq_true rfl) (Nat.le_of_ble_eq_true rfl) (by show O = _; rw [hO]; show ((_, wrB a (putM 0 455 m m1)) : Res × Mem) = _; unfold wrB; rw [if_pos c1]; rfl) dL_putDay_31
      · refine s_lconst X dL_putDay_13 ?_
        refine s_goto (tgt := 18) X dL_putDay_14 (by omega) ?_
        refine s_last X SHL_489 dL_putDay_18 ?_
        refine s_goto (tgt := 30) X dL_putDay_19 (by omega) ?_
        refine s_const X (by unfold InR; omega) dL_putDay_30 ?_
        exact s_iret X (Nat.le_of_ble_eq_true rfl) (Nat.le_of_ble_eq_true rfl) (by show O = _; rw [hO]; show ((_, wrB a (putM 0 455 m m1)) : Res × Mem) = _; unfold wrB; rw [if_neg c1]; rfl) dL_putDay_31
def rm_L_runsOn : Room := { frames := 9, cells := 2, slots := 12, locals := 146 }
def hh_L_runsOn : List (Nat × Nat × Nat × Nat) := [(0, 17, 20, 21), (0, 17, 24, 13)]
set_option maxRecDepth 20000 in
set_option maxHeartbeats 4000000 in
theorem H_runsOn (G : Gl) (p0 : Int) (p1 : Int) (m : Mem) (r : (Int ⊕ Nat) × Mem) (h : C_runsOn p0 p1 m = some r) (hx : ∀ x, r.1 = .inr x → x ∈ [2, 0]) : ConW SHL G yL_runsOn cL_runsOn 5 (some .int) hh_L_runsOn rm_L_runsOn [VR 0, VI p0, VI p1, VR 489] m (hout wrB [2, 0] r m) := by
  refine conW_of (own := "LastbusLaw") (by decide) rfl (Nat.le_of_ble_eq_true rfl) (fun C X tb nc => ?_)
  obtain ⟨O, hO⟩ : ∃ O : Res × Mem, O = hout wrB [2, 0] r m := ⟨_, rfl⟩
  rw [← hO]
  show J SHL G rm_L_runsOn (.inl O) C 0 0 0 [(0, VR 0), (1, VI p0), (2, VI p1), (3, VR 489)] [] m
  refine s_load0 X 3 rfl dL_runsOn_0 ?_
  refine s_const X (by unfold InR; omega) dL_runsOn_1 ?_
  refine s_load0 X 0 rfl dL_runsOn_2 ?_
  refine s_iload_n X 1 rfl dL_runsOn_3 ?_
  refine s_iload_n X 2 rfl dL_runsOn_4 ?_
  refine s_callVH (As := [VI p0, VI p1]) X cw_L_44 SHL_0 rfl dL_runsOn_5 (con_C (L_C_runsOn G p0 p1 m r h)) rfl ⟨Nat.le_of_ble_eq_true rfl, Nat.le_of_ble_eq_true rfl⟩ ⟨Nat.le_of_ble_eq_true rfl, Nat.le_of_ble_eq_true rfl⟩ (Nat.le_of_ble_eq_true rfl) ?_ ?_
  · obtain ⟨r1, m1⟩ := r
    intro x h9
    cases r1 with
    | inl v => cases h9
    | inr x0 =>
      cases h9
      have hx0 := hx _ rfl
      simp only [List.mem_cons, List.not_mem_nil, or_false] at hx0
      rcases hx0 with rfl | rfl
      · exact jx_catch (hp := 20) (z := 1) X tb nc ⟨[], [(0, 17, 24, 13)], (0, 17, 20, 21), rfl, (fun z hz => by cases hz), by decide +kernel, by decide, rfl, cl_L_21, cstT _⟩ ⟨by unfold InR; omega, Or.inl ⟨4, by decide, dL_runsOn_20, dL_runsOn_22, dL_runsOn_23⟩⟩ (Nat.le_of_ble_eq_true rfl) (Nat.le_of_ble_eq_true rfl) (by show O = _; rw [hO]; rfl)
      · exact jx_catch (hp := 24) (z := 2) X tb nc ⟨[(0, 17, 20, 21)], [], (0, 17, 24, 13), rfl, (List.forall_mem_cons.mpr ⟨⟨by decide, "java/lang/IndexOutOfBoundsException", cl_L_21, by decide +kernel⟩, (fun z hz => by cases hz)⟩), by decide +kernel, by decide, rfl, cl_L_13, cstT _⟩ ⟨by unfold InR; omega, Or.inl ⟨4, by decide, dL_runsOn_24, dL_runsOn_26, dL_runsOn_27⟩⟩ (Nat.le_of_ble_eq_true rfl) (Nat.le_of_ble_eq_true rfl) (by show O = _; rw [hO]; rfl)
  · obtain ⟨r1, m1⟩ := r
    intro v h9
    cases r1 with
    | inr x0 => cases h9
    | inl a =>
      cases h9
      show J SHL G rm_L_runsOn (.inl O) C 2 12 8 [(0, VR 0), (1, VI p0), (2, VI p1), (3, VR 489)] [VI a, VI 0, VR 489] (putM 0 455 m m1)
      refine s_ifeq_t (tgt := 15) X dL_runsOn_8 (by omega) (fun c1 => ?_) (fun c1 => ?_)
      · refine s_lconst X dL_runsOn_15 ?_
        refine s_last X SHL_489 dL_runsOn_16 ?_
        refine s_goto (tgt := 28) X dL_runsOn_17 (by omega) ?_
        refine s_const X (by unfold InR; omega) dL_runsOn_28 ?_
        exact s_iret X (Nat.le_of_ble_eq_true rfl) (Nat.le_of_ble_eq_true rfl) (by show O = _; rw [hO]; show ((_, wrB a (putM 0 455 m m1)) : Res × Mem) = _; unfold wrB; rw [if_pos c1]; rfl) dL_runsOn_29
      · refine s_lconst X dL_runsOn_11 ?_
        refine s_goto (tgt := 16) X dL_runsOn_12 (by omega) ?_
        refine s_last X SHL_489 dL_runsOn_16 ?_
        refine s_goto (tgt := 28) X dL_runsOn_17 (by omega) ?_
        refine s_const X (by unfold InR; omega) dL_runsOn_28 ?_
        exact s_iret X (Nat.le_of_ble_eq_true rfl) (Nat.le_of_ble_eq_true rfl) (by show O = _; rw [hO]; show ((_, wrB a (putM 0 455 m m1)) : Res × Mem) = _; unfold wrB; rw [if_neg c1]; rfl) dL_runsOn_29
def rm_L_nextDay : Room := { frames := 9, cells := 3, slots := 18, locals := 147 }
def hh_L_nextDay : List (Nat × Nat × Nat × Nat) := [(0, 10, 13, 21), (0, 10, 17, 13), (0, 10, 21, 30)]
set_option maxRecDepth 20000 in
set_option maxHeartbeats 4000000 in
theorem H_nextDay (G : Gl) (p0 : Int) (p1 : Int) (m : Mem) (r : (Int ⊕ Nat) × Mem) (h : C_nextDay p0 p1 m = some r) (hx : ∀ x, r.1 = .inr x → x ∈ [2, 0, 5]) : ConW SHL G yL_nextDay cL_nextDay 5 (some .int) hh_L_nextDay rm_L_nextDay [VR 0, VI p0, VI p1, VR 489] m (hout wrI [2, 0, 5] r m) := by
  refine conW_of (own := "LastbusLaw") (by decide) rfl (Nat.le_of_ble_eq_true rfl) (fun C X tb nc => ?_)
  obtain ⟨O, hO⟩ : ∃ O : Res × Mem, O = hout wrI [2, 0, 5] r m := ⟨_, rfl⟩
  rw [← hO]
  show J SHL G rm_L_nextDay (.inl O) C 0 0 0 [(0, VR 0), (1, VI p0), (2, VI p1), (3, VR 489)] [] m
  refine s_load0 X 3 rfl dL_nextDay_0 ?_
  refine s_const X (by unfold InR; omega) dL_nextDay_1 ?_
  refine s_load0 X 0 rfl dL_nextDay_2 ?_
  refine s_iload_n X 1 rfl dL_nextDay_3 ?_
  refine s_iload_n X 2 rfl dL_nextDay_4 ?_
  refine s_callVH (As := [VI p0, VI p1]) X cw_L_48 SHL_0 rfl dL_nextDay_5 (con_C (L_C_nextDay G p0 p1 m r h)) rfl ⟨Nat.le_of_ble_eq_true rfl, Nat.le_of_ble_eq_true rfl⟩ ⟨Nat.le_of_ble_eq_true rfl, Nat.le_of_ble_eq_true rfl⟩ (Nat.le_of_ble_eq_true rfl) ?_ ?_
  · obtain ⟨r1, m1⟩ := r
    intro x h9
    cases r1 with
    | inl v => cases h9
    | inr x0 =>
      cases h9
      have hx0 := hx _ rfl
      simp only [List.mem_cons, List.not_mem_nil, or_false] at hx0
      rcases hx0 with rfl | rfl | rfl
      · exact jx_catch (hp := 13) (z := 1) X tb nc ⟨[], [(0, 10, 17, 13), (0, 10, 21, 30)], (0, 10, 13, 21), rfl, (fun z hz => by cases hz), by decide +kernel, by decide, rfl, cl_L_21, cstT _⟩ ⟨by unfold InR; omega, Or.inl ⟨4, by decide, dL_nextDay_13, dL_nextDay_15, dL_nextDay_16⟩⟩ (Nat.le_of_ble_eq_true rfl) (Nat.le_of_ble_eq_true rfl) (by show O = _; rw [hO]; rfl)
      · exact jx_catch (hp := 17) (z := 2) X tb nc ⟨[(0, 10, 13, 21)], [(0, 10, 21, 30)], (0, 10, 17, 13), rfl, (List.forall_mem_cons.mpr ⟨⟨by decide, "java/lang/IndexOutOfBoundsException", cl_L_21, by decide +kernel⟩, (fun z hz => by cases hz)⟩), by decide +kernel, by decide, rfl, cl_L_13, cstT _⟩ ⟨by unfold InR; omega, Or.inl ⟨4, by decide, dL_nextDay_17, dL_nextDay_19, dL_nextDay_20⟩⟩ (Nat.le_of_ble_eq_true rfl) (Nat.le_of_ble_eq_true rfl) (by show O = _; rw [hO]; rfl)
      · exact jx_catch (hp := 21) (z := 3) X tb nc ⟨[(0, 10, 13, 21), (0, 10, 17, 13)], [], (0, 10, 21, 30), rfl, (List.forall_mem_cons.mpr ⟨⟨by decide, "java/lang/IndexOutOfBoundsException", cl_L_21, by decide +kernel⟩, (List.forall_mem_cons.mpr ⟨⟨by decide, "java/lang/IllegalArgumentException", cl_L_13, by decide +kernel⟩, (fun z hz => by cases hz)⟩)⟩), by decide +kernel, by decide, rfl, cl_L_30, cstT _⟩ ⟨by unfold InR; omega, Or.inl ⟨4, by decide, dL_nextDay_21, dL_nextDay_23, dL_nextDay_24⟩⟩ (Nat.le_of_ble_eq_true rfl) (Nat.le_of_ble_eq_true rfl) (by show O = _; rw [hO]; rfl)
  · obtain ⟨r1, m1⟩ := r
    intro v h9
    cases r1 with
    | inr x0 => cases h9
    | inl a =>
      cases h9
      show J SHL G rm_L_nextDay (.inl O) C 3 18 8 [(0, VR 0), (1, VI p0), (2, VI p1), (3, VR 489)] [VI a, VI 0, VR 489] (putM 0 455 m m1)
      refine s_i2l X dL_nextDay_8 ?_
      refine s_last X SHL_489 dL_nextDay_9 ?_
      refine s_goto (tgt := 25) X dL_nextDay_10 (by omega) ?_
      refine s_const X (by unfold InR; omega) dL_nextDay_25 ?_
      exact s_iret X (Nat.le_of_ble_eq_true rfl) (Nat.le_of_ble_eq_true rfl) (by show O = _; rw [hO]; rfl) dL_nextDay_26
def rm_L_trip : Room := { frames := 8, cells := 4, slots := 24, locals := 127 }
def hh_L_trip : List (Nat × Nat × Nat × Nat) := [(0, 12, 15, 21), (0, 12, 19, 13), (0, 12, 23, 15)]
set_option maxRecDepth 20000 in
set_option maxHeartbeats 4000000 in
theorem H_trip (G : Gl) (p0 : Int) (p1 : Int) (p2 : Int) (m : Mem) (r : (Int ⊕ Nat) × Mem) (h : C_trip p0 p1 p2 m = some r) (hx : ∀ x, r.1 = .inr x → x ∈ [2, 0, 1]) : ConW SHL G yL_trip cL_trip 6 (some .int) hh_L_trip rm_L_trip [VR 0, VI p0, VI p1, VI p2, VR 489] m (hout wrI [2, 0, 1] r m) := by
  refine conW_of (own := "LastbusLaw") (by decide) rfl (Nat.le_of_ble_eq_true rfl) (fun C X tb nc => ?_)
  obtain ⟨O, hO⟩ : ∃ O : Res × Mem, O = hout wrI [2, 0, 1] r m := ⟨_, rfl⟩
  rw [← hO]
  show J SHL G rm_L_trip (.inl O) C 0 0 0 [(0, VR 0), (1, VI p0), (2, VI p1), (3, VI p2), (4, VR 489)] [] m
  refine s_loadR X 4 rfl dL_trip_0 ?_
  refine s_const X (by unfold InR; omega) dL_trip_2 ?_
  refine s_load0 X 0 rfl dL_trip_3 ?_
  refine s_iload_n X 1 rfl dL_trip_4 ?_
  refine s_iload_n X 2 rfl dL_trip_5 ?_
  refine s_iload_n X 3 rfl dL_trip_6 ?_
  refine s_callVH (As := [VI p0, VI p1, VI p2]) X cw_L_51 SHL_0 rfl dL_trip_7 (con_C (L_C_trip G p0 p1 p2 m r h)) rfl ⟨Nat.le_of_ble_eq_true rfl, Nat.le_of_ble_eq_true rfl⟩ ⟨Nat.le_of_ble_eq_true rfl, Nat.le_of_ble_eq_true rfl⟩ (Nat.le_of_ble_eq_true rfl) ?_ ?_
  · obtain ⟨r1, m1⟩ := r
    intro x h9
    cases r1 with
    | inl v => cases h9
    | inr x0 =>
      cases h9
      have hx0 := hx _ rfl
      simp only [List.mem_cons, List.not_mem_nil, or_false] at hx0
      rcases hx0 with rfl | rfl | rfl
      · exact jx_catch (hp := 15) (z := 1) X tb nc ⟨[], [(0, 12, 19, 13), (0, 12, 23, 15)], (0, 12, 15, 21), rfl, (fun z hz => by cases hz), by decide +kernel, by decide, rfl, cl_L_21, cstT _⟩ ⟨by unfold InR; omega, Or.inl ⟨5, by decide, dL_trip_15, dL_trip_17, dL_trip_18⟩⟩ (Nat.le_of_ble_eq_true rfl) (Nat.le_of_ble_eq_true rfl) (by show O = _; rw [hO]; rfl)
      · exact jx_catch (hp := 19) (z := 2) X tb nc ⟨[(0, 12, 15, 21)], [(0, 12, 23, 15)], (0, 12, 19, 13), rfl, (List.forall_mem_cons.mpr ⟨⟨by decide, "java/lang/IndexOutOfBoundsException", cl_L_21, by decide +kernel⟩, (fun z hz => by cases hz)⟩), by decide +kernel, by decide, rfl, cl_L_13, cstT _⟩ ⟨by unfold InR; omega, Or.inl ⟨5, by decide, dL_trip_19, dL_trip_21, dL_trip_22⟩⟩ (Nat.le_of_ble_eq_true rfl) (Nat.le_of_ble_eq_true rfl) (by show O = _; rw [hO]; rfl)
      · exact jx_catch (hp := 23) (z := 3) X tb nc ⟨[(0, 12, 15, 21), (0, 12, 19, 13)], [], (0, 12, 23, 15), rfl, (List.forall_mem_cons.mpr ⟨⟨by decide, "java/lang/IndexOutOfBoundsException", cl_L_21, by decide +kernel⟩, (List.forall_mem_cons.mpr ⟨⟨by decide, "java/lang/IllegalArgumentException", cl_L_13, by decide +kernel⟩, (fun z hz => by cases hz)⟩)⟩), by decide +kernel, by decide, rfl, cl_L_15, cstT _⟩ ⟨by unfold InR; omega, Or.inl ⟨5, by decide, dL_trip_23, dL_trip_25, dL_trip_26⟩⟩ (Nat.le_of_ble_eq_true rfl) (Nat.le_of_ble_eq_true rfl) (by show O = _; rw [hO]; rfl)
  · obtain ⟨r1, m1⟩ := r
    intro v h9
    cases r1 with
    | inr x0 => cases h9
    | inl a =>
      cases h9
      show J SHL G rm_L_trip (.inl O) C 4 24 10 [(0, VR 0), (1, VI p0), (2, VI p1), (3, VI p2), (4, VR 489)] [VI a, VI 0, VR 489] (putM 0 455 m m1)
      refine s_i2l X dL_trip_10 ?_
      refine s_last X SHL_489 dL_trip_11 ?_
      refine s_goto (tgt := 27) X dL_trip_12 (by omega) ?_
      refine s_const X (by unfold InR; omega) dL_trip_27 ?_
      exact s_iret X (Nat.le_of_ble_eq_true rfl) (Nat.le_of_ble_eq_true rfl) (by show O = _; rw [hO]; rfl) dL_trip_28
def rm_L_call : Room := { frames := 8, cells := 5, slots := 30, locals := 128 }
def hh_L_call : List (Nat × Nat × Nat × Nat) := [(0, 14, 17, 21), (0, 14, 21, 13), (0, 14, 25, 15)]
set_option maxRecDepth 20000 in
set_option maxHeartbeats 4000000 in
theorem H_call (G : Gl) (p0 : Int) (p1 : Int) (p2 : Int) (p3 : Int) (m : Mem) (r : (Int ⊕ Nat) × Mem) (h : C_call p0 p1 p2 p3 m = some r) (hx : ∀ x, r.1 = .inr x → x ∈ [2, 0, 1]) : ConW SHL G yL_call cL_call 7 (some .int) hh_L_call rm_L_call [VR 0, VI p0, VI p1, VI p2, VI p3, VR 489] m (hout wrI [2, 0, 1] r m) := by
  refine conW_of (own := "LastbusLaw") (by decide) rfl (Nat.le_of_ble_eq_true rfl) (fun C X tb nc => ?_)
  obtain ⟨O, hO⟩ : ∃ O : Res × Mem, O = hout wrI [2, 0, 1] r m := ⟨_, rfl⟩
  rw [← hO]
  show J SHL G rm_L_call (.inl O) C 0 0 0 [(0, VR 0), (1, VI p0), (2, VI p1), (3, VI p2), (4, VI p3), (5, VR 489)] [] m
  refine s_loadR X 5 rfl dL_call_0 ?_
  refine s_const X (by unfold InR; omega) dL_call_2 ?_
  refine s_load0 X 0 rfl dL_call_3 ?_
  refine s_iload_n X 1 rfl dL_call_4 ?_
  refine s_iload_n X 2 rfl dL_call_5 ?_
  refine s_iload_n X 3 rfl dL_call_6 ?_
  refine s_iload X 4 rfl dL_call_7 ?_
  refine s_callVH (As := [VI p0, VI p1, VI p2, VI p3]) X cw_L_54 SHL_0 rfl dL_call_9 (con_C (L_C_call G p0 p1 p2 p3 m r h)) rfl ⟨Nat.le_of_ble_eq_true rfl, Nat.le_of_ble_eq_true rfl⟩ ⟨Nat.le_of_ble_eq_true rfl, Nat.le_of_ble_eq_true rfl⟩ (Nat.le_of_ble_eq_true rfl) ?_ ?_
  · obtain ⟨r1, m1⟩ := r
    intro x h9
    cases r1 with
    | inl v => cases h9
    | inr x0 =>
      cases h9
      have hx0 := hx _ rfl
      simp only [List.mem_cons, List.not_mem_nil, or_false] at hx0
      rcases hx0 with rfl | rfl | rfl
      · exact jx_catch (hp := 17) (z := 1) X tb nc ⟨[], [(0, 14, 21, 13), (0, 14, 25, 15)], (0, 14, 17, 21), rfl, (fun z hz => by cases hz), by decide +kernel, by decide, rfl, cl_L_21, cstT _⟩ ⟨by unfold InR; omega, Or.inl ⟨6, by decide, dL_call_17, dL_call_19, dL_call_20⟩⟩ (Nat.le_of_ble_eq_true rfl) (Nat.le_of_ble_eq_true rfl) (by show O = _; rw [hO]; rfl)
      · exact jx_catch (hp := 21) (z := 2) X tb nc ⟨[(0, 14, 17, 21)], [(0, 14, 25, 15)], (0, 14, 21, 13), rfl, (List.forall_mem_cons.mpr ⟨⟨by decide, "java/lang/IndexOutOfBoundsException", cl_L_21, by decide +kernel⟩, (fun z hz => by cases hz)⟩), by decide +kernel, by decide, rfl, cl_L_13, cstT _⟩ ⟨by unfold InR; omega, Or.inl ⟨6, by decide, dL_call_21, dL_call_23, dL_call_24⟩⟩ (Nat.le_of_ble_eq_true rfl) (Nat.le_of_ble_eq_true rfl) (by show O = _; rw [hO]; rfl)
      · exact jx_catch (hp := 25) (z := 3) X tb nc ⟨[(0, 14, 17, 21), (0, 14, 21, 13)], [], (0, 14, 25, 15), rfl, (List.forall_mem_cons.mpr ⟨⟨by decide, "java/lang/IndexOutOfBoundsException", cl_L_21, by decide +kernel⟩, (List.forall_mem_cons.mpr ⟨⟨by decide, "java/lang/IllegalArgumentException", cl_L_13, by decide +kernel⟩, (fun z hz => by cases hz)⟩)⟩), by decide +kernel, by decide, rfl, cl_L_15, cstT _⟩ ⟨by unfold InR; omega, Or.inl ⟨6, by decide, dL_call_25, dL_call_27, dL_call_28⟩⟩ (Nat.le_of_ble_eq_true rfl) (Nat.le_of_ble_eq_true rfl) (by show O = _; rw [hO]; rfl)
  · obtain ⟨r1, m1⟩ := r
    intro v h9
    cases r1 with
    | inr x0 => cases h9
    | inl a =>
      cases h9
      show J SHL G rm_L_call (.inl O) C 5 30 12 [(0, VR 0), (1, VI p0), (2, VI p1), (3, VI p2), (4, VI p3), (5, VR 489)] [VI a, VI 0, VR 489] (putM 0 455 m m1)
      refine s_i2l X dL_call_12 ?_
      refine s_last X SHL_489 dL_call_13 ?_
      refine s_goto (tgt := 29) X dL_call_14 (by omega) ?_
      refine s_const X (by unfold InR; omega) dL_call_29 ?_
      exact s_iret X (Nat.le_of_ble_eq_true rfl) (Nat.le_of_ble_eq_true rfl) (by show O = _; rw [hO]; rfl) dL_call_30
def rm_L_calls : Room := { frames := 8, cells := 1, slots := 6, locals := 124 }
def hh_L_calls : List (Nat × Nat × Nat × Nat) := [(0, 9, 12, 21)]
set_option maxRecDepth 20000 in
set_option maxHeartbeats 4000000 in
theorem H_calls (G : Gl) (p0 : Int) (m : Mem) (r : (Int ⊕ Nat) × Mem) (h : C_calls p0 m = some r) (hx : ∀ x, r.1 = .inr x → x ∈ [2]) : ConW SHL G yL_calls cL_calls 4 (some .int) hh_L_calls rm_L_calls [VR 0, VI p0, VR 489] m (hout wrI [2] r m) := by
  refine conW_of (own := "LastbusLaw") (by decide) rfl (Nat.le_of_ble_eq_true rfl) (fun C X tb nc => ?_)
  obtain ⟨O, hO⟩ : ∃ O : Res × Mem, O = hout wrI [2] r m := ⟨_, rfl⟩
  rw [← hO]
  show J SHL G rm_L_calls (.inl O) C 0 0 0 [(0, VR 0), (1, VI p0), (2, VR 489)] [] m
  refine s_load0 X 2 rfl dL_calls_0 ?_
  refine s_const X (by unfold InR; omega) dL_calls_1 ?_
  refine s_load0 X 0 rfl dL_calls_2 ?_
  refine s_iload_n X 1 rfl dL_calls_3 ?_
  refine s_callVH (As := [VI p0]) X cw_L_57 SHL_0 rfl dL_calls_4 (con_C (L_C_calls G p0 m r h)) rfl ⟨Nat.le_of_ble_eq_true rfl, Nat.le_of_ble_eq_true rfl⟩ ⟨Nat.le_of_ble_eq_true rfl, Nat.le_of_ble_eq_true rfl⟩ (Nat.le_of_ble_eq_true rfl) ?_ ?_
  · obtain ⟨r1, m1⟩ := r
    intro x h9
    cases r1 with
    | inl v => cases h9
    | inr x0 =>
      cases h9
      have hx0 := hx _ rfl
      simp only [List.mem_cons, List.not_mem_nil, or_false] at hx0
      rcases hx0 with rfl
      · exact jx_catch (hp := 12) (z := 1) X tb nc ⟨[], [], (0, 9, 12, 21), rfl, (fun z hz => by cases hz), by decide +kernel, by decide, rfl, cl_L_21, cstT _⟩ ⟨by unfold InR; omega, Or.inr ⟨3, by decide, dL_calls_12, dL_calls_13, dL_calls_14⟩⟩ (Nat.le_of_ble_eq_true rfl) (Nat.le_of_ble_eq_true rfl) (by show O = _; rw [hO]; rfl)
  · obtain ⟨r1, m1⟩ := r
    intro v h9
    cases r1 with
    | inr x0 => cases h9
    | inl a =>
      cases h9
      show J SHL G rm_L_calls (.inl O) C 1 6 7 [(0, VR 0), (1, VI p0), (2, VR 489)] [VI a, VI 0, VR 489] (putM 0 455 m m1)
      refine s_i2l X dL_calls_7 ?_
      refine s_last X SHL_489 dL_calls_8 ?_
      refine s_goto (tgt := 15) X dL_calls_9 (by omega) ?_
      refine s_const X (by unfold InR; omega) dL_calls_15 ?_
      exact s_iret X (Nat.le_of_ble_eq_true rfl) (Nat.le_of_ble_eq_true rfl) (by show O = _; rw [hO]; rfl) dL_calls_16
def rm_L_stopAt : Room := { frames := 9, cells := 2, slots := 12, locals := 147 }
def hh_L_stopAt : List (Nat × Nat × Nat × Nat) := [(0, 10, 13, 21)]
set_option maxRecDepth 20000 in
set_option maxHeartbeats 4000000 in
theorem H_stopAt (G : Gl) (p0 : Int) (p1 : Int) (m : Mem) (r : (Int ⊕ Nat) × Mem) (h : C_stopAt p0 p1 m = some r) (hx : ∀ x, r.1 = .inr x → x ∈ [2]) : ConW SHL G yL_stopAt cL_stopAt 5 (some .int) hh_L_stopAt rm_L_stopAt [VR 0, VI p0, VI p1, VR 489] m (hout wrI [2] r m) := by
  refine conW_of (own := "LastbusLaw") (by decide) rfl (Nat.le_of_ble_eq_true rfl) (fun C X tb nc => ?_)
  obtain ⟨O, hO⟩ : ∃ O : Res × Mem, O = hout wrI [2] r m := ⟨_, rfl⟩
  rw [← hO]
  show J SHL G rm_L_stopAt (.inl O) C 0 0 0 [(0, VR 0), (1, VI p0), (2, VI p1), (3, VR 489)] [] m
  refine s_load0 X 3 rfl dL_stopAt_0 ?_
  refine s_const X (by unfold InR; omega) dL_stopAt_1 ?_
  refine s_load0 X 0 rfl dL_stopAt_2 ?_
  refine s_iload_n X 1 rfl dL_stopAt_3 ?_
  refine s_iload_n X 2 rfl dL_stopAt_4 ?_
  refine s_callVH (As := [VI p0, VI p1]) X cw_L_60 SHL_0 rfl dL_stopAt_5 (con_C (L_C_stopAt G p0 p1 m r h)) rfl ⟨Nat.le_of_ble_eq_true rfl, Nat.le_of_ble_eq_true rfl⟩ ⟨Nat.le_of_ble_eq_true rfl, Nat.le_of_ble_eq_true rfl⟩ (Nat.le_of_ble_eq_true rfl) ?_ ?_
  · obtain ⟨r1, m1⟩ := r
    intro x h9
    cases r1 with
    | inl v => cases h9
    | inr x0 =>
      cases h9
      have hx0 := hx _ rfl
      simp only [List.mem_cons, List.not_mem_nil, or_false] at hx0
      rcases hx0 with rfl
      · exact jx_catch (hp := 13) (z := 1) X tb nc ⟨[], [], (0, 10, 13, 21), rfl, (fun z hz => by cases hz), by decide +kernel, by decide, rfl, cl_L_21, cstT _⟩ ⟨by unfold InR; omega, Or.inl ⟨4, by decide, dL_stopAt_13, dL_stopAt_15, dL_stopAt_16⟩⟩ (Nat.le_of_ble_eq_true rfl) (Nat.le_of_ble_eq_true rfl) (by show O = _; rw [hO]; rfl)
  · obtain ⟨r1, m1⟩ := r
    intro v h9
    cases r1 with
    | inr x0 => cases h9
    | inl a =>
      cases h9
      show J SHL G rm_L_stopAt (.inl O) C 2 12 8 [(0, VR 0), (1, VI p0), (2, VI p1), (3, VR 489)] [VI a, VI 0, VR 489] (putM 0 455 m m1)
      refine s_i2l X dL_stopAt_8 ?_
      refine s_last X SHL_489 dL_stopAt_9 ?_
      refine s_goto (tgt := 17) X dL_stopAt_10 (by omega) ?_
      refine s_const X (by unfold InR; omega) dL_stopAt_17 ?_
      exact s_iret X (Nat.le_of_ble_eq_true rfl) (Nat.le_of_ble_eq_true rfl) (by show O = _; rw [hO]; rfl) dL_stopAt_18
def rm_L_timeAt : Room := { frames := 9, cells := 2, slots := 12, locals := 148 }
def hh_L_timeAt : List (Nat × Nat × Nat × Nat) := [(0, 12, 15, 21)]
set_option maxRecDepth 20000 in
set_option maxHeartbeats 4000000 in
theorem H_timeAt (G : Gl) (p0 : Int) (p1 : Int) (p2 : Int) (m : Mem) (r : (Int ⊕ Nat) × Mem) (h : C_timeAt p0 p1 p2 m = some r) (hx : ∀ x, r.1 = .inr x → x ∈ [2]) : ConW SHL G yL_timeAt cL_timeAt 6 (some .int) hh_L_timeAt rm_L_timeAt [VR 0, VI p0, VI p1, VI p2, VR 489] m (hout wrI [2] r m) := by
  refine conW_of (own := "LastbusLaw") (by decide) rfl (Nat.le_of_ble_eq_true rfl) (fun C X tb nc => ?_)
  obtain ⟨O, hO⟩ : ∃ O : Res × Mem, O = hout wrI [2] r m := ⟨_, rfl⟩
  rw [← hO]
  show J SHL G rm_L_timeAt (.inl O) C 0 0 0 [(0, VR 0), (1, VI p0), (2, VI p1), (3, VI p2), (4, VR 489)] [] m
  refine s_loadR X 4 rfl dL_timeAt_0 ?_
  refine s_const X (by unfold InR; omega) dL_timeAt_2 ?_
  refine s_load0 X 0 rfl dL_timeAt_3 ?_
  refine s_iload_n X 1 rfl dL_timeAt_4 ?_
  refine s_iload_n X 2 rfl dL_timeAt_5 ?_
  refine s_iload_n X 3 rfl dL_timeAt_6 ?_
  refine s_callVH (As := [VI p0, VI p1, VI p2]) X cw_L_63 SHL_0 rfl dL_timeAt_7 (con_C (L_C_timeAt G p0 p1 p2 m r h)) rfl ⟨Nat.le_of_ble_eq_true rfl, Nat.le_of_ble_eq_true rfl⟩ ⟨Nat.le_of_ble_eq_true rfl, Nat.le_of_ble_eq_true rfl⟩ (Nat.le_of_ble_eq_true rfl) ?_ ?_
  · obtain ⟨r1, m1⟩ := r
    intro x h9
    cases r1 with
    | inl v => cases h9
    | inr x0 =>
      cases h9
      have hx0 := hx _ rfl
      simp only [List.mem_cons, List.not_mem_nil, or_false] at hx0
      rcases hx0 with rfl
      · exact jx_catch (hp := 15) (z := 1) X tb nc ⟨[], [], (0, 12, 15, 21), rfl, (fun z hz => by cases hz), by decide +kernel, by decide, rfl, cl_L_21, cstT _⟩ ⟨by unfold InR; omega, Or.inl ⟨5, by decide, dL_timeAt_15, dL_timeAt_17, dL_timeAt_18⟩⟩ (Nat.le_of_ble_eq_true rfl) (Nat.le_of_ble_eq_true rfl) (by show O = _; rw [hO]; rfl)
  · obtain ⟨r1, m1⟩ := r
    intro v h9
    cases r1 with
    | inr x0 => cases h9
    | inl a =>
      cases h9
      show J SHL G rm_L_timeAt (.inl O) C 2 12 10 [(0, VR 0), (1, VI p0), (2, VI p1), (3, VI p2), (4, VR 489)] [VI a, VI 0, VR 489] (putM 0 455 m m1)
      refine s_i2l X dL_timeAt_10 ?_
      refine s_last X SHL_489 dL_timeAt_11 ?_
      refine s_goto (tgt := 19) X dL_timeAt_12 (by omega) ?_
      refine s_const X (by unfold InR; omega) dL_timeAt_19 ?_
      exact s_iret X (Nat.le_of_ble_eq_true rfl) (Nat.le_of_ble_eq_true rfl) (by show O = _; rw [hO]; rfl) dL_timeAt_20
def rm_L_shift : Room := { frames := 9, cells := 4, slots := 24, locals := 148 }
def hh_L_shift : List (Nat × Nat × Nat × Nat) := [(0, 10, 13, 21), (0, 10, 17, 13)]
set_option maxRecDepth 20000 in
set_option maxHeartbeats 4000000 in
theorem H_shift (G : Gl) (p0 : Int) (p1 : Int) (m : Mem) (r : (Int ⊕ Nat) × Mem) (h : C_shift p0 p1 m = some r) (hx : ∀ x, r.1 = .inr x → x ∈ [2, 0]) : ConW SHL G yL_shift cL_shift 5 (some .int) hh_L_shift rm_L_shift [VR 0, VI p0, VI p1, VR 489] m (hout wrI [2, 0] r m) := by
  refine conW_of (own := "LastbusLaw") (by decide) rfl (Nat.le_of_ble_eq_true rfl) (fun C X tb nc => ?_)
  obtain ⟨O, hO⟩ : ∃ O : Res × Mem, O = hout wrI [2, 0] r m := ⟨_, rfl⟩
  rw [← hO]
  show J SHL G rm_L_shift (.inl O) C 0 0 0 [(0, VR 0), (1, VI p0), (2, VI p1), (3, VR 489)] [] m
  refine s_load0 X 3 rfl dL_shift_0 ?_
  refine s_const X (by unfold InR; omega) dL_shift_1 ?_
  refine s_load0 X 0 rfl dL_shift_2 ?_
  refine s_iload_n X 1 rfl dL_shift_3 ?_
  refine s_iload_n X 2 rfl dL_shift_4 ?_
  refine s_callVH (As := [VI p0, VI p1]) X cw_L_67 SHL_0 rfl dL_shift_5 (con_C (L_C_shift G p0 p1 m r h)) rfl ⟨Nat.le_of_ble_eq_true rfl, Nat.le_of_ble_eq_true rfl⟩ ⟨Nat.le_of_ble_eq_true rfl, Nat.le_of_ble_eq_true rfl⟩ (Nat.le_of_ble_eq_true rfl) ?_ ?_
  · obtain ⟨r1, m1⟩ := r
    intro x h9
    cases r1 with
    | inl v => cases h9
    | inr x0 =>
      cases h9
      have hx0 := hx _ rfl
      simp only [List.mem_cons, List.not_mem_nil, or_false] at hx0
      rcases hx0 with rfl | rfl
      · exact jx_catch (hp := 13) (z := 1) X tb nc ⟨[], [(0, 10, 17, 13)], (0, 10, 13, 21), rfl, (fun z hz => by cases hz), by decide +kernel, by decide, rfl, cl_L_21, cstT _⟩ ⟨by unfold InR; omega, Or.inl ⟨4, by decide, dL_shift_13, dL_shift_15, dL_shift_16⟩⟩ (Nat.le_of_ble_eq_true rfl) (Nat.le_of_ble_eq_true rfl) (by show O = _; rw [hO]; rfl)
      · exact jx_catch (hp := 17) (z := 2) X tb nc ⟨[(0, 10, 13, 21)], [], (0, 10, 17, 13), rfl, (List.forall_mem_cons.mpr ⟨⟨by decide, "java/lang/IndexOutOfBoundsException", cl_L_21, by decide +kernel⟩, (fun z hz => by cases hz)⟩), by decide +kernel, by decide, rfl, cl_L_13, cstT _⟩ ⟨by unfold InR; omega, Or.inl ⟨4, by decide, dL_shift_17, dL_shift_19, dL_shift_20⟩⟩ (Nat.le_of_ble_eq_true rfl) (Nat.le_of_ble_eq_true rfl) (by show O = _; rw [hO]; rfl)
  · obtain ⟨r1, m1⟩ := r
    intro v h9
    cases r1 with
    | inr x0 => cases h9
    | inl a =>
      cases h9
      show J SHL G rm_L_shift (.inl O) C 4 24 8 [(0, VR 0), (1, VI p0), (2, VI p1), (3, VR 489)] [VI a, VI 0, VR 489] (putM 0 455 m m1)
      refine s_i2l X dL_shift_8 ?_
      refine s_last X SHL_489 dL_shift_9 ?_
      refine s_goto (tgt := 21) X dL_shift_10 (by omega) ?_
      refine s_const X (by unfold InR; omega) dL_shift_21 ?_
      exact s_iret X (Nat.le_of_ble_eq_true rfl) (Nat.le_of_ble_eq_true rfl) (by show O = _; rw [hO]; rfl) dL_shift_22
def rm_L_type : Room := { frames := 8, cells := 1, slots := 6, locals := 124 }
def hh_L_type : List (Nat × Nat × Nat × Nat) := [(0, 9, 12, 15)]
set_option maxRecDepth 20000 in
set_option maxHeartbeats 4000000 in
theorem H_type (G : Gl) (p0 : Int) (m : Mem) (r : (Int ⊕ Nat) × Mem) (h : C_type p0 m = some r) (hx : ∀ x, r.1 = .inr x → x ∈ [1]) : ConW SHL G yL_type cL_type 4 (some .int) hh_L_type rm_L_type [VR 0, VI p0, VR 489] m (hout wrI [1] r m) := by
  refine conW_of (own := "LastbusLaw") (by decide) rfl (Nat.le_of_ble_eq_true rfl) (fun C X tb nc => ?_)
  obtain ⟨O, hO⟩ : ∃ O : Res × Mem, O = hout wrI [1] r m := ⟨_, rfl⟩
  rw [← hO]
  show J SHL G rm_L_type (.inl O) C 0 0 0 [(0, VR 0), (1, VI p0), (2, VR 489)] [] m
  refine s_load0 X 2 rfl dL_type_0 ?_
  refine s_const X (by unfold InR; omega) dL_type_1 ?_
  refine s_load0 X 0 rfl dL_type_2 ?_
  refine s_iload_n X 1 rfl dL_type_3 ?_
  refine s_callVH (As := [VI p0]) X cw_L_70 SHL_0 rfl dL_type_4 (con_C (L_C_type G p0 m r h)) rfl ⟨Nat.le_of_ble_eq_true rfl, Nat.le_of_ble_eq_true rfl⟩ ⟨Nat.le_of_ble_eq_true rfl, Nat.le_of_ble_eq_true rfl⟩ (Nat.le_of_ble_eq_true rfl) ?_ ?_
  · obtain ⟨r1, m1⟩ := r
    intro x h9
    cases r1 with
    | inl v => cases h9
    | inr x0 =>
      cases h9
      have hx0 := hx _ rfl
      simp only [List.mem_cons, List.not_mem_nil, or_false] at hx0
      rcases hx0 with rfl
      · exact jx_catch (hp := 12) (z := 1) X tb nc ⟨[], [], (0, 9, 12, 15), rfl, (fun z hz => by cases hz), by decide +kernel, by decide, rfl, cl_L_15, cstT _⟩ ⟨by unfold InR; omega, Or.inr ⟨3, by decide, dL_type_12, dL_type_13, dL_type_14⟩⟩ (Nat.le_of_ble_eq_true rfl) (Nat.le_of_ble_eq_true rfl) (by show O = _; rw [hO]; rfl)
  · obtain ⟨r1, m1⟩ := r
    intro v h9
    cases r1 with
    | inr x0 => cases h9
    | inl a =>
      cases h9
      show J SHL G rm_L_type (.inl O) C 1 6 7 [(0, VR 0), (1, VI p0), (2, VR 489)] [VI a, VI 0, VR 489] (putM 0 455 m m1)
      refine s_i2l X dL_type_7 ?_
      refine s_last X SHL_489 dL_type_8 ?_
      refine s_goto (tgt := 15) X dL_type_9 (by omega) ?_
      refine s_const X (by unfold InR; omega) dL_type_15 ?_
      exact s_iret X (Nat.le_of_ble_eq_true rfl) (Nat.le_of_ble_eq_true rfl) (by show O = _; rw [hO]; rfl) dL_type_16
def rm_L_typeNumber : Room := { frames := 8, cells := 2, slots := 12, locals := 125 }
def hh_L_typeNumber : List (Nat × Nat × Nat × Nat) := [(0, 9, 12, 13), (0, 9, 15, 15)]
set_option maxRecDepth 20000 in
set_option maxHeartbeats 4000000 in
theorem H_typeNumber (G : Gl) (p0 : Int) (m : Mem) (r : (Int ⊕ Nat) × Mem) (h : C_typeNumber p0 m = some r) (hx : ∀ x, r.1 = .inr x → x ∈ [0, 1]) : ConW SHL G yL_typeNumber cL_typeNumber 4 (some .int) hh_L_typeNumber rm_L_typeNumber [VR 0, VI p0, VR 489] m (hout wrI [0, 1] r m) := by
  refine conW_of (own := "LastbusLaw") (by decide) rfl (Nat.le_of_ble_eq_true rfl) (fun C X tb nc => ?_)
  obtain ⟨O, hO⟩ : ∃ O : Res × Mem, O = hout wrI [0, 1] r m := ⟨_, rfl⟩
  rw [← hO]
  show J SHL G rm_L_typeNumber (.inl O) C 0 0 0 [(0, VR 0), (1, VI p0), (2, VR 489)] [] m
  refine s_load0 X 2 rfl dL_typeNumber_0 ?_
  refine s_const X (by unfold InR; omega) dL_typeNumber_1 ?_
  refine s_load0 X 0 rfl dL_typeNumber_2 ?_
  refine s_iload_n X 1 rfl dL_typeNumber_3 ?_
  refine s_callVH (As := [VI p0]) X cw_L_74 SHL_0 rfl dL_typeNumber_4 (con_C (L_C_typeNumber G p0 m r h)) rfl ⟨Nat.le_of_ble_eq_true rfl, Nat.le_of_ble_eq_true rfl⟩ ⟨Nat.le_of_ble_eq_true rfl, Nat.le_of_ble_eq_true rfl⟩ (Nat.le_of_ble_eq_true rfl) ?_ ?_
  · obtain ⟨r1, m1⟩ := r
    intro x h9
    cases r1 with
    | inl v => cases h9
    | inr x0 =>
      cases h9
      have hx0 := hx _ rfl
      simp only [List.mem_cons, List.not_mem_nil, or_false] at hx0
      rcases hx0 with rfl | rfl
      · exact jx_catch (hp := 12) (z := 1) X tb nc ⟨[], [(0, 9, 15, 15)], (0, 9, 12, 13), rfl, (fun z hz => by cases hz), by decide +kernel, by decide, rfl, cl_L_13, cstT _⟩ ⟨by unfold InR; omega, Or.inr ⟨3, by decide, dL_typeNumber_12, dL_typeNumber_13, dL_typeNumber_14⟩⟩ (Nat.le_of_ble_eq_true rfl) (Nat.le_of_ble_eq_true rfl) (by show O = _; rw [hO]; rfl)
      · exact jx_catch (hp := 15) (z := 2) X tb nc ⟨[(0, 9, 12, 13)], [], (0, 9, 15, 15), rfl, (List.forall_mem_cons.mpr ⟨⟨by decide, "java/lang/IllegalArgumentException", cl_L_13, by decide +kernel⟩, (fun z hz => by cases hz)⟩), by decide +kernel, by decide, rfl, cl_L_15, cstT _⟩ ⟨by unfold InR; omega, Or.inr ⟨3, by decide, dL_typeNumber_15, dL_typeNumber_16, dL_typeNumber_17⟩⟩ (Nat.le_of_ble_eq_true rfl) (Nat.le_of_ble_eq_true rfl) (by show O = _; rw [hO]; rfl)
  · obtain ⟨r1, m1⟩ := r
    intro v h9
    cases r1 with
    | inr x0 => cases h9
    | inl a =>
      cases h9
      show J SHL G rm_L_typeNumber (.inl O) C 2 12 7 [(0, VR 0), (1, VI p0), (2, VR 489)] [VI a, VI 0, VR 489] (putM 0 455 m m1)
      refine s_i2l X dL_typeNumber_7 ?_
      refine s_last X SHL_489 dL_typeNumber_8 ?_
      refine s_goto (tgt := 18) X dL_typeNumber_9 (by omega) ?_
      refine s_const X (by unfold InR; omega) dL_typeNumber_18 ?_
      exact s_iret X (Nat.le_of_ble_eq_true rfl) (Nat.le_of_ble_eq_true rfl) (by show O = _; rw [hO]; rfl) dL_typeNumber_19
def rm_L_readRow : Room := { frames := 8, cells := 3, slots := 18, locals := 124 }
def hh_L_readRow : List (Nat × Nat × Nat × Nat) := [(0, 8, 11, 13), (0, 8, 14, 80), (0, 8, 17, 15)]
set_option maxRecDepth 20000 in
set_option maxHeartbeats 4000000 in
theorem H_readRow (G : Gl)  (m : Mem) (r : (Int ⊕ Nat) × Mem) (h : C_readRow m = some r) (hx : ∀ x, r.1 = .inr x → x ∈ [0, 4, 1]) : ConW SHL G yL_readRow cL_readRow 3 (some .int) hh_L_readRow rm_L_readRow [VR 0, VR 489] m (hout wrI [0, 4, 1] r m) := by
  refine conW_of (own := "LastbusLaw") (by decide) rfl (Nat.le_of_ble_eq_true rfl) (fun C X tb nc => ?_)
  obtain ⟨O, hO⟩ : ∃ O : Res × Mem, O = hout wrI [0, 4, 1] r m := ⟨_, rfl⟩
  rw [← hO]
  show J SHL G rm_L_readRow (.inl O) C 0 0 0 [(0, VR 0), (1, VR 489)] [] m
  refine s_load0 X 1 rfl dL_readRow_0 ?_
  refine s_const X (by unfold InR; omega) dL_readRow_1 ?_
  refine s_load0 X 0 rfl dL_readRow_2 ?_
  refine s_callVH (As := []) X cw_L_77 SHL_0 rfl dL_readRow_3 (con_C (L_C_readRow G m r h)) rfl ⟨Nat.le_of_ble_eq_true rfl, Nat.le_of_ble_eq_true rfl⟩ ⟨Nat.le_of_ble_eq_true rfl, Nat.le_of_ble_eq_true rfl⟩ (Nat.le_of_ble_eq_true rfl) ?_ ?_
  · obtain ⟨r1, m1⟩ := r
    intro x h9
    cases r1 with
    | inl v => cases h9
    | inr x0 =>
      cases h9
      have hx0 := hx _ rfl
      simp only [List.mem_cons, List.not_mem_nil, or_false] at hx0
      rcases hx0 with rfl | rfl | rfl
      · exact jx_catch (hp := 11) (z := 1) X tb nc ⟨[], [(0, 8, 14, 80), (0, 8, 17, 15)], (0, 8, 11, 13), rfl, (fun z hz => by cases hz), by decide +kernel, by decide, rfl, cl_L_13, cstT _⟩ ⟨by unfold InR; omega, Or.inr ⟨2, by decide, dL_readRow_11, dL_readRow_12, dL_readRow_13⟩⟩ (Nat.le_of_ble_eq_true rfl) (Nat.le_of_ble_eq_true rfl) (by show O = _; rw [hO]; rfl)
      · exact jx_catch (hp := 14) (z := 2) X tb nc ⟨[(0, 8, 11, 13)], [(0, 8, 17, 15)], (0, 8, 14, 80), rfl, (List.forall_mem_cons.mpr ⟨⟨by decide, "java/lang/IllegalArgumentException", cl_L_13, by decide +kernel⟩, (fun z hz => by cases hz)⟩), by decide +kernel, by decide, rfl, cl_L_80, cstT _⟩ ⟨by unfold InR; omega, Or.inr ⟨2, by decide, dL_readRow_14, dL_readRow_15, dL_readRow_16⟩⟩ (Nat.le_of_ble_eq_true rfl) (Nat.le_of_ble_eq_true rfl) (by show O = _; rw [hO]; rfl)
      · exact jx_catch (hp := 17) (z := 3) X tb nc ⟨[(0, 8, 11, 13), (0, 8, 14, 80)], [], (0, 8, 17, 15), rfl, (List.forall_mem_cons.mpr ⟨⟨by decide, "java/lang/IllegalArgumentException", cl_L_13, by decide +kernel⟩, (List.forall_mem_cons.mpr ⟨⟨by decide, "java/lang/UnsupportedOperationException", cl_L_80, by decide +kernel⟩, (fun z hz => by cases hz)⟩)⟩), by decide +kernel, by decide, rfl, cl_L_15, cstT _⟩ ⟨by unfold InR; omega, Or.inr ⟨2, by decide, dL_readRow_17, dL_readRow_18, dL_readRow_19⟩⟩ (Nat.le_of_ble_eq_true rfl) (Nat.le_of_ble_eq_true rfl) (by show O = _; rw [hO]; rfl)
  · obtain ⟨r1, m1⟩ := r
    intro v h9
    cases r1 with
    | inr x0 => cases h9
    | inl a =>
      cases h9
      show J SHL G rm_L_readRow (.inl O) C 3 18 6 [(0, VR 0), (1, VR 489)] [VI a, VI 0, VR 489] (putM 0 455 m m1)
      refine s_i2l X dL_readRow_6 ?_
      refine s_last X SHL_489 dL_readRow_7 ?_
      refine s_goto (tgt := 20) X dL_readRow_8 (by omega) ?_
      refine s_const X (by unfold InR; omega) dL_readRow_20 ?_
      exact s_iret X (Nat.le_of_ble_eq_true rfl) (Nat.le_of_ble_eq_true rfl) (by show O = _; rw [hO]; rfl) dL_readRow_21
def rm_L_faultAt : Room := { frames := 7, cells := 1, slots := 6, locals := 102 }
def hh_L_faultAt : List (Nat × Nat × Nat × Nat) := [(0, 8, 11, 30)]
set_option maxRecDepth 20000 in
set_option maxHeartbeats 4000000 in
theorem H_faultAt (G : Gl)  (m : Mem) (r : (Int ⊕ Nat) × Mem) (h : C_faultAt m = some r) (hx : ∀ x, r.1 = .inr x → x ∈ [5]) : ConW SHL G yL_faultAt cL_faultAt 3 (some .int) hh_L_faultAt rm_L_faultAt [VR 0, VR 489] m (hout wrI [5] r m) := by
  refine conW_of (own := "LastbusLaw") (by decide) rfl (Nat.le_of_ble_eq_true rfl) (fun C X tb nc => ?_)
  obtain ⟨O, hO⟩ : ∃ O : Res × Mem, O = hout wrI [5] r m := ⟨_, rfl⟩
  rw [← hO]
  show J SHL G rm_L_faultAt (.inl O) C 0 0 0 [(0, VR 0), (1, VR 489)] [] m
  refine s_load0 X 1 rfl dL_faultAt_0 ?_
  refine s_const X (by unfold InR; omega) dL_faultAt_1 ?_
  refine s_load0 X 0 rfl dL_faultAt_2 ?_
  refine s_callVH (As := []) X cw_L_82 SHL_0 rfl dL_faultAt_3 (con_C (L_C_faultAt G m r h)) rfl ⟨Nat.le_of_ble_eq_true rfl, Nat.le_of_ble_eq_true rfl⟩ ⟨Nat.le_of_ble_eq_true rfl, Nat.le_of_ble_eq_true rfl⟩ (Nat.le_of_ble_eq_true rfl) ?_ ?_
  · obtain ⟨r1, m1⟩ := r
    intro x h9
    cases r1 with
    | inl v => cases h9
    | inr x0 =>
      cases h9
      have hx0 := hx _ rfl
      simp only [List.mem_cons, List.not_mem_nil, or_false] at hx0
      rcases hx0 with rfl
      · exact jx_catch (hp := 11) (z := 1) X tb nc ⟨[], [], (0, 8, 11, 30), rfl, (fun z hz => by cases hz), by decide +kernel, by decide, rfl, cl_L_30, cstT _⟩ ⟨by unfold InR; omega, Or.inr ⟨2, by decide, dL_faultAt_11, dL_faultAt_12, dL_faultAt_13⟩⟩ (Nat.le_of_ble_eq_true rfl) (Nat.le_of_ble_eq_true rfl) (by show O = _; rw [hO]; rfl)
  · obtain ⟨r1, m1⟩ := r
    intro v h9
    cases r1 with
    | inr x0 => cases h9
    | inl a =>
      cases h9
      show J SHL G rm_L_faultAt (.inl O) C 1 6 6 [(0, VR 0), (1, VR 489)] [VI a, VI 0, VR 489] (putM 0 455 m m1)
      refine s_i2l X dL_faultAt_6 ?_
      refine s_last X SHL_489 dL_faultAt_7 ?_
      refine s_goto (tgt := 14) X dL_faultAt_8 (by omega) ?_
      refine s_const X (by unfold InR; omega) dL_faultAt_14 ?_
      exact s_iret X (Nat.le_of_ble_eq_true rfl) (Nat.le_of_ble_eq_true rfl) (by show O = _; rw [hO]; rfl) dL_faultAt_15
def rm_L_late : Room := { frames := 9, cells := 5, slots := 30, locals := 151 }
def hh_L_late : List (Nat × Nat × Nat × Nat) := [(0, 14, 17, 21), (0, 14, 21, 13), (0, 14, 25, 15)]
set_option maxRecDepth 20000 in
set_option maxHeartbeats 4000000 in
theorem H_late (G : Gl) (p0 : Int) (p1 : Int) (p2 : Int) (p3 : Int) (m : Mem) (r : (Int ⊕ Nat) × Mem) (h : C_late p0 p1 p2 p3 m = some r) (hx : ∀ x, r.1 = .inr x → x ∈ [2, 0, 1]) : ConW SHL G yL_late cL_late 7 (some .int) hh_L_late rm_L_late [VR 0, VI p0, VI p1, VI p2, VI p3, VR 489] m (hout wrI [2, 0, 1] r m) := by
  refine conW_of (own := "LastbusLaw") (by decide) rfl (Nat.le_of_ble_eq_true rfl) (fun C X tb nc => ?_)
  obtain ⟨O, hO⟩ : ∃ O : Res × Mem, O = hout wrI [2, 0, 1] r m := ⟨_, rfl⟩
  rw [← hO]
  show J SHL G rm_L_late (.inl O) C 0 0 0 [(0, VR 0), (1, VI p0), (2, VI p1), (3, VI p2), (4, VI p3), (5, VR 489)] [] m
  refine s_loadR X 5 rfl dL_late_0 ?_
  refine s_const X (by unfold InR; omega) dL_late_2 ?_
  refine s_load0 X 0 rfl dL_late_3 ?_
  refine s_iload_n X 1 rfl dL_late_4 ?_
  refine s_iload_n X 2 rfl dL_late_5 ?_
  refine s_iload_n X 3 rfl dL_late_6 ?_
  refine s_iload X 4 rfl dL_late_7 ?_
  refine s_callVH (As := [VI p0, VI p1, VI p2, VI p3]) X cw_L_85 SHL_0 rfl dL_late_9 (con_C (L_C_late G p0 p1 p2 p3 m r h)) rfl ⟨Nat.le_of_ble_eq_true rfl, Nat.le_of_ble_eq_true rfl⟩ ⟨Nat.le_of_ble_eq_true rfl, Nat.le_of_ble_eq_true rfl⟩ (Nat.le_of_ble_eq_true rfl) ?_ ?_
  · obtain ⟨r1, m1⟩ := r
    intro x h9
    cases r1 with
    | inl v => cases h9
    | inr x0 =>
      cases h9
      have hx0 := hx _ rfl
      simp only [List.mem_cons, List.not_mem_nil, or_false] at hx0
      rcases hx0 with rfl | rfl | rfl
      · exact jx_catch (hp := 17) (z := 1) X tb nc ⟨[], [(0, 14, 21, 13), (0, 14, 25, 15)], (0, 14, 17, 21), rfl, (fun z hz => by cases hz), by decide +kernel, by decide, rfl, cl_L_21, cstT _⟩ ⟨by unfold InR; omega, Or.inl ⟨6, by decide, dL_late_17, dL_late_19, dL_late_20⟩⟩ (Nat.le_of_ble_eq_true rfl) (Nat.le_of_ble_eq_true rfl) (by show O = _; rw [hO]; rfl)
      · exact jx_catch (hp := 21) (z := 2) X tb nc ⟨[(0, 14, 17, 21)], [(0, 14, 25, 15)], (0, 14, 21, 13), rfl, (List.forall_mem_cons.mpr ⟨⟨by decide, "java/lang/IndexOutOfBoundsException", cl_L_21, by decide +kernel⟩, (fun z hz => by cases hz)⟩), by decide +kernel, by decide, rfl, cl_L_13, cstT _⟩ ⟨by unfold InR; omega, Or.inl ⟨6, by decide, dL_late_21, dL_late_23, dL_late_24⟩⟩ (Nat.le_of_ble_eq_true rfl) (Nat.le_of_ble_eq_true rfl) (by show O = _; rw [hO]; rfl)
      · exact jx_catch (hp := 25) (z := 3) X tb nc ⟨[(0, 14, 17, 21), (0, 14, 21, 13)], [], (0, 14, 25, 15), rfl, (List.forall_mem_cons.mpr ⟨⟨by decide, "java/lang/IndexOutOfBoundsException", cl_L_21, by decide +kernel⟩, (List.forall_mem_cons.mpr ⟨⟨by decide, "java/lang/IllegalArgumentException", cl_L_13, by decide +kernel⟩, (fun z hz => by cases hz)⟩)⟩), by decide +kernel, by decide, rfl, cl_L_15, cstT _⟩ ⟨by unfold InR; omega, Or.inl ⟨6, by decide, dL_late_25, dL_late_27, dL_late_28⟩⟩ (Nat.le_of_ble_eq_true rfl) (Nat.le_of_ble_eq_true rfl) (by show O = _; rw [hO]; rfl)
  · obtain ⟨r1, m1⟩ := r
    intro v h9
    cases r1 with
    | inr x0 => cases h9
    | inl a =>
      cases h9
      show J SHL G rm_L_late (.inl O) C 5 30 12 [(0, VR 0), (1, VI p0), (2, VI p1), (3, VI p2), (4, VI p3), (5, VR 489)] [VI a, VI 0, VR 489] (putM 0 455 m m1)
      refine s_i2l X dL_late_12 ?_
      refine s_last X SHL_489 dL_late_13 ?_
      refine s_goto (tgt := 29) X dL_late_14 (by omega) ?_
      refine s_const X (by unfold InR; omega) dL_late_29 ?_
      exact s_iret X (Nat.le_of_ble_eq_true rfl) (Nat.le_of_ble_eq_true rfl) (by show O = _; rw [hO]; rfl) dL_late_30
def rm_L_lateness : Room := { frames := 9, cells := 3, slots := 18, locals := 148 }
def hh_L_lateness : List (Nat × Nat × Nat × Nat) := [(0, 12, 15, 21), (0, 12, 19, 13)]
set_option maxRecDepth 20000 in
set_option maxHeartbeats 4000000 in
theorem H_lateness (G : Gl) (p0 : Int) (p1 : Int) (p2 : Int) (m : Mem) (r : (Int ⊕ Nat) × Mem) (h : C_lateness p0 p1 p2 m = some r) (hx : ∀ x, r.1 = .inr x → x ∈ [2, 0]) : ConW SHL G yL_lateness cL_lateness 6 (some .int) hh_L_lateness rm_L_lateness [VR 0, VI p0, VI p1, VI p2, VR 489] m (hout wrI [2, 0] r m) := by
  refine conW_of (own := "LastbusLaw") (by decide) rfl (Nat.le_of_ble_eq_true rfl) (fun C X tb nc => ?_)
  obtain ⟨O, hO⟩ : ∃ O : Res × Mem, O = hout wrI [2, 0] r m := ⟨_, rfl⟩
  rw [← hO]
  show J SHL G rm_L_lateness (.inl O) C 0 0 0 [(0, VR 0), (1, VI p0), (2, VI p1), (3, VI p2), (4, VR 489)] [] m
  refine s_loadR X 4 rfl dL_lateness_0 ?_
  refine s_const X (by unfold InR; omega) dL_lateness_2 ?_
  refine s_load0 X 0 rfl dL_lateness_3 ?_
  refine s_iload_n X 1 rfl dL_lateness_4 ?_
  refine s_iload_n X 2 rfl dL_lateness_5 ?_
  refine s_iload_n X 3 rfl dL_lateness_6 ?_
  refine s_callVH (As := [VI p0, VI p1, VI p2]) X cw_L_88 SHL_0 rfl dL_lateness_7 (con_C (L_C_lateness G p0 p1 p2 m r h)) rfl ⟨Nat.le_of_ble_eq_true rfl, Nat.le_of_ble_eq_true rfl⟩ ⟨Nat.le_of_ble_eq_true rfl, Nat.le_of_ble_eq_true rfl⟩ (Nat.le_of_ble_eq_true rfl) ?_ ?_
  · obtain ⟨r1, m1⟩ := r
    intro x h9
    cases r1 with
    | inl v => cases h9
    | inr x0 =>
      cases h9
      have hx0 := hx _ rfl
      simp only [List.mem_cons, List.not_mem_nil, or_false] at hx0
      rcases hx0 with rfl | rfl
      · exact jx_catch (hp := 15) (z := 1) X tb nc ⟨[], [(0, 12, 19, 13)], (0, 12, 15, 21), rfl, (fun z hz => by cases hz), by decide +kernel, by decide, rfl, cl_L_21, cstT _⟩ ⟨by unfold InR; omega, Or.inl ⟨5, by decide, dL_lateness_15, dL_lateness_17, dL_lateness_18⟩⟩ (Nat.le_of_ble_eq_true rfl) (Nat.le_of_ble_eq_true rfl) (by show O = _; rw [hO]; rfl)
      · exact jx_catch (hp := 19) (z := 2) X tb nc ⟨[(0, 12, 15, 21)], [], (0, 12, 19, 13), rfl, (List.forall_mem_cons.mpr ⟨⟨by decide, "java/lang/IndexOutOfBoundsException", cl_L_21, by decide +kernel⟩, (fun z hz => by cases hz)⟩), by decide +kernel, by decide, rfl, cl_L_13, cstT _⟩ ⟨by unfold InR; omega, Or.inl ⟨5, by decide, dL_lateness_19, dL_lateness_21, dL_lateness_22⟩⟩ (Nat.le_of_ble_eq_true rfl) (Nat.le_of_ble_eq_true rfl) (by show O = _; rw [hO]; rfl)
  · obtain ⟨r1, m1⟩ := r
    intro v h9
    cases r1 with
    | inr x0 => cases h9
    | inl a =>
      cases h9
      show J SHL G rm_L_lateness (.inl O) C 3 18 10 [(0, VR 0), (1, VI p0), (2, VI p1), (3, VI p2), (4, VR 489)] [VI a, VI 0, VR 489] (putM 0 455 m m1)
      refine s_i2l X dL_lateness_10 ?_
      refine s_last X SHL_489 dL_lateness_11 ?_
      refine s_goto (tgt := 23) X dL_lateness_12 (by omega) ?_
      refine s_const X (by unfold InR; omega) dL_lateness_23 ?_
      exact s_iret X (Nat.le_of_ble_eq_true rfl) (Nat.le_of_ble_eq_true rfl) (by show O = _; rw [hO]; rfl) dL_lateness_24
def rm_L_earliest : Room := { frames := 10, cells := 5, slots := 30, locals := 172 }
def hh_L_earliest : List (Nat × Nat × Nat × Nat) := [(0, 14, 17, 21), (0, 14, 21, 13), (0, 14, 25, 30)]
set_option maxRecDepth 20000 in
set_option maxHeartbeats 4000000 in
theorem H_earliest (G : Gl) (p0 : Int) (p1 : Int) (p2 : Int) (p3 : Int) (m : Mem) (r : (Int ⊕ Nat) × Mem) (h : C_earliest p0 p1 p2 p3 m = some r) (hx : ∀ x, r.1 = .inr x → x ∈ [2, 0, 5]) : ConW SHL G yL_earliest cL_earliest 7 (some .int) hh_L_earliest rm_L_earliest [VR 0, VI p0, VI p1, VI p2, VI p3, VR 489] m (hout wrI [2, 0, 5] r m) := by
  refine conW_of (own := "LastbusLaw") (by decide) rfl (Nat.le_of_ble_eq_true rfl) (fun C X tb nc => ?_)
  obtain ⟨O, hO⟩ : ∃ O : Res × Mem, O = hout wrI [2, 0, 5] r m := ⟨_, rfl⟩
  rw [← hO]
  show J SHL G rm_L_earliest (.inl O) C 0 0 0 [(0, VR 0), (1, VI p0), (2, VI p1), (3, VI p2), (4, VI p3), (5, VR 489)] [] m
  refine s_loadR X 5 rfl dL_earliest_0 ?_
  refine s_const X (by unfold InR; omega) dL_earliest_2 ?_
  refine s_load0 X 0 rfl dL_earliest_3 ?_
  refine s_iload_n X 1 rfl dL_earliest_4 ?_
  refine s_iload_n X 2 rfl dL_earliest_5 ?_
  refine s_iload_n X 3 rfl dL_earliest_6 ?_
  refine s_iload X 4 rfl dL_earliest_7 ?_
  refine s_callVH (As := [VI p0, VI p1, VI p2, VI p3]) X cw_L_91 SHL_0 rfl dL_earliest_9 (con_C (L_C_earliest G p0 p1 p2 p3 m r h)) rfl ⟨Nat.le_of_ble_eq_true rfl, Nat.le_of_ble_eq_true rfl⟩ ⟨Nat.le_of_ble_eq_true rfl, Nat.le_of_ble_eq_true rfl⟩ (Nat.le_of_ble_eq_true rfl) ?_ ?_
  · obtain ⟨r1, m1⟩ := r
    intro x h9
    cases r1 with
    | inl v => cases h9
    | inr x0 =>
      cases h9
      have hx0 := hx _ rfl
      simp only [List.mem_cons, List.not_mem_nil, or_false] at hx0
      rcases hx0 with rfl | rfl | rfl
      · exact jx_catch (hp := 17) (z := 1) X tb nc ⟨[], [(0, 14, 21, 13), (0, 14, 25, 30)], (0, 14, 17, 21), rfl, (fun z hz => by cases hz), by decide +kernel, by decide, rfl, cl_L_21, cstT _⟩ ⟨by unfold InR; omega, Or.inl ⟨6, by decide, dL_earliest_17, dL_earliest_19, dL_earliest_20⟩⟩ (Nat.le_of_ble_eq_true rfl) (Nat.le_of_ble_eq_true rfl) (by show O = _; rw [hO]; rfl)
      · exact jx_catch (hp := 21) (z := 2) X tb nc ⟨[(0, 14, 17, 21)], [(0, 14, 25, 30)], (0, 14, 21, 13), rfl, (List.forall_mem_cons.mpr ⟨⟨by decide, "java/lang/IndexOutOfBoundsException", cl_L_21, by decide +kernel⟩, (fun z hz => by cases hz)⟩), by decide +kernel, by decide, rfl, cl_L_13, cstT _⟩ ⟨by unfold InR; omega, Or.inl ⟨6, by decide, dL_earliest_21, dL_earliest_23, dL_earliest_24⟩⟩ (Nat.le_of_ble_eq_true rfl) (Nat.le_of_ble_eq_true rfl) (by show O = _; rw [hO]; rfl)
      · exact jx_catch (hp := 25) (z := 3) X tb nc ⟨[(0, 14, 17, 21), (0, 14, 21, 13)], [], (0, 14, 25, 30), rfl, (List.forall_mem_cons.mpr ⟨⟨by decide, "java/lang/IndexOutOfBoundsException", cl_L_21, by decide +kernel⟩, (List.forall_mem_cons.mpr ⟨⟨by decide, "java/lang/IllegalArgumentException", cl_L_13, by decide +kernel⟩, (fun z hz => by cases hz)⟩)⟩), by decide +kernel, by decide, rfl, cl_L_30, cstT _⟩ ⟨by unfold InR; omega, Or.inl ⟨6, by decide, dL_earliest_25, dL_earliest_27, dL_earliest_28⟩⟩ (Nat.le_of_ble_eq_true rfl) (Nat.le_of_ble_eq_true rfl) (by show O = _; rw [hO]; rfl)
  · obtain ⟨r1, m1⟩ := r
    intro v h9
    cases r1 with
    | inr x0 => cases h9
    | inl a =>
      cases h9
      show J SHL G rm_L_earliest (.inl O) C 5 30 12 [(0, VR 0), (1, VI p0), (2, VI p1), (3, VI p2), (4, VI p3), (5, VR 489)] [VI a, VI 0, VR 489] (putM 0 455 m m1)
      refine s_i2l X dL_earliest_12 ?_
      refine s_last X SHL_489 dL_earliest_13 ?_
      refine s_goto (tgt := 29) X dL_earliest_14 (by omega) ?_
      refine s_const X (by unfold InR; omega) dL_earliest_29 ?_
      exact s_iret X (Nat.le_of_ble_eq_true rfl) (Nat.le_of_ble_eq_true rfl) (by show O = _; rw [hO]; rfl) dL_earliest_30
def rm_L_earliestByQueue : Room := { frames := 10, cells := 5, slots := 30, locals := 172 }
def hh_L_earliestByQueue : List (Nat × Nat × Nat × Nat) := [(0, 14, 17, 21), (0, 14, 21, 13), (0, 14, 25, 30)]
set_option maxRecDepth 20000 in
set_option maxHeartbeats 4000000 in
theorem H_earliestByQueue (G : Gl) (p0 : Int) (p1 : Int) (p2 : Int) (p3 : Int) (m : Mem) (r : (Int ⊕ Nat) × Mem) (h : C_earliestByQueue p0 p1 p2 p3 m = some r) (hx : ∀ x, r.1 = .inr x → x ∈ [2, 0, 5]) : ConW SHL G yL_earliestByQueue cL_earliestByQueue 7 (some .int) hh_L_earliestByQueue rm_L_earliestByQueue [VR 0, VI p0, VI p1, VI p2, VI p3, VR 489] m (hout wrI [2, 0, 5] r m) := by
  refine conW_of (own := "LastbusLaw") (by decide) rfl (Nat.le_of_ble_eq_true rfl) (fun C X tb nc => ?_)
  obtain ⟨O, hO⟩ : ∃ O : Res × Mem, O = hout wrI [2, 0, 5] r m := ⟨_, rfl⟩
  rw [← hO]
  show J SHL G rm_L_earliestByQueue (.inl O) C 0 0 0 [(0, VR 0), (1, VI p0), (2, VI p1), (3, VI p2), (4, VI p3), (5, VR 489)] [] m
  refine s_loadR X 5 rfl dL_earliestByQueue_0 ?_
  refine s_const X (by unfold InR; omega) dL_earliestByQueue_2 ?_
  refine s_load0 X 0 rfl dL_earliestByQueue_3 ?_
  refine s_iload_n X 1 rfl dL_earliestByQueue_4 ?_
  refine s_iload_n X 2 rfl dL_earliestByQueue_5 ?_
  refine s_iload_n X 3 rfl dL_earliestByQueue_6 ?_
  refine s_iload X 4 rfl dL_earliestByQueue_7 ?_
  refine s_callVH (As := [VI p0, VI p1, VI p2, VI p3]) X cw_L_94 SHL_0 rfl dL_earliestByQueue_9 (con_C (L_C_earliestByQueue G p0 p1 p2 p3 m r h)) rfl ⟨Nat.le_of_ble_eq_true rfl, Nat.le_of_ble_eq_true rfl⟩ ⟨Nat.le_of_ble_eq_true rfl, Nat.le_of_ble_eq_true rfl⟩ (Nat.le_of_ble_eq_true rfl) ?_ ?_
  · obtain ⟨r1, m1⟩ := r
    intro x h9
    cases r1 with
    | inl v => cases h9
    | inr x0 =>
      cases h9
      have hx0 := hx _ rfl
      simp only [List.mem_cons, List.not_mem_nil, or_false] at hx0
      rcases hx0 with rfl | rfl | rfl
      · exact jx_catch (hp := 17) (z := 1) X tb nc ⟨[], [(0, 14, 21, 13), (0, 14, 25, 30)], (0, 14, 17, 21), rfl, (fun z hz => by cases hz), by decide +kernel, by decide, rfl, cl_L_21, cstT _⟩ ⟨by unfold InR; omega, Or.inl ⟨6, by decide, dL_earliestByQueue_17, dL_earliestByQueue_19, dL_earliestByQueue_20⟩⟩ (Nat.le_of_ble_eq_true rfl) (Nat.le_of_ble_eq_true rfl) (by show O = _; rw [hO]; rfl)
      · exact jx_catch (hp := 21) (z := 2) X tb nc ⟨[(0, 14, 17, 21)], [(0, 14, 25, 30)], (0, 14, 21, 13), rfl, (List.forall_mem_cons.mpr ⟨⟨by decide, "java/lang/IndexOutOfBoundsException", cl_L_21, by decide +kernel⟩, (fun z hz => by cases hz)⟩), by decide +kernel, by decide, rfl, cl_L_13, cstT _⟩ ⟨by unfold InR; omega, Or.inl ⟨6, by decide, dL_earliestByQueue_21, dL_earliestByQueue_23, dL_earliestByQueue_24⟩⟩ (Nat.le_of_ble_eq_true rfl) (Nat.le_of_ble_eq_true rfl) (by show O = _; rw [hO]; rfl)
      · exact jx_catch (hp := 25) (z := 3) X tb nc ⟨[(0, 14, 17, 21), (0, 14, 21, 13)], [], (0, 14, 25, 30), rfl, (List.forall_mem_cons.mpr ⟨⟨by decide, "java/lang/IndexOutOfBoundsException", cl_L_21, by decide +kernel⟩, (List.forall_mem_cons.mpr ⟨⟨by decide, "java/lang/IllegalArgumentException", cl_L_13, by decide +kernel⟩, (fun z hz => by cases hz)⟩)⟩), by decide +kernel, by decide, rfl, cl_L_30, cstT _⟩ ⟨by unfold InR; omega, Or.inl ⟨6, by decide, dL_earliestByQueue_25, dL_earliestByQueue_27, dL_earliestByQueue_28⟩⟩ (Nat.le_of_ble_eq_true rfl) (Nat.le_of_ble_eq_true rfl) (by show O = _; rw [hO]; rfl)
  · obtain ⟨r1, m1⟩ := r
    intro v h9
    cases r1 with
    | inr x0 => cases h9
    | inl a =>
      cases h9
      show J SHL G rm_L_earliestByQueue (.inl O) C 5 30 12 [(0, VR 0), (1, VI p0), (2, VI p1), (3, VI p2), (4, VI p3), (5, VR 489)] [VI a, VI 0, VR 489] (putM 0 455 m m1)
      refine s_i2l X dL_earliestByQueue_12 ?_
      refine s_last X SHL_489 dL_earliestByQueue_13 ?_
      refine s_goto (tgt := 29) X dL_earliestByQueue_14 (by omega) ?_
      refine s_const X (by unfold InR; omega) dL_earliestByQueue_29 ?_
      exact s_iret X (Nat.le_of_ble_eq_true rfl) (Nat.le_of_ble_eq_true rfl) (by show O = _; rw [hO]; rfl) dL_earliestByQueue_30
def rm_L_earliestByRounds : Room := { frames := 10, cells := 5, slots := 30, locals := 172 }
def hh_L_earliestByRounds : List (Nat × Nat × Nat × Nat) := [(0, 14, 17, 21), (0, 14, 21, 13), (0, 14, 25, 30)]
set_option maxRecDepth 20000 in
set_option maxHeartbeats 4000000 in
theorem H_earliestByRounds (G : Gl) (p0 : Int) (p1 : Int) (p2 : Int) (p3 : Int) (m : Mem) (r : (Int ⊕ Nat) × Mem) (h : C_earliestByRounds p0 p1 p2 p3 m = some r) (hx : ∀ x, r.1 = .inr x → x ∈ [2, 0, 5]) : ConW SHL G yL_earliestByRounds cL_earliestByRounds 7 (some .int) hh_L_earliestByRounds rm_L_earliestByRounds [VR 0, VI p0, VI p1, VI p2, VI p3, VR 489] m (hout wrI [2, 0, 5] r m) := by
  refine conW_of (own := "LastbusLaw") (by decide) rfl (Nat.le_of_ble_eq_true rfl) (fun C X tb nc => ?_)
  obtain ⟨O, hO⟩ : ∃ O : Res × Mem, O = hout wrI [2, 0, 5] r m := ⟨_, rfl⟩
  rw [← hO]
  show J SHL G rm_L_earliestByRounds (.inl O) C 0 0 0 [(0, VR 0), (1, VI p0), (2, VI p1), (3, VI p2), (4, VI p3), (5, VR 489)] [] m
  refine s_loadR X 5 rfl dL_earliestByRounds_0 ?_
  refine s_const X (by unfold InR; omega) dL_earliestByRounds_2 ?_
  refine s_load0 X 0 rfl dL_earliestByRounds_3 ?_
  refine s_iload_n X 1 rfl dL_earliestByRounds_4 ?_
  refine s_iload_n X 2 rfl dL_earliestByRounds_5 ?_
  refine s_iload_n X 3 rfl dL_earliestByRounds_6 ?_
  refine s_iload X 4 rfl dL_earliestByRounds_7 ?_
  refine s_callVH (As := [VI p0, VI p1, VI p2, VI p3]) X cw_L_97 SHL_0 rfl dL_earliestByRounds_9 (con_C (L_C_earliestByRounds G p0 p1 p2 p3 m r h)) rfl ⟨Nat.le_of_ble_eq_true rfl, Nat.le_of_ble_eq_true rfl⟩ ⟨Nat.le_of_ble_eq_true rfl, Nat.le_of_ble_eq_true rfl⟩ (Nat.le_of_ble_eq_true rfl) ?_ ?_
  · obtain ⟨r1, m1⟩ := r
    intro x h9
    cases r1 with
    | inl v => cases h9
    | inr x0 =>
      cases h9
      have hx0 := hx _ rfl
      simp only [List.mem_cons, List.not_mem_nil, or_false] at hx0
      rcases hx0 with rfl | rfl | rfl
      · exact jx_catch (hp := 17) (z := 1) X tb nc ⟨[], [(0, 14, 21, 13), (0, 14, 25, 30)], (0, 14, 17, 21), rfl, (fun z hz => by cases hz), by decide +kernel, by decide, rfl, cl_L_21, cstT _⟩ ⟨by unfold InR; omega, Or.inl ⟨6, by decide, dL_earliestByRounds_17, dL_earliestByRounds_19, dL_earliestByRounds_20⟩⟩ (Nat.le_of_ble_eq_true rfl) (Nat.le_of_ble_eq_true rfl) (by show O = _; rw [hO]; rfl)
      · exact jx_catch (hp := 21) (z := 2) X tb nc ⟨[(0, 14, 17, 21)], [(0, 14, 25, 30)], (0, 14, 21, 13), rfl, (List.forall_mem_cons.mpr ⟨⟨by decide, "java/lang/IndexOutOfBoundsException", cl_L_21, by decide +kernel⟩, (fun z hz => by cases hz)⟩), by decide +kernel, by decide, rfl, cl_L_13, cstT _⟩ ⟨by unfold InR; omega, Or.inl ⟨6, by decide, dL_earliestByRounds_21, dL_earliestByRounds_23, dL_earliestByRounds_24⟩⟩ (Nat.le_of_ble_eq_true rfl) (Nat.le_of_ble_eq_true rfl) (by show O = _; rw [hO]; rfl)
      · exact jx_catch (hp := 25) (z := 3) X tb nc ⟨[(0, 14, 17, 21), (0, 14, 21, 13)], [], (0, 14, 25, 30), rfl, (List.forall_mem_cons.mpr ⟨⟨by decide, "java/lang/IndexOutOfBoundsException", cl_L_21, by decide +kernel⟩, (List.forall_mem_cons.mpr ⟨⟨by decide, "java/lang/IllegalArgumentException", cl_L_13, by decide +kernel⟩, (fun z hz => by cases hz)⟩)⟩), by decide +kernel, by decide, rfl, cl_L_30, cstT _⟩ ⟨by unfold InR; omega, Or.inl ⟨6, by decide, dL_earliestByRounds_25, dL_earliestByRounds_27, dL_earliestByRounds_28⟩⟩ (Nat.le_of_ble_eq_true rfl) (Nat.le_of_ble_eq_true rfl) (by show O = _; rw [hO]; rfl)
  · obtain ⟨r1, m1⟩ := r
    intro v h9
    cases r1 with
    | inr x0 => cases h9
    | inl a =>
      cases h9
      show J SHL G rm_L_earliestByRounds (.inl O) C 5 30 12 [(0, VR 0), (1, VI p0), (2, VI p1), (3, VI p2), (4, VI p3), (5, VR 489)] [VI a, VI 0, VR 489] (putM 0 455 m m1)
      refine s_i2l X dL_earliestByRounds_12 ?_
      refine s_last X SHL_489 dL_earliestByRounds_13 ?_
      refine s_goto (tgt := 29) X dL_earliestByRounds_14 (by omega) ?_
      refine s_const X (by unfold InR; omega) dL_earliestByRounds_29 ?_
      exact s_iret X (Nat.le_of_ble_eq_true rfl) (Nat.le_of_ble_eq_true rfl) (by show O = _; rw [hO]; rfl) dL_earliestByRounds_30
def rm_L_wall : Room := { frames := 9, cells := 4, slots := 24, locals := 150 }
def hh_L_wall : List (Nat × Nat × Nat × Nat) := [(0, 14, 17, 21), (0, 14, 21, 13)]
set_option maxRecDepth 20000 in
set_option maxHeartbeats 4000000 in
theorem H_wall (G : Gl) (p0 : Int) (p1 : Int) (p2 : Int) (p3 : Int) (m : Mem) (r : (Int ⊕ Nat) × Mem) (h : C_wall p0 p1 p2 p3 m = some r) (hx : ∀ x, r.1 = .inr x → x ∈ [2, 0]) : ConW SHL G yL_wall cL_wall 7 (some .int) hh_L_wall rm_L_wall [VR 0, VI p0, VI p1, VI p2, VI p3, VR 489] m (hout wrI [2, 0] r m) := by
  refine conW_of (own := "LastbusLaw") (by decide) rfl (Nat.le_of_ble_eq_true rfl) (fun C X tb nc => ?_)
  obtain ⟨O, hO⟩ : ∃ O : Res × Mem, O = hout wrI [2, 0] r m := ⟨_, rfl⟩
  rw [← hO]
  show J SHL G rm_L_wall (.inl O) C 0 0 0 [(0, VR 0), (1, VI p0), (2, VI p1), (3, VI p2), (4, VI p3), (5, VR 489)] [] m
  refine s_loadR X 5 rfl dL_wall_0 ?_
  refine s_const X (by unfold InR; omega) dL_wall_2 ?_
  refine s_load0 X 0 rfl dL_wall_3 ?_
  refine s_iload_n X 1 rfl dL_wall_4 ?_
  refine s_iload_n X 2 rfl dL_wall_5 ?_
  refine s_iload_n X 3 rfl dL_wall_6 ?_
  refine s_iload X 4 rfl dL_wall_7 ?_
  refine s_callVH (As := [VI p0, VI p1, VI p2, VI p3]) X cw_L_100 SHL_0 rfl dL_wall_9 (con_C (L_C_wall G p0 p1 p2 p3 m r h)) rfl ⟨Nat.le_of_ble_eq_true rfl, Nat.le_of_ble_eq_true rfl⟩ ⟨Nat.le_of_ble_eq_true rfl, Nat.le_of_ble_eq_true rfl⟩ (Nat.le_of_ble_eq_true rfl) ?_ ?_
  · obtain ⟨r1, m1⟩ := r
    intro x h9
    cases r1 with
    | inl v => cases h9
    | inr x0 =>
      cases h9
      have hx0 := hx _ rfl
      simp only [List.mem_cons, List.not_mem_nil, or_false] at hx0
      rcases hx0 with rfl | rfl
      · exact jx_catch (hp := 17) (z := 1) X tb nc ⟨[], [(0, 14, 21, 13)], (0, 14, 17, 21), rfl, (fun z hz => by cases hz), by decide +kernel, by decide, rfl, cl_L_21, cstT _⟩ ⟨by unfold InR; omega, Or.inl ⟨6, by decide, dL_wall_17, dL_wall_19, dL_wall_20⟩⟩ (Nat.le_of_ble_eq_true rfl) (Nat.le_of_ble_eq_true rfl) (by show O = _; rw [hO]; rfl)
      · exact jx_catch (hp := 21) (z := 2) X tb nc ⟨[(0, 14, 17, 21)], [], (0, 14, 21, 13), rfl, (List.forall_mem_cons.mpr ⟨⟨by decide, "java/lang/IndexOutOfBoundsException", cl_L_21, by decide +kernel⟩, (fun z hz => by cases hz)⟩), by decide +kernel, by decide, rfl, cl_L_13, cstT _⟩ ⟨by unfold InR; omega, Or.inl ⟨6, by decide, dL_wall_21, dL_wall_23, dL_wall_24⟩⟩ (Nat.le_of_ble_eq_true rfl) (Nat.le_of_ble_eq_true rfl) (by show O = _; rw [hO]; rfl)
  · obtain ⟨r1, m1⟩ := r
    intro v h9
    cases r1 with
    | inr x0 => cases h9
    | inl a =>
      cases h9
      show J SHL G rm_L_wall (.inl O) C 4 24 12 [(0, VR 0), (1, VI p0), (2, VI p1), (3, VI p2), (4, VI p3), (5, VR 489)] [VI a, VI 0, VR 489] (putM 0 455 m m1)
      refine s_i2l X dL_wall_12 ?_
      refine s_last X SHL_489 dL_wall_13 ?_
      refine s_goto (tgt := 25) X dL_wall_14 (by omega) ?_
      refine s_const X (by unfold InR; omega) dL_wall_25 ?_
      exact s_iret X (Nat.le_of_ble_eq_true rfl) (Nat.le_of_ble_eq_true rfl) (by show O = _; rw [hO]; rfl) dL_wall_26
def rm_L_last : Room := { frames := 9, cells := 5, slots := 30, locals := 184 }
def hh_L_last : List (Nat × Nat × Nat × Nat) := [(0, 14, 17, 21), (0, 14, 21, 13), (0, 14, 25, 30)]
set_option maxRecDepth 20000 in
set_option maxHeartbeats 4000000 in
theorem H_last (G : Gl) (p0 : Int) (p1 : Int) (p2 : Int) (p3 : Int) (m : Mem) (r : (Int ⊕ Nat) × Mem) (h : C_last p0 p1 p2 p3 m = some r) (hx : ∀ x, r.1 = .inr x → x ∈ [2, 0, 5]) : ConW SHL G yL_last cL_last 7 (some .int) hh_L_last rm_L_last [VR 0, VI p0, VI p1, VI p2, VI p3, VR 489] m (hout wrI [2, 0, 5] r m) := by
  refine conW_of (own := "LastbusLaw") (by decide) rfl (Nat.le_of_ble_eq_true rfl) (fun C X tb nc => ?_)
  obtain ⟨O, hO⟩ : ∃ O : Res × Mem, O = hout wrI [2, 0, 5] r m := ⟨_, rfl⟩
  rw [← hO]
  show J SHL G rm_L_last (.inl O) C 0 0 0 [(0, VR 0), (1, VI p0), (2, VI p1), (3, VI p2), (4, VI p3), (5, VR 489)] [] m
  refine s_loadR X 5 rfl dL_last_0 ?_
  refine s_const X (by unfold InR; omega) dL_last_2 ?_
  refine s_load0 X 0 rfl dL_last_3 ?_
  refine s_iload_n X 1 rfl dL_last_4 ?_
  refine s_iload_n X 2 rfl dL_last_5 ?_
  refine s_iload_n X 3 rfl dL_last_6 ?_
  refine s_iload X 4 rfl dL_last_7 ?_
  refine s_callVH (As := [VI p0, VI p1, VI p2, VI p3]) X cw_L_103 SHL_0 rfl dL_last_9 (con_C (L_C_last G p0 p1 p2 p3 m r h)) rfl ⟨Nat.le_of_ble_eq_true rfl, Nat.le_of_ble_eq_true rfl⟩ ⟨Nat.le_of_ble_eq_true rfl, Nat.le_of_ble_eq_true rfl⟩ (Nat.le_of_ble_eq_true rfl) ?_ ?_
  · obtain ⟨r1, m1⟩ := r
    intro x h9
    cases r1 with
    | inl v => cases h9
    | inr x0 =>
      cases h9
      have hx0 := hx _ rfl
      simp only [List.mem_cons, List.not_mem_nil, or_false] at hx0
      rcases hx0 with rfl | rfl | rfl
      · exact jx_catch (hp := 17) (z := 1) X tb nc ⟨[], [(0, 14, 21, 13), (0, 14, 25, 30)], (0, 14, 17, 21), rfl, (fun z hz => by cases hz), by decide +kernel, by decide, rfl, cl_L_21, cstT _⟩ ⟨by unfold InR; omega, Or.inl ⟨6, by decide, dL_last_17, dL_last_19, dL_last_20⟩⟩ (Nat.le_of_ble_eq_true rfl) (Nat.le_of_ble_eq_true rfl) (by show O = _; rw [hO]; rfl)
      · exact jx_catch (hp := 21) (z := 2) X tb nc ⟨[(0, 14, 17, 21)], [(0, 14, 25, 30)], (0, 14, 21, 13), rfl, (List.forall_mem_cons.mpr ⟨⟨by decide, "java/lang/IndexOutOfBoundsException", cl_L_21, by decide +kernel⟩, (fun z hz => by cases hz)⟩), by decide +kernel, by decide, rfl, cl_L_13, cstT _⟩ ⟨by unfold InR; omega, Or.inl ⟨6, by decide, dL_last_21, dL_last_23, dL_last_24⟩⟩ (Nat.le_of_ble_eq_true rfl) (Nat.le_of_ble_eq_true rfl) (by show O = _; rw [hO]; rfl)
      · exact jx_catch (hp := 25) (z := 3) X tb nc ⟨[(0, 14, 17, 21), (0, 14, 21, 13)], [], (0, 14, 25, 30), rfl, (List.forall_mem_cons.mpr ⟨⟨by decide, "java/lang/IndexOutOfBoundsException", cl_L_21, by decide +kernel⟩, (List.forall_mem_cons.mpr ⟨⟨by decide, "java/lang/IllegalArgumentException", cl_L_13, by decide +kernel⟩, (fun z hz => by cases hz)⟩)⟩), by decide +kernel, by decide, rfl, cl_L_30, cstT _⟩ ⟨by unfold InR; omega, Or.inl ⟨6, by decide, dL_last_25, dL_last_27, dL_last_28⟩⟩ (Nat.le_of_ble_eq_true rfl) (Nat.le_of_ble_eq_true rfl) (by show O = _; rw [hO]; rfl)
  · obtain ⟨r1, m1⟩ := r
    intro v h9
    cases r1 with
    | inr x0 => cases h9
    | inl a =>
      cases h9
      show J SHL G rm_L_last (.inl O) C 5 30 12 [(0, VR 0), (1, VI p0), (2, VI p1), (3, VI p2), (4, VI p3), (5, VR 489)] [VI a, VI 0, VR 489] (putM 0 455 m m1)
      refine s_i2l X dL_last_12 ?_
      refine s_last X SHL_489 dL_last_13 ?_
      refine s_goto (tgt := 29) X dL_last_14 (by omega) ?_
      refine s_const X (by unfold InR; omega) dL_last_29 ?_
      exact s_iret X (Nat.le_of_ble_eq_true rfl) (Nat.le_of_ble_eq_true rfl) (by show O = _; rw [hO]; rfl) dL_last_30
def rm_L_chain : Room := { frames := 10, cells := 5, slots := 30, locals := 174 }
def hh_L_chain : List (Nat × Nat × Nat × Nat) := [(0, 14, 17, 21), (0, 14, 21, 13), (0, 14, 25, 30)]
set_option maxRecDepth 20000 in
set_option maxHeartbeats 4000000 in
theorem H_chain (G : Gl) (p0 : Int) (p1 : Int) (p2 : Int) (p3 : Int) (m : Mem) (r : (Int ⊕ Nat) × Mem) (h : C_chain p0 p1 p2 p3 m = some r) (hx : ∀ x, r.1 = .inr x → x ∈ [2, 0, 5]) : ConW SHL G yL_chain cL_chain 7 (some .int) hh_L_chain rm_L_chain [VR 0, VI p0, VI p1, VI p2, VI p3, VR 489] m (hout wrI [2, 0, 5] r m) := by
  refine conW_of (own := "LastbusLaw") (by decide) rfl (Nat.le_of_ble_eq_true rfl) (fun C X tb nc => ?_)
  obtain ⟨O, hO⟩ : ∃ O : Res × Mem, O = hout wrI [2, 0, 5] r m := ⟨_, rfl⟩
  rw [← hO]
  show J SHL G rm_L_chain (.inl O) C 0 0 0 [(0, VR 0), (1, VI p0), (2, VI p1), (3, VI p2), (4, VI p3), (5, VR 489)] [] m
  refine s_loadR X 5 rfl dL_chain_0 ?_
  refine s_const X (by unfold InR; omega) dL_chain_2 ?_
  refine s_load0 X 0 rfl dL_chain_3 ?_
  refine s_iload_n X 1 rfl dL_chain_4 ?_
  refine s_iload_n X 2 rfl dL_chain_5 ?_
  refine s_iload_n X 3 rfl dL_chain_6 ?_
  refine s_iload X 4 rfl dL_chain_7 ?_
  refine s_callVH (As := [VI p0, VI p1, VI p2, VI p3]) X cw_L_106 SHL_0 rfl dL_chain_9 (con_C (L_C_chain G p0 p1 p2 p3 m r h)) rfl ⟨Nat.le_of_ble_eq_true rfl, Nat.le_of_ble_eq_true rfl⟩ ⟨Nat.le_of_ble_eq_true rfl, Nat.le_of_ble_eq_true rfl⟩ (Nat.le_of_ble_eq_true rfl) ?_ ?_
  · obtain ⟨r1, m1⟩ := r
    intro x h9
    cases r1 with
    | inl v => cases h9
    | inr x0 =>
      cases h9
      have hx0 := hx _ rfl
      simp only [List.mem_cons, List.not_mem_nil, or_false] at hx0
      rcases hx0 with rfl | rfl | rfl
      · exact jx_catch (hp := 17) (z := 1) X tb nc ⟨[], [(0, 14, 21, 13), (0, 14, 25, 30)], (0, 14, 17, 21), rfl, (fun z hz => by cases hz), by decide +kernel, by decide, rfl, cl_L_21, cstT _⟩ ⟨by unfold InR; omega, Or.inl ⟨6, by decide, dL_chain_17, dL_chain_19, dL_chain_20⟩⟩ (Nat.le_of_ble_eq_true rfl) (Nat.le_of_ble_eq_true rfl) (by show O = _; rw [hO]; rfl)
      · exact jx_catch (hp := 21) (z := 2) X tb nc ⟨[(0, 14, 17, 21)], [(0, 14, 25, 30)], (0, 14, 21, 13), rfl, (List.forall_mem_cons.mpr ⟨⟨by decide, "java/lang/IndexOutOfBoundsException", cl_L_21, by decide +kernel⟩, (fun z hz => by cases hz)⟩), by decide +kernel, by decide, rfl, cl_L_13, cstT _⟩ ⟨by unfold InR; omega, Or.inl ⟨6, by decide, dL_chain_21, dL_chain_23, dL_chain_24⟩⟩ (Nat.le_of_ble_eq_true rfl) (Nat.le_of_ble_eq_true rfl) (by show O = _; rw [hO]; rfl)
      · exact jx_catch (hp := 25) (z := 3) X tb nc ⟨[(0, 14, 17, 21), (0, 14, 21, 13)], [], (0, 14, 25, 30), rfl, (List.forall_mem_cons.mpr ⟨⟨by decide, "java/lang/IndexOutOfBoundsException", cl_L_21, by decide +kernel⟩, (List.forall_mem_cons.mpr ⟨⟨by decide, "java/lang/IllegalArgumentException", cl_L_13, by decide +kernel⟩, (fun z hz => by cases hz)⟩)⟩), by decide +kernel, by decide, rfl, cl_L_30, cstT _⟩ ⟨by unfold InR; omega, Or.inl ⟨6, by decide, dL_chain_25, dL_chain_27, dL_chain_28⟩⟩ (Nat.le_of_ble_eq_true rfl) (Nat.le_of_ble_eq_true rfl) (by show O = _; rw [hO]; rfl)
  · obtain ⟨r1, m1⟩ := r
    intro v h9
    cases r1 with
    | inr x0 => cases h9
    | inl a =>
      cases h9
      show J SHL G rm_L_chain (.inl O) C 5 30 12 [(0, VR 0), (1, VI p0), (2, VI p1), (3, VI p2), (4, VI p3), (5, VR 489)] [VI a, VI 0, VR 489] (putM 0 455 m m1)
      refine s_i2l X dL_chain_12 ?_
      refine s_last X SHL_489 dL_chain_13 ?_
      refine s_goto (tgt := 29) X dL_chain_14 (by omega) ?_
      refine s_const X (by unfold InR; omega) dL_chain_29 ?_
      exact s_iret X (Nat.le_of_ble_eq_true rfl) (Nat.le_of_ble_eq_true rfl) (by show O = _; rw [hO]; rfl) dL_chain_30
def rm_L_ride : Room := { frames := 7, cells := 2, slots := 12, locals := 104 }
def hh_L_ride : List (Nat × Nat × Nat × Nat) := [(0, 10, 13, 13), (0, 10, 17, 30)]
set_option maxRecDepth 20000 in
set_option maxHeartbeats 4000000 in
theorem H_ride (G : Gl) (p0 : Int) (p1 : Int) (m : Mem) (r : (Int ⊕ Nat) × Mem) (h : C_ride p0 p1 m = some r) (hx : ∀ x, r.1 = .inr x → x ∈ [0, 5]) : ConW SHL G yL_ride cL_ride 5 (some .int) hh_L_ride rm_L_ride [VR 0, VI p0, VI p1, VR 489] m (hout wrI [0, 5] r m) := by
  refine conW_of (own := "LastbusLaw") (by decide) rfl (Nat.le_of_ble_eq_true rfl) (fun C X tb nc => ?_)
  obtain ⟨O, hO⟩ : ∃ O : Res × Mem, O = hout wrI [0, 5] r m := ⟨_, rfl⟩
  rw [← hO]
  show J SHL G rm_L_ride (.inl O) C 0 0 0 [(0, VR 0), (1, VI p0), (2, VI p1), (3, VR 489)] [] m
  refine s_load0 X 3 rfl dL_ride_0 ?_
  refine s_const X (by unfold InR; omega) dL_ride_1 ?_
  refine s_load0 X 0 rfl dL_ride_2 ?_
  refine s_iload_n X 1 rfl dL_ride_3 ?_
  refine s_iload_n X 2 rfl dL_ride_4 ?_
  refine s_callVH (As := [VI p0, VI p1]) X cw_L_109 SHL_0 rfl dL_ride_5 (con_C (L_C_ride G p0 p1 m r h)) rfl ⟨Nat.le_of_ble_eq_true rfl, Nat.le_of_ble_eq_true rfl⟩ ⟨Nat.le_of_ble_eq_true rfl, Nat.le_of_ble_eq_true rfl⟩ (Nat.le_of_ble_eq_true rfl) ?_ ?_
  · obtain ⟨r1, m1⟩ := r
    intro x h9
    cases r1 with
    | inl v => cases h9
    | inr x0 =>
      cases h9
      have hx0 := hx _ rfl
      simp only [List.mem_cons, List.not_mem_nil, or_false] at hx0
      rcases hx0 with rfl | rfl
      · exact jx_catch (hp := 13) (z := 1) X tb nc ⟨[], [(0, 10, 17, 30)], (0, 10, 13, 13), rfl, (fun z hz => by cases hz), by decide +kernel, by decide, rfl, cl_L_13, cstT _⟩ ⟨by unfold InR; omega, Or.inl ⟨4, by decide, dL_ride_13, dL_ride_15, dL_ride_16⟩⟩ (Nat.le_of_ble_eq_true rfl) (Nat.le_of_ble_eq_true rfl) (by show O = _; rw [hO]; rfl)
      · exact jx_catch (hp := 17) (z := 2) X tb nc ⟨[(0, 10, 13, 13)], [], (0, 10, 17, 30), rfl, (List.forall_mem_cons.mpr ⟨⟨by decide, "java/lang/IllegalArgumentException", cl_L_13, by decide +kernel⟩, (fun z hz => by cases hz)⟩), by decide +kernel, by decide, rfl, cl_L_30, cstT _⟩ ⟨by unfold InR; omega, Or.inl ⟨4, by decide, dL_ride_17, dL_ride_19, dL_ride_20⟩⟩ (Nat.le_of_ble_eq_true rfl) (Nat.le_of_ble_eq_true rfl) (by show O = _; rw [hO]; rfl)
  · obtain ⟨r1, m1⟩ := r
    intro v h9
    cases r1 with
    | inr x0 => cases h9
    | inl a =>
      cases h9
      show J SHL G rm_L_ride (.inl O) C 2 12 8 [(0, VR 0), (1, VI p0), (2, VI p1), (3, VR 489)] [VI a, VI 0, VR 489] (putM 0 455 m m1)
      refine s_i2l X dL_ride_8 ?_
      refine s_last X SHL_489 dL_ride_9 ?_
      refine s_goto (tgt := 21) X dL_ride_10 (by omega) ?_
      refine s_const X (by unfold InR; omega) dL_ride_21 ?_
      exact s_iret X (Nat.le_of_ble_eq_true rfl) (Nat.le_of_ble_eq_true rfl) (by show O = _; rw [hO]; rfl) dL_ride_22
def rm_L_onBoard : Room := { frames := 9, cells := 7, slots := 42, locals := 149 }
def hh_L_onBoard : List (Nat × Nat × Nat × Nat) := [(0, 14, 17, 21), (0, 14, 21, 13), (0, 14, 25, 80), (0, 14, 29, 30)]
set_option maxRecDepth 20000 in
set_option maxHeartbeats 4000000 in
theorem H_onBoard (G : Gl) (p0 : Int) (p1 : Int) (p2 : Int) (p3 : Int) (m : Mem) (r : (Int ⊕ Nat) × Mem) (h : C_onBoard p0 p1 p2 p3 m = some r) (hx : ∀ x, r.1 = .inr x → x ∈ [2, 0, 4, 5]) : ConW SHL G yL_onBoard cL_onBoard 7 (some .int) hh_L_onBoard rm_L_onBoard [VR 0, VI p0, VI p1, VI p2, VI p3, VR 489] m (hout wrI [2, 0, 4, 5] r m) := by
  refine conW_of (own := "LastbusLaw") (by decide) rfl (Nat.le_of_ble_eq_true rfl) (fun C X tb nc => ?_)
  obtain ⟨O, hO⟩ : ∃ O : Res × Mem, O = hout wrI [2, 0, 4, 5] r m := ⟨_, rfl⟩
  rw [← hO]
  show J SHL G rm_L_onBoard (.inl O) C 0 0 0 [(0, VR 0), (1, VI p0), (2, VI p1), (3, VI p2), (4, VI p3), (5, VR 489)] [] m
  refine s_loadR X 5 rfl dL_onBoard_0 ?_
  refine s_const X (by unfold InR; omega) dL_onBoard_2 ?_
  refine s_load0 X 0 rfl dL_onBoard_3 ?_
  refine s_iload_n X 1 rfl dL_onBoard_4 ?_
  refine s_iload_n X 2 rfl dL_onBoard_5 ?_
  refine s_iload_n X 3 rfl dL_onBoard_6 ?_
  refine s_iload X 4 rfl dL_onBoard_7 ?_
  refine s_callVH (As := [VI p0, VI p1, VI p2, VI p3]) X cw_L_113 SHL_0 rfl dL_onBoard_9 (con_C (L_C_onBoard G p0 p1 p2 p3 m r h)) rfl ⟨Nat.le_of_ble_eq_true rfl, Nat.le_of_ble_eq_true rfl⟩ ⟨Nat.le_of_ble_eq_true rfl, Nat.le_of_ble_eq_true rfl⟩ (Nat.le_of_ble_eq_true rfl) ?_ ?_
  · obtain ⟨r1, m1⟩ := r
    intro x h9
    cases r1 with
    | inl v => cases h9
    | inr x0 =>
      cases h9
      have hx0 := hx _ rfl
      simp only [List.mem_cons, List.not_mem_nil, or_false] at hx0
      rcases hx0 with rfl | rfl | rfl | rfl
      · exact jx_catch (hp := 17) (z := 1) X tb nc ⟨[], [(0, 14, 21, 13), (0, 14, 25, 80), (0, 14, 29, 30)], (0, 14, 17, 21), rfl, (fun z hz => by cases hz), by decide +kernel, by decide, rfl, cl_L_21, cstT _⟩ ⟨by unfold InR; omega, Or.inl ⟨6, by decide, dL_onBoard_17, dL_onBoard_19, dL_onBoard_20⟩⟩ (Nat.le_of_ble_eq_true rfl) (Nat.le_of_ble_eq_true rfl) (by show O = _; rw [hO]; rfl)
      · exact jx_catch (hp := 21) (z := 2) X tb nc ⟨[(0, 14, 17, 21)], [(0, 14, 25, 80), (0, 14, 29, 30)], (0, 14, 21, 13), rfl, (List.forall_mem_cons.mpr ⟨⟨by decide, "java/lang/IndexOutOfBoundsException", cl_L_21, by decide +kernel⟩, (fun z hz => by cases hz)⟩), by decide +kernel, by decide, rfl, cl_L_13, cstT _⟩ ⟨by unfold InR; omega, Or.inl ⟨6, by decide, dL_onBoard_21, dL_onBoard_23, dL_onBoard_24⟩⟩ (Nat.le_of_ble_eq_true rfl) (Nat.le_of_ble_eq_true rfl) (by show O = _; rw [hO]; rfl)
      · exact jx_catch (hp := 25) (z := 3) X tb nc ⟨[(0, 14, 17, 21), (0, 14, 21, 13)], [(0, 14, 29, 30)], (0, 14, 25, 80), rfl, (List.forall_mem_cons.mpr ⟨⟨by decide, "java/lang/IndexOutOfBoundsException", cl_L_21, by decide +kernel⟩, (List.forall_mem_cons.mpr ⟨⟨by decide, "java/lang/IllegalArgumentException", cl_L_13, by decide +kernel⟩, (fun z hz => by cases hz)⟩)⟩), by decide +kernel, by decide, rfl, cl_L_80, cstT _⟩ ⟨by unfold InR; omega, Or.inl ⟨6, by decide, dL_onBoard_25, dL_onBoard_27, dL_onBoard_28⟩⟩ (Nat.le_of_ble_eq_true rfl) (Nat.le_of_ble_eq_true rfl) (by show O = _; rw [hO]; rfl)
      · exact jx_catch (hp := 29) (z := 4) X tb nc ⟨[(0, 14, 17, 21), (0, 14, 21, 13), (0, 14, 25, 80)], [], (0, 14, 29, 30), rfl, (List.forall_mem_cons.mpr ⟨⟨by decide, "java/lang/IndexOutOfBoundsException", cl_L_21, by decide +kernel⟩, (List.forall_mem_cons.mpr ⟨⟨by decide, "java/lang/IllegalArgumentException", cl_L_13, by decide +kernel⟩, (List.forall_mem_cons.mpr ⟨⟨by decide, "java/lang/UnsupportedOperationException", cl_L_80, by decide +kernel⟩, (fun z hz => by cases hz)⟩)⟩)⟩), by decide +kernel, by decide, rfl, cl_L_30, cstT _⟩ ⟨by unfold InR; omega, Or.inl ⟨6, by decide, dL_onBoard_29, dL_onBoard_31, dL_onBoard_32⟩⟩ (Nat.le_of_ble_eq_true rfl) (Nat.le_of_ble_eq_true rfl) (by show O = _; rw [hO]; rfl)
  · obtain ⟨r1, m1⟩ := r
    intro v h9
    cases r1 with
    | inr x0 => cases h9
    | inl a =>
      cases h9
      show J SHL G rm_L_onBoard (.inl O) C 7 42 12 [(0, VR 0), (1, VI p0), (2, VI p1), (3, VI p2), (4, VI p3), (5, VR 489)] [VI a, VI 0, VR 489] (putM 0 455 m m1)
      refine s_i2l X dL_onBoard_12 ?_
      refine s_last X SHL_489 dL_onBoard_13 ?_
      refine s_goto (tgt := 33) X dL_onBoard_14 (by omega) ?_
      refine s_const X (by unfold InR; omega) dL_onBoard_33 ?_
      exact s_iret X (Nat.le_of_ble_eq_true rfl) (Nat.le_of_ble_eq_true rfl) (by show O = _; rw [hO]; rfl) dL_onBoard_34
def rm_L_pairs : Room := { frames := 10, cells := 4, slots := 24, locals := 205 }
def hh_L_pairs : List (Nat × Nat × Nat × Nat) := [(0, 12, 15, 21), (0, 12, 19, 13)]
set_option maxRecDepth 20000 in
set_option maxHeartbeats 4000000 in
theorem H_pairs (G : Gl) (p0 : Int) (p1 : Int) (p2 : Int) (m : Mem) (r : (Int ⊕ Nat) × Mem) (h : C_pairs p0 p1 p2 m = some r) (hx : ∀ x, r.1 = .inr x → x ∈ [2, 0]) : ConW SHL G yL_pairs cL_pairs 6 (some .int) hh_L_pairs rm_L_pairs [VR 0, VI p0, VI p1, VI p2, VR 489] m (hout wrI [2, 0] r m) := by
  refine conW_of (own := "LastbusLaw") (by decide) rfl (Nat.le_of_ble_eq_true rfl) (fun C X tb nc => ?_)
  obtain ⟨O, hO⟩ : ∃ O : Res × Mem, O = hout wrI [2, 0] r m := ⟨_, rfl⟩
  rw [← hO]
  show J SHL G rm_L_pairs (.inl O) C 0 0 0 [(0, VR 0), (1, VI p0), (2, VI p1), (3, VI p2), (4, VR 489)] [] m
  refine s_loadR X 4 rfl dL_pairs_0 ?_
  refine s_const X (by unfold InR; omega) dL_pairs_2 ?_
  refine s_load0 X 0 rfl dL_pairs_3 ?_
  refine s_iload_n X 1 rfl dL_pairs_4 ?_
  refine s_iload_n X 2 rfl dL_pairs_5 ?_
  refine s_iload_n X 3 rfl dL_pairs_6 ?_
  refine s_callVH (As := [VI p0, VI p1, VI p2]) X cw_L_116 SHL_0 rfl dL_pairs_7 (con_C (L_C_pairs G p0 p1 p2 m r h)) rfl ⟨Nat.le_of_ble_eq_true rfl, Nat.le_of_ble_eq_true rfl⟩ ⟨Nat.le_of_ble_eq_true rfl, Nat.le_of_ble_eq_true rfl⟩ (Nat.le_of_ble_eq_true rfl) ?_ ?_
  · obtain ⟨r1, m1⟩ := r
    intro x h9
    cases r1 with
    | inl v => cases h9
    | inr x0 =>
      cases h9
      have hx0 := hx _ rfl
      simp only [List.mem_cons, List.not_mem_nil, or_false] at hx0
      rcases hx0 with rfl | rfl
      · exact jx_catch (hp := 15) (z := 1) X tb nc ⟨[], [(0, 12, 19, 13)], (0, 12, 15, 21), rfl, (fun z hz => by cases hz), by decide +kernel, by decide, rfl, cl_L_21, cstT _⟩ ⟨by unfold InR; omega, Or.inl ⟨5, by decide, dL_pairs_15, dL_pairs_17, dL_pairs_18⟩⟩ (Nat.le_of_ble_eq_true rfl) (Nat.le_of_ble_eq_true rfl) (by show O = _; rw [hO]; rfl)
      · exact jx_catch (hp := 19) (z := 2) X tb nc ⟨[(0, 12, 15, 21)], [], (0, 12, 19, 13), rfl, (List.forall_mem_cons.mpr ⟨⟨by decide, "java/lang/IndexOutOfBoundsException", cl_L_21, by decide +kernel⟩, (fun z hz => by cases hz)⟩), by decide +kernel, by decide, rfl, cl_L_13, cstT _⟩ ⟨by unfold InR; omega, Or.inl ⟨5, by decide, dL_pairs_19, dL_pairs_21, dL_pairs_22⟩⟩ (Nat.le_of_ble_eq_true rfl) (Nat.le_of_ble_eq_true rfl) (by show O = _; rw [hO]; rfl)
  · obtain ⟨r1, m1⟩ := r
    intro v h9
    cases r1 with
    | inr x0 => cases h9
    | inl a =>
      cases h9
      show J SHL G rm_L_pairs (.inl O) C 4 24 10 [(0, VR 0), (1, VI p0), (2, VI p1), (3, VI p2), (4, VR 489)] [VI a, VI 0, VR 489] (putM 0 455 m m1)
      refine s_i2l X dL_pairs_10 ?_
      refine s_last X SHL_489 dL_pairs_11 ?_
      refine s_goto (tgt := 23) X dL_pairs_12 (by omega) ?_
      refine s_const X (by unfold InR; omega) dL_pairs_23 ?_
      exact s_iret X (Nat.le_of_ble_eq_true rfl) (Nat.le_of_ble_eq_true rfl) (by show O = _; rw [hO]; rfl) dL_pairs_24
def rm_L_pair : Room := { frames := 10, cells := 5, slots := 30, locals := 207 }
def hh_L_pair : List (Nat × Nat × Nat × Nat) := [(0, 16, 19, 21), (0, 16, 23, 13), (0, 16, 27, 30)]
set_option maxRecDepth 20000 in
set_option maxHeartbeats 4000000 in
theorem H_pair (G : Gl) (p0 : Int) (p1 : Int) (p2 : Int) (p3 : Int) (p4 : Int) (m : Mem) (r : (Int ⊕ Nat) × Mem) (h : C_pair p0 p1 p2 p3 p4 m = some r) (hx : ∀ x, r.1 = .inr x → x ∈ [2, 0, 5]) : ConW SHL G yL_pair cL_pair 8 (some .int) hh_L_pair rm_L_pair [VR 0, VI p0, VI p1, VI p2, VI p3, VI p4, VR 489] m (hout wrI [2, 0, 5] r m) := by
  refine conW_of (own := "LastbusLaw") (by decide) rfl (Nat.le_of_ble_eq_true rfl) (fun C X tb nc => ?_)
  obtain ⟨O, hO⟩ : ∃ O : Res × Mem, O = hout wrI [2, 0, 5] r m := ⟨_, rfl⟩
  rw [← hO]
  show J SHL G rm_L_pair (.inl O) C 0 0 0 [(0, VR 0), (1, VI p0), (2, VI p1), (3, VI p2), (4, VI p3), (5, VI p4), (6, VR 489)] [] m
  refine s_loadR X 6 rfl dL_pair_0 ?_
  refine s_const X (by unfold InR; omega) dL_pair_2 ?_
  refine s_load0 X 0 rfl dL_pair_3 ?_
  refine s_iload_n X 1 rfl dL_pair_4 ?_
  refine s_iload_n X 2 rfl dL_pair_5 ?_
  refine s_iload_n X 3 rfl dL_pair_6 ?_
  refine s_iload X 4 rfl dL_pair_7 ?_
  refine s_iload X 5 rfl dL_pair_9 ?_
  refine s_callVH (As := [VI p0, VI p1, VI p2, VI p3, VI p4]) X cw_L_119 SHL_0 rfl dL_pair_11 (con_C (L_C_pair G p0 p1 p2 p3 p4 m r h)) rfl ⟨Nat.le_of_ble_eq_true rfl, Nat.le_of_ble_eq_true rfl⟩ ⟨Nat.le_of_ble_eq_true rfl, Nat.le_of_ble_eq_true rfl⟩ (Nat.le_of_ble_eq_true rfl) ?_ ?_
  · obtain ⟨r1, m1⟩ := r
    intro x h9
    cases r1 with
    | inl v => cases h9
    | inr x0 =>
      cases h9
      have hx0 := hx _ rfl
      simp only [List.mem_cons, List.not_mem_nil, or_false] at hx0
      rcases hx0 with rfl | rfl | rfl
      · exact jx_catch (hp := 19) (z := 1) X tb nc ⟨[], [(0, 16, 23, 13), (0, 16, 27, 30)], (0, 16, 19, 21), rfl, (fun z hz => by cases hz), by decide +kernel, by decide, rfl, cl_L_21, cstT _⟩ ⟨by unfold InR; omega, Or.inl ⟨7, by decide, dL_pair_19, dL_pair_21, dL_pair_22⟩⟩ (Nat.le_of_ble_eq_true rfl) (Nat.le_of_ble_eq_true rfl) (by show O = _; rw [hO]; rfl)
      · exact jx_catch (hp := 23) (z := 2) X tb nc ⟨[(0, 16, 19, 21)], [(0, 16, 27, 30)], (0, 16, 23, 13), rfl, (List.forall_mem_cons.mpr ⟨⟨by decide, "java/lang/IndexOutOfBoundsException", cl_L_21, by decide +kernel⟩, (fun z hz => by cases hz)⟩), by decide +kernel, by decide, rfl, cl_L_13, cstT _⟩ ⟨by unfold InR; omega, Or.inl ⟨7, by decide, dL_pair_23, dL_pair_25, dL_pair_26⟩⟩ (Nat.le_of_ble_eq_true rfl) (Nat.le_of_ble_eq_true rfl) (by show O = _; rw [hO]; rfl)
      · exact jx_catch (hp := 27) (z := 3) X tb nc ⟨[(0, 16, 19, 21), (0, 16, 23, 13)], [], (0, 16, 27, 30), rfl, (List.forall_mem_cons.mpr ⟨⟨by decide, "java/lang/IndexOutOfBoundsException", cl_L_21, by decide +kernel⟩, (List.forall_mem_cons.mpr ⟨⟨by decide, "java/lang/IllegalArgumentException", cl_L_13, by decide +kernel⟩, (fun z hz => by cases hz)⟩)⟩), by decide +kernel, by decide, rfl, cl_L_30, cstT _⟩ ⟨by unfold InR; omega, Or.inl ⟨7, by decide, dL_pair_27, dL_pair_29, dL_pair_30⟩⟩ (Nat.le_of_ble_eq_true rfl) (Nat.le_of_ble_eq_true rfl) (by show O = _; rw [hO]; rfl)
  · obtain ⟨r1, m1⟩ := r
    intro v h9
    cases r1 with
    | inr x0 => cases h9
    | inl a =>
      cases h9
      show J SHL G rm_L_pair (.inl O) C 5 30 14 [(0, VR 0), (1, VI p0), (2, VI p1), (3, VI p2), (4, VI p3), (5, VI p4), (6, VR 489)] [VI a, VI 0, VR 489] (putM 0 455 m m1)
      refine s_i2l X dL_pair_14 ?_
      refine s_last X SHL_489 dL_pair_15 ?_
      refine s_goto (tgt := 31) X dL_pair_16 (by omega) ?_
      refine s_const X (by unfold InR; omega) dL_pair_31 ?_
      exact s_iret X (Nat.le_of_ble_eq_true rfl) (Nat.le_of_ble_eq_true rfl) (by show O = _; rw [hO]; rfl) dL_pair_32
def rm_L_byPairs : Room := { frames := 10, cells := 5, slots := 30, locals := 184 }
def hh_L_byPairs : List (Nat × Nat × Nat × Nat) := [(0, 14, 17, 21), (0, 14, 21, 13), (0, 14, 25, 30)]
set_option maxRecDepth 20000 in
set_option maxHeartbeats 4000000 in
theorem H_byPairs (G : Gl) (p0 : Int) (p1 : Int) (p2 : Int) (p3 : Int) (m : Mem) (r : (Int ⊕ Nat) × Mem) (h : C_byPairs p0 p1 p2 p3 m = some r) (hx : ∀ x, r.1 = .inr x → x ∈ [2, 0, 5]) : ConW SHL G yL_byPairs cL_byPairs 7 (some .int) hh_L_byPairs rm_L_byPairs [VR 0, VI p0, VI p1, VI p2, VI p3, VR 489] m (hout wrI [2, 0, 5] r m) := by
  refine conW_of (own := "LastbusLaw") (by decide) rfl (Nat.le_of_ble_eq_true rfl) (fun C X tb nc => ?_)
  obtain ⟨O, hO⟩ : ∃ O : Res × Mem, O = hout wrI [2, 0, 5] r m := ⟨_, rfl⟩
  rw [← hO]
  show J SHL G rm_L_byPairs (.inl O) C 0 0 0 [(0, VR 0), (1, VI p0), (2, VI p1), (3, VI p2), (4, VI p3), (5, VR 489)] [] m
  refine s_loadR X 5 rfl dL_byPairs_0 ?_
  refine s_const X (by unfold InR; omega) dL_byPairs_2 ?_
  refine s_load0 X 0 rfl dL_byPairs_3 ?_
  refine s_iload_n X 1 rfl dL_byPairs_4 ?_
  refine s_iload_n X 2 rfl dL_byPairs_5 ?_
  refine s_iload_n X 3 rfl dL_byPairs_6 ?_
  refine s_iload X 4 rfl dL_byPairs_7 ?_
  refine s_callVH (As := [VI p0, VI p1, VI p2, VI p3]) X cw_L_123 SHL_0 rfl dL_byPairs_9 (con_C (L_C_byPairs G p0 p1 p2 p3 m r h)) rfl ⟨Nat.le_of_ble_eq_true rfl, Nat.le_of_ble_eq_true rfl⟩ ⟨Nat.le_of_ble_eq_true rfl, Nat.le_of_ble_eq_true rfl⟩ (Nat.le_of_ble_eq_true rfl) ?_ ?_
  · obtain ⟨r1, m1⟩ := r
    intro x h9
    cases r1 with
    | inl v => cases h9
    | inr x0 =>
      cases h9
      have hx0 := hx _ rfl
      simp only [List.mem_cons, List.not_mem_nil, or_false] at hx0
      rcases hx0 with rfl | rfl | rfl
      · exact jx_catch (hp := 17) (z := 1) X tb nc ⟨[], [(0, 14, 21, 13), (0, 14, 25, 30)], (0, 14, 17, 21), rfl, (fun z hz => by cases hz), by decide +kernel, by decide, rfl, cl_L_21, cstT _⟩ ⟨by unfold InR; omega, Or.inl ⟨6, by decide, dL_byPairs_17, dL_byPairs_19, dL_byPairs_20⟩⟩ (Nat.le_of_ble_eq_true rfl) (Nat.le_of_ble_eq_true rfl) (by show O = _; rw [hO]; rfl)
      · exact jx_catch (hp := 21) (z := 2) X tb nc ⟨[(0, 14, 17, 21)], [(0, 14, 25, 30)], (0, 14, 21, 13), rfl, (List.forall_mem_cons.mpr ⟨⟨by decide, "java/lang/IndexOutOfBoundsException", cl_L_21, by decide +kernel⟩, (fun z hz => by cases hz)⟩), by decide +kernel, by decide, rfl, cl_L_13, cstT _⟩ ⟨by unfold InR; omega, Or.inl ⟨6, by decide, dL_byPairs_21, dL_byPairs_23, dL_byPairs_24⟩⟩ (Nat.le_of_ble_eq_true rfl) (Nat.le_of_ble_eq_true rfl) (by show O = _; rw [hO]; rfl)
      · exact jx_catch (hp := 25) (z := 3) X tb nc ⟨[(0, 14, 17, 21), (0, 14, 21, 13)], [], (0, 14, 25, 30), rfl, (List.forall_mem_cons.mpr ⟨⟨by decide, "java/lang/IndexOutOfBoundsException", cl_L_21, by decide +kernel⟩, (List.forall_mem_cons.mpr ⟨⟨by decide, "java/lang/IllegalArgumentException", cl_L_13, by decide +kernel⟩, (fun z hz => by cases hz)⟩)⟩), by decide +kernel, by decide, rfl, cl_L_30, cstT _⟩ ⟨by unfold InR; omega, Or.inl ⟨6, by decide, dL_byPairs_25, dL_byPairs_27, dL_byPairs_28⟩⟩ (Nat.le_of_ble_eq_true rfl) (Nat.le_of_ble_eq_true rfl) (by show O = _; rw [hO]; rfl)
  · obtain ⟨r1, m1⟩ := r
    intro v h9
    cases r1 with
    | inr x0 => cases h9
    | inl a =>
      cases h9
      show J SHL G rm_L_byPairs (.inl O) C 5 30 12 [(0, VR 0), (1, VI p0), (2, VI p1), (3, VI p2), (4, VI p3), (5, VR 489)] [VI a, VI 0, VR 489] (putM 0 455 m m1)
      refine s_i2l X dL_byPairs_12 ?_
      refine s_last X SHL_489 dL_byPairs_13 ?_
      refine s_goto (tgt := 29) X dL_byPairs_14 (by omega) ?_
      refine s_const X (by unfold InR; omega) dL_byPairs_29 ?_
      exact s_iret X (Nat.le_of_ble_eq_true rfl) (Nat.le_of_ble_eq_true rfl) (by show O = _; rw [hO]; rfl) dL_byPairs_30
def rm_L_choices : Room := { frames := 10, cells := 4, slots := 24, locals := 174 }
def hh_L_choices : List (Nat × Nat × Nat × Nat) := [(0, 14, 17, 21), (0, 14, 21, 13)]
set_option maxRecDepth 20000 in
set_option maxHeartbeats 4000000 in
theorem H_choices (G : Gl) (p0 : Int) (p1 : Int) (p2 : Int) (p3 : Int) (m : Mem) (r : (Int ⊕ Nat) × Mem) (h : C_choices p0 p1 p2 p3 m = some r) (hx : ∀ x, r.1 = .inr x → x ∈ [2, 0]) : ConW SHL G yL_choices cL_choices 7 (some .int) hh_L_choices rm_L_choices [VR 0, VI p0, VI p1, VI p2, VI p3, VR 489] m (hout wrI [2, 0] r m) := by
  refine conW_of (own := "LastbusLaw") (by decide) rfl (Nat.le_of_ble_eq_true rfl) (fun C X tb nc => ?_)
  obtain ⟨O, hO⟩ : ∃ O : Res × Mem, O = hout wrI [2, 0] r m := ⟨_, rfl⟩
  rw [← hO]
  show J SHL G rm_L_choices (.inl O) C 0 0 0 [(0, VR 0), (1, VI p0), (2, VI p1), (3, VI p2), (4, VI p3), (5, VR 489)] [] m
  refine s_loadR X 5 rfl dL_choices_0 ?_
  refine s_const X (by unfold InR; omega) dL_choices_2 ?_
  refine s_load0 X 0 rfl dL_choices_3 ?_
  refine s_iload_n X 1 rfl dL_choices_4 ?_
  refine s_iload_n X 2 rfl dL_choices_5 ?_
  refine s_iload_n X 3 rfl dL_choices_6 ?_
  refine s_iload X 4 rfl dL_choices_7 ?_
  refine s_callVH (As := [VI p0, VI p1, VI p2, VI p3]) X cw_L_126 SHL_0 rfl dL_choices_9 (con_C (L_C_choices G p0 p1 p2 p3 m r h)) rfl ⟨Nat.le_of_ble_eq_true rfl, Nat.le_of_ble_eq_true rfl⟩ ⟨Nat.le_of_ble_eq_true rfl, Nat.le_of_ble_eq_true rfl⟩ (Nat.le_of_ble_eq_true rfl) ?_ ?_
  · obtain ⟨r1, m1⟩ := r
    intro x h9
    cases r1 with
    | inl v => cases h9
    | inr x0 =>
      cases h9
      have hx0 := hx _ rfl
      simp only [List.mem_cons, List.not_mem_nil, or_false] at hx0
      rcases hx0 with rfl | rfl
      · exact jx_catch (hp := 17) (z := 1) X tb nc ⟨[], [(0, 14, 21, 13)], (0, 14, 17, 21), rfl, (fun z hz => by cases hz), by decide +kernel, by decide, rfl, cl_L_21, cstT _⟩ ⟨by unfold InR; omega, Or.inl ⟨6, by decide, dL_choices_17, dL_choices_19, dL_choices_20⟩⟩ (Nat.le_of_ble_eq_true rfl) (Nat.le_of_ble_eq_true rfl) (by show O = _; rw [hO]; rfl)
      · exact jx_catch (hp := 21) (z := 2) X tb nc ⟨[(0, 14, 17, 21)], [], (0, 14, 21, 13), rfl, (List.forall_mem_cons.mpr ⟨⟨by decide, "java/lang/IndexOutOfBoundsException", cl_L_21, by decide +kernel⟩, (fun z hz => by cases hz)⟩), by decide +kernel, by decide, rfl, cl_L_13, cstT _⟩ ⟨by unfold InR; omega, Or.inl ⟨6, by decide, dL_choices_21, dL_choices_23, dL_choices_24⟩⟩ (Nat.le_of_ble_eq_true rfl) (Nat.le_of_ble_eq_true rfl) (by show O = _; rw [hO]; rfl)
  · obtain ⟨r1, m1⟩ := r
    intro v h9
    cases r1 with
    | inr x0 => cases h9
    | inl a =>
      cases h9
      show J SHL G rm_L_choices (.inl O) C 4 24 12 [(0, VR 0), (1, VI p0), (2, VI p1), (3, VI p2), (4, VI p3), (5, VR 489)] [VI a, VI 0, VR 489] (putM 0 455 m m1)
      refine s_i2l X dL_choices_12 ?_
      refine s_last X SHL_489 dL_choices_13 ?_
      refine s_goto (tgt := 25) X dL_choices_14 (by omega) ?_
      refine s_const X (by unfold InR; omega) dL_choices_25 ?_
      exact s_iret X (Nat.le_of_ble_eq_true rfl) (Nat.le_of_ble_eq_true rfl) (by show O = _; rw [hO]; rfl) dL_choices_26
def rm_L_choice : Room := { frames := 10, cells := 5, slots := 30, locals := 175 }
def hh_L_choice : List (Nat × Nat × Nat × Nat) := [(0, 16, 19, 21), (0, 16, 23, 13), (0, 16, 27, 30)]
set_option maxRecDepth 20000 in
set_option maxHeartbeats 4000000 in
theorem H_choice (G : Gl) (p0 : Int) (p1 : Int) (p2 : Int) (p3 : Int) (p4 : Int) (m : Mem) (r : (Int ⊕ Nat) × Mem) (h : C_choice p0 p1 p2 p3 p4 m = some r) (hx : ∀ x, r.1 = .inr x → x ∈ [2, 0, 5]) : ConW SHL G yL_choice cL_choice 8 (some .int) hh_L_choice rm_L_choice [VR 0, VI p0, VI p1, VI p2, VI p3, VI p4, VR 489] m (hout wrI [2, 0, 5] r m) := by
  refine conW_of (own := "LastbusLaw") (by decide) rfl (Nat.le_of_ble_eq_true rfl) (fun C X tb nc => ?_)
  obtain ⟨O, hO⟩ : ∃ O : Res × Mem, O = hout wrI [2, 0, 5] r m := ⟨_, rfl⟩
  rw [← hO]
  show J SHL G rm_L_choice (.inl O) C 0 0 0 [(0, VR 0), (1, VI p0), (2, VI p1), (3, VI p2), (4, VI p3), (5, VI p4), (6, VR 489)] [] m
  refine s_loadR X 6 rfl dL_choice_0 ?_
  refine s_const X (by unfold InR; omega) dL_choice_2 ?_
  refine s_load0 X 0 rfl dL_choice_3 ?_
  refine s_iload_n X 1 rfl dL_choice_4 ?_
  refine s_iload_n X 2 rfl dL_choice_5 ?_
  refine s_iload_n X 3 rfl dL_choice_6 ?_
  refine s_iload X 4 rfl dL_choice_7 ?_
  refine s_iload X 5 rfl dL_choice_9 ?_
  refine s_callVH (As := [VI p0, VI p1, VI p2, VI p3, VI p4]) X cw_L_129 SHL_0 rfl dL_choice_11 (con_C (L_C_choice G p0 p1 p2 p3 p4 m r h)) rfl ⟨Nat.le_of_ble_eq_true rfl, Nat.le_of_ble_eq_true rfl⟩ ⟨Nat.le_of_ble_eq_true rfl, Nat.le_of_ble_eq_true rfl⟩ (Nat.le_of_ble_eq_true rfl) ?_ ?_
  · obtain ⟨r1, m1⟩ := r
    intro x h9
    cases r1 with
    | inl v => cases h9
    | inr x0 =>
      cases h9
      have hx0 := hx _ rfl
      simp only [List.mem_cons, List.not_mem_nil, or_false] at hx0
      rcases hx0 with rfl | rfl | rfl
      · exact jx_catch (hp := 19) (z := 1) X tb nc ⟨[], [(0, 16, 23, 13), (0, 16, 27, 30)], (0, 16, 19, 21), rfl, (fun z hz => by cases hz), by decide +kernel, by decide, rfl, cl_L_21, cstT _⟩ ⟨by unfold InR; omega, Or.inl ⟨7, by decide, dL_choice_19, dL_choice_21, dL_choice_22⟩⟩ (Nat.le_of_ble_eq_true rfl) (Nat.le_of_ble_eq_true rfl) (by show O = _; rw [hO]; rfl)
      · exact jx_catch (hp := 23) (z := 2) X tb nc ⟨[(0, 16, 19, 21)], [(0, 16, 27, 30)], (0, 16, 23, 13), rfl, (List.forall_mem_cons.mpr ⟨⟨by decide, "java/lang/IndexOutOfBoundsException", cl_L_21, by decide +kernel⟩, (fun z hz => by cases hz)⟩), by decide +kernel, by decide, rfl, cl_L_13, cstT _⟩ ⟨by unfold InR; omega, Or.inl ⟨7, by decide, dL_choice_23, dL_choice_25, dL_choice_26⟩⟩ (Nat.le_of_ble_eq_true rfl) (Nat.le_of_ble_eq_true rfl) (by show O = _; rw [hO]; rfl)
      · exact jx_catch (hp := 27) (z := 3) X tb nc ⟨[(0, 16, 19, 21), (0, 16, 23, 13)], [], (0, 16, 27, 30), rfl, (List.forall_mem_cons.mpr ⟨⟨by decide, "java/lang/IndexOutOfBoundsException", cl_L_21, by decide +kernel⟩, (List.forall_mem_cons.mpr ⟨⟨by decide, "java/lang/IllegalArgumentException", cl_L_13, by decide +kernel⟩, (fun z hz => by cases hz)⟩)⟩), by decide +kernel, by decide, rfl, cl_L_30, cstT _⟩ ⟨by unfold InR; omega, Or.inl ⟨7, by decide, dL_choice_27, dL_choice_29, dL_choice_30⟩⟩ (Nat.le_of_ble_eq_true rfl) (Nat.le_of_ble_eq_true rfl) (by show O = _; rw [hO]; rfl)
  · obtain ⟨r1, m1⟩ := r
    intro v h9
    cases r1 with
    | inr x0 => cases h9
    | inl a =>
      cases h9
      show J SHL G rm_L_choice (.inl O) C 5 30 14 [(0, VR 0), (1, VI p0), (2, VI p1), (3, VI p2), (4, VI p3), (5, VI p4), (6, VR 489)] [VI a, VI 0, VR 489] (putM 0 455 m m1)
      refine s_i2l X dL_choice_14 ?_
      refine s_last X SHL_489 dL_choice_15 ?_
      refine s_goto (tgt := 31) X dL_choice_16 (by omega) ?_
      refine s_const X (by unfold InR; omega) dL_choice_31 ?_
      exact s_iret X (Nat.le_of_ble_eq_true rfl) (Nat.le_of_ble_eq_true rfl) (by show O = _; rw [hO]; rfl) dL_choice_32
def rm_L_holds : Room := { frames := 9, cells := 10, slots := 60, locals := 155 }
def hh_L_holds : List (Nat × Nat × Nat × Nat) := [(0, 23, 26, 21), (0, 23, 30, 13), (0, 23, 34, 80), (0, 23, 38, 30)]
set_option maxRecDepth 20000 in
set_option maxHeartbeats 4000000 in
theorem H_holds (G : Gl) (p0 : Int) (p1 : Int) (p2 : Int) (p3 : Int) (p4 : Int) (m : Mem) (r : (Int ⊕ Nat) × Mem) (h : C_holds p0 p1 p2 p3 p4 m = some r) (hx : ∀ x, r.1 = .inr x → x ∈ [2, 0, 4, 5]) : ConW SHL G yL_holds cL_holds 8 (some .int) hh_L_holds rm_L_holds [VR 0, VI p0, VI p1, VI p2, VI p3, VI p4, VR 489] m (hout wrB [2, 0, 4, 5] r m) := by
  refine conW_of (own := "LastbusLaw") (by decide) rfl (Nat.le_of_ble_eq_true rfl) (fun C X tb nc => ?_)
  obtain ⟨O, hO⟩ : ∃ O : Res × Mem, O = hout wrB [2, 0, 4, 5] r m := ⟨_, rfl⟩
  rw [← hO]
  show J SHL G rm_L_holds (.inl O) C 0 0 0 [(0, VR 0), (1, VI p0), (2, VI p1), (3, VI p2), (4, VI p3), (5, VI p4), (6, VR 489)] [] m
  refine s_loadR X 6 rfl dL_holds_0 ?_
  refine s_const X (by unfold InR; omega) dL_holds_2 ?_
  refine s_load0 X 0 rfl dL_holds_3 ?_
  refine s_iload_n X 1 rfl dL_holds_4 ?_
  refine s_iload_n X 2 rfl dL_holds_5 ?_
  refine s_iload_n X 3 rfl dL_holds_6 ?_
  refine s_iload X 4 rfl dL_holds_7 ?_
  refine s_iload X 5 rfl dL_holds_9 ?_
  refine s_callVH (As := [VI p0, VI p1, VI p2, VI p3, VI p4]) X cw_L_133 SHL_0 rfl dL_holds_11 (con_C (L_C_holds G p0 p1 p2 p3 p4 m r h)) rfl ⟨Nat.le_of_ble_eq_true rfl, Nat.le_of_ble_eq_true rfl⟩ ⟨Nat.le_of_ble_eq_true rfl, Nat.le_of_ble_eq_true rfl⟩ (Nat.le_of_ble_eq_true rfl) ?_ ?_
  · obtain ⟨r1, m1⟩ := r
    intro x h9
    cases r1 with
    | inl v => cases h9
    | inr x0 =>
      cases h9
      have hx0 := hx _ rfl
      simp only [List.mem_cons, List.not_mem_nil, or_false] at hx0
      rcases hx0 with rfl | rfl | rfl | rfl
      · exact jx_catch (hp := 26) (z := 1) X tb nc ⟨[], [(0, 23, 30, 13), (0, 23, 34, 80), (0, 23, 38, 30)], (0, 23, 26, 21), rfl, (fun z hz => by cases hz), by decide +kernel, by decide, rfl, cl_L_21, cstT _⟩ ⟨by unfold InR; omega, Or.inl ⟨7, by decide, dL_holds_26, dL_holds_28, dL_holds_29⟩⟩ (Nat.le_of_ble_eq_true rfl) (Nat.le_of_ble_eq_true rfl) (by show O = _; rw [hO]; rfl)
      · exact jx_catch (hp := 30) (z := 2) X tb nc ⟨[(0, 23, 26, 21)], [(0, 23, 34, 80), (0, 23, 38, 30)], (0, 23, 30, 13), rfl, (List.forall_mem_cons.mpr ⟨⟨by decide, "java/lang/IndexOutOfBoundsException", cl_L_21, by decide +kernel⟩, (fun z hz => by cases hz)⟩), by decide +kernel, by decide, rfl, cl_L_13, cstT _⟩ ⟨by unfold InR; omega, Or.inl ⟨7, by decide, dL_holds_30, dL_holds_32, dL_holds_33⟩⟩ (Nat.le_of_ble_eq_true rfl) (Nat.le_of_ble_eq_true rfl) (by show O = _; rw [hO]; rfl)
      · exact jx_catch (hp := 34) (z := 3) X tb nc ⟨[(0, 23, 26, 21), (0, 23, 30, 13)], [(0, 23, 38, 30)], (0, 23, 34, 80), rfl, (List.forall_mem_cons.mpr ⟨⟨by decide, "java/lang/IndexOutOfBoundsException", cl_L_21, by decide +kernel⟩, (List.forall_mem_cons.mpr ⟨⟨by decide, "java/lang/IllegalArgumentException", cl_L_13, by decide +kernel⟩, (fun z hz => by cases hz)⟩)⟩), by decide +kernel, by decide, rfl, cl_L_80, cstT _⟩ ⟨by unfold InR; omega, Or.inl ⟨7, by decide, dL_holds_34, dL_holds_36, dL_holds_37⟩⟩ (Nat.le_of_ble_eq_true rfl) (Nat.le_of_ble_eq_true rfl) (by show O = _; rw [hO]; rfl)
      · exact jx_catch (hp := 38) (z := 4) X tb nc ⟨[(0, 23, 26, 21), (0, 23, 30, 13), (0, 23, 34, 80)], [], (0, 23, 38, 30), rfl, (List.forall_mem_cons.mpr ⟨⟨by decide, "java/lang/IndexOutOfBoundsException", cl_L_21, by decide +kernel⟩, (List.forall_mem_cons.mpr ⟨⟨by decide, "java/lang/IllegalArgumentException", cl_L_13, by decide +kernel⟩, (List.forall_mem_cons.mpr ⟨⟨by decide, "java/lang/UnsupportedOperationException", cl_L_80, by decide +kernel⟩, (fun z hz => by cases hz)⟩)⟩)⟩), by decide +kernel, by decide, rfl, cl_L_30, cstT _⟩ ⟨by unfold InR; omega, Or.inl ⟨7, by decide, dL_holds_38, dL_holds_40, dL_holds_41⟩⟩ (Nat.le_of_ble_eq_true rfl) (Nat.le_of_ble_eq_true rfl) (by show O = _; rw [hO]; rfl)
  · obtain ⟨r1, m1⟩ := r
    intro v h9
    cases r1 with
    | inr x0 => cases h9
    | inl a =>
      cases h9
      show J SHL G rm_L_holds (.inl O) C 10 60 14 [(0, VR 0), (1, VI p0), (2, VI p1), (3, VI p2), (4, VI p3), (5, VI p4), (6, VR 489)] [VI a, VI 0, VR 489] (putM 0 455 m m1)
      refine s_ifeq_t (tgt := 21) X dL_holds_14 (by omega) (fun c1 => ?_) (fun c1 => ?_)
      · refine s_lconst X dL_holds_21 ?_
        refine s_last X SHL_489 dL_holds_22 ?_
        refine s_goto (tgt := 42) X dL_holds_23 (by omega) ?_
        refine s_const X (by unfold InR; omega) dL_holds_42 ?_
        exact s_iret X (Nat.le_of_ble_eq_true rfl) (Nat.le_of_ble_eq_true rfl) (by show O = _; rw [hO]; show ((_, wrB a (putM 0 455 m m1)) : Res × Mem) = _; unfold wrB; rw [if_pos c1]; rfl) dL_holds_43
      · refine s_lconst X dL_holds_17 ?_
        refine s_goto (tgt := 22) X dL_holds_18 (by omega) ?_
        refine s_last X SHL_489 dL_holds_22 ?_
        refine s_goto (tgt := 42) X dL_holds_23 (by omega) ?_
        refine s_const X (by unfold InR; omega) dL_holds_42 ?_
        exact s_iret X (Nat.le_of_ble_eq_true rfl) (Nat.le_of_ble_eq_true rfl) (by show O = _; rw [hO]; show ((_, wrB a (putM 0 455 m m1)) : Res × Mem) = _; unfold wrB; rw [if_neg c1]; rfl) dL_holds_43
def rm_L_wish : Room := { frames := 9, cells := 9, slots := 54, locals := 152 }
def hh_L_wish : List (Nat × Nat × Nat × Nat) := [(0, 16, 19, 21), (0, 16, 23, 13), (0, 16, 27, 80), (0, 16, 31, 15)]
set_option maxRecDepth 20000 in
set_option maxHeartbeats 4000000 in
theorem H_wish (G : Gl) (p0 : Int) (p1 : Int) (p2 : Int) (p3 : Int) (p4 : Int) (m : Mem) (r : (Int ⊕ Nat) × Mem) (h : C_wish p0 p1 p2 p3 p4 m = some r) (hx : ∀ x, r.1 = .inr x → x ∈ [2, 0, 4, 1]) : ConW SHL G yL_wish cL_wish 8 (some .int) hh_L_wish rm_L_wish [VR 0, VI p0, VI p1, VI p2, VI p3, VI p4, VR 489] m (hout wrI [2, 0, 4, 1] r m) := by
  refine conW_of (own := "LastbusLaw") (by decide) rfl (Nat.le_of_ble_eq_true rfl) (fun C X tb nc => ?_)
  obtain ⟨O, hO⟩ : ∃ O : Res × Mem, O = hout wrI [2, 0, 4, 1] r m := ⟨_, rfl⟩
  rw [← hO]
  show J SHL G rm_L_wish (.inl O) C 0 0 0 [(0, VR 0), (1, VI p0), (2, VI p1), (3, VI p2), (4, VI p3), (5, VI p4), (6, VR 489)] [] m
  refine s_loadR X 6 rfl dL_wish_0 ?_
  refine s_const X (by unfold InR; omega) dL_wish_2 ?_
  refine s_load0 X 0 rfl dL_wish_3 ?_
  refine s_iload_n X 1 rfl dL_wish_4 ?_
  refine s_iload_n X 2 rfl dL_wish_5 ?_
  refine s_iload_n X 3 rfl dL_wish_6 ?_
  refine s_iload X 4 rfl dL_wish_7 ?_
  refine s_iload X 5 rfl dL_wish_9 ?_
  refine s_callVH (As := [VI p0, VI p1, VI p2, VI p3, VI p4]) X cw_L_137 SHL_0 rfl dL_wish_11 (con_C (L_C_wish G p0 p1 p2 p3 p4 m r h)) rfl ⟨Nat.le_of_ble_eq_true rfl, Nat.le_of_ble_eq_true rfl⟩ ⟨Nat.le_of_ble_eq_true rfl, Nat.le_of_ble_eq_true rfl⟩ (Nat.le_of_ble_eq_true rfl) ?_ ?_
  · obtain ⟨r1, m1⟩ := r
    intro x h9
    cases r1 with
    | inl v => cases h9
    | inr x0 =>
      cases h9
      have hx0 := hx _ rfl
      simp only [List.mem_cons, List.not_mem_nil, or_false] at hx0
      rcases hx0 with rfl | rfl | rfl | rfl
      · exact jx_catch (hp := 19) (z := 1) X tb nc ⟨[], [(0, 16, 23, 13), (0, 16, 27, 80), (0, 16, 31, 15)], (0, 16, 19, 21), rfl, (fun z hz => by cases hz), by decide +kernel, by decide, rfl, cl_L_21, cstT _⟩ ⟨by unfold InR; omega, Or.inl ⟨7, by decide, dL_wish_19, dL_wish_21, dL_wish_22⟩⟩ (Nat.le_of_ble_eq_true rfl) (Nat.le_of_ble_eq_true rfl) (by show O = _; rw [hO]; rfl)
      · exact jx_catch (hp := 23) (z := 2) X tb nc ⟨[(0, 16, 19, 21)], [(0, 16, 27, 80), (0, 16, 31, 15)], (0, 16, 23, 13), rfl, (List.forall_mem_cons.mpr ⟨⟨by decide, "java/lang/IndexOutOfBoundsException", cl_L_21, by decide +kernel⟩, (fun z hz => by cases hz)⟩), by decide +kernel, by decide, rfl, cl_L_13, cstT _⟩ ⟨by unfold InR; omega, Or.inl ⟨7, by decide, dL_wish_23, dL_wish_25, dL_wish_26⟩⟩ (Nat.le_of_ble_eq_true rfl) (Nat.le_of_ble_eq_true rfl) (by show O = _; rw [hO]; rfl)
      · exact jx_catch (hp := 27) (z := 3) X tb nc ⟨[(0, 16, 19, 21), (0, 16, 23, 13)], [(0, 16, 31, 15)], (0, 16, 27, 80), rfl, (List.forall_mem_cons.mpr ⟨⟨by decide, "java/lang/IndexOutOfBoundsException", cl_L_21, by decide +kernel⟩, (List.forall_mem_cons.mpr ⟨⟨by decide, "java/lang/IllegalArgumentException", cl_L_13, by decide +kernel⟩, (fun z hz => by cases hz)⟩)⟩), by decide +kernel, by decide, rfl, cl_L_80, cstT _⟩ ⟨by unfold InR; omega, Or.inl ⟨7, by decide, dL_wish_27, dL_wish_29, dL_wish_30⟩⟩ (Nat.le_of_ble_eq_true rfl) (Nat.le_of_ble_eq_true rfl) (by show O = _; rw [hO]; rfl)
      · exact jx_catch (hp := 31) (z := 4) X tb nc ⟨[(0, 16, 19, 21), (0, 16, 23, 13), (0, 16, 27, 80)], [], (0, 16, 31, 15), rfl, (List.forall_mem_cons.mpr ⟨⟨by decide, "java/lang/IndexOutOfBoundsException", cl_L_21, by decide +kernel⟩, (List.forall_mem_cons.mpr ⟨⟨by decide, "java/lang/IllegalArgumentException", cl_L_13, by decide +kernel⟩, (List.forall_mem_cons.mpr ⟨⟨by decide, "java/lang/UnsupportedOperationException", cl_L_80, by decide +kernel⟩, (fun z hz => by cases hz)⟩)⟩)⟩), by decide +kernel, by decide, rfl, cl_L_15, cstT _⟩ ⟨by unfold InR; omega, Or.inl ⟨7, by decide, dL_wish_31, dL_wish_33, dL_wish_34⟩⟩ (Nat.le_of_ble_eq_true rfl) (Nat.le_of_ble_eq_true rfl) (by show O = _; rw [hO]; rfl)
  · obtain ⟨r1, m1⟩ := r
    intro v h9
    cases r1 with
    | inr x0 => cases h9
    | inl a =>
      cases h9
      show J SHL G rm_L_wish (.inl O) C 9 54 14 [(0, VR 0), (1, VI p0), (2, VI p1), (3, VI p2), (4, VI p3), (5, VI p4), (6, VR 489)] [VI a, VI 0, VR 489] (putM 0 455 m m1)
      refine s_i2l X dL_wish_14 ?_
      refine s_last X SHL_489 dL_wish_15 ?_
      refine s_goto (tgt := 35) X dL_wish_16 (by omega) ?_
      refine s_const X (by unfold InR; omega) dL_wish_35 ?_
      exact s_iret X (Nat.le_of_ble_eq_true rfl) (Nat.le_of_ble_eq_true rfl) (by show O = _; rw [hO]; rfl) dL_wish_36
def rm_L_waitCost : Room := { frames := 9, cells := 3, slots := 18, locals := 177 }
def hh_L_waitCost : List (Nat × Nat × Nat × Nat) := [(0, 10, 13, 13), (0, 10, 17, 30)]
set_option maxRecDepth 20000 in
set_option maxHeartbeats 4000000 in
theorem H_waitCost (G : Gl) (p0 : Int) (p1 : Int) (m : Mem) (r : (Int ⊕ Nat) × Mem) (h : C_waitCost p0 p1 m = some r) (hx : ∀ x, r.1 = .inr x → x ∈ [0, 5]) : ConW SHL G yL_waitCost cL_waitCost 5 (some .int) hh_L_waitCost rm_L_waitCost [VR 0, VI p0, VI p1, VR 489] m (hout wrI [0, 5] r m) := by
  refine conW_of (own := "LastbusLaw") (by decide) rfl (Nat.le_of_ble_eq_true rfl) (fun C X tb nc => ?_)
  obtain ⟨O, hO⟩ : ∃ O : Res × Mem, O = hout wrI [0, 5] r m := ⟨_, rfl⟩
  rw [← hO]
  show J SHL G rm_L_waitCost (.inl O) C 0 0 0 [(0, VR 0), (1, VI p0), (2, VI p1), (3, VR 489)] [] m
  refine s_load0 X 3 rfl dL_waitCost_0 ?_
  refine s_const X (by unfold InR; omega) dL_waitCost_1 ?_
  refine s_load0 X 0 rfl dL_waitCost_2 ?_
  refine s_iload_n X 1 rfl dL_waitCost_3 ?_
  refine s_iload_n X 2 rfl dL_waitCost_4 ?_
  refine s_callVH (As := [VI p0, VI p1]) X cw_L_140 SHL_0 rfl dL_waitCost_5 (con_C (L_C_waitCost G p0 p1 m r h)) rfl ⟨Nat.le_of_ble_eq_true rfl, Nat.le_of_ble_eq_true rfl⟩ ⟨Nat.le_of_ble_eq_true rfl, Nat.le_of_ble_eq_true rfl⟩ (Nat.le_of_ble_eq_true rfl) ?_ ?_
  · obtain ⟨r1, m1⟩ := r
    intro x h9
    cases r1 with
    | inl v => cases h9
    | inr x0 =>
      cases h9
      have hx0 := hx _ rfl
      simp only [List.mem_cons, List.not_mem_nil, or_false] at hx0
      rcases hx0 with rfl | rfl
      · exact jx_catch (hp := 13) (z := 1) X tb nc ⟨[], [(0, 10, 17, 30)], (0, 10, 13, 13), rfl, (fun z hz => by cases hz), by decide +kernel, by decide, rfl, cl_L_13, cstT _⟩ ⟨by unfold InR; omega, Or.inl ⟨4, by decide, dL_waitCost_13, dL_waitCost_15, dL_waitCost_16⟩⟩ (Nat.le_of_ble_eq_true rfl) (Nat.le_of_ble_eq_true rfl) (by show O = _; rw [hO]; rfl)
      · exact jx_catch (hp := 17) (z := 2) X tb nc ⟨[(0, 10, 13, 13)], [], (0, 10, 17, 30), rfl, (List.forall_mem_cons.mpr ⟨⟨by decide, "java/lang/IllegalArgumentException", cl_L_13, by decide +kernel⟩, (fun z hz => by cases hz)⟩), by decide +kernel, by decide, rfl, cl_L_30, cstT _⟩ ⟨by unfold InR; omega, Or.inl ⟨4, by decide, dL_waitCost_17, dL_waitCost_19, dL_waitCost_20⟩⟩ (Nat.le_of_ble_eq_true rfl) (Nat.le_of_ble_eq_true rfl) (by show O = _; rw [hO]; rfl)
  · obtain ⟨r1, m1⟩ := r
    intro v h9
    cases r1 with
    | inr x0 => cases h9
    | inl a =>
      cases h9
      show J SHL G rm_L_waitCost (.inl O) C 3 18 8 [(0, VR 0), (1, VI p0), (2, VI p1), (3, VR 489)] [VI a, VI 0, VR 489] (putM 0 455 m m1)
      refine s_i2l X dL_waitCost_8 ?_
      refine s_last X SHL_489 dL_waitCost_9 ?_
      refine s_goto (tgt := 21) X dL_waitCost_10 (by omega) ?_
      refine s_const X (by unfold InR; omega) dL_waitCost_21 ?_
      exact s_iret X (Nat.le_of_ble_eq_true rfl) (Nat.le_of_ble_eq_true rfl) (by show O = _; rw [hO]; rfl) dL_waitCost_22
def rm_L_bestWaits : Room := { frames := 9, cells := 1, slots := 6, locals := 179 }
def hh_L_bestWaits : List (Nat × Nat × Nat × Nat) := [(0, 9, 12, 13)]
set_option maxRecDepth 20000 in
set_option maxHeartbeats 4000000 in
theorem H_bestWaits (G : Gl) (p0 : Int) (m : Mem) (r : (Int ⊕ Nat) × Mem) (h : C_bestWaits p0 m = some r) (hx : ∀ x, r.1 = .inr x → x ∈ [0]) : ConW SHL G yL_bestWaits cL_bestWaits 4 (some .int) hh_L_bestWaits rm_L_bestWaits [VR 0, VI p0, VR 489] m (hout wrI [0] r m) := by
  refine conW_of (own := "LastbusLaw") (by decide) rfl (Nat.le_of_ble_eq_true rfl) (fun C X tb nc => ?_)
  obtain ⟨O, hO⟩ : ∃ O : Res × Mem, O = hout wrI [0] r m := ⟨_, rfl⟩
  rw [← hO]
  show J SHL G rm_L_bestWaits (.inl O) C 0 0 0 [(0, VR 0), (1, VI p0), (2, VR 489)] [] m
  refine s_load0 X 2 rfl dL_bestWaits_0 ?_
  refine s_const X (by unfold InR; omega) dL_bestWaits_1 ?_
  refine s_load0 X 0 rfl dL_bestWaits_2 ?_
  refine s_iload_n X 1 rfl dL_bestWaits_3 ?_
  refine s_callVH (As := [VI p0]) X cw_L_143 SHL_0 rfl dL_bestWaits_4 (con_C (L_C_bestWaits G p0 m r h)) rfl ⟨Nat.le_of_ble_eq_true rfl, Nat.le_of_ble_eq_true rfl⟩ ⟨Nat.le_of_ble_eq_true rfl, Nat.le_of_ble_eq_true rfl⟩ (Nat.le_of_ble_eq_true rfl) ?_ ?_
  · obtain ⟨r1, m1⟩ := r
    intro x h9
    cases r1 with
    | inl v => cases h9
    | inr x0 =>
      cases h9
      have hx0 := hx _ rfl
      simp only [List.mem_cons, List.not_mem_nil, or_false] at hx0
      rcases hx0 with rfl
      · exact jx_catch (hp := 12) (z := 1) X tb nc ⟨[], [], (0, 9, 12, 13), rfl, (fun z hz => by cases hz), by decide +kernel, by decide, rfl, cl_L_13, cstT _⟩ ⟨by unfold InR; omega, Or.inr ⟨3, by decide, dL_bestWaits_12, dL_bestWaits_13, dL_bestWaits_14⟩⟩ (Nat.le_of_ble_eq_true rfl) (Nat.le_of_ble_eq_true rfl) (by show O = _; rw [hO]; rfl)
  · obtain ⟨r1, m1⟩ := r
    intro v h9
    cases r1 with
    | inr x0 => cases h9
    | inl a =>
      cases h9
      show J SHL G rm_L_bestWaits (.inl O) C 1 6 7 [(0, VR 0), (1, VI p0), (2, VR 489)] [VI a, VI 0, VR 489] (putM 0 455 m m1)
      refine s_i2l X dL_bestWaits_7 ?_
      refine s_last X SHL_489 dL_bestWaits_8 ?_
      refine s_goto (tgt := 15) X dL_bestWaits_9 (by omega) ?_
      refine s_const X (by unfold InR; omega) dL_bestWaits_15 ?_
      exact s_iret X (Nat.le_of_ble_eq_true rfl) (Nat.le_of_ble_eq_true rfl) (by show O = _; rw [hO]; rfl) dL_bestWaits_16
def rm_L_lost : Room := { frames := 9, cells := 2, slots := 12, locals := 151 }
def hh_L_lost : List (Nat × Nat × Nat × Nat) := [(0, 10, 13, 21), (0, 10, 17, 13)]
set_option maxRecDepth 20000 in
set_option maxHeartbeats 4000000 in
theorem H_lost (G : Gl) (p0 : Int) (p1 : Int) (m : Mem) (r : (Int ⊕ Nat) × Mem) (h : C_lost p0 p1 m = some r) (hx : ∀ x, r.1 = .inr x → x ∈ [2, 0]) : ConW SHL G yL_lost cL_lost 5 (some .int) hh_L_lost rm_L_lost [VR 0, VI p0, VI p1, VR 489] m (hout wrI [2, 0] r m) := by
  refine conW_of (own := "LastbusLaw") (by decide) rfl (Nat.le_of_ble_eq_true rfl) (fun C X tb nc => ?_)
  obtain ⟨O, hO⟩ : ∃ O : Res × Mem, O = hout wrI [2, 0] r m := ⟨_, rfl⟩
  rw [← hO]
  show J SHL G rm_L_lost (.inl O) C 0 0 0 [(0, VR 0), (1, VI p0), (2, VI p1), (3, VR 489)] [] m
  refine s_load0 X 3 rfl dL_lost_0 ?_
  refine s_const X (by unfold InR; omega) dL_lost_1 ?_
  refine s_load0 X 0 rfl dL_lost_2 ?_
  refine s_iload_n X 1 rfl dL_lost_3 ?_
  refine s_iload_n X 2 rfl dL_lost_4 ?_
  refine s_callVH (As := [VI p0, VI p1]) X cw_L_146 SHL_0 rfl dL_lost_5 (con_C (L_C_lost G p0 p1 m r h)) rfl ⟨Nat.le_of_ble_eq_true rfl, Nat.le_of_ble_eq_true rfl⟩ ⟨Nat.le_of_ble_eq_true rfl, Nat.le_of_ble_eq_true rfl⟩ (Nat.le_of_ble_eq_true rfl) ?_ ?_
  · obtain ⟨r1, m1⟩ := r
    intro x h9
    cases r1 with
    | inl v => cases h9
    | inr x0 =>
      cases h9
      have hx0 := hx _ rfl
      simp only [List.mem_cons, List.not_mem_nil, or_false] at hx0
      rcases hx0 with rfl | rfl
      · exact jx_catch (hp := 13) (z := 1) X tb nc ⟨[], [(0, 10, 17, 13)], (0, 10, 13, 21), rfl, (fun z hz => by cases hz), by decide +kernel, by decide, rfl, cl_L_21, cstT _⟩ ⟨by unfold InR; omega, Or.inl ⟨4, by decide, dL_lost_13, dL_lost_15, dL_lost_16⟩⟩ (Nat.le_of_ble_eq_true rfl) (Nat.le_of_ble_eq_true rfl) (by show O = _; rw [hO]; rfl)
      · exact jx_catch (hp := 17) (z := 2) X tb nc ⟨[(0, 10, 13, 21)], [], (0, 10, 17, 13), rfl, (List.forall_mem_cons.mpr ⟨⟨by decide, "java/lang/IndexOutOfBoundsException", cl_L_21, by decide +kernel⟩, (fun z hz => by cases hz)⟩), by decide +kernel, by decide, rfl, cl_L_13, cstT _⟩ ⟨by unfold InR; omega, Or.inl ⟨4, by decide, dL_lost_17, dL_lost_19, dL_lost_20⟩⟩ (Nat.le_of_ble_eq_true rfl) (Nat.le_of_ble_eq_true rfl) (by show O = _; rw [hO]; rfl)
  · obtain ⟨r1, m1⟩ := r
    intro v h9
    cases r1 with
    | inr x0 => cases h9
    | inl a =>
      cases h9
      show J SHL G rm_L_lost (.inl O) C 2 12 8 [(0, VR 0), (1, VI p0), (2, VI p1), (3, VR 489)] [VI a, VI 0, VR 489] (putM 0 455 m m1)
      refine s_i2l X dL_lost_8 ?_
      refine s_last X SHL_489 dL_lost_9 ?_
      refine s_goto (tgt := 21) X dL_lost_10 (by omega) ?_
      refine s_const X (by unfold InR; omega) dL_lost_21 ?_
      exact s_iret X (Nat.le_of_ble_eq_true rfl) (Nat.le_of_ble_eq_true rfl) (by show O = _; rw [hO]; rfl) dL_lost_22
def rm_L_bridges : Room := { frames := 9, cells := 1, slots := 6, locals := 152 }
def hh_L_bridges : List (Nat × Nat × Nat × Nat) := [(0, 9, 12, 13)]
set_option maxRecDepth 20000 in
set_option maxHeartbeats 4000000 in
theorem H_bridges (G : Gl) (p0 : Int) (m : Mem) (r : (Int ⊕ Nat) × Mem) (h : C_bridges p0 m = some r) (hx : ∀ x, r.1 = .inr x → x ∈ [0]) : ConW SHL G yL_bridges cL_bridges 4 (some .int) hh_L_bridges rm_L_bridges [VR 0, VI p0, VR 489] m (hout wrI [0] r m) := by
  refine conW_of (own := "LastbusLaw") (by decide) rfl (Nat.le_of_ble_eq_true rfl) (fun C X tb nc => ?_)
  obtain ⟨O, hO⟩ : ∃ O : Res × Mem, O = hout wrI [0] r m := ⟨_, rfl⟩
  rw [← hO]
  show J SHL G rm_L_bridges (.inl O) C 0 0 0 [(0, VR 0), (1, VI p0), (2, VR 489)] [] m
  refine s_load0 X 2 rfl dL_bridges_0 ?_
  refine s_const X (by unfold InR; omega) dL_bridges_1 ?_
  refine s_load0 X 0 rfl dL_bridges_2 ?_
  refine s_iload_n X 1 rfl dL_bridges_3 ?_
  refine s_callVH (As := [VI p0]) X cw_L_149 SHL_0 rfl dL_bridges_4 (con_C (L_C_bridges G p0 m r h)) rfl ⟨Nat.le_of_ble_eq_true rfl, Nat.le_of_ble_eq_true rfl⟩ ⟨Nat.le_of_ble_eq_true rfl, Nat.le_of_ble_eq_true rfl⟩ (Nat.le_of_ble_eq_true rfl) ?_ ?_
  · obtain ⟨r1, m1⟩ := r
    intro x h9
    cases r1 with
    | inl v => cases h9
    | inr x0 =>
      cases h9
      have hx0 := hx _ rfl
      simp only [List.mem_cons, List.not_mem_nil, or_false] at hx0
      rcases hx0 with rfl
      · exact jx_catch (hp := 12) (z := 1) X tb nc ⟨[], [], (0, 9, 12, 13), rfl, (fun z hz => by cases hz), by decide +kernel, by decide, rfl, cl_L_13, cstT _⟩ ⟨by unfold InR; omega, Or.inr ⟨3, by decide, dL_bridges_12, dL_bridges_13, dL_bridges_14⟩⟩ (Nat.le_of_ble_eq_true rfl) (Nat.le_of_ble_eq_true rfl) (by show O = _; rw [hO]; rfl)
  · obtain ⟨r1, m1⟩ := r
    intro v h9
    cases r1 with
    | inr x0 => cases h9
    | inl a =>
      cases h9
      show J SHL G rm_L_bridges (.inl O) C 1 6 7 [(0, VR 0), (1, VI p0), (2, VR 489)] [VI a, VI 0, VR 489] (putM 0 455 m m1)
      refine s_i2l X dL_bridges_7 ?_
      refine s_last X SHL_489 dL_bridges_8 ?_
      refine s_goto (tgt := 15) X dL_bridges_9 (by omega) ?_
      refine s_const X (by unfold InR; omega) dL_bridges_15 ?_
      exact s_iret X (Nat.le_of_ble_eq_true rfl) (Nat.le_of_ble_eq_true rfl) (by show O = _; rw [hO]; rfl) dL_bridges_16
def rm_L_vehicles : Room := { frames := 9, cells := 1, slots := 6, locals := 154 }
def hh_L_vehicles : List (Nat × Nat × Nat × Nat) := [(0, 9, 12, 13)]
set_option maxRecDepth 20000 in
set_option maxHeartbeats 4000000 in
theorem H_vehicles (G : Gl) (p0 : Int) (m : Mem) (r : (Int ⊕ Nat) × Mem) (h : C_vehicles p0 m = some r) (hx : ∀ x, r.1 = .inr x → x ∈ [0]) : ConW SHL G yL_vehicles cL_vehicles 4 (some .int) hh_L_vehicles rm_L_vehicles [VR 0, VI p0, VR 489] m (hout wrI [0] r m) := by
  refine conW_of (own := "LastbusLaw") (by decide) rfl (Nat.le_of_ble_eq_true rfl) (fun C X tb nc => ?_)
  obtain ⟨O, hO⟩ : ∃ O : Res × Mem, O = hout wrI [0] r m := ⟨_, rfl⟩
  rw [← hO]
  show J SHL G rm_L_vehicles (.inl O) C 0 0 0 [(0, VR 0), (1, VI p0), (2, VR 489)] [] m
  refine s_load0 X 2 rfl dL_vehicles_0 ?_
  refine s_const X (by unfold InR; omega) dL_vehicles_1 ?_
  refine s_load0 X 0 rfl dL_vehicles_2 ?_
  refine s_iload_n X 1 rfl dL_vehicles_3 ?_
  refine s_callVH (As := [VI p0]) X cw_L_152 SHL_0 rfl dL_vehicles_4 (con_C (L_C_vehicles G p0 m r h)) rfl ⟨Nat.le_of_ble_eq_true rfl, Nat.le_of_ble_eq_true rfl⟩ ⟨Nat.le_of_ble_eq_true rfl, Nat.le_of_ble_eq_true rfl⟩ (Nat.le_of_ble_eq_true rfl) ?_ ?_
  · obtain ⟨r1, m1⟩ := r
    intro x h9
    cases r1 with
    | inl v => cases h9
    | inr x0 =>
      cases h9
      have hx0 := hx _ rfl
      simp only [List.mem_cons, List.not_mem_nil, or_false] at hx0
      rcases hx0 with rfl
      · exact jx_catch (hp := 12) (z := 1) X tb nc ⟨[], [], (0, 9, 12, 13), rfl, (fun z hz => by cases hz), by decide +kernel, by decide, rfl, cl_L_13, cstT _⟩ ⟨by unfold InR; omega, Or.inr ⟨3, by decide, dL_vehicles_12, dL_vehicles_13, dL_vehicles_14⟩⟩ (Nat.le_of_ble_eq_true rfl) (Nat.le_of_ble_eq_true rfl) (by show O = _; rw [hO]; rfl)
  · obtain ⟨r1, m1⟩ := r
    intro v h9
    cases r1 with
    | inr x0 => cases h9
    | inl a =>
      cases h9
      show J SHL G rm_L_vehicles (.inl O) C 1 6 7 [(0, VR 0), (1, VI p0), (2, VR 489)] [VI a, VI 0, VR 489] (putM 0 455 m m1)
      refine s_i2l X dL_vehicles_7 ?_
      refine s_last X SHL_489 dL_vehicles_8 ?_
      refine s_goto (tgt := 15) X dL_vehicles_9 (by omega) ?_
      refine s_const X (by unfold InR; omega) dL_vehicles_15 ?_
      exact s_iret X (Nat.le_of_ble_eq_true rfl) (Nat.le_of_ble_eq_true rfl) (by show O = _; rw [hO]; rfl) dL_vehicles_16
def rm_L_vehiclesByMatching : Room := { frames := 9, cells := 1, slots := 6, locals := 145 }
def hh_L_vehiclesByMatching : List (Nat × Nat × Nat × Nat) := [(0, 9, 12, 13)]
set_option maxRecDepth 20000 in
set_option maxHeartbeats 4000000 in
theorem H_vehiclesByMatching (G : Gl) (p0 : Int) (m : Mem) (r : (Int ⊕ Nat) × Mem) (h : C_vehiclesByMatching p0 m = some r) (hx : ∀ x, r.1 = .inr x → x ∈ [0]) : ConW SHL G yL_vehiclesByMatching cL_vehiclesByMatching 4 (some .int) hh_L_vehiclesByMatching rm_L_vehiclesByMatching [VR 0, VI p0, VR 489] m (hout wrI [0] r m) := by
  refine conW_of (own := "LastbusLaw") (by decide) rfl (Nat.le_of_ble_eq_true rfl) (fun C X tb nc => ?_)
  obtain ⟨O, hO⟩ : ∃ O : Res × Mem, O = hout wrI [0] r m := ⟨_, rfl⟩
  rw [← hO]
  show J SHL G rm_L_vehiclesByMatching (.inl O) C 0 0 0 [(0, VR 0), (1, VI p0), (2, VR 489)] [] m
  refine s_load0 X 2 rfl dL_vehiclesByMatching_0 ?_
  refine s_const X (by unfold InR; omega) dL_vehiclesByMatching_1 ?_
  refine s_load0 X 0 rfl dL_vehiclesByMatching_2 ?_
  refine s_iload_n X 1 rfl dL_vehiclesByMatching_3 ?_
  refine s_callVH (As := [VI p0]) X cw_L_155 SHL_0 rfl dL_vehiclesByMatching_4 (con_C (L_C_vehiclesByMatching G p0 m r h)) rfl ⟨Nat.le_of_ble_eq_true rfl, Nat.le_of_ble_eq_true rfl⟩ ⟨Nat.le_of_ble_eq_true rfl, Nat.le_of_ble_eq_true rfl⟩ (Nat.le_of_ble_eq_true rfl) ?_ ?_
  · obtain ⟨r1, m1⟩ := r
    intro x h9
    cases r1 with
    | inl v => cases h9
    | inr x0 =>
      cases h9
      have hx0 := hx _ rfl
      simp only [List.mem_cons, List.not_mem_nil, or_false] at hx0
      rcases hx0 with rfl
      · exact jx_catch (hp := 12) (z := 1) X tb nc ⟨[], [], (0, 9, 12, 13), rfl, (fun z hz => by cases hz), by decide +kernel, by decide, rfl, cl_L_13, cstT _⟩ ⟨by unfold InR; omega, Or.inr ⟨3, by decide, dL_vehiclesByMatching_12, dL_vehiclesByMatching_13, dL_vehiclesByMatching_14⟩⟩ (Nat.le_of_ble_eq_true rfl) (Nat.le_of_ble_eq_true rfl) (by show O = _; rw [hO]; rfl)
  · obtain ⟨r1, m1⟩ := r
    intro v h9
    cases r1 with
    | inr x0 => cases h9
    | inl a =>
      cases h9
      show J SHL G rm_L_vehiclesByMatching (.inl O) C 1 6 7 [(0, VR 0), (1, VI p0), (2, VR 489)] [VI a, VI 0, VR 489] (putM 0 455 m m1)
      refine s_i2l X dL_vehiclesByMatching_7 ?_
      refine s_last X SHL_489 dL_vehiclesByMatching_8 ?_
      refine s_goto (tgt := 15) X dL_vehiclesByMatching_9 (by omega) ?_
      refine s_const X (by unfold InR; omega) dL_vehiclesByMatching_15 ?_
      exact s_iret X (Nat.le_of_ble_eq_true rfl) (Nat.le_of_ble_eq_true rfl) (by show O = _; rw [hO]; rfl) dL_vehiclesByMatching_16
def rm_L_gains : Room := { frames := 9, cells := 6, slots := 36, locals := 165 }
def hh_L_gains : List (Nat × Nat × Nat × Nat) := [(0, 14, 17, 21), (0, 14, 21, 13)]
set_option maxRecDepth 20000 in
set_option maxHeartbeats 4000000 in
theorem H_gains (G : Gl) (p0 : Int) (p1 : Int) (p2 : Int) (p3 : Int) (m : Mem) (r : (Int ⊕ Nat) × Mem) (h : C_gains p0 p1 p2 p3 m = some r) (hx : ∀ x, r.1 = .inr x → x ∈ [2, 0]) : ConW SHL G yL_gains cL_gains 7 (some .int) hh_L_gains rm_L_gains [VR 0, VI p0, VI p1, VI p2, VI p3, VR 489] m (hout wrI [2, 0] r m) := by
  refine conW_of (own := "LastbusLaw") (by decide) rfl (Nat.le_of_ble_eq_true rfl) (fun C X tb nc => ?_)
  obtain ⟨O, hO⟩ : ∃ O : Res × Mem, O = hout wrI [2, 0] r m := ⟨_, rfl⟩
  rw [← hO]
  show J SHL G rm_L_gains (.inl O) C 0 0 0 [(0, VR 0), (1, VI p0), (2, VI p1), (3, VI p2), (4, VI p3), (5, VR 489)] [] m
  refine s_loadR X 5 rfl dL_gains_0 ?_
  refine s_const X (by unfold InR; omega) dL_gains_2 ?_
  refine s_load0 X 0 rfl dL_gains_3 ?_
  refine s_iload_n X 1 rfl dL_gains_4 ?_
  refine s_iload_n X 2 rfl dL_gains_5 ?_
  refine s_iload_n X 3 rfl dL_gains_6 ?_
  refine s_iload X 4 rfl dL_gains_7 ?_
  refine s_callVH (As := [VI p0, VI p1, VI p2, VI p3]) X cw_L_158 SHL_0 rfl dL_gains_9 (con_C (L_C_gains G p0 p1 p2 p3 m r h)) rfl ⟨Nat.le_of_ble_eq_true rfl, Nat.le_of_ble_eq_true rfl⟩ ⟨Nat.le_of_ble_eq_true rfl, Nat.le_of_ble_eq_true rfl⟩ (Nat.le_of_ble_eq_true rfl) ?_ ?_
  · obtain ⟨r1, m1⟩ := r
    intro x h9
    cases r1 with
    | inl v => cases h9
    | inr x0 =>
      cases h9
      have hx0 := hx _ rfl
      simp only [List.mem_cons, List.not_mem_nil, or_false] at hx0
      rcases hx0 with rfl | rfl
      · exact jx_catch (hp := 17) (z := 1) X tb nc ⟨[], [(0, 14, 21, 13)], (0, 14, 17, 21), rfl, (fun z hz => by cases hz), by decide +kernel, by decide, rfl, cl_L_21, cstT _⟩ ⟨by unfold InR; omega, Or.inl ⟨6, by decide, dL_gains_17, dL_gains_19, dL_gains_20⟩⟩ (Nat.le_of_ble_eq_true rfl) (Nat.le_of_ble_eq_true rfl) (by show O = _; rw [hO]; rfl)
      · exact jx_catch (hp := 21) (z := 2) X tb nc ⟨[(0, 14, 17, 21)], [], (0, 14, 21, 13), rfl, (List.forall_mem_cons.mpr ⟨⟨by decide, "java/lang/IndexOutOfBoundsException", cl_L_21, by decide +kernel⟩, (fun z hz => by cases hz)⟩), by decide +kernel, by decide, rfl, cl_L_13, cstT _⟩ ⟨by unfold InR; omega, Or.inl ⟨6, by decide, dL_gains_21, dL_gains_23, dL_gains_24⟩⟩ (Nat.le_of_ble_eq_true rfl) (Nat.le_of_ble_eq_true rfl) (by show O = _; rw [hO]; rfl)
  · obtain ⟨r1, m1⟩ := r
    intro v h9
    cases r1 with
    | inr x0 => cases h9
    | inl a =>
      cases h9
      show J SHL G rm_L_gains (.inl O) C 6 36 12 [(0, VR 0), (1, VI p0), (2, VI p1), (3, VI p2), (4, VI p3), (5, VR 489)] [VI a, VI 0, VR 489] (putM 0 455 m m1)
      refine s_i2l X dL_gains_12 ?_
      refine s_last X SHL_489 dL_gains_13 ?_
      refine s_goto (tgt := 25) X dL_gains_14 (by omega) ?_
      refine s_const X (by unfold InR; omega) dL_gains_25 ?_
      exact s_iret X (Nat.le_of_ble_eq_true rfl) (Nat.le_of_ble_eq_true rfl) (by show O = _; rw [hO]; rfl) dL_gains_26
def rm_L_loses : Room := { frames := 9, cells := 6, slots := 36, locals := 165 }
def hh_L_loses : List (Nat × Nat × Nat × Nat) := [(0, 14, 17, 21), (0, 14, 21, 13)]
set_option maxRecDepth 20000 in
set_option maxHeartbeats 4000000 in
theorem H_loses (G : Gl) (p0 : Int) (p1 : Int) (p2 : Int) (p3 : Int) (m : Mem) (r : (Int ⊕ Nat) × Mem) (h : C_loses p0 p1 p2 p3 m = some r) (hx : ∀ x, r.1 = .inr x → x ∈ [2, 0]) : ConW SHL G yL_loses cL_loses 7 (some .int) hh_L_loses rm_L_loses [VR 0, VI p0, VI p1, VI p2, VI p3, VR 489] m (hout wrI [2, 0] r m) := by
  refine conW_of (own := "LastbusLaw") (by decide) rfl (Nat.le_of_ble_eq_true rfl) (fun C X tb nc => ?_)
  obtain ⟨O, hO⟩ : ∃ O : Res × Mem, O = hout wrI [2, 0] r m := ⟨_, rfl⟩
  rw [← hO]
  show J SHL G rm_L_loses (.inl O) C 0 0 0 [(0, VR 0), (1, VI p0), (2, VI p1), (3, VI p2), (4, VI p3), (5, VR 489)] [] m
  refine s_loadR X 5 rfl dL_loses_0 ?_
  refine s_const X (by unfold InR; omega) dL_loses_2 ?_
  refine s_load0 X 0 rfl dL_loses_3 ?_
  refine s_iload_n X 1 rfl dL_loses_4 ?_
  refine s_iload_n X 2 rfl dL_loses_5 ?_
  refine s_iload_n X 3 rfl dL_loses_6 ?_
  refine s_iload X 4 rfl dL_loses_7 ?_
  refine s_callVH (As := [VI p0, VI p1, VI p2, VI p3]) X cw_L_161 SHL_0 rfl dL_loses_9 (con_C (L_C_loses G p0 p1 p2 p3 m r h)) rfl ⟨Nat.le_of_ble_eq_true rfl, Nat.le_of_ble_eq_true rfl⟩ ⟨Nat.le_of_ble_eq_true rfl, Nat.le_of_ble_eq_true rfl⟩ (Nat.le_of_ble_eq_true rfl) ?_ ?_
  · obtain ⟨r1, m1⟩ := r
    intro x h9
    cases r1 with
    | inl v => cases h9
    | inr x0 =>
      cases h9
      have hx0 := hx _ rfl
      simp only [List.mem_cons, List.not_mem_nil, or_false] at hx0
      rcases hx0 with rfl | rfl
      · exact jx_catch (hp := 17) (z := 1) X tb nc ⟨[], [(0, 14, 21, 13)], (0, 14, 17, 21), rfl, (fun z hz => by cases hz), by decide +kernel, by decide, rfl, cl_L_21, cstT _⟩ ⟨by unfold InR; omega, Or.inl ⟨6, by decide, dL_loses_17, dL_loses_19, dL_loses_20⟩⟩ (Nat.le_of_ble_eq_true rfl) (Nat.le_of_ble_eq_true rfl) (by show O = _; rw [hO]; rfl)
      · exact jx_catch (hp := 21) (z := 2) X tb nc ⟨[(0, 14, 17, 21)], [], (0, 14, 21, 13), rfl, (List.forall_mem_cons.mpr ⟨⟨by decide, "java/lang/IndexOutOfBoundsException", cl_L_21, by decide +kernel⟩, (fun z hz => by cases hz)⟩), by decide +kernel, by decide, rfl, cl_L_13, cstT _⟩ ⟨by unfold InR; omega, Or.inl ⟨6, by decide, dL_loses_21, dL_loses_23, dL_loses_24⟩⟩ (Nat.le_of_ble_eq_true rfl) (Nat.le_of_ble_eq_true rfl) (by show O = _; rw [hO]; rfl)
  · obtain ⟨r1, m1⟩ := r
    intro v h9
    cases r1 with
    | inr x0 => cases h9
    | inl a =>
      cases h9
      show J SHL G rm_L_loses (.inl O) C 6 36 12 [(0, VR 0), (1, VI p0), (2, VI p1), (3, VI p2), (4, VI p3), (5, VR 489)] [VI a, VI 0, VR 489] (putM 0 455 m m1)
      refine s_i2l X dL_loses_12 ?_
      refine s_last X SHL_489 dL_loses_13 ?_
      refine s_goto (tgt := 25) X dL_loses_14 (by omega) ?_
      refine s_const X (by unfold InR; omega) dL_loses_25 ?_
      exact s_iret X (Nat.le_of_ble_eq_true rfl) (Nat.le_of_ble_eq_true rfl) (by show O = _; rw [hO]; rfl) dL_loses_26
def rm_L_reachShare : Room := { frames := 9, cells := 2, slots := 12, locals := 149 }
def hh_L_reachShare : List (Nat × Nat × Nat × Nat) := [(0, 9, 12, 13), (0, 9, 15, 168)]
set_option maxRecDepth 20000 in
set_option maxHeartbeats 4000000 in
theorem H_reachShare (G : Gl) (p0 : Int) (m : Mem) (r : (UInt32 ⊕ Nat) × Mem) (h : C_reachShare p0 m = some r) (hx : ∀ x, r.1 = .inr x → x ∈ [0, 3]) (hf : ∀ v, r.1 = .inl v → vf_n64 (FP.f2d v)) : ConW SHL G yL_reachShare cL_reachShare 4 (some .int) hh_L_reachShare rm_L_reachShare [VR 0, VI p0, VR 490] m (hout wrF [0, 3] r m) := by
  refine conW_of (own := "LastbusLaw") (by decide) rfl (Nat.le_of_ble_eq_true rfl) (fun C X tb nc => ?_)
  obtain ⟨O, hO⟩ : ∃ O : Res × Mem, O = hout wrF [0, 3] r m := ⟨_, rfl⟩
  rw [← hO]
  show J SHL G rm_L_reachShare (.inl O) C 0 0 0 [(0, VR 0), (1, VI p0), (2, VR 490)] [] m
  refine s_load0 X 2 rfl dL_reachShare_0 ?_
  refine s_const X (by unfold InR; omega) dL_reachShare_1 ?_
  refine s_load0 X 0 rfl dL_reachShare_2 ?_
  refine s_iload_n X 1 rfl dL_reachShare_3 ?_
  refine s_callVH (As := [VI p0]) X cw_L_164 SHL_0 rfl dL_reachShare_4 (con_C (L_C_reachShare G p0 m r h)) rfl ⟨Nat.le_of_ble_eq_true rfl, Nat.le_of_ble_eq_true rfl⟩ ⟨Nat.le_of_ble_eq_true rfl, Nat.le_of_ble_eq_true rfl⟩ (Nat.le_of_ble_eq_true rfl) ?_ ?_
  · obtain ⟨r1, m1⟩ := r
    intro x h9
    cases r1 with
    | inl v => cases h9
    | inr x0 =>
      cases h9
      have hx0 := hx _ rfl
      simp only [List.mem_cons, List.not_mem_nil, or_false] at hx0
      rcases hx0 with rfl | rfl
      · exact jx_catch (hp := 12) (z := 1) X tb nc ⟨[], [(0, 9, 15, 168)], (0, 9, 12, 13), rfl, (fun z hz => by cases hz), by decide +kernel, by decide, rfl, cl_L_13, cstT _⟩ ⟨by unfold InR; omega, Or.inr ⟨3, by decide, dL_reachShare_12, dL_reachShare_13, dL_reachShare_14⟩⟩ (Nat.le_of_ble_eq_true rfl) (Nat.le_of_ble_eq_true rfl) (by show O = _; rw [hO]; rfl)
      · exact jx_catch (hp := 15) (z := 2) X tb nc ⟨[(0, 9, 12, 13)], [], (0, 9, 15, 168), rfl, (List.forall_mem_cons.mpr ⟨⟨by decide, "java/lang/IllegalArgumentException", cl_L_13, by decide +kernel⟩, (fun z hz => by cases hz)⟩), by decide +kernel, by decide, rfl, cl_L_168, cstT _⟩ ⟨by unfold InR; omega, Or.inr ⟨3, by decide, dL_reachShare_15, dL_reachShare_16, dL_reachShare_17⟩⟩ (Nat.le_of_ble_eq_true rfl) (Nat.le_of_ble_eq_true rfl) (by show O = _; rw [hO]; rfl)
  · obtain ⟨r1, m1⟩ := r
    intro v h9
    cases r1 with
    | inr x0 => cases h9
    | inl a =>
      cases h9
      show J SHL G rm_L_reachShare (.inl O) C 2 12 7 [(0, VR 0), (1, VI p0), (2, VR 490)] [VF a, VI 0, VR 490] (putM 0 455 m m1)
      refine s_f2d X (hf a rfl) dL_reachShare_7 ?_
      refine s_dast X SHL_490 dL_reachShare_8 ?_
      refine s_goto (tgt := 18) X dL_reachShare_9 (by omega) ?_
      refine s_const X (by unfold InR; omega) dL_reachShare_18 ?_
      exact s_iret X (Nat.le_of_ble_eq_true rfl) (Nat.le_of_ble_eq_true rfl) (by show O = _; rw [hO]; rfl) dL_reachShare_19
def rm_L_meanBetween : Room := { frames := 7, cells := 1, slots := 6, locals := 106 }
def hh_L_meanBetween : List (Nat × Nat × Nat × Nat) := [(0, 7, 10, 168)]
set_option maxRecDepth 20000 in
set_option maxHeartbeats 4000000 in
theorem H_meanBetween (G : Gl)  (m : Mem) (r : (UInt64 ⊕ Nat) × Mem) (h : C_meanBetween m = some r) (hx : ∀ x, r.1 = .inr x → x ∈ [3]) : ConW SHL G yL_meanBetween cL_meanBetween 3 (some .int) hh_L_meanBetween rm_L_meanBetween [VR 0, VR 490] m (hout wrD [3] r m) := by
  refine conW_of (own := "LastbusLaw") (by decide) rfl (Nat.le_of_ble_eq_true rfl) (fun C X tb nc => ?_)
  obtain ⟨O, hO⟩ : ∃ O : Res × Mem, O = hout wrD [3] r m := ⟨_, rfl⟩
  rw [← hO]
  show J SHL G rm_L_meanBetween (.inl O) C 0 0 0 [(0, VR 0), (1, VR 490)] [] m
  refine s_load0 X 1 rfl dL_meanBetween_0 ?_
  refine s_const X (by unfold InR; omega) dL_meanBetween_1 ?_
  refine s_load0 X 0 rfl dL_meanBetween_2 ?_
  refine s_callVH (As := []) X cw_L_170 SHL_0 rfl dL_meanBetween_3 (con_C (L_C_meanBetween G m r h)) rfl ⟨Nat.le_of_ble_eq_true rfl, Nat.le_of_ble_eq_true rfl⟩ ⟨Nat.le_of_ble_eq_true rfl, Nat.le_of_ble_eq_true rfl⟩ (Nat.le_of_ble_eq_true rfl) ?_ ?_
  · obtain ⟨r1, m1⟩ := r
    intro x h9
    cases r1 with
    | inl v => cases h9
    | inr x0 =>
      cases h9
      have hx0 := hx _ rfl
      simp only [List.mem_cons, List.not_mem_nil, or_false] at hx0
      rcases hx0 with rfl
      · exact jx_catch (hp := 10) (z := 1) X tb nc ⟨[], [], (0, 7, 10, 168), rfl, (fun z hz => by cases hz), by decide +kernel, by decide, rfl, cl_L_168, cstT _⟩ ⟨by unfold InR; omega, Or.inr ⟨2, by decide, dL_meanBetween_10, dL_meanBetween_11, dL_meanBetween_12⟩⟩ (Nat.le_of_ble_eq_true rfl) (Nat.le_of_ble_eq_true rfl) (by show O = _; rw [hO]; rfl)
  · obtain ⟨r1, m1⟩ := r
    intro v h9
    cases r1 with
    | inr x0 => cases h9
    | inl a =>
      cases h9
      show J SHL G rm_L_meanBetween (.inl O) C 1 6 6 [(0, VR 0), (1, VR 490)] [VD a, VI 0, VR 490] (putM 0 455 m m1)
      refine s_dast X SHL_490 dL_meanBetween_6 ?_
      refine s_goto (tgt := 13) X dL_meanBetween_7 (by omega) ?_
      refine s_const X (by unfold InR; omega) dL_meanBetween_13 ?_
      exact s_iret X (Nat.le_of_ble_eq_true rfl) (Nat.le_of_ble_eq_true rfl) (by show O = _; rw [hO]; rfl) dL_meanBetween_14
def rm_L_isSound : Room := { frames := 9, cells := 1, slots := 6, locals := 226 }
def hh_L_isSound : List (Nat × Nat × Nat × Nat) := [(0, 16, 19, 13)]
set_option maxRecDepth 20000 in
set_option maxHeartbeats 4000000 in
theorem H_isSound (G : Gl) (p0 : Int) (m : Mem) (r : (Int ⊕ Nat) × Mem) (h : C_isSound p0 m = some r) (hx : ∀ x, r.1 = .inr x → x ∈ [0]) : ConW SHL G yL_isSound cL_isSound 4 (some .int) hh_L_isSound rm_L_isSound [VR 0, VI p0, VR 489] m (hout wrB [0] r m) := by
  refine conW_of (own := "LastbusLaw") (by decide) rfl (Nat.le_of_ble_eq_true rfl) (fun C X tb nc => ?_)
  obtain ⟨O, hO⟩ : ∃ O : Res × Mem, O = hout wrB [0] r m := ⟨_, rfl⟩
  rw [← hO]
  show J SHL G rm_L_isSound (.inl O) C 0 0 0 [(0, VR 0), (1, VI p0), (2, VR 489)] [] m
  refine s_load0 X 2 rfl dL_isSound_0 ?_
  refine s_const X (by unfold InR; omega) dL_isSound_1 ?_
  refine s_load0 X 0 rfl dL_isSound_2 ?_
  refine s_iload_n X 1 rfl dL_isSound_3 ?_
  refine s_callVH (As := [VI p0]) X cw_L_174 SHL_0 rfl dL_isSound_4 (con_C (L_C_isSound G p0 m r h)) rfl ⟨Nat.le_of_ble_eq_true rfl, Nat.le_of_ble_eq_true rfl⟩ ⟨Nat.le_of_ble_eq_true rfl, Nat.le_of_ble_eq_true rfl⟩ (Nat.le_of_ble_eq_true rfl) ?_ ?_
  · obtain ⟨r1, m1⟩ := r
    intro x h9
    cases r1 with
    | inl v => cases h9
    | inr x0 =>
      cases h9
      have hx0 := hx _ rfl
      simp only [List.mem_cons, List.not_mem_nil, or_false] at hx0
      rcases hx0 with rfl
      · exact jx_catch (hp := 19) (z := 1) X tb nc ⟨[], [], (0, 16, 19, 13), rfl, (fun z hz => by cases hz), by decide +kernel, by decide, rfl, cl_L_13, cstT _⟩ ⟨by unfold InR; omega, Or.inr ⟨3, by decide, dL_isSound_19, dL_isSound_20, dL_isSound_21⟩⟩ (Nat.le_of_ble_eq_true rfl) (Nat.le_of_ble_eq_true rfl) (by show O = _; rw [hO]; rfl)
  · obtain ⟨r1, m1⟩ := r
    intro v h9
    cases r1 with
    | inr x0 => cases h9
    | inl a =>
      cases h9
      show J SHL G rm_L_isSound (.inl O) C 1 6 7 [(0, VR 0), (1, VI p0), (2, VR 489)] [VI a, VI 0, VR 489] (putM 0 455 m m1)
      refine s_ifeq_t (tgt := 14) X dL_isSound_7 (by omega) (fun c1 => ?_) (fun c1 => ?_)
      · refine s_lconst X dL_isSound_14 ?_
        refine s_last X SHL_489 dL_isSound_15 ?_
        refine s_goto (tgt := 22) X dL_isSound_16 (by omega) ?_
        refine s_const X (by unfold InR; omega) dL_isSound_22 ?_
        exact s_iret X (Nat.le_of_ble_eq_true rfl) (Nat.le_of_ble_eq_true rfl) (by show O = _; rw [hO]; show ((_, wrB a (putM 0 455 m m1)) : Res × Mem) = _; unfold wrB; rw [if_pos c1]; rfl) dL_isSound_23
      · refine s_lconst X dL_isSound_10 ?_
        refine s_goto (tgt := 15) X dL_isSound_11 (by omega) ?_
        refine s_last X SHL_489 dL_isSound_15 ?_
        refine s_goto (tgt := 22) X dL_isSound_16 (by omega) ?_
        refine s_const X (by unfold InR; omega) dL_isSound_22 ?_
        exact s_iret X (Nat.le_of_ble_eq_true rfl) (Nat.le_of_ble_eq_true rfl) (by show O = _; rw [hO]; show ((_, wrB a (putM 0 455 m m1)) : Res × Mem) = _; unfold wrB; rw [if_neg c1]; rfl) dL_isSound_23
