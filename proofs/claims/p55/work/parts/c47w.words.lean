/-! ===== words of the law's own calls ===== -/
set_option maxRecDepth 100000 in
theorem cw_L_98 : CSk "LastbusLaw" 98 yL_draw cL_draw 2 (some .int) 2 := ⟨lw_Uin (i := 804) (by decide +kernel) rfl, lw_Uin (i := 805) (by decide +kernel) rfl, lw_Uin (i := 31) (by decide +kernel) rfl, lw_Uin (i := 806) (rfl) rfl, ⟨by decide +kernel, by decide +kernel, by decide +kernel⟩⟩
set_option maxRecDepth 100000 in
theorem cwS_L_104 : CWk "LastbusLaw" 104 yL_service cL_service 2 (some .int) hh_L_service 1 := ⟨lw_Uin (i := 812) (by decide +kernel) rfl, lw_Uin (i := 813) (by decide +kernel) rfl, lw_Uin (i := 31) (by decide +kernel) rfl, lw_Uin (i := 814) (rfl) rfl, ⟨by decide +kernel, by decide +kernel, by decide +kernel⟩⟩
set_option maxRecDepth 100000 in
theorem cwS_L_107 : CWk "LastbusLaw" 107 yL_week cL_week 6 (some .int) hh_L_week 5 := ⟨lw_Uin (i := 840) (by decide +kernel) rfl, lw_Uin (i := 841) (by decide +kernel) rfl, lw_Uin (i := 31) (by decide +kernel) rfl, lw_Uin (i := 842) (rfl) rfl, ⟨by decide +kernel, by decide +kernel, by decide +kernel⟩⟩
set_option maxRecDepth 100000 in
theorem cwS_L_110 : CWk "LastbusLaw" 110 yL_putDay cL_putDay 5 (some .int) hh_L_putDay 4 := ⟨lw_Uin (i := 904) (by decide +kernel) rfl, lw_Uin (i := 905) (by decide +kernel) rfl, lw_Uin (i := 31) (by decide +kernel) rfl, lw_Uin (i := 906) (rfl) rfl, ⟨by decide +kernel, by decide +kernel, by decide +kernel⟩⟩
set_option maxRecDepth 100000 in
theorem cwS_L_113 : CWk "LastbusLaw" 113 yL_stop cL_stop 3 (some .int) hh_L_stop 2 := ⟨lw_Uin (i := 912) (by decide +kernel) rfl, lw_Uin (i := 913) (by decide +kernel) rfl, lw_Uin (i := 31) (by decide +kernel) rfl, lw_Uin (i := 914) (rfl) rfl, ⟨by decide +kernel, by decide +kernel, by decide +kernel⟩⟩
set_option maxRecDepth 100000 in
theorem cwS_L_117 : CWk "LastbusLaw" 117 yL_walk cL_walk 5 (some .int) hh_L_walk 4 := ⟨lw_Uin (i := 925) (by decide +kernel) rfl, lw_Uin (i := 926) (by decide +kernel) rfl, lw_Uin (i := 31) (by decide +kernel) rfl, lw_Uin (i := 927) (rfl) rfl, ⟨by decide +kernel, by decide +kernel, by decide +kernel⟩⟩
set_option maxRecDepth 100000 in
theorem cwS_L_120 : CWk "LastbusLaw" 120 yL_trip cL_trip 5 (some .int) hh_L_trip 4 := ⟨lw_Uin (i := 945) (by decide +kernel) rfl, lw_Uin (i := 946) (by decide +kernel) rfl, lw_Uin (i := 31) (by decide +kernel) rfl, lw_Uin (i := 947) (rfl) rfl, ⟨by decide +kernel, by decide +kernel, by decide +kernel⟩⟩
set_option maxRecDepth 100000 in
theorem cwS_L_122 : CWk "LastbusLaw" 122 yL_call cL_call 6 (some .int) hh_L_call 5 := ⟨lw_Uin (i := 966) (by decide +kernel) rfl, lw_Uin (i := 967) (by decide +kernel) rfl, lw_Uin (i := 31) (by decide +kernel) rfl, lw_Uin (i := 968) (rfl) rfl, ⟨by decide +kernel, by decide +kernel, by decide +kernel⟩⟩
set_option maxRecDepth 100000 in
theorem cwS_L_124 : CWk "LastbusLaw" 124 yL_ride cL_ride 4 (some .int) hh_L_ride 3 := ⟨lw_Uin (i := 1095) (by decide +kernel) rfl, lw_Uin (i := 1096) (by decide +kernel) rfl, lw_Uin (i := 31) (by decide +kernel) rfl, lw_Uin (i := 1097) (rfl) rfl, ⟨by decide +kernel, by decide +kernel, by decide +kernel⟩⟩
set_option maxRecDepth 100000 in
theorem cw_L_127 : CSk "LastbusLaw" 127 yL_least cL_least 2 (some .int) 2 := ⟨lw_Uin (i := 997) (by decide +kernel) rfl, lw_Uin (i := 998) (by decide +kernel) rfl, lw_Uin (i := 31) (by decide +kernel) rfl, lw_Uin (i := 999) (rfl) rfl, ⟨by decide +kernel, by decide +kernel, by decide +kernel⟩⟩
set_option maxRecDepth 100000 in
theorem cwS_L_131 : CWk "LastbusLaw" 131 yL_earliest cL_earliest 6 (some .int) hh_L_earliest 5 := ⟨lw_Uin (i := 1000) (by decide +kernel) rfl, lw_Uin (i := 1001) (by decide +kernel) rfl, lw_Uin (i := 31) (by decide +kernel) rfl, lw_Uin (i := 1002) (rfl) rfl, ⟨by decide +kernel, by decide +kernel, by decide +kernel⟩⟩
set_option maxRecDepth 100000 in
theorem cwS_L_133 : CWk "LastbusLaw" 133 yL_earliestByQueue cL_earliestByQueue 6 (some .int) hh_L_earliestByQueue 5 := ⟨lw_Uin (i := 1031) (by decide +kernel) rfl, lw_Uin (i := 1032) (by decide +kernel) rfl, lw_Uin (i := 31) (by decide +kernel) rfl, lw_Uin (i := 1033) (rfl) rfl, ⟨by decide +kernel, by decide +kernel, by decide +kernel⟩⟩
set_option maxRecDepth 100000 in
theorem cwS_L_135 : CWk "LastbusLaw" 135 yL_earliestByRounds cL_earliestByRounds 6 (some .int) hh_L_earliestByRounds 5 := ⟨lw_Uin (i := 1038) (by decide +kernel) rfl, lw_Uin (i := 1039) (by decide +kernel) rfl, lw_Uin (i := 31) (by decide +kernel) rfl, lw_Uin (i := 1040) (rfl) rfl, ⟨by decide +kernel, by decide +kernel, by decide +kernel⟩⟩
set_option maxRecDepth 100000 in
theorem cwS_L_137 : CWk "LastbusLaw" 137 yL_byPairs cL_byPairs 6 (some .int) hh_L_byPairs 5 := ⟨lw_Uin (i := 1045) (by decide +kernel) rfl, lw_Uin (i := 1046) (by decide +kernel) rfl, lw_Uin (i := 31) (by decide +kernel) rfl, lw_Uin (i := 1047) (rfl) rfl, ⟨by decide +kernel, by decide +kernel, by decide +kernel⟩⟩
set_option maxRecDepth 100000 in
theorem cwS_L_139 : CWk "LastbusLaw" 139 yL_choices cL_choices 6 (some .int) hh_L_choices 5 := ⟨lw_Uin (i := 1052) (by decide +kernel) rfl, lw_Uin (i := 1053) (by decide +kernel) rfl, lw_Uin (i := 31) (by decide +kernel) rfl, lw_Uin (i := 1054) (rfl) rfl, ⟨by decide +kernel, by decide +kernel, by decide +kernel⟩⟩
set_option maxRecDepth 100000 in
theorem cwS_L_141 : CWk "LastbusLaw" 141 yL_chain cL_chain 6 (some .int) hh_L_chain 5 := ⟨lw_Uin (i := 1064) (by decide +kernel) rfl, lw_Uin (i := 1065) (by decide +kernel) rfl, lw_Uin (i := 31) (by decide +kernel) rfl, lw_Uin (i := 1066) (rfl) rfl, ⟨by decide +kernel, by decide +kernel, by decide +kernel⟩⟩
set_option maxRecDepth 100000 in
theorem cw_L_143 : CSk "LastbusLaw" 143 yL_along cL_along 19 (some .int) 8 := ⟨lw_Uin (i := 1092) (by decide +kernel) rfl, lw_Uin (i := 1093) (by decide +kernel) rfl, lw_Uin (i := 31) (by decide +kernel) rfl, lw_Uin (i := 1094) (rfl) rfl, ⟨by decide +kernel, by decide +kernel, by decide +kernel⟩⟩
set_option maxRecDepth 100000 in
theorem cwS_L_147 : CWk "LastbusLaw" 147 yL_choice cL_choice 7 (some .int) hh_L_choice 6 := ⟨lw_Uin (i := 1104) (by decide +kernel) rfl, lw_Uin (i := 1105) (by decide +kernel) rfl, lw_Uin (i := 31) (by decide +kernel) rfl, lw_Uin (i := 1106) (rfl) rfl, ⟨by decide +kernel, by decide +kernel, by decide +kernel⟩⟩
set_option maxRecDepth 100000 in
theorem cwS_L_150 : CWk "LastbusLaw" 150 yL_wall cL_wall 6 (some .int) hh_L_wall 5 := ⟨lw_Uin (i := 1112) (by decide +kernel) rfl, lw_Uin (i := 1113) (by decide +kernel) rfl, lw_Uin (i := 31) (by decide +kernel) rfl, lw_Uin (i := 1114) (rfl) rfl, ⟨by decide +kernel, by decide +kernel, by decide +kernel⟩⟩
set_option maxRecDepth 100000 in
theorem cwS_L_152 : CWk "LastbusLaw" 152 yL_last cL_last 6 (some .int) hh_L_last 5 := ⟨lw_Uin (i := 1119) (by decide +kernel) rfl, lw_Uin (i := 1120) (by decide +kernel) rfl, lw_Uin (i := 31) (by decide +kernel) rfl, lw_Uin (i := 1121) (rfl) rfl, ⟨by decide +kernel, by decide +kernel, by decide +kernel⟩⟩
set_option maxRecDepth 100000 in
theorem cwS_L_154 : CWk "LastbusLaw" 154 yL_pairs cL_pairs 5 (some .int) hh_L_pairs 4 := ⟨lw_Uin (i := 1130) (by decide +kernel) rfl, lw_Uin (i := 1131) (by decide +kernel) rfl, lw_Uin (i := 31) (by decide +kernel) rfl, lw_Uin (i := 1132) (rfl) rfl, ⟨by decide +kernel, by decide +kernel, by decide +kernel⟩⟩
set_option maxRecDepth 100000 in
theorem cwS_L_156 : CWk "LastbusLaw" 156 yL_pair cL_pair 7 (some .int) hh_L_pair 6 := ⟨lw_Uin (i := 1141) (by decide +kernel) rfl, lw_Uin (i := 1142) (by decide +kernel) rfl, lw_Uin (i := 31) (by decide +kernel) rfl, lw_Uin (i := 1143) (rfl) rfl, ⟨by decide +kernel, by decide +kernel, by decide +kernel⟩⟩
set_option maxRecDepth 100000 in
theorem cw_L_159 : CSk "LastbusLaw" 159 yL_reach cL_reach 20 none 8 := ⟨lw_Uin (i := 991) (by decide +kernel) rfl, lw_Uin (i := 992) (by decide +kernel) rfl, lw_Uin (i := 31) (by decide +kernel) rfl, lw_Uin (i := 993) (rfl) rfl, ⟨by decide +kernel, by decide +kernel, by decide +kernel⟩⟩
set_option maxRecDepth 100000 in
theorem cw_L_168 : CSk "LastbusLaw" 168 yL_drawn cL_drawn 13 (some .boolean) 5 := ⟨lw_Uin (i := 809) (by decide +kernel) rfl, lw_Uin (i := 810) (by decide +kernel) rfl, lw_Uin (i := 31) (by decide +kernel) rfl, lw_Uin (i := 811) (rfl) rfl, ⟨by decide +kernel, by decide +kernel, by decide +kernel⟩⟩
set_option maxRecDepth 100000 in
theorem cw_L_172 : CSk "LastbusLaw" 172 yL_close cL_close 6 none 2 := ⟨lw_Uin (i := 988) (by decide +kernel) rfl, lw_Uin (i := 989) (by decide +kernel) rfl, lw_Uin (i := 31) (by decide +kernel) rfl, lw_Uin (i := 990) (rfl) rfl, ⟨by decide +kernel, by decide +kernel, by decide +kernel⟩⟩
set_option maxRecDepth 100000 in
theorem cw_L_176 : CSk "LastbusLaw" 176 yL_asked cL_asked 18 (some .boolean) 9 := ⟨lw_Uin (i := 994) (by decide +kernel) rfl, lw_Uin (i := 995) (by decide +kernel) rfl, lw_Uin (i := 31) (by decide +kernel) rfl, lw_Uin (i := 996) (rfl) rfl, ⟨by decide +kernel, by decide +kernel, by decide +kernel⟩⟩
set_option maxRecDepth 100000 in
theorem cw_L_180 : CSk "LastbusLaw" 180 yL_rise cL_rise 15 (some .boolean) 8 := ⟨lw_Uin (i := 1127) (by decide +kernel) rfl, lw_Uin (i := 1128) (by decide +kernel) rfl, lw_Uin (i := 31) (by decide +kernel) rfl, lw_Uin (i := 1129) (rfl) rfl, ⟨by decide +kernel, by decide +kernel, by decide +kernel⟩⟩
set_option maxRecDepth 100000 in
theorem cwS_L_184 : CWk "LastbusLaw" 184 yL_vehicles cL_vehicles 3 (some .int) hh_L_vehicles 2 := ⟨lw_Uin (i := 500) (by decide +kernel) rfl, lw_Uin (i := 501) (by decide +kernel) rfl, lw_Uin (i := 31) (by decide +kernel) rfl, lw_Uin (i := 502) (rfl) rfl, ⟨by decide +kernel, by decide +kernel, by decide +kernel⟩⟩
set_option maxRecDepth 100000 in
theorem cwS_L_186 : CWk "LastbusLaw" 186 yL_vehiclesByMatching cL_vehiclesByMatching 3 (some .int) hh_L_vehiclesByMatching 2 := ⟨lw_Uin (i := 613) (by decide +kernel) rfl, lw_Uin (i := 614) (by decide +kernel) rfl, lw_Uin (i := 31) (by decide +kernel) rfl, lw_Uin (i := 615) (rfl) rfl, ⟨by decide +kernel, by decide +kernel, by decide +kernel⟩⟩
set_option maxRecDepth 100000 in
theorem cwS_L_188 : CWk "LastbusLaw" 188 yL_isSound cL_isSound 3 (some .int) hh_L_isSound 2 := ⟨lw_Uin (i := 636) (by decide +kernel) rfl, lw_Uin (i := 637) (by decide +kernel) rfl, lw_Uin (i := 31) (by decide +kernel) rfl, lw_Uin (i := 638) (rfl) rfl, ⟨by decide +kernel, by decide +kernel, by decide +kernel⟩⟩
