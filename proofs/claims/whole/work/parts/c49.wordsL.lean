/-! ===== words of the law's turns ===== -/
set_option maxRecDepth 100000 in
theorem cwS_L_182 : CWk "LastbusLaw" 182 yL_stop cL_stop 4 (some .int) hh_L_stop 3 := ⟨lw_Uin (i := 647) (by decide +kernel) rfl, lw_Uin (i := 648) (by decide +kernel) rfl, lw_Uin (i := 102) (by decide +kernel) rfl, lw_Uin (i := 649) (rfl) rfl, ⟨by decide +kernel, by decide +kernel, by decide +kernel⟩⟩
set_option maxRecDepth 100000 in
theorem cd_X12_stop : Cond.code yX12_stop cX12_stop 2 (some .int) ∈ lw_U := lw_Uin (i := 1799) (rfl) rfl
theorem cw_L_187 : CVk "LastbusLaw" 187 yX12_stop cX12_stop 2 (some .int) 1 := ⟨lw_Uin (i := 1796) (by decide +kernel) rfl, lw_Uin (i := 1797) (by decide +kernel) rfl, lw_Uin (i := 1798) (by decide +kernel) rfl, lw_Uin (i := 115) (by decide +kernel) rfl, cd_X12_stop, ⟨by decide +kernel, by decide +kernel, by decide +kernel⟩⟩
set_option maxRecDepth 100000 in
theorem cd_X12_thrown : Cond.code yX12_thrown cX12_thrown 1 (some .int) ∈ lw_U := lw_Uin (i := 1795) (rfl) rfl
theorem cw_L_188 : CVk "LastbusLaw" 188 yX12_thrown cX12_thrown 1 (some .int) 0 := ⟨lw_Uin (i := 1792) (by decide +kernel) rfl, lw_Uin (i := 1793) (by decide +kernel) rfl, lw_Uin (i := 1794) (by decide +kernel) rfl, lw_Uin (i := 115) (by decide +kernel) rfl, cd_X12_thrown, ⟨by decide +kernel, by decide +kernel, by decide +kernel⟩⟩
set_option maxRecDepth 100000 in
theorem cwS_L_191 : CWk "LastbusLaw" 191 yL_setChange cL_setChange 5 (some .int) hh_L_setChange 4 := ⟨lw_Uin (i := 751) (by decide +kernel) rfl, lw_Uin (i := 752) (by decide +kernel) rfl, lw_Uin (i := 102) (by decide +kernel) rfl, lw_Uin (i := 753) (rfl) rfl, ⟨by decide +kernel, by decide +kernel, by decide +kernel⟩⟩
set_option maxRecDepth 100000 in
theorem cd_X12_setChange : Cond.code yX12_setChange cX12_setChange 4 (some .int) ∈ lw_U := lw_Uin (i := 1815) (rfl) rfl
theorem cw_L_194 : CVk "LastbusLaw" 194 yX12_setChange cX12_setChange 4 (some .int) 2 := ⟨lw_Uin (i := 1812) (by decide +kernel) rfl, lw_Uin (i := 1813) (by decide +kernel) rfl, lw_Uin (i := 1814) (by decide +kernel) rfl, lw_Uin (i := 115) (by decide +kernel) rfl, cd_X12_setChange, ⟨by decide +kernel, by decide +kernel, by decide +kernel⟩⟩
set_option maxRecDepth 100000 in
theorem cwS_L_195 : CWk "LastbusLaw" 195 yL_walk cL_walk 6 (some .int) hh_L_walk 5 := ⟨lw_Uin (i := 803) (by decide +kernel) rfl, lw_Uin (i := 804) (by decide +kernel) rfl, lw_Uin (i := 102) (by decide +kernel) rfl, lw_Uin (i := 805) (rfl) rfl, ⟨by decide +kernel, by decide +kernel, by decide +kernel⟩⟩
set_option maxRecDepth 100000 in
theorem cd_X12_walk : Cond.code yX12_walk cX12_walk 5 (some .int) ∈ lw_U := lw_Uin (i := 1823) (rfl) rfl
theorem cw_L_198 : CVk "LastbusLaw" 198 yX12_walk cX12_walk 5 (some .int) 3 := ⟨lw_Uin (i := 1820) (by decide +kernel) rfl, lw_Uin (i := 1821) (by decide +kernel) rfl, lw_Uin (i := 1822) (by decide +kernel) rfl, lw_Uin (i := 115) (by decide +kernel) rfl, cd_X12_walk, ⟨by decide +kernel, by decide +kernel, by decide +kernel⟩⟩
set_option maxRecDepth 100000 in
theorem cwS_L_199 : CWk "LastbusLaw" 199 yL_walkTime cL_walkTime 5 (some .int) hh_L_walkTime 4 := ⟨lw_Uin (i := 814) (by decide +kernel) rfl, lw_Uin (i := 815) (by decide +kernel) rfl, lw_Uin (i := 102) (by decide +kernel) rfl, lw_Uin (i := 816) (rfl) rfl, ⟨by decide +kernel, by decide +kernel, by decide +kernel⟩⟩
set_option maxRecDepth 100000 in
theorem cd_X12_walkTime : Cond.code yX12_walkTime cX12_walkTime 3 (some .int) ∈ lw_U := lw_Uin (i := 1827) (rfl) rfl
theorem cw_L_201 : CVk "LastbusLaw" 201 yX12_walkTime cX12_walkTime 3 (some .int) 2 := ⟨lw_Uin (i := 1824) (by decide +kernel) rfl, lw_Uin (i := 1825) (by decide +kernel) rfl, lw_Uin (i := 1826) (by decide +kernel) rfl, lw_Uin (i := 115) (by decide +kernel) rfl, cd_X12_walkTime, ⟨by decide +kernel, by decide +kernel, by decide +kernel⟩⟩
set_option maxRecDepth 100000 in
theorem cwS_L_202 : CWk "LastbusLaw" 202 yL_service cL_service 3 (some .int) hh_L_service 2 := ⟨lw_Uin (i := 851) (by decide +kernel) rfl, lw_Uin (i := 852) (by decide +kernel) rfl, lw_Uin (i := 102) (by decide +kernel) rfl, lw_Uin (i := 853) (rfl) rfl, ⟨by decide +kernel, by decide +kernel, by decide +kernel⟩⟩
set_option maxRecDepth 100000 in
theorem cd_X12_service : Cond.code yX12_service cX12_service 1 (some .int) ∈ lw_U := lw_Uin (i := 1831) (rfl) rfl
theorem cw_L_205 : CVk "LastbusLaw" 205 yX12_service cX12_service 1 (some .int) 0 := ⟨lw_Uin (i := 1828) (by decide +kernel) rfl, lw_Uin (i := 1829) (by decide +kernel) rfl, lw_Uin (i := 1830) (by decide +kernel) rfl, lw_Uin (i := 115) (by decide +kernel) rfl, cd_X12_service, ⟨by decide +kernel, by decide +kernel, by decide +kernel⟩⟩
set_option maxRecDepth 100000 in
theorem cwS_L_206 : CWk "LastbusLaw" 206 yL_week cL_week 7 (some .int) hh_L_week 6 := ⟨lw_Uin (i := 863) (by decide +kernel) rfl, lw_Uin (i := 864) (by decide +kernel) rfl, lw_Uin (i := 102) (by decide +kernel) rfl, lw_Uin (i := 865) (rfl) rfl, ⟨by decide +kernel, by decide +kernel, by decide +kernel⟩⟩
set_option maxRecDepth 100000 in
theorem cd_X12_week : Cond.code yX12_week cX12_week 7 (some .int) ∈ lw_U := lw_Uin (i := 1835) (rfl) rfl
theorem cw_L_209 : CVk "LastbusLaw" 209 yX12_week cX12_week 7 (some .int) 4 := ⟨lw_Uin (i := 1832) (by decide +kernel) rfl, lw_Uin (i := 1833) (by decide +kernel) rfl, lw_Uin (i := 1834) (by decide +kernel) rfl, lw_Uin (i := 115) (by decide +kernel) rfl, cd_X12_week, ⟨by decide +kernel, by decide +kernel, by decide +kernel⟩⟩
set_option maxRecDepth 100000 in
theorem cwS_L_210 : CWk "LastbusLaw" 210 yL_putDay cL_putDay 6 (some .int) hh_L_putDay 5 := ⟨lw_Uin (i := 893) (by decide +kernel) rfl, lw_Uin (i := 894) (by decide +kernel) rfl, lw_Uin (i := 102) (by decide +kernel) rfl, lw_Uin (i := 895) (rfl) rfl, ⟨by decide +kernel, by decide +kernel, by decide +kernel⟩⟩
set_option maxRecDepth 100000 in
theorem cd_X12_putDay : Cond.code yX12_putDay cX12_putDay 5 (some .boolean) ∈ lw_U := lw_Uin (i := 1843) (rfl) rfl
theorem cw_L_213 : CVk "LastbusLaw" 213 yX12_putDay cX12_putDay 5 (some .boolean) 3 := ⟨lw_Uin (i := 1840) (by decide +kernel) rfl, lw_Uin (i := 1841) (by decide +kernel) rfl, lw_Uin (i := 1842) (by decide +kernel) rfl, lw_Uin (i := 115) (by decide +kernel) rfl, cd_X12_putDay, ⟨by decide +kernel, by decide +kernel, by decide +kernel⟩⟩
set_option maxRecDepth 100000 in
theorem cwS_L_214 : CWk "LastbusLaw" 214 yL_runsOn cL_runsOn 5 (some .int) hh_L_runsOn 4 := ⟨lw_Uin (i := 901) (by decide +kernel) rfl, lw_Uin (i := 902) (by decide +kernel) rfl, lw_Uin (i := 102) (by decide +kernel) rfl, lw_Uin (i := 903) (rfl) rfl, ⟨by decide +kernel, by decide +kernel, by decide +kernel⟩⟩
set_option maxRecDepth 100000 in
theorem cd_X12_runsOn : Cond.code yX12_runsOn cX12_runsOn 3 (some .boolean) ∈ lw_U := lw_Uin (i := 1851) (rfl) rfl
theorem cw_L_216 : CVk "LastbusLaw" 216 yX12_runsOn cX12_runsOn 3 (some .boolean) 2 := ⟨lw_Uin (i := 1848) (by decide +kernel) rfl, lw_Uin (i := 1849) (by decide +kernel) rfl, lw_Uin (i := 1850) (by decide +kernel) rfl, lw_Uin (i := 115) (by decide +kernel) rfl, cd_X12_runsOn, ⟨by decide +kernel, by decide +kernel, by decide +kernel⟩⟩
set_option maxRecDepth 100000 in
theorem cwS_L_217 : CWk "LastbusLaw" 217 yL_nextDay cL_nextDay 5 (some .int) hh_L_nextDay 4 := ⟨lw_Uin (i := 908) (by decide +kernel) rfl, lw_Uin (i := 909) (by decide +kernel) rfl, lw_Uin (i := 102) (by decide +kernel) rfl, lw_Uin (i := 910) (rfl) rfl, ⟨by decide +kernel, by decide +kernel, by decide +kernel⟩⟩
set_option maxRecDepth 100000 in
theorem cd_X12_nextDay : Cond.code yX12_nextDay cX12_nextDay 4 (some .int) ∈ lw_U := lw_Uin (i := 1855) (rfl) rfl
theorem cw_L_219 : CVk "LastbusLaw" 219 yX12_nextDay cX12_nextDay 4 (some .int) 2 := ⟨lw_Uin (i := 1852) (by decide +kernel) rfl, lw_Uin (i := 1853) (by decide +kernel) rfl, lw_Uin (i := 1854) (by decide +kernel) rfl, lw_Uin (i := 115) (by decide +kernel) rfl, cd_X12_nextDay, ⟨by decide +kernel, by decide +kernel, by decide +kernel⟩⟩
set_option maxRecDepth 100000 in
theorem cwS_L_220 : CWk "LastbusLaw" 220 yL_trip cL_trip 6 (some .int) hh_L_trip 5 := ⟨lw_Uin (i := 920) (by decide +kernel) rfl, lw_Uin (i := 921) (by decide +kernel) rfl, lw_Uin (i := 102) (by decide +kernel) rfl, lw_Uin (i := 922) (rfl) rfl, ⟨by decide +kernel, by decide +kernel, by decide +kernel⟩⟩
set_option maxRecDepth 100000 in
theorem cd_X12_trip : Cond.code yX12_trip cX12_trip 4 (some .int) ∈ lw_U := lw_Uin (i := 1859) (rfl) rfl
theorem cw_L_222 : CVk "LastbusLaw" 222 yX12_trip cX12_trip 4 (some .int) 3 := ⟨lw_Uin (i := 1856) (by decide +kernel) rfl, lw_Uin (i := 1857) (by decide +kernel) rfl, lw_Uin (i := 1858) (by decide +kernel) rfl, lw_Uin (i := 115) (by decide +kernel) rfl, cd_X12_trip, ⟨by decide +kernel, by decide +kernel, by decide +kernel⟩⟩
set_option maxRecDepth 100000 in
theorem cwS_L_223 : CWk "LastbusLaw" 223 yL_call cL_call 7 (some .int) hh_L_call 6 := ⟨lw_Uin (i := 940) (by decide +kernel) rfl, lw_Uin (i := 941) (by decide +kernel) rfl, lw_Uin (i := 102) (by decide +kernel) rfl, lw_Uin (i := 942) (rfl) rfl, ⟨by decide +kernel, by decide +kernel, by decide +kernel⟩⟩
set_option maxRecDepth 100000 in
theorem cd_X12_call : Cond.code yX12_call cX12_call 7 (some .int) ∈ lw_U := lw_Uin (i := 1867) (rfl) rfl
theorem cw_L_225 : CVk "LastbusLaw" 225 yX12_call cX12_call 7 (some .int) 4 := ⟨lw_Uin (i := 1864) (by decide +kernel) rfl, lw_Uin (i := 1865) (by decide +kernel) rfl, lw_Uin (i := 1866) (by decide +kernel) rfl, lw_Uin (i := 115) (by decide +kernel) rfl, cd_X12_call, ⟨by decide +kernel, by decide +kernel, by decide +kernel⟩⟩
set_option maxRecDepth 100000 in
theorem cd_X11_trips : Cond.code yX11_trips cX11_trips 1 (some .int) ∈ lw_U := lw_Uin (i := 605) (rfl) rfl
theorem cw_L_226 : CVk "LastbusLaw" 226 yX11_trips cX11_trips 1 (some .int) 0 := ⟨lw_Uin (i := 602) (by decide +kernel) rfl, lw_Uin (i := 603) (by decide +kernel) rfl, lw_Uin (i := 604) (by decide +kernel) rfl, lw_Uin (i := 103) (by decide +kernel) rfl, cd_X11_trips, ⟨by decide +kernel, by decide +kernel, by decide +kernel⟩⟩
set_option maxRecDepth 100000 in
theorem cd_X12_trips : Cond.code yX12_trips cX12_trips 1 (some .int) ∈ lw_U := lw_Uin (i := 1875) (rfl) rfl
theorem cw_L_229 : CVk "LastbusLaw" 229 yX12_trips cX12_trips 1 (some .int) 0 := ⟨lw_Uin (i := 1872) (by decide +kernel) rfl, lw_Uin (i := 1873) (by decide +kernel) rfl, lw_Uin (i := 1874) (by decide +kernel) rfl, lw_Uin (i := 115) (by decide +kernel) rfl, cd_X12_trips, ⟨by decide +kernel, by decide +kernel, by decide +kernel⟩⟩
set_option maxRecDepth 100000 in
theorem cwS_L_230 : CWk "LastbusLaw" 230 yL_calls cL_calls 4 (some .int) hh_L_calls 3 := ⟨lw_Uin (i := 962) (by decide +kernel) rfl, lw_Uin (i := 963) (by decide +kernel) rfl, lw_Uin (i := 102) (by decide +kernel) rfl, lw_Uin (i := 964) (rfl) rfl, ⟨by decide +kernel, by decide +kernel, by decide +kernel⟩⟩
set_option maxRecDepth 100000 in
theorem cd_X12_calls : Cond.code yX12_calls cX12_calls 2 (some .int) ∈ lw_U := lw_Uin (i := 1879) (rfl) rfl
theorem cw_L_232 : CVk "LastbusLaw" 232 yX12_calls cX12_calls 2 (some .int) 1 := ⟨lw_Uin (i := 1876) (by decide +kernel) rfl, lw_Uin (i := 1877) (by decide +kernel) rfl, lw_Uin (i := 1878) (by decide +kernel) rfl, lw_Uin (i := 115) (by decide +kernel) rfl, cd_X12_calls, ⟨by decide +kernel, by decide +kernel, by decide +kernel⟩⟩
set_option maxRecDepth 100000 in
theorem cwS_L_233 : CWk "LastbusLaw" 233 yL_stopAt cL_stopAt 5 (some .int) hh_L_stopAt 4 := ⟨lw_Uin (i := 969) (by decide +kernel) rfl, lw_Uin (i := 970) (by decide +kernel) rfl, lw_Uin (i := 102) (by decide +kernel) rfl, lw_Uin (i := 971) (rfl) rfl, ⟨by decide +kernel, by decide +kernel, by decide +kernel⟩⟩
set_option maxRecDepth 100000 in
theorem cd_X12_stopAt : Cond.code yX12_stopAt cX12_stopAt 3 (some .int) ∈ lw_U := lw_Uin (i := 1883) (rfl) rfl
theorem cw_L_235 : CVk "LastbusLaw" 235 yX12_stopAt cX12_stopAt 3 (some .int) 2 := ⟨lw_Uin (i := 1880) (by decide +kernel) rfl, lw_Uin (i := 1881) (by decide +kernel) rfl, lw_Uin (i := 1882) (by decide +kernel) rfl, lw_Uin (i := 115) (by decide +kernel) rfl, cd_X12_stopAt, ⟨by decide +kernel, by decide +kernel, by decide +kernel⟩⟩
set_option maxRecDepth 100000 in
theorem cwS_L_236 : CWk "LastbusLaw" 236 yL_timeAt cL_timeAt 6 (some .int) hh_L_timeAt 5 := ⟨lw_Uin (i := 981) (by decide +kernel) rfl, lw_Uin (i := 982) (by decide +kernel) rfl, lw_Uin (i := 102) (by decide +kernel) rfl, lw_Uin (i := 983) (rfl) rfl, ⟨by decide +kernel, by decide +kernel, by decide +kernel⟩⟩
set_option maxRecDepth 100000 in
theorem cd_X12_timeAt : Cond.code yX12_timeAt cX12_timeAt 4 (some .int) ∈ lw_U := lw_Uin (i := 1891) (rfl) rfl
theorem cw_L_238 : CVk "LastbusLaw" 238 yX12_timeAt cX12_timeAt 4 (some .int) 3 := ⟨lw_Uin (i := 1888) (by decide +kernel) rfl, lw_Uin (i := 1889) (by decide +kernel) rfl, lw_Uin (i := 1890) (by decide +kernel) rfl, lw_Uin (i := 115) (by decide +kernel) rfl, cd_X12_timeAt, ⟨by decide +kernel, by decide +kernel, by decide +kernel⟩⟩
set_option maxRecDepth 100000 in
theorem cwS_L_239 : CWk "LastbusLaw" 239 yL_shift cL_shift 5 (some .int) hh_L_shift 4 := ⟨lw_Uin (i := 988) (by decide +kernel) rfl, lw_Uin (i := 989) (by decide +kernel) rfl, lw_Uin (i := 102) (by decide +kernel) rfl, lw_Uin (i := 990) (rfl) rfl, ⟨by decide +kernel, by decide +kernel, by decide +kernel⟩⟩
set_option maxRecDepth 100000 in
theorem cd_X12_shift : Cond.code yX12_shift cX12_shift 3 (some .int) ∈ lw_U := lw_Uin (i := 1895) (rfl) rfl
theorem cw_L_241 : CVk "LastbusLaw" 241 yX12_shift cX12_shift 3 (some .int) 2 := ⟨lw_Uin (i := 1892) (by decide +kernel) rfl, lw_Uin (i := 1893) (by decide +kernel) rfl, lw_Uin (i := 1894) (by decide +kernel) rfl, lw_Uin (i := 115) (by decide +kernel) rfl, cd_X12_shift, ⟨by decide +kernel, by decide +kernel, by decide +kernel⟩⟩
set_option maxRecDepth 100000 in
theorem cwS_L_242 : CWk "LastbusLaw" 242 yL_type cL_type 4 (some .int) hh_L_type 3 := ⟨lw_Uin (i := 1003) (by decide +kernel) rfl, lw_Uin (i := 1004) (by decide +kernel) rfl, lw_Uin (i := 102) (by decide +kernel) rfl, lw_Uin (i := 1005) (rfl) rfl, ⟨by decide +kernel, by decide +kernel, by decide +kernel⟩⟩
set_option maxRecDepth 100000 in
theorem cd_X12_type : Cond.code yX12_type cX12_type 2 (some .int) ∈ lw_U := lw_Uin (i := 1907) (rfl) rfl
theorem cw_L_245 : CVk "LastbusLaw" 245 yX12_type cX12_type 2 (some .int) 1 := ⟨lw_Uin (i := 1904) (by decide +kernel) rfl, lw_Uin (i := 1905) (by decide +kernel) rfl, lw_Uin (i := 1906) (by decide +kernel) rfl, lw_Uin (i := 115) (by decide +kernel) rfl, cd_X12_type, ⟨by decide +kernel, by decide +kernel, by decide +kernel⟩⟩
set_option maxRecDepth 100000 in
theorem cwS_L_246 : CWk "LastbusLaw" 246 yL_typeNumber cL_typeNumber 4 (some .int) hh_L_typeNumber 3 := ⟨lw_Uin (i := 1019) (by decide +kernel) rfl, lw_Uin (i := 1020) (by decide +kernel) rfl, lw_Uin (i := 102) (by decide +kernel) rfl, lw_Uin (i := 1021) (rfl) rfl, ⟨by decide +kernel, by decide +kernel, by decide +kernel⟩⟩
set_option maxRecDepth 100000 in
theorem cd_X12_typeNumber : Cond.code yX12_typeNumber cX12_typeNumber 5 (some .int) ∈ lw_U := lw_Uin (i := 1911) (rfl) rfl
theorem cw_L_248 : CVk "LastbusLaw" 248 yX12_typeNumber cX12_typeNumber 5 (some .int) 1 := ⟨lw_Uin (i := 1908) (by decide +kernel) rfl, lw_Uin (i := 1909) (by decide +kernel) rfl, lw_Uin (i := 1910) (by decide +kernel) rfl, lw_Uin (i := 115) (by decide +kernel) rfl, cd_X12_typeNumber, ⟨by decide +kernel, by decide +kernel, by decide +kernel⟩⟩
set_option maxRecDepth 100000 in
theorem cd_X11_erase : Cond.code yX11_erase cX11_erase 1 (some .int) ∈ lw_U := lw_Uin (i := 609) (rfl) rfl
theorem cw_L_249 : CVk "LastbusLaw" 249 yX11_erase cX11_erase 1 (some .int) 0 := ⟨lw_Uin (i := 606) (by decide +kernel) rfl, lw_Uin (i := 607) (by decide +kernel) rfl, lw_Uin (i := 608) (by decide +kernel) rfl, lw_Uin (i := 103) (by decide +kernel) rfl, cd_X11_erase, ⟨by decide +kernel, by decide +kernel, by decide +kernel⟩⟩
set_option maxRecDepth 100000 in
theorem cd_X12_erase : Cond.code yX12_erase cX12_erase 2 (some .int) ∈ lw_U := lw_Uin (i := 1915) (rfl) rfl
theorem cw_L_252 : CVk "LastbusLaw" 252 yX12_erase cX12_erase 2 (some .int) 0 := ⟨lw_Uin (i := 1912) (by decide +kernel) rfl, lw_Uin (i := 1913) (by decide +kernel) rfl, lw_Uin (i := 1914) (by decide +kernel) rfl, lw_Uin (i := 115) (by decide +kernel) rfl, cd_X12_erase, ⟨by decide +kernel, by decide +kernel, by decide +kernel⟩⟩
set_option maxRecDepth 100000 in
theorem cwS_L_253 : CWk "LastbusLaw" 253 yL_readRow cL_readRow 3 (some .int) hh_L_readRow 2 := ⟨lw_Uin (i := 1035) (by decide +kernel) rfl, lw_Uin (i := 1036) (by decide +kernel) rfl, lw_Uin (i := 102) (by decide +kernel) rfl, lw_Uin (i := 1037) (rfl) rfl, ⟨by decide +kernel, by decide +kernel, by decide +kernel⟩⟩
set_option maxRecDepth 100000 in
theorem cd_X12_readRow : Cond.code yX12_readRow cX12_readRow 5 (some .int) ∈ lw_U := lw_Uin (i := 1919) (rfl) rfl
theorem cw_L_255 : CVk "LastbusLaw" 255 yX12_readRow cX12_readRow 5 (some .int) 0 := ⟨lw_Uin (i := 1916) (by decide +kernel) rfl, lw_Uin (i := 1917) (by decide +kernel) rfl, lw_Uin (i := 1918) (by decide +kernel) rfl, lw_Uin (i := 115) (by decide +kernel) rfl, cd_X12_readRow, ⟨by decide +kernel, by decide +kernel, by decide +kernel⟩⟩
set_option maxRecDepth 100000 in
theorem cwS_L_256 : CWk "LastbusLaw" 256 yL_faultAt cL_faultAt 3 (some .int) hh_L_faultAt 2 := ⟨lw_Uin (i := 1088) (by decide +kernel) rfl, lw_Uin (i := 1089) (by decide +kernel) rfl, lw_Uin (i := 102) (by decide +kernel) rfl, lw_Uin (i := 1090) (rfl) rfl, ⟨by decide +kernel, by decide +kernel, by decide +kernel⟩⟩
set_option maxRecDepth 100000 in
theorem cd_X12_faultAt : Cond.code yX12_faultAt cX12_faultAt 1 (some .int) ∈ lw_U := lw_Uin (i := 1935) (rfl) rfl
theorem cw_L_258 : CVk "LastbusLaw" 258 yX12_faultAt cX12_faultAt 1 (some .int) 0 := ⟨lw_Uin (i := 1932) (by decide +kernel) rfl, lw_Uin (i := 1933) (by decide +kernel) rfl, lw_Uin (i := 1934) (by decide +kernel) rfl, lw_Uin (i := 115) (by decide +kernel) rfl, cd_X12_faultAt, ⟨by decide +kernel, by decide +kernel, by decide +kernel⟩⟩
set_option maxRecDepth 100000 in
theorem cwS_L_259 : CWk "LastbusLaw" 259 yL_late cL_late 7 (some .int) hh_L_late 6 := ⟨lw_Uin (i := 1096) (by decide +kernel) rfl, lw_Uin (i := 1097) (by decide +kernel) rfl, lw_Uin (i := 102) (by decide +kernel) rfl, lw_Uin (i := 1098) (rfl) rfl, ⟨by decide +kernel, by decide +kernel, by decide +kernel⟩⟩
set_option maxRecDepth 100000 in
theorem cd_X12_late : Cond.code yX12_late cX12_late 7 (some .int) ∈ lw_U := lw_Uin (i := 1939) (rfl) rfl
theorem cw_L_261 : CVk "LastbusLaw" 261 yX12_late cX12_late 7 (some .int) 4 := ⟨lw_Uin (i := 1936) (by decide +kernel) rfl, lw_Uin (i := 1937) (by decide +kernel) rfl, lw_Uin (i := 1938) (by decide +kernel) rfl, lw_Uin (i := 115) (by decide +kernel) rfl, cd_X12_late, ⟨by decide +kernel, by decide +kernel, by decide +kernel⟩⟩
set_option maxRecDepth 100000 in
theorem cwS_L_262 : CWk "LastbusLaw" 262 yL_lateness cL_lateness 6 (some .int) hh_L_lateness 5 := ⟨lw_Uin (i := 1116) (by decide +kernel) rfl, lw_Uin (i := 1117) (by decide +kernel) rfl, lw_Uin (i := 102) (by decide +kernel) rfl, lw_Uin (i := 1118) (rfl) rfl, ⟨by decide +kernel, by decide +kernel, by decide +kernel⟩⟩
set_option maxRecDepth 100000 in
theorem cd_X12_lateness : Cond.code yX12_lateness cX12_lateness 4 (some .int) ∈ lw_U := lw_Uin (i := 1947) (rfl) rfl
theorem cw_L_264 : CVk "LastbusLaw" 264 yX12_lateness cX12_lateness 4 (some .int) 3 := ⟨lw_Uin (i := 1944) (by decide +kernel) rfl, lw_Uin (i := 1945) (by decide +kernel) rfl, lw_Uin (i := 1946) (by decide +kernel) rfl, lw_Uin (i := 115) (by decide +kernel) rfl, cd_X12_lateness, ⟨by decide +kernel, by decide +kernel, by decide +kernel⟩⟩
set_option maxRecDepth 100000 in
theorem cd_X11_onTime : Cond.code yX11_onTime cX11_onTime 2 (some .int) ∈ lw_U := lw_Uin (i := 617) (rfl) rfl
theorem cw_L_265 : CVk "LastbusLaw" 265 yX11_onTime cX11_onTime 2 (some .int) 0 := ⟨lw_Uin (i := 614) (by decide +kernel) rfl, lw_Uin (i := 615) (by decide +kernel) rfl, lw_Uin (i := 616) (by decide +kernel) rfl, lw_Uin (i := 103) (by decide +kernel) rfl, cd_X11_onTime, ⟨by decide +kernel, by decide +kernel, by decide +kernel⟩⟩
set_option maxRecDepth 100000 in
theorem cd_X12_onTime : Cond.code yX12_onTime cX12_onTime 2 (some .int) ∈ lw_U := lw_Uin (i := 1955) (rfl) rfl
theorem cw_L_268 : CVk "LastbusLaw" 268 yX12_onTime cX12_onTime 2 (some .int) 0 := ⟨lw_Uin (i := 1952) (by decide +kernel) rfl, lw_Uin (i := 1953) (by decide +kernel) rfl, lw_Uin (i := 1954) (by decide +kernel) rfl, lw_Uin (i := 115) (by decide +kernel) rfl, cd_X12_onTime, ⟨by decide +kernel, by decide +kernel, by decide +kernel⟩⟩
set_option maxRecDepth 100000 in
theorem cwS_L_269 : CWk "LastbusLaw" 269 yL_earliest cL_earliest 7 (some .int) hh_L_earliest 6 := ⟨lw_Uin (i := 1127) (by decide +kernel) rfl, lw_Uin (i := 1128) (by decide +kernel) rfl, lw_Uin (i := 102) (by decide +kernel) rfl, lw_Uin (i := 1129) (rfl) rfl, ⟨by decide +kernel, by decide +kernel, by decide +kernel⟩⟩
theorem cw_L_271 : CVk "LastbusLaw" 271 yX12_earliest cX12_earliest 6 (some .int) 4 := ⟨lw_Uin (i := 1956) (by decide +kernel) rfl, lw_Uin (i := 1957) (by decide +kernel) rfl, lw_Uin (i := 1958) (by decide +kernel) rfl, lw_Uin (i := 115) (by decide +kernel) rfl, cd_X12_earliest, ⟨by decide +kernel, by decide +kernel, by decide +kernel⟩⟩
set_option maxRecDepth 100000 in
theorem cwS_L_272 : CWk "LastbusLaw" 272 yL_earliestByQueue cL_earliestByQueue 7 (some .int) hh_L_earliestByQueue 6 := ⟨lw_Uin (i := 1210) (by decide +kernel) rfl, lw_Uin (i := 1211) (by decide +kernel) rfl, lw_Uin (i := 102) (by decide +kernel) rfl, lw_Uin (i := 1212) (rfl) rfl, ⟨by decide +kernel, by decide +kernel, by decide +kernel⟩⟩
set_option maxRecDepth 100000 in
theorem cd_X12_earliestByQueue : Cond.code yX12_earliestByQueue cX12_earliestByQueue 5 (some .int) ∈ lw_U := lw_Uin (i := 2015) (rfl) rfl
theorem cw_L_274 : CVk "LastbusLaw" 274 yX12_earliestByQueue cX12_earliestByQueue 5 (some .int) 4 := ⟨lw_Uin (i := 2012) (by decide +kernel) rfl, lw_Uin (i := 2013) (by decide +kernel) rfl, lw_Uin (i := 2014) (by decide +kernel) rfl, lw_Uin (i := 115) (by decide +kernel) rfl, cd_X12_earliestByQueue, ⟨by decide +kernel, by decide +kernel, by decide +kernel⟩⟩
set_option maxRecDepth 100000 in
theorem cwS_L_275 : CWk "LastbusLaw" 275 yL_earliestByRounds cL_earliestByRounds 7 (some .int) hh_L_earliestByRounds 6 := ⟨lw_Uin (i := 1234) (by decide +kernel) rfl, lw_Uin (i := 1235) (by decide +kernel) rfl, lw_Uin (i := 102) (by decide +kernel) rfl, lw_Uin (i := 1236) (rfl) rfl, ⟨by decide +kernel, by decide +kernel, by decide +kernel⟩⟩
set_option maxRecDepth 100000 in
theorem cd_X12_earliestByRounds : Cond.code yX12_earliestByRounds cX12_earliestByRounds 5 (some .int) ∈ lw_U := lw_Uin (i := 2020) (rfl) rfl
theorem cw_L_277 : CVk "LastbusLaw" 277 yX12_earliestByRounds cX12_earliestByRounds 5 (some .int) 4 := ⟨lw_Uin (i := 2017) (by decide +kernel) rfl, lw_Uin (i := 2018) (by decide +kernel) rfl, lw_Uin (i := 2019) (by decide +kernel) rfl, lw_Uin (i := 115) (by decide +kernel) rfl, cd_X12_earliestByRounds, ⟨by decide +kernel, by decide +kernel, by decide +kernel⟩⟩
set_option maxRecDepth 100000 in
theorem cwS_L_278 : CWk "LastbusLaw" 278 yL_wall cL_wall 7 (some .int) hh_L_wall 6 := ⟨lw_Uin (i := 1261) (by decide +kernel) rfl, lw_Uin (i := 1262) (by decide +kernel) rfl, lw_Uin (i := 102) (by decide +kernel) rfl, lw_Uin (i := 1263) (rfl) rfl, ⟨by decide +kernel, by decide +kernel, by decide +kernel⟩⟩
set_option maxRecDepth 100000 in
theorem cd_X12_wall : Cond.code yX12_wall cX12_wall 8 (some .int) ∈ lw_U := lw_Uin (i := 2028) (rfl) rfl
theorem cw_L_280 : CVk "LastbusLaw" 280 yX12_wall cX12_wall 8 (some .int) 4 := ⟨lw_Uin (i := 2025) (by decide +kernel) rfl, lw_Uin (i := 2026) (by decide +kernel) rfl, lw_Uin (i := 2027) (by decide +kernel) rfl, lw_Uin (i := 115) (by decide +kernel) rfl, cd_X12_wall, ⟨by decide +kernel, by decide +kernel, by decide +kernel⟩⟩
set_option maxRecDepth 100000 in
theorem cwS_L_281 : CWk "LastbusLaw" 281 yL_last cL_last 7 (some .int) hh_L_last 6 := ⟨lw_Uin (i := 1268) (by decide +kernel) rfl, lw_Uin (i := 1269) (by decide +kernel) rfl, lw_Uin (i := 102) (by decide +kernel) rfl, lw_Uin (i := 1270) (rfl) rfl, ⟨by decide +kernel, by decide +kernel, by decide +kernel⟩⟩
set_option maxRecDepth 100000 in
theorem cd_X12_last : Cond.code yX12_last cX12_last 8 (some .int) ∈ lw_U := lw_Uin (i := 2032) (rfl) rfl
theorem cw_L_283 : CVk "LastbusLaw" 283 yX12_last cX12_last 8 (some .int) 4 := ⟨lw_Uin (i := 2029) (by decide +kernel) rfl, lw_Uin (i := 2030) (by decide +kernel) rfl, lw_Uin (i := 2031) (by decide +kernel) rfl, lw_Uin (i := 115) (by decide +kernel) rfl, cd_X12_last, ⟨by decide +kernel, by decide +kernel, by decide +kernel⟩⟩
set_option maxRecDepth 100000 in
theorem cwS_L_284 : CWk "LastbusLaw" 284 yL_chain cL_chain 7 (some .int) hh_L_chain 6 := ⟨lw_Uin (i := 1295) (by decide +kernel) rfl, lw_Uin (i := 1296) (by decide +kernel) rfl, lw_Uin (i := 102) (by decide +kernel) rfl, lw_Uin (i := 1297) (rfl) rfl, ⟨by decide +kernel, by decide +kernel, by decide +kernel⟩⟩
set_option maxRecDepth 100000 in
theorem cd_X12_chain : Cond.code yX12_chain cX12_chain 10 (some .int) ∈ lw_U := lw_Uin (i := 2068) (rfl) rfl
theorem cw_L_286 : CVk "LastbusLaw" 286 yX12_chain cX12_chain 10 (some .int) 4 := ⟨lw_Uin (i := 2065) (by decide +kernel) rfl, lw_Uin (i := 2066) (by decide +kernel) rfl, lw_Uin (i := 2067) (by decide +kernel) rfl, lw_Uin (i := 115) (by decide +kernel) rfl, cd_X12_chain, ⟨by decide +kernel, by decide +kernel, by decide +kernel⟩⟩
set_option maxRecDepth 100000 in
theorem cwS_L_287 : CWk "LastbusLaw" 287 yL_ride cL_ride 5 (some .int) hh_L_ride 4 := ⟨lw_Uin (i := 1323) (by decide +kernel) rfl, lw_Uin (i := 1324) (by decide +kernel) rfl, lw_Uin (i := 102) (by decide +kernel) rfl, lw_Uin (i := 1325) (rfl) rfl, ⟨by decide +kernel, by decide +kernel, by decide +kernel⟩⟩
set_option maxRecDepth 100000 in
theorem cd_X12_ride : Cond.code yX12_ride cX12_ride 3 (some .int) ∈ lw_U := lw_Uin (i := 2076) (rfl) rfl
theorem cw_L_290 : CVk "LastbusLaw" 290 yX12_ride cX12_ride 3 (some .int) 2 := ⟨lw_Uin (i := 2073) (by decide +kernel) rfl, lw_Uin (i := 2074) (by decide +kernel) rfl, lw_Uin (i := 2075) (by decide +kernel) rfl, lw_Uin (i := 115) (by decide +kernel) rfl, cd_X12_ride, ⟨by decide +kernel, by decide +kernel, by decide +kernel⟩⟩
set_option maxRecDepth 100000 in
theorem cwS_L_291 : CWk "LastbusLaw" 291 yL_onBoard cL_onBoard 7 (some .int) hh_L_onBoard 6 := ⟨lw_Uin (i := 1332) (by decide +kernel) rfl, lw_Uin (i := 1333) (by decide +kernel) rfl, lw_Uin (i := 102) (by decide +kernel) rfl, lw_Uin (i := 1334) (rfl) rfl, ⟨by decide +kernel, by decide +kernel, by decide +kernel⟩⟩
set_option maxRecDepth 100000 in
theorem cd_X12_onBoard : Cond.code yX12_onBoard cX12_onBoard 6 (some .int) ∈ lw_U := lw_Uin (i := 2036) (rfl) rfl
theorem cw_L_293 : CVk "LastbusLaw" 293 yX12_onBoard cX12_onBoard 6 (some .int) 4 := ⟨lw_Uin (i := 2033) (by decide +kernel) rfl, lw_Uin (i := 2034) (by decide +kernel) rfl, lw_Uin (i := 2035) (by decide +kernel) rfl, lw_Uin (i := 115) (by decide +kernel) rfl, cd_X12_onBoard, ⟨by decide +kernel, by decide +kernel, by decide +kernel⟩⟩
set_option maxRecDepth 100000 in
theorem cwS_L_294 : CWk "LastbusLaw" 294 yL_pairs cL_pairs 6 (some .int) hh_L_pairs 5 := ⟨lw_Uin (i := 1350) (by decide +kernel) rfl, lw_Uin (i := 1351) (by decide +kernel) rfl, lw_Uin (i := 102) (by decide +kernel) rfl, lw_Uin (i := 1352) (rfl) rfl, ⟨by decide +kernel, by decide +kernel, by decide +kernel⟩⟩
set_option maxRecDepth 100000 in
theorem cd_X12_pairs : Cond.code yX12_pairs cX12_pairs 4 (some .int) ∈ lw_U := lw_Uin (i := 2080) (rfl) rfl
theorem cw_L_296 : CVk "LastbusLaw" 296 yX12_pairs cX12_pairs 4 (some .int) 3 := ⟨lw_Uin (i := 2077) (by decide +kernel) rfl, lw_Uin (i := 2078) (by decide +kernel) rfl, lw_Uin (i := 2079) (by decide +kernel) rfl, lw_Uin (i := 115) (by decide +kernel) rfl, cd_X12_pairs, ⟨by decide +kernel, by decide +kernel, by decide +kernel⟩⟩
set_option maxRecDepth 100000 in
theorem cwS_L_297 : CWk "LastbusLaw" 297 yL_pair cL_pair 8 (some .int) hh_L_pair 7 := ⟨lw_Uin (i := 1370) (by decide +kernel) rfl, lw_Uin (i := 1371) (by decide +kernel) rfl, lw_Uin (i := 102) (by decide +kernel) rfl, lw_Uin (i := 1372) (rfl) rfl, ⟨by decide +kernel, by decide +kernel, by decide +kernel⟩⟩
set_option maxRecDepth 100000 in
theorem cd_X12_pair : Cond.code yX12_pair cX12_pair 6 (some .int) ∈ lw_U := lw_Uin (i := 2096) (rfl) rfl
theorem cw_L_300 : CVk "LastbusLaw" 300 yX12_pair cX12_pair 6 (some .int) 5 := ⟨lw_Uin (i := 2093) (by decide +kernel) rfl, lw_Uin (i := 2094) (by decide +kernel) rfl, lw_Uin (i := 2095) (by decide +kernel) rfl, lw_Uin (i := 115) (by decide +kernel) rfl, cd_X12_pair, ⟨by decide +kernel, by decide +kernel, by decide +kernel⟩⟩
set_option maxRecDepth 100000 in
theorem cwS_L_301 : CWk "LastbusLaw" 301 yL_byPairs cL_byPairs 7 (some .int) hh_L_byPairs 6 := ⟨lw_Uin (i := 1378) (by decide +kernel) rfl, lw_Uin (i := 1379) (by decide +kernel) rfl, lw_Uin (i := 102) (by decide +kernel) rfl, lw_Uin (i := 1380) (rfl) rfl, ⟨by decide +kernel, by decide +kernel, by decide +kernel⟩⟩
set_option maxRecDepth 100000 in
theorem cd_X12_byPairs : Cond.code yX12_byPairs cX12_byPairs 5 (some .int) ∈ lw_U := lw_Uin (i := 2024) (rfl) rfl
theorem cw_L_303 : CVk "LastbusLaw" 303 yX12_byPairs cX12_byPairs 5 (some .int) 4 := ⟨lw_Uin (i := 2021) (by decide +kernel) rfl, lw_Uin (i := 2022) (by decide +kernel) rfl, lw_Uin (i := 2023) (by decide +kernel) rfl, lw_Uin (i := 115) (by decide +kernel) rfl, cd_X12_byPairs, ⟨by decide +kernel, by decide +kernel, by decide +kernel⟩⟩
set_option maxRecDepth 100000 in
theorem cwS_L_304 : CWk "LastbusLaw" 304 yL_choices cL_choices 7 (some .int) hh_L_choices 6 := ⟨lw_Uin (i := 1389) (by decide +kernel) rfl, lw_Uin (i := 1390) (by decide +kernel) rfl, lw_Uin (i := 102) (by decide +kernel) rfl, lw_Uin (i := 1391) (rfl) rfl, ⟨by decide +kernel, by decide +kernel, by decide +kernel⟩⟩
set_option maxRecDepth 100000 in
theorem cd_X12_choices : Cond.code yX12_choices cX12_choices 5 (some .int) ∈ lw_U := lw_Uin (i := 2040) (rfl) rfl
theorem cw_L_306 : CVk "LastbusLaw" 306 yX12_choices cX12_choices 5 (some .int) 4 := ⟨lw_Uin (i := 2037) (by decide +kernel) rfl, lw_Uin (i := 2038) (by decide +kernel) rfl, lw_Uin (i := 2039) (by decide +kernel) rfl, lw_Uin (i := 115) (by decide +kernel) rfl, cd_X12_choices, ⟨by decide +kernel, by decide +kernel, by decide +kernel⟩⟩
set_option maxRecDepth 100000 in
theorem cwS_L_307 : CWk "LastbusLaw" 307 yL_choice cL_choice 8 (some .int) hh_L_choice 7 := ⟨lw_Uin (i := 1401) (by decide +kernel) rfl, lw_Uin (i := 1402) (by decide +kernel) rfl, lw_Uin (i := 102) (by decide +kernel) rfl, lw_Uin (i := 1403) (rfl) rfl, ⟨by decide +kernel, by decide +kernel, by decide +kernel⟩⟩
set_option maxRecDepth 100000 in
theorem cd_X12_choice : Cond.code yX12_choice cX12_choice 6 (some .int) ∈ lw_U := lw_Uin (i := 2064) (rfl) rfl
theorem cw_L_310 : CVk "LastbusLaw" 310 yX12_choice cX12_choice 6 (some .int) 5 := ⟨lw_Uin (i := 2061) (by decide +kernel) rfl, lw_Uin (i := 2062) (by decide +kernel) rfl, lw_Uin (i := 2063) (by decide +kernel) rfl, lw_Uin (i := 115) (by decide +kernel) rfl, cd_X12_choice, ⟨by decide +kernel, by decide +kernel, by decide +kernel⟩⟩
set_option maxRecDepth 100000 in
theorem cwS_L_311 : CWk "LastbusLaw" 311 yL_holds cL_holds 8 (some .int) hh_L_holds 7 := ⟨lw_Uin (i := 1409) (by decide +kernel) rfl, lw_Uin (i := 1410) (by decide +kernel) rfl, lw_Uin (i := 102) (by decide +kernel) rfl, lw_Uin (i := 1411) (rfl) rfl, ⟨by decide +kernel, by decide +kernel, by decide +kernel⟩⟩
set_option maxRecDepth 100000 in
theorem cd_X12_holds : Cond.code yX12_holds cX12_holds 9 (some .boolean) ∈ lw_U := lw_Uin (i := 2100) (rfl) rfl
theorem cw_L_313 : CVk "LastbusLaw" 313 yX12_holds cX12_holds 9 (some .boolean) 5 := ⟨lw_Uin (i := 2097) (by decide +kernel) rfl, lw_Uin (i := 2098) (by decide +kernel) rfl, lw_Uin (i := 2099) (by decide +kernel) rfl, lw_Uin (i := 115) (by decide +kernel) rfl, cd_X12_holds, ⟨by decide +kernel, by decide +kernel, by decide +kernel⟩⟩
set_option maxRecDepth 100000 in
theorem cwS_L_314 : CWk "LastbusLaw" 314 yL_wish cL_wish 8 (some .int) hh_L_wish 7 := ⟨lw_Uin (i := 1425) (by decide +kernel) rfl, lw_Uin (i := 1426) (by decide +kernel) rfl, lw_Uin (i := 102) (by decide +kernel) rfl, lw_Uin (i := 1427) (rfl) rfl, ⟨by decide +kernel, by decide +kernel, by decide +kernel⟩⟩
set_option maxRecDepth 100000 in
theorem cd_X12_wish : Cond.code yX12_wish cX12_wish 6 (some .int) ∈ lw_U := lw_Uin (i := 2112) (rfl) rfl
theorem cw_L_316 : CVk "LastbusLaw" 316 yX12_wish cX12_wish 6 (some .int) 5 := ⟨lw_Uin (i := 2109) (by decide +kernel) rfl, lw_Uin (i := 2110) (by decide +kernel) rfl, lw_Uin (i := 2111) (by decide +kernel) rfl, lw_Uin (i := 115) (by decide +kernel) rfl, cd_X12_wish, ⟨by decide +kernel, by decide +kernel, by decide +kernel⟩⟩
set_option maxRecDepth 100000 in
theorem cd_X11_dropWishes : Cond.code yX11_dropWishes cX11_dropWishes 2 (some .int) ∈ lw_U := lw_Uin (i := 621) (rfl) rfl
theorem cw_L_317 : CVk "LastbusLaw" 317 yX11_dropWishes cX11_dropWishes 2 (some .int) 0 := ⟨lw_Uin (i := 618) (by decide +kernel) rfl, lw_Uin (i := 619) (by decide +kernel) rfl, lw_Uin (i := 620) (by decide +kernel) rfl, lw_Uin (i := 103) (by decide +kernel) rfl, cd_X11_dropWishes, ⟨by decide +kernel, by decide +kernel, by decide +kernel⟩⟩
set_option maxRecDepth 100000 in
theorem cd_X12_dropWishes : Cond.code yX12_dropWishes cX12_dropWishes 2 (some .int) ∈ lw_U := lw_Uin (i := 2116) (rfl) rfl
theorem cw_L_320 : CVk "LastbusLaw" 320 yX12_dropWishes cX12_dropWishes 2 (some .int) 0 := ⟨lw_Uin (i := 2113) (by decide +kernel) rfl, lw_Uin (i := 2114) (by decide +kernel) rfl, lw_Uin (i := 2115) (by decide +kernel) rfl, lw_Uin (i := 115) (by decide +kernel) rfl, cd_X12_dropWishes, ⟨by decide +kernel, by decide +kernel, by decide +kernel⟩⟩
set_option maxRecDepth 100000 in
theorem cwS_L_321 : CWk "LastbusLaw" 321 yL_waitCost cL_waitCost 5 (some .int) hh_L_waitCost 4 := ⟨lw_Uin (i := 1438) (by decide +kernel) rfl, lw_Uin (i := 1439) (by decide +kernel) rfl, lw_Uin (i := 102) (by decide +kernel) rfl, lw_Uin (i := 1440) (rfl) rfl, ⟨by decide +kernel, by decide +kernel, by decide +kernel⟩⟩
set_option maxRecDepth 100000 in
theorem cd_X12_waitCost : Cond.code yX12_waitCost cX12_waitCost 4 (some .int) ∈ lw_U := lw_Uin (i := 2120) (rfl) rfl
theorem cw_L_323 : CVk "LastbusLaw" 323 yX12_waitCost cX12_waitCost 4 (some .int) 2 := ⟨lw_Uin (i := 2117) (by decide +kernel) rfl, lw_Uin (i := 2118) (by decide +kernel) rfl, lw_Uin (i := 2119) (by decide +kernel) rfl, lw_Uin (i := 115) (by decide +kernel) rfl, cd_X12_waitCost, ⟨by decide +kernel, by decide +kernel, by decide +kernel⟩⟩
set_option maxRecDepth 100000 in
theorem cwS_L_324 : CWk "LastbusLaw" 324 yL_bestWaits cL_bestWaits 4 (some .int) hh_L_bestWaits 3 := ⟨lw_Uin (i := 1485) (by decide +kernel) rfl, lw_Uin (i := 1486) (by decide +kernel) rfl, lw_Uin (i := 102) (by decide +kernel) rfl, lw_Uin (i := 1487) (rfl) rfl, ⟨by decide +kernel, by decide +kernel, by decide +kernel⟩⟩
set_option maxRecDepth 100000 in
theorem cd_X12_bestWaits : Cond.code yX12_bestWaits cX12_bestWaits 6 (some .int) ∈ lw_U := lw_Uin (i := 2136) (rfl) rfl
theorem cw_L_326 : CVk "LastbusLaw" 326 yX12_bestWaits cX12_bestWaits 6 (some .int) 1 := ⟨lw_Uin (i := 2133) (by decide +kernel) rfl, lw_Uin (i := 2134) (by decide +kernel) rfl, lw_Uin (i := 2135) (by decide +kernel) rfl, lw_Uin (i := 115) (by decide +kernel) rfl, cd_X12_bestWaits, ⟨by decide +kernel, by decide +kernel, by decide +kernel⟩⟩
set_option maxRecDepth 100000 in
theorem cwS_L_327 : CWk "LastbusLaw" 327 yL_lost cL_lost 5 (some .int) hh_L_lost 4 := ⟨lw_Uin (i := 1492) (by decide +kernel) rfl, lw_Uin (i := 1493) (by decide +kernel) rfl, lw_Uin (i := 102) (by decide +kernel) rfl, lw_Uin (i := 1494) (rfl) rfl, ⟨by decide +kernel, by decide +kernel, by decide +kernel⟩⟩
set_option maxRecDepth 100000 in
theorem cd_X12_lost : Cond.code yX12_lost cX12_lost 3 (some .int) ∈ lw_U := lw_Uin (i := 2140) (rfl) rfl
theorem cw_L_329 : CVk "LastbusLaw" 329 yX12_lost cX12_lost 3 (some .int) 2 := ⟨lw_Uin (i := 2137) (by decide +kernel) rfl, lw_Uin (i := 2138) (by decide +kernel) rfl, lw_Uin (i := 2139) (by decide +kernel) rfl, lw_Uin (i := 115) (by decide +kernel) rfl, cd_X12_lost, ⟨by decide +kernel, by decide +kernel, by decide +kernel⟩⟩
set_option maxRecDepth 100000 in
theorem cwS_L_330 : CWk "LastbusLaw" 330 yL_bridges cL_bridges 4 (some .int) hh_L_bridges 3 := ⟨lw_Uin (i := 1511) (by decide +kernel) rfl, lw_Uin (i := 1512) (by decide +kernel) rfl, lw_Uin (i := 102) (by decide +kernel) rfl, lw_Uin (i := 1513) (rfl) rfl, ⟨by decide +kernel, by decide +kernel, by decide +kernel⟩⟩
set_option maxRecDepth 100000 in
theorem cd_X12_bridges : Cond.code yX12_bridges cX12_bridges 4 (some .int) ∈ lw_U := lw_Uin (i := 2152) (rfl) rfl
theorem cw_L_332 : CVk "LastbusLaw" 332 yX12_bridges cX12_bridges 4 (some .int) 1 := ⟨lw_Uin (i := 2149) (by decide +kernel) rfl, lw_Uin (i := 2150) (by decide +kernel) rfl, lw_Uin (i := 2151) (by decide +kernel) rfl, lw_Uin (i := 115) (by decide +kernel) rfl, cd_X12_bridges, ⟨by decide +kernel, by decide +kernel, by decide +kernel⟩⟩
set_option maxRecDepth 100000 in
theorem cwS_L_333 : CWk "LastbusLaw" 333 yL_vehicles cL_vehicles 4 (some .int) hh_L_vehicles 3 := ⟨lw_Uin (i := 1518) (by decide +kernel) rfl, lw_Uin (i := 1519) (by decide +kernel) rfl, lw_Uin (i := 102) (by decide +kernel) rfl, lw_Uin (i := 1520) (rfl) rfl, ⟨by decide +kernel, by decide +kernel, by decide +kernel⟩⟩
theorem cw_L_335 : CVk "LastbusLaw" 335 yX12_vehicles cX12_vehicles 8 (some .int) 1 := ⟨lw_Uin (i := 2153) (by decide +kernel) rfl, lw_Uin (i := 2154) (by decide +kernel) rfl, lw_Uin (i := 2155) (by decide +kernel) rfl, lw_Uin (i := 115) (by decide +kernel) rfl, cd_X12_vehicles, ⟨by decide +kernel, by decide +kernel, by decide +kernel⟩⟩
set_option maxRecDepth 100000 in
theorem cwS_L_336 : CWk "LastbusLaw" 336 yL_vehiclesByMatching cL_vehiclesByMatching 4 (some .int) hh_L_vehiclesByMatching 3 := ⟨lw_Uin (i := 1539) (by decide +kernel) rfl, lw_Uin (i := 1540) (by decide +kernel) rfl, lw_Uin (i := 102) (by decide +kernel) rfl, lw_Uin (i := 1541) (rfl) rfl, ⟨by decide +kernel, by decide +kernel, by decide +kernel⟩⟩
set_option maxRecDepth 100000 in
theorem cd_X12_vehiclesByMatching : Cond.code yX12_vehiclesByMatching cX12_vehiclesByMatching 2 (some .int) ∈ lw_U := lw_Uin (i := 2167) (rfl) rfl
theorem cw_L_338 : CVk "LastbusLaw" 338 yX12_vehiclesByMatching cX12_vehiclesByMatching 2 (some .int) 1 := ⟨lw_Uin (i := 2164) (by decide +kernel) rfl, lw_Uin (i := 2165) (by decide +kernel) rfl, lw_Uin (i := 2166) (by decide +kernel) rfl, lw_Uin (i := 115) (by decide +kernel) rfl, cd_X12_vehiclesByMatching, ⟨by decide +kernel, by decide +kernel, by decide +kernel⟩⟩
set_option maxRecDepth 100000 in
theorem cwS_L_339 : CWk "LastbusLaw" 339 yL_gains cL_gains 7 (some .int) hh_L_gains 6 := ⟨lw_Uin (i := 1562) (by decide +kernel) rfl, lw_Uin (i := 1563) (by decide +kernel) rfl, lw_Uin (i := 102) (by decide +kernel) rfl, lw_Uin (i := 1564) (rfl) rfl, ⟨by decide +kernel, by decide +kernel, by decide +kernel⟩⟩
set_option maxRecDepth 100000 in
theorem cd_X12_gains : Cond.code yX12_gains cX12_gains 5 (some .int) ∈ lw_U := lw_Uin (i := 2172) (rfl) rfl
theorem cw_L_341 : CVk "LastbusLaw" 341 yX12_gains cX12_gains 5 (some .int) 4 := ⟨lw_Uin (i := 2169) (by decide +kernel) rfl, lw_Uin (i := 2170) (by decide +kernel) rfl, lw_Uin (i := 2171) (by decide +kernel) rfl, lw_Uin (i := 115) (by decide +kernel) rfl, cd_X12_gains, ⟨by decide +kernel, by decide +kernel, by decide +kernel⟩⟩
set_option maxRecDepth 100000 in
theorem cwS_L_342 : CWk "LastbusLaw" 342 yL_loses cL_loses 7 (some .int) hh_L_loses 6 := ⟨lw_Uin (i := 1577) (by decide +kernel) rfl, lw_Uin (i := 1578) (by decide +kernel) rfl, lw_Uin (i := 102) (by decide +kernel) rfl, lw_Uin (i := 1579) (rfl) rfl, ⟨by decide +kernel, by decide +kernel, by decide +kernel⟩⟩
set_option maxRecDepth 100000 in
theorem cd_X12_loses : Cond.code yX12_loses cX12_loses 5 (some .int) ∈ lw_U := lw_Uin (i := 2180) (rfl) rfl
theorem cw_L_344 : CVk "LastbusLaw" 344 yX12_loses cX12_loses 5 (some .int) 4 := ⟨lw_Uin (i := 2177) (by decide +kernel) rfl, lw_Uin (i := 2178) (by decide +kernel) rfl, lw_Uin (i := 2179) (by decide +kernel) rfl, lw_Uin (i := 115) (by decide +kernel) rfl, cd_X12_loses, ⟨by decide +kernel, by decide +kernel, by decide +kernel⟩⟩
set_option maxRecDepth 100000 in
theorem cwS_L_345 : CWk "LastbusLaw" 345 yL_reachShare cL_reachShare 4 (some .int) hh_L_reachShare 3 := ⟨lw_Uin (i := 1584) (by decide +kernel) rfl, lw_Uin (i := 1585) (by decide +kernel) rfl, lw_Uin (i := 102) (by decide +kernel) rfl, lw_Uin (i := 1586) (rfl) rfl, ⟨by decide +kernel, by decide +kernel, by decide +kernel⟩⟩
set_option maxRecDepth 100000 in
theorem cd_X12_reachShare : Cond.code yX12_reachShare cX12_reachShare 5 (some .float) ∈ lw_U := lw_Uin (i := 2184) (rfl) rfl
theorem cw_L_348 : CVk "LastbusLaw" 348 yX12_reachShare cX12_reachShare 5 (some .float) 1 := ⟨lw_Uin (i := 2181) (by decide +kernel) rfl, lw_Uin (i := 2182) (by decide +kernel) rfl, lw_Uin (i := 2183) (by decide +kernel) rfl, lw_Uin (i := 115) (by decide +kernel) rfl, cd_X12_reachShare, ⟨by decide +kernel, by decide +kernel, by decide +kernel⟩⟩
set_option maxRecDepth 100000 in
theorem cwS_L_349 : CWk "LastbusLaw" 349 yL_meanBetween cL_meanBetween 3 (some .int) hh_L_meanBetween 2 := ⟨lw_Uin (i := 1608) (by decide +kernel) rfl, lw_Uin (i := 1609) (by decide +kernel) rfl, lw_Uin (i := 102) (by decide +kernel) rfl, lw_Uin (i := 1610) (rfl) rfl, ⟨by decide +kernel, by decide +kernel, by decide +kernel⟩⟩
set_option maxRecDepth 100000 in
theorem cd_X12_meanBetween : Cond.code yX12_meanBetween cX12_meanBetween 5 (some .double) ∈ lw_U := lw_Uin (i := 2188) (rfl) rfl
theorem cw_L_352 : CVk "LastbusLaw" 352 yX12_meanBetween cX12_meanBetween 5 (some .double) 0 := ⟨lw_Uin (i := 2185) (by decide +kernel) rfl, lw_Uin (i := 2186) (by decide +kernel) rfl, lw_Uin (i := 2187) (by decide +kernel) rfl, lw_Uin (i := 115) (by decide +kernel) rfl, cd_X12_meanBetween, ⟨by decide +kernel, by decide +kernel, by decide +kernel⟩⟩
set_option maxRecDepth 100000 in
theorem cd_X11_checksum : Cond.code yX11_checksum cX11_checksum 3 (some .long) ∈ lw_U := lw_Uin (i := 625) (rfl) rfl
theorem cw_L_353 : CVk "LastbusLaw" 353 yX11_checksum cX11_checksum 3 (some .long) 0 := ⟨lw_Uin (i := 622) (by decide +kernel) rfl, lw_Uin (i := 623) (by decide +kernel) rfl, lw_Uin (i := 624) (by decide +kernel) rfl, lw_Uin (i := 103) (by decide +kernel) rfl, cd_X11_checksum, ⟨by decide +kernel, by decide +kernel, by decide +kernel⟩⟩
set_option maxRecDepth 100000 in
theorem cd_X12_checksum : Cond.code yX12_checksum cX12_checksum 5 (some .long) ∈ lw_U := lw_Uin (i := 2192) (rfl) rfl
theorem cw_L_357 : CVk "LastbusLaw" 357 yX12_checksum cX12_checksum 5 (some .long) 0 := ⟨lw_Uin (i := 2189) (by decide +kernel) rfl, lw_Uin (i := 2190) (by decide +kernel) rfl, lw_Uin (i := 2191) (by decide +kernel) rfl, lw_Uin (i := 115) (by decide +kernel) rfl, cd_X12_checksum, ⟨by decide +kernel, by decide +kernel, by decide +kernel⟩⟩
set_option maxRecDepth 100000 in
theorem cwS_L_358 : CWk "LastbusLaw" 358 yL_isSound cL_isSound 4 (some .int) hh_L_isSound 3 := ⟨lw_Uin (i := 1616) (by decide +kernel) rfl, lw_Uin (i := 1617) (by decide +kernel) rfl, lw_Uin (i := 102) (by decide +kernel) rfl, lw_Uin (i := 1618) (rfl) rfl, ⟨by decide +kernel, by decide +kernel, by decide +kernel⟩⟩
set_option maxRecDepth 100000 in
theorem cd_X12_isSound : Cond.code yX12_isSound cX12_isSound 2 (some .boolean) ∈ lw_U := lw_Uin (i := 2198) (rfl) rfl
theorem cw_L_360 : CVk "LastbusLaw" 360 yX12_isSound cX12_isSound 2 (some .boolean) 1 := ⟨lw_Uin (i := 2195) (by decide +kernel) rfl, lw_Uin (i := 2196) (by decide +kernel) rfl, lw_Uin (i := 2197) (by decide +kernel) rfl, lw_Uin (i := 115) (by decide +kernel) rfl, cd_X12_isSound, ⟨by decide +kernel, by decide +kernel, by decide +kernel⟩⟩
theorem SHL_455 : SHL[455]? = some (.inl (12, [none, none, some 456, some 457, some 458, none, none, some 459, none, some 460, some 461, some 462, some 463, some 464, none, some 465, some 466, some 467, some 468, none, some 469, none, none, some 470, some 471, none, some 472, some 473, none, none, some 474, some 475, some 476, none, some 477, some 478, none, some 479, some 480, some 481, some 482, some 483, some 484, some 485, some 486, none, some 487, some 488, none, none])) := segM 0 _ SHM_0
