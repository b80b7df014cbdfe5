set_option maxRecDepth 200000 in
theorem w_1006 : Cond.code yX11_hearing cX11_hearing 6 (some .int) ∈ tb := tb_mem 1006 (by rfl) rfl
set_option maxRecDepth 200000 in
theorem w_1004 : Cond.instanceMethod yX11_hearing ∈ tb := tb_mem 1004 (by decide +kernel) rfl
set_option maxRecDepth 200000 in
theorem w_1005 : Cond.selects "CityRoad" yX11_hearing yX11_hearing ∈ tb := tb_mem 1005 (by decide +kernel) rfl
set_option maxRecDepth 200000 in
theorem w_1003 : Cond.methodLink "CityRoadLaw" 123 yX11_hearing ∈ tb := tb_mem 1003 (by decide +kernel) rfl
set_option maxRecDepth 200000 in
theorem w_1956 : Cond.code yX12_hearing cX12_hearing 6 (some .int) ∈ tb := tb_mem 1956 (by rfl) rfl
set_option maxRecDepth 200000 in
theorem w_1954 : Cond.instanceMethod yX12_hearing ∈ tb := tb_mem 1954 (by decide +kernel) rfl
set_option maxRecDepth 200000 in
theorem w_1955 : Cond.selects "CityRoadModel" yX12_hearing yX12_hearing ∈ tb := tb_mem 1955 (by decide +kernel) rfl
set_option maxRecDepth 200000 in
theorem w_1953 : Cond.methodLink "CityRoadLaw" 126 yX12_hearing ∈ tb := tb_mem 1953 (by decide +kernel) rfl
set_option maxRecDepth 200000 in
theorem w_1014 : Cond.code yX11_told cX11_told 3 (some .int) ∈ tb := tb_mem 1014 (by rfl) rfl
set_option maxRecDepth 200000 in
theorem w_1012 : Cond.instanceMethod yX11_told ∈ tb := tb_mem 1012 (by decide +kernel) rfl
set_option maxRecDepth 200000 in
theorem w_1013 : Cond.selects "CityRoad" yX11_told yX11_told ∈ tb := tb_mem 1013 (by decide +kernel) rfl
set_option maxRecDepth 200000 in
theorem w_1011 : Cond.methodLink "CityRoadLaw" 127 yX11_told ∈ tb := tb_mem 1011 (by decide +kernel) rfl
set_option maxRecDepth 200000 in
theorem w_1960 : Cond.code yX12_told cX12_told 3 (some .int) ∈ tb := tb_mem 1960 (by rfl) rfl
set_option maxRecDepth 200000 in
theorem w_1958 : Cond.instanceMethod yX12_told ∈ tb := tb_mem 1958 (by decide +kernel) rfl
set_option maxRecDepth 200000 in
theorem w_1959 : Cond.selects "CityRoadModel" yX12_told yX12_told ∈ tb := tb_mem 1959 (by decide +kernel) rfl
set_option maxRecDepth 200000 in
theorem w_1957 : Cond.methodLink "CityRoadLaw" 130 yX12_told ∈ tb := tb_mem 1957 (by decide +kernel) rfl
set_option maxRecDepth 200000 in
theorem w_1022 : Cond.code yX11_mark cX11_mark 3 (some .int) ∈ tb := tb_mem 1022 (by rfl) rfl
set_option maxRecDepth 200000 in
theorem w_1020 : Cond.instanceMethod yX11_mark ∈ tb := tb_mem 1020 (by decide +kernel) rfl
set_option maxRecDepth 200000 in
theorem w_1021 : Cond.selects "CityRoad" yX11_mark yX11_mark ∈ tb := tb_mem 1021 (by decide +kernel) rfl
set_option maxRecDepth 200000 in
theorem w_1019 : Cond.methodLink "CityRoadLaw" 131 yX11_mark ∈ tb := tb_mem 1019 (by decide +kernel) rfl
set_option maxRecDepth 200000 in
theorem w_1968 : Cond.code yX12_mark cX12_mark 4 (some .int) ∈ tb := tb_mem 1968 (by rfl) rfl
set_option maxRecDepth 200000 in
theorem w_1966 : Cond.instanceMethod yX12_mark ∈ tb := tb_mem 1966 (by decide +kernel) rfl
set_option maxRecDepth 200000 in
theorem w_1967 : Cond.selects "CityRoadModel" yX12_mark yX12_mark ∈ tb := tb_mem 1967 (by decide +kernel) rfl
set_option maxRecDepth 200000 in
theorem w_1965 : Cond.methodLink "CityRoadLaw" 134 yX12_mark ∈ tb := tb_mem 1965 (by decide +kernel) rfl
set_option maxRecDepth 200000 in
theorem w_1053 : Cond.code yX11_cost cX11_cost 2 (some .int) ∈ tb := tb_mem 1053 (by rfl) rfl
set_option maxRecDepth 200000 in
theorem w_1051 : Cond.instanceMethod yX11_cost ∈ tb := tb_mem 1051 (by decide +kernel) rfl
set_option maxRecDepth 200000 in
theorem w_1052 : Cond.selects "CityRoad" yX11_cost yX11_cost ∈ tb := tb_mem 1052 (by decide +kernel) rfl
set_option maxRecDepth 200000 in
theorem w_1050 : Cond.methodLink "CityRoadLaw" 135 yX11_cost ∈ tb := tb_mem 1050 (by decide +kernel) rfl
set_option maxRecDepth 200000 in
theorem w_1976 : Cond.code yX12_cost cX12_cost 3 (some .int) ∈ tb := tb_mem 1976 (by rfl) rfl
set_option maxRecDepth 200000 in
theorem w_1974 : Cond.instanceMethod yX12_cost ∈ tb := tb_mem 1974 (by decide +kernel) rfl
set_option maxRecDepth 200000 in
theorem w_1975 : Cond.selects "CityRoadModel" yX12_cost yX12_cost ∈ tb := tb_mem 1975 (by decide +kernel) rfl
set_option maxRecDepth 200000 in
theorem w_1973 : Cond.methodLink "CityRoadLaw" 138 yX12_cost ∈ tb := tb_mem 1973 (by decide +kernel) rfl
set_option maxRecDepth 200000 in
theorem w_1061 : Cond.code yX11_shown cX11_shown 2 (some .int) ∈ tb := tb_mem 1061 (by rfl) rfl
set_option maxRecDepth 200000 in
theorem w_1059 : Cond.instanceMethod yX11_shown ∈ tb := tb_mem 1059 (by decide +kernel) rfl
set_option maxRecDepth 200000 in
theorem w_1060 : Cond.selects "CityRoad" yX11_shown yX11_shown ∈ tb := tb_mem 1060 (by decide +kernel) rfl
set_option maxRecDepth 200000 in
theorem w_1058 : Cond.methodLink "CityRoadLaw" 139 yX11_shown ∈ tb := tb_mem 1058 (by decide +kernel) rfl
set_option maxRecDepth 200000 in
theorem w_1980 : Cond.code yX12_shown cX12_shown 3 (some .int) ∈ tb := tb_mem 1980 (by rfl) rfl
set_option maxRecDepth 200000 in
theorem w_1978 : Cond.instanceMethod yX12_shown ∈ tb := tb_mem 1978 (by decide +kernel) rfl
set_option maxRecDepth 200000 in
theorem w_1979 : Cond.selects "CityRoadModel" yX12_shown yX12_shown ∈ tb := tb_mem 1979 (by decide +kernel) rfl
set_option maxRecDepth 200000 in
theorem w_1977 : Cond.methodLink "CityRoadLaw" 142 yX12_shown ∈ tb := tb_mem 1977 (by decide +kernel) rfl
set_option maxRecDepth 200000 in
theorem w_1065 : Cond.code yX11_over cX11_over 2 (some .int) ∈ tb := tb_mem 1065 (by rfl) rfl
set_option maxRecDepth 200000 in
theorem w_1063 : Cond.instanceMethod yX11_over ∈ tb := tb_mem 1063 (by decide +kernel) rfl
set_option maxRecDepth 200000 in
theorem w_1064 : Cond.selects "CityRoad" yX11_over yX11_over ∈ tb := tb_mem 1064 (by decide +kernel) rfl
set_option maxRecDepth 200000 in
theorem w_1062 : Cond.methodLink "CityRoadLaw" 143 yX11_over ∈ tb := tb_mem 1062 (by decide +kernel) rfl
set_option maxRecDepth 200000 in
theorem w_1984 : Cond.code yX12_over cX12_over 3 (some .int) ∈ tb := tb_mem 1984 (by rfl) rfl
set_option maxRecDepth 200000 in
theorem w_1982 : Cond.instanceMethod yX12_over ∈ tb := tb_mem 1982 (by decide +kernel) rfl
set_option maxRecDepth 200000 in
theorem w_1983 : Cond.selects "CityRoadModel" yX12_over yX12_over ∈ tb := tb_mem 1983 (by decide +kernel) rfl
set_option maxRecDepth 200000 in
theorem w_1981 : Cond.methodLink "CityRoadLaw" 146 yX12_over ∈ tb := tb_mem 1981 (by decide +kernel) rfl
set_option maxRecDepth 200000 in
theorem w_1069 : Cond.code yX11_buy cX11_buy 3 (some .int) ∈ tb := tb_mem 1069 (by rfl) rfl
set_option maxRecDepth 200000 in
theorem w_1067 : Cond.instanceMethod yX11_buy ∈ tb := tb_mem 1067 (by decide +kernel) rfl
set_option maxRecDepth 200000 in
theorem w_1068 : Cond.selects "CityRoad" yX11_buy yX11_buy ∈ tb := tb_mem 1068 (by decide +kernel) rfl
set_option maxRecDepth 200000 in
theorem w_1066 : Cond.methodLink "CityRoadLaw" 147 yX11_buy ∈ tb := tb_mem 1066 (by decide +kernel) rfl
set_option maxRecDepth 200000 in
theorem w_1988 : Cond.code yX12_buy cX12_buy 3 (some .int) ∈ tb := tb_mem 1988 (by rfl) rfl
set_option maxRecDepth 200000 in
theorem w_1986 : Cond.instanceMethod yX12_buy ∈ tb := tb_mem 1986 (by decide +kernel) rfl
set_option maxRecDepth 200000 in
theorem w_1987 : Cond.selects "CityRoadModel" yX12_buy yX12_buy ∈ tb := tb_mem 1987 (by decide +kernel) rfl
set_option maxRecDepth 200000 in
theorem w_1985 : Cond.methodLink "CityRoadLaw" 150 yX12_buy ∈ tb := tb_mem 1985 (by decide +kernel) rfl
set_option maxRecDepth 200000 in
theorem w_1085 : Cond.code yX11_hear cX11_hear 4 (some .int) ∈ tb := tb_mem 1085 (by rfl) rfl
set_option maxRecDepth 200000 in
theorem w_1083 : Cond.instanceMethod yX11_hear ∈ tb := tb_mem 1083 (by decide +kernel) rfl
set_option maxRecDepth 200000 in
theorem w_1084 : Cond.selects "CityRoad" yX11_hear yX11_hear ∈ tb := tb_mem 1084 (by decide +kernel) rfl
set_option maxRecDepth 200000 in
theorem w_1082 : Cond.methodLink "CityRoadLaw" 151 yX11_hear ∈ tb := tb_mem 1082 (by decide +kernel) rfl
set_option maxRecDepth 200000 in
theorem w_1992 : Cond.code yX12_hear cX12_hear 4 (some .int) ∈ tb := tb_mem 1992 (by rfl) rfl
set_option maxRecDepth 200000 in
theorem w_1990 : Cond.instanceMethod yX12_hear ∈ tb := tb_mem 1990 (by decide +kernel) rfl
set_option maxRecDepth 200000 in
theorem w_1991 : Cond.selects "CityRoadModel" yX12_hear yX12_hear ∈ tb := tb_mem 1991 (by decide +kernel) rfl
set_option maxRecDepth 200000 in
theorem w_1989 : Cond.methodLink "CityRoadLaw" 154 yX12_hear ∈ tb := tb_mem 1989 (by decide +kernel) rfl
set_option maxRecDepth 200000 in
theorem w_1101 : Cond.code yX11_early cX11_early 5 (some .int) ∈ tb := tb_mem 1101 (by rfl) rfl
set_option maxRecDepth 200000 in
theorem w_1099 : Cond.instanceMethod yX11_early ∈ tb := tb_mem 1099 (by decide +kernel) rfl
set_option maxRecDepth 200000 in
theorem w_1100 : Cond.selects "CityRoad" yX11_early yX11_early ∈ tb := tb_mem 1100 (by decide +kernel) rfl
set_option maxRecDepth 200000 in
theorem w_1098 : Cond.methodLink "CityRoadLaw" 155 yX11_early ∈ tb := tb_mem 1098 (by decide +kernel) rfl
set_option maxRecDepth 200000 in
theorem w_2000 : Cond.code yX12_early cX12_early 9 (some .int) ∈ tb := tb_mem 2000 (by rfl) rfl
set_option maxRecDepth 200000 in
theorem w_1998 : Cond.instanceMethod yX12_early ∈ tb := tb_mem 1998 (by decide +kernel) rfl
set_option maxRecDepth 200000 in
theorem w_1999 : Cond.selects "CityRoadModel" yX12_early yX12_early ∈ tb := tb_mem 1999 (by decide +kernel) rfl
set_option maxRecDepth 200000 in
theorem w_1997 : Cond.methodLink "CityRoadLaw" 158 yX12_early ∈ tb := tb_mem 1997 (by decide +kernel) rfl
set_option maxRecDepth 200000 in
theorem w_1130 : Cond.code yX11_whither cX11_whither 2 (some .int) ∈ tb := tb_mem 1130 (by rfl) rfl
set_option maxRecDepth 200000 in
theorem w_1128 : Cond.instanceMethod yX11_whither ∈ tb := tb_mem 1128 (by decide +kernel) rfl
set_option maxRecDepth 200000 in
theorem w_1129 : Cond.selects "CityRoad" yX11_whither yX11_whither ∈ tb := tb_mem 1129 (by decide +kernel) rfl
set_option maxRecDepth 200000 in
theorem w_1127 : Cond.methodLink "CityRoadLaw" 159 yX11_whither ∈ tb := tb_mem 1127 (by decide +kernel) rfl
set_option maxRecDepth 200000 in
theorem w_2008 : Cond.code yX12_whither cX12_whither 10 (some .int) ∈ tb := tb_mem 2008 (by rfl) rfl
set_option maxRecDepth 200000 in
theorem w_2006 : Cond.instanceMethod yX12_whither ∈ tb := tb_mem 2006 (by decide +kernel) rfl
set_option maxRecDepth 200000 in
theorem w_2007 : Cond.selects "CityRoadModel" yX12_whither yX12_whither ∈ tb := tb_mem 2007 (by decide +kernel) rfl
set_option maxRecDepth 200000 in
theorem w_2005 : Cond.methodLink "CityRoadLaw" 162 yX12_whither ∈ tb := tb_mem 2005 (by decide +kernel) rfl
set_option maxRecDepth 200000 in
theorem w_1174 : Cond.code yX11_fall cX11_fall 13 (some .int) ∈ tb := tb_mem 1174 (by rfl) rfl
set_option maxRecDepth 200000 in
theorem w_1172 : Cond.instanceMethod yX11_fall ∈ tb := tb_mem 1172 (by decide +kernel) rfl
set_option maxRecDepth 200000 in
theorem w_1173 : Cond.selects "CityRoad" yX11_fall yX11_fall ∈ tb := tb_mem 1173 (by decide +kernel) rfl
set_option maxRecDepth 200000 in
theorem w_1171 : Cond.methodLink "CityRoadLaw" 163 yX11_fall ∈ tb := tb_mem 1171 (by decide +kernel) rfl
set_option maxRecDepth 200000 in
theorem w_2024 : Cond.code yX12_fall cX12_fall 16 (some .int) ∈ tb := tb_mem 2024 (by rfl) rfl
set_option maxRecDepth 200000 in
theorem w_2022 : Cond.instanceMethod yX12_fall ∈ tb := tb_mem 2022 (by decide +kernel) rfl
set_option maxRecDepth 200000 in
theorem w_2023 : Cond.selects "CityRoadModel" yX12_fall yX12_fall ∈ tb := tb_mem 2023 (by decide +kernel) rfl
set_option maxRecDepth 200000 in
theorem w_2021 : Cond.methodLink "CityRoadLaw" 166 yX12_fall ∈ tb := tb_mem 2021 (by decide +kernel) rfl
set_option maxRecDepth 200000 in
theorem w_1204 : Cond.code yX11_noise cX11_noise 5 (some .int) ∈ tb := tb_mem 1204 (by rfl) rfl
set_option maxRecDepth 200000 in
theorem w_1202 : Cond.instanceMethod yX11_noise ∈ tb := tb_mem 1202 (by decide +kernel) rfl
set_option maxRecDepth 200000 in
theorem w_1203 : Cond.selects "CityRoad" yX11_noise yX11_noise ∈ tb := tb_mem 1203 (by decide +kernel) rfl
set_option maxRecDepth 200000 in
theorem w_1201 : Cond.methodLink "CityRoadLaw" 167 yX11_noise ∈ tb := tb_mem 1201 (by decide +kernel) rfl
set_option maxRecDepth 200000 in
theorem w_2033 : Cond.code yX12_noise cX12_noise 3 (some .int) ∈ tb := tb_mem 2033 (by rfl) rfl
set_option maxRecDepth 200000 in
theorem w_2031 : Cond.instanceMethod yX12_noise ∈ tb := tb_mem 2031 (by decide +kernel) rfl
set_option maxRecDepth 200000 in
theorem w_2032 : Cond.selects "CityRoadModel" yX12_noise yX12_noise ∈ tb := tb_mem 2032 (by decide +kernel) rfl
set_option maxRecDepth 200000 in
theorem w_2030 : Cond.methodLink "CityRoadLaw" 170 yX12_noise ∈ tb := tb_mem 2030 (by decide +kernel) rfl
set_option maxRecDepth 200000 in
theorem w_1220 : Cond.code yX11_park cX11_park 3 (some .int) ∈ tb := tb_mem 1220 (by rfl) rfl
set_option maxRecDepth 200000 in
theorem w_1218 : Cond.instanceMethod yX11_park ∈ tb := tb_mem 1218 (by decide +kernel) rfl
set_option maxRecDepth 200000 in
theorem w_1219 : Cond.selects "CityRoad" yX11_park yX11_park ∈ tb := tb_mem 1219 (by decide +kernel) rfl
set_option maxRecDepth 200000 in
theorem w_1217 : Cond.methodLink "CityRoadLaw" 171 yX11_park ∈ tb := tb_mem 1217 (by decide +kernel) rfl
set_option maxRecDepth 200000 in
theorem w_2045 : Cond.code yX12_park cX12_park 3 (some .int) ∈ tb := tb_mem 2045 (by rfl) rfl
set_option maxRecDepth 200000 in
theorem w_2043 : Cond.instanceMethod yX12_park ∈ tb := tb_mem 2043 (by decide +kernel) rfl
set_option maxRecDepth 200000 in
theorem w_2044 : Cond.selects "CityRoadModel" yX12_park yX12_park ∈ tb := tb_mem 2044 (by decide +kernel) rfl
set_option maxRecDepth 200000 in
theorem w_2042 : Cond.methodLink "CityRoadLaw" 174 yX12_park ∈ tb := tb_mem 2042 (by decide +kernel) rfl
set_option maxRecDepth 200000 in
theorem w_1229 : Cond.code yX11_isVoid cX11_isVoid 3 (some .int) ∈ tb := tb_mem 1229 (by rfl) rfl
set_option maxRecDepth 200000 in
theorem w_1227 : Cond.instanceMethod yX11_isVoid ∈ tb := tb_mem 1227 (by decide +kernel) rfl
set_option maxRecDepth 200000 in
theorem w_1228 : Cond.selects "CityRoad" yX11_isVoid yX11_isVoid ∈ tb := tb_mem 1228 (by decide +kernel) rfl
set_option maxRecDepth 200000 in
theorem w_1226 : Cond.methodLink "CityRoadLaw" 175 yX11_isVoid ∈ tb := tb_mem 1226 (by decide +kernel) rfl
set_option maxRecDepth 200000 in
theorem w_2053 : Cond.code yX12_isVoid cX12_isVoid 2 (some .int) ∈ tb := tb_mem 2053 (by rfl) rfl
set_option maxRecDepth 200000 in
theorem w_2051 : Cond.instanceMethod yX12_isVoid ∈ tb := tb_mem 2051 (by decide +kernel) rfl
set_option maxRecDepth 200000 in
theorem w_2052 : Cond.selects "CityRoadModel" yX12_isVoid yX12_isVoid ∈ tb := tb_mem 2052 (by decide +kernel) rfl
set_option maxRecDepth 200000 in
theorem w_2050 : Cond.methodLink "CityRoadLaw" 178 yX12_isVoid ∈ tb := tb_mem 2050 (by decide +kernel) rfl
set_option maxRecDepth 200000 in
theorem w_1253 : Cond.code yX11_owed cX11_owed 5 (some .int) ∈ tb := tb_mem 1253 (by rfl) rfl
set_option maxRecDepth 200000 in
theorem w_1251 : Cond.instanceMethod yX11_owed ∈ tb := tb_mem 1251 (by decide +kernel) rfl
set_option maxRecDepth 200000 in
theorem w_1252 : Cond.selects "CityRoad" yX11_owed yX11_owed ∈ tb := tb_mem 1252 (by decide +kernel) rfl
set_option maxRecDepth 200000 in
theorem w_1250 : Cond.methodLink "CityRoadLaw" 179 yX11_owed ∈ tb := tb_mem 1250 (by decide +kernel) rfl
set_option maxRecDepth 200000 in
theorem w_2065 : Cond.code yX12_owed cX12_owed 3 (some .int) ∈ tb := tb_mem 2065 (by rfl) rfl
set_option maxRecDepth 200000 in
theorem w_2063 : Cond.instanceMethod yX12_owed ∈ tb := tb_mem 2063 (by decide +kernel) rfl
set_option maxRecDepth 200000 in
theorem w_2064 : Cond.selects "CityRoadModel" yX12_owed yX12_owed ∈ tb := tb_mem 2064 (by decide +kernel) rfl
set_option maxRecDepth 200000 in
theorem w_2062 : Cond.methodLink "CityRoadLaw" 183 yX12_owed ∈ tb := tb_mem 2062 (by decide +kernel) rfl
set_option maxRecDepth 200000 in
theorem w_1257 : Cond.code yX11_coins cX11_coins 1 (some .long) ∈ tb := tb_mem 1257 (by rfl) rfl
set_option maxRecDepth 200000 in
theorem w_1255 : Cond.instanceMethod yX11_coins ∈ tb := tb_mem 1255 (by decide +kernel) rfl
set_option maxRecDepth 200000 in
theorem w_1256 : Cond.selects "CityRoad" yX11_coins yX11_coins ∈ tb := tb_mem 1256 (by decide +kernel) rfl
set_option maxRecDepth 200000 in
theorem w_1254 : Cond.methodLink "CityRoadLaw" 184 yX11_coins ∈ tb := tb_mem 1254 (by decide +kernel) rfl
set_option maxRecDepth 200000 in
theorem w_2069 : Cond.code yX12_coins cX12_coins 1 (some .long) ∈ tb := tb_mem 2069 (by rfl) rfl
set_option maxRecDepth 200000 in
theorem w_2067 : Cond.instanceMethod yX12_coins ∈ tb := tb_mem 2067 (by decide +kernel) rfl
set_option maxRecDepth 200000 in
theorem w_2068 : Cond.selects "CityRoadModel" yX12_coins yX12_coins ∈ tb := tb_mem 2068 (by decide +kernel) rfl
set_option maxRecDepth 200000 in
theorem w_2066 : Cond.methodLink "CityRoadLaw" 188 yX12_coins ∈ tb := tb_mem 2066 (by decide +kernel) rfl
set_option maxRecDepth 200000 in
theorem w_1261 : Cond.code yX11_acts cX11_acts 3 (some .int) ∈ tb := tb_mem 1261 (by rfl) rfl
set_option maxRecDepth 200000 in
theorem w_1259 : Cond.instanceMethod yX11_acts ∈ tb := tb_mem 1259 (by decide +kernel) rfl
set_option maxRecDepth 200000 in
theorem w_1260 : Cond.selects "CityRoad" yX11_acts yX11_acts ∈ tb := tb_mem 1260 (by decide +kernel) rfl
set_option maxRecDepth 200000 in
theorem w_1258 : Cond.methodLink "CityRoadLaw" 189 yX11_acts ∈ tb := tb_mem 1258 (by decide +kernel) rfl
set_option maxRecDepth 200000 in
theorem w_2073 : Cond.code yX12_acts cX12_acts 12 (some .int) ∈ tb := tb_mem 2073 (by rfl) rfl
set_option maxRecDepth 200000 in
theorem w_2071 : Cond.instanceMethod yX12_acts ∈ tb := tb_mem 2071 (by decide +kernel) rfl
set_option maxRecDepth 200000 in
theorem w_2072 : Cond.selects "CityRoadModel" yX12_acts yX12_acts ∈ tb := tb_mem 2072 (by decide +kernel) rfl
set_option maxRecDepth 200000 in
theorem w_2070 : Cond.methodLink "CityRoadLaw" 192 yX12_acts ∈ tb := tb_mem 2070 (by decide +kernel) rfl
set_option maxRecDepth 200000 in
theorem w_1301 : Cond.code yX11_act cX11_act 2 (some .int) ∈ tb := tb_mem 1301 (by rfl) rfl
set_option maxRecDepth 200000 in
theorem w_1299 : Cond.instanceMethod yX11_act ∈ tb := tb_mem 1299 (by decide +kernel) rfl
set_option maxRecDepth 200000 in
theorem w_1300 : Cond.selects "CityRoad" yX11_act yX11_act ∈ tb := tb_mem 1300 (by decide +kernel) rfl
set_option maxRecDepth 200000 in
theorem w_1298 : Cond.methodLink "CityRoadLaw" 193 yX11_act ∈ tb := tb_mem 1298 (by decide +kernel) rfl
set_option maxRecDepth 200000 in
theorem w_2081 : Cond.code yX12_act cX12_act 2 (some .int) ∈ tb := tb_mem 2081 (by rfl) rfl
set_option maxRecDepth 200000 in
theorem w_2079 : Cond.instanceMethod yX12_act ∈ tb := tb_mem 2079 (by decide +kernel) rfl
set_option maxRecDepth 200000 in
theorem w_2080 : Cond.selects "CityRoadModel" yX12_act yX12_act ∈ tb := tb_mem 2080 (by decide +kernel) rfl
set_option maxRecDepth 200000 in
theorem w_2078 : Cond.methodLink "CityRoadLaw" 196 yX12_act ∈ tb := tb_mem 2078 (by decide +kernel) rfl
set_option maxRecDepth 200000 in
theorem w_1317 : Cond.code yX11_grants cX11_grants 5 (some .int) ∈ tb := tb_mem 1317 (by rfl) rfl
set_option maxRecDepth 200000 in
theorem w_1315 : Cond.instanceMethod yX11_grants ∈ tb := tb_mem 1315 (by decide +kernel) rfl
set_option maxRecDepth 200000 in
theorem w_1316 : Cond.selects "CityRoad" yX11_grants yX11_grants ∈ tb := tb_mem 1316 (by decide +kernel) rfl
set_option maxRecDepth 200000 in
theorem w_1314 : Cond.methodLink "CityRoadLaw" 197 yX11_grants ∈ tb := tb_mem 1314 (by decide +kernel) rfl
set_option maxRecDepth 200000 in
theorem w_2085 : Cond.code yX12_grants cX12_grants 4 (some .int) ∈ tb := tb_mem 2085 (by rfl) rfl
set_option maxRecDepth 200000 in
theorem w_2083 : Cond.instanceMethod yX12_grants ∈ tb := tb_mem 2083 (by decide +kernel) rfl
set_option maxRecDepth 200000 in
theorem w_2084 : Cond.selects "CityRoadModel" yX12_grants yX12_grants ∈ tb := tb_mem 2084 (by decide +kernel) rfl
set_option maxRecDepth 200000 in
theorem w_2082 : Cond.methodLink "CityRoadLaw" 200 yX12_grants ∈ tb := tb_mem 2082 (by decide +kernel) rfl
set_option maxRecDepth 200000 in
theorem w_1322 : Cond.code yX11_stop cX11_stop 5 (some .int) ∈ tb := tb_mem 1322 (by rfl) rfl
set_option maxRecDepth 200000 in
theorem w_1320 : Cond.instanceMethod yX11_stop ∈ tb := tb_mem 1320 (by decide +kernel) rfl
set_option maxRecDepth 200000 in
theorem w_1321 : Cond.selects "CityRoad" yX11_stop yX11_stop ∈ tb := tb_mem 1321 (by decide +kernel) rfl
set_option maxRecDepth 200000 in
theorem w_1319 : Cond.methodLink "CityRoadLaw" 201 yX11_stop ∈ tb := tb_mem 1319 (by decide +kernel) rfl
set_option maxRecDepth 200000 in
theorem w_2090 : Cond.code yX12_stop cX12_stop 7 (some .int) ∈ tb := tb_mem 2090 (by rfl) rfl
set_option maxRecDepth 200000 in
theorem w_2088 : Cond.instanceMethod yX12_stop ∈ tb := tb_mem 2088 (by decide +kernel) rfl
set_option maxRecDepth 200000 in
theorem w_2089 : Cond.selects "CityRoadModel" yX12_stop yX12_stop ∈ tb := tb_mem 2089 (by decide +kernel) rfl
set_option maxRecDepth 200000 in
theorem w_2087 : Cond.methodLink "CityRoadLaw" 204 yX12_stop ∈ tb := tb_mem 2087 (by decide +kernel) rfl
set_option maxRecDepth 200000 in
theorem w_1372 : Cond.code yX11_judge cX11_judge 5 (some .int) ∈ tb := tb_mem 1372 (by rfl) rfl
set_option maxRecDepth 200000 in
theorem w_1370 : Cond.instanceMethod yX11_judge ∈ tb := tb_mem 1370 (by decide +kernel) rfl
set_option maxRecDepth 200000 in
theorem w_1371 : Cond.selects "CityRoad" yX11_judge yX11_judge ∈ tb := tb_mem 1371 (by decide +kernel) rfl
set_option maxRecDepth 200000 in
theorem w_1369 : Cond.methodLink "CityRoadLaw" 205 yX11_judge ∈ tb := tb_mem 1369 (by decide +kernel) rfl
set_option maxRecDepth 200000 in
theorem w_2109 : Cond.code yX12_judge cX12_judge 5 (some .int) ∈ tb := tb_mem 2109 (by rfl) rfl
set_option maxRecDepth 200000 in
theorem w_2107 : Cond.instanceMethod yX12_judge ∈ tb := tb_mem 2107 (by decide +kernel) rfl
set_option maxRecDepth 200000 in
theorem w_2108 : Cond.selects "CityRoadModel" yX12_judge yX12_judge ∈ tb := tb_mem 2108 (by decide +kernel) rfl
set_option maxRecDepth 200000 in
theorem w_2106 : Cond.methodLink "CityRoadLaw" 208 yX12_judge ∈ tb := tb_mem 2106 (by decide +kernel) rfl
set_option maxRecDepth 200000 in
theorem w_1384 : Cond.code yX11_best cX11_best 8 (some .int) ∈ tb := tb_mem 1384 (by rfl) rfl
set_option maxRecDepth 200000 in
theorem w_1382 : Cond.instanceMethod yX11_best ∈ tb := tb_mem 1382 (by decide +kernel) rfl
set_option maxRecDepth 200000 in
theorem w_1383 : Cond.selects "CityRoad" yX11_best yX11_best ∈ tb := tb_mem 1383 (by decide +kernel) rfl
set_option maxRecDepth 200000 in
theorem w_1381 : Cond.methodLink "CityRoadLaw" 209 yX11_best ∈ tb := tb_mem 1381 (by decide +kernel) rfl
set_option maxRecDepth 200000 in
theorem w_2121 : Cond.code yX12_best cX12_best 8 (some .int) ∈ tb := tb_mem 2121 (by rfl) rfl
set_option maxRecDepth 200000 in
theorem w_2119 : Cond.instanceMethod yX12_best ∈ tb := tb_mem 2119 (by decide +kernel) rfl
set_option maxRecDepth 200000 in
theorem w_2120 : Cond.selects "CityRoadModel" yX12_best yX12_best ∈ tb := tb_mem 2120 (by decide +kernel) rfl
set_option maxRecDepth 200000 in
theorem w_2118 : Cond.methodLink "CityRoadLaw" 212 yX12_best ∈ tb := tb_mem 2118 (by decide +kernel) rfl
set_option maxRecDepth 200000 in
theorem w_1388 : Cond.code yX11_asked cX11_asked 1 (some .int) ∈ tb := tb_mem 1388 (by rfl) rfl
set_option maxRecDepth 200000 in
theorem w_1386 : Cond.instanceMethod yX11_asked ∈ tb := tb_mem 1386 (by decide +kernel) rfl
set_option maxRecDepth 200000 in
theorem w_1387 : Cond.selects "CityRoad" yX11_asked yX11_asked ∈ tb := tb_mem 1387 (by decide +kernel) rfl
set_option maxRecDepth 200000 in
theorem w_1385 : Cond.methodLink "CityRoadLaw" 213 yX11_asked ∈ tb := tb_mem 1385 (by decide +kernel) rfl
set_option maxRecDepth 200000 in
theorem w_2125 : Cond.code yX12_asked cX12_asked 1 (some .int) ∈ tb := tb_mem 2125 (by rfl) rfl
set_option maxRecDepth 200000 in
theorem w_2123 : Cond.instanceMethod yX12_asked ∈ tb := tb_mem 2123 (by decide +kernel) rfl
set_option maxRecDepth 200000 in
theorem w_2124 : Cond.selects "CityRoadModel" yX12_asked yX12_asked ∈ tb := tb_mem 2124 (by decide +kernel) rfl
set_option maxRecDepth 200000 in
theorem w_2122 : Cond.methodLink "CityRoadLaw" 216 yX12_asked ∈ tb := tb_mem 2122 (by decide +kernel) rfl
set_option maxRecDepth 200000 in
theorem w_1392 : Cond.code yX11_set cX11_set 1 (some .long) ∈ tb := tb_mem 1392 (by rfl) rfl
set_option maxRecDepth 200000 in
theorem w_1390 : Cond.instanceMethod yX11_set ∈ tb := tb_mem 1390 (by decide +kernel) rfl
set_option maxRecDepth 200000 in
theorem w_1391 : Cond.selects "CityRoad" yX11_set yX11_set ∈ tb := tb_mem 1391 (by decide +kernel) rfl
set_option maxRecDepth 200000 in
theorem w_1389 : Cond.methodLink "CityRoadLaw" 217 yX11_set ∈ tb := tb_mem 1389 (by decide +kernel) rfl
set_option maxRecDepth 200000 in
theorem w_2129 : Cond.code yX12_set cX12_set 1 (some .long) ∈ tb := tb_mem 2129 (by rfl) rfl
set_option maxRecDepth 200000 in
theorem w_2127 : Cond.instanceMethod yX12_set ∈ tb := tb_mem 2127 (by decide +kernel) rfl
set_option maxRecDepth 200000 in
theorem w_2128 : Cond.selects "CityRoadModel" yX12_set yX12_set ∈ tb := tb_mem 2128 (by decide +kernel) rfl
set_option maxRecDepth 200000 in
theorem w_2126 : Cond.methodLink "CityRoadLaw" 220 yX12_set ∈ tb := tb_mem 2126 (by decide +kernel) rfl
set_option maxRecDepth 200000 in
theorem w_1393 : Cond.methodLink "CityRoadLaw" 221 yX11_count ∈ tb := tb_mem 1393 (by decide +kernel) rfl
set_option maxRecDepth 200000 in
theorem w_2133 : Cond.code yX12_count cX12_count 2 (some .int) ∈ tb := tb_mem 2133 (by rfl) rfl
set_option maxRecDepth 200000 in
theorem w_2131 : Cond.instanceMethod yX12_count ∈ tb := tb_mem 2131 (by decide +kernel) rfl
set_option maxRecDepth 200000 in
theorem w_2132 : Cond.selects "CityRoadModel" yX12_count yX12_count ∈ tb := tb_mem 2132 (by decide +kernel) rfl
set_option maxRecDepth 200000 in
theorem w_2130 : Cond.methodLink "CityRoadLaw" 224 yX12_count ∈ tb := tb_mem 2130 (by decide +kernel) rfl
set_option maxRecDepth 200000 in
theorem w_1413 : Cond.code yX11_finding cX11_finding 1 (some .int) ∈ tb := tb_mem 1413 (by rfl) rfl
set_option maxRecDepth 200000 in
theorem w_1411 : Cond.instanceMethod yX11_finding ∈ tb := tb_mem 1411 (by decide +kernel) rfl
set_option maxRecDepth 200000 in
theorem w_1412 : Cond.selects "CityRoad" yX11_finding yX11_finding ∈ tb := tb_mem 1412 (by decide +kernel) rfl
set_option maxRecDepth 200000 in
theorem w_1410 : Cond.methodLink "CityRoadLaw" 225 yX11_finding ∈ tb := tb_mem 1410 (by decide +kernel) rfl
set_option maxRecDepth 200000 in
theorem w_2141 : Cond.code yX12_finding cX12_finding 1 (some .int) ∈ tb := tb_mem 2141 (by rfl) rfl
set_option maxRecDepth 200000 in
theorem w_2139 : Cond.instanceMethod yX12_finding ∈ tb := tb_mem 2139 (by decide +kernel) rfl
set_option maxRecDepth 200000 in
theorem w_2140 : Cond.selects "CityRoadModel" yX12_finding yX12_finding ∈ tb := tb_mem 2140 (by decide +kernel) rfl
set_option maxRecDepth 200000 in
theorem w_2138 : Cond.methodLink "CityRoadLaw" 228 yX12_finding ∈ tb := tb_mem 2138 (by decide +kernel) rfl
set_option maxRecDepth 200000 in
theorem w_1417 : Cond.code yX11_findings cX11_findings 2 (some .int) ∈ tb := tb_mem 1417 (by rfl) rfl
set_option maxRecDepth 200000 in
theorem w_1415 : Cond.instanceMethod yX11_findings ∈ tb := tb_mem 1415 (by decide +kernel) rfl
set_option maxRecDepth 200000 in
theorem w_1416 : Cond.selects "CityRoad" yX11_findings yX11_findings ∈ tb := tb_mem 1416 (by decide +kernel) rfl
set_option maxRecDepth 200000 in
theorem w_1414 : Cond.methodLink "CityRoadLaw" 229 yX11_findings ∈ tb := tb_mem 1414 (by decide +kernel) rfl
set_option maxRecDepth 200000 in
theorem w_2145 : Cond.code yX12_findings cX12_findings 2 (some .int) ∈ tb := tb_mem 2145 (by rfl) rfl
set_option maxRecDepth 200000 in
theorem w_2143 : Cond.instanceMethod yX12_findings ∈ tb := tb_mem 2143 (by decide +kernel) rfl
set_option maxRecDepth 200000 in
theorem w_2144 : Cond.selects "CityRoadModel" yX12_findings yX12_findings ∈ tb := tb_mem 2144 (by decide +kernel) rfl
set_option maxRecDepth 200000 in
theorem w_2142 : Cond.methodLink "CityRoadLaw" 232 yX12_findings ∈ tb := tb_mem 2142 (by decide +kernel) rfl
set_option maxRecDepth 200000 in
theorem w_1421 : Cond.code yX11_digest cX11_digest 4 (some .long) ∈ tb := tb_mem 1421 (by rfl) rfl
set_option maxRecDepth 200000 in
theorem w_1419 : Cond.instanceMethod yX11_digest ∈ tb := tb_mem 1419 (by decide +kernel) rfl
set_option maxRecDepth 200000 in
theorem w_1420 : Cond.selects "CityRoad" yX11_digest yX11_digest ∈ tb := tb_mem 1420 (by decide +kernel) rfl
set_option maxRecDepth 200000 in
theorem w_1418 : Cond.methodLink "CityRoadLaw" 233 yX11_digest ∈ tb := tb_mem 1418 (by decide +kernel) rfl
set_option maxRecDepth 200000 in
theorem w_2149 : Cond.code yX12_digest cX12_digest 3 (some .long) ∈ tb := tb_mem 2149 (by rfl) rfl
set_option maxRecDepth 200000 in
theorem w_2147 : Cond.instanceMethod yX12_digest ∈ tb := tb_mem 2147 (by decide +kernel) rfl
set_option maxRecDepth 200000 in
theorem w_2148 : Cond.selects "CityRoadModel" yX12_digest yX12_digest ∈ tb := tb_mem 2148 (by decide +kernel) rfl
set_option maxRecDepth 200000 in
theorem w_2146 : Cond.methodLink "CityRoadLaw" 236 yX12_digest ∈ tb := tb_mem 2146 (by decide +kernel) rfl
theorem gdL_law_1228 : decode cL_law 1228 = .ok (.aload_n 1, 1) := by decide +kernel
theorem gdL_law_1229 : decode cL_law 1229 = .ok (.aload_n 0, 1) := by decide +kernel
theorem gdL_law_1230 : decode cL_law 1230 = .ok (.iload_n 3, 1) := by decide +kernel
theorem gdL_law_1231 : decode cL_law 1231 = .ok (.iconst 1, 1) := by decide +kernel
theorem gdL_law_1232 : decode cL_law 1232 = .ok (.iadd, 1) := by decide +kernel
theorem gdL_law_1233 : decode cL_law 1233 = .ok (.iaload, 1) := by decide +kernel
theorem gdL_law_1234 : decode cL_law 1234 = .ok (.aload_n 0, 1) := by decide +kernel
theorem gdL_law_1235 : decode cL_law 1235 = .ok (.iload_n 3, 1) := by decide +kernel
theorem gdL_law_1236 : decode cL_law 1236 = .ok (.iconst 2, 1) := by decide +kernel
theorem gdL_law_1237 : decode cL_law 1237 = .ok (.iadd, 1) := by decide +kernel
theorem gdL_law_1238 : decode cL_law 1238 = .ok (.iaload, 1) := by decide +kernel
theorem gdL_law_1239 : decode cL_law 1239 = .ok (.aload_n 0, 1) := by decide +kernel
theorem gdL_law_1240 : decode cL_law 1240 = .ok (.iload_n 3, 1) := by decide +kernel
theorem gdL_law_1241 : decode cL_law 1241 = .ok (.iconst 3, 1) := by decide +kernel
theorem gdL_law_1242 : decode cL_law 1242 = .ok (.iadd, 1) := by decide +kernel
theorem gdL_law_1243 : decode cL_law 1243 = .ok (.iaload, 1) := by decide +kernel
theorem gdL_law_1244 : decode cL_law 1244 = .ok (.aload_n 0, 1) := by decide +kernel
theorem gdL_law_1245 : decode cL_law 1245 = .ok (.iload_n 3, 1) := by decide +kernel
theorem gdL_law_1246 : decode cL_law 1246 = .ok (.iconst 4, 1) := by decide +kernel
theorem gdL_law_1247 : decode cL_law 1247 = .ok (.iadd, 1) := by decide +kernel
theorem gdL_law_1248 : decode cL_law 1248 = .ok (.iaload, 1) := by decide +kernel
theorem gdL_law_1249 : decode cL_law 1249 = .ok (.invokevirtual 123, 3) := by decide +kernel
theorem gdL_law_1252 : decode cL_law 1252 = .ok (.pop, 1) := by decide +kernel
theorem gdL_law_1253 : decode cL_law 1253 = .ok (.aload_n 2, 1) := by decide +kernel
theorem gdL_law_1254 : decode cL_law 1254 = .ok (.aload_n 0, 1) := by decide +kernel
theorem gdL_law_1255 : decode cL_law 1255 = .ok (.iload_n 3, 1) := by decide +kernel
theorem gdL_law_1256 : decode cL_law 1256 = .ok (.iconst 1, 1) := by decide +kernel
theorem gdL_law_1257 : decode cL_law 1257 = .ok (.iadd, 1) := by decide +kernel
theorem gdL_law_1258 : decode cL_law 1258 = .ok (.iaload, 1) := by decide +kernel
theorem gdL_law_1259 : decode cL_law 1259 = .ok (.aload_n 0, 1) := by decide +kernel
theorem gdL_law_1260 : decode cL_law 1260 = .ok (.iload_n 3, 1) := by decide +kernel
theorem gdL_law_1261 : decode cL_law 1261 = .ok (.iconst 2, 1) := by decide +kernel
theorem gdL_law_1262 : decode cL_law 1262 = .ok (.iadd, 1) := by decide +kernel
theorem gdL_law_1263 : decode cL_law 1263 = .ok (.iaload, 1) := by decide +kernel
theorem gdL_law_1264 : decode cL_law 1264 = .ok (.aload_n 0, 1) := by decide +kernel
theorem gdL_law_1265 : decode cL_law 1265 = .ok (.iload_n 3, 1) := by decide +kernel
theorem gdL_law_1266 : decode cL_law 1266 = .ok (.iconst 3, 1) := by decide +kernel
theorem gdL_law_1267 : decode cL_law 1267 = .ok (.iadd, 1) := by decide +kernel
theorem gdL_law_1268 : decode cL_law 1268 = .ok (.iaload, 1) := by decide +kernel
theorem gdL_law_1269 : decode cL_law 1269 = .ok (.aload_n 0, 1) := by decide +kernel
theorem gdL_law_1270 : decode cL_law 1270 = .ok (.iload_n 3, 1) := by decide +kernel
theorem gdL_law_1271 : decode cL_law 1271 = .ok (.iconst 4, 1) := by decide +kernel
theorem gdL_law_1272 : decode cL_law 1272 = .ok (.iadd, 1) := by decide +kernel
theorem gdL_law_1273 : decode cL_law 1273 = .ok (.iaload, 1) := by decide +kernel
theorem gdL_law_1274 : decode cL_law 1274 = .ok (.invokevirtual 126, 3) := by decide +kernel
theorem gdL_law_1277 : decode cL_law 1277 = .ok (.pop, 1) := by decide +kernel
theorem gdL_law_1278 : decode cL_law 1278 = .ok (.goto 674, 3) := by decide +kernel
theorem gdL_law_1281 : decode cL_law 1281 = .ok (.aload_n 1, 1) := by decide +kernel
theorem gdL_law_1282 : decode cL_law 1282 = .ok (.aload_n 0, 1) := by decide +kernel
theorem gdL_law_1283 : decode cL_law 1283 = .ok (.iload_n 3, 1) := by decide +kernel
theorem gdL_law_1284 : decode cL_law 1284 = .ok (.iconst 1, 1) := by decide +kernel
theorem gdL_law_1285 : decode cL_law 1285 = .ok (.iadd, 1) := by decide +kernel
theorem gdL_law_1286 : decode cL_law 1286 = .ok (.iaload, 1) := by decide +kernel
theorem gdL_law_1287 : decode cL_law 1287 = .ok (.aload_n 0, 1) := by decide +kernel
theorem gdL_law_1288 : decode cL_law 1288 = .ok (.iload_n 3, 1) := by decide +kernel
theorem gdL_law_1289 : decode cL_law 1289 = .ok (.iconst 2, 1) := by decide +kernel
theorem gdL_law_1290 : decode cL_law 1290 = .ok (.iadd, 1) := by decide +kernel
theorem gdL_law_1291 : decode cL_law 1291 = .ok (.iaload, 1) := by decide +kernel
theorem gdL_law_1292 : decode cL_law 1292 = .ok (.invokevirtual 127, 3) := by decide +kernel
theorem gdL_law_1295 : decode cL_law 1295 = .ok (.pop, 1) := by decide +kernel
theorem gdL_law_1296 : decode cL_law 1296 = .ok (.aload_n 2, 1) := by decide +kernel
theorem gdL_law_1297 : decode cL_law 1297 = .ok (.aload_n 0, 1) := by decide +kernel
theorem gdL_law_1298 : decode cL_law 1298 = .ok (.iload_n 3, 1) := by decide +kernel
theorem gdL_law_1299 : decode cL_law 1299 = .ok (.iconst 1, 1) := by decide +kernel
theorem gdL_law_1300 : decode cL_law 1300 = .ok (.iadd, 1) := by decide +kernel
theorem gdL_law_1301 : decode cL_law 1301 = .ok (.iaload, 1) := by decide +kernel
theorem gdL_law_1302 : decode cL_law 1302 = .ok (.aload_n 0, 1) := by decide +kernel
theorem gdL_law_1303 : decode cL_law 1303 = .ok (.iload_n 3, 1) := by decide +kernel
theorem gdL_law_1304 : decode cL_law 1304 = .ok (.iconst 2, 1) := by decide +kernel
theorem gdL_law_1305 : decode cL_law 1305 = .ok (.iadd, 1) := by decide +kernel
theorem gdL_law_1306 : decode cL_law 1306 = .ok (.iaload, 1) := by decide +kernel
theorem gdL_law_1307 : decode cL_law 1307 = .ok (.invokevirtual 130, 3) := by decide +kernel
theorem gdL_law_1310 : decode cL_law 1310 = .ok (.pop, 1) := by decide +kernel
theorem gdL_law_1311 : decode cL_law 1311 = .ok (.goto 641, 3) := by decide +kernel
theorem gdL_law_1314 : decode cL_law 1314 = .ok (.aload_n 1, 1) := by decide +kernel
theorem gdL_law_1315 : decode cL_law 1315 = .ok (.aload_n 0, 1) := by decide +kernel
theorem gdL_law_1316 : decode cL_law 1316 = .ok (.iload_n 3, 1) := by decide +kernel
theorem gdL_law_1317 : decode cL_law 1317 = .ok (.iconst 1, 1) := by decide +kernel
theorem gdL_law_1318 : decode cL_law 1318 = .ok (.iadd, 1) := by decide +kernel
theorem gdL_law_1319 : decode cL_law 1319 = .ok (.iaload, 1) := by decide +kernel
theorem gdL_law_1320 : decode cL_law 1320 = .ok (.aload_n 0, 1) := by decide +kernel
theorem gdL_law_1321 : decode cL_law 1321 = .ok (.iload_n 3, 1) := by decide +kernel
theorem gdL_law_1322 : decode cL_law 1322 = .ok (.iconst 2, 1) := by decide +kernel
theorem gdL_law_1323 : decode cL_law 1323 = .ok (.iadd, 1) := by decide +kernel
theorem gdL_law_1324 : decode cL_law 1324 = .ok (.iaload, 1) := by decide +kernel
theorem gdL_law_1325 : decode cL_law 1325 = .ok (.invokevirtual 131, 3) := by decide +kernel
theorem gdL_law_1328 : decode cL_law 1328 = .ok (.pop, 1) := by decide +kernel
theorem gdL_law_1329 : decode cL_law 1329 = .ok (.aload_n 2, 1) := by decide +kernel
theorem gdL_law_1330 : decode cL_law 1330 = .ok (.aload_n 0, 1) := by decide +kernel
theorem gdL_law_1331 : decode cL_law 1331 = .ok (.iload_n 3, 1) := by decide +kernel
theorem gdL_law_1332 : decode cL_law 1332 = .ok (.iconst 1, 1) := by decide +kernel
theorem gdL_law_1333 : decode cL_law 1333 = .ok (.iadd, 1) := by decide +kernel
theorem gdL_law_1334 : decode cL_law 1334 = .ok (.iaload, 1) := by decide +kernel
theorem gdL_law_1335 : decode cL_law 1335 = .ok (.aload_n 0, 1) := by decide +kernel
theorem gdL_law_1336 : decode cL_law 1336 = .ok (.iload_n 3, 1) := by decide +kernel
theorem gdL_law_1337 : decode cL_law 1337 = .ok (.iconst 2, 1) := by decide +kernel
theorem gdL_law_1338 : decode cL_law 1338 = .ok (.iadd, 1) := by decide +kernel
theorem gdL_law_1339 : decode cL_law 1339 = .ok (.iaload, 1) := by decide +kernel
theorem gdL_law_1340 : decode cL_law 1340 = .ok (.invokevirtual 134, 3) := by decide +kernel
theorem gdL_law_1343 : decode cL_law 1343 = .ok (.pop, 1) := by decide +kernel
theorem gdL_law_1344 : decode cL_law 1344 = .ok (.goto 608, 3) := by decide +kernel
theorem gdL_law_1347 : decode cL_law 1347 = .ok (.aload_n 1, 1) := by decide +kernel
theorem gdL_law_1348 : decode cL_law 1348 = .ok (.aload_n 0, 1) := by decide +kernel
theorem gdL_law_1349 : decode cL_law 1349 = .ok (.iload_n 3, 1) := by decide +kernel
theorem gdL_law_1350 : decode cL_law 1350 = .ok (.iconst 1, 1) := by decide +kernel
theorem gdL_law_1351 : decode cL_law 1351 = .ok (.iadd, 1) := by decide +kernel
theorem gdL_law_1352 : decode cL_law 1352 = .ok (.iaload, 1) := by decide +kernel
theorem gdL_law_1353 : decode cL_law 1353 = .ok (.invokevirtual 135, 3) := by decide +kernel
theorem gdL_law_1356 : decode cL_law 1356 = .ok (.pop, 1) := by decide +kernel
theorem gdL_law_1357 : decode cL_law 1357 = .ok (.aload_n 2, 1) := by decide +kernel
theorem gdL_law_1358 : decode cL_law 1358 = .ok (.aload_n 0, 1) := by decide +kernel
theorem gdL_law_1359 : decode cL_law 1359 = .ok (.iload_n 3, 1) := by decide +kernel
theorem gdL_law_1360 : decode cL_law 1360 = .ok (.iconst 1, 1) := by decide +kernel
theorem gdL_law_1361 : decode cL_law 1361 = .ok (.iadd, 1) := by decide +kernel
theorem gdL_law_1362 : decode cL_law 1362 = .ok (.iaload, 1) := by decide +kernel
theorem gdL_law_1363 : decode cL_law 1363 = .ok (.invokevirtual 138, 3) := by decide +kernel
theorem gdL_law_1366 : decode cL_law 1366 = .ok (.pop, 1) := by decide +kernel
theorem gdL_law_1367 : decode cL_law 1367 = .ok (.goto 585, 3) := by decide +kernel
theorem gdL_law_1370 : decode cL_law 1370 = .ok (.aload_n 1, 1) := by decide +kernel
theorem gdL_law_1371 : decode cL_law 1371 = .ok (.aload_n 0, 1) := by decide +kernel
theorem gdL_law_1372 : decode cL_law 1372 = .ok (.iload_n 3, 1) := by decide +kernel
theorem gdL_law_1373 : decode cL_law 1373 = .ok (.iconst 1, 1) := by decide +kernel
theorem gdL_law_1374 : decode cL_law 1374 = .ok (.iadd, 1) := by decide +kernel
theorem gdL_law_1375 : decode cL_law 1375 = .ok (.iaload, 1) := by decide +kernel
theorem gdL_law_1376 : decode cL_law 1376 = .ok (.invokevirtual 139, 3) := by decide +kernel
theorem gdL_law_1379 : decode cL_law 1379 = .ok (.pop, 1) := by decide +kernel
theorem gdL_law_1380 : decode cL_law 1380 = .ok (.aload_n 2, 1) := by decide +kernel
theorem gdL_law_1381 : decode cL_law 1381 = .ok (.aload_n 0, 1) := by decide +kernel
theorem gdL_law_1382 : decode cL_law 1382 = .ok (.iload_n 3, 1) := by decide +kernel
theorem gdL_law_1383 : decode cL_law 1383 = .ok (.iconst 1, 1) := by decide +kernel
theorem gdL_law_1384 : decode cL_law 1384 = .ok (.iadd, 1) := by decide +kernel
theorem gdL_law_1385 : decode cL_law 1385 = .ok (.iaload, 1) := by decide +kernel
theorem gdL_law_1386 : decode cL_law 1386 = .ok (.invokevirtual 142, 3) := by decide +kernel
theorem gdL_law_1389 : decode cL_law 1389 = .ok (.pop, 1) := by decide +kernel
theorem gdL_law_1390 : decode cL_law 1390 = .ok (.goto 562, 3) := by decide +kernel
theorem gdL_law_1393 : decode cL_law 1393 = .ok (.aload_n 1, 1) := by decide +kernel
theorem gdL_law_1394 : decode cL_law 1394 = .ok (.aload_n 0, 1) := by decide +kernel
theorem gdL_law_1395 : decode cL_law 1395 = .ok (.iload_n 3, 1) := by decide +kernel
theorem gdL_law_1396 : decode cL_law 1396 = .ok (.iconst 1, 1) := by decide +kernel
theorem gdL_law_1397 : decode cL_law 1397 = .ok (.iadd, 1) := by decide +kernel
theorem gdL_law_1398 : decode cL_law 1398 = .ok (.iaload, 1) := by decide +kernel
theorem gdL_law_1399 : decode cL_law 1399 = .ok (.invokevirtual 143, 3) := by decide +kernel
theorem gdL_law_1402 : decode cL_law 1402 = .ok (.pop, 1) := by decide +kernel
theorem gdL_law_1403 : decode cL_law 1403 = .ok (.aload_n 2, 1) := by decide +kernel
theorem gdL_law_1404 : decode cL_law 1404 = .ok (.aload_n 0, 1) := by decide +kernel
theorem gdL_law_1405 : decode cL_law 1405 = .ok (.iload_n 3, 1) := by decide +kernel
theorem gdL_law_1406 : decode cL_law 1406 = .ok (.iconst 1, 1) := by decide +kernel
theorem gdL_law_1407 : decode cL_law 1407 = .ok (.iadd, 1) := by decide +kernel
theorem gdL_law_1408 : decode cL_law 1408 = .ok (.iaload, 1) := by decide +kernel
theorem gdL_law_1409 : decode cL_law 1409 = .ok (.invokevirtual 146, 3) := by decide +kernel
theorem gdL_law_1412 : decode cL_law 1412 = .ok (.pop, 1) := by decide +kernel
theorem gdL_law_1413 : decode cL_law 1413 = .ok (.goto 539, 3) := by decide +kernel
theorem gdL_law_1416 : decode cL_law 1416 = .ok (.aload_n 1, 1) := by decide +kernel
theorem gdL_law_1417 : decode cL_law 1417 = .ok (.aload_n 0, 1) := by decide +kernel
theorem gdL_law_1418 : decode cL_law 1418 = .ok (.iload_n 3, 1) := by decide +kernel
theorem gdL_law_1419 : decode cL_law 1419 = .ok (.iconst 1, 1) := by decide +kernel
theorem gdL_law_1420 : decode cL_law 1420 = .ok (.iadd, 1) := by decide +kernel
theorem gdL_law_1421 : decode cL_law 1421 = .ok (.iaload, 1) := by decide +kernel
theorem gdL_law_1422 : decode cL_law 1422 = .ok (.aload_n 0, 1) := by decide +kernel
theorem gdL_law_1423 : decode cL_law 1423 = .ok (.iload_n 3, 1) := by decide +kernel
theorem gdL_law_1424 : decode cL_law 1424 = .ok (.iconst 2, 1) := by decide +kernel
theorem gdL_law_1425 : decode cL_law 1425 = .ok (.iadd, 1) := by decide +kernel
theorem gdL_law_1426 : decode cL_law 1426 = .ok (.iaload, 1) := by decide +kernel
theorem gdL_law_1427 : decode cL_law 1427 = .ok (.invokevirtual 147, 3) := by decide +kernel
theorem gdL_law_1430 : decode cL_law 1430 = .ok (.pop, 1) := by decide +kernel
theorem gdL_law_1431 : decode cL_law 1431 = .ok (.aload_n 2, 1) := by decide +kernel
theorem gdL_law_1432 : decode cL_law 1432 = .ok (.aload_n 0, 1) := by decide +kernel
theorem gdL_law_1433 : decode cL_law 1433 = .ok (.iload_n 3, 1) := by decide +kernel
theorem gdL_law_1434 : decode cL_law 1434 = .ok (.iconst 1, 1) := by decide +kernel
theorem gdL_law_1435 : decode cL_law 1435 = .ok (.iadd, 1) := by decide +kernel
theorem gdL_law_1436 : decode cL_law 1436 = .ok (.iaload, 1) := by decide +kernel
theorem gdL_law_1437 : decode cL_law 1437 = .ok (.aload_n 0, 1) := by decide +kernel
theorem gdL_law_1438 : decode cL_law 1438 = .ok (.iload_n 3, 1) := by decide +kernel
theorem gdL_law_1439 : decode cL_law 1439 = .ok (.iconst 2, 1) := by decide +kernel
theorem gdL_law_1440 : decode cL_law 1440 = .ok (.iadd, 1) := by decide +kernel
theorem gdL_law_1441 : decode cL_law 1441 = .ok (.iaload, 1) := by decide +kernel
theorem gdL_law_1442 : decode cL_law 1442 = .ok (.invokevirtual 150, 3) := by decide +kernel
theorem gdL_law_1445 : decode cL_law 1445 = .ok (.pop, 1) := by decide +kernel
theorem gdL_law_1446 : decode cL_law 1446 = .ok (.goto 506, 3) := by decide +kernel
theorem gdL_law_1449 : decode cL_law 1449 = .ok (.aload_n 1, 1) := by decide +kernel
theorem gdL_law_1450 : decode cL_law 1450 = .ok (.aload_n 0, 1) := by decide +kernel
theorem gdL_law_1451 : decode cL_law 1451 = .ok (.iload_n 3, 1) := by decide +kernel
theorem gdL_law_1452 : decode cL_law 1452 = .ok (.iconst 1, 1) := by decide +kernel
theorem gdL_law_1453 : decode cL_law 1453 = .ok (.iadd, 1) := by decide +kernel
theorem gdL_law_1454 : decode cL_law 1454 = .ok (.iaload, 1) := by decide +kernel
theorem gdL_law_1455 : decode cL_law 1455 = .ok (.aload_n 0, 1) := by decide +kernel
theorem gdL_law_1456 : decode cL_law 1456 = .ok (.iload_n 3, 1) := by decide +kernel
theorem gdL_law_1457 : decode cL_law 1457 = .ok (.iconst 2, 1) := by decide +kernel
theorem gdL_law_1458 : decode cL_law 1458 = .ok (.iadd, 1) := by decide +kernel
theorem gdL_law_1459 : decode cL_law 1459 = .ok (.iaload, 1) := by decide +kernel
theorem gdL_law_1460 : decode cL_law 1460 = .ok (.invokevirtual 151, 3) := by decide +kernel
theorem gdL_law_1463 : decode cL_law 1463 = .ok (.pop, 1) := by decide +kernel
theorem gdL_law_1464 : decode cL_law 1464 = .ok (.aload_n 2, 1) := by decide +kernel
theorem gdL_law_1465 : decode cL_law 1465 = .ok (.aload_n 0, 1) := by decide +kernel
theorem gdL_law_1466 : decode cL_law 1466 = .ok (.iload_n 3, 1) := by decide +kernel
theorem gdL_law_1467 : decode cL_law 1467 = .ok (.iconst 1, 1) := by decide +kernel
theorem gdL_law_1468 : decode cL_law 1468 = .ok (.iadd, 1) := by decide +kernel
theorem gdL_law_1469 : decode cL_law 1469 = .ok (.iaload, 1) := by decide +kernel
theorem gdL_law_1470 : decode cL_law 1470 = .ok (.aload_n 0, 1) := by decide +kernel
theorem gdL_law_1471 : decode cL_law 1471 = .ok (.iload_n 3, 1) := by decide +kernel
theorem gdL_law_1472 : decode cL_law 1472 = .ok (.iconst 2, 1) := by decide +kernel
theorem gdL_law_1473 : decode cL_law 1473 = .ok (.iadd, 1) := by decide +kernel
theorem gdL_law_1474 : decode cL_law 1474 = .ok (.iaload, 1) := by decide +kernel
theorem gdL_law_1475 : decode cL_law 1475 = .ok (.invokevirtual 154, 3) := by decide +kernel
theorem gdL_law_1478 : decode cL_law 1478 = .ok (.pop, 1) := by decide +kernel
theorem gdL_law_1479 : decode cL_law 1479 = .ok (.goto 473, 3) := by decide +kernel
theorem gdL_law_1482 : decode cL_law 1482 = .ok (.aload_n 1, 1) := by decide +kernel
theorem gdL_law_1483 : decode cL_law 1483 = .ok (.aload_n 0, 1) := by decide +kernel
theorem gdL_law_1484 : decode cL_law 1484 = .ok (.iload_n 3, 1) := by decide +kernel
theorem gdL_law_1485 : decode cL_law 1485 = .ok (.iconst 1, 1) := by decide +kernel
theorem gdL_law_1486 : decode cL_law 1486 = .ok (.iadd, 1) := by decide +kernel
theorem gdL_law_1487 : decode cL_law 1487 = .ok (.iaload, 1) := by decide +kernel
theorem gdL_law_1488 : decode cL_law 1488 = .ok (.invokevirtual 155, 3) := by decide +kernel
theorem gdL_law_1491 : decode cL_law 1491 = .ok (.pop, 1) := by decide +kernel
theorem gdL_law_1492 : decode cL_law 1492 = .ok (.aload_n 2, 1) := by decide +kernel
theorem gdL_law_1493 : decode cL_law 1493 = .ok (.aload_n 0, 1) := by decide +kernel
theorem gdL_law_1494 : decode cL_law 1494 = .ok (.iload_n 3, 1) := by decide +kernel
theorem gdL_law_1495 : decode cL_law 1495 = .ok (.iconst 1, 1) := by decide +kernel
theorem gdL_law_1496 : decode cL_law 1496 = .ok (.iadd, 1) := by decide +kernel
theorem gdL_law_1497 : decode cL_law 1497 = .ok (.iaload, 1) := by decide +kernel
theorem gdL_law_1498 : decode cL_law 1498 = .ok (.invokevirtual 158, 3) := by decide +kernel
theorem gdL_law_1501 : decode cL_law 1501 = .ok (.pop, 1) := by decide +kernel
theorem gdL_law_1502 : decode cL_law 1502 = .ok (.goto 450, 3) := by decide +kernel
theorem gdL_law_1505 : decode cL_law 1505 = .ok (.aload_n 1, 1) := by decide +kernel
theorem gdL_law_1506 : decode cL_law 1506 = .ok (.aload_n 0, 1) := by decide +kernel
theorem gdL_law_1507 : decode cL_law 1507 = .ok (.iload_n 3, 1) := by decide +kernel
theorem gdL_law_1508 : decode cL_law 1508 = .ok (.iconst 1, 1) := by decide +kernel
theorem gdL_law_1509 : decode cL_law 1509 = .ok (.iadd, 1) := by decide +kernel
theorem gdL_law_1510 : decode cL_law 1510 = .ok (.iaload, 1) := by decide +kernel
theorem gdL_law_1511 : decode cL_law 1511 = .ok (.invokevirtual 159, 3) := by decide +kernel
theorem gdL_law_1514 : decode cL_law 1514 = .ok (.pop, 1) := by decide +kernel
theorem gdL_law_1515 : decode cL_law 1515 = .ok (.aload_n 2, 1) := by decide +kernel
theorem gdL_law_1516 : decode cL_law 1516 = .ok (.aload_n 0, 1) := by decide +kernel
theorem gdL_law_1517 : decode cL_law 1517 = .ok (.iload_n 3, 1) := by decide +kernel
theorem gdL_law_1518 : decode cL_law 1518 = .ok (.iconst 1, 1) := by decide +kernel
theorem gdL_law_1519 : decode cL_law 1519 = .ok (.iadd, 1) := by decide +kernel
theorem gdL_law_1520 : decode cL_law 1520 = .ok (.iaload, 1) := by decide +kernel
theorem gdL_law_1521 : decode cL_law 1521 = .ok (.invokevirtual 162, 3) := by decide +kernel
theorem gdL_law_1524 : decode cL_law 1524 = .ok (.pop, 1) := by decide +kernel
theorem gdL_law_1525 : decode cL_law 1525 = .ok (.goto 427, 3) := by decide +kernel
theorem gdL_law_1528 : decode cL_law 1528 = .ok (.aload_n 1, 1) := by decide +kernel
theorem gdL_law_1529 : decode cL_law 1529 = .ok (.aload_n 0, 1) := by decide +kernel
theorem gdL_law_1530 : decode cL_law 1530 = .ok (.iload_n 3, 1) := by decide +kernel
theorem gdL_law_1531 : decode cL_law 1531 = .ok (.iconst 1, 1) := by decide +kernel
theorem gdL_law_1532 : decode cL_law 1532 = .ok (.iadd, 1) := by decide +kernel
theorem gdL_law_1533 : decode cL_law 1533 = .ok (.iaload, 1) := by decide +kernel
theorem gdL_law_1534 : decode cL_law 1534 = .ok (.aload_n 0, 1) := by decide +kernel
theorem gdL_law_1535 : decode cL_law 1535 = .ok (.iload_n 3, 1) := by decide +kernel
theorem gdL_law_1536 : decode cL_law 1536 = .ok (.iconst 2, 1) := by decide +kernel
theorem gdL_law_1537 : decode cL_law 1537 = .ok (.iadd, 1) := by decide +kernel
theorem gdL_law_1538 : decode cL_law 1538 = .ok (.iaload, 1) := by decide +kernel
theorem gdL_law_1539 : decode cL_law 1539 = .ok (.invokevirtual 163, 3) := by decide +kernel
theorem gdL_law_1542 : decode cL_law 1542 = .ok (.pop, 1) := by decide +kernel
theorem gdL_law_1543 : decode cL_law 1543 = .ok (.aload_n 2, 1) := by decide +kernel
theorem gdL_law_1544 : decode cL_law 1544 = .ok (.aload_n 0, 1) := by decide +kernel
theorem gdL_law_1545 : decode cL_law 1545 = .ok (.iload_n 3, 1) := by decide +kernel
theorem gdL_law_1546 : decode cL_law 1546 = .ok (.iconst 1, 1) := by decide +kernel
theorem gdL_law_1547 : decode cL_law 1547 = .ok (.iadd, 1) := by decide +kernel
theorem gdL_law_1548 : decode cL_law 1548 = .ok (.iaload, 1) := by decide +kernel
theorem gdL_law_1549 : decode cL_law 1549 = .ok (.aload_n 0, 1) := by decide +kernel
theorem gdL_law_1550 : decode cL_law 1550 = .ok (.iload_n 3, 1) := by decide +kernel
theorem gdL_law_1551 : decode cL_law 1551 = .ok (.iconst 2, 1) := by decide +kernel
theorem gdL_law_1552 : decode cL_law 1552 = .ok (.iadd, 1) := by decide +kernel
theorem gdL_law_1553 : decode cL_law 1553 = .ok (.iaload, 1) := by decide +kernel
theorem gdL_law_1554 : decode cL_law 1554 = .ok (.invokevirtual 166, 3) := by decide +kernel
theorem gdL_law_1557 : decode cL_law 1557 = .ok (.pop, 1) := by decide +kernel
theorem gdL_law_1558 : decode cL_law 1558 = .ok (.goto 394, 3) := by decide +kernel
theorem gdL_law_1561 : decode cL_law 1561 = .ok (.aload_n 1, 1) := by decide +kernel
theorem gdL_law_1562 : decode cL_law 1562 = .ok (.aload_n 0, 1) := by decide +kernel
theorem gdL_law_1563 : decode cL_law 1563 = .ok (.iload_n 3, 1) := by decide +kernel
theorem gdL_law_1564 : decode cL_law 1564 = .ok (.iconst 1, 1) := by decide +kernel
theorem gdL_law_1565 : decode cL_law 1565 = .ok (.iadd, 1) := by decide +kernel
theorem gdL_law_1566 : decode cL_law 1566 = .ok (.iaload, 1) := by decide +kernel
theorem gdL_law_1567 : decode cL_law 1567 = .ok (.aload_n 0, 1) := by decide +kernel
theorem gdL_law_1568 : decode cL_law 1568 = .ok (.iload_n 3, 1) := by decide +kernel
theorem gdL_law_1569 : decode cL_law 1569 = .ok (.iconst 2, 1) := by decide +kernel
theorem gdL_law_1570 : decode cL_law 1570 = .ok (.iadd, 1) := by decide +kernel
theorem gdL_law_1571 : decode cL_law 1571 = .ok (.iaload, 1) := by decide +kernel
theorem gdL_law_1572 : decode cL_law 1572 = .ok (.invokevirtual 167, 3) := by decide +kernel
theorem gdL_law_1575 : decode cL_law 1575 = .ok (.pop, 1) := by decide +kernel
theorem gdL_law_1576 : decode cL_law 1576 = .ok (.aload_n 2, 1) := by decide +kernel
theorem gdL_law_1577 : decode cL_law 1577 = .ok (.aload_n 0, 1) := by decide +kernel
theorem gdL_law_1578 : decode cL_law 1578 = .ok (.iload_n 3, 1) := by decide +kernel
theorem gdL_law_1579 : decode cL_law 1579 = .ok (.iconst 1, 1) := by decide +kernel
theorem gdL_law_1580 : decode cL_law 1580 = .ok (.iadd, 1) := by decide +kernel
theorem gdL_law_1581 : decode cL_law 1581 = .ok (.iaload, 1) := by decide +kernel
theorem gdL_law_1582 : decode cL_law 1582 = .ok (.aload_n 0, 1) := by decide +kernel
theorem gdL_law_1583 : decode cL_law 1583 = .ok (.iload_n 3, 1) := by decide +kernel
theorem gdL_law_1584 : decode cL_law 1584 = .ok (.iconst 2, 1) := by decide +kernel
theorem gdL_law_1585 : decode cL_law 1585 = .ok (.iadd, 1) := by decide +kernel
theorem gdL_law_1586 : decode cL_law 1586 = .ok (.iaload, 1) := by decide +kernel
theorem gdL_law_1587 : decode cL_law 1587 = .ok (.invokevirtual 170, 3) := by decide +kernel
theorem gdL_law_1590 : decode cL_law 1590 = .ok (.pop, 1) := by decide +kernel
theorem gdL_law_1591 : decode cL_law 1591 = .ok (.goto 361, 3) := by decide +kernel
theorem gdL_law_1594 : decode cL_law 1594 = .ok (.aload_n 1, 1) := by decide +kernel
theorem gdL_law_1595 : decode cL_law 1595 = .ok (.aload_n 0, 1) := by decide +kernel
theorem gdL_law_1596 : decode cL_law 1596 = .ok (.iload_n 3, 1) := by decide +kernel
theorem gdL_law_1597 : decode cL_law 1597 = .ok (.iconst 1, 1) := by decide +kernel
theorem gdL_law_1598 : decode cL_law 1598 = .ok (.iadd, 1) := by decide +kernel
theorem gdL_law_1599 : decode cL_law 1599 = .ok (.iaload, 1) := by decide +kernel
theorem gdL_law_1600 : decode cL_law 1600 = .ok (.invokevirtual 171, 3) := by decide +kernel
theorem gdL_law_1603 : decode cL_law 1603 = .ok (.pop, 1) := by decide +kernel
theorem gdL_law_1604 : decode cL_law 1604 = .ok (.aload_n 2, 1) := by decide +kernel
theorem gdL_law_1605 : decode cL_law 1605 = .ok (.aload_n 0, 1) := by decide +kernel
theorem gdL_law_1606 : decode cL_law 1606 = .ok (.iload_n 3, 1) := by decide +kernel
theorem gdL_law_1607 : decode cL_law 1607 = .ok (.iconst 1, 1) := by decide +kernel
theorem gdL_law_1608 : decode cL_law 1608 = .ok (.iadd, 1) := by decide +kernel
theorem gdL_law_1609 : decode cL_law 1609 = .ok (.iaload, 1) := by decide +kernel
theorem gdL_law_1610 : decode cL_law 1610 = .ok (.invokevirtual 174, 3) := by decide +kernel
theorem gdL_law_1613 : decode cL_law 1613 = .ok (.pop, 1) := by decide +kernel
theorem gdL_law_1614 : decode cL_law 1614 = .ok (.goto 338, 3) := by decide +kernel
theorem gdL_law_1617 : decode cL_law 1617 = .ok (.aload_n 1, 1) := by decide +kernel
theorem gdL_law_1618 : decode cL_law 1618 = .ok (.aload_n 0, 1) := by decide +kernel
theorem gdL_law_1619 : decode cL_law 1619 = .ok (.iload_n 3, 1) := by decide +kernel
theorem gdL_law_1620 : decode cL_law 1620 = .ok (.iconst 1, 1) := by decide +kernel
theorem gdL_law_1621 : decode cL_law 1621 = .ok (.iadd, 1) := by decide +kernel
theorem gdL_law_1622 : decode cL_law 1622 = .ok (.iaload, 1) := by decide +kernel
theorem gdL_law_1623 : decode cL_law 1623 = .ok (.invokevirtual 175, 3) := by decide +kernel
theorem gdL_law_1626 : decode cL_law 1626 = .ok (.pop, 1) := by decide +kernel
theorem gdL_law_1627 : decode cL_law 1627 = .ok (.aload_n 2, 1) := by decide +kernel
theorem gdL_law_1628 : decode cL_law 1628 = .ok (.aload_n 0, 1) := by decide +kernel
theorem gdL_law_1629 : decode cL_law 1629 = .ok (.iload_n 3, 1) := by decide +kernel
theorem gdL_law_1630 : decode cL_law 1630 = .ok (.iconst 1, 1) := by decide +kernel
theorem gdL_law_1631 : decode cL_law 1631 = .ok (.iadd, 1) := by decide +kernel
theorem gdL_law_1632 : decode cL_law 1632 = .ok (.iaload, 1) := by decide +kernel
theorem gdL_law_1633 : decode cL_law 1633 = .ok (.invokevirtual 178, 3) := by decide +kernel
theorem gdL_law_1636 : decode cL_law 1636 = .ok (.pop, 1) := by decide +kernel
theorem gdL_law_1637 : decode cL_law 1637 = .ok (.goto 315, 3) := by decide +kernel
theorem gdL_law_1640 : decode cL_law 1640 = .ok (.aload_n 1, 1) := by decide +kernel
theorem gdL_law_1641 : decode cL_law 1641 = .ok (.invokevirtual 179, 3) := by decide +kernel
theorem gdL_law_1644 : decode cL_law 1644 = .ok (.pop, 1) := by decide +kernel
theorem gdL_law_1645 : decode cL_law 1645 = .ok (.aload_n 2, 1) := by decide +kernel
theorem gdL_law_1646 : decode cL_law 1646 = .ok (.invokevirtual 183, 3) := by decide +kernel
theorem gdL_law_1649 : decode cL_law 1649 = .ok (.pop, 1) := by decide +kernel
theorem gdL_law_1650 : decode cL_law 1650 = .ok (.goto 302, 3) := by decide +kernel
theorem gdL_law_1653 : decode cL_law 1653 = .ok (.aload_n 1, 1) := by decide +kernel
theorem gdL_law_1654 : decode cL_law 1654 = .ok (.invokevirtual 184, 3) := by decide +kernel
theorem gdL_law_1657 : decode cL_law 1657 = .ok (.pop2, 1) := by decide +kernel
theorem gdL_law_1658 : decode cL_law 1658 = .ok (.aload_n 2, 1) := by decide +kernel
theorem gdL_law_1659 : decode cL_law 1659 = .ok (.invokevirtual 188, 3) := by decide +kernel
theorem gdL_law_1662 : decode cL_law 1662 = .ok (.pop2, 1) := by decide +kernel
theorem gdL_law_1663 : decode cL_law 1663 = .ok (.goto 289, 3) := by decide +kernel
theorem gdL_law_1666 : decode cL_law 1666 = .ok (.aload_n 1, 1) := by decide +kernel
theorem gdL_law_1667 : decode cL_law 1667 = .ok (.aload_n 0, 1) := by decide +kernel
theorem gdL_law_1668 : decode cL_law 1668 = .ok (.iload_n 3, 1) := by decide +kernel
theorem gdL_law_1669 : decode cL_law 1669 = .ok (.iconst 1, 1) := by decide +kernel
theorem gdL_law_1670 : decode cL_law 1670 = .ok (.iadd, 1) := by decide +kernel
theorem gdL_law_1671 : decode cL_law 1671 = .ok (.iaload, 1) := by decide +kernel
theorem gdL_law_1672 : decode cL_law 1672 = .ok (.invokevirtual 189, 3) := by decide +kernel
theorem gdL_law_1675 : decode cL_law 1675 = .ok (.pop, 1) := by decide +kernel
theorem gdL_law_1676 : decode cL_law 1676 = .ok (.aload_n 2, 1) := by decide +kernel
theorem gdL_law_1677 : decode cL_law 1677 = .ok (.aload_n 0, 1) := by decide +kernel
theorem gdL_law_1678 : decode cL_law 1678 = .ok (.iload_n 3, 1) := by decide +kernel
theorem gdL_law_1679 : decode cL_law 1679 = .ok (.iconst 1, 1) := by decide +kernel
theorem gdL_law_1680 : decode cL_law 1680 = .ok (.iadd, 1) := by decide +kernel
theorem gdL_law_1681 : decode cL_law 1681 = .ok (.iaload, 1) := by decide +kernel
theorem gdL_law_1682 : decode cL_law 1682 = .ok (.invokevirtual 192, 3) := by decide +kernel
theorem gdL_law_1685 : decode cL_law 1685 = .ok (.pop, 1) := by decide +kernel
theorem gdL_law_1686 : decode cL_law 1686 = .ok (.goto 266, 3) := by decide +kernel
theorem gdL_law_1689 : decode cL_law 1689 = .ok (.aload_n 1, 1) := by decide +kernel
theorem gdL_law_1690 : decode cL_law 1690 = .ok (.aload_n 0, 1) := by decide +kernel
theorem gdL_law_1691 : decode cL_law 1691 = .ok (.iload_n 3, 1) := by decide +kernel
theorem gdL_law_1692 : decode cL_law 1692 = .ok (.iconst 1, 1) := by decide +kernel
theorem gdL_law_1693 : decode cL_law 1693 = .ok (.iadd, 1) := by decide +kernel
theorem gdL_law_1694 : decode cL_law 1694 = .ok (.iaload, 1) := by decide +kernel
theorem gdL_law_1695 : decode cL_law 1695 = .ok (.invokevirtual 193, 3) := by decide +kernel
theorem gdL_law_1698 : decode cL_law 1698 = .ok (.aload_n 2, 1) := by decide +kernel
theorem gdL_law_1699 : decode cL_law 1699 = .ok (.aload_n 0, 1) := by decide +kernel
theorem gdL_law_1700 : decode cL_law 1700 = .ok (.iload_n 3, 1) := by decide +kernel
theorem gdL_law_1701 : decode cL_law 1701 = .ok (.iconst 1, 1) := by decide +kernel
theorem gdL_law_1702 : decode cL_law 1702 = .ok (.iadd, 1) := by decide +kernel
theorem gdL_law_1703 : decode cL_law 1703 = .ok (.iaload, 1) := by decide +kernel
theorem gdL_law_1704 : decode cL_law 1704 = .ok (.invokevirtual 196, 3) := by decide +kernel
theorem gdL_law_1707 : decode cL_law 1707 = .ok (.if_icmp .eq 245, 3) := by decide +kernel
theorem gdL_law_1712 : decode cL_law 1712 = .ok (.aload_n 1, 1) := by decide +kernel
theorem gdL_law_1713 : decode cL_law 1713 = .ok (.aload_n 0, 1) := by decide +kernel
theorem gdL_law_1714 : decode cL_law 1714 = .ok (.iload_n 3, 1) := by decide +kernel
theorem gdL_law_1715 : decode cL_law 1715 = .ok (.iconst 1, 1) := by decide +kernel
theorem gdL_law_1716 : decode cL_law 1716 = .ok (.iadd, 1) := by decide +kernel
theorem gdL_law_1717 : decode cL_law 1717 = .ok (.iaload, 1) := by decide +kernel
theorem gdL_law_1718 : decode cL_law 1718 = .ok (.aload_n 0, 1) := by decide +kernel
theorem gdL_law_1719 : decode cL_law 1719 = .ok (.iload_n 3, 1) := by decide +kernel
theorem gdL_law_1720 : decode cL_law 1720 = .ok (.iconst 2, 1) := by decide +kernel
theorem gdL_law_1721 : decode cL_law 1721 = .ok (.iadd, 1) := by decide +kernel
theorem gdL_law_1722 : decode cL_law 1722 = .ok (.iaload, 1) := by decide +kernel
theorem gdL_law_1723 : decode cL_law 1723 = .ok (.invokevirtual 197, 3) := by decide +kernel
theorem gdL_law_1726 : decode cL_law 1726 = .ok (.pop, 1) := by decide +kernel
theorem gdL_law_1727 : decode cL_law 1727 = .ok (.aload_n 2, 1) := by decide +kernel
theorem gdL_law_1728 : decode cL_law 1728 = .ok (.aload_n 0, 1) := by decide +kernel
theorem gdL_law_1729 : decode cL_law 1729 = .ok (.iload_n 3, 1) := by decide +kernel
theorem gdL_law_1730 : decode cL_law 1730 = .ok (.iconst 1, 1) := by decide +kernel
theorem gdL_law_1731 : decode cL_law 1731 = .ok (.iadd, 1) := by decide +kernel
theorem gdL_law_1732 : decode cL_law 1732 = .ok (.iaload, 1) := by decide +kernel
theorem gdL_law_1733 : decode cL_law 1733 = .ok (.aload_n 0, 1) := by decide +kernel
theorem gdL_law_1734 : decode cL_law 1734 = .ok (.iload_n 3, 1) := by decide +kernel
theorem gdL_law_1735 : decode cL_law 1735 = .ok (.iconst 2, 1) := by decide +kernel
theorem gdL_law_1736 : decode cL_law 1736 = .ok (.iadd, 1) := by decide +kernel
theorem gdL_law_1737 : decode cL_law 1737 = .ok (.iaload, 1) := by decide +kernel
theorem gdL_law_1738 : decode cL_law 1738 = .ok (.invokevirtual 200, 3) := by decide +kernel
theorem gdL_law_1741 : decode cL_law 1741 = .ok (.pop, 1) := by decide +kernel
theorem gdL_law_1742 : decode cL_law 1742 = .ok (.goto 210, 3) := by decide +kernel
theorem gdL_law_1745 : decode cL_law 1745 = .ok (.aload_n 1, 1) := by decide +kernel
theorem gdL_law_1746 : decode cL_law 1746 = .ok (.aload_n 0, 1) := by decide +kernel
theorem gdL_law_1747 : decode cL_law 1747 = .ok (.iload_n 3, 1) := by decide +kernel
theorem gdL_law_1748 : decode cL_law 1748 = .ok (.iconst 1, 1) := by decide +kernel
theorem gdL_law_1749 : decode cL_law 1749 = .ok (.iadd, 1) := by decide +kernel
theorem gdL_law_1750 : decode cL_law 1750 = .ok (.iaload, 1) := by decide +kernel
theorem gdL_law_1751 : decode cL_law 1751 = .ok (.aload_n 0, 1) := by decide +kernel
theorem gdL_law_1752 : decode cL_law 1752 = .ok (.iload_n 3, 1) := by decide +kernel
theorem gdL_law_1753 : decode cL_law 1753 = .ok (.iconst 2, 1) := by decide +kernel
theorem gdL_law_1754 : decode cL_law 1754 = .ok (.iadd, 1) := by decide +kernel
theorem gdL_law_1755 : decode cL_law 1755 = .ok (.iaload, 1) := by decide +kernel
theorem gdL_law_1756 : decode cL_law 1756 = .ok (.invokevirtual 201, 3) := by decide +kernel
theorem gdL_law_1759 : decode cL_law 1759 = .ok (.pop, 1) := by decide +kernel
theorem gdL_law_1760 : decode cL_law 1760 = .ok (.aload_n 2, 1) := by decide +kernel
theorem gdL_law_1761 : decode cL_law 1761 = .ok (.aload_n 0, 1) := by decide +kernel
theorem gdL_law_1762 : decode cL_law 1762 = .ok (.iload_n 3, 1) := by decide +kernel
theorem gdL_law_1763 : decode cL_law 1763 = .ok (.iconst 1, 1) := by decide +kernel
theorem gdL_law_1764 : decode cL_law 1764 = .ok (.iadd, 1) := by decide +kernel
theorem gdL_law_1765 : decode cL_law 1765 = .ok (.iaload, 1) := by decide +kernel
theorem gdL_law_1766 : decode cL_law 1766 = .ok (.aload_n 0, 1) := by decide +kernel
theorem gdL_law_1767 : decode cL_law 1767 = .ok (.iload_n 3, 1) := by decide +kernel
theorem gdL_law_1768 : decode cL_law 1768 = .ok (.iconst 2, 1) := by decide +kernel
theorem gdL_law_1769 : decode cL_law 1769 = .ok (.iadd, 1) := by decide +kernel
theorem gdL_law_1770 : decode cL_law 1770 = .ok (.iaload, 1) := by decide +kernel
theorem gdL_law_1771 : decode cL_law 1771 = .ok (.invokevirtual 204, 3) := by decide +kernel
theorem gdL_law_1774 : decode cL_law 1774 = .ok (.pop, 1) := by decide +kernel
theorem gdL_law_1775 : decode cL_law 1775 = .ok (.goto 177, 3) := by decide +kernel
theorem gdL_law_1778 : decode cL_law 1778 = .ok (.aload_n 1, 1) := by decide +kernel
theorem gdL_law_1779 : decode cL_law 1779 = .ok (.aload_n 0, 1) := by decide +kernel
theorem gdL_law_1780 : decode cL_law 1780 = .ok (.iload_n 3, 1) := by decide +kernel
theorem gdL_law_1781 : decode cL_law 1781 = .ok (.iconst 1, 1) := by decide +kernel
theorem gdL_law_1782 : decode cL_law 1782 = .ok (.iadd, 1) := by decide +kernel
theorem gdL_law_1783 : decode cL_law 1783 = .ok (.iaload, 1) := by decide +kernel
theorem gdL_law_1784 : decode cL_law 1784 = .ok (.aload_n 0, 1) := by decide +kernel
theorem gdL_law_1785 : decode cL_law 1785 = .ok (.iload_n 3, 1) := by decide +kernel
theorem gdL_law_1786 : decode cL_law 1786 = .ok (.iconst 2, 1) := by decide +kernel
theorem gdL_law_1787 : decode cL_law 1787 = .ok (.iadd, 1) := by decide +kernel
theorem gdL_law_1788 : decode cL_law 1788 = .ok (.iaload, 1) := by decide +kernel
theorem gdL_law_1789 : decode cL_law 1789 = .ok (.aload_n 0, 1) := by decide +kernel
theorem gdL_law_1790 : decode cL_law 1790 = .ok (.iload_n 3, 1) := by decide +kernel
theorem gdL_law_1791 : decode cL_law 1791 = .ok (.iconst 3, 1) := by decide +kernel
theorem gdL_law_1792 : decode cL_law 1792 = .ok (.iadd, 1) := by decide +kernel
theorem gdL_law_1793 : decode cL_law 1793 = .ok (.iaload, 1) := by decide +kernel
theorem gdL_law_1794 : decode cL_law 1794 = .ok (.invokevirtual 205, 3) := by decide +kernel
theorem gdL_law_1797 : decode cL_law 1797 = .ok (.pop, 1) := by decide +kernel
theorem gdL_law_1798 : decode cL_law 1798 = .ok (.aload_n 2, 1) := by decide +kernel
theorem gdL_law_1799 : decode cL_law 1799 = .ok (.aload_n 0, 1) := by decide +kernel
theorem gdL_law_1800 : decode cL_law 1800 = .ok (.iload_n 3, 1) := by decide +kernel
theorem gdL_law_1801 : decode cL_law 1801 = .ok (.iconst 1, 1) := by decide +kernel
theorem gdL_law_1802 : decode cL_law 1802 = .ok (.iadd, 1) := by decide +kernel
theorem gdL_law_1803 : decode cL_law 1803 = .ok (.iaload, 1) := by decide +kernel
theorem gdL_law_1804 : decode cL_law 1804 = .ok (.aload_n 0, 1) := by decide +kernel
theorem gdL_law_1805 : decode cL_law 1805 = .ok (.iload_n 3, 1) := by decide +kernel
theorem gdL_law_1806 : decode cL_law 1806 = .ok (.iconst 2, 1) := by decide +kernel
theorem gdL_law_1807 : decode cL_law 1807 = .ok (.iadd, 1) := by decide +kernel
theorem gdL_law_1808 : decode cL_law 1808 = .ok (.iaload, 1) := by decide +kernel
theorem gdL_law_1809 : decode cL_law 1809 = .ok (.aload_n 0, 1) := by decide +kernel
theorem gdL_law_1810 : decode cL_law 1810 = .ok (.iload_n 3, 1) := by decide +kernel
theorem gdL_law_1811 : decode cL_law 1811 = .ok (.iconst 3, 1) := by decide +kernel
theorem gdL_law_1812 : decode cL_law 1812 = .ok (.iadd, 1) := by decide +kernel
theorem gdL_law_1813 : decode cL_law 1813 = .ok (.iaload, 1) := by decide +kernel
theorem gdL_law_1814 : decode cL_law 1814 = .ok (.invokevirtual 208, 3) := by decide +kernel
theorem gdL_law_1817 : decode cL_law 1817 = .ok (.pop, 1) := by decide +kernel
theorem gdL_law_1818 : decode cL_law 1818 = .ok (.goto 134, 3) := by decide +kernel
theorem gdL_law_1821 : decode cL_law 1821 = .ok (.aload_n 1, 1) := by decide +kernel
theorem gdL_law_1822 : decode cL_law 1822 = .ok (.aload_n 0, 1) := by decide +kernel
theorem gdL_law_1823 : decode cL_law 1823 = .ok (.iload_n 3, 1) := by decide +kernel
theorem gdL_law_1824 : decode cL_law 1824 = .ok (.iconst 1, 1) := by decide +kernel
theorem gdL_law_1825 : decode cL_law 1825 = .ok (.iadd, 1) := by decide +kernel
theorem gdL_law_1826 : decode cL_law 1826 = .ok (.iaload, 1) := by decide +kernel
theorem gdL_law_1827 : decode cL_law 1827 = .ok (.aload_n 0, 1) := by decide +kernel
theorem gdL_law_1828 : decode cL_law 1828 = .ok (.iload_n 3, 1) := by decide +kernel
theorem gdL_law_1829 : decode cL_law 1829 = .ok (.iconst 2, 1) := by decide +kernel
theorem gdL_law_1830 : decode cL_law 1830 = .ok (.iadd, 1) := by decide +kernel
theorem gdL_law_1831 : decode cL_law 1831 = .ok (.iaload, 1) := by decide +kernel
theorem gdL_law_1832 : decode cL_law 1832 = .ok (.invokevirtual 209, 3) := by decide +kernel
theorem gdL_law_1835 : decode cL_law 1835 = .ok (.pop, 1) := by decide +kernel
theorem gdL_law_1836 : decode cL_law 1836 = .ok (.aload_n 2, 1) := by decide +kernel
theorem gdL_law_1837 : decode cL_law 1837 = .ok (.aload_n 0, 1) := by decide +kernel
theorem gdL_law_1838 : decode cL_law 1838 = .ok (.iload_n 3, 1) := by decide +kernel
theorem gdL_law_1839 : decode cL_law 1839 = .ok (.iconst 1, 1) := by decide +kernel
theorem gdL_law_1840 : decode cL_law 1840 = .ok (.iadd, 1) := by decide +kernel
theorem gdL_law_1841 : decode cL_law 1841 = .ok (.iaload, 1) := by decide +kernel
theorem gdL_law_1842 : decode cL_law 1842 = .ok (.aload_n 0, 1) := by decide +kernel
theorem gdL_law_1843 : decode cL_law 1843 = .ok (.iload_n 3, 1) := by decide +kernel
theorem gdL_law_1844 : decode cL_law 1844 = .ok (.iconst 2, 1) := by decide +kernel
theorem gdL_law_1845 : decode cL_law 1845 = .ok (.iadd, 1) := by decide +kernel
theorem gdL_law_1846 : decode cL_law 1846 = .ok (.iaload, 1) := by decide +kernel
theorem gdL_law_1847 : decode cL_law 1847 = .ok (.invokevirtual 212, 3) := by decide +kernel
theorem gdL_law_1850 : decode cL_law 1850 = .ok (.pop, 1) := by decide +kernel
theorem gdL_law_1851 : decode cL_law 1851 = .ok (.goto 101, 3) := by decide +kernel
theorem gdL_law_1854 : decode cL_law 1854 = .ok (.aload_n 1, 1) := by decide +kernel
theorem gdL_law_1855 : decode cL_law 1855 = .ok (.invokevirtual 213, 3) := by decide +kernel
theorem gdL_law_1858 : decode cL_law 1858 = .ok (.pop, 1) := by decide +kernel
theorem gdL_law_1859 : decode cL_law 1859 = .ok (.aload_n 2, 1) := by decide +kernel
theorem gdL_law_1860 : decode cL_law 1860 = .ok (.invokevirtual 216, 3) := by decide +kernel
theorem gdL_law_1863 : decode cL_law 1863 = .ok (.pop, 1) := by decide +kernel
theorem gdL_law_1864 : decode cL_law 1864 = .ok (.goto 88, 3) := by decide +kernel
theorem gdL_law_1867 : decode cL_law 1867 = .ok (.aload_n 1, 1) := by decide +kernel
theorem gdL_law_1868 : decode cL_law 1868 = .ok (.invokevirtual 217, 3) := by decide +kernel
theorem gdL_law_1871 : decode cL_law 1871 = .ok (.pop2, 1) := by decide +kernel
theorem gdL_law_1872 : decode cL_law 1872 = .ok (.aload_n 2, 1) := by decide +kernel
theorem gdL_law_1873 : decode cL_law 1873 = .ok (.invokevirtual 220, 3) := by decide +kernel
theorem gdL_law_1876 : decode cL_law 1876 = .ok (.pop2, 1) := by decide +kernel
theorem gdL_law_1877 : decode cL_law 1877 = .ok (.goto 75, 3) := by decide +kernel
theorem gdL_law_1880 : decode cL_law 1880 = .ok (.aload_n 1, 1) := by decide +kernel
theorem gdL_law_1881 : decode cL_law 1881 = .ok (.aload_n 0, 1) := by decide +kernel
theorem gdL_law_1882 : decode cL_law 1882 = .ok (.iload_n 3, 1) := by decide +kernel
theorem gdL_law_1883 : decode cL_law 1883 = .ok (.iconst 1, 1) := by decide +kernel
theorem gdL_law_1884 : decode cL_law 1884 = .ok (.iadd, 1) := by decide +kernel
theorem gdL_law_1885 : decode cL_law 1885 = .ok (.iaload, 1) := by decide +kernel
theorem gdL_law_1886 : decode cL_law 1886 = .ok (.invokevirtual 221, 3) := by decide +kernel
theorem gdL_law_1889 : decode cL_law 1889 = .ok (.pop, 1) := by decide +kernel
theorem gdL_law_1890 : decode cL_law 1890 = .ok (.aload_n 2, 1) := by decide +kernel
theorem gdL_law_1891 : decode cL_law 1891 = .ok (.aload_n 0, 1) := by decide +kernel
theorem gdL_law_1892 : decode cL_law 1892 = .ok (.iload_n 3, 1) := by decide +kernel
theorem gdL_law_1893 : decode cL_law 1893 = .ok (.iconst 1, 1) := by decide +kernel
theorem gdL_law_1894 : decode cL_law 1894 = .ok (.iadd, 1) := by decide +kernel
theorem gdL_law_1895 : decode cL_law 1895 = .ok (.iaload, 1) := by decide +kernel
theorem gdL_law_1896 : decode cL_law 1896 = .ok (.invokevirtual 224, 3) := by decide +kernel
theorem gdL_law_1899 : decode cL_law 1899 = .ok (.pop, 1) := by decide +kernel
theorem gdL_law_1900 : decode cL_law 1900 = .ok (.goto 52, 3) := by decide +kernel
theorem gdL_law_1903 : decode cL_law 1903 = .ok (.aload_n 1, 1) := by decide +kernel
theorem gdL_law_1904 : decode cL_law 1904 = .ok (.invokevirtual 225, 3) := by decide +kernel
theorem gdL_law_1907 : decode cL_law 1907 = .ok (.pop, 1) := by decide +kernel
theorem gdL_law_1908 : decode cL_law 1908 = .ok (.aload_n 2, 1) := by decide +kernel
theorem gdL_law_1909 : decode cL_law 1909 = .ok (.invokevirtual 228, 3) := by decide +kernel
theorem gdL_law_1912 : decode cL_law 1912 = .ok (.pop, 1) := by decide +kernel
theorem gdL_law_1913 : decode cL_law 1913 = .ok (.goto 39, 3) := by decide +kernel
theorem gdL_law_1916 : decode cL_law 1916 = .ok (.aload_n 1, 1) := by decide +kernel
theorem gdL_law_1917 : decode cL_law 1917 = .ok (.aload_n 0, 1) := by decide +kernel
theorem gdL_law_1918 : decode cL_law 1918 = .ok (.iload_n 3, 1) := by decide +kernel
theorem gdL_law_1919 : decode cL_law 1919 = .ok (.iconst 1, 1) := by decide +kernel
theorem gdL_law_1920 : decode cL_law 1920 = .ok (.iadd, 1) := by decide +kernel
theorem gdL_law_1921 : decode cL_law 1921 = .ok (.iaload, 1) := by decide +kernel
theorem gdL_law_1922 : decode cL_law 1922 = .ok (.invokevirtual 229, 3) := by decide +kernel
theorem gdL_law_1925 : decode cL_law 1925 = .ok (.pop, 1) := by decide +kernel
theorem gdL_law_1926 : decode cL_law 1926 = .ok (.aload_n 2, 1) := by decide +kernel
theorem gdL_law_1927 : decode cL_law 1927 = .ok (.aload_n 0, 1) := by decide +kernel
theorem gdL_law_1928 : decode cL_law 1928 = .ok (.iload_n 3, 1) := by decide +kernel
theorem gdL_law_1929 : decode cL_law 1929 = .ok (.iconst 1, 1) := by decide +kernel
theorem gdL_law_1930 : decode cL_law 1930 = .ok (.iadd, 1) := by decide +kernel
theorem gdL_law_1931 : decode cL_law 1931 = .ok (.iaload, 1) := by decide +kernel
theorem gdL_law_1932 : decode cL_law 1932 = .ok (.invokevirtual 232, 3) := by decide +kernel
theorem gdL_law_1935 : decode cL_law 1935 = .ok (.pop, 1) := by decide +kernel
theorem gdL_law_1936 : decode cL_law 1936 = .ok (.goto 16, 3) := by decide +kernel
theorem gdL_law_1939 : decode cL_law 1939 = .ok (.aload_n 1, 1) := by decide +kernel
theorem gdL_law_1940 : decode cL_law 1940 = .ok (.invokevirtual 233, 3) := by decide +kernel
theorem gdL_law_1943 : decode cL_law 1943 = .ok (.pop2, 1) := by decide +kernel
theorem gdL_law_1944 : decode cL_law 1944 = .ok (.aload_n 2, 1) := by decide +kernel
theorem gdL_law_1945 : decode cL_law 1945 = .ok (.invokevirtual 236, 3) := by decide +kernel
theorem gdL_law_1948 : decode cL_law 1948 = .ok (.pop2, 1) := by decide +kernel
theorem gdL_law_1949 : decode cL_law 1949 = .ok (.goto 3, 3) := by decide +kernel
theorem okm_X11_hearing : okM yX11_hearing cX11_hearing 6 (some .int) 4 := ⟨w_1006, w_89, by decide +kernel, by decide +kernel, by decide +kernel⟩
theorem okw_X11_hearing : okV yX11_hearing := ⟨w_1004, w_1005⟩
theorem okm_X12_hearing : okM yX12_hearing cX12_hearing 6 (some .int) 4 := ⟨w_1956, w_103, by decide +kernel, by decide +kernel, by decide +kernel⟩
theorem okw_X12_hearing : okV yX12_hearing := ⟨w_1954, w_1955⟩
theorem okm_X11_told : okM yX11_told cX11_told 3 (some .int) 2 := ⟨w_1014, w_89, by decide +kernel, by decide +kernel, by decide +kernel⟩
theorem okw_X11_told : okV yX11_told := ⟨w_1012, w_1013⟩
theorem okm_X12_told : okM yX12_told cX12_told 3 (some .int) 2 := ⟨w_1960, w_103, by decide +kernel, by decide +kernel, by decide +kernel⟩
theorem okw_X12_told : okV yX12_told := ⟨w_1958, w_1959⟩
theorem okm_X11_mark : okM yX11_mark cX11_mark 3 (some .int) 2 := ⟨w_1022, w_89, by decide +kernel, by decide +kernel, by decide +kernel⟩
theorem okw_X11_mark : okV yX11_mark := ⟨w_1020, w_1021⟩
theorem okm_X12_mark : okM yX12_mark cX12_mark 4 (some .int) 2 := ⟨w_1968, w_103, by decide +kernel, by decide +kernel, by decide +kernel⟩
theorem okw_X12_mark : okV yX12_mark := ⟨w_1966, w_1967⟩
theorem okm_X11_cost : okM yX11_cost cX11_cost 2 (some .int) 1 := ⟨w_1053, w_89, by decide +kernel, by decide +kernel, by decide +kernel⟩
theorem okw_X11_cost : okV yX11_cost := ⟨w_1051, w_1052⟩
theorem okm_X12_cost : okM yX12_cost cX12_cost 3 (some .int) 1 := ⟨w_1976, w_103, by decide +kernel, by decide +kernel, by decide +kernel⟩
theorem okw_X12_cost : okV yX12_cost := ⟨w_1974, w_1975⟩
theorem okm_X11_shown : okM yX11_shown cX11_shown 2 (some .int) 1 := ⟨w_1061, w_89, by decide +kernel, by decide +kernel, by decide +kernel⟩
theorem okw_X11_shown : okV yX11_shown := ⟨w_1059, w_1060⟩
theorem okm_X12_shown : okM yX12_shown cX12_shown 3 (some .int) 1 := ⟨w_1980, w_103, by decide +kernel, by decide +kernel, by decide +kernel⟩
theorem okw_X12_shown : okV yX12_shown := ⟨w_1978, w_1979⟩
theorem okm_X11_over : okM yX11_over cX11_over 2 (some .int) 1 := ⟨w_1065, w_89, by decide +kernel, by decide +kernel, by decide +kernel⟩
theorem okw_X11_over : okV yX11_over := ⟨w_1063, w_1064⟩
theorem okm_X12_over : okM yX12_over cX12_over 3 (some .int) 1 := ⟨w_1984, w_103, by decide +kernel, by decide +kernel, by decide +kernel⟩
theorem okw_X12_over : okV yX12_over := ⟨w_1982, w_1983⟩
theorem okm_X11_buy : okM yX11_buy cX11_buy 3 (some .int) 2 := ⟨w_1069, w_89, by decide +kernel, by decide +kernel, by decide +kernel⟩
theorem okw_X11_buy : okV yX11_buy := ⟨w_1067, w_1068⟩
theorem okm_X12_buy : okM yX12_buy cX12_buy 3 (some .int) 2 := ⟨w_1988, w_103, by decide +kernel, by decide +kernel, by decide +kernel⟩
theorem okw_X12_buy : okV yX12_buy := ⟨w_1986, w_1987⟩
theorem okm_X11_hear : okM yX11_hear cX11_hear 4 (some .int) 2 := ⟨w_1085, w_89, by decide +kernel, by decide +kernel, by decide +kernel⟩
theorem okw_X11_hear : okV yX11_hear := ⟨w_1083, w_1084⟩
theorem okm_X12_hear : okM yX12_hear cX12_hear 4 (some .int) 2 := ⟨w_1992, w_103, by decide +kernel, by decide +kernel, by decide +kernel⟩
theorem okw_X12_hear : okV yX12_hear := ⟨w_1990, w_1991⟩
theorem okm_X11_early : okM yX11_early cX11_early 5 (some .int) 1 := ⟨w_1101, w_89, by decide +kernel, by decide +kernel, by decide +kernel⟩
theorem okw_X11_early : okV yX11_early := ⟨w_1099, w_1100⟩
theorem okm_X12_early : okM yX12_early cX12_early 9 (some .int) 1 := ⟨w_2000, w_103, by decide +kernel, by decide +kernel, by decide +kernel⟩
theorem okw_X12_early : okV yX12_early := ⟨w_1998, w_1999⟩
theorem okm_X11_whither : okM yX11_whither cX11_whither 2 (some .int) 1 := ⟨w_1130, w_89, by decide +kernel, by decide +kernel, by decide +kernel⟩
theorem okw_X11_whither : okV yX11_whither := ⟨w_1128, w_1129⟩
theorem okm_X12_whither : okM yX12_whither cX12_whither 10 (some .int) 1 := ⟨w_2008, w_103, by decide +kernel, by decide +kernel, by decide +kernel⟩
theorem okw_X12_whither : okV yX12_whither := ⟨w_2006, w_2007⟩
theorem okm_X11_fall : okM yX11_fall cX11_fall 13 (some .int) 2 := ⟨w_1174, w_89, by decide +kernel, by decide +kernel, by decide +kernel⟩
theorem okw_X11_fall : okV yX11_fall := ⟨w_1172, w_1173⟩
theorem okm_X12_fall : okM yX12_fall cX12_fall 16 (some .int) 2 := ⟨w_2024, w_103, by decide +kernel, by decide +kernel, by decide +kernel⟩
theorem okw_X12_fall : okV yX12_fall := ⟨w_2022, w_2023⟩
theorem okm_X11_noise : okM yX11_noise cX11_noise 5 (some .int) 2 := ⟨w_1204, w_89, by decide +kernel, by decide +kernel, by decide +kernel⟩
theorem okw_X11_noise : okV yX11_noise := ⟨w_1202, w_1203⟩
theorem okm_X12_noise : okM yX12_noise cX12_noise 3 (some .int) 2 := ⟨w_2033, w_103, by decide +kernel, by decide +kernel, by decide +kernel⟩
theorem okw_X12_noise : okV yX12_noise := ⟨w_2031, w_2032⟩
theorem okm_X11_park : okM yX11_park cX11_park 3 (some .int) 1 := ⟨w_1220, w_89, by decide +kernel, by decide +kernel, by decide +kernel⟩
theorem okw_X11_park : okV yX11_park := ⟨w_1218, w_1219⟩
theorem okm_X12_park : okM yX12_park cX12_park 3 (some .int) 1 := ⟨w_2045, w_103, by decide +kernel, by decide +kernel, by decide +kernel⟩
theorem okw_X12_park : okV yX12_park := ⟨w_2043, w_2044⟩
theorem okm_X11_isVoid : okM yX11_isVoid cX11_isVoid 3 (some .int) 1 := ⟨w_1229, w_89, by decide +kernel, by decide +kernel, by decide +kernel⟩
theorem okw_X11_isVoid : okV yX11_isVoid := ⟨w_1227, w_1228⟩
theorem okm_X12_isVoid : okM yX12_isVoid cX12_isVoid 2 (some .int) 1 := ⟨w_2053, w_103, by decide +kernel, by decide +kernel, by decide +kernel⟩
theorem okw_X12_isVoid : okV yX12_isVoid := ⟨w_2051, w_2052⟩
theorem okm_X11_owed : okM yX11_owed cX11_owed 5 (some .int) 0 := ⟨w_1253, w_89, by decide +kernel, by decide +kernel, by decide +kernel⟩
theorem okw_X11_owed : okV yX11_owed := ⟨w_1251, w_1252⟩
theorem okm_X12_owed : okM yX12_owed cX12_owed 3 (some .int) 0 := ⟨w_2065, w_103, by decide +kernel, by decide +kernel, by decide +kernel⟩
theorem okw_X12_owed : okV yX12_owed := ⟨w_2063, w_2064⟩
theorem okm_X11_coins : okM yX11_coins cX11_coins 1 (some .long) 0 := ⟨w_1257, w_89, by decide +kernel, by decide +kernel, by decide +kernel⟩
theorem okw_X11_coins : okV yX11_coins := ⟨w_1255, w_1256⟩
theorem okm_X12_coins : okM yX12_coins cX12_coins 1 (some .long) 0 := ⟨w_2069, w_103, by decide +kernel, by decide +kernel, by decide +kernel⟩
theorem okw_X12_coins : okV yX12_coins := ⟨w_2067, w_2068⟩
theorem okm_X11_acts : okM yX11_acts cX11_acts 3 (some .int) 1 := ⟨w_1261, w_89, by decide +kernel, by decide +kernel, by decide +kernel⟩
theorem okw_X11_acts : okV yX11_acts := ⟨w_1259, w_1260⟩
theorem okm_X12_acts : okM yX12_acts cX12_acts 12 (some .int) 1 := ⟨w_2073, w_103, by decide +kernel, by decide +kernel, by decide +kernel⟩
theorem okw_X12_acts : okV yX12_acts := ⟨w_2071, w_2072⟩
theorem okm_X11_act : okM yX11_act cX11_act 2 (some .int) 1 := ⟨w_1301, w_89, by decide +kernel, by decide +kernel, by decide +kernel⟩
theorem okw_X11_act : okV yX11_act := ⟨w_1299, w_1300⟩
theorem okm_X12_act : okM yX12_act cX12_act 2 (some .int) 1 := ⟨w_2081, w_103, by decide +kernel, by decide +kernel, by decide +kernel⟩
theorem okw_X12_act : okV yX12_act := ⟨w_2079, w_2080⟩
theorem okm_X11_grants : okM yX11_grants cX11_grants 5 (some .int) 2 := ⟨w_1317, w_89, by decide +kernel, by decide +kernel, by decide +kernel⟩
theorem okw_X11_grants : okV yX11_grants := ⟨w_1315, w_1316⟩
theorem okm_X12_grants : okM yX12_grants cX12_grants 4 (some .int) 2 := ⟨w_2085, w_103, by decide +kernel, by decide +kernel, by decide +kernel⟩
theorem okw_X12_grants : okV yX12_grants := ⟨w_2083, w_2084⟩
theorem okm_X11_stop : okM yX11_stop cX11_stop 5 (some .int) 2 := ⟨w_1322, w_89, by decide +kernel, by decide +kernel, by decide +kernel⟩
theorem okw_X11_stop : okV yX11_stop := ⟨w_1320, w_1321⟩
theorem okm_X12_stop : okM yX12_stop cX12_stop 7 (some .int) 2 := ⟨w_2090, w_103, by decide +kernel, by decide +kernel, by decide +kernel⟩
theorem okw_X12_stop : okV yX12_stop := ⟨w_2088, w_2089⟩
theorem okm_X11_judge : okM yX11_judge cX11_judge 5 (some .int) 3 := ⟨w_1372, w_89, by decide +kernel, by decide +kernel, by decide +kernel⟩
theorem okw_X11_judge : okV yX11_judge := ⟨w_1370, w_1371⟩
theorem okm_X12_judge : okM yX12_judge cX12_judge 5 (some .int) 3 := ⟨w_2109, w_103, by decide +kernel, by decide +kernel, by decide +kernel⟩
theorem okw_X12_judge : okV yX12_judge := ⟨w_2107, w_2108⟩
theorem okm_X11_best : okM yX11_best cX11_best 8 (some .int) 2 := ⟨w_1384, w_89, by decide +kernel, by decide +kernel, by decide +kernel⟩
theorem okw_X11_best : okV yX11_best := ⟨w_1382, w_1383⟩
theorem okm_X12_best : okM yX12_best cX12_best 8 (some .int) 2 := ⟨w_2121, w_103, by decide +kernel, by decide +kernel, by decide +kernel⟩
theorem okw_X12_best : okV yX12_best := ⟨w_2119, w_2120⟩
theorem okm_X11_asked : okM yX11_asked cX11_asked 1 (some .int) 0 := ⟨w_1388, w_89, by decide +kernel, by decide +kernel, by decide +kernel⟩
theorem okw_X11_asked : okV yX11_asked := ⟨w_1386, w_1387⟩
theorem okm_X12_asked : okM yX12_asked cX12_asked 1 (some .int) 0 := ⟨w_2125, w_103, by decide +kernel, by decide +kernel, by decide +kernel⟩
theorem okw_X12_asked : okV yX12_asked := ⟨w_2123, w_2124⟩
theorem okm_X11_set : okM yX11_set cX11_set 1 (some .long) 0 := ⟨w_1392, w_89, by decide +kernel, by decide +kernel, by decide +kernel⟩
theorem okw_X11_set : okV yX11_set := ⟨w_1390, w_1391⟩
theorem okm_X12_set : okM yX12_set cX12_set 1 (some .long) 0 := ⟨w_2129, w_103, by decide +kernel, by decide +kernel, by decide +kernel⟩
theorem okw_X12_set : okV yX12_set := ⟨w_2127, w_2128⟩
theorem okm_X12_count : okM yX12_count cX12_count 2 (some .int) 1 := ⟨w_2133, w_103, by decide +kernel, by decide +kernel, by decide +kernel⟩
theorem okw_X12_count : okV yX12_count := ⟨w_2131, w_2132⟩
theorem okm_X11_finding : okM yX11_finding cX11_finding 1 (some .int) 0 := ⟨w_1413, w_89, by decide +kernel, by decide +kernel, by decide +kernel⟩
theorem okw_X11_finding : okV yX11_finding := ⟨w_1411, w_1412⟩
theorem okm_X12_finding : okM yX12_finding cX12_finding 1 (some .int) 0 := ⟨w_2141, w_103, by decide +kernel, by decide +kernel, by decide +kernel⟩
theorem okw_X12_finding : okV yX12_finding := ⟨w_2139, w_2140⟩
theorem okm_X11_findings : okM yX11_findings cX11_findings 2 (some .int) 1 := ⟨w_1417, w_89, by decide +kernel, by decide +kernel, by decide +kernel⟩
theorem okw_X11_findings : okV yX11_findings := ⟨w_1415, w_1416⟩
theorem okm_X12_findings : okM yX12_findings cX12_findings 2 (some .int) 1 := ⟨w_2145, w_103, by decide +kernel, by decide +kernel, by decide +kernel⟩
theorem okw_X12_findings : okV yX12_findings := ⟨w_2143, w_2144⟩
theorem okm_X11_digest : okM yX11_digest cX11_digest 4 (some .long) 0 := ⟨w_1421, w_89, by decide +kernel, by decide +kernel, by decide +kernel⟩
theorem okw_X11_digest : okV yX11_digest := ⟨w_1419, w_1420⟩
theorem okm_X12_digest : okM yX12_digest cX12_digest 3 (some .long) 0 := ⟨w_2149, w_103, by decide +kernel, by decide +kernel, by decide +kernel⟩
theorem okw_X12_digest : okV yX12_digest := ⟨w_2147, w_2148⟩
set_option maxHeartbeats 4000000 in
set_option maxRecDepth 100000 in
theorem law_26 (l : Launch) (g : GG) {p : Program} {e : Env} {s : State} {m : MethodId} {below : List Frame} {meth : Method} {c : Code} {b L : Nat} {scr : Nat → Int32} {A : Nat → Prop} {Q : State → Prop} {cells slots : Nat} {H : Heap} {locs : List Loc} {ls : Array Slot} {adC adM : Nat → Nat} {oC oM : OO} {B i : Int} (X : En p s m #[Value.ref b] meth c cL_law 4 ret R_law meth.name) (hK : va_K g.1 classes (tyG g) s) (hA : ∀ q, s.heap.size ≤ q → A q) (hZ : stS g A s s.heap) (hX : va_X b L scr s s.heap) (hbl : b < s.heap.size) (hbA : ¬ A b) (hcs : cells + 0 ≤ room_1.cells ∧ slots + 0 ≤ room_1.slots) (hL : L ≤ 3072) (i0 : 0 ≤ i) (i1 : i + 6 ≤ (L : Int)) (hB0 : 0 ≤ B) (hB1 : B ≤ 379000000) (invC : INVC oC B) (invM : INVM oM) (hR : REL oC oM) (hP : va_P g.1 classes (wC g adC oC ++ wM g adM oM) H) (hD : va_D A (wC g adC oC ++ wM g adM oM)) (hS : va_S A s.heap H locs) (hl : lv_has ls 4 [(3, iv i), (2, .ref (adM 0)), (1, .ref (adC 0)), (0, .ref b)])
    (kend : ∀ (oC oM : OO) (H : Heap) (locs : List Loc) (ls : Array Slot), INVC oC (B + 740000) → INVM oM → REL oC oM → va_P g.1 classes (wC g adC oC ++ wM g adM oM) H → va_D A (wC g adC oC ++ wM g adM oM) → va_S A s.heap H locs → lv_has ls 4 [(3, iv i), (2, .ref (adM 0)), (1, .ref (adC 0)), (0, .ref b)] → W p l e room_1 s m #[Value.ref b] below meth c H locs cells slots Q (F0 m 1952 ls [])) : W p l e room_1 s m #[Value.ref b] below meth c H locs cells slots Q (F0 m 1228 ls []) := by
  have hx := X.1
  have hb := X.2.1
  have sr1 := scr_R scr i 1
  have sr2 := scr_R scr i 2
  have sr3 := scr_R scr i 3
  have sr4 := scr_R scr i 4
  have sr5 := scr_R scr i 5
  have iC0 := invC
  have iM0 := invM
  refine lv_aload_n hx hb gdL_law_1228 rfl (lv_at hl 2 rfl) ?_
  refine lv_aload_n hx hb gdL_law_1229 rfl (lv_at hl 3 rfl) ?_
  refine lv_iload_n hx hb gdL_law_1230 rfl (lv_at hl 0 rfl) ?_
  refine lv_iconst (v := Int32.ofInt 1) hx hb gdL_law_1231 rfl ?_
  refine lv_iadd hx hb gdL_law_1232 (lv_topk (oi_add i 1) ?_)
  refine va_sld hx hb hX hbl hbA hS (vin (by omega) (by omega) hL) gdL_law_1233 ?_
  refine lv_topk (scr_i scr i 1) ?_
  refine lv_aload_n hx hb gdL_law_1234 rfl (lv_at hl 3 rfl) ?_
  refine lv_iload_n hx hb gdL_law_1235 rfl (lv_at hl 0 rfl) ?_
  refine lv_iconst (v := Int32.ofInt 2) hx hb gdL_law_1236 rfl ?_
  refine lv_iadd hx hb gdL_law_1237 (lv_topk (oi_add i 2) ?_)
  refine va_sld hx hb hX hbl hbA hS (vin (by omega) (by omega) hL) gdL_law_1238 ?_
  refine lv_topk (scr_i scr i 2) ?_
  refine lv_aload_n hx hb gdL_law_1239 rfl (lv_at hl 3 rfl) ?_
  refine lv_iload_n hx hb gdL_law_1240 rfl (lv_at hl 0 rfl) ?_
  refine lv_iconst (v := Int32.ofInt 3) hx hb gdL_law_1241 rfl ?_
  refine lv_iadd hx hb gdL_law_1242 (lv_topk (oi_add i 3) ?_)
  refine va_sld hx hb hX hbl hbA hS (vin (by omega) (by omega) hL) gdL_law_1243 ?_
  refine lv_topk (scr_i scr i 3) ?_
  refine lv_aload_n hx hb gdL_law_1244 rfl (lv_at hl 3 rfl) ?_
  refine lv_iload_n hx hb gdL_law_1245 rfl (lv_at hl 0 rfl) ?_
  refine lv_iconst (v := Int32.ofInt 4) hx hb gdL_law_1246 rfl ?_
  refine lv_iadd hx hb gdL_law_1247 (lv_topk (oi_add i 4) ?_)
  refine va_sld hx hb hX hbl hbA hS (vin (by omega) (by omega) hL) gdL_law_1248 ?_
  refine lv_topk (scr_i scr i 4) ?_
  obtain ⟨v0, hv0, hq0⟩ := t_X11_hearing oC (scr_ scr i 1) (scr_ scr i 2) (scr_ scr i 3) (scr_ scr i 4) invC.1 (by omega) (by omega) (by omega) (by omega)
  refine kCi (oC := oC) (oM := oM) X (c_X11_hearing l g adC oC (scr_ scr i 1) (scr_ scr i 2) (scr_ scr i 3) (scr_ scr i 4) v0 hv0) rfl okm_X11_hearing okw_X11_hearing w_1003 rfl hK hP hD hS hA hZ hl.1 rfl (Nat.le_of_ble_eq_true rfl) ⟨(Nat.le_of_ble_eq_true rfl), (Nat.le_of_ble_eq_true rfl)⟩ gdL_law_1249 hcs (fun H locs hP hD hS => ?_)
  replace hq0 : BoxC v0.2 ∧ (Fr [(0, 17), (32, 13), (33, 9999), (34, 9999), (35, 9999), (40, 9999), (42, 9999), (43, 9999), (44, 9999), (77, 9999)] oC v0.2) := hq0
  replace invC : INVC v0.2 (B + 740000) := invC.fr hB0 hq0.1 hq0.2 rfl rfl (fun _ => rfl) (fun _ => rfl) (fun _ => rfl) (fun _ => rfl) (fun _ => rfl) (fun _ => rfl)
  refine lv_pop hx hb gdL_law_1252 rfl ?_
  refine lv_aload_n hx hb gdL_law_1253 rfl (lv_at hl 1 rfl) ?_
  refine lv_aload_n hx hb gdL_law_1254 rfl (lv_at hl 3 rfl) ?_
  refine lv_iload_n hx hb gdL_law_1255 rfl (lv_at hl 0 rfl) ?_
  refine lv_iconst (v := Int32.ofInt 1) hx hb gdL_law_1256 rfl ?_
  refine lv_iadd hx hb gdL_law_1257 (lv_topk (oi_add i 1) ?_)
  refine va_sld hx hb hX hbl hbA hS (vin (by omega) (by omega) hL) gdL_law_1258 ?_
  refine lv_topk (scr_i scr i 1) ?_
  refine lv_aload_n hx hb gdL_law_1259 rfl (lv_at hl 3 rfl) ?_
  refine lv_iload_n hx hb gdL_law_1260 rfl (lv_at hl 0 rfl) ?_
  refine lv_iconst (v := Int32.ofInt 2) hx hb gdL_law_1261 rfl ?_
  refine lv_iadd hx hb gdL_law_1262 (lv_topk (oi_add i 2) ?_)
  refine va_sld hx hb hX hbl hbA hS (vin (by omega) (by omega) hL) gdL_law_1263 ?_
  refine lv_topk (scr_i scr i 2) ?_
  refine lv_aload_n hx hb gdL_law_1264 rfl (lv_at hl 3 rfl) ?_
  refine lv_iload_n hx hb gdL_law_1265 rfl (lv_at hl 0 rfl) ?_
  refine lv_iconst (v := Int32.ofInt 3) hx hb gdL_law_1266 rfl ?_
  refine lv_iadd hx hb gdL_law_1267 (lv_topk (oi_add i 3) ?_)
  refine va_sld hx hb hX hbl hbA hS (vin (by omega) (by omega) hL) gdL_law_1268 ?_
  refine lv_topk (scr_i scr i 3) ?_
  refine lv_aload_n hx hb gdL_law_1269 rfl (lv_at hl 3 rfl) ?_
  refine lv_iload_n hx hb gdL_law_1270 rfl (lv_at hl 0 rfl) ?_
  refine lv_iconst (v := Int32.ofInt 4) hx hb gdL_law_1271 rfl ?_
  refine lv_iadd hx hb gdL_law_1272 (lv_topk (oi_add i 4) ?_)
  refine va_sld hx hb hX hbl hbA hS (vin (by omega) (by omega) hL) gdL_law_1273 ?_
  refine lv_topk (scr_i scr i 4) ?_
  obtain ⟨v1, hv1, hq1⟩ := t_X12_hearing oM (scr_ scr i 1) (scr_ scr i 2) (scr_ scr i 3) (scr_ scr i 4) invM.1 (by omega) (by omega) (by omega) (by omega)
  refine kMi (oC := v0.2) (oM := oM) X (c_X12_hearing l g adM oM (scr_ scr i 1) (scr_ scr i 2) (scr_ scr i 3) (scr_ scr i 4) v1 hv1) rfl okm_X12_hearing okw_X12_hearing w_1953 rfl hK hP hD hS hA hZ hl.1 rfl (Nat.le_of_ble_eq_true rfl) ⟨(Nat.le_of_ble_eq_true rfl), (Nat.le_of_ble_eq_true rfl)⟩ gdL_law_1274 hcs (fun H locs hP hD hS => ?_)
  replace hq1 : BoxM v1.2 ∧ (Fr [(0, 0), (0, 32), (1, 9999), (25, 9999), (26, 9999), (27, 9999), (29, 9999), (30, 9999), (35, 9999), (36, 9999), (37, 9999)] oM v1.2) := hq1
  replace invM : INVM v1.2 := invM.fr hq1.1 hq1.2 rfl rfl (fun _ => rfl)
  refine lv_pop hx hb gdL_law_1277 rfl ?_
  refine lv_goto (tgt := 1952) hx hb gdL_law_1278 (by decide) ?_
  have hR9 : REL v0.2 v1.2 := ⟨hR.1.fr hq0.2 hq1.2 (fun _ => rfl) (fun _ => rfl) (fun _ => rfl) (fun _ => rfl), hR.2.1.fr hq0.2 hq1.2 (fun _ => rfl) (fun _ => rfl) (fun _ => rfl) (fun _ => rfl), day_fr hR.2.2.1 hq0.2 hq1.2 rfl rfl, hR.2.2.2.1.fr hq0.2 hq1.2 rfl rfl (fun _ => rfl) (fun _ => rfl) (fun _ => rfl) (fun _ => rfl) (fun _ => rfl) (fun _ => rfl), hR.2.2.2.2.fr hq0.2 hq1.2 rfl rfl (fun _ => rfl) (fun _ => rfl)⟩
  exact kend v0.2 v1.2 _ _ _ invC invM hR9 hP hD hS hl
set_option maxHeartbeats 4000000 in
set_option maxRecDepth 100000 in
theorem law_27 (l : Launch) (g : GG) {p : Program} {e : Env} {s : State} {m : MethodId} {below : List Frame} {meth : Method} {c : Code} {b L : Nat} {scr : Nat → Int32} {A : Nat → Prop} {Q : State → Prop} {cells slots : Nat} {H : Heap} {locs : List Loc} {ls : Array Slot} {adC adM : Nat → Nat} {oC oM : OO} {B i : Int} (X : En p s m #[Value.ref b] meth c cL_law 4 ret R_law meth.name) (hK : va_K g.1 classes (tyG g) s) (hA : ∀ q, s.heap.size ≤ q → A q) (hZ : stS g A s s.heap) (hX : va_X b L scr s s.heap) (hbl : b < s.heap.size) (hbA : ¬ A b) (hcs : cells + 0 ≤ room_1.cells ∧ slots + 0 ≤ room_1.slots) (hL : L ≤ 3072) (i0 : 0 ≤ i) (i1 : i + 6 ≤ (L : Int)) (hB0 : 0 ≤ B) (hB1 : B ≤ 379000000) (invC : INVC oC B) (invM : INVM oM) (hR : REL oC oM) (hP : va_P g.1 classes (wC g adC oC ++ wM g adM oM) H) (hD : va_D A (wC g adC oC ++ wM g adM oM)) (hS : va_S A s.heap H locs) (hl : lv_has ls 4 [(3, iv i), (2, .ref (adM 0)), (1, .ref (adC 0)), (0, .ref b)])
    (kend : ∀ (oC oM : OO) (H : Heap) (locs : List Loc) (ls : Array Slot), INVC oC (B + 740000) → INVM oM → REL oC oM → va_P g.1 classes (wC g adC oC ++ wM g adM oM) H → va_D A (wC g adC oC ++ wM g adM oM) → va_S A s.heap H locs → lv_has ls 4 [(3, iv i), (2, .ref (adM 0)), (1, .ref (adC 0)), (0, .ref b)] → W p l e room_1 s m #[Value.ref b] below meth c H locs cells slots Q (F0 m 1952 ls [])) : W p l e room_1 s m #[Value.ref b] below meth c H locs cells slots Q (F0 m 1281 ls []) := by
  have hx := X.1
  have hb := X.2.1
  have sr1 := scr_R scr i 1
  have sr2 := scr_R scr i 2
  have sr3 := scr_R scr i 3
  have sr4 := scr_R scr i 4
  have sr5 := scr_R scr i 5
  have iC0 := invC
  have iM0 := invM
  refine lv_aload_n hx hb gdL_law_1281 rfl (lv_at hl 2 rfl) ?_
  refine lv_aload_n hx hb gdL_law_1282 rfl (lv_at hl 3 rfl) ?_
  refine lv_iload_n hx hb gdL_law_1283 rfl (lv_at hl 0 rfl) ?_
  refine lv_iconst (v := Int32.ofInt 1) hx hb gdL_law_1284 rfl ?_
  refine lv_iadd hx hb gdL_law_1285 (lv_topk (oi_add i 1) ?_)
  refine va_sld hx hb hX hbl hbA hS (vin (by omega) (by omega) hL) gdL_law_1286 ?_
  refine lv_topk (scr_i scr i 1) ?_
  refine lv_aload_n hx hb gdL_law_1287 rfl (lv_at hl 3 rfl) ?_
  refine lv_iload_n hx hb gdL_law_1288 rfl (lv_at hl 0 rfl) ?_
  refine lv_iconst (v := Int32.ofInt 2) hx hb gdL_law_1289 rfl ?_
  refine lv_iadd hx hb gdL_law_1290 (lv_topk (oi_add i 2) ?_)
  refine va_sld hx hb hX hbl hbA hS (vin (by omega) (by omega) hL) gdL_law_1291 ?_
  refine lv_topk (scr_i scr i 2) ?_
  obtain ⟨v0, hv0, hq0⟩ := t_X11_told oC (scr_ scr i 1) (scr_ scr i 2) invC.1 (by omega) (by omega)
  refine kCi (oC := oC) (oM := oM) X (c_X11_told l g adC oC (scr_ scr i 1) (scr_ scr i 2) v0 hv0) rfl okm_X11_told okw_X11_told w_1011 rfl hK hP hD hS hA hZ hl.1 rfl (Nat.le_of_ble_eq_true rfl) ⟨(Nat.le_of_ble_eq_true rfl), (Nat.le_of_ble_eq_true rfl)⟩ gdL_law_1292 hcs (fun H locs hP hD hS => ?_)
  replace hq0 : BoxC v0.2 ∧ (Fr [(0, 14)] oC v0.2) := hq0
  replace invC : INVC v0.2 (B + 740000) := invC.fr hB0 hq0.1 hq0.2 rfl rfl (fun _ => rfl) (fun _ => rfl) (fun _ => rfl) (fun _ => rfl) (fun _ => rfl) (fun _ => rfl)
  refine lv_pop hx hb gdL_law_1295 rfl ?_
  refine lv_aload_n hx hb gdL_law_1296 rfl (lv_at hl 1 rfl) ?_
  refine lv_aload_n hx hb gdL_law_1297 rfl (lv_at hl 3 rfl) ?_
  refine lv_iload_n hx hb gdL_law_1298 rfl (lv_at hl 0 rfl) ?_
  refine lv_iconst (v := Int32.ofInt 1) hx hb gdL_law_1299 rfl ?_
  refine lv_iadd hx hb gdL_law_1300 (lv_topk (oi_add i 1) ?_)
  refine va_sld hx hb hX hbl hbA hS (vin (by omega) (by omega) hL) gdL_law_1301 ?_
  refine lv_topk (scr_i scr i 1) ?_
  refine lv_aload_n hx hb gdL_law_1302 rfl (lv_at hl 3 rfl) ?_
  refine lv_iload_n hx hb gdL_law_1303 rfl (lv_at hl 0 rfl) ?_
  refine lv_iconst (v := Int32.ofInt 2) hx hb gdL_law_1304 rfl ?_
  refine lv_iadd hx hb gdL_law_1305 (lv_topk (oi_add i 2) ?_)
  refine va_sld hx hb hX hbl hbA hS (vin (by omega) (by omega) hL) gdL_law_1306 ?_
  refine lv_topk (scr_i scr i 2) ?_
  obtain ⟨v1, hv1, hq1⟩ := t_X12_told oM (scr_ scr i 1) (scr_ scr i 2) invM.1 (by omega) (by omega)
  refine kMi (oC := v0.2) (oM := oM) X (c_X12_told l g adM oM (scr_ scr i 1) (scr_ scr i 2) v1 hv1) rfl okm_X12_told okw_X12_told w_1957 rfl hK hP hD hS hA hZ hl.1 rfl (Nat.le_of_ble_eq_true rfl) ⟨(Nat.le_of_ble_eq_true rfl), (Nat.le_of_ble_eq_true rfl)⟩ gdL_law_1307 hcs (fun H locs hP hD hS => ?_)
  replace hq1 : BoxM v1.2 ∧ (Fr [(0, 2)] oM v1.2) := hq1
  replace invM : INVM v1.2 := invM.fr hq1.1 hq1.2 rfl rfl (fun _ => rfl)
  refine lv_pop hx hb gdL_law_1310 rfl ?_
  refine lv_goto (tgt := 1952) hx hb gdL_law_1311 (by decide) ?_
  have hR9 : REL v0.2 v1.2 := ⟨hR.1.fr hq0.2 hq1.2 (fun _ => rfl) (fun _ => rfl) (fun _ => rfl) (fun _ => rfl), hR.2.1.fr hq0.2 hq1.2 (fun _ => rfl) (fun _ => rfl) (fun _ => rfl) (fun _ => rfl), day_fr hR.2.2.1 hq0.2 hq1.2 rfl rfl, hR.2.2.2.1.fr hq0.2 hq1.2 rfl rfl (fun _ => rfl) (fun _ => rfl) (fun _ => rfl) (fun _ => rfl) (fun _ => rfl) (fun _ => rfl), hR.2.2.2.2.fr hq0.2 hq1.2 rfl rfl (fun _ => rfl) (fun _ => rfl)⟩
  exact kend v0.2 v1.2 _ _ _ invC invM hR9 hP hD hS hl
set_option maxHeartbeats 4000000 in
set_option maxRecDepth 100000 in
theorem law_28 (l : Launch) (g : GG) {p : Program} {e : Env} {s : State} {m : MethodId} {below : List Frame} {meth : Method} {c : Code} {b L : Nat} {scr : Nat → Int32} {A : Nat → Prop} {Q : State → Prop} {cells slots : Nat} {H : Heap} {locs : List Loc} {ls : Array Slot} {adC adM : Nat → Nat} {oC oM : OO} {B i : Int} (X : En p s m #[Value.ref b] meth c cL_law 4 ret R_law meth.name) (hK : va_K g.1 classes (tyG g) s) (hA : ∀ q, s.heap.size ≤ q → A q) (hZ : stS g A s s.heap) (hX : va_X b L scr s s.heap) (hbl : b < s.heap.size) (hbA : ¬ A b) (hcs : cells + 0 ≤ room_1.cells ∧ slots + 0 ≤ room_1.slots) (hL : L ≤ 3072) (i0 : 0 ≤ i) (i1 : i + 6 ≤ (L : Int)) (hB0 : 0 ≤ B) (hB1 : B ≤ 379000000) (invC : INVC oC B) (invM : INVM oM) (hR : REL oC oM) (hP : va_P g.1 classes (wC g adC oC ++ wM g adM oM) H) (hD : va_D A (wC g adC oC ++ wM g adM oM)) (hS : va_S A s.heap H locs) (hl : lv_has ls 4 [(3, iv i), (2, .ref (adM 0)), (1, .ref (adC 0)), (0, .ref b)])
    (kend : ∀ (oC oM : OO) (H : Heap) (locs : List Loc) (ls : Array Slot), INVC oC (B + 740000) → INVM oM → REL oC oM → va_P g.1 classes (wC g adC oC ++ wM g adM oM) H → va_D A (wC g adC oC ++ wM g adM oM) → va_S A s.heap H locs → lv_has ls 4 [(3, iv i), (2, .ref (adM 0)), (1, .ref (adC 0)), (0, .ref b)] → W p l e room_1 s m #[Value.ref b] below meth c H locs cells slots Q (F0 m 1952 ls [])) : W p l e room_1 s m #[Value.ref b] below meth c H locs cells slots Q (F0 m 1314 ls []) := by
  have hx := X.1
  have hb := X.2.1
  have sr1 := scr_R scr i 1
  have sr2 := scr_R scr i 2
  have sr3 := scr_R scr i 3
  have sr4 := scr_R scr i 4
  have sr5 := scr_R scr i 5
  have iC0 := invC
  have iM0 := invM
  refine lv_aload_n hx hb gdL_law_1314 rfl (lv_at hl 2 rfl) ?_
  refine lv_aload_n hx hb gdL_law_1315 rfl (lv_at hl 3 rfl) ?_
  refine lv_iload_n hx hb gdL_law_1316 rfl (lv_at hl 0 rfl) ?_
  refine lv_iconst (v := Int32.ofInt 1) hx hb gdL_law_1317 rfl ?_
  refine lv_iadd hx hb gdL_law_1318 (lv_topk (oi_add i 1) ?_)
  refine va_sld hx hb hX hbl hbA hS (vin (by omega) (by omega) hL) gdL_law_1319 ?_
  refine lv_topk (scr_i scr i 1) ?_
  refine lv_aload_n hx hb gdL_law_1320 rfl (lv_at hl 3 rfl) ?_
  refine lv_iload_n hx hb gdL_law_1321 rfl (lv_at hl 0 rfl) ?_
  refine lv_iconst (v := Int32.ofInt 2) hx hb gdL_law_1322 rfl ?_
  refine lv_iadd hx hb gdL_law_1323 (lv_topk (oi_add i 2) ?_)
  refine va_sld hx hb hX hbl hbA hS (vin (by omega) (by omega) hL) gdL_law_1324 ?_
  refine lv_topk (scr_i scr i 2) ?_
  obtain ⟨v0, hv0, hq0⟩ := t_X11_mark oC (scr_ scr i 1) (scr_ scr i 2) invC.1 (by omega) (by omega)
  refine kCi (oC := oC) (oM := oM) X (c_X11_mark l g adC oC (scr_ scr i 1) (scr_ scr i 2) v0 hv0) rfl okm_X11_mark okw_X11_mark w_1019 rfl hK hP hD hS hA hZ hl.1 rfl (Nat.le_of_ble_eq_true rfl) ⟨(Nat.le_of_ble_eq_true rfl), (Nat.le_of_ble_eq_true rfl)⟩ gdL_law_1325 hcs (fun H locs hP hD hS => ?_)
  replace hq0 : BoxC v0.2 ∧ (Fr [(0, 17), (77, 9999)] oC v0.2) := hq0
  replace invC : INVC v0.2 (B + 740000) := invC.fr hB0 hq0.1 hq0.2 rfl rfl (fun _ => rfl) (fun _ => rfl) (fun _ => rfl) (fun _ => rfl) (fun _ => rfl) (fun _ => rfl)
  refine lv_pop hx hb gdL_law_1328 rfl ?_
  refine lv_aload_n hx hb gdL_law_1329 rfl (lv_at hl 1 rfl) ?_
  refine lv_aload_n hx hb gdL_law_1330 rfl (lv_at hl 3 rfl) ?_
  refine lv_iload_n hx hb gdL_law_1331 rfl (lv_at hl 0 rfl) ?_
  refine lv_iconst (v := Int32.ofInt 1) hx hb gdL_law_1332 rfl ?_
  refine lv_iadd hx hb gdL_law_1333 (lv_topk (oi_add i 1) ?_)
  refine va_sld hx hb hX hbl hbA hS (vin (by omega) (by omega) hL) gdL_law_1334 ?_
  refine lv_topk (scr_i scr i 1) ?_
  refine lv_aload_n hx hb gdL_law_1335 rfl (lv_at hl 3 rfl) ?_
  refine lv_iload_n hx hb gdL_law_1336 rfl (lv_at hl 0 rfl) ?_
  refine lv_iconst (v := Int32.ofInt 2) hx hb gdL_law_1337 rfl ?_
  refine lv_iadd hx hb gdL_law_1338 (lv_topk (oi_add i 2) ?_)
  refine va_sld hx hb hX hbl hbA hS (vin (by omega) (by omega) hL) gdL_law_1339 ?_
  refine lv_topk (scr_i scr i 2) ?_
  obtain ⟨v1, hv1, hq1⟩ := t_X12_mark oM (scr_ scr i 1) (scr_ scr i 2) invM.1 (by omega) (by omega)
  refine kMi (oC := v0.2) (oM := oM) X (c_X12_mark l g adM oM (scr_ scr i 1) (scr_ scr i 2) v1 hv1) rfl okm_X12_mark okw_X12_mark w_1965 rfl hK hP hD hS hA hZ hl.1 rfl (Nat.le_of_ble_eq_true rfl) ⟨(Nat.le_of_ble_eq_true rfl), (Nat.le_of_ble_eq_true rfl)⟩ gdL_law_1340 hcs (fun H locs hP hD hS => ?_)
  replace hq1 : BoxM v1.2 ∧ (Fr [(0, 0), (1, 9999)] oM v1.2) := hq1
  replace invM : INVM v1.2 := invM.fr hq1.1 hq1.2 rfl rfl (fun _ => rfl)
  refine lv_pop hx hb gdL_law_1343 rfl ?_
  refine lv_goto (tgt := 1952) hx hb gdL_law_1344 (by decide) ?_
  have hR9 : REL v0.2 v1.2 := ⟨hR.1.fr hq0.2 hq1.2 (fun _ => rfl) (fun _ => rfl) (fun _ => rfl) (fun _ => rfl), hR.2.1.fr hq0.2 hq1.2 (fun _ => rfl) (fun _ => rfl) (fun _ => rfl) (fun _ => rfl), day_fr hR.2.2.1 hq0.2 hq1.2 rfl rfl, hR.2.2.2.1.fr hq0.2 hq1.2 rfl rfl (fun _ => rfl) (fun _ => rfl) (fun _ => rfl) (fun _ => rfl) (fun _ => rfl) (fun _ => rfl), hR.2.2.2.2.fr hq0.2 hq1.2 rfl rfl (fun _ => rfl) (fun _ => rfl)⟩
  exact kend v0.2 v1.2 _ _ _ invC invM hR9 hP hD hS hl
set_option maxHeartbeats 4000000 in
set_option maxRecDepth 100000 in
theorem law_29 (l : Launch) (g : GG) {p : Program} {e : Env} {s : State} {m : MethodId} {below : List Frame} {meth : Method} {c : Code} {b L : Nat} {scr : Nat → Int32} {A : Nat → Prop} {Q : State → Prop} {cells slots : Nat} {H : Heap} {locs : List Loc} {ls : Array Slot} {adC adM : Nat → Nat} {oC oM : OO} {B i : Int} (X : En p s m #[Value.ref b] meth c cL_law 4 ret R_law meth.name) (hK : va_K g.1 classes (tyG g) s) (hA : ∀ q, s.heap.size ≤ q → A q) (hZ : stS g A s s.heap) (hX : va_X b L scr s s.heap) (hbl : b < s.heap.size) (hbA : ¬ A b) (hcs : cells + 0 ≤ room_1.cells ∧ slots + 0 ≤ room_1.slots) (hL : L ≤ 3072) (i0 : 0 ≤ i) (i1 : i + 6 ≤ (L : Int)) (hB0 : 0 ≤ B) (hB1 : B ≤ 379000000) (invC : INVC oC B) (invM : INVM oM) (hR : REL oC oM) (hP : va_P g.1 classes (wC g adC oC ++ wM g adM oM) H) (hD : va_D A (wC g adC oC ++ wM g adM oM)) (hS : va_S A s.heap H locs) (hl : lv_has ls 4 [(3, iv i), (2, .ref (adM 0)), (1, .ref (adC 0)), (0, .ref b)])
    (kend : ∀ (oC oM : OO) (H : Heap) (locs : List Loc) (ls : Array Slot), INVC oC (B + 740000) → INVM oM → REL oC oM → va_P g.1 classes (wC g adC oC ++ wM g adM oM) H → va_D A (wC g adC oC ++ wM g adM oM) → va_S A s.heap H locs → lv_has ls 4 [(3, iv i), (2, .ref (adM 0)), (1, .ref (adC 0)), (0, .ref b)] → W p l e room_1 s m #[Value.ref b] below meth c H locs cells slots Q (F0 m 1952 ls [])) : W p l e room_1 s m #[Value.ref b] below meth c H locs cells slots Q (F0 m 1347 ls []) := by
  have hx := X.1
  have hb := X.2.1
  have sr1 := scr_R scr i 1
  have sr2 := scr_R scr i 2
  have sr3 := scr_R scr i 3
  have sr4 := scr_R scr i 4
  have sr5 := scr_R scr i 5
  have iC0 := invC
  have iM0 := invM
  refine lv_aload_n hx hb gdL_law_1347 rfl (lv_at hl 2 rfl) ?_
  refine lv_aload_n hx hb gdL_law_1348 rfl (lv_at hl 3 rfl) ?_
  refine lv_iload_n hx hb gdL_law_1349 rfl (lv_at hl 0 rfl) ?_
  refine lv_iconst (v := Int32.ofInt 1) hx hb gdL_law_1350 rfl ?_
  refine lv_iadd hx hb gdL_law_1351 (lv_topk (oi_add i 1) ?_)
  refine va_sld hx hb hX hbl hbA hS (vin (by omega) (by omega) hL) gdL_law_1352 ?_
  refine lv_topk (scr_i scr i 1) ?_
  obtain ⟨v0, hv0, hq0⟩ := t_X11_cost oC (scr_ scr i 1) invC.1 (by omega)
  refine kCi (oC := oC) (oM := oM) X (c_X11_cost l g adC oC (scr_ scr i 1) v0 hv0) rfl okm_X11_cost okw_X11_cost w_1050 rfl hK hP hD hS hA hZ hl.1 rfl (Nat.le_of_ble_eq_true rfl) ⟨(Nat.le_of_ble_eq_true rfl), (Nat.le_of_ble_eq_true rfl)⟩ gdL_law_1353 hcs (fun H locs hP hD hS => ?_)
  replace hq0 : BoxC v0.2 ∧ (Fr [(0, 17), (77, 9999)] oC v0.2) := hq0
  replace invC : INVC v0.2 (B + 740000) := invC.fr hB0 hq0.1 hq0.2 rfl rfl (fun _ => rfl) (fun _ => rfl) (fun _ => rfl) (fun _ => rfl) (fun _ => rfl) (fun _ => rfl)
  refine lv_pop hx hb gdL_law_1356 rfl ?_
  refine lv_aload_n hx hb gdL_law_1357 rfl (lv_at hl 1 rfl) ?_
  refine lv_aload_n hx hb gdL_law_1358 rfl (lv_at hl 3 rfl) ?_
  refine lv_iload_n hx hb gdL_law_1359 rfl (lv_at hl 0 rfl) ?_
  refine lv_iconst (v := Int32.ofInt 1) hx hb gdL_law_1360 rfl ?_
  refine lv_iadd hx hb gdL_law_1361 (lv_topk (oi_add i 1) ?_)
  refine va_sld hx hb hX hbl hbA hS (vin (by omega) (by omega) hL) gdL_law_1362 ?_
  refine lv_topk (scr_i scr i 1) ?_
  obtain ⟨v1, hv1, hq1⟩ := t_X12_cost oM (scr_ scr i 1) invM.1 (by omega)
  refine kMi (oC := v0.2) (oM := oM) X (c_X12_cost l g adM oM (scr_ scr i 1) v1 hv1) rfl okm_X12_cost okw_X12_cost w_1973 rfl hK hP hD hS hA hZ hl.1 rfl (Nat.le_of_ble_eq_true rfl) ⟨(Nat.le_of_ble_eq_true rfl), (Nat.le_of_ble_eq_true rfl)⟩ gdL_law_1363 hcs (fun H locs hP hD hS => ?_)
  replace hq1 : BoxM v1.2 ∧ (Fr [(0, 0), (1, 9999)] oM v1.2) := hq1
  replace invM : INVM v1.2 := invM.fr hq1.1 hq1.2 rfl rfl (fun _ => rfl)
  refine lv_pop hx hb gdL_law_1366 rfl ?_
  refine lv_goto (tgt := 1952) hx hb gdL_law_1367 (by decide) ?_
  have hR9 : REL v0.2 v1.2 := ⟨hR.1.fr hq0.2 hq1.2 (fun _ => rfl) (fun _ => rfl) (fun _ => rfl) (fun _ => rfl), hR.2.1.fr hq0.2 hq1.2 (fun _ => rfl) (fun _ => rfl) (fun _ => rfl) (fun _ => rfl), day_fr hR.2.2.1 hq0.2 hq1.2 rfl rfl, hR.2.2.2.1.fr hq0.2 hq1.2 rfl rfl (fun _ => rfl) (fun _ => rfl) (fun _ => rfl) (fun _ => rfl) (fun _ => rfl) (fun _ => rfl), hR.2.2.2.2.fr hq0.2 hq1.2 rfl rfl (fun _ => rfl) (fun _ => rfl)⟩
  exact kend v0.2 v1.2 _ _ _ invC invM hR9 hP hD hS hl
set_option maxHeartbeats 4000000 in
set_option maxRecDepth 100000 in
theorem law_30 (l : Launch) (g : GG) {p : Program} {e : Env} {s : State} {m : MethodId} {below : List Frame} {meth : Method} {c : Code} {b L : Nat} {scr : Nat → Int32} {A : Nat → Prop} {Q : State → Prop} {cells slots : Nat} {H : Heap} {locs : List Loc} {ls : Array Slot} {adC adM : Nat → Nat} {oC oM : OO} {B i : Int} (X : En p s m #[Value.ref b] meth c cL_law 4 ret R_law meth.name) (hK : va_K g.1 classes (tyG g) s) (hA : ∀ q, s.heap.size ≤ q → A q) (hZ : stS g A s s.heap) (hX : va_X b L scr s s.heap) (hbl : b < s.heap.size) (hbA : ¬ A b) (hcs : cells + 0 ≤ room_1.cells ∧ slots + 0 ≤ room_1.slots) (hL : L ≤ 3072) (i0 : 0 ≤ i) (i1 : i + 6 ≤ (L : Int)) (hB0 : 0 ≤ B) (hB1 : B ≤ 379000000) (invC : INVC oC B) (invM : INVM oM) (hR : REL oC oM) (hP : va_P g.1 classes (wC g adC oC ++ wM g adM oM) H) (hD : va_D A (wC g adC oC ++ wM g adM oM)) (hS : va_S A s.heap H locs) (hl : lv_has ls 4 [(3, iv i), (2, .ref (adM 0)), (1, .ref (adC 0)), (0, .ref b)])
    (kend : ∀ (oC oM : OO) (H : Heap) (locs : List Loc) (ls : Array Slot), INVC oC (B + 740000) → INVM oM → REL oC oM → va_P g.1 classes (wC g adC oC ++ wM g adM oM) H → va_D A (wC g adC oC ++ wM g adM oM) → va_S A s.heap H locs → lv_has ls 4 [(3, iv i), (2, .ref (adM 0)), (1, .ref (adC 0)), (0, .ref b)] → W p l e room_1 s m #[Value.ref b] below meth c H locs cells slots Q (F0 m 1952 ls [])) : W p l e room_1 s m #[Value.ref b] below meth c H locs cells slots Q (F0 m 1370 ls []) := by
  have hx := X.1
  have hb := X.2.1
  have sr1 := scr_R scr i 1
  have sr2 := scr_R scr i 2
  have sr3 := scr_R scr i 3
  have sr4 := scr_R scr i 4
  have sr5 := scr_R scr i 5
  have iC0 := invC
  have iM0 := invM
  refine lv_aload_n hx hb gdL_law_1370 rfl (lv_at hl 2 rfl) ?_
  refine lv_aload_n hx hb gdL_law_1371 rfl (lv_at hl 3 rfl) ?_
  refine lv_iload_n hx hb gdL_law_1372 rfl (lv_at hl 0 rfl) ?_
  refine lv_iconst (v := Int32.ofInt 1) hx hb gdL_law_1373 rfl ?_
  refine lv_iadd hx hb gdL_law_1374 (lv_topk (oi_add i 1) ?_)
  refine va_sld hx hb hX hbl hbA hS (vin (by omega) (by omega) hL) gdL_law_1375 ?_
  refine lv_topk (scr_i scr i 1) ?_
  obtain ⟨v0, hv0, hq0⟩ := t_X11_shown oC (scr_ scr i 1) invC.1 (by omega)
  refine kCi (oC := oC) (oM := oM) X (c_X11_shown l g adC oC (scr_ scr i 1) v0 hv0) rfl okm_X11_shown okw_X11_shown w_1058 rfl hK hP hD hS hA hZ hl.1 rfl (Nat.le_of_ble_eq_true rfl) ⟨(Nat.le_of_ble_eq_true rfl), (Nat.le_of_ble_eq_true rfl)⟩ gdL_law_1376 hcs (fun H locs hP hD hS => ?_)
  replace hq0 : BoxC v0.2 ∧ (Fr [(0, 17), (77, 9999)] oC v0.2) := hq0
  replace invC : INVC v0.2 (B + 740000) := invC.fr hB0 hq0.1 hq0.2 rfl rfl (fun _ => rfl) (fun _ => rfl) (fun _ => rfl) (fun _ => rfl) (fun _ => rfl) (fun _ => rfl)
  refine lv_pop hx hb gdL_law_1379 rfl ?_
  refine lv_aload_n hx hb gdL_law_1380 rfl (lv_at hl 1 rfl) ?_
  refine lv_aload_n hx hb gdL_law_1381 rfl (lv_at hl 3 rfl) ?_
  refine lv_iload_n hx hb gdL_law_1382 rfl (lv_at hl 0 rfl) ?_
  refine lv_iconst (v := Int32.ofInt 1) hx hb gdL_law_1383 rfl ?_
  refine lv_iadd hx hb gdL_law_1384 (lv_topk (oi_add i 1) ?_)
  refine va_sld hx hb hX hbl hbA hS (vin (by omega) (by omega) hL) gdL_law_1385 ?_
  refine lv_topk (scr_i scr i 1) ?_
  obtain ⟨v1, hv1, hq1⟩ := t_X12_shown oM (scr_ scr i 1) invM.1 (by omega)
  refine kMi (oC := v0.2) (oM := oM) X (c_X12_shown l g adM oM (scr_ scr i 1) v1 hv1) rfl okm_X12_shown okw_X12_shown w_1977 rfl hK hP hD hS hA hZ hl.1 rfl (Nat.le_of_ble_eq_true rfl) ⟨(Nat.le_of_ble_eq_true rfl), (Nat.le_of_ble_eq_true rfl)⟩ gdL_law_1386 hcs (fun H locs hP hD hS => ?_)
  replace hq1 : BoxM v1.2 ∧ (Fr [(0, 0), (1, 9999)] oM v1.2) := hq1
  replace invM : INVM v1.2 := invM.fr hq1.1 hq1.2 rfl rfl (fun _ => rfl)
  refine lv_pop hx hb gdL_law_1389 rfl ?_
  refine lv_goto (tgt := 1952) hx hb gdL_law_1390 (by decide) ?_
  have hR9 : REL v0.2 v1.2 := ⟨hR.1.fr hq0.2 hq1.2 (fun _ => rfl) (fun _ => rfl) (fun _ => rfl) (fun _ => rfl), hR.2.1.fr hq0.2 hq1.2 (fun _ => rfl) (fun _ => rfl) (fun _ => rfl) (fun _ => rfl), day_fr hR.2.2.1 hq0.2 hq1.2 rfl rfl, hR.2.2.2.1.fr hq0.2 hq1.2 rfl rfl (fun _ => rfl) (fun _ => rfl) (fun _ => rfl) (fun _ => rfl) (fun _ => rfl) (fun _ => rfl), hR.2.2.2.2.fr hq0.2 hq1.2 rfl rfl (fun _ => rfl) (fun _ => rfl)⟩
  exact kend v0.2 v1.2 _ _ _ invC invM hR9 hP hD hS hl
set_option maxHeartbeats 4000000 in
set_option maxRecDepth 100000 in
theorem law_31 (l : Launch) (g : GG) {p : Program} {e : Env} {s : State} {m : MethodId} {below : List Frame} {meth : Method} {c : Code} {b L : Nat} {scr : Nat → Int32} {A : Nat → Prop} {Q : State → Prop} {cells slots : Nat} {H : Heap} {locs : List Loc} {ls : Array Slot} {adC adM : Nat → Nat} {oC oM : OO} {B i : Int} (X : En p s m #[Value.ref b] meth c cL_law 4 ret R_law meth.name) (hK : va_K g.1 classes (tyG g) s) (hA : ∀ q, s.heap.size ≤ q → A q) (hZ : stS g A s s.heap) (hX : va_X b L scr s s.heap) (hbl : b < s.heap.size) (hbA : ¬ A b) (hcs : cells + 0 ≤ room_1.cells ∧ slots + 0 ≤ room_1.slots) (hL : L ≤ 3072) (i0 : 0 ≤ i) (i1 : i + 6 ≤ (L : Int)) (hB0 : 0 ≤ B) (hB1 : B ≤ 379000000) (invC : INVC oC B) (invM : INVM oM) (hR : REL oC oM) (hP : va_P g.1 classes (wC g adC oC ++ wM g adM oM) H) (hD : va_D A (wC g adC oC ++ wM g adM oM)) (hS : va_S A s.heap H locs) (hl : lv_has ls 4 [(3, iv i), (2, .ref (adM 0)), (1, .ref (adC 0)), (0, .ref b)])
    (kend : ∀ (oC oM : OO) (H : Heap) (locs : List Loc) (ls : Array Slot), INVC oC (B + 740000) → INVM oM → REL oC oM → va_P g.1 classes (wC g adC oC ++ wM g adM oM) H → va_D A (wC g adC oC ++ wM g adM oM) → va_S A s.heap H locs → lv_has ls 4 [(3, iv i), (2, .ref (adM 0)), (1, .ref (adC 0)), (0, .ref b)] → W p l e room_1 s m #[Value.ref b] below meth c H locs cells slots Q (F0 m 1952 ls [])) : W p l e room_1 s m #[Value.ref b] below meth c H locs cells slots Q (F0 m 1393 ls []) := by
  have hx := X.1
  have hb := X.2.1
  have sr1 := scr_R scr i 1
  have sr2 := scr_R scr i 2
  have sr3 := scr_R scr i 3
  have sr4 := scr_R scr i 4
  have sr5 := scr_R scr i 5
  have iC0 := invC
  have iM0 := invM
  refine lv_aload_n hx hb gdL_law_1393 rfl (lv_at hl 2 rfl) ?_
  refine lv_aload_n hx hb gdL_law_1394 rfl (lv_at hl 3 rfl) ?_
  refine lv_iload_n hx hb gdL_law_1395 rfl (lv_at hl 0 rfl) ?_
  refine lv_iconst (v := Int32.ofInt 1) hx hb gdL_law_1396 rfl ?_
  refine lv_iadd hx hb gdL_law_1397 (lv_topk (oi_add i 1) ?_)
  refine va_sld hx hb hX hbl hbA hS (vin (by omega) (by omega) hL) gdL_law_1398 ?_
  refine lv_topk (scr_i scr i 1) ?_
  obtain ⟨v0, hv0, hq0⟩ := t_X11_over oC (scr_ scr i 1) invC.1 (by omega)
  refine kCi (oC := oC) (oM := oM) X (c_X11_over l g adC oC (scr_ scr i 1) v0 hv0) rfl okm_X11_over okw_X11_over w_1062 rfl hK hP hD hS hA hZ hl.1 rfl (Nat.le_of_ble_eq_true rfl) ⟨(Nat.le_of_ble_eq_true rfl), (Nat.le_of_ble_eq_true rfl)⟩ gdL_law_1399 hcs (fun H locs hP hD hS => ?_)
  replace hq0 : BoxC v0.2 ∧ (Fr [(0, 16), (0, 17), (77, 9999)] oC v0.2) := hq0
  replace invC : INVC v0.2 (B + 740000) := invC.fr hB0 hq0.1 hq0.2 rfl rfl (fun _ => rfl) (fun _ => rfl) (fun _ => rfl) (fun _ => rfl) (fun _ => rfl) (fun _ => rfl)
  refine lv_pop hx hb gdL_law_1402 rfl ?_
  refine lv_aload_n hx hb gdL_law_1403 rfl (lv_at hl 1 rfl) ?_
  refine lv_aload_n hx hb gdL_law_1404 rfl (lv_at hl 3 rfl) ?_
  refine lv_iload_n hx hb gdL_law_1405 rfl (lv_at hl 0 rfl) ?_
  refine lv_iconst (v := Int32.ofInt 1) hx hb gdL_law_1406 rfl ?_
  refine lv_iadd hx hb gdL_law_1407 (lv_topk (oi_add i 1) ?_)
  refine va_sld hx hb hX hbl hbA hS (vin (by omega) (by omega) hL) gdL_law_1408 ?_
  refine lv_topk (scr_i scr i 1) ?_
  obtain ⟨v1, hv1, hq1⟩ := t_X12_over oM (scr_ scr i 1) invM.1 (by omega)
  refine kMi (oC := v0.2) (oM := oM) X (c_X12_over l g adM oM (scr_ scr i 1) v1 hv1) rfl okm_X12_over okw_X12_over w_1981 rfl hK hP hD hS hA hZ hl.1 rfl (Nat.le_of_ble_eq_true rfl) ⟨(Nat.le_of_ble_eq_true rfl), (Nat.le_of_ble_eq_true rfl)⟩ gdL_law_1409 hcs (fun H locs hP hD hS => ?_)
  replace hq1 : BoxM v1.2 ∧ (Fr [(0, 0), (0, 3), (1, 9999)] oM v1.2) := hq1
  replace invM : INVM v1.2 := invM.fr hq1.1 hq1.2 rfl rfl (fun _ => rfl)
  refine lv_pop hx hb gdL_law_1412 rfl ?_
  refine lv_goto (tgt := 1952) hx hb gdL_law_1413 (by decide) ?_
  have hR9 : REL v0.2 v1.2 := ⟨hR.1.fr hq0.2 hq1.2 (fun _ => rfl) (fun _ => rfl) (fun _ => rfl) (fun _ => rfl), hR.2.1.fr hq0.2 hq1.2 (fun _ => rfl) (fun _ => rfl) (fun _ => rfl) (fun _ => rfl), day_fr hR.2.2.1 hq0.2 hq1.2 rfl rfl, hR.2.2.2.1.fr hq0.2 hq1.2 rfl rfl (fun _ => rfl) (fun _ => rfl) (fun _ => rfl) (fun _ => rfl) (fun _ => rfl) (fun _ => rfl), hR.2.2.2.2.fr hq0.2 hq1.2 rfl rfl (fun _ => rfl) (fun _ => rfl)⟩
  exact kend v0.2 v1.2 _ _ _ invC invM hR9 hP hD hS hl
set_option maxHeartbeats 4000000 in
set_option maxRecDepth 100000 in
theorem law_32 (l : Launch) (g : GG) {p : Program} {e : Env} {s : State} {m : MethodId} {below : List Frame} {meth : Method} {c : Code} {b L : Nat} {scr : Nat → Int32} {A : Nat → Prop} {Q : State → Prop} {cells slots : Nat} {H : Heap} {locs : List Loc} {ls : Array Slot} {adC adM : Nat → Nat} {oC oM : OO} {B i : Int} (X : En p s m #[Value.ref b] meth c cL_law 4 ret R_law meth.name) (hK : va_K g.1 classes (tyG g) s) (hA : ∀ q, s.heap.size ≤ q → A q) (hZ : stS g A s s.heap) (hX : va_X b L scr s s.heap) (hbl : b < s.heap.size) (hbA : ¬ A b) (hcs : cells + 0 ≤ room_1.cells ∧ slots + 0 ≤ room_1.slots) (hL : L ≤ 3072) (i0 : 0 ≤ i) (i1 : i + 6 ≤ (L : Int)) (hB0 : 0 ≤ B) (hB1 : B ≤ 379000000) (invC : INVC oC B) (invM : INVM oM) (hR : REL oC oM) (hP : va_P g.1 classes (wC g adC oC ++ wM g adM oM) H) (hD : va_D A (wC g adC oC ++ wM g adM oM)) (hS : va_S A s.heap H locs) (hl : lv_has ls 4 [(3, iv i), (2, .ref (adM 0)), (1, .ref (adC 0)), (0, .ref b)])
    (kend : ∀ (oC oM : OO) (H : Heap) (locs : List Loc) (ls : Array Slot), INVC oC (B + 740000) → INVM oM → REL oC oM → va_P g.1 classes (wC g adC oC ++ wM g adM oM) H → va_D A (wC g adC oC ++ wM g adM oM) → va_S A s.heap H locs → lv_has ls 4 [(3, iv i), (2, .ref (adM 0)), (1, .ref (adC 0)), (0, .ref b)] → W p l e room_1 s m #[Value.ref b] below meth c H locs cells slots Q (F0 m 1952 ls [])) : W p l e room_1 s m #[Value.ref b] below meth c H locs cells slots Q (F0 m 1416 ls []) := by
  have hx := X.1
  have hb := X.2.1
  have sr1 := scr_R scr i 1
  have sr2 := scr_R scr i 2
  have sr3 := scr_R scr i 3
  have sr4 := scr_R scr i 4
  have sr5 := scr_R scr i 5
  have iC0 := invC
  have iM0 := invM
  refine lv_aload_n hx hb gdL_law_1416 rfl (lv_at hl 2 rfl) ?_
  refine lv_aload_n hx hb gdL_law_1417 rfl (lv_at hl 3 rfl) ?_
  refine lv_iload_n hx hb gdL_law_1418 rfl (lv_at hl 0 rfl) ?_
  refine lv_iconst (v := Int32.ofInt 1) hx hb gdL_law_1419 rfl ?_
  refine lv_iadd hx hb gdL_law_1420 (lv_topk (oi_add i 1) ?_)
  refine va_sld hx hb hX hbl hbA hS (vin (by omega) (by omega) hL) gdL_law_1421 ?_
  refine lv_topk (scr_i scr i 1) ?_
  refine lv_aload_n hx hb gdL_law_1422 rfl (lv_at hl 3 rfl) ?_
  refine lv_iload_n hx hb gdL_law_1423 rfl (lv_at hl 0 rfl) ?_
  refine lv_iconst (v := Int32.ofInt 2) hx hb gdL_law_1424 rfl ?_
  refine lv_iadd hx hb gdL_law_1425 (lv_topk (oi_add i 2) ?_)
  refine va_sld hx hb hX hbl hbA hS (vin (by omega) (by omega) hL) gdL_law_1426 ?_
  refine lv_topk (scr_i scr i 2) ?_
  obtain ⟨v0, hv0, hq0⟩ := t_X11_buy oC (scr_ scr i 1) (scr_ scr i 2) invC.1 (by omega) (by omega)
  refine kCi (oC := oC) (oM := oM) X (c_X11_buy l g adC oC (scr_ scr i 1) (scr_ scr i 2) v0 hv0) rfl okm_X11_buy okw_X11_buy w_1066 rfl hK hP hD hS hA hZ hl.1 rfl (Nat.le_of_ble_eq_true rfl) ⟨(Nat.le_of_ble_eq_true rfl), (Nat.le_of_ble_eq_true rfl)⟩ gdL_law_1427 hcs (fun H locs hP hD hS => ?_)
  replace hq0 : BoxC v0.2 ∧ (Fr [(15, 9999), (46, 6), (47, 9999), (48, 9999), (49, 9999)] oC v0.2) := hq0
  replace invC : INVC v0.2 (B + 740000) := invC.fr hB0 hq0.1 hq0.2 rfl rfl (fun _ => rfl) (fun _ => rfl) (fun _ => rfl) (fun _ => rfl) (fun _ => rfl) (fun _ => rfl)
  refine lv_pop hx hb gdL_law_1430 rfl ?_
  refine lv_aload_n hx hb gdL_law_1431 rfl (lv_at hl 1 rfl) ?_
  refine lv_aload_n hx hb gdL_law_1432 rfl (lv_at hl 3 rfl) ?_
  refine lv_iload_n hx hb gdL_law_1433 rfl (lv_at hl 0 rfl) ?_
  refine lv_iconst (v := Int32.ofInt 1) hx hb gdL_law_1434 rfl ?_
  refine lv_iadd hx hb gdL_law_1435 (lv_topk (oi_add i 1) ?_)
  refine va_sld hx hb hX hbl hbA hS (vin (by omega) (by omega) hL) gdL_law_1436 ?_
  refine lv_topk (scr_i scr i 1) ?_
  refine lv_aload_n hx hb gdL_law_1437 rfl (lv_at hl 3 rfl) ?_
  refine lv_iload_n hx hb gdL_law_1438 rfl (lv_at hl 0 rfl) ?_
  refine lv_iconst (v := Int32.ofInt 2) hx hb gdL_law_1439 rfl ?_
  refine lv_iadd hx hb gdL_law_1440 (lv_topk (oi_add i 2) ?_)
  refine va_sld hx hb hX hbl hbA hS (vin (by omega) (by omega) hL) gdL_law_1441 ?_
  refine lv_topk (scr_i scr i 2) ?_
  obtain ⟨v1, hv1, hq1⟩ := t_X12_buy oM (scr_ scr i 1) (scr_ scr i 2) invM.1 (by omega) (by omega)
  refine kMi (oC := v0.2) (oM := oM) X (c_X12_buy l g adM oM (scr_ scr i 1) (scr_ scr i 2) v1 hv1) rfl okm_X12_buy okw_X12_buy w_1985 rfl hK hP hD hS hA hZ hl.1 rfl (Nat.le_of_ble_eq_true rfl) ⟨(Nat.le_of_ble_eq_true rfl), (Nat.le_of_ble_eq_true rfl)⟩ gdL_law_1442 hcs (fun H locs hP hD hS => ?_)
  replace hq1 : BoxM v1.2 ∧ (Fr [(0, 48), (17, 9999), (40, 9999), (41, 9999), (42, 9999)] oM v1.2) := hq1
  replace invM : INVM v1.2 := invM.fr hq1.1 hq1.2 rfl rfl (fun _ => rfl)
  refine lv_pop hx hb gdL_law_1445 rfl ?_
  refine lv_goto (tgt := 1952) hx hb gdL_law_1446 (by decide) ?_
  have hR9 : REL v0.2 v1.2 := ⟨hR.1.fr hq0.2 hq1.2 (fun _ => rfl) (fun _ => rfl) (fun _ => rfl) (fun _ => rfl), hR.2.1.fr hq0.2 hq1.2 (fun _ => rfl) (fun _ => rfl) (fun _ => rfl) (fun _ => rfl), day_fr hR.2.2.1 hq0.2 hq1.2 rfl rfl, hR.2.2.2.1.fr hq0.2 hq1.2 rfl rfl (fun _ => rfl) (fun _ => rfl) (fun _ => rfl) (fun _ => rfl) (fun _ => rfl) (fun _ => rfl), hR.2.2.2.2.fr hq0.2 hq1.2 rfl rfl (fun _ => rfl) (fun _ => rfl)⟩
  exact kend v0.2 v1.2 _ _ _ invC invM hR9 hP hD hS hl
set_option maxHeartbeats 4000000 in
set_option maxRecDepth 100000 in
theorem law_33 (l : Launch) (g : GG) {p : Program} {e : Env} {s : State} {m : MethodId} {below : List Frame} {meth : Method} {c : Code} {b L : Nat} {scr : Nat → Int32} {A : Nat → Prop} {Q : State → Prop} {cells slots : Nat} {H : Heap} {locs : List Loc} {ls : Array Slot} {adC adM : Nat → Nat} {oC oM : OO} {B i : Int} (X : En p s m #[Value.ref b] meth c cL_law 4 ret R_law meth.name) (hK : va_K g.1 classes (tyG g) s) (hA : ∀ q, s.heap.size ≤ q → A q) (hZ : stS g A s s.heap) (hX : va_X b L scr s s.heap) (hbl : b < s.heap.size) (hbA : ¬ A b) (hcs : cells + 0 ≤ room_1.cells ∧ slots + 0 ≤ room_1.slots) (hL : L ≤ 3072) (i0 : 0 ≤ i) (i1 : i + 6 ≤ (L : Int)) (hB0 : 0 ≤ B) (hB1 : B ≤ 379000000) (invC : INVC oC B) (invM : INVM oM) (hR : REL oC oM) (hP : va_P g.1 classes (wC g adC oC ++ wM g adM oM) H) (hD : va_D A (wC g adC oC ++ wM g adM oM)) (hS : va_S A s.heap H locs) (hl : lv_has ls 4 [(3, iv i), (2, .ref (adM 0)), (1, .ref (adC 0)), (0, .ref b)])
    (kend : ∀ (oC oM : OO) (H : Heap) (locs : List Loc) (ls : Array Slot), INVC oC (B + 740000) → INVM oM → REL oC oM → va_P g.1 classes (wC g adC oC ++ wM g adM oM) H → va_D A (wC g adC oC ++ wM g adM oM) → va_S A s.heap H locs → lv_has ls 4 [(3, iv i), (2, .ref (adM 0)), (1, .ref (adC 0)), (0, .ref b)] → W p l e room_1 s m #[Value.ref b] below meth c H locs cells slots Q (F0 m 1952 ls [])) : W p l e room_1 s m #[Value.ref b] below meth c H locs cells slots Q (F0 m 1449 ls []) := by
  have hx := X.1
  have hb := X.2.1
  have sr1 := scr_R scr i 1
  have sr2 := scr_R scr i 2
  have sr3 := scr_R scr i 3
  have sr4 := scr_R scr i 4
  have sr5 := scr_R scr i 5
  have iC0 := invC
  have iM0 := invM
  refine lv_aload_n hx hb gdL_law_1449 rfl (lv_at hl 2 rfl) ?_
  refine lv_aload_n hx hb gdL_law_1450 rfl (lv_at hl 3 rfl) ?_
  refine lv_iload_n hx hb gdL_law_1451 rfl (lv_at hl 0 rfl) ?_
  refine lv_iconst (v := Int32.ofInt 1) hx hb gdL_law_1452 rfl ?_
  refine lv_iadd hx hb gdL_law_1453 (lv_topk (oi_add i 1) ?_)
  refine va_sld hx hb hX hbl hbA hS (vin (by omega) (by omega) hL) gdL_law_1454 ?_
  refine lv_topk (scr_i scr i 1) ?_
  refine lv_aload_n hx hb gdL_law_1455 rfl (lv_at hl 3 rfl) ?_
  refine lv_iload_n hx hb gdL_law_1456 rfl (lv_at hl 0 rfl) ?_
  refine lv_iconst (v := Int32.ofInt 2) hx hb gdL_law_1457 rfl ?_
  refine lv_iadd hx hb gdL_law_1458 (lv_topk (oi_add i 2) ?_)
  refine va_sld hx hb hX hbl hbA hS (vin (by omega) (by omega) hL) gdL_law_1459 ?_
  refine lv_topk (scr_i scr i 2) ?_
  obtain ⟨v0, hv0, hq0⟩ := t_X11_hear oC (scr_ scr i 1) (scr_ scr i 2) invC.1 (by omega) (by omega)
  refine kCi (oC := oC) (oM := oM) X (c_X11_hear l g adC oC (scr_ scr i 1) (scr_ scr i 2) v0 hv0) rfl okm_X11_hear okw_X11_hear w_1082 rfl hK hP hD hS hA hZ hl.1 rfl (Nat.le_of_ble_eq_true rfl) ⟨(Nat.le_of_ble_eq_true rfl), (Nat.le_of_ble_eq_true rfl)⟩ gdL_law_1460 hcs (fun H locs hP hD hS => ?_)
  replace hq0 : BoxC v0.2 ∧ (Fr [(0, 17), (46, 7), (50, 9999), (51, 9999), (52, 9999), (77, 9999)] oC v0.2) := hq0
  replace invC : INVC v0.2 (B + 740000) := invC.fr hB0 hq0.1 hq0.2 rfl rfl (fun _ => rfl) (fun _ => rfl) (fun _ => rfl) (fun _ => rfl) (fun _ => rfl) (fun _ => rfl)
  refine lv_pop hx hb gdL_law_1463 rfl ?_
  refine lv_aload_n hx hb gdL_law_1464 rfl (lv_at hl 1 rfl) ?_
  refine lv_aload_n hx hb gdL_law_1465 rfl (lv_at hl 3 rfl) ?_
  refine lv_iload_n hx hb gdL_law_1466 rfl (lv_at hl 0 rfl) ?_
  refine lv_iconst (v := Int32.ofInt 1) hx hb gdL_law_1467 rfl ?_
  refine lv_iadd hx hb gdL_law_1468 (lv_topk (oi_add i 1) ?_)
  refine va_sld hx hb hX hbl hbA hS (vin (by omega) (by omega) hL) gdL_law_1469 ?_
  refine lv_topk (scr_i scr i 1) ?_
  refine lv_aload_n hx hb gdL_law_1470 rfl (lv_at hl 3 rfl) ?_
  refine lv_iload_n hx hb gdL_law_1471 rfl (lv_at hl 0 rfl) ?_
  refine lv_iconst (v := Int32.ofInt 2) hx hb gdL_law_1472 rfl ?_
  refine lv_iadd hx hb gdL_law_1473 (lv_topk (oi_add i 2) ?_)
  refine va_sld hx hb hX hbl hbA hS (vin (by omega) (by omega) hL) gdL_law_1474 ?_
  refine lv_topk (scr_i scr i 2) ?_
  obtain ⟨v1, hv1, hq1⟩ := t_X12_hear oM (scr_ scr i 1) (scr_ scr i 2) invM.1 (by omega) (by omega)
  refine kMi (oC := v0.2) (oM := oM) X (c_X12_hear l g adM oM (scr_ scr i 1) (scr_ scr i 2) v1 hv1) rfl okm_X12_hear okw_X12_hear w_1989 rfl hK hP hD hS hA hZ hl.1 rfl (Nat.le_of_ble_eq_true rfl) ⟨(Nat.le_of_ble_eq_true rfl), (Nat.le_of_ble_eq_true rfl)⟩ gdL_law_1475 hcs (fun H locs hP hD hS => ?_)
  replace hq1 : BoxM v1.2 ∧ (Fr [(0, 0), (0, 52), (1, 9999), (43, 9999), (44, 9999), (45, 9999)] oM v1.2) := hq1
  replace invM : INVM v1.2 := invM.fr hq1.1 hq1.2 rfl rfl (fun _ => rfl)
  refine lv_pop hx hb gdL_law_1478 rfl ?_
  refine lv_goto (tgt := 1952) hx hb gdL_law_1479 (by decide) ?_
  have hR9 : REL v0.2 v1.2 := ⟨hR.1.fr hq0.2 hq1.2 (fun _ => rfl) (fun _ => rfl) (fun _ => rfl) (fun _ => rfl), hR.2.1.fr hq0.2 hq1.2 (fun _ => rfl) (fun _ => rfl) (fun _ => rfl) (fun _ => rfl), day_fr hR.2.2.1 hq0.2 hq1.2 rfl rfl, hR.2.2.2.1.fr hq0.2 hq1.2 rfl rfl (fun _ => rfl) (fun _ => rfl) (fun _ => rfl) (fun _ => rfl) (fun _ => rfl) (fun _ => rfl), hR.2.2.2.2.fr hq0.2 hq1.2 rfl rfl (fun _ => rfl) (fun _ => rfl)⟩
  exact kend v0.2 v1.2 _ _ _ invC invM hR9 hP hD hS hl
set_option maxHeartbeats 4000000 in
set_option maxRecDepth 100000 in
theorem law_34 (l : Launch) (g : GG) {p : Program} {e : Env} {s : State} {m : MethodId} {below : List Frame} {meth : Method} {c : Code} {b L : Nat} {scr : Nat → Int32} {A : Nat → Prop} {Q : State → Prop} {cells slots : Nat} {H : Heap} {locs : List Loc} {ls : Array Slot} {adC adM : Nat → Nat} {oC oM : OO} {B i : Int} (X : En p s m #[Value.ref b] meth c cL_law 4 ret R_law meth.name) (hK : va_K g.1 classes (tyG g) s) (hA : ∀ q, s.heap.size ≤ q → A q) (hZ : stS g A s s.heap) (hX : va_X b L scr s s.heap) (hbl : b < s.heap.size) (hbA : ¬ A b) (hcs : cells + 0 ≤ room_1.cells ∧ slots + 0 ≤ room_1.slots) (hL : L ≤ 3072) (i0 : 0 ≤ i) (i1 : i + 6 ≤ (L : Int)) (hB0 : 0 ≤ B) (hB1 : B ≤ 379000000) (invC : INVC oC B) (invM : INVM oM) (hR : REL oC oM) (hP : va_P g.1 classes (wC g adC oC ++ wM g adM oM) H) (hD : va_D A (wC g adC oC ++ wM g adM oM)) (hS : va_S A s.heap H locs) (hl : lv_has ls 4 [(3, iv i), (2, .ref (adM 0)), (1, .ref (adC 0)), (0, .ref b)])
    (kend : ∀ (oC oM : OO) (H : Heap) (locs : List Loc) (ls : Array Slot), INVC oC (B + 740000) → INVM oM → REL oC oM → va_P g.1 classes (wC g adC oC ++ wM g adM oM) H → va_D A (wC g adC oC ++ wM g adM oM) → va_S A s.heap H locs → lv_has ls 4 [(3, iv i), (2, .ref (adM 0)), (1, .ref (adC 0)), (0, .ref b)] → W p l e room_1 s m #[Value.ref b] below meth c H locs cells slots Q (F0 m 1952 ls [])) : W p l e room_1 s m #[Value.ref b] below meth c H locs cells slots Q (F0 m 1482 ls []) := by
  have hx := X.1
  have hb := X.2.1
  have sr1 := scr_R scr i 1
  have sr2 := scr_R scr i 2
  have sr3 := scr_R scr i 3
  have sr4 := scr_R scr i 4
  have sr5 := scr_R scr i 5
  have iC0 := invC
  have iM0 := invM
  refine lv_aload_n hx hb gdL_law_1482 rfl (lv_at hl 2 rfl) ?_
  refine lv_aload_n hx hb gdL_law_1483 rfl (lv_at hl 3 rfl) ?_
  refine lv_iload_n hx hb gdL_law_1484 rfl (lv_at hl 0 rfl) ?_
  refine lv_iconst (v := Int32.ofInt 1) hx hb gdL_law_1485 rfl ?_
  refine lv_iadd hx hb gdL_law_1486 (lv_topk (oi_add i 1) ?_)
  refine va_sld hx hb hX hbl hbA hS (vin (by omega) (by omega) hL) gdL_law_1487 ?_
  refine lv_topk (scr_i scr i 1) ?_
  obtain ⟨v0, hv0, hq0⟩ := t_X11_early oC (scr_ scr i 1) invC.1 (by omega)
  refine kCi (oC := oC) (oM := oM) X (c_X11_early l g adC oC (scr_ scr i 1) v0 hv0) rfl okm_X11_early okw_X11_early w_1098 rfl hK hP hD hS hA hZ hl.1 rfl (Nat.le_of_ble_eq_true rfl) ⟨(Nat.le_of_ble_eq_true rfl), (Nat.le_of_ble_eq_true rfl)⟩ gdL_law_1488 hcs (fun H locs hP hD hS => ?_)
  replace hq0 : BoxC v0.2 ∧ (Fr [(0, 17), (77, 9999)] oC v0.2) := hq0
  replace invC : INVC v0.2 (B + 740000) := invC.fr hB0 hq0.1 hq0.2 rfl rfl (fun _ => rfl) (fun _ => rfl) (fun _ => rfl) (fun _ => rfl) (fun _ => rfl) (fun _ => rfl)
  refine lv_pop hx hb gdL_law_1491 rfl ?_
  refine lv_aload_n hx hb gdL_law_1492 rfl (lv_at hl 1 rfl) ?_
  refine lv_aload_n hx hb gdL_law_1493 rfl (lv_at hl 3 rfl) ?_
  refine lv_iload_n hx hb gdL_law_1494 rfl (lv_at hl 0 rfl) ?_
  refine lv_iconst (v := Int32.ofInt 1) hx hb gdL_law_1495 rfl ?_
  refine lv_iadd hx hb gdL_law_1496 (lv_topk (oi_add i 1) ?_)
  refine va_sld hx hb hX hbl hbA hS (vin (by omega) (by omega) hL) gdL_law_1497 ?_
  refine lv_topk (scr_i scr i 1) ?_
  obtain ⟨v1, hv1, hq1⟩ := t_X12_early oM (scr_ scr i 1) invM.1 (by omega)
  refine kMi (oC := v0.2) (oM := oM) X (c_X12_early l g adM oM (scr_ scr i 1) v1 hv1) rfl okm_X12_early okw_X12_early w_1997 rfl hK hP hD hS hA hZ hl.1 rfl (Nat.le_of_ble_eq_true rfl) ⟨(Nat.le_of_ble_eq_true rfl), (Nat.le_of_ble_eq_true rfl)⟩ gdL_law_1498 hcs (fun H locs hP hD hS => ?_)
  replace hq1 : BoxM v1.2 ∧ (Fr [(0, 0), (1, 9999)] oM v1.2) := hq1
  replace invM : INVM v1.2 := invM.fr hq1.1 hq1.2 rfl rfl (fun _ => rfl)
  refine lv_pop hx hb gdL_law_1501 rfl ?_
  refine lv_goto (tgt := 1952) hx hb gdL_law_1502 (by decide) ?_
  have hR9 : REL v0.2 v1.2 := ⟨hR.1.fr hq0.2 hq1.2 (fun _ => rfl) (fun _ => rfl) (fun _ => rfl) (fun _ => rfl), hR.2.1.fr hq0.2 hq1.2 (fun _ => rfl) (fun _ => rfl) (fun _ => rfl) (fun _ => rfl), day_fr hR.2.2.1 hq0.2 hq1.2 rfl rfl, hR.2.2.2.1.fr hq0.2 hq1.2 rfl rfl (fun _ => rfl) (fun _ => rfl) (fun _ => rfl) (fun _ => rfl) (fun _ => rfl) (fun _ => rfl), hR.2.2.2.2.fr hq0.2 hq1.2 rfl rfl (fun _ => rfl) (fun _ => rfl)⟩
  exact kend v0.2 v1.2 _ _ _ invC invM hR9 hP hD hS hl
set_option maxHeartbeats 4000000 in
set_option maxRecDepth 100000 in
theorem law_35 (l : Launch) (g : GG) {p : Program} {e : Env} {s : State} {m : MethodId} {below : List Frame} {meth : Method} {c : Code} {b L : Nat} {scr : Nat → Int32} {A : Nat → Prop} {Q : State → Prop} {cells slots : Nat} {H : Heap} {locs : List Loc} {ls : Array Slot} {adC adM : Nat → Nat} {oC oM : OO} {B i : Int} (X : En p s m #[Value.ref b] meth c cL_law 4 ret R_law meth.name) (hK : va_K g.1 classes (tyG g) s) (hA : ∀ q, s.heap.size ≤ q → A q) (hZ : stS g A s s.heap) (hX : va_X b L scr s s.heap) (hbl : b < s.heap.size) (hbA : ¬ A b) (hcs : cells + 0 ≤ room_1.cells ∧ slots + 0 ≤ room_1.slots) (hL : L ≤ 3072) (i0 : 0 ≤ i) (i1 : i + 6 ≤ (L : Int)) (hB0 : 0 ≤ B) (hB1 : B ≤ 379000000) (invC : INVC oC B) (invM : INVM oM) (hR : REL oC oM) (hP : va_P g.1 classes (wC g adC oC ++ wM g adM oM) H) (hD : va_D A (wC g adC oC ++ wM g adM oM)) (hS : va_S A s.heap H locs) (hl : lv_has ls 4 [(3, iv i), (2, .ref (adM 0)), (1, .ref (adC 0)), (0, .ref b)])
    (kend : ∀ (oC oM : OO) (H : Heap) (locs : List Loc) (ls : Array Slot), INVC oC (B + 740000) → INVM oM → REL oC oM → va_P g.1 classes (wC g adC oC ++ wM g adM oM) H → va_D A (wC g adC oC ++ wM g adM oM) → va_S A s.heap H locs → lv_has ls 4 [(3, iv i), (2, .ref (adM 0)), (1, .ref (adC 0)), (0, .ref b)] → W p l e room_1 s m #[Value.ref b] below meth c H locs cells slots Q (F0 m 1952 ls [])) : W p l e room_1 s m #[Value.ref b] below meth c H locs cells slots Q (F0 m 1505 ls []) := by
  have hx := X.1
  have hb := X.2.1
  have sr1 := scr_R scr i 1
  have sr2 := scr_R scr i 2
  have sr3 := scr_R scr i 3
  have sr4 := scr_R scr i 4
  have sr5 := scr_R scr i 5
  have iC0 := invC
  have iM0 := invM
  refine lv_aload_n hx hb gdL_law_1505 rfl (lv_at hl 2 rfl) ?_
  refine lv_aload_n hx hb gdL_law_1506 rfl (lv_at hl 3 rfl) ?_
  refine lv_iload_n hx hb gdL_law_1507 rfl (lv_at hl 0 rfl) ?_
  refine lv_iconst (v := Int32.ofInt 1) hx hb gdL_law_1508 rfl ?_
  refine lv_iadd hx hb gdL_law_1509 (lv_topk (oi_add i 1) ?_)
  refine va_sld hx hb hX hbl hbA hS (vin (by omega) (by omega) hL) gdL_law_1510 ?_
  refine lv_topk (scr_i scr i 1) ?_
  obtain ⟨v0, hv0, hq0⟩ := t_X11_whither oC (scr_ scr i 1) invC.1 (by omega) (invC.2.2.2.up (by omega))
  refine kCi (oC := oC) (oM := oM) X (c_X11_whither l g adC oC (scr_ scr i 1) v0 hv0) rfl okm_X11_whither okw_X11_whither w_1127 rfl hK hP hD hS hA hZ hl.1 rfl (Nat.le_of_ble_eq_true rfl) ⟨(Nat.le_of_ble_eq_true rfl), (Nat.le_of_ble_eq_true rfl)⟩ gdL_law_1511 hcs (fun H locs hP hD hS => ?_)
  replace hq0 : BoxC v0.2 ∧ (Fr [(0, 14), (0, 17), (59, 0), (59, 1), (59, 8), (60, 9999), (61, 9999), (62, 9999), (63, 9999), (64, 9999), (65, 9999), (77, 9999)] oC v0.2) ∧ (inR v0.1) ∧ (∀ B, 0 ≤ B → LB oC B → LB v0.2 (B + 740000)) := hq0
  replace invC : INVC v0.2 (B + 740000) := ⟨hq0.1, (invC.2.1.fr hq0.2.1 rfl rfl (fun _ => rfl)), (invC.2.2.1.fr hq0.2.1 rfl (fun _ => rfl) (fun _ => rfl) (fun _ => rfl)), (hq0.2.2.2 B (by omega) invC.2.2.2)⟩
  refine lv_pop hx hb gdL_law_1514 rfl ?_
  refine lv_aload_n hx hb gdL_law_1515 rfl (lv_at hl 1 rfl) ?_
  refine lv_aload_n hx hb gdL_law_1516 rfl (lv_at hl 3 rfl) ?_
  refine lv_iload_n hx hb gdL_law_1517 rfl (lv_at hl 0 rfl) ?_
  refine lv_iconst (v := Int32.ofInt 1) hx hb gdL_law_1518 rfl ?_
  refine lv_iadd hx hb gdL_law_1519 (lv_topk (oi_add i 1) ?_)
  refine va_sld hx hb hX hbl hbA hS (vin (by omega) (by omega) hL) gdL_law_1520 ?_
  refine lv_topk (scr_i scr i 1) ?_
  obtain ⟨v1, hv1, hq1⟩ := t_X12_whither oM (scr_ scr i 1) invM.1 (by omega)
  refine kMi (oC := v0.2) (oM := oM) X (c_X12_whither l g adM oM (scr_ scr i 1) v1 hv1) rfl okm_X12_whither okw_X12_whither w_2005 rfl hK hP hD hS hA hZ hl.1 rfl (Nat.le_of_ble_eq_true rfl) ⟨(Nat.le_of_ble_eq_true rfl), (Nat.le_of_ble_eq_true rfl)⟩ gdL_law_1521 hcs (fun H locs hP hD hS => ?_)
  replace hq1 : BoxM v1.2 ∧ (Fr [(0, 0), (0, 2), (1, 9999), (46, 9999), (47, 9999), (48, 9999), (49, 9999), (50, 9999), (51, 9999)] oM v1.2) := hq1
  replace invM : INVM v1.2 := invM.fr hq1.1 hq1.2 rfl rfl (fun _ => rfl)
  refine lv_pop hx hb gdL_law_1524 rfl ?_
  refine lv_goto (tgt := 1952) hx hb gdL_law_1525 (by decide) ?_
  have hR9 : REL v0.2 v1.2 := ⟨hR.1.fr hq0.2.1 hq1.2 (fun _ => rfl) (fun _ => rfl) (fun _ => rfl) (fun _ => rfl), hR.2.1.fr hq0.2.1 hq1.2 (fun _ => rfl) (fun _ => rfl) (fun _ => rfl) (fun _ => rfl), day_fr hR.2.2.1 hq0.2.1 hq1.2 rfl rfl, hR.2.2.2.1.fr hq0.2.1 hq1.2 rfl rfl (fun _ => rfl) (fun _ => rfl) (fun _ => rfl) (fun _ => rfl) (fun _ => rfl) (fun _ => rfl), hR.2.2.2.2.fr hq0.2.1 hq1.2 rfl rfl (fun _ => rfl) (fun _ => rfl)⟩
  exact kend v0.2 v1.2 _ _ _ invC invM hR9 hP hD hS hl
set_option maxHeartbeats 4000000 in
set_option maxRecDepth 100000 in
theorem law_36 (l : Launch) (g : GG) {p : Program} {e : Env} {s : State} {m : MethodId} {below : List Frame} {meth : Method} {c : Code} {b L : Nat} {scr : Nat → Int32} {A : Nat → Prop} {Q : State → Prop} {cells slots : Nat} {H : Heap} {locs : List Loc} {ls : Array Slot} {adC adM : Nat → Nat} {oC oM : OO} {B i : Int} (X : En p s m #[Value.ref b] meth c cL_law 4 ret R_law meth.name) (hK : va_K g.1 classes (tyG g) s) (hA : ∀ q, s.heap.size ≤ q → A q) (hZ : stS g A s s.heap) (hX : va_X b L scr s s.heap) (hbl : b < s.heap.size) (hbA : ¬ A b) (hcs : cells + 0 ≤ room_1.cells ∧ slots + 0 ≤ room_1.slots) (hL : L ≤ 3072) (i0 : 0 ≤ i) (i1 : i + 6 ≤ (L : Int)) (hB0 : 0 ≤ B) (hB1 : B ≤ 379000000) (invC : INVC oC B) (invM : INVM oM) (hR : REL oC oM) (hP : va_P g.1 classes (wC g adC oC ++ wM g adM oM) H) (hD : va_D A (wC g adC oC ++ wM g adM oM)) (hS : va_S A s.heap H locs) (hl : lv_has ls 4 [(3, iv i), (2, .ref (adM 0)), (1, .ref (adC 0)), (0, .ref b)])
    (kend : ∀ (oC oM : OO) (H : Heap) (locs : List Loc) (ls : Array Slot), INVC oC (B + 740000) → INVM oM → REL oC oM → va_P g.1 classes (wC g adC oC ++ wM g adM oM) H → va_D A (wC g adC oC ++ wM g adM oM) → va_S A s.heap H locs → lv_has ls 4 [(3, iv i), (2, .ref (adM 0)), (1, .ref (adC 0)), (0, .ref b)] → W p l e room_1 s m #[Value.ref b] below meth c H locs cells slots Q (F0 m 1952 ls [])) : W p l e room_1 s m #[Value.ref b] below meth c H locs cells slots Q (F0 m 1528 ls []) := by
  have hx := X.1
  have hb := X.2.1
  have sr1 := scr_R scr i 1
  have sr2 := scr_R scr i 2
  have sr3 := scr_R scr i 3
  have sr4 := scr_R scr i 4
  have sr5 := scr_R scr i 5
  have iC0 := invC
  have iM0 := invM
  refine lv_aload_n hx hb gdL_law_1528 rfl (lv_at hl 2 rfl) ?_
  refine lv_aload_n hx hb gdL_law_1529 rfl (lv_at hl 3 rfl) ?_
  refine lv_iload_n hx hb gdL_law_1530 rfl (lv_at hl 0 rfl) ?_
  refine lv_iconst (v := Int32.ofInt 1) hx hb gdL_law_1531 rfl ?_
  refine lv_iadd hx hb gdL_law_1532 (lv_topk (oi_add i 1) ?_)
  refine va_sld hx hb hX hbl hbA hS (vin (by omega) (by omega) hL) gdL_law_1533 ?_
  refine lv_topk (scr_i scr i 1) ?_
  refine lv_aload_n hx hb gdL_law_1534 rfl (lv_at hl 3 rfl) ?_
  refine lv_iload_n hx hb gdL_law_1535 rfl (lv_at hl 0 rfl) ?_
  refine lv_iconst (v := Int32.ofInt 2) hx hb gdL_law_1536 rfl ?_
  refine lv_iadd hx hb gdL_law_1537 (lv_topk (oi_add i 2) ?_)
  refine va_sld hx hb hX hbl hbA hS (vin (by omega) (by omega) hL) gdL_law_1538 ?_
  refine lv_topk (scr_i scr i 2) ?_
  obtain ⟨v0, hv0, hq0⟩ := t_X11_fall oC (scr_ scr i 1) (scr_ scr i 2) invC.1 (by omega) (by omega)
  refine kCi (oC := oC) (oM := oM) X (c_X11_fall l g adC oC (scr_ scr i 1) (scr_ scr i 2) v0 hv0) rfl okm_X11_fall okw_X11_fall w_1171 rfl hK hP hD hS hA hZ hl.1 rfl (Nat.le_of_ble_eq_true rfl) ⟨(Nat.le_of_ble_eq_true rfl), (Nat.le_of_ble_eq_true rfl)⟩ gdL_law_1539 hcs (fun H locs hP hD hS => ?_)
  replace hq0 : BoxC v0.2 ∧ (Fr [(0, 16), (0, 17), (22, 9999), (77, 9999)] oC v0.2) := hq0
  replace invC : INVC v0.2 (B + 740000) := invC.fr hB0 hq0.1 hq0.2 rfl rfl (fun _ => rfl) (fun _ => rfl) (fun _ => rfl) (fun _ => rfl) (fun _ => rfl) (fun _ => rfl)
  refine lv_pop hx hb gdL_law_1542 rfl ?_
  refine lv_aload_n hx hb gdL_law_1543 rfl (lv_at hl 1 rfl) ?_
  refine lv_aload_n hx hb gdL_law_1544 rfl (lv_at hl 3 rfl) ?_
  refine lv_iload_n hx hb gdL_law_1545 rfl (lv_at hl 0 rfl) ?_
  refine lv_iconst (v := Int32.ofInt 1) hx hb gdL_law_1546 rfl ?_
  refine lv_iadd hx hb gdL_law_1547 (lv_topk (oi_add i 1) ?_)
  refine va_sld hx hb hX hbl hbA hS (vin (by omega) (by omega) hL) gdL_law_1548 ?_
  refine lv_topk (scr_i scr i 1) ?_
  refine lv_aload_n hx hb gdL_law_1549 rfl (lv_at hl 3 rfl) ?_
  refine lv_iload_n hx hb gdL_law_1550 rfl (lv_at hl 0 rfl) ?_
  refine lv_iconst (v := Int32.ofInt 2) hx hb gdL_law_1551 rfl ?_
  refine lv_iadd hx hb gdL_law_1552 (lv_topk (oi_add i 2) ?_)
  refine va_sld hx hb hX hbl hbA hS (vin (by omega) (by omega) hL) gdL_law_1553 ?_
  refine lv_topk (scr_i scr i 2) ?_
  obtain ⟨v1, hv1, hq1⟩ := t_X12_fall oM (scr_ scr i 1) (scr_ scr i 2) invM.1 (by omega) (by omega)
  refine kMi (oC := v0.2) (oM := oM) X (c_X12_fall l g adM oM (scr_ scr i 1) (scr_ scr i 2) v1 hv1) rfl okm_X12_fall okw_X12_fall w_2021 rfl hK hP hD hS hA hZ hl.1 rfl (Nat.le_of_ble_eq_true rfl) ⟨(Nat.le_of_ble_eq_true rfl), (Nat.le_of_ble_eq_true rfl)⟩ gdL_law_1554 hcs (fun H locs hP hD hS => ?_)
  replace hq1 : BoxM v1.2 ∧ (Fr [(0, 0), (0, 3), (1, 9999), (52, 9999), (53, 9999)] oM v1.2) := hq1
  replace invM : INVM v1.2 := invM.fr hq1.1 hq1.2 rfl rfl (fun _ => rfl)
  refine lv_pop hx hb gdL_law_1557 rfl ?_
  refine lv_goto (tgt := 1952) hx hb gdL_law_1558 (by decide) ?_
  have hR9 : REL v0.2 v1.2 := ⟨hR.1.fr hq0.2 hq1.2 (fun _ => rfl) (fun _ => rfl) (fun _ => rfl) (fun _ => rfl), hR.2.1.fr hq0.2 hq1.2 (fun _ => rfl) (fun _ => rfl) (fun _ => rfl) (fun _ => rfl), day_fr hR.2.2.1 hq0.2 hq1.2 rfl rfl, hR.2.2.2.1.fr hq0.2 hq1.2 rfl rfl (fun _ => rfl) (fun _ => rfl) (fun _ => rfl) (fun _ => rfl) (fun _ => rfl) (fun _ => rfl), hR.2.2.2.2.fr hq0.2 hq1.2 rfl rfl (fun _ => rfl) (fun _ => rfl)⟩
  exact kend v0.2 v1.2 _ _ _ invC invM hR9 hP hD hS hl
set_option maxHeartbeats 4000000 in
set_option maxRecDepth 100000 in
theorem law_37 (l : Launch) (g : GG) {p : Program} {e : Env} {s : State} {m : MethodId} {below : List Frame} {meth : Method} {c : Code} {b L : Nat} {scr : Nat → Int32} {A : Nat → Prop} {Q : State → Prop} {cells slots : Nat} {H : Heap} {locs : List Loc} {ls : Array Slot} {adC adM : Nat → Nat} {oC oM : OO} {B i : Int} (X : En p s m #[Value.ref b] meth c cL_law 4 ret R_law meth.name) (hK : va_K g.1 classes (tyG g) s) (hA : ∀ q, s.heap.size ≤ q → A q) (hZ : stS g A s s.heap) (hX : va_X b L scr s s.heap) (hbl : b < s.heap.size) (hbA : ¬ A b) (hcs : cells + 0 ≤ room_1.cells ∧ slots + 0 ≤ room_1.slots) (hL : L ≤ 3072) (i0 : 0 ≤ i) (i1 : i + 6 ≤ (L : Int)) (hB0 : 0 ≤ B) (hB1 : B ≤ 379000000) (invC : INVC oC B) (invM : INVM oM) (hR : REL oC oM) (hP : va_P g.1 classes (wC g adC oC ++ wM g adM oM) H) (hD : va_D A (wC g adC oC ++ wM g adM oM)) (hS : va_S A s.heap H locs) (hl : lv_has ls 4 [(3, iv i), (2, .ref (adM 0)), (1, .ref (adC 0)), (0, .ref b)])
    (kend : ∀ (oC oM : OO) (H : Heap) (locs : List Loc) (ls : Array Slot), INVC oC (B + 740000) → INVM oM → REL oC oM → va_P g.1 classes (wC g adC oC ++ wM g adM oM) H → va_D A (wC g adC oC ++ wM g adM oM) → va_S A s.heap H locs → lv_has ls 4 [(3, iv i), (2, .ref (adM 0)), (1, .ref (adC 0)), (0, .ref b)] → W p l e room_1 s m #[Value.ref b] below meth c H locs cells slots Q (F0 m 1952 ls [])) : W p l e room_1 s m #[Value.ref b] below meth c H locs cells slots Q (F0 m 1561 ls []) := by
  have hx := X.1
  have hb := X.2.1
  have sr1 := scr_R scr i 1
  have sr2 := scr_R scr i 2
  have sr3 := scr_R scr i 3
  have sr4 := scr_R scr i 4
  have sr5 := scr_R scr i 5
  have iC0 := invC
  have iM0 := invM
  refine lv_aload_n hx hb gdL_law_1561 rfl (lv_at hl 2 rfl) ?_
  refine lv_aload_n hx hb gdL_law_1562 rfl (lv_at hl 3 rfl) ?_
  refine lv_iload_n hx hb gdL_law_1563 rfl (lv_at hl 0 rfl) ?_
  refine lv_iconst (v := Int32.ofInt 1) hx hb gdL_law_1564 rfl ?_
  refine lv_iadd hx hb gdL_law_1565 (lv_topk (oi_add i 1) ?_)
  refine va_sld hx hb hX hbl hbA hS (vin (by omega) (by omega) hL) gdL_law_1566 ?_
  refine lv_topk (scr_i scr i 1) ?_
  refine lv_aload_n hx hb gdL_law_1567 rfl (lv_at hl 3 rfl) ?_
  refine lv_iload_n hx hb gdL_law_1568 rfl (lv_at hl 0 rfl) ?_
  refine lv_iconst (v := Int32.ofInt 2) hx hb gdL_law_1569 rfl ?_
  refine lv_iadd hx hb gdL_law_1570 (lv_topk (oi_add i 2) ?_)
  refine va_sld hx hb hX hbl hbA hS (vin (by omega) (by omega) hL) gdL_law_1571 ?_
  refine lv_topk (scr_i scr i 2) ?_
  obtain ⟨v0, hv0, hq0⟩ := t_X11_noise oC (scr_ scr i 1) (scr_ scr i 2) invC.1 (by omega) (by omega)
  refine kCi (oC := oC) (oM := oM) X (c_X11_noise l g adC oC (scr_ scr i 1) (scr_ scr i 2) v0 hv0) rfl okm_X11_noise okw_X11_noise w_1201 rfl hK hP hD hS hA hZ hl.1 rfl (Nat.le_of_ble_eq_true rfl) ⟨(Nat.le_of_ble_eq_true rfl), (Nat.le_of_ble_eq_true rfl)⟩ gdL_law_1572 hcs (fun H locs hP hD hS => ?_)
  replace hq0 : BoxC v0.2 ∧ (Fr [(0, 14), (0, 17), (77, 9999)] oC v0.2) := hq0
  replace invC : INVC v0.2 (B + 740000) := invC.fr hB0 hq0.1 hq0.2 rfl rfl (fun _ => rfl) (fun _ => rfl) (fun _ => rfl) (fun _ => rfl) (fun _ => rfl) (fun _ => rfl)
  refine lv_pop hx hb gdL_law_1575 rfl ?_
  refine lv_aload_n hx hb gdL_law_1576 rfl (lv_at hl 1 rfl) ?_
  refine lv_aload_n hx hb gdL_law_1577 rfl (lv_at hl 3 rfl) ?_
  refine lv_iload_n hx hb gdL_law_1578 rfl (lv_at hl 0 rfl) ?_
  refine lv_iconst (v := Int32.ofInt 1) hx hb gdL_law_1579 rfl ?_
  refine lv_iadd hx hb gdL_law_1580 (lv_topk (oi_add i 1) ?_)
  refine va_sld hx hb hX hbl hbA hS (vin (by omega) (by omega) hL) gdL_law_1581 ?_
  refine lv_topk (scr_i scr i 1) ?_
  refine lv_aload_n hx hb gdL_law_1582 rfl (lv_at hl 3 rfl) ?_
  refine lv_iload_n hx hb gdL_law_1583 rfl (lv_at hl 0 rfl) ?_
  refine lv_iconst (v := Int32.ofInt 2) hx hb gdL_law_1584 rfl ?_
  refine lv_iadd hx hb gdL_law_1585 (lv_topk (oi_add i 2) ?_)
  refine va_sld hx hb hX hbl hbA hS (vin (by omega) (by omega) hL) gdL_law_1586 ?_
  refine lv_topk (scr_i scr i 2) ?_
  obtain ⟨v1, hv1, hq1⟩ := t_X12_noise oM (scr_ scr i 1) (scr_ scr i 2) invM.1 (by omega) (by omega)
  refine kMi (oC := v0.2) (oM := oM) X (c_X12_noise l g adM oM (scr_ scr i 1) (scr_ scr i 2) v1 hv1) rfl okm_X12_noise okw_X12_noise w_2030 rfl hK hP hD hS hA hZ hl.1 rfl (Nat.le_of_ble_eq_true rfl) ⟨(Nat.le_of_ble_eq_true rfl), (Nat.le_of_ble_eq_true rfl)⟩ gdL_law_1587 hcs (fun H locs hP hD hS => ?_)
  replace hq1 : BoxM v1.2 ∧ (Fr [(0, 0), (0, 2), (1, 9999)] oM v1.2) := hq1
  replace invM : INVM v1.2 := invM.fr hq1.1 hq1.2 rfl rfl (fun _ => rfl)
  refine lv_pop hx hb gdL_law_1590 rfl ?_
  refine lv_goto (tgt := 1952) hx hb gdL_law_1591 (by decide) ?_
  have hR9 : REL v0.2 v1.2 := ⟨hR.1.fr hq0.2 hq1.2 (fun _ => rfl) (fun _ => rfl) (fun _ => rfl) (fun _ => rfl), hR.2.1.fr hq0.2 hq1.2 (fun _ => rfl) (fun _ => rfl) (fun _ => rfl) (fun _ => rfl), day_fr hR.2.2.1 hq0.2 hq1.2 rfl rfl, hR.2.2.2.1.fr hq0.2 hq1.2 rfl rfl (fun _ => rfl) (fun _ => rfl) (fun _ => rfl) (fun _ => rfl) (fun _ => rfl) (fun _ => rfl), hR.2.2.2.2.fr hq0.2 hq1.2 rfl rfl (fun _ => rfl) (fun _ => rfl)⟩
  exact kend v0.2 v1.2 _ _ _ invC invM hR9 hP hD hS hl
set_option maxHeartbeats 4000000 in
set_option maxRecDepth 100000 in
theorem law_38 (l : Launch) (g : GG) {p : Program} {e : Env} {s : State} {m : MethodId} {below : List Frame} {meth : Method} {c : Code} {b L : Nat} {scr : Nat → Int32} {A : Nat → Prop} {Q : State → Prop} {cells slots : Nat} {H : Heap} {locs : List Loc} {ls : Array Slot} {adC adM : Nat → Nat} {oC oM : OO} {B i : Int} (X : En p s m #[Value.ref b] meth c cL_law 4 ret R_law meth.name) (hK : va_K g.1 classes (tyG g) s) (hA : ∀ q, s.heap.size ≤ q → A q) (hZ : stS g A s s.heap) (hX : va_X b L scr s s.heap) (hbl : b < s.heap.size) (hbA : ¬ A b) (hcs : cells + 0 ≤ room_1.cells ∧ slots + 0 ≤ room_1.slots) (hL : L ≤ 3072) (i0 : 0 ≤ i) (i1 : i + 6 ≤ (L : Int)) (hB0 : 0 ≤ B) (hB1 : B ≤ 379000000) (invC : INVC oC B) (invM : INVM oM) (hR : REL oC oM) (hP : va_P g.1 classes (wC g adC oC ++ wM g adM oM) H) (hD : va_D A (wC g adC oC ++ wM g adM oM)) (hS : va_S A s.heap H locs) (hl : lv_has ls 4 [(3, iv i), (2, .ref (adM 0)), (1, .ref (adC 0)), (0, .ref b)])
    (kend : ∀ (oC oM : OO) (H : Heap) (locs : List Loc) (ls : Array Slot), INVC oC (B + 740000) → INVM oM → REL oC oM → va_P g.1 classes (wC g adC oC ++ wM g adM oM) H → va_D A (wC g adC oC ++ wM g adM oM) → va_S A s.heap H locs → lv_has ls 4 [(3, iv i), (2, .ref (adM 0)), (1, .ref (adC 0)), (0, .ref b)] → W p l e room_1 s m #[Value.ref b] below meth c H locs cells slots Q (F0 m 1952 ls [])) : W p l e room_1 s m #[Value.ref b] below meth c H locs cells slots Q (F0 m 1594 ls []) := by
  have hx := X.1
  have hb := X.2.1
  have sr1 := scr_R scr i 1
  have sr2 := scr_R scr i 2
  have sr3 := scr_R scr i 3
  have sr4 := scr_R scr i 4
  have sr5 := scr_R scr i 5
  have iC0 := invC
  have iM0 := invM
  refine lv_aload_n hx hb gdL_law_1594 rfl (lv_at hl 2 rfl) ?_
  refine lv_aload_n hx hb gdL_law_1595 rfl (lv_at hl 3 rfl) ?_
  refine lv_iload_n hx hb gdL_law_1596 rfl (lv_at hl 0 rfl) ?_
  refine lv_iconst (v := Int32.ofInt 1) hx hb gdL_law_1597 rfl ?_
  refine lv_iadd hx hb gdL_law_1598 (lv_topk (oi_add i 1) ?_)
  refine va_sld hx hb hX hbl hbA hS (vin (by omega) (by omega) hL) gdL_law_1599 ?_
  refine lv_topk (scr_i scr i 1) ?_
  obtain ⟨v0, hv0, hq0⟩ := t_X11_park oC (scr_ scr i 1) invC.1 (by omega)
  refine kCi (oC := oC) (oM := oM) X (c_X11_park l g adC oC (scr_ scr i 1) v0 hv0) rfl okm_X11_park okw_X11_park w_1217 rfl hK hP hD hS hA hZ hl.1 rfl (Nat.le_of_ble_eq_true rfl) ⟨(Nat.le_of_ble_eq_true rfl), (Nat.le_of_ble_eq_true rfl)⟩ gdL_law_1600 hcs (fun H locs hP hD hS => ?_)
  replace hq0 : BoxC v0.2 ∧ (Fr [(0, 14), (0, 17), (77, 9999)] oC v0.2) := hq0
  replace invC : INVC v0.2 (B + 740000) := invC.fr hB0 hq0.1 hq0.2 rfl rfl (fun _ => rfl) (fun _ => rfl) (fun _ => rfl) (fun _ => rfl) (fun _ => rfl) (fun _ => rfl)
  refine lv_pop hx hb gdL_law_1603 rfl ?_
  refine lv_aload_n hx hb gdL_law_1604 rfl (lv_at hl 1 rfl) ?_
  refine lv_aload_n hx hb gdL_law_1605 rfl (lv_at hl 3 rfl) ?_
  refine lv_iload_n hx hb gdL_law_1606 rfl (lv_at hl 0 rfl) ?_
  refine lv_iconst (v := Int32.ofInt 1) hx hb gdL_law_1607 rfl ?_
  refine lv_iadd hx hb gdL_law_1608 (lv_topk (oi_add i 1) ?_)
  refine va_sld hx hb hX hbl hbA hS (vin (by omega) (by omega) hL) gdL_law_1609 ?_
  refine lv_topk (scr_i scr i 1) ?_
  obtain ⟨v1, hv1, hq1⟩ := t_X12_park oM (scr_ scr i 1) invM.1 (by omega)
  refine kMi (oC := v0.2) (oM := oM) X (c_X12_park l g adM oM (scr_ scr i 1) v1 hv1) rfl okm_X12_park okw_X12_park w_2042 rfl hK hP hD hS hA hZ hl.1 rfl (Nat.le_of_ble_eq_true rfl) ⟨(Nat.le_of_ble_eq_true rfl), (Nat.le_of_ble_eq_true rfl)⟩ gdL_law_1610 hcs (fun H locs hP hD hS => ?_)
  replace hq1 : BoxM v1.2 ∧ (Fr [(0, 0), (0, 2), (1, 9999)] oM v1.2) := hq1
  replace invM : INVM v1.2 := invM.fr hq1.1 hq1.2 rfl rfl (fun _ => rfl)
  refine lv_pop hx hb gdL_law_1613 rfl ?_
  refine lv_goto (tgt := 1952) hx hb gdL_law_1614 (by decide) ?_
  have hR9 : REL v0.2 v1.2 := ⟨hR.1.fr hq0.2 hq1.2 (fun _ => rfl) (fun _ => rfl) (fun _ => rfl) (fun _ => rfl), hR.2.1.fr hq0.2 hq1.2 (fun _ => rfl) (fun _ => rfl) (fun _ => rfl) (fun _ => rfl), day_fr hR.2.2.1 hq0.2 hq1.2 rfl rfl, hR.2.2.2.1.fr hq0.2 hq1.2 rfl rfl (fun _ => rfl) (fun _ => rfl) (fun _ => rfl) (fun _ => rfl) (fun _ => rfl) (fun _ => rfl), hR.2.2.2.2.fr hq0.2 hq1.2 rfl rfl (fun _ => rfl) (fun _ => rfl)⟩
  exact kend v0.2 v1.2 _ _ _ invC invM hR9 hP hD hS hl
set_option maxHeartbeats 4000000 in
set_option maxRecDepth 100000 in
theorem law_39 (l : Launch) (g : GG) {p : Program} {e : Env} {s : State} {m : MethodId} {below : List Frame} {meth : Method} {c : Code} {b L : Nat} {scr : Nat → Int32} {A : Nat → Prop} {Q : State → Prop} {cells slots : Nat} {H : Heap} {locs : List Loc} {ls : Array Slot} {adC adM : Nat → Nat} {oC oM : OO} {B i : Int} (X : En p s m #[Value.ref b] meth c cL_law 4 ret R_law meth.name) (hK : va_K g.1 classes (tyG g) s) (hA : ∀ q, s.heap.size ≤ q → A q) (hZ : stS g A s s.heap) (hX : va_X b L scr s s.heap) (hbl : b < s.heap.size) (hbA : ¬ A b) (hcs : cells + 0 ≤ room_1.cells ∧ slots + 0 ≤ room_1.slots) (hL : L ≤ 3072) (i0 : 0 ≤ i) (i1 : i + 6 ≤ (L : Int)) (hB0 : 0 ≤ B) (hB1 : B ≤ 379000000) (invC : INVC oC B) (invM : INVM oM) (hR : REL oC oM) (hP : va_P g.1 classes (wC g adC oC ++ wM g adM oM) H) (hD : va_D A (wC g adC oC ++ wM g adM oM)) (hS : va_S A s.heap H locs) (hl : lv_has ls 4 [(3, iv i), (2, .ref (adM 0)), (1, .ref (adC 0)), (0, .ref b)])
    (kend : ∀ (oC oM : OO) (H : Heap) (locs : List Loc) (ls : Array Slot), INVC oC (B + 740000) → INVM oM → REL oC oM → va_P g.1 classes (wC g adC oC ++ wM g adM oM) H → va_D A (wC g adC oC ++ wM g adM oM) → va_S A s.heap H locs → lv_has ls 4 [(3, iv i), (2, .ref (adM 0)), (1, .ref (adC 0)), (0, .ref b)] → W p l e room_1 s m #[Value.ref b] below meth c H locs cells slots Q (F0 m 1952 ls [])) : W p l e room_1 s m #[Value.ref b] below meth c H locs cells slots Q (F0 m 1617 ls []) := by
  have hx := X.1
  have hb := X.2.1
  have sr1 := scr_R scr i 1
  have sr2 := scr_R scr i 2
  have sr3 := scr_R scr i 3
  have sr4 := scr_R scr i 4
  have sr5 := scr_R scr i 5
  have iC0 := invC
  have iM0 := invM
  refine lv_aload_n hx hb gdL_law_1617 rfl (lv_at hl 2 rfl) ?_
  refine lv_aload_n hx hb gdL_law_1618 rfl (lv_at hl 3 rfl) ?_
  refine lv_iload_n hx hb gdL_law_1619 rfl (lv_at hl 0 rfl) ?_
  refine lv_iconst (v := Int32.ofInt 1) hx hb gdL_law_1620 rfl ?_
  refine lv_iadd hx hb gdL_law_1621 (lv_topk (oi_add i 1) ?_)
  refine va_sld hx hb hX hbl hbA hS (vin (by omega) (by omega) hL) gdL_law_1622 ?_
  refine lv_topk (scr_i scr i 1) ?_
  obtain ⟨v0, hv0, hq0⟩ := t_X11_isVoid oC (scr_ scr i 1) invC.1 (by omega)
  refine kCi (oC := oC) (oM := oM) X (c_X11_isVoid l g adC oC (scr_ scr i 1) v0 hv0) rfl okm_X11_isVoid okw_X11_isVoid w_1226 rfl hK hP hD hS hA hZ hl.1 rfl (Nat.le_of_ble_eq_true rfl) ⟨(Nat.le_of_ble_eq_true rfl), (Nat.le_of_ble_eq_true rfl)⟩ gdL_law_1623 hcs (fun H locs hP hD hS => ?_)
  replace hq0 : BoxC v0.2 ∧ (Fr [(0, 17), (77, 9999)] oC v0.2) := hq0
  replace invC : INVC v0.2 (B + 740000) := invC.fr hB0 hq0.1 hq0.2 rfl rfl (fun _ => rfl) (fun _ => rfl) (fun _ => rfl) (fun _ => rfl) (fun _ => rfl) (fun _ => rfl)
  refine lv_pop hx hb gdL_law_1626 rfl ?_
  refine lv_aload_n hx hb gdL_law_1627 rfl (lv_at hl 1 rfl) ?_
  refine lv_aload_n hx hb gdL_law_1628 rfl (lv_at hl 3 rfl) ?_
  refine lv_iload_n hx hb gdL_law_1629 rfl (lv_at hl 0 rfl) ?_
  refine lv_iconst (v := Int32.ofInt 1) hx hb gdL_law_1630 rfl ?_
  refine lv_iadd hx hb gdL_law_1631 (lv_topk (oi_add i 1) ?_)
  refine va_sld hx hb hX hbl hbA hS (vin (by omega) (by omega) hL) gdL_law_1632 ?_
  refine lv_topk (scr_i scr i 1) ?_
  obtain ⟨v1, hv1, hq1⟩ := t_X12_isVoid oM (scr_ scr i 1) invM.1 (by omega)
  refine kMi (oC := v0.2) (oM := oM) X (c_X12_isVoid l g adM oM (scr_ scr i 1) v1 hv1) rfl okm_X12_isVoid okw_X12_isVoid w_2050 rfl hK hP hD hS hA hZ hl.1 rfl (Nat.le_of_ble_eq_true rfl) ⟨(Nat.le_of_ble_eq_true rfl), (Nat.le_of_ble_eq_true rfl)⟩ gdL_law_1633 hcs (fun H locs hP hD hS => ?_)
  replace hq1 : BoxM v1.2 ∧ (Fr [(0, 0), (1, 9999)] oM v1.2) := hq1
  replace invM : INVM v1.2 := invM.fr hq1.1 hq1.2 rfl rfl (fun _ => rfl)
  refine lv_pop hx hb gdL_law_1636 rfl ?_
  refine lv_goto (tgt := 1952) hx hb gdL_law_1637 (by decide) ?_
  have hR9 : REL v0.2 v1.2 := ⟨hR.1.fr hq0.2 hq1.2 (fun _ => rfl) (fun _ => rfl) (fun _ => rfl) (fun _ => rfl), hR.2.1.fr hq0.2 hq1.2 (fun _ => rfl) (fun _ => rfl) (fun _ => rfl) (fun _ => rfl), day_fr hR.2.2.1 hq0.2 hq1.2 rfl rfl, hR.2.2.2.1.fr hq0.2 hq1.2 rfl rfl (fun _ => rfl) (fun _ => rfl) (fun _ => rfl) (fun _ => rfl) (fun _ => rfl) (fun _ => rfl), hR.2.2.2.2.fr hq0.2 hq1.2 rfl rfl (fun _ => rfl) (fun _ => rfl)⟩
  exact kend v0.2 v1.2 _ _ _ invC invM hR9 hP hD hS hl
set_option maxHeartbeats 4000000 in
set_option maxRecDepth 100000 in
theorem law_40 (l : Launch) (g : GG) {p : Program} {e : Env} {s : State} {m : MethodId} {below : List Frame} {meth : Method} {c : Code} {b L : Nat} {scr : Nat → Int32} {A : Nat → Prop} {Q : State → Prop} {cells slots : Nat} {H : Heap} {locs : List Loc} {ls : Array Slot} {adC adM : Nat → Nat} {oC oM : OO} {B i : Int} (X : En p s m #[Value.ref b] meth c cL_law 4 ret R_law meth.name) (hK : va_K g.1 classes (tyG g) s) (hA : ∀ q, s.heap.size ≤ q → A q) (hZ : stS g A s s.heap) (hX : va_X b L scr s s.heap) (hbl : b < s.heap.size) (hbA : ¬ A b) (hcs : cells + 0 ≤ room_1.cells ∧ slots + 0 ≤ room_1.slots) (hL : L ≤ 3072) (i0 : 0 ≤ i) (i1 : i + 6 ≤ (L : Int)) (hB0 : 0 ≤ B) (hB1 : B ≤ 379000000) (invC : INVC oC B) (invM : INVM oM) (hR : REL oC oM) (hP : va_P g.1 classes (wC g adC oC ++ wM g adM oM) H) (hD : va_D A (wC g adC oC ++ wM g adM oM)) (hS : va_S A s.heap H locs) (hl : lv_has ls 4 [(3, iv i), (2, .ref (adM 0)), (1, .ref (adC 0)), (0, .ref b)])
    (kend : ∀ (oC oM : OO) (H : Heap) (locs : List Loc) (ls : Array Slot), INVC oC (B + 740000) → INVM oM → REL oC oM → va_P g.1 classes (wC g adC oC ++ wM g adM oM) H → va_D A (wC g adC oC ++ wM g adM oM) → va_S A s.heap H locs → lv_has ls 4 [(3, iv i), (2, .ref (adM 0)), (1, .ref (adC 0)), (0, .ref b)] → W p l e room_1 s m #[Value.ref b] below meth c H locs cells slots Q (F0 m 1952 ls [])) : W p l e room_1 s m #[Value.ref b] below meth c H locs cells slots Q (F0 m 1640 ls []) := by
  have hx := X.1
  have hb := X.2.1
  have sr1 := scr_R scr i 1
  have sr2 := scr_R scr i 2
  have sr3 := scr_R scr i 3
  have sr4 := scr_R scr i 4
  have sr5 := scr_R scr i 5
  have iC0 := invC
  have iM0 := invM
  refine lv_aload_n hx hb gdL_law_1640 rfl (lv_at hl 2 rfl) ?_
  obtain ⟨v0, hv0, hq0⟩ := t_X11_owed oC invC.1
  refine kCi (oC := oC) (oM := oM) X (c_X11_owed l g adC oC v0 hv0) rfl okm_X11_owed okw_X11_owed w_1250 rfl hK hP hD hS hA hZ hl.1 rfl (Nat.le_of_ble_eq_true rfl) ⟨(Nat.le_of_ble_eq_true rfl), (Nat.le_of_ble_eq_true rfl)⟩ gdL_law_1641 hcs (fun H locs hP hD hS => ?_)
  replace hq0 : BoxC v0.2 ∧ (Fr [(0, 15)] oC v0.2) := hq0
  replace invC : INVC v0.2 (B + 740000) := invC.fr hB0 hq0.1 hq0.2 rfl rfl (fun _ => rfl) (fun _ => rfl) (fun _ => rfl) (fun _ => rfl) (fun _ => rfl) (fun _ => rfl)
  refine lv_pop hx hb gdL_law_1644 rfl ?_
  refine lv_aload_n hx hb gdL_law_1645 rfl (lv_at hl 1 rfl) ?_
  obtain ⟨v1, hv1, hq1⟩ := t_X12_owed oM invM.1
  refine kMi (oC := v0.2) (oM := oM) X (c_X12_owed l g adM oM v1 hv1) rfl okm_X12_owed okw_X12_owed w_2062 rfl hK hP hD hS hA hZ hl.1 rfl (Nat.le_of_ble_eq_true rfl) ⟨(Nat.le_of_ble_eq_true rfl), (Nat.le_of_ble_eq_true rfl)⟩ gdL_law_1646 hcs (fun H locs hP hD hS => ?_)
  replace hq1 : BoxM v1.2 ∧ (Fr [(0, 64)] oM v1.2) := hq1
  replace invM : INVM v1.2 := invM.fr hq1.1 hq1.2 rfl rfl (fun _ => rfl)
  refine lv_pop hx hb gdL_law_1649 rfl ?_
  refine lv_goto (tgt := 1952) hx hb gdL_law_1650 (by decide) ?_
  have hR9 : REL v0.2 v1.2 := ⟨hR.1.fr hq0.2 hq1.2 (fun _ => rfl) (fun _ => rfl) (fun _ => rfl) (fun _ => rfl), hR.2.1.fr hq0.2 hq1.2 (fun _ => rfl) (fun _ => rfl) (fun _ => rfl) (fun _ => rfl), day_fr hR.2.2.1 hq0.2 hq1.2 rfl rfl, hR.2.2.2.1.fr hq0.2 hq1.2 rfl rfl (fun _ => rfl) (fun _ => rfl) (fun _ => rfl) (fun _ => rfl) (fun _ => rfl) (fun _ => rfl), hR.2.2.2.2.fr hq0.2 hq1.2 rfl rfl (fun _ => rfl) (fun _ => rfl)⟩
  exact kend v0.2 v1.2 _ _ _ invC invM hR9 hP hD hS hl
set_option maxHeartbeats 4000000 in
set_option maxRecDepth 100000 in
theorem law_41 (l : Launch) (g : GG) {p : Program} {e : Env} {s : State} {m : MethodId} {below : List Frame} {meth : Method} {c : Code} {b L : Nat} {scr : Nat → Int32} {A : Nat → Prop} {Q : State → Prop} {cells slots : Nat} {H : Heap} {locs : List Loc} {ls : Array Slot} {adC adM : Nat → Nat} {oC oM : OO} {B i : Int} (X : En p s m #[Value.ref b] meth c cL_law 4 ret R_law meth.name) (hK : va_K g.1 classes (tyG g) s) (hA : ∀ q, s.heap.size ≤ q → A q) (hZ : stS g A s s.heap) (hX : va_X b L scr s s.heap) (hbl : b < s.heap.size) (hbA : ¬ A b) (hcs : cells + 0 ≤ room_1.cells ∧ slots + 0 ≤ room_1.slots) (hL : L ≤ 3072) (i0 : 0 ≤ i) (i1 : i + 6 ≤ (L : Int)) (hB0 : 0 ≤ B) (hB1 : B ≤ 379000000) (invC : INVC oC B) (invM : INVM oM) (hR : REL oC oM) (hP : va_P g.1 classes (wC g adC oC ++ wM g adM oM) H) (hD : va_D A (wC g adC oC ++ wM g adM oM)) (hS : va_S A s.heap H locs) (hl : lv_has ls 4 [(3, iv i), (2, .ref (adM 0)), (1, .ref (adC 0)), (0, .ref b)])
    (kend : ∀ (oC oM : OO) (H : Heap) (locs : List Loc) (ls : Array Slot), INVC oC (B + 740000) → INVM oM → REL oC oM → va_P g.1 classes (wC g adC oC ++ wM g adM oM) H → va_D A (wC g adC oC ++ wM g adM oM) → va_S A s.heap H locs → lv_has ls 4 [(3, iv i), (2, .ref (adM 0)), (1, .ref (adC 0)), (0, .ref b)] → W p l e room_1 s m #[Value.ref b] below meth c H locs cells slots Q (F0 m 1952 ls [])) : W p l e room_1 s m #[Value.ref b] below meth c H locs cells slots Q (F0 m 1653 ls []) := by
  have hx := X.1
  have hb := X.2.1
  have sr1 := scr_R scr i 1
  have sr2 := scr_R scr i 2
  have sr3 := scr_R scr i 3
  have sr4 := scr_R scr i 4
  have sr5 := scr_R scr i 5
  have iC0 := invC
  have iM0 := invM
  refine lv_aload_n hx hb gdL_law_1653 rfl (lv_at hl 2 rfl) ?_
  obtain ⟨v0, hv0, hq0⟩ := t_X11_coins oC invC.1
  refine kCl (oC := oC) (oM := oM) X (c_X11_coins l g adC oC v0 hv0) rfl okm_X11_coins okw_X11_coins w_1254 rfl hK hP hD hS hA hZ hl.1 rfl (Nat.le_of_ble_eq_true rfl) ⟨(Nat.le_of_ble_eq_true rfl), (Nat.le_of_ble_eq_true rfl)⟩ gdL_law_1654 hcs (fun H locs hP hD hS => ?_)
  replace invC : INVC oC (B + 740000) := invC.up
  refine lv_pop2_2 hx hb gdL_law_1657 rfl ?_
  refine lv_aload_n hx hb gdL_law_1658 rfl (lv_at hl 1 rfl) ?_
  obtain ⟨v1, hv1, hq1⟩ := t_X12_coins oM invM.1
  refine kMl (oC := oC) (oM := oM) X (c_X12_coins l g adM oM v1 hv1) rfl okm_X12_coins okw_X12_coins w_2066 rfl hK hP hD hS hA hZ hl.1 rfl (Nat.le_of_ble_eq_true rfl) ⟨(Nat.le_of_ble_eq_true rfl), (Nat.le_of_ble_eq_true rfl)⟩ gdL_law_1659 hcs (fun H locs hP hD hS => ?_)
  refine lv_pop2_2 hx hb gdL_law_1662 rfl ?_
  refine lv_goto (tgt := 1952) hx hb gdL_law_1663 (by decide) ?_
  have hR9 : REL oC oM := ⟨hR.1.fr (Fr.rf (L := [])) (Fr.rf (L := [])) (fun _ => rfl) (fun _ => rfl) (fun _ => rfl) (fun _ => rfl), hR.2.1.fr (Fr.rf (L := [])) (Fr.rf (L := [])) (fun _ => rfl) (fun _ => rfl) (fun _ => rfl) (fun _ => rfl), day_fr hR.2.2.1 (Fr.rf (L := [])) (Fr.rf (L := [])) rfl rfl, hR.2.2.2.1.fr (Fr.rf (L := [])) (Fr.rf (L := [])) rfl rfl (fun _ => rfl) (fun _ => rfl) (fun _ => rfl) (fun _ => rfl) (fun _ => rfl) (fun _ => rfl), hR.2.2.2.2.fr (Fr.rf (L := [])) (Fr.rf (L := [])) rfl rfl (fun _ => rfl) (fun _ => rfl)⟩
  exact kend oC oM _ _ _ invC invM hR9 hP hD hS hl
set_option maxHeartbeats 4000000 in
set_option maxRecDepth 100000 in
theorem law_42 (l : Launch) (g : GG) {p : Program} {e : Env} {s : State} {m : MethodId} {below : List Frame} {meth : Method} {c : Code} {b L : Nat} {scr : Nat → Int32} {A : Nat → Prop} {Q : State → Prop} {cells slots : Nat} {H : Heap} {locs : List Loc} {ls : Array Slot} {adC adM : Nat → Nat} {oC oM : OO} {B i : Int} (X : En p s m #[Value.ref b] meth c cL_law 4 ret R_law meth.name) (hK : va_K g.1 classes (tyG g) s) (hA : ∀ q, s.heap.size ≤ q → A q) (hZ : stS g A s s.heap) (hX : va_X b L scr s s.heap) (hbl : b < s.heap.size) (hbA : ¬ A b) (hcs : cells + 0 ≤ room_1.cells ∧ slots + 0 ≤ room_1.slots) (hL : L ≤ 3072) (i0 : 0 ≤ i) (i1 : i + 6 ≤ (L : Int)) (hB0 : 0 ≤ B) (hB1 : B ≤ 379000000) (invC : INVC oC B) (invM : INVM oM) (hR : REL oC oM) (hP : va_P g.1 classes (wC g adC oC ++ wM g adM oM) H) (hD : va_D A (wC g adC oC ++ wM g adM oM)) (hS : va_S A s.heap H locs) (hl : lv_has ls 4 [(3, iv i), (2, .ref (adM 0)), (1, .ref (adC 0)), (0, .ref b)])
    (kend : ∀ (oC oM : OO) (H : Heap) (locs : List Loc) (ls : Array Slot), INVC oC (B + 740000) → INVM oM → REL oC oM → va_P g.1 classes (wC g adC oC ++ wM g adM oM) H → va_D A (wC g adC oC ++ wM g adM oM) → va_S A s.heap H locs → lv_has ls 4 [(3, iv i), (2, .ref (adM 0)), (1, .ref (adC 0)), (0, .ref b)] → W p l e room_1 s m #[Value.ref b] below meth c H locs cells slots Q (F0 m 1952 ls [])) : W p l e room_1 s m #[Value.ref b] below meth c H locs cells slots Q (F0 m 1666 ls []) := by
  have hx := X.1
  have hb := X.2.1
  have sr1 := scr_R scr i 1
  have sr2 := scr_R scr i 2
  have sr3 := scr_R scr i 3
  have sr4 := scr_R scr i 4
  have sr5 := scr_R scr i 5
  have iC0 := invC
  have iM0 := invM
  refine lv_aload_n hx hb gdL_law_1666 rfl (lv_at hl 2 rfl) ?_
  refine lv_aload_n hx hb gdL_law_1667 rfl (lv_at hl 3 rfl) ?_
  refine lv_iload_n hx hb gdL_law_1668 rfl (lv_at hl 0 rfl) ?_
  refine lv_iconst (v := Int32.ofInt 1) hx hb gdL_law_1669 rfl ?_
  refine lv_iadd hx hb gdL_law_1670 (lv_topk (oi_add i 1) ?_)
  refine va_sld hx hb hX hbl hbA hS (vin (by omega) (by omega) hL) gdL_law_1671 ?_
  refine lv_topk (scr_i scr i 1) ?_
  obtain ⟨v0, hv0, hq0⟩ := t_X11_acts oC (scr_ scr i 1) invC.1 (by omega)
  refine kCi (oC := oC) (oM := oM) X (c_X11_acts l g adC oC (scr_ scr i 1) v0 hv0) rfl okm_X11_acts okw_X11_acts w_1258 rfl hK hP hD hS hA hZ hl.1 rfl (Nat.le_of_ble_eq_true rfl) ⟨(Nat.le_of_ble_eq_true rfl), (Nat.le_of_ble_eq_true rfl)⟩ gdL_law_1672 hcs (fun H locs hP hD hS => ?_)
  replace hq0 : BoxC v0.2 ∧ (Fr [(0, 17), (66, 0), (66, 1), (67, 9999), (68, 9999), (69, 9999), (70, 9999), (77, 9999)] oC v0.2) := hq0
  replace invC : INVC v0.2 (B + 740000) := invC.fr hB0 hq0.1 hq0.2 rfl rfl (fun _ => rfl) (fun _ => rfl) (fun _ => rfl) (fun _ => rfl) (fun _ => rfl) (fun _ => rfl)
  refine lv_pop hx hb gdL_law_1675 rfl ?_
  refine lv_aload_n hx hb gdL_law_1676 rfl (lv_at hl 1 rfl) ?_
  refine lv_aload_n hx hb gdL_law_1677 rfl (lv_at hl 3 rfl) ?_
  refine lv_iload_n hx hb gdL_law_1678 rfl (lv_at hl 0 rfl) ?_
  refine lv_iconst (v := Int32.ofInt 1) hx hb gdL_law_1679 rfl ?_
  refine lv_iadd hx hb gdL_law_1680 (lv_topk (oi_add i 1) ?_)
  refine va_sld hx hb hX hbl hbA hS (vin (by omega) (by omega) hL) gdL_law_1681 ?_
  refine lv_topk (scr_i scr i 1) ?_
  obtain ⟨v1, hv1, hq1⟩ := t_X12_acts oM (scr_ scr i 1) invM.1 (by omega)
  refine kMi (oC := v0.2) (oM := oM) X (c_X12_acts l g adM oM (scr_ scr i 1) v1 hv1) rfl okm_X12_acts okw_X12_acts w_2070 rfl hK hP hD hS hA hZ hl.1 rfl (Nat.le_of_ble_eq_true rfl) ⟨(Nat.le_of_ble_eq_true rfl), (Nat.le_of_ble_eq_true rfl)⟩ gdL_law_1682 hcs (fun H locs hP hD hS => ?_)
  replace hq1 : BoxM v1.2 ∧ (Fr [(0, 0), (0, 65), (0, 66), (1, 9999), (54, 9999), (55, 9999), (56, 9999), (57, 9999)] oM v1.2) := hq1
  replace invM : INVM v1.2 := invM.fr hq1.1 hq1.2 rfl rfl (fun _ => rfl)
  have hsp : v0.1 = v1.1 ∧ ACR v0.2 v1.2 := ACR.acts hR.2.2.2.2 hR.1 hR.2.2.1 (ra_acts_C (x1 := (scr_ scr i 1)) (BC10 iC0.1) rfl (bC_2 iC0.1 _).1 rfl (BC13 iC0.1) _ hv0) (ra_acts_M (x1 := (scr_ scr i 1)) rfl rfl (BM4 iM0.1) _ hv1)
  refine lv_pop hx hb gdL_law_1685 rfl ?_
  refine lv_goto (tgt := 1952) hx hb gdL_law_1686 (by decide) ?_
  have hR9 : REL v0.2 v1.2 := ⟨hR.1.fr hq0.2 hq1.2 (fun _ => rfl) (fun _ => rfl) (fun _ => rfl) (fun _ => rfl), hR.2.1.fr hq0.2 hq1.2 (fun _ => rfl) (fun _ => rfl) (fun _ => rfl) (fun _ => rfl), day_fr hR.2.2.1 hq0.2 hq1.2 rfl rfl, hR.2.2.2.1.fr hq0.2 hq1.2 rfl rfl (fun _ => rfl) (fun _ => rfl) (fun _ => rfl) (fun _ => rfl) (fun _ => rfl) (fun _ => rfl), hsp.2⟩
  exact kend v0.2 v1.2 _ _ _ invC invM hR9 hP hD hS hl
set_option maxHeartbeats 4000000 in
set_option maxRecDepth 100000 in
theorem law_43 (l : Launch) (g : GG) {p : Program} {e : Env} {s : State} {m : MethodId} {below : List Frame} {meth : Method} {c : Code} {b L : Nat} {scr : Nat → Int32} {A : Nat → Prop} {Q : State → Prop} {cells slots : Nat} {H : Heap} {locs : List Loc} {ls : Array Slot} {adC adM : Nat → Nat} {oC oM : OO} {B i : Int} (X : En p s m #[Value.ref b] meth c cL_law 4 ret R_law meth.name) (hK : va_K g.1 classes (tyG g) s) (hA : ∀ q, s.heap.size ≤ q → A q) (hZ : stS g A s s.heap) (hX : va_X b L scr s s.heap) (hbl : b < s.heap.size) (hbA : ¬ A b) (hcs : cells + 0 ≤ room_1.cells ∧ slots + 0 ≤ room_1.slots) (hL : L ≤ 3072) (i0 : 0 ≤ i) (i1 : i + 6 ≤ (L : Int)) (hB0 : 0 ≤ B) (hB1 : B ≤ 379000000) (invC : INVC oC B) (invM : INVM oM) (hR : REL oC oM) (hP : va_P g.1 classes (wC g adC oC ++ wM g adM oM) H) (hD : va_D A (wC g adC oC ++ wM g adM oM)) (hS : va_S A s.heap H locs) (hl : lv_has ls 4 [(3, iv i), (2, .ref (adM 0)), (1, .ref (adC 0)), (0, .ref b)])
    (kend : ∀ (oC oM : OO) (H : Heap) (locs : List Loc) (ls : Array Slot), INVC oC (B + 740000) → INVM oM → REL oC oM → va_P g.1 classes (wC g adC oC ++ wM g adM oM) H → va_D A (wC g adC oC ++ wM g adM oM) → va_S A s.heap H locs → lv_has ls 4 [(3, iv i), (2, .ref (adM 0)), (1, .ref (adC 0)), (0, .ref b)] → W p l e room_1 s m #[Value.ref b] below meth c H locs cells slots Q (F0 m 1952 ls [])) : W p l e room_1 s m #[Value.ref b] below meth c H locs cells slots Q (F0 m 1689 ls []) := by
  have hx := X.1
  have hb := X.2.1
  have sr1 := scr_R scr i 1
  have sr2 := scr_R scr i 2
  have sr3 := scr_R scr i 3
  have sr4 := scr_R scr i 4
  have sr5 := scr_R scr i 5
  have iC0 := invC
  have iM0 := invM
  refine lv_aload_n hx hb gdL_law_1689 rfl (lv_at hl 2 rfl) ?_
  refine lv_aload_n hx hb gdL_law_1690 rfl (lv_at hl 3 rfl) ?_
  refine lv_iload_n hx hb gdL_law_1691 rfl (lv_at hl 0 rfl) ?_
  refine lv_iconst (v := Int32.ofInt 1) hx hb gdL_law_1692 rfl ?_
  refine lv_iadd hx hb gdL_law_1693 (lv_topk (oi_add i 1) ?_)
  refine va_sld hx hb hX hbl hbA hS (vin (by omega) (by omega) hL) gdL_law_1694 ?_
  refine lv_topk (scr_i scr i 1) ?_
  obtain ⟨v0, hv0, hq0⟩ := t_X11_act oC (scr_ scr i 1) invC.1 (by omega)
  refine kCi (oC := oC) (oM := oM) X (c_X11_act l g adC oC (scr_ scr i 1) v0 hv0) rfl okm_X11_act okw_X11_act w_1298 rfl hK hP hD hS hA hZ hl.1 rfl (Nat.le_of_ble_eq_true rfl) ⟨(Nat.le_of_ble_eq_true rfl), (Nat.le_of_ble_eq_true rfl)⟩ gdL_law_1695 hcs (fun H locs hP hD hS => ?_)
  replace hq0 : BoxC v0.2 ∧ (Fr [(0, 14)] oC v0.2) := hq0
  replace invC : INVC v0.2 (B + 740000) := invC.fr hB0 hq0.1 hq0.2 rfl rfl (fun _ => rfl) (fun _ => rfl) (fun _ => rfl) (fun _ => rfl) (fun _ => rfl) (fun _ => rfl)
  refine lv_aload_n hx hb gdL_law_1698 rfl (lv_at hl 1 rfl) ?_
  refine lv_aload_n hx hb gdL_law_1699 rfl (lv_at hl 3 rfl) ?_
  refine lv_iload_n hx hb gdL_law_1700 rfl (lv_at hl 0 rfl) ?_
  refine lv_iconst (v := Int32.ofInt 1) hx hb gdL_law_1701 rfl ?_
  refine lv_iadd hx hb gdL_law_1702 (lv_topk (oi_add i 1) ?_)
  refine va_sld hx hb hX hbl hbA hS (vin (by omega) (by omega) hL) gdL_law_1703 ?_
  refine lv_topk (scr_i scr i 1) ?_
  obtain ⟨v1, hv1, hq1⟩ := t_X12_act oM (scr_ scr i 1) invM.1 (by omega)
  refine kMi (oC := v0.2) (oM := oM) X (c_X12_act l g adM oM (scr_ scr i 1) v1 hv1) rfl okm_X12_act okw_X12_act w_2078 rfl hK hP hD hS hA hZ hl.1 rfl (Nat.le_of_ble_eq_true rfl) ⟨(Nat.le_of_ble_eq_true rfl), (Nat.le_of_ble_eq_true rfl)⟩ gdL_law_1704 hcs (fun H locs hP hD hS => ?_)
  replace hq1 : BoxM v1.2 ∧ (Fr [(0, 2)] oM v1.2) := hq1
  replace invM : INVM v1.2 := invM.fr hq1.1 hq1.2 rfl rfl (fun _ => rfl)
  have hsp : v0.1 = v1.1 := ACR.act hR.2.2.2.2 (ra_act_C oC (scr_ scr i 1) _ hv0) (ra_act_M oM (scr_ scr i 1) _ hv1)
  refine lv_icmp_eq (tgt := 1952) hx hb gdL_law_1707 (by decide) (fun _ => ?_) (fun c => absurd (congrArg Int32.ofInt hsp) c)
  have hR9 : REL v0.2 v1.2 := ⟨hR.1.fr hq0.2 hq1.2 (fun _ => rfl) (fun _ => rfl) (fun _ => rfl) (fun _ => rfl), hR.2.1.fr hq0.2 hq1.2 (fun _ => rfl) (fun _ => rfl) (fun _ => rfl) (fun _ => rfl), day_fr hR.2.2.1 hq0.2 hq1.2 rfl rfl, hR.2.2.2.1.fr hq0.2 hq1.2 rfl rfl (fun _ => rfl) (fun _ => rfl) (fun _ => rfl) (fun _ => rfl) (fun _ => rfl) (fun _ => rfl), hR.2.2.2.2.fr hq0.2 hq1.2 rfl rfl (fun _ => rfl) (fun _ => rfl)⟩
  exact kend v0.2 v1.2 _ _ _ invC invM hR9 hP hD hS hl
set_option maxHeartbeats 4000000 in
set_option maxRecDepth 100000 in
theorem law_44 (l : Launch) (g : GG) {p : Program} {e : Env} {s : State} {m : MethodId} {below : List Frame} {meth : Method} {c : Code} {b L : Nat} {scr : Nat → Int32} {A : Nat → Prop} {Q : State → Prop} {cells slots : Nat} {H : Heap} {locs : List Loc} {ls : Array Slot} {adC adM : Nat → Nat} {oC oM : OO} {B i : Int} (X : En p s m #[Value.ref b] meth c cL_law 4 ret R_law meth.name) (hK : va_K g.1 classes (tyG g) s) (hA : ∀ q, s.heap.size ≤ q → A q) (hZ : stS g A s s.heap) (hX : va_X b L scr s s.heap) (hbl : b < s.heap.size) (hbA : ¬ A b) (hcs : cells + 0 ≤ room_1.cells ∧ slots + 0 ≤ room_1.slots) (hL : L ≤ 3072) (i0 : 0 ≤ i) (i1 : i + 6 ≤ (L : Int)) (hB0 : 0 ≤ B) (hB1 : B ≤ 379000000) (invC : INVC oC B) (invM : INVM oM) (hR : REL oC oM) (hP : va_P g.1 classes (wC g adC oC ++ wM g adM oM) H) (hD : va_D A (wC g adC oC ++ wM g adM oM)) (hS : va_S A s.heap H locs) (hl : lv_has ls 4 [(3, iv i), (2, .ref (adM 0)), (1, .ref (adC 0)), (0, .ref b)])
    (kend : ∀ (oC oM : OO) (H : Heap) (locs : List Loc) (ls : Array Slot), INVC oC (B + 740000) → INVM oM → REL oC oM → va_P g.1 classes (wC g adC oC ++ wM g adM oM) H → va_D A (wC g adC oC ++ wM g adM oM) → va_S A s.heap H locs → lv_has ls 4 [(3, iv i), (2, .ref (adM 0)), (1, .ref (adC 0)), (0, .ref b)] → W p l e room_1 s m #[Value.ref b] below meth c H locs cells slots Q (F0 m 1952 ls [])) : W p l e room_1 s m #[Value.ref b] below meth c H locs cells slots Q (F0 m 1712 ls []) := by
  have hx := X.1
  have hb := X.2.1
  have sr1 := scr_R scr i 1
  have sr2 := scr_R scr i 2
  have sr3 := scr_R scr i 3
  have sr4 := scr_R scr i 4
  have sr5 := scr_R scr i 5
  have iC0 := invC
  have iM0 := invM
  refine lv_aload_n hx hb gdL_law_1712 rfl (lv_at hl 2 rfl) ?_
  refine lv_aload_n hx hb gdL_law_1713 rfl (lv_at hl 3 rfl) ?_
  refine lv_iload_n hx hb gdL_law_1714 rfl (lv_at hl 0 rfl) ?_
  refine lv_iconst (v := Int32.ofInt 1) hx hb gdL_law_1715 rfl ?_
  refine lv_iadd hx hb gdL_law_1716 (lv_topk (oi_add i 1) ?_)
  refine va_sld hx hb hX hbl hbA hS (vin (by omega) (by omega) hL) gdL_law_1717 ?_
  refine lv_topk (scr_i scr i 1) ?_
  refine lv_aload_n hx hb gdL_law_1718 rfl (lv_at hl 3 rfl) ?_
  refine lv_iload_n hx hb gdL_law_1719 rfl (lv_at hl 0 rfl) ?_
  refine lv_iconst (v := Int32.ofInt 2) hx hb gdL_law_1720 rfl ?_
  refine lv_iadd hx hb gdL_law_1721 (lv_topk (oi_add i 2) ?_)
  refine va_sld hx hb hX hbl hbA hS (vin (by omega) (by omega) hL) gdL_law_1722 ?_
  refine lv_topk (scr_i scr i 2) ?_
  obtain ⟨v0, hv0, hq0⟩ := t_X11_grants oC (scr_ scr i 1) (scr_ scr i 2) invC.1 (by omega) (by omega)
  refine kCi (oC := oC) (oM := oM) X (c_X11_grants l g adC oC (scr_ scr i 1) (scr_ scr i 2) v0 hv0) rfl okm_X11_grants okw_X11_grants w_1314 rfl hK hP hD hS hA hZ hl.1 rfl (Nat.le_of_ble_eq_true rfl) ⟨(Nat.le_of_ble_eq_true rfl), (Nat.le_of_ble_eq_true rfl)⟩ gdL_law_1723 hcs (fun H locs hP hD hS => ?_)
  replace hq0 : BoxC v0.2 ∧ (Fr [(0, 14), (0, 15), (0, 17), (77, 9999)] oC v0.2) := hq0
  replace invC : INVC v0.2 (B + 740000) := invC.fr hB0 hq0.1 hq0.2 rfl rfl (fun _ => rfl) (fun _ => rfl) (fun _ => rfl) (fun _ => rfl) (fun _ => rfl) (fun _ => rfl)
  refine lv_pop hx hb gdL_law_1726 rfl ?_
  refine lv_aload_n hx hb gdL_law_1727 rfl (lv_at hl 1 rfl) ?_
  refine lv_aload_n hx hb gdL_law_1728 rfl (lv_at hl 3 rfl) ?_
  refine lv_iload_n hx hb gdL_law_1729 rfl (lv_at hl 0 rfl) ?_
  refine lv_iconst (v := Int32.ofInt 1) hx hb gdL_law_1730 rfl ?_
  refine lv_iadd hx hb gdL_law_1731 (lv_topk (oi_add i 1) ?_)
  refine va_sld hx hb hX hbl hbA hS (vin (by omega) (by omega) hL) gdL_law_1732 ?_
  refine lv_topk (scr_i scr i 1) ?_
  refine lv_aload_n hx hb gdL_law_1733 rfl (lv_at hl 3 rfl) ?_
  refine lv_iload_n hx hb gdL_law_1734 rfl (lv_at hl 0 rfl) ?_
  refine lv_iconst (v := Int32.ofInt 2) hx hb gdL_law_1735 rfl ?_
  refine lv_iadd hx hb gdL_law_1736 (lv_topk (oi_add i 2) ?_)
  refine va_sld hx hb hX hbl hbA hS (vin (by omega) (by omega) hL) gdL_law_1737 ?_
  refine lv_topk (scr_i scr i 2) ?_
  obtain ⟨v1, hv1, hq1⟩ := t_X12_grants oM (scr_ scr i 1) (scr_ scr i 2) invM.1 (by omega) (by omega)
  refine kMi (oC := v0.2) (oM := oM) X (c_X12_grants l g adM oM (scr_ scr i 1) (scr_ scr i 2) v1 hv1) rfl okm_X12_grants okw_X12_grants w_2082 rfl hK hP hD hS hA hZ hl.1 rfl (Nat.le_of_ble_eq_true rfl) ⟨(Nat.le_of_ble_eq_true rfl), (Nat.le_of_ble_eq_true rfl)⟩ gdL_law_1738 hcs (fun H locs hP hD hS => ?_)
  replace hq1 : BoxM v1.2 ∧ (Fr [(0, 0), (0, 2), (0, 64), (1, 9999)] oM v1.2) := hq1
  replace invM : INVM v1.2 := invM.fr hq1.1 hq1.2 rfl rfl (fun _ => rfl)
  refine lv_pop hx hb gdL_law_1741 rfl ?_
  refine lv_goto (tgt := 1952) hx hb gdL_law_1742 (by decide) ?_
  have hR9 : REL v0.2 v1.2 := ⟨hR.1.fr hq0.2 hq1.2 (fun _ => rfl) (fun _ => rfl) (fun _ => rfl) (fun _ => rfl), hR.2.1.fr hq0.2 hq1.2 (fun _ => rfl) (fun _ => rfl) (fun _ => rfl) (fun _ => rfl), day_fr hR.2.2.1 hq0.2 hq1.2 rfl rfl, hR.2.2.2.1.fr hq0.2 hq1.2 rfl rfl (fun _ => rfl) (fun _ => rfl) (fun _ => rfl) (fun _ => rfl) (fun _ => rfl) (fun _ => rfl), hR.2.2.2.2.fr hq0.2 hq1.2 rfl rfl (fun _ => rfl) (fun _ => rfl)⟩
  exact kend v0.2 v1.2 _ _ _ invC invM hR9 hP hD hS hl
set_option maxHeartbeats 4000000 in
set_option maxRecDepth 100000 in
theorem law_45 (l : Launch) (g : GG) {p : Program} {e : Env} {s : State} {m : MethodId} {below : List Frame} {meth : Method} {c : Code} {b L : Nat} {scr : Nat → Int32} {A : Nat → Prop} {Q : State → Prop} {cells slots : Nat} {H : Heap} {locs : List Loc} {ls : Array Slot} {adC adM : Nat → Nat} {oC oM : OO} {B i : Int} (X : En p s m #[Value.ref b] meth c cL_law 4 ret R_law meth.name) (hK : va_K g.1 classes (tyG g) s) (hA : ∀ q, s.heap.size ≤ q → A q) (hZ : stS g A s s.heap) (hX : va_X b L scr s s.heap) (hbl : b < s.heap.size) (hbA : ¬ A b) (hcs : cells + 0 ≤ room_1.cells ∧ slots + 0 ≤ room_1.slots) (hL : L ≤ 3072) (i0 : 0 ≤ i) (i1 : i + 6 ≤ (L : Int)) (hB0 : 0 ≤ B) (hB1 : B ≤ 379000000) (invC : INVC oC B) (invM : INVM oM) (hR : REL oC oM) (hP : va_P g.1 classes (wC g adC oC ++ wM g adM oM) H) (hD : va_D A (wC g adC oC ++ wM g adM oM)) (hS : va_S A s.heap H locs) (hl : lv_has ls 4 [(3, iv i), (2, .ref (adM 0)), (1, .ref (adC 0)), (0, .ref b)])
    (kend : ∀ (oC oM : OO) (H : Heap) (locs : List Loc) (ls : Array Slot), INVC oC (B + 740000) → INVM oM → REL oC oM → va_P g.1 classes (wC g adC oC ++ wM g adM oM) H → va_D A (wC g adC oC ++ wM g adM oM) → va_S A s.heap H locs → lv_has ls 4 [(3, iv i), (2, .ref (adM 0)), (1, .ref (adC 0)), (0, .ref b)] → W p l e room_1 s m #[Value.ref b] below meth c H locs cells slots Q (F0 m 1952 ls [])) : W p l e room_1 s m #[Value.ref b] below meth c H locs cells slots Q (F0 m 1745 ls []) := by
  have hx := X.1
  have hb := X.2.1
  have sr1 := scr_R scr i 1
  have sr2 := scr_R scr i 2
  have sr3 := scr_R scr i 3
  have sr4 := scr_R scr i 4
  have sr5 := scr_R scr i 5
  have iC0 := invC
  have iM0 := invM
  refine lv_aload_n hx hb gdL_law_1745 rfl (lv_at hl 2 rfl) ?_
  refine lv_aload_n hx hb gdL_law_1746 rfl (lv_at hl 3 rfl) ?_
  refine lv_iload_n hx hb gdL_law_1747 rfl (lv_at hl 0 rfl) ?_
  refine lv_iconst (v := Int32.ofInt 1) hx hb gdL_law_1748 rfl ?_
  refine lv_iadd hx hb gdL_law_1749 (lv_topk (oi_add i 1) ?_)
  refine va_sld hx hb hX hbl hbA hS (vin (by omega) (by omega) hL) gdL_law_1750 ?_
  refine lv_topk (scr_i scr i 1) ?_
  refine lv_aload_n hx hb gdL_law_1751 rfl (lv_at hl 3 rfl) ?_
  refine lv_iload_n hx hb gdL_law_1752 rfl (lv_at hl 0 rfl) ?_
  refine lv_iconst (v := Int32.ofInt 2) hx hb gdL_law_1753 rfl ?_
  refine lv_iadd hx hb gdL_law_1754 (lv_topk (oi_add i 2) ?_)
  refine va_sld hx hb hX hbl hbA hS (vin (by omega) (by omega) hL) gdL_law_1755 ?_
  refine lv_topk (scr_i scr i 2) ?_
  obtain ⟨v0, hv0, hq0⟩ := t_X11_stop oC (scr_ scr i 1) (scr_ scr i 2) invC.1 (by omega) (by omega)
  refine kCi (oC := oC) (oM := oM) X (c_X11_stop l g adC oC (scr_ scr i 1) (scr_ scr i 2) v0 hv0) rfl okm_X11_stop okw_X11_stop w_1319 rfl hK hP hD hS hA hZ hl.1 rfl (Nat.le_of_ble_eq_true rfl) ⟨(Nat.le_of_ble_eq_true rfl), (Nat.le_of_ble_eq_true rfl)⟩ gdL_law_1756 hcs (fun H locs hP hD hS => ?_)
  replace hq0 : BoxC v0.2 ∧ (Fr [(0, 16), (0, 17), (71, 5), (72, 9999), (73, 9999), (74, 9999), (75, 9999), (76, 9999), (77, 9999)] oC v0.2) := hq0
  replace invC : INVC v0.2 (B + 740000) := invC.fr hB0 hq0.1 hq0.2 rfl rfl (fun _ => rfl) (fun _ => rfl) (fun _ => rfl) (fun _ => rfl) (fun _ => rfl) (fun _ => rfl)
  refine lv_pop hx hb gdL_law_1759 rfl ?_
  refine lv_aload_n hx hb gdL_law_1760 rfl (lv_at hl 1 rfl) ?_
  refine lv_aload_n hx hb gdL_law_1761 rfl (lv_at hl 3 rfl) ?_
  refine lv_iload_n hx hb gdL_law_1762 rfl (lv_at hl 0 rfl) ?_
  refine lv_iconst (v := Int32.ofInt 1) hx hb gdL_law_1763 rfl ?_
  refine lv_iadd hx hb gdL_law_1764 (lv_topk (oi_add i 1) ?_)
  refine va_sld hx hb hX hbl hbA hS (vin (by omega) (by omega) hL) gdL_law_1765 ?_
  refine lv_topk (scr_i scr i 1) ?_
  refine lv_aload_n hx hb gdL_law_1766 rfl (lv_at hl 3 rfl) ?_
  refine lv_iload_n hx hb gdL_law_1767 rfl (lv_at hl 0 rfl) ?_
  refine lv_iconst (v := Int32.ofInt 2) hx hb gdL_law_1768 rfl ?_
  refine lv_iadd hx hb gdL_law_1769 (lv_topk (oi_add i 2) ?_)
  refine va_sld hx hb hX hbl hbA hS (vin (by omega) (by omega) hL) gdL_law_1770 ?_
  refine lv_topk (scr_i scr i 2) ?_
  obtain ⟨v1, hv1, hq1⟩ := t_X12_stop oM (scr_ scr i 1) (scr_ scr i 2) invM.1 (by omega) (by omega)
  refine kMi (oC := v0.2) (oM := oM) X (c_X12_stop l g adM oM (scr_ scr i 1) (scr_ scr i 2) v1 hv1) rfl okm_X12_stop okw_X12_stop w_2087 rfl hK hP hD hS hA hZ hl.1 rfl (Nat.le_of_ble_eq_true rfl) ⟨(Nat.le_of_ble_eq_true rfl), (Nat.le_of_ble_eq_true rfl)⟩ gdL_law_1771 hcs (fun H locs hP hD hS => ?_)
  replace hq1 : BoxM v1.2 ∧ (Fr [(0, 0), (0, 3), (1, 9999), (58, 9999), (59, 9999), (60, 9999), (61, 9999), (62, 9999)] oM v1.2) := hq1
  replace invM : INVM v1.2 := invM.fr hq1.1 hq1.2 rfl rfl (fun _ => rfl)
  refine lv_pop hx hb gdL_law_1774 rfl ?_
  refine lv_goto (tgt := 1952) hx hb gdL_law_1775 (by decide) ?_
  have hR9 : REL v0.2 v1.2 := ⟨hR.1.fr hq0.2 hq1.2 (fun _ => rfl) (fun _ => rfl) (fun _ => rfl) (fun _ => rfl), hR.2.1.fr hq0.2 hq1.2 (fun _ => rfl) (fun _ => rfl) (fun _ => rfl) (fun _ => rfl), day_fr hR.2.2.1 hq0.2 hq1.2 rfl rfl, hR.2.2.2.1.fr hq0.2 hq1.2 rfl rfl (fun _ => rfl) (fun _ => rfl) (fun _ => rfl) (fun _ => rfl) (fun _ => rfl) (fun _ => rfl), hR.2.2.2.2.fr hq0.2 hq1.2 rfl rfl (fun _ => rfl) (fun _ => rfl)⟩
  exact kend v0.2 v1.2 _ _ _ invC invM hR9 hP hD hS hl
set_option maxHeartbeats 4000000 in
set_option maxRecDepth 100000 in
theorem law_46 (l : Launch) (g : GG) {p : Program} {e : Env} {s : State} {m : MethodId} {below : List Frame} {meth : Method} {c : Code} {b L : Nat} {scr : Nat → Int32} {A : Nat → Prop} {Q : State → Prop} {cells slots : Nat} {H : Heap} {locs : List Loc} {ls : Array Slot} {adC adM : Nat → Nat} {oC oM : OO} {B i : Int} (X : En p s m #[Value.ref b] meth c cL_law 4 ret R_law meth.name) (hK : va_K g.1 classes (tyG g) s) (hA : ∀ q, s.heap.size ≤ q → A q) (hZ : stS g A s s.heap) (hX : va_X b L scr s s.heap) (hbl : b < s.heap.size) (hbA : ¬ A b) (hcs : cells + 0 ≤ room_1.cells ∧ slots + 0 ≤ room_1.slots) (hL : L ≤ 3072) (i0 : 0 ≤ i) (i1 : i + 6 ≤ (L : Int)) (hB0 : 0 ≤ B) (hB1 : B ≤ 379000000) (invC : INVC oC B) (invM : INVM oM) (hR : REL oC oM) (hP : va_P g.1 classes (wC g adC oC ++ wM g adM oM) H) (hD : va_D A (wC g adC oC ++ wM g adM oM)) (hS : va_S A s.heap H locs) (hl : lv_has ls 4 [(3, iv i), (2, .ref (adM 0)), (1, .ref (adC 0)), (0, .ref b)])
    (kend : ∀ (oC oM : OO) (H : Heap) (locs : List Loc) (ls : Array Slot), INVC oC (B + 740000) → INVM oM → REL oC oM → va_P g.1 classes (wC g adC oC ++ wM g adM oM) H → va_D A (wC g adC oC ++ wM g adM oM) → va_S A s.heap H locs → lv_has ls 4 [(3, iv i), (2, .ref (adM 0)), (1, .ref (adC 0)), (0, .ref b)] → W p l e room_1 s m #[Value.ref b] below meth c H locs cells slots Q (F0 m 1952 ls [])) : W p l e room_1 s m #[Value.ref b] below meth c H locs cells slots Q (F0 m 1778 ls []) := by
  have hx := X.1
  have hb := X.2.1
  have sr1 := scr_R scr i 1
  have sr2 := scr_R scr i 2
  have sr3 := scr_R scr i 3
  have sr4 := scr_R scr i 4
  have sr5 := scr_R scr i 5
  have iC0 := invC
  have iM0 := invM
  refine lv_aload_n hx hb gdL_law_1778 rfl (lv_at hl 2 rfl) ?_
  refine lv_aload_n hx hb gdL_law_1779 rfl (lv_at hl 3 rfl) ?_
  refine lv_iload_n hx hb gdL_law_1780 rfl (lv_at hl 0 rfl) ?_
  refine lv_iconst (v := Int32.ofInt 1) hx hb gdL_law_1781 rfl ?_
  refine lv_iadd hx hb gdL_law_1782 (lv_topk (oi_add i 1) ?_)
  refine va_sld hx hb hX hbl hbA hS (vin (by omega) (by omega) hL) gdL_law_1783 ?_
  refine lv_topk (scr_i scr i 1) ?_
  refine lv_aload_n hx hb gdL_law_1784 rfl (lv_at hl 3 rfl) ?_
  refine lv_iload_n hx hb gdL_law_1785 rfl (lv_at hl 0 rfl) ?_
  refine lv_iconst (v := Int32.ofInt 2) hx hb gdL_law_1786 rfl ?_
  refine lv_iadd hx hb gdL_law_1787 (lv_topk (oi_add i 2) ?_)
  refine va_sld hx hb hX hbl hbA hS (vin (by omega) (by omega) hL) gdL_law_1788 ?_
  refine lv_topk (scr_i scr i 2) ?_
  refine lv_aload_n hx hb gdL_law_1789 rfl (lv_at hl 3 rfl) ?_
  refine lv_iload_n hx hb gdL_law_1790 rfl (lv_at hl 0 rfl) ?_
  refine lv_iconst (v := Int32.ofInt 3) hx hb gdL_law_1791 rfl ?_
  refine lv_iadd hx hb gdL_law_1792 (lv_topk (oi_add i 3) ?_)
  refine va_sld hx hb hX hbl hbA hS (vin (by omega) (by omega) hL) gdL_law_1793 ?_
  refine lv_topk (scr_i scr i 3) ?_
  obtain ⟨v0, hv0, hq0⟩ := t_X11_judge oC (scr_ scr i 1) (scr_ scr i 2) (scr_ scr i 3) invC.1 (by omega) (by omega) (by omega)
  refine kCi (oC := oC) (oM := oM) X (c_X11_judge l g adC oC (scr_ scr i 1) (scr_ scr i 2) (scr_ scr i 3) v0 hv0) rfl okm_X11_judge okw_X11_judge w_1369 rfl hK hP hD hS hA hZ hl.1 rfl (Nat.le_of_ble_eq_true rfl) ⟨(Nat.le_of_ble_eq_true rfl), (Nat.le_of_ble_eq_true rfl)⟩ gdL_law_1794 hcs (fun H locs hP hD hS => ?_)
  replace hq0 : BoxC v0.2 ∧ (Fr [(0, 14), (0, 17), (77, 9999)] oC v0.2) := hq0
  replace invC : INVC v0.2 (B + 740000) := invC.fr hB0 hq0.1 hq0.2 rfl rfl (fun _ => rfl) (fun _ => rfl) (fun _ => rfl) (fun _ => rfl) (fun _ => rfl) (fun _ => rfl)
  refine lv_pop hx hb gdL_law_1797 rfl ?_
  refine lv_aload_n hx hb gdL_law_1798 rfl (lv_at hl 1 rfl) ?_
  refine lv_aload_n hx hb gdL_law_1799 rfl (lv_at hl 3 rfl) ?_
  refine lv_iload_n hx hb gdL_law_1800 rfl (lv_at hl 0 rfl) ?_
  refine lv_iconst (v := Int32.ofInt 1) hx hb gdL_law_1801 rfl ?_
  refine lv_iadd hx hb gdL_law_1802 (lv_topk (oi_add i 1) ?_)
  refine va_sld hx hb hX hbl hbA hS (vin (by omega) (by omega) hL) gdL_law_1803 ?_
  refine lv_topk (scr_i scr i 1) ?_
  refine lv_aload_n hx hb gdL_law_1804 rfl (lv_at hl 3 rfl) ?_
  refine lv_iload_n hx hb gdL_law_1805 rfl (lv_at hl 0 rfl) ?_
  refine lv_iconst (v := Int32.ofInt 2) hx hb gdL_law_1806 rfl ?_
  refine lv_iadd hx hb gdL_law_1807 (lv_topk (oi_add i 2) ?_)
  refine va_sld hx hb hX hbl hbA hS (vin (by omega) (by omega) hL) gdL_law_1808 ?_
  refine lv_topk (scr_i scr i 2) ?_
  refine lv_aload_n hx hb gdL_law_1809 rfl (lv_at hl 3 rfl) ?_
  refine lv_iload_n hx hb gdL_law_1810 rfl (lv_at hl 0 rfl) ?_
  refine lv_iconst (v := Int32.ofInt 3) hx hb gdL_law_1811 rfl ?_
  refine lv_iadd hx hb gdL_law_1812 (lv_topk (oi_add i 3) ?_)
  refine va_sld hx hb hX hbl hbA hS (vin (by omega) (by omega) hL) gdL_law_1813 ?_
  refine lv_topk (scr_i scr i 3) ?_
  obtain ⟨v1, hv1, hq1⟩ := t_X12_judge oM (scr_ scr i 1) (scr_ scr i 2) (scr_ scr i 3) invM.1 (by omega) (by omega) (by omega)
  refine kMi (oC := v0.2) (oM := oM) X (c_X12_judge l g adM oM (scr_ scr i 1) (scr_ scr i 2) (scr_ scr i 3) v1 hv1) rfl okm_X12_judge okw_X12_judge w_2106 rfl hK hP hD hS hA hZ hl.1 rfl (Nat.le_of_ble_eq_true rfl) ⟨(Nat.le_of_ble_eq_true rfl), (Nat.le_of_ble_eq_true rfl)⟩ gdL_law_1814 hcs (fun H locs hP hD hS => ?_)
  replace hq1 : BoxM v1.2 ∧ (Fr [(0, 0), (0, 2), (1, 9999)] oM v1.2) := hq1
  replace invM : INVM v1.2 := invM.fr hq1.1 hq1.2 rfl rfl (fun _ => rfl)
  refine lv_pop hx hb gdL_law_1817 rfl ?_
  refine lv_goto (tgt := 1952) hx hb gdL_law_1818 (by decide) ?_
  have hR9 : REL v0.2 v1.2 := ⟨hR.1.fr hq0.2 hq1.2 (fun _ => rfl) (fun _ => rfl) (fun _ => rfl) (fun _ => rfl), hR.2.1.fr hq0.2 hq1.2 (fun _ => rfl) (fun _ => rfl) (fun _ => rfl) (fun _ => rfl), day_fr hR.2.2.1 hq0.2 hq1.2 rfl rfl, hR.2.2.2.1.fr hq0.2 hq1.2 rfl rfl (fun _ => rfl) (fun _ => rfl) (fun _ => rfl) (fun _ => rfl) (fun _ => rfl) (fun _ => rfl), hR.2.2.2.2.fr hq0.2 hq1.2 rfl rfl (fun _ => rfl) (fun _ => rfl)⟩
  exact kend v0.2 v1.2 _ _ _ invC invM hR9 hP hD hS hl
set_option maxHeartbeats 4000000 in
set_option maxRecDepth 100000 in
theorem law_47 (l : Launch) (g : GG) {p : Program} {e : Env} {s : State} {m : MethodId} {below : List Frame} {meth : Method} {c : Code} {b L : Nat} {scr : Nat → Int32} {A : Nat → Prop} {Q : State → Prop} {cells slots : Nat} {H : Heap} {locs : List Loc} {ls : Array Slot} {adC adM : Nat → Nat} {oC oM : OO} {B i : Int} (X : En p s m #[Value.ref b] meth c cL_law 4 ret R_law meth.name) (hK : va_K g.1 classes (tyG g) s) (hA : ∀ q, s.heap.size ≤ q → A q) (hZ : stS g A s s.heap) (hX : va_X b L scr s s.heap) (hbl : b < s.heap.size) (hbA : ¬ A b) (hcs : cells + 0 ≤ room_1.cells ∧ slots + 0 ≤ room_1.slots) (hL : L ≤ 3072) (i0 : 0 ≤ i) (i1 : i + 6 ≤ (L : Int)) (hB0 : 0 ≤ B) (hB1 : B ≤ 379000000) (invC : INVC oC B) (invM : INVM oM) (hR : REL oC oM) (hP : va_P g.1 classes (wC g adC oC ++ wM g adM oM) H) (hD : va_D A (wC g adC oC ++ wM g adM oM)) (hS : va_S A s.heap H locs) (hl : lv_has ls 4 [(3, iv i), (2, .ref (adM 0)), (1, .ref (adC 0)), (0, .ref b)])
    (kend : ∀ (oC oM : OO) (H : Heap) (locs : List Loc) (ls : Array Slot), INVC oC (B + 740000) → INVM oM → REL oC oM → va_P g.1 classes (wC g adC oC ++ wM g adM oM) H → va_D A (wC g adC oC ++ wM g adM oM) → va_S A s.heap H locs → lv_has ls 4 [(3, iv i), (2, .ref (adM 0)), (1, .ref (adC 0)), (0, .ref b)] → W p l e room_1 s m #[Value.ref b] below meth c H locs cells slots Q (F0 m 1952 ls [])) : W p l e room_1 s m #[Value.ref b] below meth c H locs cells slots Q (F0 m 1821 ls []) := by
  have hx := X.1
  have hb := X.2.1
  have sr1 := scr_R scr i 1
  have sr2 := scr_R scr i 2
  have sr3 := scr_R scr i 3
  have sr4 := scr_R scr i 4
  have sr5 := scr_R scr i 5
  have iC0 := invC
  have iM0 := invM
  refine lv_aload_n hx hb gdL_law_1821 rfl (lv_at hl 2 rfl) ?_
  refine lv_aload_n hx hb gdL_law_1822 rfl (lv_at hl 3 rfl) ?_
  refine lv_iload_n hx hb gdL_law_1823 rfl (lv_at hl 0 rfl) ?_
  refine lv_iconst (v := Int32.ofInt 1) hx hb gdL_law_1824 rfl ?_
  refine lv_iadd hx hb gdL_law_1825 (lv_topk (oi_add i 1) ?_)
  refine va_sld hx hb hX hbl hbA hS (vin (by omega) (by omega) hL) gdL_law_1826 ?_
  refine lv_topk (scr_i scr i 1) ?_
  refine lv_aload_n hx hb gdL_law_1827 rfl (lv_at hl 3 rfl) ?_
  refine lv_iload_n hx hb gdL_law_1828 rfl (lv_at hl 0 rfl) ?_
  refine lv_iconst (v := Int32.ofInt 2) hx hb gdL_law_1829 rfl ?_
  refine lv_iadd hx hb gdL_law_1830 (lv_topk (oi_add i 2) ?_)
  refine va_sld hx hb hX hbl hbA hS (vin (by omega) (by omega) hL) gdL_law_1831 ?_
  refine lv_topk (scr_i scr i 2) ?_
  obtain ⟨v0, hv0, hq0⟩ := t_X11_best oC (scr_ scr i 1) (scr_ scr i 2) invC.1 (by omega) (by omega)
  refine kCi (oC := oC) (oM := oM) X (c_X11_best l g adC oC (scr_ scr i 1) (scr_ scr i 2) v0 hv0) rfl okm_X11_best okw_X11_best w_1381 rfl hK hP hD hS hA hZ hl.1 rfl (Nat.le_of_ble_eq_true rfl) ⟨(Nat.le_of_ble_eq_true rfl), (Nat.le_of_ble_eq_true rfl)⟩ gdL_law_1832 hcs (fun H locs hP hD hS => ?_)
  replace hq0 : BoxC v0.2 ∧ (Fr [(0, 14), (0, 17), (77, 9999)] oC v0.2) := hq0
  replace invC : INVC v0.2 (B + 740000) := invC.fr hB0 hq0.1 hq0.2 rfl rfl (fun _ => rfl) (fun _ => rfl) (fun _ => rfl) (fun _ => rfl) (fun _ => rfl) (fun _ => rfl)
  refine lv_pop hx hb gdL_law_1835 rfl ?_
  refine lv_aload_n hx hb gdL_law_1836 rfl (lv_at hl 1 rfl) ?_
  refine lv_aload_n hx hb gdL_law_1837 rfl (lv_at hl 3 rfl) ?_
  refine lv_iload_n hx hb gdL_law_1838 rfl (lv_at hl 0 rfl) ?_
  refine lv_iconst (v := Int32.ofInt 1) hx hb gdL_law_1839 rfl ?_
  refine lv_iadd hx hb gdL_law_1840 (lv_topk (oi_add i 1) ?_)
  refine va_sld hx hb hX hbl hbA hS (vin (by omega) (by omega) hL) gdL_law_1841 ?_
  refine lv_topk (scr_i scr i 1) ?_
  refine lv_aload_n hx hb gdL_law_1842 rfl (lv_at hl 3 rfl) ?_
  refine lv_iload_n hx hb gdL_law_1843 rfl (lv_at hl 0 rfl) ?_
  refine lv_iconst (v := Int32.ofInt 2) hx hb gdL_law_1844 rfl ?_
  refine lv_iadd hx hb gdL_law_1845 (lv_topk (oi_add i 2) ?_)
  refine va_sld hx hb hX hbl hbA hS (vin (by omega) (by omega) hL) gdL_law_1846 ?_
  refine lv_topk (scr_i scr i 2) ?_
  obtain ⟨v1, hv1, hq1⟩ := t_X12_best oM (scr_ scr i 1) (scr_ scr i 2) invM.1 (by omega) (by omega)
  refine kMi (oC := v0.2) (oM := oM) X (c_X12_best l g adM oM (scr_ scr i 1) (scr_ scr i 2) v1 hv1) rfl okm_X12_best okw_X12_best w_2118 rfl hK hP hD hS hA hZ hl.1 rfl (Nat.le_of_ble_eq_true rfl) ⟨(Nat.le_of_ble_eq_true rfl), (Nat.le_of_ble_eq_true rfl)⟩ gdL_law_1847 hcs (fun H locs hP hD hS => ?_)
  replace hq1 : BoxM v1.2 ∧ (Fr [(0, 0), (0, 2), (1, 9999)] oM v1.2) := hq1
  replace invM : INVM v1.2 := invM.fr hq1.1 hq1.2 rfl rfl (fun _ => rfl)
  refine lv_pop hx hb gdL_law_1850 rfl ?_
  refine lv_goto (tgt := 1952) hx hb gdL_law_1851 (by decide) ?_
  have hR9 : REL v0.2 v1.2 := ⟨hR.1.fr hq0.2 hq1.2 (fun _ => rfl) (fun _ => rfl) (fun _ => rfl) (fun _ => rfl), hR.2.1.fr hq0.2 hq1.2 (fun _ => rfl) (fun _ => rfl) (fun _ => rfl) (fun _ => rfl), day_fr hR.2.2.1 hq0.2 hq1.2 rfl rfl, hR.2.2.2.1.fr hq0.2 hq1.2 rfl rfl (fun _ => rfl) (fun _ => rfl) (fun _ => rfl) (fun _ => rfl) (fun _ => rfl) (fun _ => rfl), hR.2.2.2.2.fr hq0.2 hq1.2 rfl rfl (fun _ => rfl) (fun _ => rfl)⟩
  exact kend v0.2 v1.2 _ _ _ invC invM hR9 hP hD hS hl
set_option maxHeartbeats 4000000 in
set_option maxRecDepth 100000 in
theorem law_48 (l : Launch) (g : GG) {p : Program} {e : Env} {s : State} {m : MethodId} {below : List Frame} {meth : Method} {c : Code} {b L : Nat} {scr : Nat → Int32} {A : Nat → Prop} {Q : State → Prop} {cells slots : Nat} {H : Heap} {locs : List Loc} {ls : Array Slot} {adC adM : Nat → Nat} {oC oM : OO} {B i : Int} (X : En p s m #[Value.ref b] meth c cL_law 4 ret R_law meth.name) (hK : va_K g.1 classes (tyG g) s) (hA : ∀ q, s.heap.size ≤ q → A q) (hZ : stS g A s s.heap) (hX : va_X b L scr s s.heap) (hbl : b < s.heap.size) (hbA : ¬ A b) (hcs : cells + 0 ≤ room_1.cells ∧ slots + 0 ≤ room_1.slots) (hL : L ≤ 3072) (i0 : 0 ≤ i) (i1 : i + 6 ≤ (L : Int)) (hB0 : 0 ≤ B) (hB1 : B ≤ 379000000) (invC : INVC oC B) (invM : INVM oM) (hR : REL oC oM) (hP : va_P g.1 classes (wC g adC oC ++ wM g adM oM) H) (hD : va_D A (wC g adC oC ++ wM g adM oM)) (hS : va_S A s.heap H locs) (hl : lv_has ls 4 [(3, iv i), (2, .ref (adM 0)), (1, .ref (adC 0)), (0, .ref b)])
    (kend : ∀ (oC oM : OO) (H : Heap) (locs : List Loc) (ls : Array Slot), INVC oC (B + 740000) → INVM oM → REL oC oM → va_P g.1 classes (wC g adC oC ++ wM g adM oM) H → va_D A (wC g adC oC ++ wM g adM oM) → va_S A s.heap H locs → lv_has ls 4 [(3, iv i), (2, .ref (adM 0)), (1, .ref (adC 0)), (0, .ref b)] → W p l e room_1 s m #[Value.ref b] below meth c H locs cells slots Q (F0 m 1952 ls [])) : W p l e room_1 s m #[Value.ref b] below meth c H locs cells slots Q (F0 m 1854 ls []) := by
  have hx := X.1
  have hb := X.2.1
  have sr1 := scr_R scr i 1
  have sr2 := scr_R scr i 2
  have sr3 := scr_R scr i 3
  have sr4 := scr_R scr i 4
  have sr5 := scr_R scr i 5
  have iC0 := invC
  have iM0 := invM
  refine lv_aload_n hx hb gdL_law_1854 rfl (lv_at hl 2 rfl) ?_
  obtain ⟨v0, hv0, hq0⟩ := t_X11_asked oC invC.1
  refine kCi (oC := oC) (oM := oM) X (c_X11_asked l g adC oC v0 hv0) rfl okm_X11_asked okw_X11_asked w_1385 rfl hK hP hD hS hA hZ hl.1 rfl (Nat.le_of_ble_eq_true rfl) ⟨(Nat.le_of_ble_eq_true rfl), (Nat.le_of_ble_eq_true rfl)⟩ gdL_law_1855 hcs (fun H locs hP hD hS => ?_)
  replace invC : INVC oC (B + 740000) := invC.up
  refine lv_pop hx hb gdL_law_1858 rfl ?_
  refine lv_aload_n hx hb gdL_law_1859 rfl (lv_at hl 1 rfl) ?_
  obtain ⟨v1, hv1, hq1⟩ := t_X12_asked oM invM.1
  refine kMi (oC := oC) (oM := oM) X (c_X12_asked l g adM oM v1 hv1) rfl okm_X12_asked okw_X12_asked w_2122 rfl hK hP hD hS hA hZ hl.1 rfl (Nat.le_of_ble_eq_true rfl) ⟨(Nat.le_of_ble_eq_true rfl), (Nat.le_of_ble_eq_true rfl)⟩ gdL_law_1860 hcs (fun H locs hP hD hS => ?_)
  refine lv_pop hx hb gdL_law_1863 rfl ?_
  refine lv_goto (tgt := 1952) hx hb gdL_law_1864 (by decide) ?_
  have hR9 : REL oC oM := ⟨hR.1.fr (Fr.rf (L := [])) (Fr.rf (L := [])) (fun _ => rfl) (fun _ => rfl) (fun _ => rfl) (fun _ => rfl), hR.2.1.fr (Fr.rf (L := [])) (Fr.rf (L := [])) (fun _ => rfl) (fun _ => rfl) (fun _ => rfl) (fun _ => rfl), day_fr hR.2.2.1 (Fr.rf (L := [])) (Fr.rf (L := [])) rfl rfl, hR.2.2.2.1.fr (Fr.rf (L := [])) (Fr.rf (L := [])) rfl rfl (fun _ => rfl) (fun _ => rfl) (fun _ => rfl) (fun _ => rfl) (fun _ => rfl) (fun _ => rfl), hR.2.2.2.2.fr (Fr.rf (L := [])) (Fr.rf (L := [])) rfl rfl (fun _ => rfl) (fun _ => rfl)⟩
  exact kend oC oM _ _ _ invC invM hR9 hP hD hS hl
set_option maxHeartbeats 4000000 in
set_option maxRecDepth 100000 in
theorem law_49 (l : Launch) (g : GG) {p : Program} {e : Env} {s : State} {m : MethodId} {below : List Frame} {meth : Method} {c : Code} {b L : Nat} {scr : Nat → Int32} {A : Nat → Prop} {Q : State → Prop} {cells slots : Nat} {H : Heap} {locs : List Loc} {ls : Array Slot} {adC adM : Nat → Nat} {oC oM : OO} {B i : Int} (X : En p s m #[Value.ref b] meth c cL_law 4 ret R_law meth.name) (hK : va_K g.1 classes (tyG g) s) (hA : ∀ q, s.heap.size ≤ q → A q) (hZ : stS g A s s.heap) (hX : va_X b L scr s s.heap) (hbl : b < s.heap.size) (hbA : ¬ A b) (hcs : cells + 0 ≤ room_1.cells ∧ slots + 0 ≤ room_1.slots) (hL : L ≤ 3072) (i0 : 0 ≤ i) (i1 : i + 6 ≤ (L : Int)) (hB0 : 0 ≤ B) (hB1 : B ≤ 379000000) (invC : INVC oC B) (invM : INVM oM) (hR : REL oC oM) (hP : va_P g.1 classes (wC g adC oC ++ wM g adM oM) H) (hD : va_D A (wC g adC oC ++ wM g adM oM)) (hS : va_S A s.heap H locs) (hl : lv_has ls 4 [(3, iv i), (2, .ref (adM 0)), (1, .ref (adC 0)), (0, .ref b)])
    (kend : ∀ (oC oM : OO) (H : Heap) (locs : List Loc) (ls : Array Slot), INVC oC (B + 740000) → INVM oM → REL oC oM → va_P g.1 classes (wC g adC oC ++ wM g adM oM) H → va_D A (wC g adC oC ++ wM g adM oM) → va_S A s.heap H locs → lv_has ls 4 [(3, iv i), (2, .ref (adM 0)), (1, .ref (adC 0)), (0, .ref b)] → W p l e room_1 s m #[Value.ref b] below meth c H locs cells slots Q (F0 m 1952 ls [])) : W p l e room_1 s m #[Value.ref b] below meth c H locs cells slots Q (F0 m 1867 ls []) := by
  have hx := X.1
  have hb := X.2.1
  have sr1 := scr_R scr i 1
  have sr2 := scr_R scr i 2
  have sr3 := scr_R scr i 3
  have sr4 := scr_R scr i 4
  have sr5 := scr_R scr i 5
  have iC0 := invC
  have iM0 := invM
  refine lv_aload_n hx hb gdL_law_1867 rfl (lv_at hl 2 rfl) ?_
  obtain ⟨v0, hv0, hq0⟩ := t_X11_set oC invC.1
  refine kCl (oC := oC) (oM := oM) X (c_X11_set l g adC oC v0 hv0) rfl okm_X11_set okw_X11_set w_1389 rfl hK hP hD hS hA hZ hl.1 rfl (Nat.le_of_ble_eq_true rfl) ⟨(Nat.le_of_ble_eq_true rfl), (Nat.le_of_ble_eq_true rfl)⟩ gdL_law_1868 hcs (fun H locs hP hD hS => ?_)
  replace invC : INVC oC (B + 740000) := invC.up
  refine lv_pop2_2 hx hb gdL_law_1871 rfl ?_
  refine lv_aload_n hx hb gdL_law_1872 rfl (lv_at hl 1 rfl) ?_
  obtain ⟨v1, hv1, hq1⟩ := t_X12_set oM invM.1
  refine kMl (oC := oC) (oM := oM) X (c_X12_set l g adM oM v1 hv1) rfl okm_X12_set okw_X12_set w_2126 rfl hK hP hD hS hA hZ hl.1 rfl (Nat.le_of_ble_eq_true rfl) ⟨(Nat.le_of_ble_eq_true rfl), (Nat.le_of_ble_eq_true rfl)⟩ gdL_law_1873 hcs (fun H locs hP hD hS => ?_)
  refine lv_pop2_2 hx hb gdL_law_1876 rfl ?_
  refine lv_goto (tgt := 1952) hx hb gdL_law_1877 (by decide) ?_
  have hR9 : REL oC oM := ⟨hR.1.fr (Fr.rf (L := [])) (Fr.rf (L := [])) (fun _ => rfl) (fun _ => rfl) (fun _ => rfl) (fun _ => rfl), hR.2.1.fr (Fr.rf (L := [])) (Fr.rf (L := [])) (fun _ => rfl) (fun _ => rfl) (fun _ => rfl) (fun _ => rfl), day_fr hR.2.2.1 (Fr.rf (L := [])) (Fr.rf (L := [])) rfl rfl, hR.2.2.2.1.fr (Fr.rf (L := [])) (Fr.rf (L := [])) rfl rfl (fun _ => rfl) (fun _ => rfl) (fun _ => rfl) (fun _ => rfl) (fun _ => rfl) (fun _ => rfl), hR.2.2.2.2.fr (Fr.rf (L := [])) (Fr.rf (L := [])) rfl rfl (fun _ => rfl) (fun _ => rfl)⟩
  exact kend oC oM _ _ _ invC invM hR9 hP hD hS hl
set_option maxHeartbeats 4000000 in
set_option maxRecDepth 100000 in
theorem law_50 (l : Launch) (g : GG) {p : Program} {e : Env} {s : State} {m : MethodId} {below : List Frame} {meth : Method} {c : Code} {b L : Nat} {scr : Nat → Int32} {A : Nat → Prop} {Q : State → Prop} {cells slots : Nat} {H : Heap} {locs : List Loc} {ls : Array Slot} {adC adM : Nat → Nat} {oC oM : OO} {B i : Int} (X : En p s m #[Value.ref b] meth c cL_law 4 ret R_law meth.name) (hK : va_K g.1 classes (tyG g) s) (hA : ∀ q, s.heap.size ≤ q → A q) (hZ : stS g A s s.heap) (hX : va_X b L scr s s.heap) (hbl : b < s.heap.size) (hbA : ¬ A b) (hcs : cells + 0 ≤ room_1.cells ∧ slots + 0 ≤ room_1.slots) (hL : L ≤ 3072) (i0 : 0 ≤ i) (i1 : i + 6 ≤ (L : Int)) (hB0 : 0 ≤ B) (hB1 : B ≤ 379000000) (invC : INVC oC B) (invM : INVM oM) (hR : REL oC oM) (hP : va_P g.1 classes (wC g adC oC ++ wM g adM oM) H) (hD : va_D A (wC g adC oC ++ wM g adM oM)) (hS : va_S A s.heap H locs) (hl : lv_has ls 4 [(3, iv i), (2, .ref (adM 0)), (1, .ref (adC 0)), (0, .ref b)])
    (kend : ∀ (oC oM : OO) (H : Heap) (locs : List Loc) (ls : Array Slot), INVC oC (B + 740000) → INVM oM → REL oC oM → va_P g.1 classes (wC g adC oC ++ wM g adM oM) H → va_D A (wC g adC oC ++ wM g adM oM) → va_S A s.heap H locs → lv_has ls 4 [(3, iv i), (2, .ref (adM 0)), (1, .ref (adC 0)), (0, .ref b)] → W p l e room_1 s m #[Value.ref b] below meth c H locs cells slots Q (F0 m 1952 ls [])) : W p l e room_1 s m #[Value.ref b] below meth c H locs cells slots Q (F0 m 1880 ls []) := by
  have hx := X.1
  have hb := X.2.1
  have sr1 := scr_R scr i 1
  have sr2 := scr_R scr i 2
  have sr3 := scr_R scr i 3
  have sr4 := scr_R scr i 4
  have sr5 := scr_R scr i 5
  have iC0 := invC
  have iM0 := invM
  refine lv_aload_n hx hb gdL_law_1880 rfl (lv_at hl 2 rfl) ?_
  refine lv_aload_n hx hb gdL_law_1881 rfl (lv_at hl 3 rfl) ?_
  refine lv_iload_n hx hb gdL_law_1882 rfl (lv_at hl 0 rfl) ?_
  refine lv_iconst (v := Int32.ofInt 1) hx hb gdL_law_1883 rfl ?_
  refine lv_iadd hx hb gdL_law_1884 (lv_topk (oi_add i 1) ?_)
  refine va_sld hx hb hX hbl hbA hS (vin (by omega) (by omega) hL) gdL_law_1885 ?_
  refine lv_topk (scr_i scr i 1) ?_
  obtain ⟨v0, hv0, hq0⟩ := t_X11_count oC (scr_ scr i 1) invC.1 (by omega)
  refine kCi (oC := oC) (oM := oM) X (c_X11_count l g adC oC (scr_ scr i 1) v0 hv0) rfl okm_X11_count okw_X11_count w_1393 rfl hK hP hD hS hA hZ hl.1 rfl (Nat.le_of_ble_eq_true rfl) ⟨(Nat.le_of_ble_eq_true rfl), (Nat.le_of_ble_eq_true rfl)⟩ gdL_law_1886 hcs (fun H locs hP hD hS => ?_)
  replace invC : INVC oC (B + 740000) := invC.up
  refine lv_pop hx hb gdL_law_1889 rfl ?_
  refine lv_aload_n hx hb gdL_law_1890 rfl (lv_at hl 1 rfl) ?_
  refine lv_aload_n hx hb gdL_law_1891 rfl (lv_at hl 3 rfl) ?_
  refine lv_iload_n hx hb gdL_law_1892 rfl (lv_at hl 0 rfl) ?_
  refine lv_iconst (v := Int32.ofInt 1) hx hb gdL_law_1893 rfl ?_
  refine lv_iadd hx hb gdL_law_1894 (lv_topk (oi_add i 1) ?_)
  refine va_sld hx hb hX hbl hbA hS (vin (by omega) (by omega) hL) gdL_law_1895 ?_
  refine lv_topk (scr_i scr i 1) ?_
  obtain ⟨v1, hv1, hq1⟩ := t_X12_count oM (scr_ scr i 1) invM.1 (by omega)
  refine kMi (oC := oC) (oM := oM) X (c_X12_count l g adM oM (scr_ scr i 1) v1 hv1) rfl okm_X12_count okw_X12_count w_2130 rfl hK hP hD hS hA hZ hl.1 rfl (Nat.le_of_ble_eq_true rfl) ⟨(Nat.le_of_ble_eq_true rfl), (Nat.le_of_ble_eq_true rfl)⟩ gdL_law_1896 hcs (fun H locs hP hD hS => ?_)
  refine lv_pop hx hb gdL_law_1899 rfl ?_
  refine lv_goto (tgt := 1952) hx hb gdL_law_1900 (by decide) ?_
  have hR9 : REL oC oM := ⟨hR.1.fr (Fr.rf (L := [])) (Fr.rf (L := [])) (fun _ => rfl) (fun _ => rfl) (fun _ => rfl) (fun _ => rfl), hR.2.1.fr (Fr.rf (L := [])) (Fr.rf (L := [])) (fun _ => rfl) (fun _ => rfl) (fun _ => rfl) (fun _ => rfl), day_fr hR.2.2.1 (Fr.rf (L := [])) (Fr.rf (L := [])) rfl rfl, hR.2.2.2.1.fr (Fr.rf (L := [])) (Fr.rf (L := [])) rfl rfl (fun _ => rfl) (fun _ => rfl) (fun _ => rfl) (fun _ => rfl) (fun _ => rfl) (fun _ => rfl), hR.2.2.2.2.fr (Fr.rf (L := [])) (Fr.rf (L := [])) rfl rfl (fun _ => rfl) (fun _ => rfl)⟩
  exact kend oC oM _ _ _ invC invM hR9 hP hD hS hl
set_option maxHeartbeats 4000000 in
set_option maxRecDepth 100000 in
theorem law_51 (l : Launch) (g : GG) {p : Program} {e : Env} {s : State} {m : MethodId} {below : List Frame} {meth : Method} {c : Code} {b L : Nat} {scr : Nat → Int32} {A : Nat → Prop} {Q : State → Prop} {cells slots : Nat} {H : Heap} {locs : List Loc} {ls : Array Slot} {adC adM : Nat → Nat} {oC oM : OO} {B i : Int} (X : En p s m #[Value.ref b] meth c cL_law 4 ret R_law meth.name) (hK : va_K g.1 classes (tyG g) s) (hA : ∀ q, s.heap.size ≤ q → A q) (hZ : stS g A s s.heap) (hX : va_X b L scr s s.heap) (hbl : b < s.heap.size) (hbA : ¬ A b) (hcs : cells + 0 ≤ room_1.cells ∧ slots + 0 ≤ room_1.slots) (hL : L ≤ 3072) (i0 : 0 ≤ i) (i1 : i + 6 ≤ (L : Int)) (hB0 : 0 ≤ B) (hB1 : B ≤ 379000000) (invC : INVC oC B) (invM : INVM oM) (hR : REL oC oM) (hP : va_P g.1 classes (wC g adC oC ++ wM g adM oM) H) (hD : va_D A (wC g adC oC ++ wM g adM oM)) (hS : va_S A s.heap H locs) (hl : lv_has ls 4 [(3, iv i), (2, .ref (adM 0)), (1, .ref (adC 0)), (0, .ref b)])
    (kend : ∀ (oC oM : OO) (H : Heap) (locs : List Loc) (ls : Array Slot), INVC oC (B + 740000) → INVM oM → REL oC oM → va_P g.1 classes (wC g adC oC ++ wM g adM oM) H → va_D A (wC g adC oC ++ wM g adM oM) → va_S A s.heap H locs → lv_has ls 4 [(3, iv i), (2, .ref (adM 0)), (1, .ref (adC 0)), (0, .ref b)] → W p l e room_1 s m #[Value.ref b] below meth c H locs cells slots Q (F0 m 1952 ls [])) : W p l e room_1 s m #[Value.ref b] below meth c H locs cells slots Q (F0 m 1903 ls []) := by
  have hx := X.1
  have hb := X.2.1
  have sr1 := scr_R scr i 1
  have sr2 := scr_R scr i 2
  have sr3 := scr_R scr i 3
  have sr4 := scr_R scr i 4
  have sr5 := scr_R scr i 5
  have iC0 := invC
  have iM0 := invM
  refine lv_aload_n hx hb gdL_law_1903 rfl (lv_at hl 2 rfl) ?_
  obtain ⟨v0, hv0, hq0⟩ := t_X11_finding oC invC.1
  refine kCi (oC := oC) (oM := oM) X (c_X11_finding l g adC oC v0 hv0) rfl okm_X11_finding okw_X11_finding w_1410 rfl hK hP hD hS hA hZ hl.1 rfl (Nat.le_of_ble_eq_true rfl) ⟨(Nat.le_of_ble_eq_true rfl), (Nat.le_of_ble_eq_true rfl)⟩ gdL_law_1904 hcs (fun H locs hP hD hS => ?_)
  replace invC : INVC oC (B + 740000) := invC.up
  refine lv_pop hx hb gdL_law_1907 rfl ?_
  refine lv_aload_n hx hb gdL_law_1908 rfl (lv_at hl 1 rfl) ?_
  obtain ⟨v1, hv1, hq1⟩ := t_X12_finding oM invM.1
  refine kMi (oC := oC) (oM := oM) X (c_X12_finding l g adM oM v1 hv1) rfl okm_X12_finding okw_X12_finding w_2138 rfl hK hP hD hS hA hZ hl.1 rfl (Nat.le_of_ble_eq_true rfl) ⟨(Nat.le_of_ble_eq_true rfl), (Nat.le_of_ble_eq_true rfl)⟩ gdL_law_1909 hcs (fun H locs hP hD hS => ?_)
  refine lv_pop hx hb gdL_law_1912 rfl ?_
  refine lv_goto (tgt := 1952) hx hb gdL_law_1913 (by decide) ?_
  have hR9 : REL oC oM := ⟨hR.1.fr (Fr.rf (L := [])) (Fr.rf (L := [])) (fun _ => rfl) (fun _ => rfl) (fun _ => rfl) (fun _ => rfl), hR.2.1.fr (Fr.rf (L := [])) (Fr.rf (L := [])) (fun _ => rfl) (fun _ => rfl) (fun _ => rfl) (fun _ => rfl), day_fr hR.2.2.1 (Fr.rf (L := [])) (Fr.rf (L := [])) rfl rfl, hR.2.2.2.1.fr (Fr.rf (L := [])) (Fr.rf (L := [])) rfl rfl (fun _ => rfl) (fun _ => rfl) (fun _ => rfl) (fun _ => rfl) (fun _ => rfl) (fun _ => rfl), hR.2.2.2.2.fr (Fr.rf (L := [])) (Fr.rf (L := [])) rfl rfl (fun _ => rfl) (fun _ => rfl)⟩
  exact kend oC oM _ _ _ invC invM hR9 hP hD hS hl
set_option maxHeartbeats 4000000 in
set_option maxRecDepth 100000 in
theorem law_52 (l : Launch) (g : GG) {p : Program} {e : Env} {s : State} {m : MethodId} {below : List Frame} {meth : Method} {c : Code} {b L : Nat} {scr : Nat → Int32} {A : Nat → Prop} {Q : State → Prop} {cells slots : Nat} {H : Heap} {locs : List Loc} {ls : Array Slot} {adC adM : Nat → Nat} {oC oM : OO} {B i : Int} (X : En p s m #[Value.ref b] meth c cL_law 4 ret R_law meth.name) (hK : va_K g.1 classes (tyG g) s) (hA : ∀ q, s.heap.size ≤ q → A q) (hZ : stS g A s s.heap) (hX : va_X b L scr s s.heap) (hbl : b < s.heap.size) (hbA : ¬ A b) (hcs : cells + 0 ≤ room_1.cells ∧ slots + 0 ≤ room_1.slots) (hL : L ≤ 3072) (i0 : 0 ≤ i) (i1 : i + 6 ≤ (L : Int)) (hB0 : 0 ≤ B) (hB1 : B ≤ 379000000) (invC : INVC oC B) (invM : INVM oM) (hR : REL oC oM) (hP : va_P g.1 classes (wC g adC oC ++ wM g adM oM) H) (hD : va_D A (wC g adC oC ++ wM g adM oM)) (hS : va_S A s.heap H locs) (hl : lv_has ls 4 [(3, iv i), (2, .ref (adM 0)), (1, .ref (adC 0)), (0, .ref b)])
    (kend : ∀ (oC oM : OO) (H : Heap) (locs : List Loc) (ls : Array Slot), INVC oC (B + 740000) → INVM oM → REL oC oM → va_P g.1 classes (wC g adC oC ++ wM g adM oM) H → va_D A (wC g adC oC ++ wM g adM oM) → va_S A s.heap H locs → lv_has ls 4 [(3, iv i), (2, .ref (adM 0)), (1, .ref (adC 0)), (0, .ref b)] → W p l e room_1 s m #[Value.ref b] below meth c H locs cells slots Q (F0 m 1952 ls [])) : W p l e room_1 s m #[Value.ref b] below meth c H locs cells slots Q (F0 m 1916 ls []) := by
  have hx := X.1
  have hb := X.2.1
  have sr1 := scr_R scr i 1
  have sr2 := scr_R scr i 2
  have sr3 := scr_R scr i 3
  have sr4 := scr_R scr i 4
  have sr5 := scr_R scr i 5
  have iC0 := invC
  have iM0 := invM
  refine lv_aload_n hx hb gdL_law_1916 rfl (lv_at hl 2 rfl) ?_
  refine lv_aload_n hx hb gdL_law_1917 rfl (lv_at hl 3 rfl) ?_
  refine lv_iload_n hx hb gdL_law_1918 rfl (lv_at hl 0 rfl) ?_
  refine lv_iconst (v := Int32.ofInt 1) hx hb gdL_law_1919 rfl ?_
  refine lv_iadd hx hb gdL_law_1920 (lv_topk (oi_add i 1) ?_)
  refine va_sld hx hb hX hbl hbA hS (vin (by omega) (by omega) hL) gdL_law_1921 ?_
  refine lv_topk (scr_i scr i 1) ?_
  obtain ⟨v0, hv0, hq0⟩ := t_X11_findings oC (scr_ scr i 1) invC.1 (by omega)
  refine kCi (oC := oC) (oM := oM) X (c_X11_findings l g adC oC (scr_ scr i 1) v0 hv0) rfl okm_X11_findings okw_X11_findings w_1414 rfl hK hP hD hS hA hZ hl.1 rfl (Nat.le_of_ble_eq_true rfl) ⟨(Nat.le_of_ble_eq_true rfl), (Nat.le_of_ble_eq_true rfl)⟩ gdL_law_1922 hcs (fun H locs hP hD hS => ?_)
  replace invC : INVC oC (B + 740000) := invC.up
  refine lv_pop hx hb gdL_law_1925 rfl ?_
  refine lv_aload_n hx hb gdL_law_1926 rfl (lv_at hl 1 rfl) ?_
  refine lv_aload_n hx hb gdL_law_1927 rfl (lv_at hl 3 rfl) ?_
  refine lv_iload_n hx hb gdL_law_1928 rfl (lv_at hl 0 rfl) ?_
  refine lv_iconst (v := Int32.ofInt 1) hx hb gdL_law_1929 rfl ?_
  refine lv_iadd hx hb gdL_law_1930 (lv_topk (oi_add i 1) ?_)
  refine va_sld hx hb hX hbl hbA hS (vin (by omega) (by omega) hL) gdL_law_1931 ?_
  refine lv_topk (scr_i scr i 1) ?_
  obtain ⟨v1, hv1, hq1⟩ := t_X12_findings oM (scr_ scr i 1) invM.1 (by omega)
  refine kMi (oC := oC) (oM := oM) X (c_X12_findings l g adM oM (scr_ scr i 1) v1 hv1) rfl okm_X12_findings okw_X12_findings w_2142 rfl hK hP hD hS hA hZ hl.1 rfl (Nat.le_of_ble_eq_true rfl) ⟨(Nat.le_of_ble_eq_true rfl), (Nat.le_of_ble_eq_true rfl)⟩ gdL_law_1932 hcs (fun H locs hP hD hS => ?_)
  refine lv_pop hx hb gdL_law_1935 rfl ?_
  refine lv_goto (tgt := 1952) hx hb gdL_law_1936 (by decide) ?_
  have hR9 : REL oC oM := ⟨hR.1.fr (Fr.rf (L := [])) (Fr.rf (L := [])) (fun _ => rfl) (fun _ => rfl) (fun _ => rfl) (fun _ => rfl), hR.2.1.fr (Fr.rf (L := [])) (Fr.rf (L := [])) (fun _ => rfl) (fun _ => rfl) (fun _ => rfl) (fun _ => rfl), day_fr hR.2.2.1 (Fr.rf (L := [])) (Fr.rf (L := [])) rfl rfl, hR.2.2.2.1.fr (Fr.rf (L := [])) (Fr.rf (L := [])) rfl rfl (fun _ => rfl) (fun _ => rfl) (fun _ => rfl) (fun _ => rfl) (fun _ => rfl) (fun _ => rfl), hR.2.2.2.2.fr (Fr.rf (L := [])) (Fr.rf (L := [])) rfl rfl (fun _ => rfl) (fun _ => rfl)⟩
  exact kend oC oM _ _ _ invC invM hR9 hP hD hS hl
set_option maxHeartbeats 4000000 in
set_option maxRecDepth 100000 in
theorem law_53 (l : Launch) (g : GG) {p : Program} {e : Env} {s : State} {m : MethodId} {below : List Frame} {meth : Method} {c : Code} {b L : Nat} {scr : Nat → Int32} {A : Nat → Prop} {Q : State → Prop} {cells slots : Nat} {H : Heap} {locs : List Loc} {ls : Array Slot} {adC adM : Nat → Nat} {oC oM : OO} {B i : Int} (X : En p s m #[Value.ref b] meth c cL_law 4 ret R_law meth.name) (hK : va_K g.1 classes (tyG g) s) (hA : ∀ q, s.heap.size ≤ q → A q) (hZ : stS g A s s.heap) (hX : va_X b L scr s s.heap) (hbl : b < s.heap.size) (hbA : ¬ A b) (hcs : cells + 0 ≤ room_1.cells ∧ slots + 0 ≤ room_1.slots) (hL : L ≤ 3072) (i0 : 0 ≤ i) (i1 : i + 6 ≤ (L : Int)) (hB0 : 0 ≤ B) (hB1 : B ≤ 379000000) (invC : INVC oC B) (invM : INVM oM) (hR : REL oC oM) (hP : va_P g.1 classes (wC g adC oC ++ wM g adM oM) H) (hD : va_D A (wC g adC oC ++ wM g adM oM)) (hS : va_S A s.heap H locs) (hl : lv_has ls 4 [(3, iv i), (2, .ref (adM 0)), (1, .ref (adC 0)), (0, .ref b)])
    (kend : ∀ (oC oM : OO) (H : Heap) (locs : List Loc) (ls : Array Slot), INVC oC (B + 740000) → INVM oM → REL oC oM → va_P g.1 classes (wC g adC oC ++ wM g adM oM) H → va_D A (wC g adC oC ++ wM g adM oM) → va_S A s.heap H locs → lv_has ls 4 [(3, iv i), (2, .ref (adM 0)), (1, .ref (adC 0)), (0, .ref b)] → W p l e room_1 s m #[Value.ref b] below meth c H locs cells slots Q (F0 m 1952 ls [])) : W p l e room_1 s m #[Value.ref b] below meth c H locs cells slots Q (F0 m 1939 ls []) := by
  have hx := X.1
  have hb := X.2.1
  have sr1 := scr_R scr i 1
  have sr2 := scr_R scr i 2
  have sr3 := scr_R scr i 3
  have sr4 := scr_R scr i 4
  have sr5 := scr_R scr i 5
  have iC0 := invC
  have iM0 := invM
  refine lv_aload_n hx hb gdL_law_1939 rfl (lv_at hl 2 rfl) ?_
  obtain ⟨v0, hv0, hq0⟩ := t_X11_digest oC invC.1
  refine kCl (oC := oC) (oM := oM) X (c_X11_digest l g adC oC v0 hv0) rfl okm_X11_digest okw_X11_digest w_1418 rfl hK hP hD hS hA hZ hl.1 rfl (Nat.le_of_ble_eq_true rfl) ⟨(Nat.le_of_ble_eq_true rfl), (Nat.le_of_ble_eq_true rfl)⟩ gdL_law_1940 hcs (fun H locs hP hD hS => ?_)
  replace invC : INVC oC (B + 740000) := invC.up
  refine lv_pop2_2 hx hb gdL_law_1943 rfl ?_
  refine lv_aload_n hx hb gdL_law_1944 rfl (lv_at hl 1 rfl) ?_
  obtain ⟨v1, hv1, hq1⟩ := t_X12_digest oM invM.1
  refine kMl (oC := oC) (oM := oM) X (c_X12_digest l g adM oM v1 hv1) rfl okm_X12_digest okw_X12_digest w_2146 rfl hK hP hD hS hA hZ hl.1 rfl (Nat.le_of_ble_eq_true rfl) ⟨(Nat.le_of_ble_eq_true rfl), (Nat.le_of_ble_eq_true rfl)⟩ gdL_law_1945 hcs (fun H locs hP hD hS => ?_)
  replace hq1 : BoxM v1.2 ∧ (Fr [(0, 76)] oM v1.2) := hq1
  replace invM : INVM v1.2 := invM.fr hq1.1 hq1.2 rfl rfl (fun _ => rfl)
  refine lv_pop2_2 hx hb gdL_law_1948 rfl ?_
  refine lv_goto (tgt := 1952) hx hb gdL_law_1949 (by decide) ?_
  have hR9 : REL oC v1.2 := ⟨hR.1.fr (Fr.rf (L := [])) hq1.2 (fun _ => rfl) (fun _ => rfl) (fun _ => rfl) (fun _ => rfl), hR.2.1.fr (Fr.rf (L := [])) hq1.2 (fun _ => rfl) (fun _ => rfl) (fun _ => rfl) (fun _ => rfl), day_fr hR.2.2.1 (Fr.rf (L := [])) hq1.2 rfl rfl, hR.2.2.2.1.fr (Fr.rf (L := [])) hq1.2 rfl rfl (fun _ => rfl) (fun _ => rfl) (fun _ => rfl) (fun _ => rfl) (fun _ => rfl) (fun _ => rfl), hR.2.2.2.2.fr (Fr.rf (L := [])) hq1.2 rfl rfl (fun _ => rfl) (fun _ => rfl)⟩
  exact kend oC v1.2 _ _ _ invC invM hR9 hP hD hS hl
