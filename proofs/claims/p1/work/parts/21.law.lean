set_option maxRecDepth 200000 in
theorem q_784 : Cond.code yX11_why cX11_why 4 (some .int) ∈ tb := tb_mem 784 (by rfl) rfl
set_option maxRecDepth 200000 in
theorem q_782 : Cond.instanceMethod yX11_why ∈ tb := tb_mem 782 (by decide +kernel) rfl
set_option maxRecDepth 200000 in
theorem q_783 : Cond.selects "CityRoad" yX11_why yX11_why ∈ tb := tb_mem 783 (by decide +kernel) rfl
set_option maxRecDepth 200000 in
theorem q_781 : Cond.methodLink "CityRoadLaw" 91 yX11_why ∈ tb := tb_mem 781 (by decide +kernel) rfl
set_option maxRecDepth 200000 in
theorem q_1783 : Cond.code yX12_why cX12_why 4 (some .int) ∈ tb := tb_mem 1783 (by rfl) rfl
set_option maxRecDepth 200000 in
theorem q_1781 : Cond.instanceMethod yX12_why ∈ tb := tb_mem 1781 (by decide +kernel) rfl
set_option maxRecDepth 200000 in
theorem q_1782 : Cond.selects "CityRoadModel" yX12_why yX12_why ∈ tb := tb_mem 1782 (by decide +kernel) rfl
set_option maxRecDepth 200000 in
theorem q_1780 : Cond.methodLink "CityRoadLaw" 94 yX12_why ∈ tb := tb_mem 1780 (by decide +kernel) rfl
set_option maxRecDepth 200000 in
theorem q_789 : Cond.code yX11_line cX11_line 5 (some .int) ∈ tb := tb_mem 789 (by rfl) rfl
set_option maxRecDepth 200000 in
theorem q_787 : Cond.instanceMethod yX11_line ∈ tb := tb_mem 787 (by decide +kernel) rfl
set_option maxRecDepth 200000 in
theorem q_788 : Cond.selects "CityRoad" yX11_line yX11_line ∈ tb := tb_mem 788 (by decide +kernel) rfl
set_option maxRecDepth 200000 in
theorem q_786 : Cond.methodLink "CityRoadLaw" 95 yX11_line ∈ tb := tb_mem 786 (by decide +kernel) rfl
set_option maxRecDepth 200000 in
theorem q_1866 : Cond.code yX12_line cX12_line 12 (some .int) ∈ tb := tb_mem 1866 (by rfl) rfl
set_option maxRecDepth 200000 in
theorem q_1864 : Cond.instanceMethod yX12_line ∈ tb := tb_mem 1864 (by decide +kernel) rfl
set_option maxRecDepth 200000 in
theorem q_1865 : Cond.selects "CityRoadModel" yX12_line yX12_line ∈ tb := tb_mem 1865 (by decide +kernel) rfl
set_option maxRecDepth 200000 in
theorem q_1863 : Cond.methodLink "CityRoadLaw" 98 yX12_line ∈ tb := tb_mem 1863 (by decide +kernel) rfl
set_option maxRecDepth 200000 in
theorem q_881 : Cond.code yX11_ramp cX11_ramp 7 (some .int) ∈ tb := tb_mem 881 (by rfl) rfl
set_option maxRecDepth 200000 in
theorem q_879 : Cond.instanceMethod yX11_ramp ∈ tb := tb_mem 879 (by decide +kernel) rfl
set_option maxRecDepth 200000 in
theorem q_880 : Cond.selects "CityRoad" yX11_ramp yX11_ramp ∈ tb := tb_mem 880 (by decide +kernel) rfl
set_option maxRecDepth 200000 in
theorem q_878 : Cond.methodLink "CityRoadLaw" 99 yX11_ramp ∈ tb := tb_mem 878 (by decide +kernel) rfl
set_option maxRecDepth 200000 in
theorem q_1902 : Cond.code yX12_ramp cX12_ramp 5 (some .int) ∈ tb := tb_mem 1902 (by rfl) rfl
set_option maxRecDepth 200000 in
theorem q_1900 : Cond.instanceMethod yX12_ramp ∈ tb := tb_mem 1900 (by decide +kernel) rfl
set_option maxRecDepth 200000 in
theorem q_1901 : Cond.selects "CityRoadModel" yX12_ramp yX12_ramp ∈ tb := tb_mem 1901 (by decide +kernel) rfl
set_option maxRecDepth 200000 in
theorem q_1899 : Cond.methodLink "CityRoadLaw" 102 yX12_ramp ∈ tb := tb_mem 1899 (by decide +kernel) rfl
set_option maxRecDepth 200000 in
theorem q_910 : Cond.code yX11_cellOf cX11_cellOf 3 (some .int) ∈ tb := tb_mem 910 (by rfl) rfl
set_option maxRecDepth 200000 in
theorem q_908 : Cond.instanceMethod yX11_cellOf ∈ tb := tb_mem 908 (by decide +kernel) rfl
set_option maxRecDepth 200000 in
theorem q_909 : Cond.selects "CityRoad" yX11_cellOf yX11_cellOf ∈ tb := tb_mem 909 (by decide +kernel) rfl
set_option maxRecDepth 200000 in
theorem q_907 : Cond.methodLink "CityRoadLaw" 103 yX11_cellOf ∈ tb := tb_mem 907 (by decide +kernel) rfl
set_option maxRecDepth 200000 in
theorem q_1924 : Cond.code yX12_cellOf cX12_cellOf 4 (some .int) ∈ tb := tb_mem 1924 (by rfl) rfl
set_option maxRecDepth 200000 in
theorem q_1922 : Cond.instanceMethod yX12_cellOf ∈ tb := tb_mem 1922 (by decide +kernel) rfl
set_option maxRecDepth 200000 in
theorem q_1923 : Cond.selects "CityRoadModel" yX12_cellOf yX12_cellOf ∈ tb := tb_mem 1923 (by decide +kernel) rfl
set_option maxRecDepth 200000 in
theorem q_1921 : Cond.methodLink "CityRoadLaw" 106 yX12_cellOf ∈ tb := tb_mem 1921 (by decide +kernel) rfl
set_option maxRecDepth 200000 in
theorem q_918 : Cond.code yX11_show cX11_show 7 (some .int) ∈ tb := tb_mem 918 (by rfl) rfl
set_option maxRecDepth 200000 in
theorem q_916 : Cond.instanceMethod yX11_show ∈ tb := tb_mem 916 (by decide +kernel) rfl
set_option maxRecDepth 200000 in
theorem q_917 : Cond.selects "CityRoad" yX11_show yX11_show ∈ tb := tb_mem 917 (by decide +kernel) rfl
set_option maxRecDepth 200000 in
theorem q_915 : Cond.methodLink "CityRoadLaw" 107 yX11_show ∈ tb := tb_mem 915 (by decide +kernel) rfl
set_option maxRecDepth 200000 in
theorem q_1932 : Cond.code yX12_show cX12_show 8 (some .int) ∈ tb := tb_mem 1932 (by rfl) rfl
set_option maxRecDepth 200000 in
theorem q_1930 : Cond.instanceMethod yX12_show ∈ tb := tb_mem 1930 (by decide +kernel) rfl
set_option maxRecDepth 200000 in
theorem q_1931 : Cond.selects "CityRoadModel" yX12_show yX12_show ∈ tb := tb_mem 1931 (by decide +kernel) rfl
set_option maxRecDepth 200000 in
theorem q_1929 : Cond.methodLink "CityRoadLaw" 110 yX12_show ∈ tb := tb_mem 1929 (by decide +kernel) rfl
set_option maxRecDepth 200000 in
theorem q_958 : Cond.code yX11_take cX11_take 7 (some .int) ∈ tb := tb_mem 958 (by rfl) rfl
set_option maxRecDepth 200000 in
theorem q_956 : Cond.instanceMethod yX11_take ∈ tb := tb_mem 956 (by decide +kernel) rfl
set_option maxRecDepth 200000 in
theorem q_957 : Cond.selects "CityRoad" yX11_take yX11_take ∈ tb := tb_mem 957 (by decide +kernel) rfl
set_option maxRecDepth 200000 in
theorem q_955 : Cond.methodLink "CityRoadLaw" 111 yX11_take ∈ tb := tb_mem 955 (by decide +kernel) rfl
set_option maxRecDepth 200000 in
theorem q_1940 : Cond.code yX12_take cX12_take 6 (some .int) ∈ tb := tb_mem 1940 (by rfl) rfl
set_option maxRecDepth 200000 in
theorem q_1938 : Cond.instanceMethod yX12_take ∈ tb := tb_mem 1938 (by decide +kernel) rfl
set_option maxRecDepth 200000 in
theorem q_1939 : Cond.selects "CityRoadModel" yX12_take yX12_take ∈ tb := tb_mem 1939 (by decide +kernel) rfl
set_option maxRecDepth 200000 in
theorem q_1937 : Cond.methodLink "CityRoadLaw" 114 yX12_take ∈ tb := tb_mem 1937 (by decide +kernel) rfl
set_option maxRecDepth 200000 in
theorem q_978 : Cond.code yX11_moved cX11_moved 6 (some .int) ∈ tb := tb_mem 978 (by rfl) rfl
set_option maxRecDepth 200000 in
theorem q_976 : Cond.instanceMethod yX11_moved ∈ tb := tb_mem 976 (by decide +kernel) rfl
set_option maxRecDepth 200000 in
theorem q_977 : Cond.selects "CityRoad" yX11_moved yX11_moved ∈ tb := tb_mem 977 (by decide +kernel) rfl
set_option maxRecDepth 200000 in
theorem q_975 : Cond.methodLink "CityRoadLaw" 115 yX11_moved ∈ tb := tb_mem 975 (by decide +kernel) rfl
set_option maxRecDepth 200000 in
theorem q_1948 : Cond.code yX12_moved cX12_moved 5 (some .int) ∈ tb := tb_mem 1948 (by rfl) rfl
set_option maxRecDepth 200000 in
theorem q_1946 : Cond.instanceMethod yX12_moved ∈ tb := tb_mem 1946 (by decide +kernel) rfl
set_option maxRecDepth 200000 in
theorem q_1947 : Cond.selects "CityRoadModel" yX12_moved yX12_moved ∈ tb := tb_mem 1947 (by decide +kernel) rfl
set_option maxRecDepth 200000 in
theorem q_1945 : Cond.methodLink "CityRoadLaw" 118 yX12_moved ∈ tb := tb_mem 1945 (by decide +kernel) rfl
set_option maxRecDepth 200000 in
theorem q_998 : Cond.code yX11_grant cX11_grant 4 (some .int) ∈ tb := tb_mem 998 (by rfl) rfl
set_option maxRecDepth 200000 in
theorem q_996 : Cond.instanceMethod yX11_grant ∈ tb := tb_mem 996 (by decide +kernel) rfl
set_option maxRecDepth 200000 in
theorem q_997 : Cond.selects "CityRoad" yX11_grant yX11_grant ∈ tb := tb_mem 997 (by decide +kernel) rfl
set_option maxRecDepth 200000 in
theorem q_995 : Cond.methodLink "CityRoadLaw" 119 yX11_grant ∈ tb := tb_mem 995 (by decide +kernel) rfl
set_option maxRecDepth 200000 in
theorem q_1952 : Cond.code yX12_grant cX12_grant 4 (some .int) ∈ tb := tb_mem 1952 (by rfl) rfl
set_option maxRecDepth 200000 in
theorem q_1950 : Cond.instanceMethod yX12_grant ∈ tb := tb_mem 1950 (by decide +kernel) rfl
set_option maxRecDepth 200000 in
theorem q_1951 : Cond.selects "CityRoadModel" yX12_grant yX12_grant ∈ tb := tb_mem 1951 (by decide +kernel) rfl
set_option maxRecDepth 200000 in
theorem q_1949 : Cond.methodLink "CityRoadLaw" 122 yX12_grant ∈ tb := tb_mem 1949 (by decide +kernel) rfl
set_option maxRecDepth 200000 in
theorem q_1006 : Cond.code yX11_hearing cX11_hearing 6 (some .int) ∈ tb := tb_mem 1006 (by rfl) rfl
set_option maxRecDepth 200000 in
theorem q_1004 : Cond.instanceMethod yX11_hearing ∈ tb := tb_mem 1004 (by decide +kernel) rfl
set_option maxRecDepth 200000 in
theorem q_1005 : Cond.selects "CityRoad" yX11_hearing yX11_hearing ∈ tb := tb_mem 1005 (by decide +kernel) rfl
set_option maxRecDepth 200000 in
theorem q_1003 : Cond.methodLink "CityRoadLaw" 123 yX11_hearing ∈ tb := tb_mem 1003 (by decide +kernel) rfl
set_option maxRecDepth 200000 in
theorem q_1956 : Cond.code yX12_hearing cX12_hearing 6 (some .int) ∈ tb := tb_mem 1956 (by rfl) rfl
set_option maxRecDepth 200000 in
theorem q_1954 : Cond.instanceMethod yX12_hearing ∈ tb := tb_mem 1954 (by decide +kernel) rfl
set_option maxRecDepth 200000 in
theorem q_1955 : Cond.selects "CityRoadModel" yX12_hearing yX12_hearing ∈ tb := tb_mem 1955 (by decide +kernel) rfl
set_option maxRecDepth 200000 in
theorem q_1953 : Cond.methodLink "CityRoadLaw" 126 yX12_hearing ∈ tb := tb_mem 1953 (by decide +kernel) rfl
set_option maxRecDepth 200000 in
theorem q_1014 : Cond.code yX11_told cX11_told 3 (some .int) ∈ tb := tb_mem 1014 (by rfl) rfl
set_option maxRecDepth 200000 in
theorem q_1012 : Cond.instanceMethod yX11_told ∈ tb := tb_mem 1012 (by decide +kernel) rfl
set_option maxRecDepth 200000 in
theorem q_1013 : Cond.selects "CityRoad" yX11_told yX11_told ∈ tb := tb_mem 1013 (by decide +kernel) rfl
set_option maxRecDepth 200000 in
theorem q_1011 : Cond.methodLink "CityRoadLaw" 127 yX11_told ∈ tb := tb_mem 1011 (by decide +kernel) rfl
set_option maxRecDepth 200000 in
theorem q_1960 : Cond.code yX12_told cX12_told 3 (some .int) ∈ tb := tb_mem 1960 (by rfl) rfl
set_option maxRecDepth 200000 in
theorem q_1958 : Cond.instanceMethod yX12_told ∈ tb := tb_mem 1958 (by decide +kernel) rfl
set_option maxRecDepth 200000 in
theorem q_1959 : Cond.selects "CityRoadModel" yX12_told yX12_told ∈ tb := tb_mem 1959 (by decide +kernel) rfl
set_option maxRecDepth 200000 in
theorem q_1957 : Cond.methodLink "CityRoadLaw" 130 yX12_told ∈ tb := tb_mem 1957 (by decide +kernel) rfl
set_option maxRecDepth 200000 in
theorem q_1022 : Cond.code yX11_mark cX11_mark 3 (some .int) ∈ tb := tb_mem 1022 (by rfl) rfl
set_option maxRecDepth 200000 in
theorem q_1020 : Cond.instanceMethod yX11_mark ∈ tb := tb_mem 1020 (by decide +kernel) rfl
set_option maxRecDepth 200000 in
theorem q_1021 : Cond.selects "CityRoad" yX11_mark yX11_mark ∈ tb := tb_mem 1021 (by decide +kernel) rfl
set_option maxRecDepth 200000 in
theorem q_1019 : Cond.methodLink "CityRoadLaw" 131 yX11_mark ∈ tb := tb_mem 1019 (by decide +kernel) rfl
set_option maxRecDepth 200000 in
theorem q_1968 : Cond.code yX12_mark cX12_mark 4 (some .int) ∈ tb := tb_mem 1968 (by rfl) rfl
set_option maxRecDepth 200000 in
theorem q_1966 : Cond.instanceMethod yX12_mark ∈ tb := tb_mem 1966 (by decide +kernel) rfl
set_option maxRecDepth 200000 in
theorem q_1967 : Cond.selects "CityRoadModel" yX12_mark yX12_mark ∈ tb := tb_mem 1967 (by decide +kernel) rfl
set_option maxRecDepth 200000 in
theorem q_1965 : Cond.methodLink "CityRoadLaw" 134 yX12_mark ∈ tb := tb_mem 1965 (by decide +kernel) rfl
set_option maxRecDepth 200000 in
theorem q_1053 : Cond.code yX11_cost cX11_cost 2 (some .int) ∈ tb := tb_mem 1053 (by rfl) rfl
set_option maxRecDepth 200000 in
theorem q_1051 : Cond.instanceMethod yX11_cost ∈ tb := tb_mem 1051 (by decide +kernel) rfl
set_option maxRecDepth 200000 in
theorem q_1052 : Cond.selects "CityRoad" yX11_cost yX11_cost ∈ tb := tb_mem 1052 (by decide +kernel) rfl
set_option maxRecDepth 200000 in
theorem q_1050 : Cond.methodLink "CityRoadLaw" 135 yX11_cost ∈ tb := tb_mem 1050 (by decide +kernel) rfl
set_option maxRecDepth 200000 in
theorem q_1976 : Cond.code yX12_cost cX12_cost 3 (some .int) ∈ tb := tb_mem 1976 (by rfl) rfl
set_option maxRecDepth 200000 in
theorem q_1974 : Cond.instanceMethod yX12_cost ∈ tb := tb_mem 1974 (by decide +kernel) rfl
set_option maxRecDepth 200000 in
theorem q_1975 : Cond.selects "CityRoadModel" yX12_cost yX12_cost ∈ tb := tb_mem 1975 (by decide +kernel) rfl
set_option maxRecDepth 200000 in
theorem q_1973 : Cond.methodLink "CityRoadLaw" 138 yX12_cost ∈ tb := tb_mem 1973 (by decide +kernel) rfl
set_option maxRecDepth 200000 in
theorem q_1061 : Cond.code yX11_shown cX11_shown 2 (some .int) ∈ tb := tb_mem 1061 (by rfl) rfl
set_option maxRecDepth 200000 in
theorem q_1059 : Cond.instanceMethod yX11_shown ∈ tb := tb_mem 1059 (by decide +kernel) rfl
set_option maxRecDepth 200000 in
theorem q_1060 : Cond.selects "CityRoad" yX11_shown yX11_shown ∈ tb := tb_mem 1060 (by decide +kernel) rfl
set_option maxRecDepth 200000 in
theorem q_1058 : Cond.methodLink "CityRoadLaw" 139 yX11_shown ∈ tb := tb_mem 1058 (by decide +kernel) rfl
set_option maxRecDepth 200000 in
theorem q_1980 : Cond.code yX12_shown cX12_shown 3 (some .int) ∈ tb := tb_mem 1980 (by rfl) rfl
set_option maxRecDepth 200000 in
theorem q_1978 : Cond.instanceMethod yX12_shown ∈ tb := tb_mem 1978 (by decide +kernel) rfl
set_option maxRecDepth 200000 in
theorem q_1979 : Cond.selects "CityRoadModel" yX12_shown yX12_shown ∈ tb := tb_mem 1979 (by decide +kernel) rfl
set_option maxRecDepth 200000 in
theorem q_1977 : Cond.methodLink "CityRoadLaw" 142 yX12_shown ∈ tb := tb_mem 1977 (by decide +kernel) rfl
set_option maxRecDepth 200000 in
theorem q_1065 : Cond.code yX11_over cX11_over 2 (some .int) ∈ tb := tb_mem 1065 (by rfl) rfl
set_option maxRecDepth 200000 in
theorem q_1063 : Cond.instanceMethod yX11_over ∈ tb := tb_mem 1063 (by decide +kernel) rfl
set_option maxRecDepth 200000 in
theorem q_1064 : Cond.selects "CityRoad" yX11_over yX11_over ∈ tb := tb_mem 1064 (by decide +kernel) rfl
set_option maxRecDepth 200000 in
theorem q_1062 : Cond.methodLink "CityRoadLaw" 143 yX11_over ∈ tb := tb_mem 1062 (by decide +kernel) rfl
set_option maxRecDepth 200000 in
theorem q_1984 : Cond.code yX12_over cX12_over 3 (some .int) ∈ tb := tb_mem 1984 (by rfl) rfl
set_option maxRecDepth 200000 in
theorem q_1982 : Cond.instanceMethod yX12_over ∈ tb := tb_mem 1982 (by decide +kernel) rfl
set_option maxRecDepth 200000 in
theorem q_1983 : Cond.selects "CityRoadModel" yX12_over yX12_over ∈ tb := tb_mem 1983 (by decide +kernel) rfl
set_option maxRecDepth 200000 in
theorem q_1981 : Cond.methodLink "CityRoadLaw" 146 yX12_over ∈ tb := tb_mem 1981 (by decide +kernel) rfl
set_option maxRecDepth 200000 in
theorem q_1069 : Cond.code yX11_buy cX11_buy 3 (some .int) ∈ tb := tb_mem 1069 (by rfl) rfl
set_option maxRecDepth 200000 in
theorem q_1067 : Cond.instanceMethod yX11_buy ∈ tb := tb_mem 1067 (by decide +kernel) rfl
set_option maxRecDepth 200000 in
theorem q_1068 : Cond.selects "CityRoad" yX11_buy yX11_buy ∈ tb := tb_mem 1068 (by decide +kernel) rfl
set_option maxRecDepth 200000 in
theorem q_1066 : Cond.methodLink "CityRoadLaw" 147 yX11_buy ∈ tb := tb_mem 1066 (by decide +kernel) rfl
set_option maxRecDepth 200000 in
theorem q_1988 : Cond.code yX12_buy cX12_buy 3 (some .int) ∈ tb := tb_mem 1988 (by rfl) rfl
set_option maxRecDepth 200000 in
theorem q_1986 : Cond.instanceMethod yX12_buy ∈ tb := tb_mem 1986 (by decide +kernel) rfl
set_option maxRecDepth 200000 in
theorem q_1987 : Cond.selects "CityRoadModel" yX12_buy yX12_buy ∈ tb := tb_mem 1987 (by decide +kernel) rfl
set_option maxRecDepth 200000 in
theorem q_1985 : Cond.methodLink "CityRoadLaw" 150 yX12_buy ∈ tb := tb_mem 1985 (by decide +kernel) rfl
set_option maxRecDepth 200000 in
theorem q_1085 : Cond.code yX11_hear cX11_hear 4 (some .int) ∈ tb := tb_mem 1085 (by rfl) rfl
set_option maxRecDepth 200000 in
theorem q_1083 : Cond.instanceMethod yX11_hear ∈ tb := tb_mem 1083 (by decide +kernel) rfl
set_option maxRecDepth 200000 in
theorem q_1084 : Cond.selects "CityRoad" yX11_hear yX11_hear ∈ tb := tb_mem 1084 (by decide +kernel) rfl
set_option maxRecDepth 200000 in
theorem q_1082 : Cond.methodLink "CityRoadLaw" 151 yX11_hear ∈ tb := tb_mem 1082 (by decide +kernel) rfl
set_option maxRecDepth 200000 in
theorem q_1992 : Cond.code yX12_hear cX12_hear 4 (some .int) ∈ tb := tb_mem 1992 (by rfl) rfl
set_option maxRecDepth 200000 in
theorem q_1990 : Cond.instanceMethod yX12_hear ∈ tb := tb_mem 1990 (by decide +kernel) rfl
set_option maxRecDepth 200000 in
theorem q_1991 : Cond.selects "CityRoadModel" yX12_hear yX12_hear ∈ tb := tb_mem 1991 (by decide +kernel) rfl
set_option maxRecDepth 200000 in
theorem q_1989 : Cond.methodLink "CityRoadLaw" 154 yX12_hear ∈ tb := tb_mem 1989 (by decide +kernel) rfl
set_option maxRecDepth 200000 in
theorem q_1101 : Cond.code yX11_early cX11_early 5 (some .int) ∈ tb := tb_mem 1101 (by rfl) rfl
set_option maxRecDepth 200000 in
theorem q_1099 : Cond.instanceMethod yX11_early ∈ tb := tb_mem 1099 (by decide +kernel) rfl
set_option maxRecDepth 200000 in
theorem q_1100 : Cond.selects "CityRoad" yX11_early yX11_early ∈ tb := tb_mem 1100 (by decide +kernel) rfl
set_option maxRecDepth 200000 in
theorem q_1098 : Cond.methodLink "CityRoadLaw" 155 yX11_early ∈ tb := tb_mem 1098 (by decide +kernel) rfl
set_option maxRecDepth 200000 in
theorem q_2000 : Cond.code yX12_early cX12_early 9 (some .int) ∈ tb := tb_mem 2000 (by rfl) rfl
set_option maxRecDepth 200000 in
theorem q_1998 : Cond.instanceMethod yX12_early ∈ tb := tb_mem 1998 (by decide +kernel) rfl
set_option maxRecDepth 200000 in
theorem q_1999 : Cond.selects "CityRoadModel" yX12_early yX12_early ∈ tb := tb_mem 1999 (by decide +kernel) rfl
set_option maxRecDepth 200000 in
theorem q_1997 : Cond.methodLink "CityRoadLaw" 158 yX12_early ∈ tb := tb_mem 1997 (by decide +kernel) rfl
set_option maxRecDepth 200000 in
theorem q_1130 : Cond.code yX11_whither cX11_whither 2 (some .int) ∈ tb := tb_mem 1130 (by rfl) rfl
set_option maxRecDepth 200000 in
theorem q_1128 : Cond.instanceMethod yX11_whither ∈ tb := tb_mem 1128 (by decide +kernel) rfl
set_option maxRecDepth 200000 in
theorem q_1129 : Cond.selects "CityRoad" yX11_whither yX11_whither ∈ tb := tb_mem 1129 (by decide +kernel) rfl
set_option maxRecDepth 200000 in
theorem q_1127 : Cond.methodLink "CityRoadLaw" 159 yX11_whither ∈ tb := tb_mem 1127 (by decide +kernel) rfl
set_option maxRecDepth 200000 in
theorem q_2008 : Cond.code yX12_whither cX12_whither 10 (some .int) ∈ tb := tb_mem 2008 (by rfl) rfl
set_option maxRecDepth 200000 in
theorem q_2006 : Cond.instanceMethod yX12_whither ∈ tb := tb_mem 2006 (by decide +kernel) rfl
set_option maxRecDepth 200000 in
theorem q_2007 : Cond.selects "CityRoadModel" yX12_whither yX12_whither ∈ tb := tb_mem 2007 (by decide +kernel) rfl
set_option maxRecDepth 200000 in
theorem q_2005 : Cond.methodLink "CityRoadLaw" 162 yX12_whither ∈ tb := tb_mem 2005 (by decide +kernel) rfl
theorem dL_law_944 : decode cL_law 944 = .ok (.aload_n 1, 1) := by decide +kernel
theorem dL_law_945 : decode cL_law 945 = .ok (.aload_n 0, 1) := by decide +kernel
theorem dL_law_946 : decode cL_law 946 = .ok (.iload_n 3, 1) := by decide +kernel
theorem dL_law_947 : decode cL_law 947 = .ok (.iconst 1, 1) := by decide +kernel
theorem dL_law_948 : decode cL_law 948 = .ok (.iadd, 1) := by decide +kernel
theorem dL_law_949 : decode cL_law 949 = .ok (.iaload, 1) := by decide +kernel
theorem dL_law_950 : decode cL_law 950 = .ok (.aload_n 0, 1) := by decide +kernel
theorem dL_law_951 : decode cL_law 951 = .ok (.iload_n 3, 1) := by decide +kernel
theorem dL_law_952 : decode cL_law 952 = .ok (.iconst 2, 1) := by decide +kernel
theorem dL_law_953 : decode cL_law 953 = .ok (.iadd, 1) := by decide +kernel
theorem dL_law_954 : decode cL_law 954 = .ok (.iaload, 1) := by decide +kernel
theorem dL_law_955 : decode cL_law 955 = .ok (.aload_n 0, 1) := by decide +kernel
theorem dL_law_956 : decode cL_law 956 = .ok (.iload_n 3, 1) := by decide +kernel
theorem dL_law_957 : decode cL_law 957 = .ok (.iconst 3, 1) := by decide +kernel
theorem dL_law_958 : decode cL_law 958 = .ok (.iadd, 1) := by decide +kernel
theorem dL_law_959 : decode cL_law 959 = .ok (.iaload, 1) := by decide +kernel
theorem dL_law_960 : decode cL_law 960 = .ok (.invokevirtual 91, 3) := by decide +kernel
theorem dL_law_963 : decode cL_law 963 = .ok (.aload_n 2, 1) := by decide +kernel
theorem dL_law_964 : decode cL_law 964 = .ok (.aload_n 0, 1) := by decide +kernel
theorem dL_law_965 : decode cL_law 965 = .ok (.iload_n 3, 1) := by decide +kernel
theorem dL_law_966 : decode cL_law 966 = .ok (.iconst 1, 1) := by decide +kernel
theorem dL_law_967 : decode cL_law 967 = .ok (.iadd, 1) := by decide +kernel
theorem dL_law_968 : decode cL_law 968 = .ok (.iaload, 1) := by decide +kernel
theorem dL_law_969 : decode cL_law 969 = .ok (.aload_n 0, 1) := by decide +kernel
theorem dL_law_970 : decode cL_law 970 = .ok (.iload_n 3, 1) := by decide +kernel
theorem dL_law_971 : decode cL_law 971 = .ok (.iconst 2, 1) := by decide +kernel
theorem dL_law_972 : decode cL_law 972 = .ok (.iadd, 1) := by decide +kernel
theorem dL_law_973 : decode cL_law 973 = .ok (.iaload, 1) := by decide +kernel
theorem dL_law_974 : decode cL_law 974 = .ok (.aload_n 0, 1) := by decide +kernel
theorem dL_law_975 : decode cL_law 975 = .ok (.iload_n 3, 1) := by decide +kernel
theorem dL_law_976 : decode cL_law 976 = .ok (.iconst 3, 1) := by decide +kernel
theorem dL_law_977 : decode cL_law 977 = .ok (.iadd, 1) := by decide +kernel
theorem dL_law_978 : decode cL_law 978 = .ok (.iaload, 1) := by decide +kernel
theorem dL_law_979 : decode cL_law 979 = .ok (.invokevirtual 94, 3) := by decide +kernel
theorem dL_law_982 : decode cL_law 982 = .ok (.if_icmp .eq 973, 3) := by decide +kernel
theorem dL_law_987 : decode cL_law 987 = .ok (.aload_n 1, 1) := by decide +kernel
theorem dL_law_988 : decode cL_law 988 = .ok (.aload_n 0, 1) := by decide +kernel
theorem dL_law_989 : decode cL_law 989 = .ok (.iload_n 3, 1) := by decide +kernel
theorem dL_law_990 : decode cL_law 990 = .ok (.iconst 1, 1) := by decide +kernel
theorem dL_law_991 : decode cL_law 991 = .ok (.iadd, 1) := by decide +kernel
theorem dL_law_992 : decode cL_law 992 = .ok (.iaload, 1) := by decide +kernel
theorem dL_law_993 : decode cL_law 993 = .ok (.aload_n 0, 1) := by decide +kernel
theorem dL_law_994 : decode cL_law 994 = .ok (.iload_n 3, 1) := by decide +kernel
theorem dL_law_995 : decode cL_law 995 = .ok (.iconst 2, 1) := by decide +kernel
theorem dL_law_996 : decode cL_law 996 = .ok (.iadd, 1) := by decide +kernel
theorem dL_law_997 : decode cL_law 997 = .ok (.iaload, 1) := by decide +kernel
theorem dL_law_998 : decode cL_law 998 = .ok (.aload_n 0, 1) := by decide +kernel
theorem dL_law_999 : decode cL_law 999 = .ok (.iload_n 3, 1) := by decide +kernel
theorem dL_law_1000 : decode cL_law 1000 = .ok (.iconst 3, 1) := by decide +kernel
theorem dL_law_1001 : decode cL_law 1001 = .ok (.iadd, 1) := by decide +kernel
theorem dL_law_1002 : decode cL_law 1002 = .ok (.iaload, 1) := by decide +kernel
theorem dL_law_1003 : decode cL_law 1003 = .ok (.invokevirtual 95, 3) := by decide +kernel
theorem dL_law_1006 : decode cL_law 1006 = .ok (.aload_n 2, 1) := by decide +kernel
theorem dL_law_1007 : decode cL_law 1007 = .ok (.aload_n 0, 1) := by decide +kernel
theorem dL_law_1008 : decode cL_law 1008 = .ok (.iload_n 3, 1) := by decide +kernel
theorem dL_law_1009 : decode cL_law 1009 = .ok (.iconst 1, 1) := by decide +kernel
theorem dL_law_1010 : decode cL_law 1010 = .ok (.iadd, 1) := by decide +kernel
theorem dL_law_1011 : decode cL_law 1011 = .ok (.iaload, 1) := by decide +kernel
theorem dL_law_1012 : decode cL_law 1012 = .ok (.aload_n 0, 1) := by decide +kernel
theorem dL_law_1013 : decode cL_law 1013 = .ok (.iload_n 3, 1) := by decide +kernel
theorem dL_law_1014 : decode cL_law 1014 = .ok (.iconst 2, 1) := by decide +kernel
theorem dL_law_1015 : decode cL_law 1015 = .ok (.iadd, 1) := by decide +kernel
theorem dL_law_1016 : decode cL_law 1016 = .ok (.iaload, 1) := by decide +kernel
theorem dL_law_1017 : decode cL_law 1017 = .ok (.aload_n 0, 1) := by decide +kernel
theorem dL_law_1018 : decode cL_law 1018 = .ok (.iload_n 3, 1) := by decide +kernel
theorem dL_law_1019 : decode cL_law 1019 = .ok (.iconst 3, 1) := by decide +kernel
theorem dL_law_1020 : decode cL_law 1020 = .ok (.iadd, 1) := by decide +kernel
theorem dL_law_1021 : decode cL_law 1021 = .ok (.iaload, 1) := by decide +kernel
theorem dL_law_1022 : decode cL_law 1022 = .ok (.invokevirtual 98, 3) := by decide +kernel
theorem dL_law_1025 : decode cL_law 1025 = .ok (.if_icmp .eq 930, 3) := by decide +kernel
theorem dL_law_1030 : decode cL_law 1030 = .ok (.aload_n 1, 1) := by decide +kernel
theorem dL_law_1031 : decode cL_law 1031 = .ok (.aload_n 0, 1) := by decide +kernel
theorem dL_law_1032 : decode cL_law 1032 = .ok (.iload_n 3, 1) := by decide +kernel
theorem dL_law_1033 : decode cL_law 1033 = .ok (.iconst 1, 1) := by decide +kernel
theorem dL_law_1034 : decode cL_law 1034 = .ok (.iadd, 1) := by decide +kernel
theorem dL_law_1035 : decode cL_law 1035 = .ok (.iaload, 1) := by decide +kernel
theorem dL_law_1036 : decode cL_law 1036 = .ok (.aload_n 0, 1) := by decide +kernel
theorem dL_law_1037 : decode cL_law 1037 = .ok (.iload_n 3, 1) := by decide +kernel
theorem dL_law_1038 : decode cL_law 1038 = .ok (.iconst 2, 1) := by decide +kernel
theorem dL_law_1039 : decode cL_law 1039 = .ok (.iadd, 1) := by decide +kernel
theorem dL_law_1040 : decode cL_law 1040 = .ok (.iaload, 1) := by decide +kernel
theorem dL_law_1041 : decode cL_law 1041 = .ok (.invokevirtual 99, 3) := by decide +kernel
theorem dL_law_1044 : decode cL_law 1044 = .ok (.aload_n 2, 1) := by decide +kernel
theorem dL_law_1045 : decode cL_law 1045 = .ok (.aload_n 0, 1) := by decide +kernel
theorem dL_law_1046 : decode cL_law 1046 = .ok (.iload_n 3, 1) := by decide +kernel
theorem dL_law_1047 : decode cL_law 1047 = .ok (.iconst 1, 1) := by decide +kernel
theorem dL_law_1048 : decode cL_law 1048 = .ok (.iadd, 1) := by decide +kernel
theorem dL_law_1049 : decode cL_law 1049 = .ok (.iaload, 1) := by decide +kernel
theorem dL_law_1050 : decode cL_law 1050 = .ok (.aload_n 0, 1) := by decide +kernel
theorem dL_law_1051 : decode cL_law 1051 = .ok (.iload_n 3, 1) := by decide +kernel
theorem dL_law_1052 : decode cL_law 1052 = .ok (.iconst 2, 1) := by decide +kernel
theorem dL_law_1053 : decode cL_law 1053 = .ok (.iadd, 1) := by decide +kernel
theorem dL_law_1054 : decode cL_law 1054 = .ok (.iaload, 1) := by decide +kernel
theorem dL_law_1055 : decode cL_law 1055 = .ok (.invokevirtual 102, 3) := by decide +kernel
theorem dL_law_1058 : decode cL_law 1058 = .ok (.if_icmp .eq 897, 3) := by decide +kernel
theorem dL_law_1063 : decode cL_law 1063 = .ok (.aload_n 1, 1) := by decide +kernel
theorem dL_law_1064 : decode cL_law 1064 = .ok (.aload_n 0, 1) := by decide +kernel
theorem dL_law_1065 : decode cL_law 1065 = .ok (.iload_n 3, 1) := by decide +kernel
theorem dL_law_1066 : decode cL_law 1066 = .ok (.iconst 1, 1) := by decide +kernel
theorem dL_law_1067 : decode cL_law 1067 = .ok (.iadd, 1) := by decide +kernel
theorem dL_law_1068 : decode cL_law 1068 = .ok (.iaload, 1) := by decide +kernel
theorem dL_law_1069 : decode cL_law 1069 = .ok (.aload_n 0, 1) := by decide +kernel
theorem dL_law_1070 : decode cL_law 1070 = .ok (.iload_n 3, 1) := by decide +kernel
theorem dL_law_1071 : decode cL_law 1071 = .ok (.iconst 2, 1) := by decide +kernel
theorem dL_law_1072 : decode cL_law 1072 = .ok (.iadd, 1) := by decide +kernel
theorem dL_law_1073 : decode cL_law 1073 = .ok (.iaload, 1) := by decide +kernel
theorem dL_law_1074 : decode cL_law 1074 = .ok (.invokevirtual 103, 3) := by decide +kernel
theorem dL_law_1077 : decode cL_law 1077 = .ok (.aload_n 2, 1) := by decide +kernel
theorem dL_law_1078 : decode cL_law 1078 = .ok (.aload_n 0, 1) := by decide +kernel
theorem dL_law_1079 : decode cL_law 1079 = .ok (.iload_n 3, 1) := by decide +kernel
theorem dL_law_1080 : decode cL_law 1080 = .ok (.iconst 1, 1) := by decide +kernel
theorem dL_law_1081 : decode cL_law 1081 = .ok (.iadd, 1) := by decide +kernel
theorem dL_law_1082 : decode cL_law 1082 = .ok (.iaload, 1) := by decide +kernel
theorem dL_law_1083 : decode cL_law 1083 = .ok (.aload_n 0, 1) := by decide +kernel
theorem dL_law_1084 : decode cL_law 1084 = .ok (.iload_n 3, 1) := by decide +kernel
theorem dL_law_1085 : decode cL_law 1085 = .ok (.iconst 2, 1) := by decide +kernel
theorem dL_law_1086 : decode cL_law 1086 = .ok (.iadd, 1) := by decide +kernel
theorem dL_law_1087 : decode cL_law 1087 = .ok (.iaload, 1) := by decide +kernel
theorem dL_law_1088 : decode cL_law 1088 = .ok (.invokevirtual 106, 3) := by decide +kernel
theorem dL_law_1091 : decode cL_law 1091 = .ok (.if_icmp .eq 864, 3) := by decide +kernel
theorem dL_law_1096 : decode cL_law 1096 = .ok (.aload_n 1, 1) := by decide +kernel
theorem dL_law_1097 : decode cL_law 1097 = .ok (.aload_n 0, 1) := by decide +kernel
theorem dL_law_1098 : decode cL_law 1098 = .ok (.iload_n 3, 1) := by decide +kernel
theorem dL_law_1099 : decode cL_law 1099 = .ok (.iconst 1, 1) := by decide +kernel
theorem dL_law_1100 : decode cL_law 1100 = .ok (.iadd, 1) := by decide +kernel
theorem dL_law_1101 : decode cL_law 1101 = .ok (.iaload, 1) := by decide +kernel
theorem dL_law_1102 : decode cL_law 1102 = .ok (.invokevirtual 107, 3) := by decide +kernel
theorem dL_law_1105 : decode cL_law 1105 = .ok (.aload_n 2, 1) := by decide +kernel
theorem dL_law_1106 : decode cL_law 1106 = .ok (.aload_n 0, 1) := by decide +kernel
theorem dL_law_1107 : decode cL_law 1107 = .ok (.iload_n 3, 1) := by decide +kernel
theorem dL_law_1108 : decode cL_law 1108 = .ok (.iconst 1, 1) := by decide +kernel
theorem dL_law_1109 : decode cL_law 1109 = .ok (.iadd, 1) := by decide +kernel
theorem dL_law_1110 : decode cL_law 1110 = .ok (.iaload, 1) := by decide +kernel
theorem dL_law_1111 : decode cL_law 1111 = .ok (.invokevirtual 110, 3) := by decide +kernel
theorem dL_law_1114 : decode cL_law 1114 = .ok (.if_icmp .eq 841, 3) := by decide +kernel
theorem dL_law_1119 : decode cL_law 1119 = .ok (.aload_n 1, 1) := by decide +kernel
theorem dL_law_1120 : decode cL_law 1120 = .ok (.aload_n 0, 1) := by decide +kernel
theorem dL_law_1121 : decode cL_law 1121 = .ok (.iload_n 3, 1) := by decide +kernel
theorem dL_law_1122 : decode cL_law 1122 = .ok (.iconst 1, 1) := by decide +kernel
theorem dL_law_1123 : decode cL_law 1123 = .ok (.iadd, 1) := by decide +kernel
theorem dL_law_1124 : decode cL_law 1124 = .ok (.iaload, 1) := by decide +kernel
theorem dL_law_1125 : decode cL_law 1125 = .ok (.aload_n 0, 1) := by decide +kernel
theorem dL_law_1126 : decode cL_law 1126 = .ok (.iload_n 3, 1) := by decide +kernel
theorem dL_law_1127 : decode cL_law 1127 = .ok (.iconst 2, 1) := by decide +kernel
theorem dL_law_1128 : decode cL_law 1128 = .ok (.iadd, 1) := by decide +kernel
theorem dL_law_1129 : decode cL_law 1129 = .ok (.iaload, 1) := by decide +kernel
theorem dL_law_1130 : decode cL_law 1130 = .ok (.invokevirtual 111, 3) := by decide +kernel
theorem dL_law_1133 : decode cL_law 1133 = .ok (.aload_n 2, 1) := by decide +kernel
theorem dL_law_1134 : decode cL_law 1134 = .ok (.aload_n 0, 1) := by decide +kernel
theorem dL_law_1135 : decode cL_law 1135 = .ok (.iload_n 3, 1) := by decide +kernel
theorem dL_law_1136 : decode cL_law 1136 = .ok (.iconst 1, 1) := by decide +kernel
theorem dL_law_1137 : decode cL_law 1137 = .ok (.iadd, 1) := by decide +kernel
theorem dL_law_1138 : decode cL_law 1138 = .ok (.iaload, 1) := by decide +kernel
theorem dL_law_1139 : decode cL_law 1139 = .ok (.aload_n 0, 1) := by decide +kernel
theorem dL_law_1140 : decode cL_law 1140 = .ok (.iload_n 3, 1) := by decide +kernel
theorem dL_law_1141 : decode cL_law 1141 = .ok (.iconst 2, 1) := by decide +kernel
theorem dL_law_1142 : decode cL_law 1142 = .ok (.iadd, 1) := by decide +kernel
theorem dL_law_1143 : decode cL_law 1143 = .ok (.iaload, 1) := by decide +kernel
theorem dL_law_1144 : decode cL_law 1144 = .ok (.invokevirtual 114, 3) := by decide +kernel
theorem dL_law_1147 : decode cL_law 1147 = .ok (.if_icmp .eq 808, 3) := by decide +kernel
theorem dL_law_1152 : decode cL_law 1152 = .ok (.aload_n 1, 1) := by decide +kernel
theorem dL_law_1153 : decode cL_law 1153 = .ok (.aload_n 0, 1) := by decide +kernel
theorem dL_law_1154 : decode cL_law 1154 = .ok (.iload_n 3, 1) := by decide +kernel
theorem dL_law_1155 : decode cL_law 1155 = .ok (.iconst 1, 1) := by decide +kernel
theorem dL_law_1156 : decode cL_law 1156 = .ok (.iadd, 1) := by decide +kernel
theorem dL_law_1157 : decode cL_law 1157 = .ok (.iaload, 1) := by decide +kernel
theorem dL_law_1158 : decode cL_law 1158 = .ok (.aload_n 0, 1) := by decide +kernel
theorem dL_law_1159 : decode cL_law 1159 = .ok (.iload_n 3, 1) := by decide +kernel
theorem dL_law_1160 : decode cL_law 1160 = .ok (.iconst 2, 1) := by decide +kernel
theorem dL_law_1161 : decode cL_law 1161 = .ok (.iadd, 1) := by decide +kernel
theorem dL_law_1162 : decode cL_law 1162 = .ok (.iaload, 1) := by decide +kernel
theorem dL_law_1163 : decode cL_law 1163 = .ok (.aload_n 0, 1) := by decide +kernel
theorem dL_law_1164 : decode cL_law 1164 = .ok (.iload_n 3, 1) := by decide +kernel
theorem dL_law_1165 : decode cL_law 1165 = .ok (.iconst 3, 1) := by decide +kernel
theorem dL_law_1166 : decode cL_law 1166 = .ok (.iadd, 1) := by decide +kernel
theorem dL_law_1167 : decode cL_law 1167 = .ok (.iaload, 1) := by decide +kernel
theorem dL_law_1168 : decode cL_law 1168 = .ok (.invokevirtual 115, 3) := by decide +kernel
theorem dL_law_1171 : decode cL_law 1171 = .ok (.aload_n 2, 1) := by decide +kernel
theorem dL_law_1172 : decode cL_law 1172 = .ok (.aload_n 0, 1) := by decide +kernel
theorem dL_law_1173 : decode cL_law 1173 = .ok (.iload_n 3, 1) := by decide +kernel
theorem dL_law_1174 : decode cL_law 1174 = .ok (.iconst 1, 1) := by decide +kernel
theorem dL_law_1175 : decode cL_law 1175 = .ok (.iadd, 1) := by decide +kernel
theorem dL_law_1176 : decode cL_law 1176 = .ok (.iaload, 1) := by decide +kernel
theorem dL_law_1177 : decode cL_law 1177 = .ok (.aload_n 0, 1) := by decide +kernel
theorem dL_law_1178 : decode cL_law 1178 = .ok (.iload_n 3, 1) := by decide +kernel
theorem dL_law_1179 : decode cL_law 1179 = .ok (.iconst 2, 1) := by decide +kernel
theorem dL_law_1180 : decode cL_law 1180 = .ok (.iadd, 1) := by decide +kernel
theorem dL_law_1181 : decode cL_law 1181 = .ok (.iaload, 1) := by decide +kernel
theorem dL_law_1182 : decode cL_law 1182 = .ok (.aload_n 0, 1) := by decide +kernel
theorem dL_law_1183 : decode cL_law 1183 = .ok (.iload_n 3, 1) := by decide +kernel
theorem dL_law_1184 : decode cL_law 1184 = .ok (.iconst 3, 1) := by decide +kernel
theorem dL_law_1185 : decode cL_law 1185 = .ok (.iadd, 1) := by decide +kernel
theorem dL_law_1186 : decode cL_law 1186 = .ok (.iaload, 1) := by decide +kernel
theorem dL_law_1187 : decode cL_law 1187 = .ok (.invokevirtual 118, 3) := by decide +kernel
theorem dL_law_1190 : decode cL_law 1190 = .ok (.if_icmp .eq 765, 3) := by decide +kernel
theorem dL_law_1195 : decode cL_law 1195 = .ok (.aload_n 1, 1) := by decide +kernel
theorem dL_law_1196 : decode cL_law 1196 = .ok (.aload_n 0, 1) := by decide +kernel
theorem dL_law_1197 : decode cL_law 1197 = .ok (.iload_n 3, 1) := by decide +kernel
theorem dL_law_1198 : decode cL_law 1198 = .ok (.iconst 1, 1) := by decide +kernel
theorem dL_law_1199 : decode cL_law 1199 = .ok (.iadd, 1) := by decide +kernel
theorem dL_law_1200 : decode cL_law 1200 = .ok (.iaload, 1) := by decide +kernel
theorem dL_law_1201 : decode cL_law 1201 = .ok (.aload_n 0, 1) := by decide +kernel
theorem dL_law_1202 : decode cL_law 1202 = .ok (.iload_n 3, 1) := by decide +kernel
theorem dL_law_1203 : decode cL_law 1203 = .ok (.iconst 2, 1) := by decide +kernel
theorem dL_law_1204 : decode cL_law 1204 = .ok (.iadd, 1) := by decide +kernel
theorem dL_law_1205 : decode cL_law 1205 = .ok (.iaload, 1) := by decide +kernel
theorem dL_law_1206 : decode cL_law 1206 = .ok (.invokevirtual 119, 3) := by decide +kernel
theorem dL_law_1209 : decode cL_law 1209 = .ok (.aload_n 2, 1) := by decide +kernel
theorem dL_law_1210 : decode cL_law 1210 = .ok (.aload_n 0, 1) := by decide +kernel
theorem dL_law_1211 : decode cL_law 1211 = .ok (.iload_n 3, 1) := by decide +kernel
theorem dL_law_1212 : decode cL_law 1212 = .ok (.iconst 1, 1) := by decide +kernel
theorem dL_law_1213 : decode cL_law 1213 = .ok (.iadd, 1) := by decide +kernel
theorem dL_law_1214 : decode cL_law 1214 = .ok (.iaload, 1) := by decide +kernel
theorem dL_law_1215 : decode cL_law 1215 = .ok (.aload_n 0, 1) := by decide +kernel
theorem dL_law_1216 : decode cL_law 1216 = .ok (.iload_n 3, 1) := by decide +kernel
theorem dL_law_1217 : decode cL_law 1217 = .ok (.iconst 2, 1) := by decide +kernel
theorem dL_law_1218 : decode cL_law 1218 = .ok (.iadd, 1) := by decide +kernel
theorem dL_law_1219 : decode cL_law 1219 = .ok (.iaload, 1) := by decide +kernel
theorem dL_law_1220 : decode cL_law 1220 = .ok (.invokevirtual 122, 3) := by decide +kernel
theorem dL_law_1223 : decode cL_law 1223 = .ok (.if_icmp .eq 732, 3) := by decide +kernel
theorem dL_law_1228 : decode cL_law 1228 = .ok (.aload_n 1, 1) := by decide +kernel
theorem dL_law_1229 : decode cL_law 1229 = .ok (.aload_n 0, 1) := by decide +kernel
theorem dL_law_1230 : decode cL_law 1230 = .ok (.iload_n 3, 1) := by decide +kernel
theorem dL_law_1231 : decode cL_law 1231 = .ok (.iconst 1, 1) := by decide +kernel
theorem dL_law_1232 : decode cL_law 1232 = .ok (.iadd, 1) := by decide +kernel
theorem dL_law_1233 : decode cL_law 1233 = .ok (.iaload, 1) := by decide +kernel
theorem dL_law_1234 : decode cL_law 1234 = .ok (.aload_n 0, 1) := by decide +kernel
theorem dL_law_1235 : decode cL_law 1235 = .ok (.iload_n 3, 1) := by decide +kernel
theorem dL_law_1236 : decode cL_law 1236 = .ok (.iconst 2, 1) := by decide +kernel
theorem dL_law_1237 : decode cL_law 1237 = .ok (.iadd, 1) := by decide +kernel
theorem dL_law_1238 : decode cL_law 1238 = .ok (.iaload, 1) := by decide +kernel
theorem dL_law_1239 : decode cL_law 1239 = .ok (.aload_n 0, 1) := by decide +kernel
theorem dL_law_1240 : decode cL_law 1240 = .ok (.iload_n 3, 1) := by decide +kernel
theorem dL_law_1241 : decode cL_law 1241 = .ok (.iconst 3, 1) := by decide +kernel
theorem dL_law_1242 : decode cL_law 1242 = .ok (.iadd, 1) := by decide +kernel
theorem dL_law_1243 : decode cL_law 1243 = .ok (.iaload, 1) := by decide +kernel
theorem dL_law_1244 : decode cL_law 1244 = .ok (.aload_n 0, 1) := by decide +kernel
theorem dL_law_1245 : decode cL_law 1245 = .ok (.iload_n 3, 1) := by decide +kernel
theorem dL_law_1246 : decode cL_law 1246 = .ok (.iconst 4, 1) := by decide +kernel
theorem dL_law_1247 : decode cL_law 1247 = .ok (.iadd, 1) := by decide +kernel
theorem dL_law_1248 : decode cL_law 1248 = .ok (.iaload, 1) := by decide +kernel
theorem dL_law_1249 : decode cL_law 1249 = .ok (.invokevirtual 123, 3) := by decide +kernel
theorem dL_law_1252 : decode cL_law 1252 = .ok (.aload_n 2, 1) := by decide +kernel
theorem dL_law_1253 : decode cL_law 1253 = .ok (.aload_n 0, 1) := by decide +kernel
theorem dL_law_1254 : decode cL_law 1254 = .ok (.iload_n 3, 1) := by decide +kernel
theorem dL_law_1255 : decode cL_law 1255 = .ok (.iconst 1, 1) := by decide +kernel
theorem dL_law_1256 : decode cL_law 1256 = .ok (.iadd, 1) := by decide +kernel
theorem dL_law_1257 : decode cL_law 1257 = .ok (.iaload, 1) := by decide +kernel
theorem dL_law_1258 : decode cL_law 1258 = .ok (.aload_n 0, 1) := by decide +kernel
theorem dL_law_1259 : decode cL_law 1259 = .ok (.iload_n 3, 1) := by decide +kernel
theorem dL_law_1260 : decode cL_law 1260 = .ok (.iconst 2, 1) := by decide +kernel
theorem dL_law_1261 : decode cL_law 1261 = .ok (.iadd, 1) := by decide +kernel
theorem dL_law_1262 : decode cL_law 1262 = .ok (.iaload, 1) := by decide +kernel
theorem dL_law_1263 : decode cL_law 1263 = .ok (.aload_n 0, 1) := by decide +kernel
theorem dL_law_1264 : decode cL_law 1264 = .ok (.iload_n 3, 1) := by decide +kernel
theorem dL_law_1265 : decode cL_law 1265 = .ok (.iconst 3, 1) := by decide +kernel
theorem dL_law_1266 : decode cL_law 1266 = .ok (.iadd, 1) := by decide +kernel
theorem dL_law_1267 : decode cL_law 1267 = .ok (.iaload, 1) := by decide +kernel
theorem dL_law_1268 : decode cL_law 1268 = .ok (.aload_n 0, 1) := by decide +kernel
theorem dL_law_1269 : decode cL_law 1269 = .ok (.iload_n 3, 1) := by decide +kernel
theorem dL_law_1270 : decode cL_law 1270 = .ok (.iconst 4, 1) := by decide +kernel
theorem dL_law_1271 : decode cL_law 1271 = .ok (.iadd, 1) := by decide +kernel
theorem dL_law_1272 : decode cL_law 1272 = .ok (.iaload, 1) := by decide +kernel
theorem dL_law_1273 : decode cL_law 1273 = .ok (.invokevirtual 126, 3) := by decide +kernel
theorem dL_law_1276 : decode cL_law 1276 = .ok (.if_icmp .eq 679, 3) := by decide +kernel
theorem dL_law_1281 : decode cL_law 1281 = .ok (.aload_n 1, 1) := by decide +kernel
theorem dL_law_1282 : decode cL_law 1282 = .ok (.aload_n 0, 1) := by decide +kernel
theorem dL_law_1283 : decode cL_law 1283 = .ok (.iload_n 3, 1) := by decide +kernel
theorem dL_law_1284 : decode cL_law 1284 = .ok (.iconst 1, 1) := by decide +kernel
theorem dL_law_1285 : decode cL_law 1285 = .ok (.iadd, 1) := by decide +kernel
theorem dL_law_1286 : decode cL_law 1286 = .ok (.iaload, 1) := by decide +kernel
theorem dL_law_1287 : decode cL_law 1287 = .ok (.aload_n 0, 1) := by decide +kernel
theorem dL_law_1288 : decode cL_law 1288 = .ok (.iload_n 3, 1) := by decide +kernel
theorem dL_law_1289 : decode cL_law 1289 = .ok (.iconst 2, 1) := by decide +kernel
theorem dL_law_1290 : decode cL_law 1290 = .ok (.iadd, 1) := by decide +kernel
theorem dL_law_1291 : decode cL_law 1291 = .ok (.iaload, 1) := by decide +kernel
theorem dL_law_1292 : decode cL_law 1292 = .ok (.invokevirtual 127, 3) := by decide +kernel
theorem dL_law_1295 : decode cL_law 1295 = .ok (.aload_n 2, 1) := by decide +kernel
theorem dL_law_1296 : decode cL_law 1296 = .ok (.aload_n 0, 1) := by decide +kernel
theorem dL_law_1297 : decode cL_law 1297 = .ok (.iload_n 3, 1) := by decide +kernel
theorem dL_law_1298 : decode cL_law 1298 = .ok (.iconst 1, 1) := by decide +kernel
theorem dL_law_1299 : decode cL_law 1299 = .ok (.iadd, 1) := by decide +kernel
theorem dL_law_1300 : decode cL_law 1300 = .ok (.iaload, 1) := by decide +kernel
theorem dL_law_1301 : decode cL_law 1301 = .ok (.aload_n 0, 1) := by decide +kernel
theorem dL_law_1302 : decode cL_law 1302 = .ok (.iload_n 3, 1) := by decide +kernel
theorem dL_law_1303 : decode cL_law 1303 = .ok (.iconst 2, 1) := by decide +kernel
theorem dL_law_1304 : decode cL_law 1304 = .ok (.iadd, 1) := by decide +kernel
theorem dL_law_1305 : decode cL_law 1305 = .ok (.iaload, 1) := by decide +kernel
theorem dL_law_1306 : decode cL_law 1306 = .ok (.invokevirtual 130, 3) := by decide +kernel
theorem dL_law_1309 : decode cL_law 1309 = .ok (.if_icmp .eq 646, 3) := by decide +kernel
theorem dL_law_1314 : decode cL_law 1314 = .ok (.aload_n 1, 1) := by decide +kernel
theorem dL_law_1315 : decode cL_law 1315 = .ok (.aload_n 0, 1) := by decide +kernel
theorem dL_law_1316 : decode cL_law 1316 = .ok (.iload_n 3, 1) := by decide +kernel
theorem dL_law_1317 : decode cL_law 1317 = .ok (.iconst 1, 1) := by decide +kernel
theorem dL_law_1318 : decode cL_law 1318 = .ok (.iadd, 1) := by decide +kernel
theorem dL_law_1319 : decode cL_law 1319 = .ok (.iaload, 1) := by decide +kernel
theorem dL_law_1320 : decode cL_law 1320 = .ok (.aload_n 0, 1) := by decide +kernel
theorem dL_law_1321 : decode cL_law 1321 = .ok (.iload_n 3, 1) := by decide +kernel
theorem dL_law_1322 : decode cL_law 1322 = .ok (.iconst 2, 1) := by decide +kernel
theorem dL_law_1323 : decode cL_law 1323 = .ok (.iadd, 1) := by decide +kernel
theorem dL_law_1324 : decode cL_law 1324 = .ok (.iaload, 1) := by decide +kernel
theorem dL_law_1325 : decode cL_law 1325 = .ok (.invokevirtual 131, 3) := by decide +kernel
theorem dL_law_1328 : decode cL_law 1328 = .ok (.aload_n 2, 1) := by decide +kernel
theorem dL_law_1329 : decode cL_law 1329 = .ok (.aload_n 0, 1) := by decide +kernel
theorem dL_law_1330 : decode cL_law 1330 = .ok (.iload_n 3, 1) := by decide +kernel
theorem dL_law_1331 : decode cL_law 1331 = .ok (.iconst 1, 1) := by decide +kernel
theorem dL_law_1332 : decode cL_law 1332 = .ok (.iadd, 1) := by decide +kernel
theorem dL_law_1333 : decode cL_law 1333 = .ok (.iaload, 1) := by decide +kernel
theorem dL_law_1334 : decode cL_law 1334 = .ok (.aload_n 0, 1) := by decide +kernel
theorem dL_law_1335 : decode cL_law 1335 = .ok (.iload_n 3, 1) := by decide +kernel
theorem dL_law_1336 : decode cL_law 1336 = .ok (.iconst 2, 1) := by decide +kernel
theorem dL_law_1337 : decode cL_law 1337 = .ok (.iadd, 1) := by decide +kernel
theorem dL_law_1338 : decode cL_law 1338 = .ok (.iaload, 1) := by decide +kernel
theorem dL_law_1339 : decode cL_law 1339 = .ok (.invokevirtual 134, 3) := by decide +kernel
theorem dL_law_1342 : decode cL_law 1342 = .ok (.if_icmp .eq 613, 3) := by decide +kernel
theorem dL_law_1347 : decode cL_law 1347 = .ok (.aload_n 1, 1) := by decide +kernel
theorem dL_law_1348 : decode cL_law 1348 = .ok (.aload_n 0, 1) := by decide +kernel
theorem dL_law_1349 : decode cL_law 1349 = .ok (.iload_n 3, 1) := by decide +kernel
theorem dL_law_1350 : decode cL_law 1350 = .ok (.iconst 1, 1) := by decide +kernel
theorem dL_law_1351 : decode cL_law 1351 = .ok (.iadd, 1) := by decide +kernel
theorem dL_law_1352 : decode cL_law 1352 = .ok (.iaload, 1) := by decide +kernel
theorem dL_law_1353 : decode cL_law 1353 = .ok (.invokevirtual 135, 3) := by decide +kernel
theorem dL_law_1356 : decode cL_law 1356 = .ok (.aload_n 2, 1) := by decide +kernel
theorem dL_law_1357 : decode cL_law 1357 = .ok (.aload_n 0, 1) := by decide +kernel
theorem dL_law_1358 : decode cL_law 1358 = .ok (.iload_n 3, 1) := by decide +kernel
theorem dL_law_1359 : decode cL_law 1359 = .ok (.iconst 1, 1) := by decide +kernel
theorem dL_law_1360 : decode cL_law 1360 = .ok (.iadd, 1) := by decide +kernel
theorem dL_law_1361 : decode cL_law 1361 = .ok (.iaload, 1) := by decide +kernel
theorem dL_law_1362 : decode cL_law 1362 = .ok (.invokevirtual 138, 3) := by decide +kernel
theorem dL_law_1365 : decode cL_law 1365 = .ok (.if_icmp .eq 590, 3) := by decide +kernel
theorem dL_law_1370 : decode cL_law 1370 = .ok (.aload_n 1, 1) := by decide +kernel
theorem dL_law_1371 : decode cL_law 1371 = .ok (.aload_n 0, 1) := by decide +kernel
theorem dL_law_1372 : decode cL_law 1372 = .ok (.iload_n 3, 1) := by decide +kernel
theorem dL_law_1373 : decode cL_law 1373 = .ok (.iconst 1, 1) := by decide +kernel
theorem dL_law_1374 : decode cL_law 1374 = .ok (.iadd, 1) := by decide +kernel
theorem dL_law_1375 : decode cL_law 1375 = .ok (.iaload, 1) := by decide +kernel
theorem dL_law_1376 : decode cL_law 1376 = .ok (.invokevirtual 139, 3) := by decide +kernel
theorem dL_law_1379 : decode cL_law 1379 = .ok (.aload_n 2, 1) := by decide +kernel
theorem dL_law_1380 : decode cL_law 1380 = .ok (.aload_n 0, 1) := by decide +kernel
theorem dL_law_1381 : decode cL_law 1381 = .ok (.iload_n 3, 1) := by decide +kernel
theorem dL_law_1382 : decode cL_law 1382 = .ok (.iconst 1, 1) := by decide +kernel
theorem dL_law_1383 : decode cL_law 1383 = .ok (.iadd, 1) := by decide +kernel
theorem dL_law_1384 : decode cL_law 1384 = .ok (.iaload, 1) := by decide +kernel
theorem dL_law_1385 : decode cL_law 1385 = .ok (.invokevirtual 142, 3) := by decide +kernel
theorem dL_law_1388 : decode cL_law 1388 = .ok (.if_icmp .eq 567, 3) := by decide +kernel
theorem dL_law_1393 : decode cL_law 1393 = .ok (.aload_n 1, 1) := by decide +kernel
theorem dL_law_1394 : decode cL_law 1394 = .ok (.aload_n 0, 1) := by decide +kernel
theorem dL_law_1395 : decode cL_law 1395 = .ok (.iload_n 3, 1) := by decide +kernel
theorem dL_law_1396 : decode cL_law 1396 = .ok (.iconst 1, 1) := by decide +kernel
theorem dL_law_1397 : decode cL_law 1397 = .ok (.iadd, 1) := by decide +kernel
theorem dL_law_1398 : decode cL_law 1398 = .ok (.iaload, 1) := by decide +kernel
theorem dL_law_1399 : decode cL_law 1399 = .ok (.invokevirtual 143, 3) := by decide +kernel
theorem dL_law_1402 : decode cL_law 1402 = .ok (.aload_n 2, 1) := by decide +kernel
theorem dL_law_1403 : decode cL_law 1403 = .ok (.aload_n 0, 1) := by decide +kernel
theorem dL_law_1404 : decode cL_law 1404 = .ok (.iload_n 3, 1) := by decide +kernel
theorem dL_law_1405 : decode cL_law 1405 = .ok (.iconst 1, 1) := by decide +kernel
theorem dL_law_1406 : decode cL_law 1406 = .ok (.iadd, 1) := by decide +kernel
theorem dL_law_1407 : decode cL_law 1407 = .ok (.iaload, 1) := by decide +kernel
theorem dL_law_1408 : decode cL_law 1408 = .ok (.invokevirtual 146, 3) := by decide +kernel
theorem dL_law_1411 : decode cL_law 1411 = .ok (.if_icmp .eq 544, 3) := by decide +kernel
theorem dL_law_1416 : decode cL_law 1416 = .ok (.aload_n 1, 1) := by decide +kernel
theorem dL_law_1417 : decode cL_law 1417 = .ok (.aload_n 0, 1) := by decide +kernel
theorem dL_law_1418 : decode cL_law 1418 = .ok (.iload_n 3, 1) := by decide +kernel
theorem dL_law_1419 : decode cL_law 1419 = .ok (.iconst 1, 1) := by decide +kernel
theorem dL_law_1420 : decode cL_law 1420 = .ok (.iadd, 1) := by decide +kernel
theorem dL_law_1421 : decode cL_law 1421 = .ok (.iaload, 1) := by decide +kernel
theorem dL_law_1422 : decode cL_law 1422 = .ok (.aload_n 0, 1) := by decide +kernel
theorem dL_law_1423 : decode cL_law 1423 = .ok (.iload_n 3, 1) := by decide +kernel
theorem dL_law_1424 : decode cL_law 1424 = .ok (.iconst 2, 1) := by decide +kernel
theorem dL_law_1425 : decode cL_law 1425 = .ok (.iadd, 1) := by decide +kernel
theorem dL_law_1426 : decode cL_law 1426 = .ok (.iaload, 1) := by decide +kernel
theorem dL_law_1427 : decode cL_law 1427 = .ok (.invokevirtual 147, 3) := by decide +kernel
theorem dL_law_1430 : decode cL_law 1430 = .ok (.aload_n 2, 1) := by decide +kernel
theorem dL_law_1431 : decode cL_law 1431 = .ok (.aload_n 0, 1) := by decide +kernel
theorem dL_law_1432 : decode cL_law 1432 = .ok (.iload_n 3, 1) := by decide +kernel
theorem dL_law_1433 : decode cL_law 1433 = .ok (.iconst 1, 1) := by decide +kernel
theorem dL_law_1434 : decode cL_law 1434 = .ok (.iadd, 1) := by decide +kernel
theorem dL_law_1435 : decode cL_law 1435 = .ok (.iaload, 1) := by decide +kernel
theorem dL_law_1436 : decode cL_law 1436 = .ok (.aload_n 0, 1) := by decide +kernel
theorem dL_law_1437 : decode cL_law 1437 = .ok (.iload_n 3, 1) := by decide +kernel
theorem dL_law_1438 : decode cL_law 1438 = .ok (.iconst 2, 1) := by decide +kernel
theorem dL_law_1439 : decode cL_law 1439 = .ok (.iadd, 1) := by decide +kernel
theorem dL_law_1440 : decode cL_law 1440 = .ok (.iaload, 1) := by decide +kernel
theorem dL_law_1441 : decode cL_law 1441 = .ok (.invokevirtual 150, 3) := by decide +kernel
theorem dL_law_1444 : decode cL_law 1444 = .ok (.if_icmp .eq 511, 3) := by decide +kernel
theorem dL_law_1449 : decode cL_law 1449 = .ok (.aload_n 1, 1) := by decide +kernel
theorem dL_law_1450 : decode cL_law 1450 = .ok (.aload_n 0, 1) := by decide +kernel
theorem dL_law_1451 : decode cL_law 1451 = .ok (.iload_n 3, 1) := by decide +kernel
theorem dL_law_1452 : decode cL_law 1452 = .ok (.iconst 1, 1) := by decide +kernel
theorem dL_law_1453 : decode cL_law 1453 = .ok (.iadd, 1) := by decide +kernel
theorem dL_law_1454 : decode cL_law 1454 = .ok (.iaload, 1) := by decide +kernel
theorem dL_law_1455 : decode cL_law 1455 = .ok (.aload_n 0, 1) := by decide +kernel
theorem dL_law_1456 : decode cL_law 1456 = .ok (.iload_n 3, 1) := by decide +kernel
theorem dL_law_1457 : decode cL_law 1457 = .ok (.iconst 2, 1) := by decide +kernel
theorem dL_law_1458 : decode cL_law 1458 = .ok (.iadd, 1) := by decide +kernel
theorem dL_law_1459 : decode cL_law 1459 = .ok (.iaload, 1) := by decide +kernel
theorem dL_law_1460 : decode cL_law 1460 = .ok (.invokevirtual 151, 3) := by decide +kernel
theorem dL_law_1463 : decode cL_law 1463 = .ok (.aload_n 2, 1) := by decide +kernel
theorem dL_law_1464 : decode cL_law 1464 = .ok (.aload_n 0, 1) := by decide +kernel
theorem dL_law_1465 : decode cL_law 1465 = .ok (.iload_n 3, 1) := by decide +kernel
theorem dL_law_1466 : decode cL_law 1466 = .ok (.iconst 1, 1) := by decide +kernel
theorem dL_law_1467 : decode cL_law 1467 = .ok (.iadd, 1) := by decide +kernel
theorem dL_law_1468 : decode cL_law 1468 = .ok (.iaload, 1) := by decide +kernel
theorem dL_law_1469 : decode cL_law 1469 = .ok (.aload_n 0, 1) := by decide +kernel
theorem dL_law_1470 : decode cL_law 1470 = .ok (.iload_n 3, 1) := by decide +kernel
theorem dL_law_1471 : decode cL_law 1471 = .ok (.iconst 2, 1) := by decide +kernel
theorem dL_law_1472 : decode cL_law 1472 = .ok (.iadd, 1) := by decide +kernel
theorem dL_law_1473 : decode cL_law 1473 = .ok (.iaload, 1) := by decide +kernel
theorem dL_law_1474 : decode cL_law 1474 = .ok (.invokevirtual 154, 3) := by decide +kernel
theorem dL_law_1477 : decode cL_law 1477 = .ok (.if_icmp .eq 478, 3) := by decide +kernel
theorem dL_law_1482 : decode cL_law 1482 = .ok (.aload_n 1, 1) := by decide +kernel
theorem dL_law_1483 : decode cL_law 1483 = .ok (.aload_n 0, 1) := by decide +kernel
theorem dL_law_1484 : decode cL_law 1484 = .ok (.iload_n 3, 1) := by decide +kernel
theorem dL_law_1485 : decode cL_law 1485 = .ok (.iconst 1, 1) := by decide +kernel
theorem dL_law_1486 : decode cL_law 1486 = .ok (.iadd, 1) := by decide +kernel
theorem dL_law_1487 : decode cL_law 1487 = .ok (.iaload, 1) := by decide +kernel
theorem dL_law_1488 : decode cL_law 1488 = .ok (.invokevirtual 155, 3) := by decide +kernel
theorem dL_law_1491 : decode cL_law 1491 = .ok (.aload_n 2, 1) := by decide +kernel
theorem dL_law_1492 : decode cL_law 1492 = .ok (.aload_n 0, 1) := by decide +kernel
theorem dL_law_1493 : decode cL_law 1493 = .ok (.iload_n 3, 1) := by decide +kernel
theorem dL_law_1494 : decode cL_law 1494 = .ok (.iconst 1, 1) := by decide +kernel
theorem dL_law_1495 : decode cL_law 1495 = .ok (.iadd, 1) := by decide +kernel
theorem dL_law_1496 : decode cL_law 1496 = .ok (.iaload, 1) := by decide +kernel
theorem dL_law_1497 : decode cL_law 1497 = .ok (.invokevirtual 158, 3) := by decide +kernel
theorem dL_law_1500 : decode cL_law 1500 = .ok (.if_icmp .eq 455, 3) := by decide +kernel
theorem dL_law_1505 : decode cL_law 1505 = .ok (.aload_n 1, 1) := by decide +kernel
theorem dL_law_1506 : decode cL_law 1506 = .ok (.aload_n 0, 1) := by decide +kernel
theorem dL_law_1507 : decode cL_law 1507 = .ok (.iload_n 3, 1) := by decide +kernel
theorem dL_law_1508 : decode cL_law 1508 = .ok (.iconst 1, 1) := by decide +kernel
theorem dL_law_1509 : decode cL_law 1509 = .ok (.iadd, 1) := by decide +kernel
theorem dL_law_1510 : decode cL_law 1510 = .ok (.iaload, 1) := by decide +kernel
theorem dL_law_1511 : decode cL_law 1511 = .ok (.invokevirtual 159, 3) := by decide +kernel
theorem dL_law_1514 : decode cL_law 1514 = .ok (.aload_n 2, 1) := by decide +kernel
theorem dL_law_1515 : decode cL_law 1515 = .ok (.aload_n 0, 1) := by decide +kernel
theorem dL_law_1516 : decode cL_law 1516 = .ok (.iload_n 3, 1) := by decide +kernel
theorem dL_law_1517 : decode cL_law 1517 = .ok (.iconst 1, 1) := by decide +kernel
theorem dL_law_1518 : decode cL_law 1518 = .ok (.iadd, 1) := by decide +kernel
theorem dL_law_1519 : decode cL_law 1519 = .ok (.iaload, 1) := by decide +kernel
theorem dL_law_1520 : decode cL_law 1520 = .ok (.invokevirtual 162, 3) := by decide +kernel
theorem dL_law_1523 : decode cL_law 1523 = .ok (.if_icmp .eq 432, 3) := by decide +kernel
theorem ok_X11_why : okM yX11_why cX11_why 4 (some .int) 3 := ⟨q_784, q_89, by decide +kernel, by decide +kernel, by decide +kernel⟩
theorem okv_X11_why : okV yX11_why := ⟨q_782, q_783⟩
theorem ok_X12_why : okM yX12_why cX12_why 4 (some .int) 3 := ⟨q_1783, q_103, by decide +kernel, by decide +kernel, by decide +kernel⟩
theorem okv_X12_why : okV yX12_why := ⟨q_1781, q_1782⟩
theorem ok_X11_line : okM yX11_line cX11_line 5 (some .int) 3 := ⟨q_789, q_89, by decide +kernel, by decide +kernel, by decide +kernel⟩
theorem okv_X11_line : okV yX11_line := ⟨q_787, q_788⟩
theorem ok_X12_line : okM yX12_line cX12_line 12 (some .int) 3 := ⟨q_1866, q_103, by decide +kernel, by decide +kernel, by decide +kernel⟩
theorem okv_X12_line : okV yX12_line := ⟨q_1864, q_1865⟩
theorem ok_X11_ramp : okM yX11_ramp cX11_ramp 7 (some .int) 2 := ⟨q_881, q_89, by decide +kernel, by decide +kernel, by decide +kernel⟩
theorem okv_X11_ramp : okV yX11_ramp := ⟨q_879, q_880⟩
theorem ok_X12_ramp : okM yX12_ramp cX12_ramp 5 (some .int) 2 := ⟨q_1902, q_103, by decide +kernel, by decide +kernel, by decide +kernel⟩
theorem okv_X12_ramp : okV yX12_ramp := ⟨q_1900, q_1901⟩
theorem ok_X11_cellOf : okM yX11_cellOf cX11_cellOf 3 (some .int) 2 := ⟨q_910, q_89, by decide +kernel, by decide +kernel, by decide +kernel⟩
theorem okv_X11_cellOf : okV yX11_cellOf := ⟨q_908, q_909⟩
theorem ok_X12_cellOf : okM yX12_cellOf cX12_cellOf 4 (some .int) 2 := ⟨q_1924, q_103, by decide +kernel, by decide +kernel, by decide +kernel⟩
theorem okv_X12_cellOf : okV yX12_cellOf := ⟨q_1922, q_1923⟩
theorem ok_X11_show : okM yX11_show cX11_show 7 (some .int) 1 := ⟨q_918, q_89, by decide +kernel, by decide +kernel, by decide +kernel⟩
theorem okv_X11_show : okV yX11_show := ⟨q_916, q_917⟩
theorem ok_X12_show : okM yX12_show cX12_show 8 (some .int) 1 := ⟨q_1932, q_103, by decide +kernel, by decide +kernel, by decide +kernel⟩
theorem okv_X12_show : okV yX12_show := ⟨q_1930, q_1931⟩
theorem ok_X11_take : okM yX11_take cX11_take 7 (some .int) 2 := ⟨q_958, q_89, by decide +kernel, by decide +kernel, by decide +kernel⟩
theorem okv_X11_take : okV yX11_take := ⟨q_956, q_957⟩
theorem ok_X12_take : okM yX12_take cX12_take 6 (some .int) 2 := ⟨q_1940, q_103, by decide +kernel, by decide +kernel, by decide +kernel⟩
theorem okv_X12_take : okV yX12_take := ⟨q_1938, q_1939⟩
theorem ok_X11_moved : okM yX11_moved cX11_moved 6 (some .int) 3 := ⟨q_978, q_89, by decide +kernel, by decide +kernel, by decide +kernel⟩
theorem okv_X11_moved : okV yX11_moved := ⟨q_976, q_977⟩
theorem ok_X12_moved : okM yX12_moved cX12_moved 5 (some .int) 3 := ⟨q_1948, q_103, by decide +kernel, by decide +kernel, by decide +kernel⟩
theorem okv_X12_moved : okV yX12_moved := ⟨q_1946, q_1947⟩
theorem ok_X11_grant : okM yX11_grant cX11_grant 4 (some .int) 2 := ⟨q_998, q_89, by decide +kernel, by decide +kernel, by decide +kernel⟩
theorem okv_X11_grant : okV yX11_grant := ⟨q_996, q_997⟩
theorem ok_X12_grant : okM yX12_grant cX12_grant 4 (some .int) 2 := ⟨q_1952, q_103, by decide +kernel, by decide +kernel, by decide +kernel⟩
theorem okv_X12_grant : okV yX12_grant := ⟨q_1950, q_1951⟩
theorem ok_X11_hearing : okM yX11_hearing cX11_hearing 6 (some .int) 4 := ⟨q_1006, q_89, by decide +kernel, by decide +kernel, by decide +kernel⟩
theorem okv_X11_hearing : okV yX11_hearing := ⟨q_1004, q_1005⟩
theorem ok_X12_hearing : okM yX12_hearing cX12_hearing 6 (some .int) 4 := ⟨q_1956, q_103, by decide +kernel, by decide +kernel, by decide +kernel⟩
theorem okv_X12_hearing : okV yX12_hearing := ⟨q_1954, q_1955⟩
theorem ok_X11_told : okM yX11_told cX11_told 3 (some .int) 2 := ⟨q_1014, q_89, by decide +kernel, by decide +kernel, by decide +kernel⟩
theorem okv_X11_told : okV yX11_told := ⟨q_1012, q_1013⟩
theorem ok_X12_told : okM yX12_told cX12_told 3 (some .int) 2 := ⟨q_1960, q_103, by decide +kernel, by decide +kernel, by decide +kernel⟩
theorem okv_X12_told : okV yX12_told := ⟨q_1958, q_1959⟩
theorem ok_X11_mark : okM yX11_mark cX11_mark 3 (some .int) 2 := ⟨q_1022, q_89, by decide +kernel, by decide +kernel, by decide +kernel⟩
theorem okv_X11_mark : okV yX11_mark := ⟨q_1020, q_1021⟩
theorem ok_X12_mark : okM yX12_mark cX12_mark 4 (some .int) 2 := ⟨q_1968, q_103, by decide +kernel, by decide +kernel, by decide +kernel⟩
theorem okv_X12_mark : okV yX12_mark := ⟨q_1966, q_1967⟩
theorem ok_X11_cost : okM yX11_cost cX11_cost 2 (some .int) 1 := ⟨q_1053, q_89, by decide +kernel, by decide +kernel, by decide +kernel⟩
theorem okv_X11_cost : okV yX11_cost := ⟨q_1051, q_1052⟩
theorem ok_X12_cost : okM yX12_cost cX12_cost 3 (some .int) 1 := ⟨q_1976, q_103, by decide +kernel, by decide +kernel, by decide +kernel⟩
theorem okv_X12_cost : okV yX12_cost := ⟨q_1974, q_1975⟩
theorem ok_X11_shown : okM yX11_shown cX11_shown 2 (some .int) 1 := ⟨q_1061, q_89, by decide +kernel, by decide +kernel, by decide +kernel⟩
theorem okv_X11_shown : okV yX11_shown := ⟨q_1059, q_1060⟩
theorem ok_X12_shown : okM yX12_shown cX12_shown 3 (some .int) 1 := ⟨q_1980, q_103, by decide +kernel, by decide +kernel, by decide +kernel⟩
theorem okv_X12_shown : okV yX12_shown := ⟨q_1978, q_1979⟩
theorem ok_X11_over : okM yX11_over cX11_over 2 (some .int) 1 := ⟨q_1065, q_89, by decide +kernel, by decide +kernel, by decide +kernel⟩
theorem okv_X11_over : okV yX11_over := ⟨q_1063, q_1064⟩
theorem ok_X12_over : okM yX12_over cX12_over 3 (some .int) 1 := ⟨q_1984, q_103, by decide +kernel, by decide +kernel, by decide +kernel⟩
theorem okv_X12_over : okV yX12_over := ⟨q_1982, q_1983⟩
theorem ok_X11_buy : okM yX11_buy cX11_buy 3 (some .int) 2 := ⟨q_1069, q_89, by decide +kernel, by decide +kernel, by decide +kernel⟩
theorem okv_X11_buy : okV yX11_buy := ⟨q_1067, q_1068⟩
theorem ok_X12_buy : okM yX12_buy cX12_buy 3 (some .int) 2 := ⟨q_1988, q_103, by decide +kernel, by decide +kernel, by decide +kernel⟩
theorem okv_X12_buy : okV yX12_buy := ⟨q_1986, q_1987⟩
theorem ok_X11_hear : okM yX11_hear cX11_hear 4 (some .int) 2 := ⟨q_1085, q_89, by decide +kernel, by decide +kernel, by decide +kernel⟩
theorem okv_X11_hear : okV yX11_hear := ⟨q_1083, q_1084⟩
theorem ok_X12_hear : okM yX12_hear cX12_hear 4 (some .int) 2 := ⟨q_1992, q_103, by decide +kernel, by decide +kernel, by decide +kernel⟩
theorem okv_X12_hear : okV yX12_hear := ⟨q_1990, q_1991⟩
theorem ok_X11_early : okM yX11_early cX11_early 5 (some .int) 1 := ⟨q_1101, q_89, by decide +kernel, by decide +kernel, by decide +kernel⟩
theorem okv_X11_early : okV yX11_early := ⟨q_1099, q_1100⟩
theorem ok_X12_early : okM yX12_early cX12_early 9 (some .int) 1 := ⟨q_2000, q_103, by decide +kernel, by decide +kernel, by decide +kernel⟩
theorem okv_X12_early : okV yX12_early := ⟨q_1998, q_1999⟩
theorem ok_X11_whither : okM yX11_whither cX11_whither 2 (some .int) 1 := ⟨q_1130, q_89, by decide +kernel, by decide +kernel, by decide +kernel⟩
theorem okv_X11_whither : okV yX11_whither := ⟨q_1128, q_1129⟩
theorem ok_X12_whither : okM yX12_whither cX12_whither 10 (some .int) 1 := ⟨q_2008, q_103, by decide +kernel, by decide +kernel, by decide +kernel⟩
theorem okv_X12_whither : okV yX12_whither := ⟨q_2006, q_2007⟩
set_option maxRecDepth 100000 in
theorem eq_why (g : GG) (x_x0 : Nat) (l0 : Int32) (d0 : Int32) (k0 : Int32) (x_xr : Nat) (x_xt : Nat) (x_xg : Nat) (x_xb : Nat) (x_xp : Nat) (x_xu : Nat) (x_xm : Nat) (x_xd : Nat) (x_xw : Nat) (x_xh : Nat) (x_xa : Nat) (x_xs : Nat) (x_xf : Nat) (x_xua0 : Nat) (x_xua1 : Nat) (x_xua2 : Nat) (y_m0 : Nat) (y_m0a1 : Nat) (y_m0a5 : Nat) (y_m0a6 : Nat) (y_m0a7 : Nat) (y_m0a8 : Nat) (y_m0a9 : Nat) (y_m0a11 : Nat) (y_m0a12 : Nat) (y_m0a13 : Nat) (y_m0a14 : Nat) (y_m0a15 : Nat) (y_m0a16 : Nat) (y_m0a18 : Nat) (y_m0a19 : Nat) (y_m0a20 : Nat) (y_m0a21 : Nat) (y_m0a22 : Nat) (y_m0a24 : Nat) (y_m0a25 : Nat) (y_m0a26 : Nat) (y_m0a28 : Nat) (y_m0a29 : Nat) (y_m0a30 : Nat) (y_m0a31 : Nat) (y_m0a33 : Nat) (y_m0a34 : Nat) (y_m0a35 : Nat) (y_m0a36 : Nat) (y_m0a37 : Nat) (y_m0a38 : Nat) (y_m0a39 : Nat) (y_m0a40 : Nat) (y_m0a41 : Nat) (y_m0a42 : Nat) (y_m0a43 : Nat) (y_m0a44 : Nat) (y_m0a45 : Nat) (y_m0a46 : Nat) (y_m0a47 : Nat) (y_m0a49 : Nat) (y_m0a50 : Nat) (y_m0a51 : Nat) (y_m0a53 : Nat) (y_m0a54 : Nat) (y_m0a55 : Nat) (y_m0a56 : Nat) (y_m0a57 : Nat) (y_m0a58 : Nat) (y_m0a59 : Nat) (y_m0a60 : Nat) (y_m0a61 : Nat) (y_m0a62 : Nat) (y_m0a63 : Nat) (y_m0a67 : Nat) (y_m0a68 : Nat) (y_m0a69 : Nat) (y_m0a70 : Nat) (y_m0a71 : Nat) (y_m0a72 : Nat) (y_m0a73 : Nat) (y_m0a74 : Nat) (y_m0a75 : Nat) : sp_X11_why g x_x0 l0 d0 k0 x_xr x_xt x_xg x_xb x_xp x_xu x_xm x_xd x_xw x_xh x_xa x_xs x_xf x_xua0 x_xua1 x_xua2 = sp_X12_why g y_m0 l0 d0 k0 y_m0a1 y_m0a5 y_m0a6 y_m0a7 y_m0a8 y_m0a9 y_m0a11 y_m0a12 y_m0a13 y_m0a14 y_m0a15 y_m0a16 y_m0a18 y_m0a19 y_m0a20 y_m0a21 y_m0a22 y_m0a24 y_m0a25 y_m0a26 y_m0a28 y_m0a29 y_m0a30 y_m0a31 y_m0a33 y_m0a34 y_m0a35 y_m0a36 y_m0a37 y_m0a38 y_m0a39 y_m0a40 y_m0a41 y_m0a42 y_m0a43 y_m0a44 y_m0a45 y_m0a46 y_m0a47 y_m0a49 y_m0a50 y_m0a51 y_m0a53 y_m0a54 y_m0a55 y_m0a56 y_m0a57 y_m0a58 y_m0a59 y_m0a60 y_m0a61 y_m0a62 y_m0a63 y_m0a67 y_m0a68 y_m0a69 y_m0a70 y_m0a71 y_m0a72 y_m0a73 y_m0a74 y_m0a75 := by
  unfold sp_X11_why sp_X12_why
  repeat' split
  all_goals first | rfl | (exfalso; simp only [i32lt, i32le, i32eq, Int32.reduceToInt] at *; omega)
set_option maxRecDepth 100000 in
theorem eq_line (g : GG) (x_x0 : Nat) (a : Int32) (b : Int32) (r : Int32) (x_xr : Nat) (x_xt : Nat) (x_xg : Nat) (x_xb : Nat) (x_xp : Nat) (x_xu : Nat) (x_xm : Nat) (x_xd : Nat) (x_xw : Nat) (x_xh : Nat) (x_xa : Nat) (x_xs : Nat) (x_xf : Nat) (x_xrs : Nat) (x_xrp : Nat) (x_xma0 : Nat) (x_xma1 : Nat) (x_xma2 : Nat) (x_xma3 : Nat) (x_xma4 : Nat) (x_xma5 : Nat) (x_xma6 : Nat) (x_xma7 : Nat) (x_xma8 : Nat) (x_xma9 : Nat) (x_xma10 : Nat) (x_xma11 : Nat) (x_xma12 : Nat) (y_m0 : Nat) (y_m0a1 : Nat) (y_m0a5 : Nat) (y_m0a6 : Nat) (y_m0a7 : Nat) (y_m0a8 : Nat) (y_m0a9 : Nat) (y_m0a11 : Nat) (y_m0a12 : Nat) (y_m0a13 : Nat) (y_m0a14 : Nat) (y_m0a15 : Nat) (y_m0a16 : Nat) (y_m0a18 : Nat) (y_m0a19 : Nat) (y_m0a20 : Nat) (y_m0a21 : Nat) (y_m0a22 : Nat) (y_m0a24 : Nat) (y_m0a25 : Nat) (y_m0a26 : Nat) (y_m0a28 : Nat) (y_m0a29 : Nat) (y_m0a30 : Nat) (y_m0a31 : Nat) (y_m0a33 : Nat) (y_m0a34 : Nat) (y_m0a35 : Nat) (y_m0a36 : Nat) (y_m0a37 : Nat) (y_m0a38 : Nat) (y_m0a39 : Nat) (y_m0a40 : Nat) (y_m0a41 : Nat) (y_m0a42 : Nat) (y_m0a43 : Nat) (y_m0a44 : Nat) (y_m0a45 : Nat) (y_m0a46 : Nat) (y_m0a47 : Nat) (y_m0a49 : Nat) (y_m0a50 : Nat) (y_m0a51 : Nat) (y_m0a53 : Nat) (y_m0a54 : Nat) (y_m0a55 : Nat) (y_m0a56 : Nat) (y_m0a57 : Nat) (y_m0a58 : Nat) (y_m0a59 : Nat) (y_m0a60 : Nat) (y_m0a61 : Nat) (y_m0a62 : Nat) (y_m0a63 : Nat) (y_m0a67 : Nat) (y_m0a68 : Nat) (y_m0a69 : Nat) (y_m0a70 : Nat) (y_m0a71 : Nat) (y_m0a72 : Nat) (y_m0a73 : Nat) (y_m0a74 : Nat) (y_m0a75 : Nat) : sp_X11_line g x_x0 a b r x_xr x_xt x_xg x_xb x_xp x_xu x_xm x_xd x_xw x_xh x_xa x_xs x_xf x_xrs x_xrp x_xma0 x_xma1 x_xma2 x_xma3 x_xma4 x_xma5 x_xma6 x_xma7 x_xma8 x_xma9 x_xma10 x_xma11 x_xma12 = sp_X12_line g y_m0 a b r y_m0a1 y_m0a5 y_m0a6 y_m0a7 y_m0a8 y_m0a9 y_m0a11 y_m0a12 y_m0a13 y_m0a14 y_m0a15 y_m0a16 y_m0a18 y_m0a19 y_m0a20 y_m0a21 y_m0a22 y_m0a24 y_m0a25 y_m0a26 y_m0a28 y_m0a29 y_m0a30 y_m0a31 y_m0a33 y_m0a34 y_m0a35 y_m0a36 y_m0a37 y_m0a38 y_m0a39 y_m0a40 y_m0a41 y_m0a42 y_m0a43 y_m0a44 y_m0a45 y_m0a46 y_m0a47 y_m0a49 y_m0a50 y_m0a51 y_m0a53 y_m0a54 y_m0a55 y_m0a56 y_m0a57 y_m0a58 y_m0a59 y_m0a60 y_m0a61 y_m0a62 y_m0a63 y_m0a67 y_m0a68 y_m0a69 y_m0a70 y_m0a71 y_m0a72 y_m0a73 y_m0a74 y_m0a75 := by
  unfold sp_X11_line sp_X12_line
  repeat' split
  all_goals first | rfl | (exfalso; simp only [i32lt, i32le, i32eq, Int32.reduceToInt] at *; omega)
set_option maxRecDepth 100000 in
theorem eq_ramp (g : GG) (x_x0 : Nat) (b0 : Int32) (b1 : Int32) (x_xr : Nat) (x_xt : Nat) (x_xg : Nat) (x_xb : Nat) (x_xp : Nat) (x_xu : Nat) (x_xm : Nat) (x_xd : Nat) (x_xw : Nat) (x_xh : Nat) (x_xa : Nat) (x_xs : Nat) (x_xf : Nat) (x_xma0 : Nat) (x_xma1 : Nat) (x_xma2 : Nat) (x_xma3 : Nat) (x_xma4 : Nat) (x_xma5 : Nat) (x_xma6 : Nat) (x_xma7 : Nat) (x_xma8 : Nat) (x_xma9 : Nat) (x_xma10 : Nat) (x_xma11 : Nat) (x_xma12 : Nat) (y_m0 : Nat) (y_m0a1 : Nat) (y_m0a5 : Nat) (y_m0a6 : Nat) (y_m0a7 : Nat) (y_m0a8 : Nat) (y_m0a9 : Nat) (y_m0a11 : Nat) (y_m0a12 : Nat) (y_m0a13 : Nat) (y_m0a14 : Nat) (y_m0a15 : Nat) (y_m0a16 : Nat) (y_m0a18 : Nat) (y_m0a19 : Nat) (y_m0a20 : Nat) (y_m0a21 : Nat) (y_m0a22 : Nat) (y_m0a24 : Nat) (y_m0a25 : Nat) (y_m0a26 : Nat) (y_m0a28 : Nat) (y_m0a29 : Nat) (y_m0a30 : Nat) (y_m0a31 : Nat) (y_m0a33 : Nat) (y_m0a34 : Nat) (y_m0a35 : Nat) (y_m0a36 : Nat) (y_m0a37 : Nat) (y_m0a38 : Nat) (y_m0a39 : Nat) (y_m0a40 : Nat) (y_m0a41 : Nat) (y_m0a42 : Nat) (y_m0a43 : Nat) (y_m0a44 : Nat) (y_m0a45 : Nat) (y_m0a46 : Nat) (y_m0a47 : Nat) (y_m0a49 : Nat) (y_m0a50 : Nat) (y_m0a51 : Nat) (y_m0a53 : Nat) (y_m0a54 : Nat) (y_m0a55 : Nat) (y_m0a56 : Nat) (y_m0a57 : Nat) (y_m0a58 : Nat) (y_m0a59 : Nat) (y_m0a60 : Nat) (y_m0a61 : Nat) (y_m0a62 : Nat) (y_m0a63 : Nat) (y_m0a67 : Nat) (y_m0a68 : Nat) (y_m0a69 : Nat) (y_m0a70 : Nat) (y_m0a71 : Nat) (y_m0a72 : Nat) (y_m0a73 : Nat) (y_m0a74 : Nat) (y_m0a75 : Nat) : sp_X11_ramp g x_x0 b0 b1 x_xr x_xt x_xg x_xb x_xp x_xu x_xm x_xd x_xw x_xh x_xa x_xs x_xf x_xma0 x_xma1 x_xma2 x_xma3 x_xma4 x_xma5 x_xma6 x_xma7 x_xma8 x_xma9 x_xma10 x_xma11 x_xma12 = sp_X12_ramp g y_m0 b0 b1 y_m0a1 y_m0a5 y_m0a6 y_m0a7 y_m0a8 y_m0a9 y_m0a11 y_m0a12 y_m0a13 y_m0a14 y_m0a15 y_m0a16 y_m0a18 y_m0a19 y_m0a20 y_m0a21 y_m0a22 y_m0a24 y_m0a25 y_m0a26 y_m0a28 y_m0a29 y_m0a30 y_m0a31 y_m0a33 y_m0a34 y_m0a35 y_m0a36 y_m0a37 y_m0a38 y_m0a39 y_m0a40 y_m0a41 y_m0a42 y_m0a43 y_m0a44 y_m0a45 y_m0a46 y_m0a47 y_m0a49 y_m0a50 y_m0a51 y_m0a53 y_m0a54 y_m0a55 y_m0a56 y_m0a57 y_m0a58 y_m0a59 y_m0a60 y_m0a61 y_m0a62 y_m0a63 y_m0a67 y_m0a68 y_m0a69 y_m0a70 y_m0a71 y_m0a72 y_m0a73 y_m0a74 y_m0a75 := by
  unfold sp_X11_ramp sp_X12_ramp
  repeat' split
  all_goals first | rfl | (exfalso; simp only [i32lt, i32le, i32eq, Int32.reduceToInt] at *; omega)
set_option maxRecDepth 100000 in
theorem eq_cellOf (g : GG) (x_x0 : Nat) (b0 : Int32) (b1 : Int32) (x_xr : Nat) (x_xt : Nat) (x_xg : Nat) (x_xb : Nat) (x_xp : Nat) (x_xu : Nat) (x_xm : Nat) (x_xd : Nat) (x_xw : Nat) (x_xh : Nat) (x_xa : Nat) (x_xs : Nat) (x_xf : Nat) (x_xma0 : Nat) (x_xma1 : Nat) (x_xma2 : Nat) (x_xma3 : Nat) (x_xma4 : Nat) (x_xma5 : Nat) (x_xma6 : Nat) (x_xma7 : Nat) (x_xma8 : Nat) (x_xma9 : Nat) (x_xma10 : Nat) (x_xma11 : Nat) (x_xma12 : Nat) (y_m0 : Nat) (y_m0a1 : Nat) (y_m0a5 : Nat) (y_m0a6 : Nat) (y_m0a7 : Nat) (y_m0a8 : Nat) (y_m0a9 : Nat) (y_m0a11 : Nat) (y_m0a12 : Nat) (y_m0a13 : Nat) (y_m0a14 : Nat) (y_m0a15 : Nat) (y_m0a16 : Nat) (y_m0a18 : Nat) (y_m0a19 : Nat) (y_m0a20 : Nat) (y_m0a21 : Nat) (y_m0a22 : Nat) (y_m0a24 : Nat) (y_m0a25 : Nat) (y_m0a26 : Nat) (y_m0a28 : Nat) (y_m0a29 : Nat) (y_m0a30 : Nat) (y_m0a31 : Nat) (y_m0a33 : Nat) (y_m0a34 : Nat) (y_m0a35 : Nat) (y_m0a36 : Nat) (y_m0a37 : Nat) (y_m0a38 : Nat) (y_m0a39 : Nat) (y_m0a40 : Nat) (y_m0a41 : Nat) (y_m0a42 : Nat) (y_m0a43 : Nat) (y_m0a44 : Nat) (y_m0a45 : Nat) (y_m0a46 : Nat) (y_m0a47 : Nat) (y_m0a49 : Nat) (y_m0a50 : Nat) (y_m0a51 : Nat) (y_m0a53 : Nat) (y_m0a54 : Nat) (y_m0a55 : Nat) (y_m0a56 : Nat) (y_m0a57 : Nat) (y_m0a58 : Nat) (y_m0a59 : Nat) (y_m0a60 : Nat) (y_m0a61 : Nat) (y_m0a62 : Nat) (y_m0a63 : Nat) (y_m0a67 : Nat) (y_m0a68 : Nat) (y_m0a69 : Nat) (y_m0a70 : Nat) (y_m0a71 : Nat) (y_m0a72 : Nat) (y_m0a73 : Nat) (y_m0a74 : Nat) (y_m0a75 : Nat) : sp_X11_cellOf g x_x0 b0 b1 x_xr x_xt x_xg x_xb x_xp x_xu x_xm x_xd x_xw x_xh x_xa x_xs x_xf x_xma0 x_xma1 x_xma2 x_xma3 x_xma4 x_xma5 x_xma6 x_xma7 x_xma8 x_xma9 x_xma10 x_xma11 x_xma12 = sp_X12_cellOf g y_m0 b0 b1 y_m0a1 y_m0a5 y_m0a6 y_m0a7 y_m0a8 y_m0a9 y_m0a11 y_m0a12 y_m0a13 y_m0a14 y_m0a15 y_m0a16 y_m0a18 y_m0a19 y_m0a20 y_m0a21 y_m0a22 y_m0a24 y_m0a25 y_m0a26 y_m0a28 y_m0a29 y_m0a30 y_m0a31 y_m0a33 y_m0a34 y_m0a35 y_m0a36 y_m0a37 y_m0a38 y_m0a39 y_m0a40 y_m0a41 y_m0a42 y_m0a43 y_m0a44 y_m0a45 y_m0a46 y_m0a47 y_m0a49 y_m0a50 y_m0a51 y_m0a53 y_m0a54 y_m0a55 y_m0a56 y_m0a57 y_m0a58 y_m0a59 y_m0a60 y_m0a61 y_m0a62 y_m0a63 y_m0a67 y_m0a68 y_m0a69 y_m0a70 y_m0a71 y_m0a72 y_m0a73 y_m0a74 y_m0a75 := by
  unfold sp_X11_cellOf sp_X12_cellOf
  repeat' split
  all_goals first | rfl | (exfalso; simp only [i32lt, i32le, i32eq, Int32.reduceToInt] at *; omega)
set_option maxRecDepth 100000 in
theorem eq_show (g : GG) (x_x0 : Nat) (b0 : Int32) (x_xr : Nat) (x_xt : Nat) (x_xg : Nat) (x_xb : Nat) (x_xp : Nat) (x_xu : Nat) (x_xm : Nat) (x_xd : Nat) (x_xw : Nat) (x_xh : Nat) (x_xa : Nat) (x_xs : Nat) (x_xf : Nat) (x_xma0 : Nat) (x_xma1 : Nat) (x_xma2 : Nat) (x_xma3 : Nat) (x_xma4 : Nat) (x_xma5 : Nat) (x_xma6 : Nat) (x_xma7 : Nat) (x_xma8 : Nat) (x_xma9 : Nat) (x_xma10 : Nat) (x_xma11 : Nat) (x_xma12 : Nat) (y_m0 : Nat) (y_m0a1 : Nat) (y_m0a5 : Nat) (y_m0a6 : Nat) (y_m0a7 : Nat) (y_m0a8 : Nat) (y_m0a9 : Nat) (y_m0a11 : Nat) (y_m0a12 : Nat) (y_m0a13 : Nat) (y_m0a14 : Nat) (y_m0a15 : Nat) (y_m0a16 : Nat) (y_m0a18 : Nat) (y_m0a19 : Nat) (y_m0a20 : Nat) (y_m0a21 : Nat) (y_m0a22 : Nat) (y_m0a24 : Nat) (y_m0a25 : Nat) (y_m0a26 : Nat) (y_m0a28 : Nat) (y_m0a29 : Nat) (y_m0a30 : Nat) (y_m0a31 : Nat) (y_m0a33 : Nat) (y_m0a34 : Nat) (y_m0a35 : Nat) (y_m0a36 : Nat) (y_m0a37 : Nat) (y_m0a38 : Nat) (y_m0a39 : Nat) (y_m0a40 : Nat) (y_m0a41 : Nat) (y_m0a42 : Nat) (y_m0a43 : Nat) (y_m0a44 : Nat) (y_m0a45 : Nat) (y_m0a46 : Nat) (y_m0a47 : Nat) (y_m0a49 : Nat) (y_m0a50 : Nat) (y_m0a51 : Nat) (y_m0a53 : Nat) (y_m0a54 : Nat) (y_m0a55 : Nat) (y_m0a56 : Nat) (y_m0a57 : Nat) (y_m0a58 : Nat) (y_m0a59 : Nat) (y_m0a60 : Nat) (y_m0a61 : Nat) (y_m0a62 : Nat) (y_m0a63 : Nat) (y_m0a67 : Nat) (y_m0a68 : Nat) (y_m0a69 : Nat) (y_m0a70 : Nat) (y_m0a71 : Nat) (y_m0a72 : Nat) (y_m0a73 : Nat) (y_m0a74 : Nat) (y_m0a75 : Nat) : sp_X11_show g x_x0 b0 x_xr x_xt x_xg x_xb x_xp x_xu x_xm x_xd x_xw x_xh x_xa x_xs x_xf x_xma0 x_xma1 x_xma2 x_xma3 x_xma4 x_xma5 x_xma6 x_xma7 x_xma8 x_xma9 x_xma10 x_xma11 x_xma12 = sp_X12_show g y_m0 b0 y_m0a1 y_m0a5 y_m0a6 y_m0a7 y_m0a8 y_m0a9 y_m0a11 y_m0a12 y_m0a13 y_m0a14 y_m0a15 y_m0a16 y_m0a18 y_m0a19 y_m0a20 y_m0a21 y_m0a22 y_m0a24 y_m0a25 y_m0a26 y_m0a28 y_m0a29 y_m0a30 y_m0a31 y_m0a33 y_m0a34 y_m0a35 y_m0a36 y_m0a37 y_m0a38 y_m0a39 y_m0a40 y_m0a41 y_m0a42 y_m0a43 y_m0a44 y_m0a45 y_m0a46 y_m0a47 y_m0a49 y_m0a50 y_m0a51 y_m0a53 y_m0a54 y_m0a55 y_m0a56 y_m0a57 y_m0a58 y_m0a59 y_m0a60 y_m0a61 y_m0a62 y_m0a63 y_m0a67 y_m0a68 y_m0a69 y_m0a70 y_m0a71 y_m0a72 y_m0a73 y_m0a74 y_m0a75 := by
  unfold sp_X11_show sp_X12_show
  repeat' split
  all_goals first | rfl | (exfalso; simp only [i32lt, i32le, i32eq, Int32.reduceToInt] at *; omega)
set_option maxRecDepth 100000 in
theorem eq_take (g : GG) (x_x0 : Nat) (b0 : Int32) (b1 : Int32) (x_xr : Nat) (x_xt : Nat) (x_xg : Nat) (x_xb : Nat) (x_xp : Nat) (x_xu : Nat) (x_xm : Nat) (x_xd : Nat) (x_xw : Nat) (x_xh : Nat) (x_xa : Nat) (x_xs : Nat) (x_xf : Nat) (x_xba0 : Nat) (x_xba1 : Nat) (x_xba2 : Nat) (x_xba3 : Nat) (x_xba4 : Nat) (x_xba5 : Nat) (x_xba6 : Nat) (x_xba7 : Nat) (x_xba8 : Nat) (x_xba9 : Nat) (x_xba10 : Nat) (x_xba11 : Nat) (y_m0 : Nat) (y_m0a1 : Nat) (y_m0a5 : Nat) (y_m0a6 : Nat) (y_m0a7 : Nat) (y_m0a8 : Nat) (y_m0a9 : Nat) (y_m0a11 : Nat) (y_m0a12 : Nat) (y_m0a13 : Nat) (y_m0a14 : Nat) (y_m0a15 : Nat) (y_m0a16 : Nat) (y_m0a18 : Nat) (y_m0a19 : Nat) (y_m0a20 : Nat) (y_m0a21 : Nat) (y_m0a22 : Nat) (y_m0a24 : Nat) (y_m0a25 : Nat) (y_m0a26 : Nat) (y_m0a28 : Nat) (y_m0a29 : Nat) (y_m0a30 : Nat) (y_m0a31 : Nat) (y_m0a33 : Nat) (y_m0a34 : Nat) (y_m0a35 : Nat) (y_m0a36 : Nat) (y_m0a37 : Nat) (y_m0a38 : Nat) (y_m0a39 : Nat) (y_m0a40 : Nat) (y_m0a41 : Nat) (y_m0a42 : Nat) (y_m0a43 : Nat) (y_m0a44 : Nat) (y_m0a45 : Nat) (y_m0a46 : Nat) (y_m0a47 : Nat) (y_m0a49 : Nat) (y_m0a50 : Nat) (y_m0a51 : Nat) (y_m0a53 : Nat) (y_m0a54 : Nat) (y_m0a55 : Nat) (y_m0a56 : Nat) (y_m0a57 : Nat) (y_m0a58 : Nat) (y_m0a59 : Nat) (y_m0a60 : Nat) (y_m0a61 : Nat) (y_m0a62 : Nat) (y_m0a63 : Nat) (y_m0a67 : Nat) (y_m0a68 : Nat) (y_m0a69 : Nat) (y_m0a70 : Nat) (y_m0a71 : Nat) (y_m0a72 : Nat) (y_m0a73 : Nat) (y_m0a74 : Nat) (y_m0a75 : Nat) : sp_X11_take g x_x0 b0 b1 x_xr x_xt x_xg x_xb x_xp x_xu x_xm x_xd x_xw x_xh x_xa x_xs x_xf x_xba0 x_xba1 x_xba2 x_xba3 x_xba4 x_xba5 x_xba6 x_xba7 x_xba8 x_xba9 x_xba10 x_xba11 = sp_X12_take g y_m0 b0 b1 y_m0a1 y_m0a5 y_m0a6 y_m0a7 y_m0a8 y_m0a9 y_m0a11 y_m0a12 y_m0a13 y_m0a14 y_m0a15 y_m0a16 y_m0a18 y_m0a19 y_m0a20 y_m0a21 y_m0a22 y_m0a24 y_m0a25 y_m0a26 y_m0a28 y_m0a29 y_m0a30 y_m0a31 y_m0a33 y_m0a34 y_m0a35 y_m0a36 y_m0a37 y_m0a38 y_m0a39 y_m0a40 y_m0a41 y_m0a42 y_m0a43 y_m0a44 y_m0a45 y_m0a46 y_m0a47 y_m0a49 y_m0a50 y_m0a51 y_m0a53 y_m0a54 y_m0a55 y_m0a56 y_m0a57 y_m0a58 y_m0a59 y_m0a60 y_m0a61 y_m0a62 y_m0a63 y_m0a67 y_m0a68 y_m0a69 y_m0a70 y_m0a71 y_m0a72 y_m0a73 y_m0a74 y_m0a75 := by
  unfold sp_X11_take sp_X12_take
  repeat' split
  all_goals first | rfl | (exfalso; simp only [i32lt, i32le, i32eq, Int32.reduceToInt] at *; omega)
set_option maxRecDepth 100000 in
theorem eq_moved (g : GG) (x_x0 : Nat) (b0 : Int32) (b1 : Int32) (b2 : Int32) (x_xr : Nat) (x_xt : Nat) (x_xg : Nat) (x_xb : Nat) (x_xp : Nat) (x_xu : Nat) (x_xm : Nat) (x_xd : Nat) (x_xw : Nat) (x_xh : Nat) (x_xa : Nat) (x_xs : Nat) (x_xf : Nat) (x_xma0 : Nat) (x_xma1 : Nat) (x_xma2 : Nat) (x_xma3 : Nat) (x_xma4 : Nat) (x_xma5 : Nat) (x_xma6 : Nat) (x_xma7 : Nat) (x_xma8 : Nat) (x_xma9 : Nat) (x_xma10 : Nat) (x_xma11 : Nat) (x_xma12 : Nat) (y_m0 : Nat) (y_m0a1 : Nat) (y_m0a5 : Nat) (y_m0a6 : Nat) (y_m0a7 : Nat) (y_m0a8 : Nat) (y_m0a9 : Nat) (y_m0a11 : Nat) (y_m0a12 : Nat) (y_m0a13 : Nat) (y_m0a14 : Nat) (y_m0a15 : Nat) (y_m0a16 : Nat) (y_m0a18 : Nat) (y_m0a19 : Nat) (y_m0a20 : Nat) (y_m0a21 : Nat) (y_m0a22 : Nat) (y_m0a24 : Nat) (y_m0a25 : Nat) (y_m0a26 : Nat) (y_m0a28 : Nat) (y_m0a29 : Nat) (y_m0a30 : Nat) (y_m0a31 : Nat) (y_m0a33 : Nat) (y_m0a34 : Nat) (y_m0a35 : Nat) (y_m0a36 : Nat) (y_m0a37 : Nat) (y_m0a38 : Nat) (y_m0a39 : Nat) (y_m0a40 : Nat) (y_m0a41 : Nat) (y_m0a42 : Nat) (y_m0a43 : Nat) (y_m0a44 : Nat) (y_m0a45 : Nat) (y_m0a46 : Nat) (y_m0a47 : Nat) (y_m0a49 : Nat) (y_m0a50 : Nat) (y_m0a51 : Nat) (y_m0a53 : Nat) (y_m0a54 : Nat) (y_m0a55 : Nat) (y_m0a56 : Nat) (y_m0a57 : Nat) (y_m0a58 : Nat) (y_m0a59 : Nat) (y_m0a60 : Nat) (y_m0a61 : Nat) (y_m0a62 : Nat) (y_m0a63 : Nat) (y_m0a67 : Nat) (y_m0a68 : Nat) (y_m0a69 : Nat) (y_m0a70 : Nat) (y_m0a71 : Nat) (y_m0a72 : Nat) (y_m0a73 : Nat) (y_m0a74 : Nat) (y_m0a75 : Nat) : sp_X11_moved g x_x0 b0 b1 b2 x_xr x_xt x_xg x_xb x_xp x_xu x_xm x_xd x_xw x_xh x_xa x_xs x_xf x_xma0 x_xma1 x_xma2 x_xma3 x_xma4 x_xma5 x_xma6 x_xma7 x_xma8 x_xma9 x_xma10 x_xma11 x_xma12 = sp_X12_moved g y_m0 b0 b1 b2 y_m0a1 y_m0a5 y_m0a6 y_m0a7 y_m0a8 y_m0a9 y_m0a11 y_m0a12 y_m0a13 y_m0a14 y_m0a15 y_m0a16 y_m0a18 y_m0a19 y_m0a20 y_m0a21 y_m0a22 y_m0a24 y_m0a25 y_m0a26 y_m0a28 y_m0a29 y_m0a30 y_m0a31 y_m0a33 y_m0a34 y_m0a35 y_m0a36 y_m0a37 y_m0a38 y_m0a39 y_m0a40 y_m0a41 y_m0a42 y_m0a43 y_m0a44 y_m0a45 y_m0a46 y_m0a47 y_m0a49 y_m0a50 y_m0a51 y_m0a53 y_m0a54 y_m0a55 y_m0a56 y_m0a57 y_m0a58 y_m0a59 y_m0a60 y_m0a61 y_m0a62 y_m0a63 y_m0a67 y_m0a68 y_m0a69 y_m0a70 y_m0a71 y_m0a72 y_m0a73 y_m0a74 y_m0a75 := by
  unfold sp_X11_moved sp_X12_moved
  repeat' split
  all_goals first | rfl | (exfalso; simp only [i32lt, i32le, i32eq, Int32.reduceToInt] at *; omega)
set_option maxRecDepth 100000 in
theorem eq_grant (g : GG) (x_x0 : Nat) (n : Int32) (d0 : Int32) (x_xr : Nat) (x_xt : Nat) (x_xg : Nat) (x_xb : Nat) (x_xp : Nat) (x_xu : Nat) (x_xm : Nat) (x_xd : Nat) (x_xw : Nat) (x_xh : Nat) (x_xa : Nat) (x_xs : Nat) (x_xf : Nat) (x_xma0 : Nat) (x_xma1 : Nat) (x_xma2 : Nat) (x_xma3 : Nat) (x_xma4 : Nat) (x_xma5 : Nat) (x_xma6 : Nat) (x_xma7 : Nat) (x_xma8 : Nat) (x_xma9 : Nat) (x_xma10 : Nat) (x_xma11 : Nat) (x_xma12 : Nat) (y_m0 : Nat) (y_m0a1 : Nat) (y_m0a5 : Nat) (y_m0a6 : Nat) (y_m0a7 : Nat) (y_m0a8 : Nat) (y_m0a9 : Nat) (y_m0a11 : Nat) (y_m0a12 : Nat) (y_m0a13 : Nat) (y_m0a14 : Nat) (y_m0a15 : Nat) (y_m0a16 : Nat) (y_m0a18 : Nat) (y_m0a19 : Nat) (y_m0a20 : Nat) (y_m0a21 : Nat) (y_m0a22 : Nat) (y_m0a24 : Nat) (y_m0a25 : Nat) (y_m0a26 : Nat) (y_m0a28 : Nat) (y_m0a29 : Nat) (y_m0a30 : Nat) (y_m0a31 : Nat) (y_m0a33 : Nat) (y_m0a34 : Nat) (y_m0a35 : Nat) (y_m0a36 : Nat) (y_m0a37 : Nat) (y_m0a38 : Nat) (y_m0a39 : Nat) (y_m0a40 : Nat) (y_m0a41 : Nat) (y_m0a42 : Nat) (y_m0a43 : Nat) (y_m0a44 : Nat) (y_m0a45 : Nat) (y_m0a46 : Nat) (y_m0a47 : Nat) (y_m0a49 : Nat) (y_m0a50 : Nat) (y_m0a51 : Nat) (y_m0a53 : Nat) (y_m0a54 : Nat) (y_m0a55 : Nat) (y_m0a56 : Nat) (y_m0a57 : Nat) (y_m0a58 : Nat) (y_m0a59 : Nat) (y_m0a60 : Nat) (y_m0a61 : Nat) (y_m0a62 : Nat) (y_m0a63 : Nat) (y_m0a67 : Nat) (y_m0a68 : Nat) (y_m0a69 : Nat) (y_m0a70 : Nat) (y_m0a71 : Nat) (y_m0a72 : Nat) (y_m0a73 : Nat) (y_m0a74 : Nat) (y_m0a75 : Nat) : sp_X11_grant g x_x0 n d0 x_xr x_xt x_xg x_xb x_xp x_xu x_xm x_xd x_xw x_xh x_xa x_xs x_xf x_xma0 x_xma1 x_xma2 x_xma3 x_xma4 x_xma5 x_xma6 x_xma7 x_xma8 x_xma9 x_xma10 x_xma11 x_xma12 = sp_X12_grant g y_m0 n d0 y_m0a1 y_m0a5 y_m0a6 y_m0a7 y_m0a8 y_m0a9 y_m0a11 y_m0a12 y_m0a13 y_m0a14 y_m0a15 y_m0a16 y_m0a18 y_m0a19 y_m0a20 y_m0a21 y_m0a22 y_m0a24 y_m0a25 y_m0a26 y_m0a28 y_m0a29 y_m0a30 y_m0a31 y_m0a33 y_m0a34 y_m0a35 y_m0a36 y_m0a37 y_m0a38 y_m0a39 y_m0a40 y_m0a41 y_m0a42 y_m0a43 y_m0a44 y_m0a45 y_m0a46 y_m0a47 y_m0a49 y_m0a50 y_m0a51 y_m0a53 y_m0a54 y_m0a55 y_m0a56 y_m0a57 y_m0a58 y_m0a59 y_m0a60 y_m0a61 y_m0a62 y_m0a63 y_m0a67 y_m0a68 y_m0a69 y_m0a70 y_m0a71 y_m0a72 y_m0a73 y_m0a74 y_m0a75 := by
  unfold sp_X11_grant sp_X12_grant
  repeat' split
  all_goals first | rfl | (exfalso; simp only [i32lt, i32le, i32eq, Int32.reduceToInt] at *; omega)
set_option maxRecDepth 100000 in
theorem eq_hearing (g : GG) (x_x0 : Nat) (b0 : Int32) (b1 : Int32) (b2 : Int32) (b3 : Int32) (x_xr : Nat) (x_xt : Nat) (x_xg : Nat) (x_xb : Nat) (x_xp : Nat) (x_xu : Nat) (x_xm : Nat) (x_xd : Nat) (x_xw : Nat) (x_xh : Nat) (x_xa : Nat) (x_xs : Nat) (x_xf : Nat) (x_xma0 : Nat) (x_xma1 : Nat) (x_xma2 : Nat) (x_xma3 : Nat) (x_xma4 : Nat) (x_xma5 : Nat) (x_xma6 : Nat) (x_xma7 : Nat) (x_xma8 : Nat) (x_xma9 : Nat) (x_xma10 : Nat) (x_xma11 : Nat) (x_xma12 : Nat) (y_m0 : Nat) (y_m0a1 : Nat) (y_m0a5 : Nat) (y_m0a6 : Nat) (y_m0a7 : Nat) (y_m0a8 : Nat) (y_m0a9 : Nat) (y_m0a11 : Nat) (y_m0a12 : Nat) (y_m0a13 : Nat) (y_m0a14 : Nat) (y_m0a15 : Nat) (y_m0a16 : Nat) (y_m0a18 : Nat) (y_m0a19 : Nat) (y_m0a20 : Nat) (y_m0a21 : Nat) (y_m0a22 : Nat) (y_m0a24 : Nat) (y_m0a25 : Nat) (y_m0a26 : Nat) (y_m0a28 : Nat) (y_m0a29 : Nat) (y_m0a30 : Nat) (y_m0a31 : Nat) (y_m0a33 : Nat) (y_m0a34 : Nat) (y_m0a35 : Nat) (y_m0a36 : Nat) (y_m0a37 : Nat) (y_m0a38 : Nat) (y_m0a39 : Nat) (y_m0a40 : Nat) (y_m0a41 : Nat) (y_m0a42 : Nat) (y_m0a43 : Nat) (y_m0a44 : Nat) (y_m0a45 : Nat) (y_m0a46 : Nat) (y_m0a47 : Nat) (y_m0a49 : Nat) (y_m0a50 : Nat) (y_m0a51 : Nat) (y_m0a53 : Nat) (y_m0a54 : Nat) (y_m0a55 : Nat) (y_m0a56 : Nat) (y_m0a57 : Nat) (y_m0a58 : Nat) (y_m0a59 : Nat) (y_m0a60 : Nat) (y_m0a61 : Nat) (y_m0a62 : Nat) (y_m0a63 : Nat) (y_m0a67 : Nat) (y_m0a68 : Nat) (y_m0a69 : Nat) (y_m0a70 : Nat) (y_m0a71 : Nat) (y_m0a72 : Nat) (y_m0a73 : Nat) (y_m0a74 : Nat) (y_m0a75 : Nat) : sp_X11_hearing g x_x0 b0 b1 b2 b3 x_xr x_xt x_xg x_xb x_xp x_xu x_xm x_xd x_xw x_xh x_xa x_xs x_xf x_xma0 x_xma1 x_xma2 x_xma3 x_xma4 x_xma5 x_xma6 x_xma7 x_xma8 x_xma9 x_xma10 x_xma11 x_xma12 = sp_X12_hearing g y_m0 b0 b1 b2 b3 y_m0a1 y_m0a5 y_m0a6 y_m0a7 y_m0a8 y_m0a9 y_m0a11 y_m0a12 y_m0a13 y_m0a14 y_m0a15 y_m0a16 y_m0a18 y_m0a19 y_m0a20 y_m0a21 y_m0a22 y_m0a24 y_m0a25 y_m0a26 y_m0a28 y_m0a29 y_m0a30 y_m0a31 y_m0a33 y_m0a34 y_m0a35 y_m0a36 y_m0a37 y_m0a38 y_m0a39 y_m0a40 y_m0a41 y_m0a42 y_m0a43 y_m0a44 y_m0a45 y_m0a46 y_m0a47 y_m0a49 y_m0a50 y_m0a51 y_m0a53 y_m0a54 y_m0a55 y_m0a56 y_m0a57 y_m0a58 y_m0a59 y_m0a60 y_m0a61 y_m0a62 y_m0a63 y_m0a67 y_m0a68 y_m0a69 y_m0a70 y_m0a71 y_m0a72 y_m0a73 y_m0a74 y_m0a75 := by
  unfold sp_X11_hearing sp_X12_hearing
  repeat' split
  all_goals first | rfl | (exfalso; simp only [i32lt, i32le, i32eq, Int32.reduceToInt] at *; omega)
set_option maxRecDepth 100000 in
theorem eq_told (g : GG) (x_x0 : Nat) (b0 : Int32) (b1 : Int32) (x_xr : Nat) (x_xt : Nat) (x_xg : Nat) (x_xb : Nat) (x_xp : Nat) (x_xu : Nat) (x_xm : Nat) (x_xd : Nat) (x_xw : Nat) (x_xh : Nat) (x_xa : Nat) (x_xs : Nat) (x_xf : Nat) (x_xma0 : Nat) (x_xma1 : Nat) (x_xma2 : Nat) (x_xma3 : Nat) (x_xma4 : Nat) (x_xma5 : Nat) (x_xma6 : Nat) (x_xma7 : Nat) (x_xma8 : Nat) (x_xma9 : Nat) (x_xma10 : Nat) (x_xma11 : Nat) (x_xma12 : Nat) (y_m0 : Nat) (y_m0a1 : Nat) (y_m0a5 : Nat) (y_m0a6 : Nat) (y_m0a7 : Nat) (y_m0a8 : Nat) (y_m0a9 : Nat) (y_m0a11 : Nat) (y_m0a12 : Nat) (y_m0a13 : Nat) (y_m0a14 : Nat) (y_m0a15 : Nat) (y_m0a16 : Nat) (y_m0a18 : Nat) (y_m0a19 : Nat) (y_m0a20 : Nat) (y_m0a21 : Nat) (y_m0a22 : Nat) (y_m0a24 : Nat) (y_m0a25 : Nat) (y_m0a26 : Nat) (y_m0a28 : Nat) (y_m0a29 : Nat) (y_m0a30 : Nat) (y_m0a31 : Nat) (y_m0a33 : Nat) (y_m0a34 : Nat) (y_m0a35 : Nat) (y_m0a36 : Nat) (y_m0a37 : Nat) (y_m0a38 : Nat) (y_m0a39 : Nat) (y_m0a40 : Nat) (y_m0a41 : Nat) (y_m0a42 : Nat) (y_m0a43 : Nat) (y_m0a44 : Nat) (y_m0a45 : Nat) (y_m0a46 : Nat) (y_m0a47 : Nat) (y_m0a49 : Nat) (y_m0a50 : Nat) (y_m0a51 : Nat) (y_m0a53 : Nat) (y_m0a54 : Nat) (y_m0a55 : Nat) (y_m0a56 : Nat) (y_m0a57 : Nat) (y_m0a58 : Nat) (y_m0a59 : Nat) (y_m0a60 : Nat) (y_m0a61 : Nat) (y_m0a62 : Nat) (y_m0a63 : Nat) (y_m0a67 : Nat) (y_m0a68 : Nat) (y_m0a69 : Nat) (y_m0a70 : Nat) (y_m0a71 : Nat) (y_m0a72 : Nat) (y_m0a73 : Nat) (y_m0a74 : Nat) (y_m0a75 : Nat) : sp_X11_told g x_x0 b0 b1 x_xr x_xt x_xg x_xb x_xp x_xu x_xm x_xd x_xw x_xh x_xa x_xs x_xf x_xma0 x_xma1 x_xma2 x_xma3 x_xma4 x_xma5 x_xma6 x_xma7 x_xma8 x_xma9 x_xma10 x_xma11 x_xma12 = sp_X12_told g y_m0 b0 b1 y_m0a1 y_m0a5 y_m0a6 y_m0a7 y_m0a8 y_m0a9 y_m0a11 y_m0a12 y_m0a13 y_m0a14 y_m0a15 y_m0a16 y_m0a18 y_m0a19 y_m0a20 y_m0a21 y_m0a22 y_m0a24 y_m0a25 y_m0a26 y_m0a28 y_m0a29 y_m0a30 y_m0a31 y_m0a33 y_m0a34 y_m0a35 y_m0a36 y_m0a37 y_m0a38 y_m0a39 y_m0a40 y_m0a41 y_m0a42 y_m0a43 y_m0a44 y_m0a45 y_m0a46 y_m0a47 y_m0a49 y_m0a50 y_m0a51 y_m0a53 y_m0a54 y_m0a55 y_m0a56 y_m0a57 y_m0a58 y_m0a59 y_m0a60 y_m0a61 y_m0a62 y_m0a63 y_m0a67 y_m0a68 y_m0a69 y_m0a70 y_m0a71 y_m0a72 y_m0a73 y_m0a74 y_m0a75 := by
  unfold sp_X11_told sp_X12_told
  repeat' split
  all_goals first | rfl | (exfalso; simp only [i32lt, i32le, i32eq, Int32.reduceToInt] at *; omega)
set_option maxRecDepth 100000 in
theorem eq_mark (g : GG) (x_x0 : Nat) (b0 : Int32) (b1 : Int32) (x_xr : Nat) (x_xt : Nat) (x_xg : Nat) (x_xb : Nat) (x_xp : Nat) (x_xu : Nat) (x_xm : Nat) (x_xd : Nat) (x_xw : Nat) (x_xh : Nat) (x_xa : Nat) (x_xs : Nat) (x_xf : Nat) (x_xma0 : Nat) (x_xma1 : Nat) (x_xma2 : Nat) (x_xma3 : Nat) (x_xma4 : Nat) (x_xma5 : Nat) (x_xma6 : Nat) (x_xma7 : Nat) (x_xma8 : Nat) (x_xma9 : Nat) (x_xma10 : Nat) (x_xma11 : Nat) (x_xma12 : Nat) (y_m0 : Nat) (y_m0a1 : Nat) (y_m0a5 : Nat) (y_m0a6 : Nat) (y_m0a7 : Nat) (y_m0a8 : Nat) (y_m0a9 : Nat) (y_m0a11 : Nat) (y_m0a12 : Nat) (y_m0a13 : Nat) (y_m0a14 : Nat) (y_m0a15 : Nat) (y_m0a16 : Nat) (y_m0a18 : Nat) (y_m0a19 : Nat) (y_m0a20 : Nat) (y_m0a21 : Nat) (y_m0a22 : Nat) (y_m0a24 : Nat) (y_m0a25 : Nat) (y_m0a26 : Nat) (y_m0a28 : Nat) (y_m0a29 : Nat) (y_m0a30 : Nat) (y_m0a31 : Nat) (y_m0a33 : Nat) (y_m0a34 : Nat) (y_m0a35 : Nat) (y_m0a36 : Nat) (y_m0a37 : Nat) (y_m0a38 : Nat) (y_m0a39 : Nat) (y_m0a40 : Nat) (y_m0a41 : Nat) (y_m0a42 : Nat) (y_m0a43 : Nat) (y_m0a44 : Nat) (y_m0a45 : Nat) (y_m0a46 : Nat) (y_m0a47 : Nat) (y_m0a49 : Nat) (y_m0a50 : Nat) (y_m0a51 : Nat) (y_m0a53 : Nat) (y_m0a54 : Nat) (y_m0a55 : Nat) (y_m0a56 : Nat) (y_m0a57 : Nat) (y_m0a58 : Nat) (y_m0a59 : Nat) (y_m0a60 : Nat) (y_m0a61 : Nat) (y_m0a62 : Nat) (y_m0a63 : Nat) (y_m0a67 : Nat) (y_m0a68 : Nat) (y_m0a69 : Nat) (y_m0a70 : Nat) (y_m0a71 : Nat) (y_m0a72 : Nat) (y_m0a73 : Nat) (y_m0a74 : Nat) (y_m0a75 : Nat) : sp_X11_mark g x_x0 b0 b1 x_xr x_xt x_xg x_xb x_xp x_xu x_xm x_xd x_xw x_xh x_xa x_xs x_xf x_xma0 x_xma1 x_xma2 x_xma3 x_xma4 x_xma5 x_xma6 x_xma7 x_xma8 x_xma9 x_xma10 x_xma11 x_xma12 = sp_X12_mark g y_m0 b0 b1 y_m0a1 y_m0a5 y_m0a6 y_m0a7 y_m0a8 y_m0a9 y_m0a11 y_m0a12 y_m0a13 y_m0a14 y_m0a15 y_m0a16 y_m0a18 y_m0a19 y_m0a20 y_m0a21 y_m0a22 y_m0a24 y_m0a25 y_m0a26 y_m0a28 y_m0a29 y_m0a30 y_m0a31 y_m0a33 y_m0a34 y_m0a35 y_m0a36 y_m0a37 y_m0a38 y_m0a39 y_m0a40 y_m0a41 y_m0a42 y_m0a43 y_m0a44 y_m0a45 y_m0a46 y_m0a47 y_m0a49 y_m0a50 y_m0a51 y_m0a53 y_m0a54 y_m0a55 y_m0a56 y_m0a57 y_m0a58 y_m0a59 y_m0a60 y_m0a61 y_m0a62 y_m0a63 y_m0a67 y_m0a68 y_m0a69 y_m0a70 y_m0a71 y_m0a72 y_m0a73 y_m0a74 y_m0a75 := by
  unfold sp_X11_mark sp_X12_mark
  repeat' split
  all_goals first | rfl | (exfalso; simp only [i32lt, i32le, i32eq, Int32.reduceToInt] at *; omega)
set_option maxRecDepth 100000 in
theorem eq_cost (g : GG) (x_x0 : Nat) (b0 : Int32) (x_xr : Nat) (x_xt : Nat) (x_xg : Nat) (x_xb : Nat) (x_xp : Nat) (x_xu : Nat) (x_xm : Nat) (x_xd : Nat) (x_xw : Nat) (x_xh : Nat) (x_xa : Nat) (x_xs : Nat) (x_xf : Nat) (x_xma0 : Nat) (x_xma1 : Nat) (x_xma2 : Nat) (x_xma3 : Nat) (x_xma4 : Nat) (x_xma5 : Nat) (x_xma6 : Nat) (x_xma7 : Nat) (x_xma8 : Nat) (x_xma9 : Nat) (x_xma10 : Nat) (x_xma11 : Nat) (x_xma12 : Nat) (y_m0 : Nat) (y_m0a1 : Nat) (y_m0a5 : Nat) (y_m0a6 : Nat) (y_m0a7 : Nat) (y_m0a8 : Nat) (y_m0a9 : Nat) (y_m0a11 : Nat) (y_m0a12 : Nat) (y_m0a13 : Nat) (y_m0a14 : Nat) (y_m0a15 : Nat) (y_m0a16 : Nat) (y_m0a18 : Nat) (y_m0a19 : Nat) (y_m0a20 : Nat) (y_m0a21 : Nat) (y_m0a22 : Nat) (y_m0a24 : Nat) (y_m0a25 : Nat) (y_m0a26 : Nat) (y_m0a28 : Nat) (y_m0a29 : Nat) (y_m0a30 : Nat) (y_m0a31 : Nat) (y_m0a33 : Nat) (y_m0a34 : Nat) (y_m0a35 : Nat) (y_m0a36 : Nat) (y_m0a37 : Nat) (y_m0a38 : Nat) (y_m0a39 : Nat) (y_m0a40 : Nat) (y_m0a41 : Nat) (y_m0a42 : Nat) (y_m0a43 : Nat) (y_m0a44 : Nat) (y_m0a45 : Nat) (y_m0a46 : Nat) (y_m0a47 : Nat) (y_m0a49 : Nat) (y_m0a50 : Nat) (y_m0a51 : Nat) (y_m0a53 : Nat) (y_m0a54 : Nat) (y_m0a55 : Nat) (y_m0a56 : Nat) (y_m0a57 : Nat) (y_m0a58 : Nat) (y_m0a59 : Nat) (y_m0a60 : Nat) (y_m0a61 : Nat) (y_m0a62 : Nat) (y_m0a63 : Nat) (y_m0a67 : Nat) (y_m0a68 : Nat) (y_m0a69 : Nat) (y_m0a70 : Nat) (y_m0a71 : Nat) (y_m0a72 : Nat) (y_m0a73 : Nat) (y_m0a74 : Nat) (y_m0a75 : Nat) : sp_X11_cost g x_x0 b0 x_xr x_xt x_xg x_xb x_xp x_xu x_xm x_xd x_xw x_xh x_xa x_xs x_xf x_xma0 x_xma1 x_xma2 x_xma3 x_xma4 x_xma5 x_xma6 x_xma7 x_xma8 x_xma9 x_xma10 x_xma11 x_xma12 = sp_X12_cost g y_m0 b0 y_m0a1 y_m0a5 y_m0a6 y_m0a7 y_m0a8 y_m0a9 y_m0a11 y_m0a12 y_m0a13 y_m0a14 y_m0a15 y_m0a16 y_m0a18 y_m0a19 y_m0a20 y_m0a21 y_m0a22 y_m0a24 y_m0a25 y_m0a26 y_m0a28 y_m0a29 y_m0a30 y_m0a31 y_m0a33 y_m0a34 y_m0a35 y_m0a36 y_m0a37 y_m0a38 y_m0a39 y_m0a40 y_m0a41 y_m0a42 y_m0a43 y_m0a44 y_m0a45 y_m0a46 y_m0a47 y_m0a49 y_m0a50 y_m0a51 y_m0a53 y_m0a54 y_m0a55 y_m0a56 y_m0a57 y_m0a58 y_m0a59 y_m0a60 y_m0a61 y_m0a62 y_m0a63 y_m0a67 y_m0a68 y_m0a69 y_m0a70 y_m0a71 y_m0a72 y_m0a73 y_m0a74 y_m0a75 := by
  unfold sp_X11_cost sp_X12_cost
  repeat' split
  all_goals first | rfl | (exfalso; simp only [i32lt, i32le, i32eq, Int32.reduceToInt] at *; omega)
set_option maxRecDepth 100000 in
theorem eq_shown (g : GG) (x_x0 : Nat) (b0 : Int32) (x_xr : Nat) (x_xt : Nat) (x_xg : Nat) (x_xb : Nat) (x_xp : Nat) (x_xu : Nat) (x_xm : Nat) (x_xd : Nat) (x_xw : Nat) (x_xh : Nat) (x_xa : Nat) (x_xs : Nat) (x_xf : Nat) (x_xma0 : Nat) (x_xma1 : Nat) (x_xma2 : Nat) (x_xma3 : Nat) (x_xma4 : Nat) (x_xma5 : Nat) (x_xma6 : Nat) (x_xma7 : Nat) (x_xma8 : Nat) (x_xma9 : Nat) (x_xma10 : Nat) (x_xma11 : Nat) (x_xma12 : Nat) (y_m0 : Nat) (y_m0a1 : Nat) (y_m0a5 : Nat) (y_m0a6 : Nat) (y_m0a7 : Nat) (y_m0a8 : Nat) (y_m0a9 : Nat) (y_m0a11 : Nat) (y_m0a12 : Nat) (y_m0a13 : Nat) (y_m0a14 : Nat) (y_m0a15 : Nat) (y_m0a16 : Nat) (y_m0a18 : Nat) (y_m0a19 : Nat) (y_m0a20 : Nat) (y_m0a21 : Nat) (y_m0a22 : Nat) (y_m0a24 : Nat) (y_m0a25 : Nat) (y_m0a26 : Nat) (y_m0a28 : Nat) (y_m0a29 : Nat) (y_m0a30 : Nat) (y_m0a31 : Nat) (y_m0a33 : Nat) (y_m0a34 : Nat) (y_m0a35 : Nat) (y_m0a36 : Nat) (y_m0a37 : Nat) (y_m0a38 : Nat) (y_m0a39 : Nat) (y_m0a40 : Nat) (y_m0a41 : Nat) (y_m0a42 : Nat) (y_m0a43 : Nat) (y_m0a44 : Nat) (y_m0a45 : Nat) (y_m0a46 : Nat) (y_m0a47 : Nat) (y_m0a49 : Nat) (y_m0a50 : Nat) (y_m0a51 : Nat) (y_m0a53 : Nat) (y_m0a54 : Nat) (y_m0a55 : Nat) (y_m0a56 : Nat) (y_m0a57 : Nat) (y_m0a58 : Nat) (y_m0a59 : Nat) (y_m0a60 : Nat) (y_m0a61 : Nat) (y_m0a62 : Nat) (y_m0a63 : Nat) (y_m0a67 : Nat) (y_m0a68 : Nat) (y_m0a69 : Nat) (y_m0a70 : Nat) (y_m0a71 : Nat) (y_m0a72 : Nat) (y_m0a73 : Nat) (y_m0a74 : Nat) (y_m0a75 : Nat) : sp_X11_shown g x_x0 b0 x_xr x_xt x_xg x_xb x_xp x_xu x_xm x_xd x_xw x_xh x_xa x_xs x_xf x_xma0 x_xma1 x_xma2 x_xma3 x_xma4 x_xma5 x_xma6 x_xma7 x_xma8 x_xma9 x_xma10 x_xma11 x_xma12 = sp_X12_shown g y_m0 b0 y_m0a1 y_m0a5 y_m0a6 y_m0a7 y_m0a8 y_m0a9 y_m0a11 y_m0a12 y_m0a13 y_m0a14 y_m0a15 y_m0a16 y_m0a18 y_m0a19 y_m0a20 y_m0a21 y_m0a22 y_m0a24 y_m0a25 y_m0a26 y_m0a28 y_m0a29 y_m0a30 y_m0a31 y_m0a33 y_m0a34 y_m0a35 y_m0a36 y_m0a37 y_m0a38 y_m0a39 y_m0a40 y_m0a41 y_m0a42 y_m0a43 y_m0a44 y_m0a45 y_m0a46 y_m0a47 y_m0a49 y_m0a50 y_m0a51 y_m0a53 y_m0a54 y_m0a55 y_m0a56 y_m0a57 y_m0a58 y_m0a59 y_m0a60 y_m0a61 y_m0a62 y_m0a63 y_m0a67 y_m0a68 y_m0a69 y_m0a70 y_m0a71 y_m0a72 y_m0a73 y_m0a74 y_m0a75 := by
  unfold sp_X11_shown sp_X12_shown
  repeat' split
  all_goals first | rfl | (exfalso; simp only [i32lt, i32le, i32eq, Int32.reduceToInt] at *; omega)
set_option maxRecDepth 100000 in
theorem eq_over (g : GG) (x_x0 : Nat) (b0 : Int32) (x_xr : Nat) (x_xt : Nat) (x_xg : Nat) (x_xb : Nat) (x_xp : Nat) (x_xu : Nat) (x_xm : Nat) (x_xd : Nat) (x_xw : Nat) (x_xh : Nat) (x_xa : Nat) (x_xs : Nat) (x_xf : Nat) (x_xma0 : Nat) (x_xma1 : Nat) (x_xma2 : Nat) (x_xma3 : Nat) (x_xma4 : Nat) (x_xma5 : Nat) (x_xma6 : Nat) (x_xma7 : Nat) (x_xma8 : Nat) (x_xma9 : Nat) (x_xma10 : Nat) (x_xma11 : Nat) (x_xma12 : Nat) (y_m0 : Nat) (y_m0a1 : Nat) (y_m0a5 : Nat) (y_m0a6 : Nat) (y_m0a7 : Nat) (y_m0a8 : Nat) (y_m0a9 : Nat) (y_m0a11 : Nat) (y_m0a12 : Nat) (y_m0a13 : Nat) (y_m0a14 : Nat) (y_m0a15 : Nat) (y_m0a16 : Nat) (y_m0a18 : Nat) (y_m0a19 : Nat) (y_m0a20 : Nat) (y_m0a21 : Nat) (y_m0a22 : Nat) (y_m0a24 : Nat) (y_m0a25 : Nat) (y_m0a26 : Nat) (y_m0a28 : Nat) (y_m0a29 : Nat) (y_m0a30 : Nat) (y_m0a31 : Nat) (y_m0a33 : Nat) (y_m0a34 : Nat) (y_m0a35 : Nat) (y_m0a36 : Nat) (y_m0a37 : Nat) (y_m0a38 : Nat) (y_m0a39 : Nat) (y_m0a40 : Nat) (y_m0a41 : Nat) (y_m0a42 : Nat) (y_m0a43 : Nat) (y_m0a44 : Nat) (y_m0a45 : Nat) (y_m0a46 : Nat) (y_m0a47 : Nat) (y_m0a49 : Nat) (y_m0a50 : Nat) (y_m0a51 : Nat) (y_m0a53 : Nat) (y_m0a54 : Nat) (y_m0a55 : Nat) (y_m0a56 : Nat) (y_m0a57 : Nat) (y_m0a58 : Nat) (y_m0a59 : Nat) (y_m0a60 : Nat) (y_m0a61 : Nat) (y_m0a62 : Nat) (y_m0a63 : Nat) (y_m0a67 : Nat) (y_m0a68 : Nat) (y_m0a69 : Nat) (y_m0a70 : Nat) (y_m0a71 : Nat) (y_m0a72 : Nat) (y_m0a73 : Nat) (y_m0a74 : Nat) (y_m0a75 : Nat) : sp_X11_over g x_x0 b0 x_xr x_xt x_xg x_xb x_xp x_xu x_xm x_xd x_xw x_xh x_xa x_xs x_xf x_xma0 x_xma1 x_xma2 x_xma3 x_xma4 x_xma5 x_xma6 x_xma7 x_xma8 x_xma9 x_xma10 x_xma11 x_xma12 = sp_X12_over g y_m0 b0 y_m0a1 y_m0a5 y_m0a6 y_m0a7 y_m0a8 y_m0a9 y_m0a11 y_m0a12 y_m0a13 y_m0a14 y_m0a15 y_m0a16 y_m0a18 y_m0a19 y_m0a20 y_m0a21 y_m0a22 y_m0a24 y_m0a25 y_m0a26 y_m0a28 y_m0a29 y_m0a30 y_m0a31 y_m0a33 y_m0a34 y_m0a35 y_m0a36 y_m0a37 y_m0a38 y_m0a39 y_m0a40 y_m0a41 y_m0a42 y_m0a43 y_m0a44 y_m0a45 y_m0a46 y_m0a47 y_m0a49 y_m0a50 y_m0a51 y_m0a53 y_m0a54 y_m0a55 y_m0a56 y_m0a57 y_m0a58 y_m0a59 y_m0a60 y_m0a61 y_m0a62 y_m0a63 y_m0a67 y_m0a68 y_m0a69 y_m0a70 y_m0a71 y_m0a72 y_m0a73 y_m0a74 y_m0a75 := by
  unfold sp_X11_over sp_X12_over
  repeat' split
  all_goals first | rfl | (exfalso; simp only [i32lt, i32le, i32eq, Int32.reduceToInt] at *; omega)
set_option maxRecDepth 100000 in
theorem eq_buy (g : GG) (x_x0 : Nat) (b0 : Int32) (b1 : Int32) (x_xr : Nat) (x_xt : Nat) (x_xg : Nat) (x_xb : Nat) (x_xp : Nat) (x_xu : Nat) (x_xm : Nat) (x_xd : Nat) (x_xw : Nat) (x_xh : Nat) (x_xa : Nat) (x_xs : Nat) (x_xf : Nat) (x_xba0 : Nat) (x_xba1 : Nat) (x_xba2 : Nat) (x_xba3 : Nat) (x_xba4 : Nat) (x_xba5 : Nat) (x_xba6 : Nat) (x_xba7 : Nat) (x_xba8 : Nat) (x_xba9 : Nat) (x_xba10 : Nat) (x_xba11 : Nat) (y_m0 : Nat) (y_m0a1 : Nat) (y_m0a5 : Nat) (y_m0a6 : Nat) (y_m0a7 : Nat) (y_m0a8 : Nat) (y_m0a9 : Nat) (y_m0a11 : Nat) (y_m0a12 : Nat) (y_m0a13 : Nat) (y_m0a14 : Nat) (y_m0a15 : Nat) (y_m0a16 : Nat) (y_m0a18 : Nat) (y_m0a19 : Nat) (y_m0a20 : Nat) (y_m0a21 : Nat) (y_m0a22 : Nat) (y_m0a24 : Nat) (y_m0a25 : Nat) (y_m0a26 : Nat) (y_m0a28 : Nat) (y_m0a29 : Nat) (y_m0a30 : Nat) (y_m0a31 : Nat) (y_m0a33 : Nat) (y_m0a34 : Nat) (y_m0a35 : Nat) (y_m0a36 : Nat) (y_m0a37 : Nat) (y_m0a38 : Nat) (y_m0a39 : Nat) (y_m0a40 : Nat) (y_m0a41 : Nat) (y_m0a42 : Nat) (y_m0a43 : Nat) (y_m0a44 : Nat) (y_m0a45 : Nat) (y_m0a46 : Nat) (y_m0a47 : Nat) (y_m0a49 : Nat) (y_m0a50 : Nat) (y_m0a51 : Nat) (y_m0a53 : Nat) (y_m0a54 : Nat) (y_m0a55 : Nat) (y_m0a56 : Nat) (y_m0a57 : Nat) (y_m0a58 : Nat) (y_m0a59 : Nat) (y_m0a60 : Nat) (y_m0a61 : Nat) (y_m0a62 : Nat) (y_m0a63 : Nat) (y_m0a67 : Nat) (y_m0a68 : Nat) (y_m0a69 : Nat) (y_m0a70 : Nat) (y_m0a71 : Nat) (y_m0a72 : Nat) (y_m0a73 : Nat) (y_m0a74 : Nat) (y_m0a75 : Nat) : sp_X11_buy g x_x0 b0 b1 x_xr x_xt x_xg x_xb x_xp x_xu x_xm x_xd x_xw x_xh x_xa x_xs x_xf x_xba0 x_xba1 x_xba2 x_xba3 x_xba4 x_xba5 x_xba6 x_xba7 x_xba8 x_xba9 x_xba10 x_xba11 = sp_X12_buy g y_m0 b0 b1 y_m0a1 y_m0a5 y_m0a6 y_m0a7 y_m0a8 y_m0a9 y_m0a11 y_m0a12 y_m0a13 y_m0a14 y_m0a15 y_m0a16 y_m0a18 y_m0a19 y_m0a20 y_m0a21 y_m0a22 y_m0a24 y_m0a25 y_m0a26 y_m0a28 y_m0a29 y_m0a30 y_m0a31 y_m0a33 y_m0a34 y_m0a35 y_m0a36 y_m0a37 y_m0a38 y_m0a39 y_m0a40 y_m0a41 y_m0a42 y_m0a43 y_m0a44 y_m0a45 y_m0a46 y_m0a47 y_m0a49 y_m0a50 y_m0a51 y_m0a53 y_m0a54 y_m0a55 y_m0a56 y_m0a57 y_m0a58 y_m0a59 y_m0a60 y_m0a61 y_m0a62 y_m0a63 y_m0a67 y_m0a68 y_m0a69 y_m0a70 y_m0a71 y_m0a72 y_m0a73 y_m0a74 y_m0a75 := by
  unfold sp_X11_buy sp_X12_buy
  repeat' split
  all_goals first | rfl | (exfalso; simp only [i32lt, i32le, i32eq, Int32.reduceToInt] at *; omega)
set_option maxRecDepth 100000 in
theorem eq_hear (g : GG) (x_x0 : Nat) (b0 : Int32) (b1 : Int32) (x_xr : Nat) (x_xt : Nat) (x_xg : Nat) (x_xb : Nat) (x_xp : Nat) (x_xu : Nat) (x_xm : Nat) (x_xd : Nat) (x_xw : Nat) (x_xh : Nat) (x_xa : Nat) (x_xs : Nat) (x_xf : Nat) (x_xpa0 : Nat) (x_xpa1 : Nat) (x_xpa2 : Nat) (x_xpa3 : Nat) (y_m0 : Nat) (y_m0a1 : Nat) (y_m0a5 : Nat) (y_m0a6 : Nat) (y_m0a7 : Nat) (y_m0a8 : Nat) (y_m0a9 : Nat) (y_m0a11 : Nat) (y_m0a12 : Nat) (y_m0a13 : Nat) (y_m0a14 : Nat) (y_m0a15 : Nat) (y_m0a16 : Nat) (y_m0a18 : Nat) (y_m0a19 : Nat) (y_m0a20 : Nat) (y_m0a21 : Nat) (y_m0a22 : Nat) (y_m0a24 : Nat) (y_m0a25 : Nat) (y_m0a26 : Nat) (y_m0a28 : Nat) (y_m0a29 : Nat) (y_m0a30 : Nat) (y_m0a31 : Nat) (y_m0a33 : Nat) (y_m0a34 : Nat) (y_m0a35 : Nat) (y_m0a36 : Nat) (y_m0a37 : Nat) (y_m0a38 : Nat) (y_m0a39 : Nat) (y_m0a40 : Nat) (y_m0a41 : Nat) (y_m0a42 : Nat) (y_m0a43 : Nat) (y_m0a44 : Nat) (y_m0a45 : Nat) (y_m0a46 : Nat) (y_m0a47 : Nat) (y_m0a49 : Nat) (y_m0a50 : Nat) (y_m0a51 : Nat) (y_m0a53 : Nat) (y_m0a54 : Nat) (y_m0a55 : Nat) (y_m0a56 : Nat) (y_m0a57 : Nat) (y_m0a58 : Nat) (y_m0a59 : Nat) (y_m0a60 : Nat) (y_m0a61 : Nat) (y_m0a62 : Nat) (y_m0a63 : Nat) (y_m0a67 : Nat) (y_m0a68 : Nat) (y_m0a69 : Nat) (y_m0a70 : Nat) (y_m0a71 : Nat) (y_m0a72 : Nat) (y_m0a73 : Nat) (y_m0a74 : Nat) (y_m0a75 : Nat) : sp_X11_hear g x_x0 b0 b1 x_xr x_xt x_xg x_xb x_xp x_xu x_xm x_xd x_xw x_xh x_xa x_xs x_xf x_xpa0 x_xpa1 x_xpa2 x_xpa3 = sp_X12_hear g y_m0 b0 b1 y_m0a1 y_m0a5 y_m0a6 y_m0a7 y_m0a8 y_m0a9 y_m0a11 y_m0a12 y_m0a13 y_m0a14 y_m0a15 y_m0a16 y_m0a18 y_m0a19 y_m0a20 y_m0a21 y_m0a22 y_m0a24 y_m0a25 y_m0a26 y_m0a28 y_m0a29 y_m0a30 y_m0a31 y_m0a33 y_m0a34 y_m0a35 y_m0a36 y_m0a37 y_m0a38 y_m0a39 y_m0a40 y_m0a41 y_m0a42 y_m0a43 y_m0a44 y_m0a45 y_m0a46 y_m0a47 y_m0a49 y_m0a50 y_m0a51 y_m0a53 y_m0a54 y_m0a55 y_m0a56 y_m0a57 y_m0a58 y_m0a59 y_m0a60 y_m0a61 y_m0a62 y_m0a63 y_m0a67 y_m0a68 y_m0a69 y_m0a70 y_m0a71 y_m0a72 y_m0a73 y_m0a74 y_m0a75 := by
  unfold sp_X11_hear sp_X12_hear
  repeat' split
  all_goals first | rfl | (exfalso; simp only [i32lt, i32le, i32eq, Int32.reduceToInt] at *; omega)
set_option maxRecDepth 100000 in
theorem eq_early (g : GG) (x_x0 : Nat) (b0 : Int32) (x_xr : Nat) (x_xt : Nat) (x_xg : Nat) (x_xb : Nat) (x_xp : Nat) (x_xu : Nat) (x_xm : Nat) (x_xd : Nat) (x_xw : Nat) (x_xh : Nat) (x_xa : Nat) (x_xs : Nat) (x_xf : Nat) (x_xma0 : Nat) (x_xma1 : Nat) (x_xma2 : Nat) (x_xma3 : Nat) (x_xma4 : Nat) (x_xma5 : Nat) (x_xma6 : Nat) (x_xma7 : Nat) (x_xma8 : Nat) (x_xma9 : Nat) (x_xma10 : Nat) (x_xma11 : Nat) (x_xma12 : Nat) (y_m0 : Nat) (y_m0a1 : Nat) (y_m0a5 : Nat) (y_m0a6 : Nat) (y_m0a7 : Nat) (y_m0a8 : Nat) (y_m0a9 : Nat) (y_m0a11 : Nat) (y_m0a12 : Nat) (y_m0a13 : Nat) (y_m0a14 : Nat) (y_m0a15 : Nat) (y_m0a16 : Nat) (y_m0a18 : Nat) (y_m0a19 : Nat) (y_m0a20 : Nat) (y_m0a21 : Nat) (y_m0a22 : Nat) (y_m0a24 : Nat) (y_m0a25 : Nat) (y_m0a26 : Nat) (y_m0a28 : Nat) (y_m0a29 : Nat) (y_m0a30 : Nat) (y_m0a31 : Nat) (y_m0a33 : Nat) (y_m0a34 : Nat) (y_m0a35 : Nat) (y_m0a36 : Nat) (y_m0a37 : Nat) (y_m0a38 : Nat) (y_m0a39 : Nat) (y_m0a40 : Nat) (y_m0a41 : Nat) (y_m0a42 : Nat) (y_m0a43 : Nat) (y_m0a44 : Nat) (y_m0a45 : Nat) (y_m0a46 : Nat) (y_m0a47 : Nat) (y_m0a49 : Nat) (y_m0a50 : Nat) (y_m0a51 : Nat) (y_m0a53 : Nat) (y_m0a54 : Nat) (y_m0a55 : Nat) (y_m0a56 : Nat) (y_m0a57 : Nat) (y_m0a58 : Nat) (y_m0a59 : Nat) (y_m0a60 : Nat) (y_m0a61 : Nat) (y_m0a62 : Nat) (y_m0a63 : Nat) (y_m0a67 : Nat) (y_m0a68 : Nat) (y_m0a69 : Nat) (y_m0a70 : Nat) (y_m0a71 : Nat) (y_m0a72 : Nat) (y_m0a73 : Nat) (y_m0a74 : Nat) (y_m0a75 : Nat) : sp_X11_early g x_x0 b0 x_xr x_xt x_xg x_xb x_xp x_xu x_xm x_xd x_xw x_xh x_xa x_xs x_xf x_xma0 x_xma1 x_xma2 x_xma3 x_xma4 x_xma5 x_xma6 x_xma7 x_xma8 x_xma9 x_xma10 x_xma11 x_xma12 = sp_X12_early g y_m0 b0 y_m0a1 y_m0a5 y_m0a6 y_m0a7 y_m0a8 y_m0a9 y_m0a11 y_m0a12 y_m0a13 y_m0a14 y_m0a15 y_m0a16 y_m0a18 y_m0a19 y_m0a20 y_m0a21 y_m0a22 y_m0a24 y_m0a25 y_m0a26 y_m0a28 y_m0a29 y_m0a30 y_m0a31 y_m0a33 y_m0a34 y_m0a35 y_m0a36 y_m0a37 y_m0a38 y_m0a39 y_m0a40 y_m0a41 y_m0a42 y_m0a43 y_m0a44 y_m0a45 y_m0a46 y_m0a47 y_m0a49 y_m0a50 y_m0a51 y_m0a53 y_m0a54 y_m0a55 y_m0a56 y_m0a57 y_m0a58 y_m0a59 y_m0a60 y_m0a61 y_m0a62 y_m0a63 y_m0a67 y_m0a68 y_m0a69 y_m0a70 y_m0a71 y_m0a72 y_m0a73 y_m0a74 y_m0a75 := by
  unfold sp_X11_early sp_X12_early
  repeat' split
  all_goals first | rfl | (exfalso; simp only [i32lt, i32le, i32eq, Int32.reduceToInt] at *; omega)
set_option maxRecDepth 100000 in
theorem eq_whither (g : GG) (x_x0 : Nat) (b0 : Int32) (x_xr : Nat) (x_xt : Nat) (x_xg : Nat) (x_xb : Nat) (x_xp : Nat) (x_xu : Nat) (x_xm : Nat) (x_xd : Nat) (x_xw : Nat) (x_xh : Nat) (x_xa : Nat) (x_xs : Nat) (x_xf : Nat) (x_xma0 : Nat) (x_xma1 : Nat) (x_xma2 : Nat) (x_xma3 : Nat) (x_xma4 : Nat) (x_xma5 : Nat) (x_xma6 : Nat) (x_xma7 : Nat) (x_xma8 : Nat) (x_xma9 : Nat) (x_xma10 : Nat) (x_xma11 : Nat) (x_xma12 : Nat) (y_m0 : Nat) (y_m0a1 : Nat) (y_m0a5 : Nat) (y_m0a6 : Nat) (y_m0a7 : Nat) (y_m0a8 : Nat) (y_m0a9 : Nat) (y_m0a11 : Nat) (y_m0a12 : Nat) (y_m0a13 : Nat) (y_m0a14 : Nat) (y_m0a15 : Nat) (y_m0a16 : Nat) (y_m0a18 : Nat) (y_m0a19 : Nat) (y_m0a20 : Nat) (y_m0a21 : Nat) (y_m0a22 : Nat) (y_m0a24 : Nat) (y_m0a25 : Nat) (y_m0a26 : Nat) (y_m0a28 : Nat) (y_m0a29 : Nat) (y_m0a30 : Nat) (y_m0a31 : Nat) (y_m0a33 : Nat) (y_m0a34 : Nat) (y_m0a35 : Nat) (y_m0a36 : Nat) (y_m0a37 : Nat) (y_m0a38 : Nat) (y_m0a39 : Nat) (y_m0a40 : Nat) (y_m0a41 : Nat) (y_m0a42 : Nat) (y_m0a43 : Nat) (y_m0a44 : Nat) (y_m0a45 : Nat) (y_m0a46 : Nat) (y_m0a47 : Nat) (y_m0a49 : Nat) (y_m0a50 : Nat) (y_m0a51 : Nat) (y_m0a53 : Nat) (y_m0a54 : Nat) (y_m0a55 : Nat) (y_m0a56 : Nat) (y_m0a57 : Nat) (y_m0a58 : Nat) (y_m0a59 : Nat) (y_m0a60 : Nat) (y_m0a61 : Nat) (y_m0a62 : Nat) (y_m0a63 : Nat) (y_m0a67 : Nat) (y_m0a68 : Nat) (y_m0a69 : Nat) (y_m0a70 : Nat) (y_m0a71 : Nat) (y_m0a72 : Nat) (y_m0a73 : Nat) (y_m0a74 : Nat) (y_m0a75 : Nat) : sp_X11_whither g x_x0 b0 x_xr x_xt x_xg x_xb x_xp x_xu x_xm x_xd x_xw x_xh x_xa x_xs x_xf x_xma0 x_xma1 x_xma2 x_xma3 x_xma4 x_xma5 x_xma6 x_xma7 x_xma8 x_xma9 x_xma10 x_xma11 x_xma12 = sp_X12_whither g y_m0 b0 y_m0a1 y_m0a5 y_m0a6 y_m0a7 y_m0a8 y_m0a9 y_m0a11 y_m0a12 y_m0a13 y_m0a14 y_m0a15 y_m0a16 y_m0a18 y_m0a19 y_m0a20 y_m0a21 y_m0a22 y_m0a24 y_m0a25 y_m0a26 y_m0a28 y_m0a29 y_m0a30 y_m0a31 y_m0a33 y_m0a34 y_m0a35 y_m0a36 y_m0a37 y_m0a38 y_m0a39 y_m0a40 y_m0a41 y_m0a42 y_m0a43 y_m0a44 y_m0a45 y_m0a46 y_m0a47 y_m0a49 y_m0a50 y_m0a51 y_m0a53 y_m0a54 y_m0a55 y_m0a56 y_m0a57 y_m0a58 y_m0a59 y_m0a60 y_m0a61 y_m0a62 y_m0a63 y_m0a67 y_m0a68 y_m0a69 y_m0a70 y_m0a71 y_m0a72 y_m0a73 y_m0a74 y_m0a75 := by
  unfold sp_X11_whither sp_X12_whither
  repeat' split
  all_goals first | rfl | (exfalso; simp only [i32lt, i32le, i32eq, Int32.reduceToInt] at *; omega)
set_option maxHeartbeats 4000000 in
set_option maxRecDepth 100000 in
theorem law_18 (l : Launch) (g : GG) {p : Program} {e : Env} {s : State} {m : MethodId} {below : List Frame} {meth : Method} {c : Code} {b : Nat} {scr : Nat → Int32} (X : En p s m #[Value.ref b] meth c cL_law 4 ret R_law meth.name) (hK : va_K g.1 classes (tyG g) s) (hA : ∀ q, s.heap.size ≤ q → laA s q) (hZ : stS g (laA s) s s.heap) (hX : va_X b 6 scr s s.heap) (hbl : b < s.heap.size) (hbA : ¬ laA s b) (x0 : Nat) (xr : Nat) (xt : Nat) (xg : Nat) (xb : Nat) (xp : Nat) (xu : Nat) (xm : Nat) (xd : Nat) (xw : Nat) (xh : Nat) (xa : Nat) (xs : Nat) (xf : Nat) (xua0 : Nat) (xua1 : Nat) (xua2 : Nat) (m0 : Nat) (m0a1 : Nat) (m0a5 : Nat) (m0a6 : Nat) (m0a7 : Nat) (m0a8 : Nat) (m0a9 : Nat) (m0a11 : Nat) (m0a12 : Nat) (m0a13 : Nat) (m0a14 : Nat) (m0a15 : Nat) (m0a16 : Nat) (m0a18 : Nat) (m0a19 : Nat) (m0a20 : Nat) (m0a21 : Nat) (m0a22 : Nat) (m0a24 : Nat) (m0a25 : Nat) (m0a26 : Nat) (m0a28 : Nat) (m0a29 : Nat) (m0a30 : Nat) (m0a31 : Nat) (m0a33 : Nat) (m0a34 : Nat) (m0a35 : Nat) (m0a36 : Nat) (m0a37 : Nat) (m0a38 : Nat) (m0a39 : Nat) (m0a40 : Nat) (m0a41 : Nat) (m0a42 : Nat) (m0a43 : Nat) (m0a44 : Nat) (m0a45 : Nat) (m0a46 : Nat) (m0a47 : Nat) (m0a49 : Nat) (m0a50 : Nat) (m0a51 : Nat) (m0a53 : Nat) (m0a54 : Nat) (m0a55 : Nat) (m0a56 : Nat) (m0a57 : Nat) (m0a58 : Nat) (m0a59 : Nat) (m0a60 : Nat) (m0a61 : Nat) (m0a62 : Nat) (m0a63 : Nat) (m0a67 : Nat) (m0a68 : Nat) (m0a69 : Nat) (m0a70 : Nat) (m0a71 : Nat) (m0a72 : Nat) (m0a73 : Nat) (m0a74 : Nat) (m0a75 : Nat) {H : Heap} {locs : List Loc} {ls : Array Slot} (hP : va_P g.1 classes [(x0, .inr (11, [.ref xr, .ref xt, .ref xg, .ref xb, .ref xp, .ref xu, .ref xm, .ref xd, .ref xw, .ref xh, .ref xa, .ref xs, .ref xf, .int 0, .int 0, .long 0, .long 0, .int 0])), (xu, .inr (7, [.ref xua0, .ref xua1, .ref xua2, .int 0])), (m0, .inr (12, [.int 0, .ref m0a1, .int 0, .long 0, .int 0, .ref m0a5, .ref m0a6, .ref m0a7, .ref m0a8, .ref m0a9, .int 0, .ref m0a11, .ref m0a12, .ref m0a13, .ref m0a14, .ref m0a15, .ref m0a16, .int 0, .ref m0a18, .ref m0a19, .ref m0a20, .ref m0a21, .ref m0a22, .int 0, .ref m0a24, .ref m0a25, .ref m0a26, .int 0, .ref m0a28, .ref m0a29, .ref m0a30, .ref m0a31, .int 0, .ref m0a33, .ref m0a34, .ref m0a35, .ref m0a36, .ref m0a37, .ref m0a38, .ref m0a39, .ref m0a40, .ref m0a41, .ref m0a42, .ref m0a43, .ref m0a44, .ref m0a45, .ref m0a46, .ref m0a47, .int 0, .ref m0a49, .ref m0a50, .ref m0a51, .int 0, .ref m0a53, .ref m0a54, .ref m0a55, .ref m0a56, .ref m0a57, .ref m0a58, .ref m0a59, .ref m0a60, .ref m0a61, .ref m0a62, .ref m0a63, .long 0, .int 0, .int (-9), .ref m0a67, .ref m0a68, .ref m0a69, .ref m0a70, .ref m0a71, .ref m0a72, .ref m0a73, .ref m0a74, .ref m0a75, .long 0]))] H) (hD : va_D (laA s) [(x0, .inr (11, [.ref xr, .ref xt, .ref xg, .ref xb, .ref xp, .ref xu, .ref xm, .ref xd, .ref xw, .ref xh, .ref xa, .ref xs, .ref xf, .int 0, .int 0, .long 0, .long 0, .int 0])), (xu, .inr (7, [.ref xua0, .ref xua1, .ref xua2, .int 0])), (m0, .inr (12, [.int 0, .ref m0a1, .int 0, .long 0, .int 0, .ref m0a5, .ref m0a6, .ref m0a7, .ref m0a8, .ref m0a9, .int 0, .ref m0a11, .ref m0a12, .ref m0a13, .ref m0a14, .ref m0a15, .ref m0a16, .int 0, .ref m0a18, .ref m0a19, .ref m0a20, .ref m0a21, .ref m0a22, .int 0, .ref m0a24, .ref m0a25, .ref m0a26, .int 0, .ref m0a28, .ref m0a29, .ref m0a30, .ref m0a31, .int 0, .ref m0a33, .ref m0a34, .ref m0a35, .ref m0a36, .ref m0a37, .ref m0a38, .ref m0a39, .ref m0a40, .ref m0a41, .ref m0a42, .ref m0a43, .ref m0a44, .ref m0a45, .ref m0a46, .ref m0a47, .int 0, .ref m0a49, .ref m0a50, .ref m0a51, .int 0, .ref m0a53, .ref m0a54, .ref m0a55, .ref m0a56, .ref m0a57, .ref m0a58, .ref m0a59, .ref m0a60, .ref m0a61, .ref m0a62, .ref m0a63, .long 0, .int 0, .int (-9), .ref m0a67, .ref m0a68, .ref m0a69, .ref m0a70, .ref m0a71, .ref m0a72, .ref m0a73, .ref m0a74, .ref m0a75, .long 0]))]) (hS : va_S (laA s) s.heap H locs) (hl : lv_has ls 4 [(3, .int 0), (2, .ref m0), (1, .ref x0), (0, .ref b)]) {Q : State → Prop} (kend : ∀ (H : Heap) (locs : List Loc) (ls : Array Slot), va_S (laA s) s.heap H locs → lv_has ls 4 [(0, .ref b), (3, .int 0)] → W p l e room_1 s m #[Value.ref b] below meth c H locs 141 11384 Q (F0 m 1955 ls [])) : W p l e room_1 s m #[Value.ref b] below meth c H locs 141 11384 Q (F0 m 944 ls []) := by
  have hx := X.1
  have hb := X.2.1
  have hml := X.2.2.1
  have hown := X.2.2.2.1
  have hts := X.2.2.2.2.1
  refine lv_aload_n hx hb dL_law_944 rfl (lv_at hl 2 rfl) ?_
  refine lv_aload_n hx hb dL_law_945 rfl (lv_at hl 3 rfl) ?_
  refine lv_iload_n hx hb dL_law_946 rfl (lv_at hl 0 rfl) ?_
  refine lv_iconst (v := 1) hx hb dL_law_947 (by decide) ?_
  refine lv_iadd hx hb dL_law_948 ?_
  refine lv_topk (v := 1) (by decide) ?_
  refine va_sld hx hb hX hbl hbA hS (by unfold vp_in; decide) dL_law_949 ?_
  refine lv_topk (v := scr 1) rfl ?_
  refine lv_aload_n hx hb dL_law_950 rfl (lv_at hl 3 rfl) ?_
  refine lv_iload_n hx hb dL_law_951 rfl (lv_at hl 0 rfl) ?_
  refine lv_iconst (v := 2) hx hb dL_law_952 (by decide) ?_
  refine lv_iadd hx hb dL_law_953 ?_
  refine lv_topk (v := 2) (by decide) ?_
  refine va_sld hx hb hX hbl hbA hS (by unfold vp_in; decide) dL_law_954 ?_
  refine lv_topk (v := scr 2) rfl ?_
  refine lv_aload_n hx hb dL_law_955 rfl (lv_at hl 3 rfl) ?_
  refine lv_iload_n hx hb dL_law_956 rfl (lv_at hl 0 rfl) ?_
  refine lv_iconst (v := 3) hx hb dL_law_957 (by decide) ?_
  refine lv_iadd hx hb dL_law_958 ?_
  refine lv_topk (v := 3) (by decide) ?_
  refine va_sld hx hb hX hbl hbA hS (by unfold vp_in; decide) dL_law_959 ?_
  refine lv_topk (v := scr 3) rfl ?_
  refine kVi (As := [.int (scr 1), .int (scr 2), .int (scr 3)]) (rest := []) (wr := [(m0, .inr (12, [.int 0, .ref m0a1, .int 0, .long 0, .int 0, .ref m0a5, .ref m0a6, .ref m0a7, .ref m0a8, .ref m0a9, .int 0, .ref m0a11, .ref m0a12, .ref m0a13, .ref m0a14, .ref m0a15, .ref m0a16, .int 0, .ref m0a18, .ref m0a19, .ref m0a20, .ref m0a21, .ref m0a22, .int 0, .ref m0a24, .ref m0a25, .ref m0a26, .int 0, .ref m0a28, .ref m0a29, .ref m0a30, .ref m0a31, .int 0, .ref m0a33, .ref m0a34, .ref m0a35, .ref m0a36, .ref m0a37, .ref m0a38, .ref m0a39, .ref m0a40, .ref m0a41, .ref m0a42, .ref m0a43, .ref m0a44, .ref m0a45, .ref m0a46, .ref m0a47, .int 0, .ref m0a49, .ref m0a50, .ref m0a51, .int 0, .ref m0a53, .ref m0a54, .ref m0a55, .ref m0a56, .ref m0a57, .ref m0a58, .ref m0a59, .ref m0a60, .ref m0a61, .ref m0a62, .ref m0a63, .long 0, .int 0, .int (-9), .ref m0a67, .ref m0a68, .ref m0a69, .ref m0a70, .ref m0a71, .ref m0a72, .ref m0a73, .ref m0a74, .ref m0a75, .long 0]))]) X (c_X11_why l g x0 (scr 1) (scr 2) (scr 3) xr xt xg xb xp xu xm xd xw xh xa xs xf xua0 xua1 xua2) ok_X11_why okv_X11_why q_781 rfl hK hP hD hS hA hZ hl.1 [0, 1] [2] rfl rfl rfl rfl rfl 0 11 rfl rfl rfl (Nat.le_of_ble_eq_true rfl) ⟨Nat.le_of_ble_eq_true rfl, Nat.le_of_ble_eq_true rfl⟩ dL_law_960 ⟨Nat.le_of_ble_eq_true rfl, Nat.le_of_ble_eq_true rfl⟩ (fun r_1 w1 H locs hw_2 hP hD hS => ?_)
  have hP := pSub hP (ws' := [(m0, .inr (12, [.int 0, .ref m0a1, .int 0, .long 0, .int 0, .ref m0a5, .ref m0a6, .ref m0a7, .ref m0a8, .ref m0a9, .int 0, .ref m0a11, .ref m0a12, .ref m0a13, .ref m0a14, .ref m0a15, .ref m0a16, .int 0, .ref m0a18, .ref m0a19, .ref m0a20, .ref m0a21, .ref m0a22, .int 0, .ref m0a24, .ref m0a25, .ref m0a26, .int 0, .ref m0a28, .ref m0a29, .ref m0a30, .ref m0a31, .int 0, .ref m0a33, .ref m0a34, .ref m0a35, .ref m0a36, .ref m0a37, .ref m0a38, .ref m0a39, .ref m0a40, .ref m0a41, .ref m0a42, .ref m0a43, .ref m0a44, .ref m0a45, .ref m0a46, .ref m0a47, .int 0, .ref m0a49, .ref m0a50, .ref m0a51, .int 0, .ref m0a53, .ref m0a54, .ref m0a55, .ref m0a56, .ref m0a57, .ref m0a58, .ref m0a59, .ref m0a60, .ref m0a61, .ref m0a62, .ref m0a63, .long 0, .int 0, .int (-9), .ref m0a67, .ref m0a68, .ref m0a69, .ref m0a70, .ref m0a71, .ref m0a72, .ref m0a73, .ref m0a74, .ref m0a75, .long 0]))]) [0] rfl
  have hD := hD.sub (ws' := [(m0, .inr (12, [.int 0, .ref m0a1, .int 0, .long 0, .int 0, .ref m0a5, .ref m0a6, .ref m0a7, .ref m0a8, .ref m0a9, .int 0, .ref m0a11, .ref m0a12, .ref m0a13, .ref m0a14, .ref m0a15, .ref m0a16, .int 0, .ref m0a18, .ref m0a19, .ref m0a20, .ref m0a21, .ref m0a22, .int 0, .ref m0a24, .ref m0a25, .ref m0a26, .int 0, .ref m0a28, .ref m0a29, .ref m0a30, .ref m0a31, .int 0, .ref m0a33, .ref m0a34, .ref m0a35, .ref m0a36, .ref m0a37, .ref m0a38, .ref m0a39, .ref m0a40, .ref m0a41, .ref m0a42, .ref m0a43, .ref m0a44, .ref m0a45, .ref m0a46, .ref m0a47, .int 0, .ref m0a49, .ref m0a50, .ref m0a51, .int 0, .ref m0a53, .ref m0a54, .ref m0a55, .ref m0a56, .ref m0a57, .ref m0a58, .ref m0a59, .ref m0a60, .ref m0a61, .ref m0a62, .ref m0a63, .long 0, .int 0, .int (-9), .ref m0a67, .ref m0a68, .ref m0a69, .ref m0a70, .ref m0a71, .ref m0a72, .ref m0a73, .ref m0a74, .ref m0a75, .long 0]))]) [0] rfl rfl
  refine lv_aload_n hx hb dL_law_963 rfl (lv_at hl 1 rfl) ?_
  refine lv_aload_n hx hb dL_law_964 rfl (lv_at hl 3 rfl) ?_
  refine lv_iload_n hx hb dL_law_965 rfl (lv_at hl 0 rfl) ?_
  refine lv_iconst (v := 1) hx hb dL_law_966 (by decide) ?_
  refine lv_iadd hx hb dL_law_967 ?_
  refine lv_topk (v := 1) (by decide) ?_
  refine va_sld hx hb hX hbl hbA hS (by unfold vp_in; decide) dL_law_968 ?_
  refine lv_topk (v := scr 1) rfl ?_
  refine lv_aload_n hx hb dL_law_969 rfl (lv_at hl 3 rfl) ?_
  refine lv_iload_n hx hb dL_law_970 rfl (lv_at hl 0 rfl) ?_
  refine lv_iconst (v := 2) hx hb dL_law_971 (by decide) ?_
  refine lv_iadd hx hb dL_law_972 ?_
  refine lv_topk (v := 2) (by decide) ?_
  refine va_sld hx hb hX hbl hbA hS (by unfold vp_in; decide) dL_law_973 ?_
  refine lv_topk (v := scr 2) rfl ?_
  refine lv_aload_n hx hb dL_law_974 rfl (lv_at hl 3 rfl) ?_
  refine lv_iload_n hx hb dL_law_975 rfl (lv_at hl 0 rfl) ?_
  refine lv_iconst (v := 3) hx hb dL_law_976 (by decide) ?_
  refine lv_iadd hx hb dL_law_977 ?_
  refine lv_topk (v := 3) (by decide) ?_
  refine va_sld hx hb hX hbl hbA hS (by unfold vp_in; decide) dL_law_978 ?_
  refine lv_topk (v := scr 3) rfl ?_
  refine kVi (As := [.int (scr 1), .int (scr 2), .int (scr 3)]) (rest := [.int r_1]) (wr := []) X (c_X12_why l g m0 (scr 1) (scr 2) (scr 3) m0a1 m0a5 m0a6 m0a7 m0a8 m0a9 m0a11 m0a12 m0a13 m0a14 m0a15 m0a16 m0a18 m0a19 m0a20 m0a21 m0a22 m0a24 m0a25 m0a26 m0a28 m0a29 m0a30 m0a31 m0a33 m0a34 m0a35 m0a36 m0a37 m0a38 m0a39 m0a40 m0a41 m0a42 m0a43 m0a44 m0a45 m0a46 m0a47 m0a49 m0a50 m0a51 m0a53 m0a54 m0a55 m0a56 m0a57 m0a58 m0a59 m0a60 m0a61 m0a62 m0a63 m0a67 m0a68 m0a69 m0a70 m0a71 m0a72 m0a73 m0a74 m0a75) ok_X12_why okv_X12_why q_1780 rfl hK hP hD hS hA hZ hl.1 [0] [] rfl rfl rfl rfl rfl 0 12 rfl rfl rfl (Nat.le_of_ble_eq_true rfl) ⟨Nat.le_of_ble_eq_true rfl, Nat.le_of_ble_eq_true rfl⟩ dL_law_979 ⟨Nat.le_of_ble_eq_true rfl, Nat.le_of_ble_eq_true rfl⟩ (fun r_3 w1 H locs hw_4 hP hD hS => ?_)
  have hP := pSub hP (ws' := []) [] rfl
  have hD := hD.sub (ws' := []) [] rfl rfl
  refine lv_icmp_eq (tgt := 1955) hx hb dL_law_982 (by decide) (fun _ => ?_) (fun c => absurd (hw_2.trans ((eq_why g x0 (scr 1) (scr 2) (scr 3) xr xt xg xb xp xu xm xd xw xh xa xs xf xua0 xua1 xua2 m0 m0a1 m0a5 m0a6 m0a7 m0a8 m0a9 m0a11 m0a12 m0a13 m0a14 m0a15 m0a16 m0a18 m0a19 m0a20 m0a21 m0a22 m0a24 m0a25 m0a26 m0a28 m0a29 m0a30 m0a31 m0a33 m0a34 m0a35 m0a36 m0a37 m0a38 m0a39 m0a40 m0a41 m0a42 m0a43 m0a44 m0a45 m0a46 m0a47 m0a49 m0a50 m0a51 m0a53 m0a54 m0a55 m0a56 m0a57 m0a58 m0a59 m0a60 m0a61 m0a62 m0a63 m0a67 m0a68 m0a69 m0a70 m0a71 m0a72 m0a73 m0a74 m0a75).trans hw_4.symm)) c)
  exact kend _ _ _ hS (lv_sub hl [3, 0] rfl)
set_option maxHeartbeats 4000000 in
set_option maxRecDepth 100000 in
theorem law_19 (l : Launch) (g : GG) {p : Program} {e : Env} {s : State} {m : MethodId} {below : List Frame} {meth : Method} {c : Code} {b : Nat} {scr : Nat → Int32} (X : En p s m #[Value.ref b] meth c cL_law 4 ret R_law meth.name) (hK : va_K g.1 classes (tyG g) s) (hA : ∀ q, s.heap.size ≤ q → laA s q) (hZ : stS g (laA s) s s.heap) (hX : va_X b 6 scr s s.heap) (hbl : b < s.heap.size) (hbA : ¬ laA s b) (x0 : Nat) (xr : Nat) (xt : Nat) (xg : Nat) (xb : Nat) (xp : Nat) (xu : Nat) (xm : Nat) (xd : Nat) (xw : Nat) (xh : Nat) (xa : Nat) (xs : Nat) (xf : Nat) (xrs : Nat) (xrp : Nat) (xma0 : Nat) (xma1 : Nat) (xma2 : Nat) (xma3 : Nat) (xma4 : Nat) (xma5 : Nat) (xma6 : Nat) (xma7 : Nat) (xma8 : Nat) (xma9 : Nat) (xma10 : Nat) (xma11 : Nat) (xma12 : Nat) (m0 : Nat) (m0a1 : Nat) (m0a5 : Nat) (m0a6 : Nat) (m0a7 : Nat) (m0a8 : Nat) (m0a9 : Nat) (m0a11 : Nat) (m0a12 : Nat) (m0a13 : Nat) (m0a14 : Nat) (m0a15 : Nat) (m0a16 : Nat) (m0a18 : Nat) (m0a19 : Nat) (m0a20 : Nat) (m0a21 : Nat) (m0a22 : Nat) (m0a24 : Nat) (m0a25 : Nat) (m0a26 : Nat) (m0a28 : Nat) (m0a29 : Nat) (m0a30 : Nat) (m0a31 : Nat) (m0a33 : Nat) (m0a34 : Nat) (m0a35 : Nat) (m0a36 : Nat) (m0a37 : Nat) (m0a38 : Nat) (m0a39 : Nat) (m0a40 : Nat) (m0a41 : Nat) (m0a42 : Nat) (m0a43 : Nat) (m0a44 : Nat) (m0a45 : Nat) (m0a46 : Nat) (m0a47 : Nat) (m0a49 : Nat) (m0a50 : Nat) (m0a51 : Nat) (m0a53 : Nat) (m0a54 : Nat) (m0a55 : Nat) (m0a56 : Nat) (m0a57 : Nat) (m0a58 : Nat) (m0a59 : Nat) (m0a60 : Nat) (m0a61 : Nat) (m0a62 : Nat) (m0a63 : Nat) (m0a67 : Nat) (m0a68 : Nat) (m0a69 : Nat) (m0a70 : Nat) (m0a71 : Nat) (m0a72 : Nat) (m0a73 : Nat) (m0a74 : Nat) (m0a75 : Nat) {H : Heap} {locs : List Loc} {ls : Array Slot} (hP : va_P g.1 classes [(x0, .inr (11, [.ref xr, .ref xt, .ref xg, .ref xb, .ref xp, .ref xu, .ref xm, .ref xd, .ref xw, .ref xh, .ref xa, .ref xs, .ref xf, .int 0, .int 0, .long 0, .long 0, .int 0])), (xr, .inr (8, [.int 6, .int 0, .ref xrs, .ref xrp])), (xrs, .inl (cI g, 6, .inl (fun _ => (-1)))), (xm, .inr (4, [.ref xma0, .ref xma1, .ref xma2, .ref xma3, .ref xma4, .ref xma5, .ref xma6, .ref xma7, .ref xma8, .ref xma9, .ref xma10, .ref xma11, .ref xma12, .int 0])), (xf, .inl (cI g, 6, .inl (fun _ => 0))), (m0, .inr (12, [.int 0, .ref m0a1, .int 0, .long 0, .int 0, .ref m0a5, .ref m0a6, .ref m0a7, .ref m0a8, .ref m0a9, .int 0, .ref m0a11, .ref m0a12, .ref m0a13, .ref m0a14, .ref m0a15, .ref m0a16, .int 0, .ref m0a18, .ref m0a19, .ref m0a20, .ref m0a21, .ref m0a22, .int 0, .ref m0a24, .ref m0a25, .ref m0a26, .int 0, .ref m0a28, .ref m0a29, .ref m0a30, .ref m0a31, .int 0, .ref m0a33, .ref m0a34, .ref m0a35, .ref m0a36, .ref m0a37, .ref m0a38, .ref m0a39, .ref m0a40, .ref m0a41, .ref m0a42, .ref m0a43, .ref m0a44, .ref m0a45, .ref m0a46, .ref m0a47, .int 0, .ref m0a49, .ref m0a50, .ref m0a51, .int 0, .ref m0a53, .ref m0a54, .ref m0a55, .ref m0a56, .ref m0a57, .ref m0a58, .ref m0a59, .ref m0a60, .ref m0a61, .ref m0a62, .ref m0a63, .long 0, .int 0, .int (-9), .ref m0a67, .ref m0a68, .ref m0a69, .ref m0a70, .ref m0a71, .ref m0a72, .ref m0a73, .ref m0a74, .ref m0a75, .long 0])), (m0a1, .inl (cI g, 6, .inl (fun _ => 0))), (m0a5, .inl (cI g, 6, .inl (fun _ => (-9))))] H) (hD : va_D (laA s) [(x0, .inr (11, [.ref xr, .ref xt, .ref xg, .ref xb, .ref xp, .ref xu, .ref xm, .ref xd, .ref xw, .ref xh, .ref xa, .ref xs, .ref xf, .int 0, .int 0, .long 0, .long 0, .int 0])), (xr, .inr (8, [.int 6, .int 0, .ref xrs, .ref xrp])), (xrs, .inl (cI g, 6, .inl (fun _ => (-1)))), (xm, .inr (4, [.ref xma0, .ref xma1, .ref xma2, .ref xma3, .ref xma4, .ref xma5, .ref xma6, .ref xma7, .ref xma8, .ref xma9, .ref xma10, .ref xma11, .ref xma12, .int 0])), (xf, .inl (cI g, 6, .inl (fun _ => 0))), (m0, .inr (12, [.int 0, .ref m0a1, .int 0, .long 0, .int 0, .ref m0a5, .ref m0a6, .ref m0a7, .ref m0a8, .ref m0a9, .int 0, .ref m0a11, .ref m0a12, .ref m0a13, .ref m0a14, .ref m0a15, .ref m0a16, .int 0, .ref m0a18, .ref m0a19, .ref m0a20, .ref m0a21, .ref m0a22, .int 0, .ref m0a24, .ref m0a25, .ref m0a26, .int 0, .ref m0a28, .ref m0a29, .ref m0a30, .ref m0a31, .int 0, .ref m0a33, .ref m0a34, .ref m0a35, .ref m0a36, .ref m0a37, .ref m0a38, .ref m0a39, .ref m0a40, .ref m0a41, .ref m0a42, .ref m0a43, .ref m0a44, .ref m0a45, .ref m0a46, .ref m0a47, .int 0, .ref m0a49, .ref m0a50, .ref m0a51, .int 0, .ref m0a53, .ref m0a54, .ref m0a55, .ref m0a56, .ref m0a57, .ref m0a58, .ref m0a59, .ref m0a60, .ref m0a61, .ref m0a62, .ref m0a63, .long 0, .int 0, .int (-9), .ref m0a67, .ref m0a68, .ref m0a69, .ref m0a70, .ref m0a71, .ref m0a72, .ref m0a73, .ref m0a74, .ref m0a75, .long 0])), (m0a1, .inl (cI g, 6, .inl (fun _ => 0))), (m0a5, .inl (cI g, 6, .inl (fun _ => (-9))))]) (hS : va_S (laA s) s.heap H locs) (hl : lv_has ls 4 [(3, .int 0), (2, .ref m0), (1, .ref x0), (0, .ref b)]) {Q : State → Prop} (kend : ∀ (H : Heap) (locs : List Loc) (ls : Array Slot), va_S (laA s) s.heap H locs → lv_has ls 4 [(0, .ref b), (3, .int 0)] → W p l e room_1 s m #[Value.ref b] below meth c H locs 141 11384 Q (F0 m 1955 ls [])) : W p l e room_1 s m #[Value.ref b] below meth c H locs 141 11384 Q (F0 m 987 ls []) := by
  have hx := X.1
  have hb := X.2.1
  have hml := X.2.2.1
  have hown := X.2.2.2.1
  have hts := X.2.2.2.2.1
  refine lv_aload_n hx hb dL_law_987 rfl (lv_at hl 2 rfl) ?_
  refine lv_aload_n hx hb dL_law_988 rfl (lv_at hl 3 rfl) ?_
  refine lv_iload_n hx hb dL_law_989 rfl (lv_at hl 0 rfl) ?_
  refine lv_iconst (v := 1) hx hb dL_law_990 (by decide) ?_
  refine lv_iadd hx hb dL_law_991 ?_
  refine lv_topk (v := 1) (by decide) ?_
  refine va_sld hx hb hX hbl hbA hS (by unfold vp_in; decide) dL_law_992 ?_
  refine lv_topk (v := scr 1) rfl ?_
  refine lv_aload_n hx hb dL_law_993 rfl (lv_at hl 3 rfl) ?_
  refine lv_iload_n hx hb dL_law_994 rfl (lv_at hl 0 rfl) ?_
  refine lv_iconst (v := 2) hx hb dL_law_995 (by decide) ?_
  refine lv_iadd hx hb dL_law_996 ?_
  refine lv_topk (v := 2) (by decide) ?_
  refine va_sld hx hb hX hbl hbA hS (by unfold vp_in; decide) dL_law_997 ?_
  refine lv_topk (v := scr 2) rfl ?_
  refine lv_aload_n hx hb dL_law_998 rfl (lv_at hl 3 rfl) ?_
  refine lv_iload_n hx hb dL_law_999 rfl (lv_at hl 0 rfl) ?_
  refine lv_iconst (v := 3) hx hb dL_law_1000 (by decide) ?_
  refine lv_iadd hx hb dL_law_1001 ?_
  refine lv_topk (v := 3) (by decide) ?_
  refine va_sld hx hb hX hbl hbA hS (by unfold vp_in; decide) dL_law_1002 ?_
  refine lv_topk (v := scr 3) rfl ?_
  refine kVi (As := [.int (scr 1), .int (scr 2), .int (scr 3)]) (rest := []) (wr := [(m0, .inr (12, [.int 0, .ref m0a1, .int 0, .long 0, .int 0, .ref m0a5, .ref m0a6, .ref m0a7, .ref m0a8, .ref m0a9, .int 0, .ref m0a11, .ref m0a12, .ref m0a13, .ref m0a14, .ref m0a15, .ref m0a16, .int 0, .ref m0a18, .ref m0a19, .ref m0a20, .ref m0a21, .ref m0a22, .int 0, .ref m0a24, .ref m0a25, .ref m0a26, .int 0, .ref m0a28, .ref m0a29, .ref m0a30, .ref m0a31, .int 0, .ref m0a33, .ref m0a34, .ref m0a35, .ref m0a36, .ref m0a37, .ref m0a38, .ref m0a39, .ref m0a40, .ref m0a41, .ref m0a42, .ref m0a43, .ref m0a44, .ref m0a45, .ref m0a46, .ref m0a47, .int 0, .ref m0a49, .ref m0a50, .ref m0a51, .int 0, .ref m0a53, .ref m0a54, .ref m0a55, .ref m0a56, .ref m0a57, .ref m0a58, .ref m0a59, .ref m0a60, .ref m0a61, .ref m0a62, .ref m0a63, .long 0, .int 0, .int (-9), .ref m0a67, .ref m0a68, .ref m0a69, .ref m0a70, .ref m0a71, .ref m0a72, .ref m0a73, .ref m0a74, .ref m0a75, .long 0])), (m0a1, .inl (cI g, 6, .inl (fun _ => 0))), (m0a5, .inl (cI g, 6, .inl (fun _ => (-9))))]) X (c_X11_line l g x0 (scr 1) (scr 2) (scr 3) xr xt xg xb xp xu xm xd xw xh xa xs xf xrs xrp xma0 xma1 xma2 xma3 xma4 xma5 xma6 xma7 xma8 xma9 xma10 xma11 xma12) ok_X11_line okv_X11_line q_786 rfl hK hP hD hS hA hZ hl.1 [0, 1, 2, 3, 4] [5, 6, 7] rfl rfl rfl rfl rfl 0 11 rfl rfl rfl (Nat.le_of_ble_eq_true rfl) ⟨Nat.le_of_ble_eq_true rfl, Nat.le_of_ble_eq_true rfl⟩ dL_law_1003 ⟨Nat.le_of_ble_eq_true rfl, Nat.le_of_ble_eq_true rfl⟩ (fun r_1 w1 H locs hw_2 hP hD hS => ?_)
  have hP := pSub hP (ws' := [(m0, .inr (12, [.int 0, .ref m0a1, .int 0, .long 0, .int 0, .ref m0a5, .ref m0a6, .ref m0a7, .ref m0a8, .ref m0a9, .int 0, .ref m0a11, .ref m0a12, .ref m0a13, .ref m0a14, .ref m0a15, .ref m0a16, .int 0, .ref m0a18, .ref m0a19, .ref m0a20, .ref m0a21, .ref m0a22, .int 0, .ref m0a24, .ref m0a25, .ref m0a26, .int 0, .ref m0a28, .ref m0a29, .ref m0a30, .ref m0a31, .int 0, .ref m0a33, .ref m0a34, .ref m0a35, .ref m0a36, .ref m0a37, .ref m0a38, .ref m0a39, .ref m0a40, .ref m0a41, .ref m0a42, .ref m0a43, .ref m0a44, .ref m0a45, .ref m0a46, .ref m0a47, .int 0, .ref m0a49, .ref m0a50, .ref m0a51, .int 0, .ref m0a53, .ref m0a54, .ref m0a55, .ref m0a56, .ref m0a57, .ref m0a58, .ref m0a59, .ref m0a60, .ref m0a61, .ref m0a62, .ref m0a63, .long 0, .int 0, .int (-9), .ref m0a67, .ref m0a68, .ref m0a69, .ref m0a70, .ref m0a71, .ref m0a72, .ref m0a73, .ref m0a74, .ref m0a75, .long 0])), (m0a1, .inl (cI g, 6, .inl (fun _ => 0))), (m0a5, .inl (cI g, 6, .inl (fun _ => (-9))))]) [0, 1, 2] rfl
  have hD := hD.sub (ws' := [(m0, .inr (12, [.int 0, .ref m0a1, .int 0, .long 0, .int 0, .ref m0a5, .ref m0a6, .ref m0a7, .ref m0a8, .ref m0a9, .int 0, .ref m0a11, .ref m0a12, .ref m0a13, .ref m0a14, .ref m0a15, .ref m0a16, .int 0, .ref m0a18, .ref m0a19, .ref m0a20, .ref m0a21, .ref m0a22, .int 0, .ref m0a24, .ref m0a25, .ref m0a26, .int 0, .ref m0a28, .ref m0a29, .ref m0a30, .ref m0a31, .int 0, .ref m0a33, .ref m0a34, .ref m0a35, .ref m0a36, .ref m0a37, .ref m0a38, .ref m0a39, .ref m0a40, .ref m0a41, .ref m0a42, .ref m0a43, .ref m0a44, .ref m0a45, .ref m0a46, .ref m0a47, .int 0, .ref m0a49, .ref m0a50, .ref m0a51, .int 0, .ref m0a53, .ref m0a54, .ref m0a55, .ref m0a56, .ref m0a57, .ref m0a58, .ref m0a59, .ref m0a60, .ref m0a61, .ref m0a62, .ref m0a63, .long 0, .int 0, .int (-9), .ref m0a67, .ref m0a68, .ref m0a69, .ref m0a70, .ref m0a71, .ref m0a72, .ref m0a73, .ref m0a74, .ref m0a75, .long 0])), (m0a1, .inl (cI g, 6, .inl (fun _ => 0))), (m0a5, .inl (cI g, 6, .inl (fun _ => (-9))))]) [0, 1, 2] rfl rfl
  refine lv_aload_n hx hb dL_law_1006 rfl (lv_at hl 1 rfl) ?_
  refine lv_aload_n hx hb dL_law_1007 rfl (lv_at hl 3 rfl) ?_
  refine lv_iload_n hx hb dL_law_1008 rfl (lv_at hl 0 rfl) ?_
  refine lv_iconst (v := 1) hx hb dL_law_1009 (by decide) ?_
  refine lv_iadd hx hb dL_law_1010 ?_
  refine lv_topk (v := 1) (by decide) ?_
  refine va_sld hx hb hX hbl hbA hS (by unfold vp_in; decide) dL_law_1011 ?_
  refine lv_topk (v := scr 1) rfl ?_
  refine lv_aload_n hx hb dL_law_1012 rfl (lv_at hl 3 rfl) ?_
  refine lv_iload_n hx hb dL_law_1013 rfl (lv_at hl 0 rfl) ?_
  refine lv_iconst (v := 2) hx hb dL_law_1014 (by decide) ?_
  refine lv_iadd hx hb dL_law_1015 ?_
  refine lv_topk (v := 2) (by decide) ?_
  refine va_sld hx hb hX hbl hbA hS (by unfold vp_in; decide) dL_law_1016 ?_
  refine lv_topk (v := scr 2) rfl ?_
  refine lv_aload_n hx hb dL_law_1017 rfl (lv_at hl 3 rfl) ?_
  refine lv_iload_n hx hb dL_law_1018 rfl (lv_at hl 0 rfl) ?_
  refine lv_iconst (v := 3) hx hb dL_law_1019 (by decide) ?_
  refine lv_iadd hx hb dL_law_1020 ?_
  refine lv_topk (v := 3) (by decide) ?_
  refine va_sld hx hb hX hbl hbA hS (by unfold vp_in; decide) dL_law_1021 ?_
  refine lv_topk (v := scr 3) rfl ?_
  refine kVi (As := [.int (scr 1), .int (scr 2), .int (scr 3)]) (rest := [.int r_1]) (wr := []) X (c_X12_line l g m0 (scr 1) (scr 2) (scr 3) m0a1 m0a5 m0a6 m0a7 m0a8 m0a9 m0a11 m0a12 m0a13 m0a14 m0a15 m0a16 m0a18 m0a19 m0a20 m0a21 m0a22 m0a24 m0a25 m0a26 m0a28 m0a29 m0a30 m0a31 m0a33 m0a34 m0a35 m0a36 m0a37 m0a38 m0a39 m0a40 m0a41 m0a42 m0a43 m0a44 m0a45 m0a46 m0a47 m0a49 m0a50 m0a51 m0a53 m0a54 m0a55 m0a56 m0a57 m0a58 m0a59 m0a60 m0a61 m0a62 m0a63 m0a67 m0a68 m0a69 m0a70 m0a71 m0a72 m0a73 m0a74 m0a75) ok_X12_line okv_X12_line q_1863 rfl hK hP hD hS hA hZ hl.1 [0, 1, 2] [] rfl rfl rfl rfl rfl 0 12 rfl rfl rfl (Nat.le_of_ble_eq_true rfl) ⟨Nat.le_of_ble_eq_true rfl, Nat.le_of_ble_eq_true rfl⟩ dL_law_1022 ⟨Nat.le_of_ble_eq_true rfl, Nat.le_of_ble_eq_true rfl⟩ (fun r_3 w1 H locs hw_4 hP hD hS => ?_)
  have hP := pSub hP (ws' := []) [] rfl
  have hD := hD.sub (ws' := []) [] rfl rfl
  refine lv_icmp_eq (tgt := 1955) hx hb dL_law_1025 (by decide) (fun _ => ?_) (fun c => absurd (hw_2.trans ((eq_line g x0 (scr 1) (scr 2) (scr 3) xr xt xg xb xp xu xm xd xw xh xa xs xf xrs xrp xma0 xma1 xma2 xma3 xma4 xma5 xma6 xma7 xma8 xma9 xma10 xma11 xma12 m0 m0a1 m0a5 m0a6 m0a7 m0a8 m0a9 m0a11 m0a12 m0a13 m0a14 m0a15 m0a16 m0a18 m0a19 m0a20 m0a21 m0a22 m0a24 m0a25 m0a26 m0a28 m0a29 m0a30 m0a31 m0a33 m0a34 m0a35 m0a36 m0a37 m0a38 m0a39 m0a40 m0a41 m0a42 m0a43 m0a44 m0a45 m0a46 m0a47 m0a49 m0a50 m0a51 m0a53 m0a54 m0a55 m0a56 m0a57 m0a58 m0a59 m0a60 m0a61 m0a62 m0a63 m0a67 m0a68 m0a69 m0a70 m0a71 m0a72 m0a73 m0a74 m0a75).trans hw_4.symm)) c)
  exact kend _ _ _ hS (lv_sub hl [3, 0] rfl)
set_option maxHeartbeats 4000000 in
set_option maxRecDepth 100000 in
theorem law_20 (l : Launch) (g : GG) {p : Program} {e : Env} {s : State} {m : MethodId} {below : List Frame} {meth : Method} {c : Code} {b : Nat} {scr : Nat → Int32} (X : En p s m #[Value.ref b] meth c cL_law 4 ret R_law meth.name) (hK : va_K g.1 classes (tyG g) s) (hA : ∀ q, s.heap.size ≤ q → laA s q) (hZ : stS g (laA s) s s.heap) (hX : va_X b 6 scr s s.heap) (hbl : b < s.heap.size) (hbA : ¬ laA s b) (x0 : Nat) (xr : Nat) (xt : Nat) (xg : Nat) (xb : Nat) (xp : Nat) (xu : Nat) (xm : Nat) (xd : Nat) (xw : Nat) (xh : Nat) (xa : Nat) (xs : Nat) (xf : Nat) (xma0 : Nat) (xma1 : Nat) (xma2 : Nat) (xma3 : Nat) (xma4 : Nat) (xma5 : Nat) (xma6 : Nat) (xma7 : Nat) (xma8 : Nat) (xma9 : Nat) (xma10 : Nat) (xma11 : Nat) (xma12 : Nat) (m0 : Nat) (m0a1 : Nat) (m0a5 : Nat) (m0a6 : Nat) (m0a7 : Nat) (m0a8 : Nat) (m0a9 : Nat) (m0a11 : Nat) (m0a12 : Nat) (m0a13 : Nat) (m0a14 : Nat) (m0a15 : Nat) (m0a16 : Nat) (m0a18 : Nat) (m0a19 : Nat) (m0a20 : Nat) (m0a21 : Nat) (m0a22 : Nat) (m0a24 : Nat) (m0a25 : Nat) (m0a26 : Nat) (m0a28 : Nat) (m0a29 : Nat) (m0a30 : Nat) (m0a31 : Nat) (m0a33 : Nat) (m0a34 : Nat) (m0a35 : Nat) (m0a36 : Nat) (m0a37 : Nat) (m0a38 : Nat) (m0a39 : Nat) (m0a40 : Nat) (m0a41 : Nat) (m0a42 : Nat) (m0a43 : Nat) (m0a44 : Nat) (m0a45 : Nat) (m0a46 : Nat) (m0a47 : Nat) (m0a49 : Nat) (m0a50 : Nat) (m0a51 : Nat) (m0a53 : Nat) (m0a54 : Nat) (m0a55 : Nat) (m0a56 : Nat) (m0a57 : Nat) (m0a58 : Nat) (m0a59 : Nat) (m0a60 : Nat) (m0a61 : Nat) (m0a62 : Nat) (m0a63 : Nat) (m0a67 : Nat) (m0a68 : Nat) (m0a69 : Nat) (m0a70 : Nat) (m0a71 : Nat) (m0a72 : Nat) (m0a73 : Nat) (m0a74 : Nat) (m0a75 : Nat) {H : Heap} {locs : List Loc} {ls : Array Slot} (hP : va_P g.1 classes [(x0, .inr (11, [.ref xr, .ref xt, .ref xg, .ref xb, .ref xp, .ref xu, .ref xm, .ref xd, .ref xw, .ref xh, .ref xa, .ref xs, .ref xf, .int 0, .int 0, .long 0, .long 0, .int 0])), (xm, .inr (4, [.ref xma0, .ref xma1, .ref xma2, .ref xma3, .ref xma4, .ref xma5, .ref xma6, .ref xma7, .ref xma8, .ref xma9, .ref xma10, .ref xma11, .ref xma12, .int 0])), (m0, .inr (12, [.int 0, .ref m0a1, .int 0, .long 0, .int 0, .ref m0a5, .ref m0a6, .ref m0a7, .ref m0a8, .ref m0a9, .int 0, .ref m0a11, .ref m0a12, .ref m0a13, .ref m0a14, .ref m0a15, .ref m0a16, .int 0, .ref m0a18, .ref m0a19, .ref m0a20, .ref m0a21, .ref m0a22, .int 0, .ref m0a24, .ref m0a25, .ref m0a26, .int 0, .ref m0a28, .ref m0a29, .ref m0a30, .ref m0a31, .int 0, .ref m0a33, .ref m0a34, .ref m0a35, .ref m0a36, .ref m0a37, .ref m0a38, .ref m0a39, .ref m0a40, .ref m0a41, .ref m0a42, .ref m0a43, .ref m0a44, .ref m0a45, .ref m0a46, .ref m0a47, .int 0, .ref m0a49, .ref m0a50, .ref m0a51, .int 0, .ref m0a53, .ref m0a54, .ref m0a55, .ref m0a56, .ref m0a57, .ref m0a58, .ref m0a59, .ref m0a60, .ref m0a61, .ref m0a62, .ref m0a63, .long 0, .int 0, .int (-9), .ref m0a67, .ref m0a68, .ref m0a69, .ref m0a70, .ref m0a71, .ref m0a72, .ref m0a73, .ref m0a74, .ref m0a75, .long 0]))] H) (hD : va_D (laA s) [(x0, .inr (11, [.ref xr, .ref xt, .ref xg, .ref xb, .ref xp, .ref xu, .ref xm, .ref xd, .ref xw, .ref xh, .ref xa, .ref xs, .ref xf, .int 0, .int 0, .long 0, .long 0, .int 0])), (xm, .inr (4, [.ref xma0, .ref xma1, .ref xma2, .ref xma3, .ref xma4, .ref xma5, .ref xma6, .ref xma7, .ref xma8, .ref xma9, .ref xma10, .ref xma11, .ref xma12, .int 0])), (m0, .inr (12, [.int 0, .ref m0a1, .int 0, .long 0, .int 0, .ref m0a5, .ref m0a6, .ref m0a7, .ref m0a8, .ref m0a9, .int 0, .ref m0a11, .ref m0a12, .ref m0a13, .ref m0a14, .ref m0a15, .ref m0a16, .int 0, .ref m0a18, .ref m0a19, .ref m0a20, .ref m0a21, .ref m0a22, .int 0, .ref m0a24, .ref m0a25, .ref m0a26, .int 0, .ref m0a28, .ref m0a29, .ref m0a30, .ref m0a31, .int 0, .ref m0a33, .ref m0a34, .ref m0a35, .ref m0a36, .ref m0a37, .ref m0a38, .ref m0a39, .ref m0a40, .ref m0a41, .ref m0a42, .ref m0a43, .ref m0a44, .ref m0a45, .ref m0a46, .ref m0a47, .int 0, .ref m0a49, .ref m0a50, .ref m0a51, .int 0, .ref m0a53, .ref m0a54, .ref m0a55, .ref m0a56, .ref m0a57, .ref m0a58, .ref m0a59, .ref m0a60, .ref m0a61, .ref m0a62, .ref m0a63, .long 0, .int 0, .int (-9), .ref m0a67, .ref m0a68, .ref m0a69, .ref m0a70, .ref m0a71, .ref m0a72, .ref m0a73, .ref m0a74, .ref m0a75, .long 0]))]) (hS : va_S (laA s) s.heap H locs) (hl : lv_has ls 4 [(3, .int 0), (2, .ref m0), (1, .ref x0), (0, .ref b)]) {Q : State → Prop} (kend : ∀ (H : Heap) (locs : List Loc) (ls : Array Slot), va_S (laA s) s.heap H locs → lv_has ls 4 [(0, .ref b), (3, .int 0)] → W p l e room_1 s m #[Value.ref b] below meth c H locs 141 11384 Q (F0 m 1955 ls [])) : W p l e room_1 s m #[Value.ref b] below meth c H locs 141 11384 Q (F0 m 1030 ls []) := by
  have hx := X.1
  have hb := X.2.1
  have hml := X.2.2.1
  have hown := X.2.2.2.1
  have hts := X.2.2.2.2.1
  refine lv_aload_n hx hb dL_law_1030 rfl (lv_at hl 2 rfl) ?_
  refine lv_aload_n hx hb dL_law_1031 rfl (lv_at hl 3 rfl) ?_
  refine lv_iload_n hx hb dL_law_1032 rfl (lv_at hl 0 rfl) ?_
  refine lv_iconst (v := 1) hx hb dL_law_1033 (by decide) ?_
  refine lv_iadd hx hb dL_law_1034 ?_
  refine lv_topk (v := 1) (by decide) ?_
  refine va_sld hx hb hX hbl hbA hS (by unfold vp_in; decide) dL_law_1035 ?_
  refine lv_topk (v := scr 1) rfl ?_
  refine lv_aload_n hx hb dL_law_1036 rfl (lv_at hl 3 rfl) ?_
  refine lv_iload_n hx hb dL_law_1037 rfl (lv_at hl 0 rfl) ?_
  refine lv_iconst (v := 2) hx hb dL_law_1038 (by decide) ?_
  refine lv_iadd hx hb dL_law_1039 ?_
  refine lv_topk (v := 2) (by decide) ?_
  refine va_sld hx hb hX hbl hbA hS (by unfold vp_in; decide) dL_law_1040 ?_
  refine lv_topk (v := scr 2) rfl ?_
  refine kVi (As := [.int (scr 1), .int (scr 2)]) (rest := []) (wr := [(m0, .inr (12, [.int 0, .ref m0a1, .int 0, .long 0, .int 0, .ref m0a5, .ref m0a6, .ref m0a7, .ref m0a8, .ref m0a9, .int 0, .ref m0a11, .ref m0a12, .ref m0a13, .ref m0a14, .ref m0a15, .ref m0a16, .int 0, .ref m0a18, .ref m0a19, .ref m0a20, .ref m0a21, .ref m0a22, .int 0, .ref m0a24, .ref m0a25, .ref m0a26, .int 0, .ref m0a28, .ref m0a29, .ref m0a30, .ref m0a31, .int 0, .ref m0a33, .ref m0a34, .ref m0a35, .ref m0a36, .ref m0a37, .ref m0a38, .ref m0a39, .ref m0a40, .ref m0a41, .ref m0a42, .ref m0a43, .ref m0a44, .ref m0a45, .ref m0a46, .ref m0a47, .int 0, .ref m0a49, .ref m0a50, .ref m0a51, .int 0, .ref m0a53, .ref m0a54, .ref m0a55, .ref m0a56, .ref m0a57, .ref m0a58, .ref m0a59, .ref m0a60, .ref m0a61, .ref m0a62, .ref m0a63, .long 0, .int 0, .int (-9), .ref m0a67, .ref m0a68, .ref m0a69, .ref m0a70, .ref m0a71, .ref m0a72, .ref m0a73, .ref m0a74, .ref m0a75, .long 0]))]) X (c_X11_ramp l g x0 (scr 1) (scr 2) xr xt xg xb xp xu xm xd xw xh xa xs xf xma0 xma1 xma2 xma3 xma4 xma5 xma6 xma7 xma8 xma9 xma10 xma11 xma12) ok_X11_ramp okv_X11_ramp q_878 rfl hK hP hD hS hA hZ hl.1 [0, 1] [2] rfl rfl rfl rfl rfl 0 11 rfl rfl rfl (Nat.le_of_ble_eq_true rfl) ⟨Nat.le_of_ble_eq_true rfl, Nat.le_of_ble_eq_true rfl⟩ dL_law_1041 ⟨Nat.le_of_ble_eq_true rfl, Nat.le_of_ble_eq_true rfl⟩ (fun r_1 w1 H locs hw_2 hP hD hS => ?_)
  have hP := pSub hP (ws' := [(m0, .inr (12, [.int 0, .ref m0a1, .int 0, .long 0, .int 0, .ref m0a5, .ref m0a6, .ref m0a7, .ref m0a8, .ref m0a9, .int 0, .ref m0a11, .ref m0a12, .ref m0a13, .ref m0a14, .ref m0a15, .ref m0a16, .int 0, .ref m0a18, .ref m0a19, .ref m0a20, .ref m0a21, .ref m0a22, .int 0, .ref m0a24, .ref m0a25, .ref m0a26, .int 0, .ref m0a28, .ref m0a29, .ref m0a30, .ref m0a31, .int 0, .ref m0a33, .ref m0a34, .ref m0a35, .ref m0a36, .ref m0a37, .ref m0a38, .ref m0a39, .ref m0a40, .ref m0a41, .ref m0a42, .ref m0a43, .ref m0a44, .ref m0a45, .ref m0a46, .ref m0a47, .int 0, .ref m0a49, .ref m0a50, .ref m0a51, .int 0, .ref m0a53, .ref m0a54, .ref m0a55, .ref m0a56, .ref m0a57, .ref m0a58, .ref m0a59, .ref m0a60, .ref m0a61, .ref m0a62, .ref m0a63, .long 0, .int 0, .int (-9), .ref m0a67, .ref m0a68, .ref m0a69, .ref m0a70, .ref m0a71, .ref m0a72, .ref m0a73, .ref m0a74, .ref m0a75, .long 0]))]) [0] rfl
  have hD := hD.sub (ws' := [(m0, .inr (12, [.int 0, .ref m0a1, .int 0, .long 0, .int 0, .ref m0a5, .ref m0a6, .ref m0a7, .ref m0a8, .ref m0a9, .int 0, .ref m0a11, .ref m0a12, .ref m0a13, .ref m0a14, .ref m0a15, .ref m0a16, .int 0, .ref m0a18, .ref m0a19, .ref m0a20, .ref m0a21, .ref m0a22, .int 0, .ref m0a24, .ref m0a25, .ref m0a26, .int 0, .ref m0a28, .ref m0a29, .ref m0a30, .ref m0a31, .int 0, .ref m0a33, .ref m0a34, .ref m0a35, .ref m0a36, .ref m0a37, .ref m0a38, .ref m0a39, .ref m0a40, .ref m0a41, .ref m0a42, .ref m0a43, .ref m0a44, .ref m0a45, .ref m0a46, .ref m0a47, .int 0, .ref m0a49, .ref m0a50, .ref m0a51, .int 0, .ref m0a53, .ref m0a54, .ref m0a55, .ref m0a56, .ref m0a57, .ref m0a58, .ref m0a59, .ref m0a60, .ref m0a61, .ref m0a62, .ref m0a63, .long 0, .int 0, .int (-9), .ref m0a67, .ref m0a68, .ref m0a69, .ref m0a70, .ref m0a71, .ref m0a72, .ref m0a73, .ref m0a74, .ref m0a75, .long 0]))]) [0] rfl rfl
  refine lv_aload_n hx hb dL_law_1044 rfl (lv_at hl 1 rfl) ?_
  refine lv_aload_n hx hb dL_law_1045 rfl (lv_at hl 3 rfl) ?_
  refine lv_iload_n hx hb dL_law_1046 rfl (lv_at hl 0 rfl) ?_
  refine lv_iconst (v := 1) hx hb dL_law_1047 (by decide) ?_
  refine lv_iadd hx hb dL_law_1048 ?_
  refine lv_topk (v := 1) (by decide) ?_
  refine va_sld hx hb hX hbl hbA hS (by unfold vp_in; decide) dL_law_1049 ?_
  refine lv_topk (v := scr 1) rfl ?_
  refine lv_aload_n hx hb dL_law_1050 rfl (lv_at hl 3 rfl) ?_
  refine lv_iload_n hx hb dL_law_1051 rfl (lv_at hl 0 rfl) ?_
  refine lv_iconst (v := 2) hx hb dL_law_1052 (by decide) ?_
  refine lv_iadd hx hb dL_law_1053 ?_
  refine lv_topk (v := 2) (by decide) ?_
  refine va_sld hx hb hX hbl hbA hS (by unfold vp_in; decide) dL_law_1054 ?_
  refine lv_topk (v := scr 2) rfl ?_
  refine kVi (As := [.int (scr 1), .int (scr 2)]) (rest := [.int r_1]) (wr := []) X (c_X12_ramp l g m0 (scr 1) (scr 2) m0a1 m0a5 m0a6 m0a7 m0a8 m0a9 m0a11 m0a12 m0a13 m0a14 m0a15 m0a16 m0a18 m0a19 m0a20 m0a21 m0a22 m0a24 m0a25 m0a26 m0a28 m0a29 m0a30 m0a31 m0a33 m0a34 m0a35 m0a36 m0a37 m0a38 m0a39 m0a40 m0a41 m0a42 m0a43 m0a44 m0a45 m0a46 m0a47 m0a49 m0a50 m0a51 m0a53 m0a54 m0a55 m0a56 m0a57 m0a58 m0a59 m0a60 m0a61 m0a62 m0a63 m0a67 m0a68 m0a69 m0a70 m0a71 m0a72 m0a73 m0a74 m0a75) ok_X12_ramp okv_X12_ramp q_1899 rfl hK hP hD hS hA hZ hl.1 [0] [] rfl rfl rfl rfl rfl 0 12 rfl rfl rfl (Nat.le_of_ble_eq_true rfl) ⟨Nat.le_of_ble_eq_true rfl, Nat.le_of_ble_eq_true rfl⟩ dL_law_1055 ⟨Nat.le_of_ble_eq_true rfl, Nat.le_of_ble_eq_true rfl⟩ (fun r_3 w1 H locs hw_4 hP hD hS => ?_)
  have hP := pSub hP (ws' := []) [] rfl
  have hD := hD.sub (ws' := []) [] rfl rfl
  refine lv_icmp_eq (tgt := 1955) hx hb dL_law_1058 (by decide) (fun _ => ?_) (fun c => absurd (hw_2.trans ((eq_ramp g x0 (scr 1) (scr 2) xr xt xg xb xp xu xm xd xw xh xa xs xf xma0 xma1 xma2 xma3 xma4 xma5 xma6 xma7 xma8 xma9 xma10 xma11 xma12 m0 m0a1 m0a5 m0a6 m0a7 m0a8 m0a9 m0a11 m0a12 m0a13 m0a14 m0a15 m0a16 m0a18 m0a19 m0a20 m0a21 m0a22 m0a24 m0a25 m0a26 m0a28 m0a29 m0a30 m0a31 m0a33 m0a34 m0a35 m0a36 m0a37 m0a38 m0a39 m0a40 m0a41 m0a42 m0a43 m0a44 m0a45 m0a46 m0a47 m0a49 m0a50 m0a51 m0a53 m0a54 m0a55 m0a56 m0a57 m0a58 m0a59 m0a60 m0a61 m0a62 m0a63 m0a67 m0a68 m0a69 m0a70 m0a71 m0a72 m0a73 m0a74 m0a75).trans hw_4.symm)) c)
  exact kend _ _ _ hS (lv_sub hl [3, 0] rfl)
set_option maxHeartbeats 4000000 in
set_option maxRecDepth 100000 in
theorem law_21 (l : Launch) (g : GG) {p : Program} {e : Env} {s : State} {m : MethodId} {below : List Frame} {meth : Method} {c : Code} {b : Nat} {scr : Nat → Int32} (X : En p s m #[Value.ref b] meth c cL_law 4 ret R_law meth.name) (hK : va_K g.1 classes (tyG g) s) (hA : ∀ q, s.heap.size ≤ q → laA s q) (hZ : stS g (laA s) s s.heap) (hX : va_X b 6 scr s s.heap) (hbl : b < s.heap.size) (hbA : ¬ laA s b) (x0 : Nat) (xr : Nat) (xt : Nat) (xg : Nat) (xb : Nat) (xp : Nat) (xu : Nat) (xm : Nat) (xd : Nat) (xw : Nat) (xh : Nat) (xa : Nat) (xs : Nat) (xf : Nat) (xma0 : Nat) (xma1 : Nat) (xma2 : Nat) (xma3 : Nat) (xma4 : Nat) (xma5 : Nat) (xma6 : Nat) (xma7 : Nat) (xma8 : Nat) (xma9 : Nat) (xma10 : Nat) (xma11 : Nat) (xma12 : Nat) (m0 : Nat) (m0a1 : Nat) (m0a5 : Nat) (m0a6 : Nat) (m0a7 : Nat) (m0a8 : Nat) (m0a9 : Nat) (m0a11 : Nat) (m0a12 : Nat) (m0a13 : Nat) (m0a14 : Nat) (m0a15 : Nat) (m0a16 : Nat) (m0a18 : Nat) (m0a19 : Nat) (m0a20 : Nat) (m0a21 : Nat) (m0a22 : Nat) (m0a24 : Nat) (m0a25 : Nat) (m0a26 : Nat) (m0a28 : Nat) (m0a29 : Nat) (m0a30 : Nat) (m0a31 : Nat) (m0a33 : Nat) (m0a34 : Nat) (m0a35 : Nat) (m0a36 : Nat) (m0a37 : Nat) (m0a38 : Nat) (m0a39 : Nat) (m0a40 : Nat) (m0a41 : Nat) (m0a42 : Nat) (m0a43 : Nat) (m0a44 : Nat) (m0a45 : Nat) (m0a46 : Nat) (m0a47 : Nat) (m0a49 : Nat) (m0a50 : Nat) (m0a51 : Nat) (m0a53 : Nat) (m0a54 : Nat) (m0a55 : Nat) (m0a56 : Nat) (m0a57 : Nat) (m0a58 : Nat) (m0a59 : Nat) (m0a60 : Nat) (m0a61 : Nat) (m0a62 : Nat) (m0a63 : Nat) (m0a67 : Nat) (m0a68 : Nat) (m0a69 : Nat) (m0a70 : Nat) (m0a71 : Nat) (m0a72 : Nat) (m0a73 : Nat) (m0a74 : Nat) (m0a75 : Nat) {H : Heap} {locs : List Loc} {ls : Array Slot} (hP : va_P g.1 classes [(x0, .inr (11, [.ref xr, .ref xt, .ref xg, .ref xb, .ref xp, .ref xu, .ref xm, .ref xd, .ref xw, .ref xh, .ref xa, .ref xs, .ref xf, .int 0, .int 0, .long 0, .long 0, .int 0])), (xm, .inr (4, [.ref xma0, .ref xma1, .ref xma2, .ref xma3, .ref xma4, .ref xma5, .ref xma6, .ref xma7, .ref xma8, .ref xma9, .ref xma10, .ref xma11, .ref xma12, .int 0])), (m0, .inr (12, [.int 0, .ref m0a1, .int 0, .long 0, .int 0, .ref m0a5, .ref m0a6, .ref m0a7, .ref m0a8, .ref m0a9, .int 0, .ref m0a11, .ref m0a12, .ref m0a13, .ref m0a14, .ref m0a15, .ref m0a16, .int 0, .ref m0a18, .ref m0a19, .ref m0a20, .ref m0a21, .ref m0a22, .int 0, .ref m0a24, .ref m0a25, .ref m0a26, .int 0, .ref m0a28, .ref m0a29, .ref m0a30, .ref m0a31, .int 0, .ref m0a33, .ref m0a34, .ref m0a35, .ref m0a36, .ref m0a37, .ref m0a38, .ref m0a39, .ref m0a40, .ref m0a41, .ref m0a42, .ref m0a43, .ref m0a44, .ref m0a45, .ref m0a46, .ref m0a47, .int 0, .ref m0a49, .ref m0a50, .ref m0a51, .int 0, .ref m0a53, .ref m0a54, .ref m0a55, .ref m0a56, .ref m0a57, .ref m0a58, .ref m0a59, .ref m0a60, .ref m0a61, .ref m0a62, .ref m0a63, .long 0, .int 0, .int (-9), .ref m0a67, .ref m0a68, .ref m0a69, .ref m0a70, .ref m0a71, .ref m0a72, .ref m0a73, .ref m0a74, .ref m0a75, .long 0]))] H) (hD : va_D (laA s) [(x0, .inr (11, [.ref xr, .ref xt, .ref xg, .ref xb, .ref xp, .ref xu, .ref xm, .ref xd, .ref xw, .ref xh, .ref xa, .ref xs, .ref xf, .int 0, .int 0, .long 0, .long 0, .int 0])), (xm, .inr (4, [.ref xma0, .ref xma1, .ref xma2, .ref xma3, .ref xma4, .ref xma5, .ref xma6, .ref xma7, .ref xma8, .ref xma9, .ref xma10, .ref xma11, .ref xma12, .int 0])), (m0, .inr (12, [.int 0, .ref m0a1, .int 0, .long 0, .int 0, .ref m0a5, .ref m0a6, .ref m0a7, .ref m0a8, .ref m0a9, .int 0, .ref m0a11, .ref m0a12, .ref m0a13, .ref m0a14, .ref m0a15, .ref m0a16, .int 0, .ref m0a18, .ref m0a19, .ref m0a20, .ref m0a21, .ref m0a22, .int 0, .ref m0a24, .ref m0a25, .ref m0a26, .int 0, .ref m0a28, .ref m0a29, .ref m0a30, .ref m0a31, .int 0, .ref m0a33, .ref m0a34, .ref m0a35, .ref m0a36, .ref m0a37, .ref m0a38, .ref m0a39, .ref m0a40, .ref m0a41, .ref m0a42, .ref m0a43, .ref m0a44, .ref m0a45, .ref m0a46, .ref m0a47, .int 0, .ref m0a49, .ref m0a50, .ref m0a51, .int 0, .ref m0a53, .ref m0a54, .ref m0a55, .ref m0a56, .ref m0a57, .ref m0a58, .ref m0a59, .ref m0a60, .ref m0a61, .ref m0a62, .ref m0a63, .long 0, .int 0, .int (-9), .ref m0a67, .ref m0a68, .ref m0a69, .ref m0a70, .ref m0a71, .ref m0a72, .ref m0a73, .ref m0a74, .ref m0a75, .long 0]))]) (hS : va_S (laA s) s.heap H locs) (hl : lv_has ls 4 [(3, .int 0), (2, .ref m0), (1, .ref x0), (0, .ref b)]) {Q : State → Prop} (kend : ∀ (H : Heap) (locs : List Loc) (ls : Array Slot), va_S (laA s) s.heap H locs → lv_has ls 4 [(0, .ref b), (3, .int 0)] → W p l e room_1 s m #[Value.ref b] below meth c H locs 141 11384 Q (F0 m 1955 ls [])) : W p l e room_1 s m #[Value.ref b] below meth c H locs 141 11384 Q (F0 m 1063 ls []) := by
  have hx := X.1
  have hb := X.2.1
  have hml := X.2.2.1
  have hown := X.2.2.2.1
  have hts := X.2.2.2.2.1
  refine lv_aload_n hx hb dL_law_1063 rfl (lv_at hl 2 rfl) ?_
  refine lv_aload_n hx hb dL_law_1064 rfl (lv_at hl 3 rfl) ?_
  refine lv_iload_n hx hb dL_law_1065 rfl (lv_at hl 0 rfl) ?_
  refine lv_iconst (v := 1) hx hb dL_law_1066 (by decide) ?_
  refine lv_iadd hx hb dL_law_1067 ?_
  refine lv_topk (v := 1) (by decide) ?_
  refine va_sld hx hb hX hbl hbA hS (by unfold vp_in; decide) dL_law_1068 ?_
  refine lv_topk (v := scr 1) rfl ?_
  refine lv_aload_n hx hb dL_law_1069 rfl (lv_at hl 3 rfl) ?_
  refine lv_iload_n hx hb dL_law_1070 rfl (lv_at hl 0 rfl) ?_
  refine lv_iconst (v := 2) hx hb dL_law_1071 (by decide) ?_
  refine lv_iadd hx hb dL_law_1072 ?_
  refine lv_topk (v := 2) (by decide) ?_
  refine va_sld hx hb hX hbl hbA hS (by unfold vp_in; decide) dL_law_1073 ?_
  refine lv_topk (v := scr 2) rfl ?_
  refine kVi (As := [.int (scr 1), .int (scr 2)]) (rest := []) (wr := [(m0, .inr (12, [.int 0, .ref m0a1, .int 0, .long 0, .int 0, .ref m0a5, .ref m0a6, .ref m0a7, .ref m0a8, .ref m0a9, .int 0, .ref m0a11, .ref m0a12, .ref m0a13, .ref m0a14, .ref m0a15, .ref m0a16, .int 0, .ref m0a18, .ref m0a19, .ref m0a20, .ref m0a21, .ref m0a22, .int 0, .ref m0a24, .ref m0a25, .ref m0a26, .int 0, .ref m0a28, .ref m0a29, .ref m0a30, .ref m0a31, .int 0, .ref m0a33, .ref m0a34, .ref m0a35, .ref m0a36, .ref m0a37, .ref m0a38, .ref m0a39, .ref m0a40, .ref m0a41, .ref m0a42, .ref m0a43, .ref m0a44, .ref m0a45, .ref m0a46, .ref m0a47, .int 0, .ref m0a49, .ref m0a50, .ref m0a51, .int 0, .ref m0a53, .ref m0a54, .ref m0a55, .ref m0a56, .ref m0a57, .ref m0a58, .ref m0a59, .ref m0a60, .ref m0a61, .ref m0a62, .ref m0a63, .long 0, .int 0, .int (-9), .ref m0a67, .ref m0a68, .ref m0a69, .ref m0a70, .ref m0a71, .ref m0a72, .ref m0a73, .ref m0a74, .ref m0a75, .long 0]))]) X (c_X11_cellOf l g x0 (scr 1) (scr 2) xr xt xg xb xp xu xm xd xw xh xa xs xf xma0 xma1 xma2 xma3 xma4 xma5 xma6 xma7 xma8 xma9 xma10 xma11 xma12) ok_X11_cellOf okv_X11_cellOf q_907 rfl hK hP hD hS hA hZ hl.1 [0, 1] [2] rfl rfl rfl rfl rfl 0 11 rfl rfl rfl (Nat.le_of_ble_eq_true rfl) ⟨Nat.le_of_ble_eq_true rfl, Nat.le_of_ble_eq_true rfl⟩ dL_law_1074 ⟨Nat.le_of_ble_eq_true rfl, Nat.le_of_ble_eq_true rfl⟩ (fun r_1 w1 H locs hw_2 hP hD hS => ?_)
  have hP := pSub hP (ws' := [(m0, .inr (12, [.int 0, .ref m0a1, .int 0, .long 0, .int 0, .ref m0a5, .ref m0a6, .ref m0a7, .ref m0a8, .ref m0a9, .int 0, .ref m0a11, .ref m0a12, .ref m0a13, .ref m0a14, .ref m0a15, .ref m0a16, .int 0, .ref m0a18, .ref m0a19, .ref m0a20, .ref m0a21, .ref m0a22, .int 0, .ref m0a24, .ref m0a25, .ref m0a26, .int 0, .ref m0a28, .ref m0a29, .ref m0a30, .ref m0a31, .int 0, .ref m0a33, .ref m0a34, .ref m0a35, .ref m0a36, .ref m0a37, .ref m0a38, .ref m0a39, .ref m0a40, .ref m0a41, .ref m0a42, .ref m0a43, .ref m0a44, .ref m0a45, .ref m0a46, .ref m0a47, .int 0, .ref m0a49, .ref m0a50, .ref m0a51, .int 0, .ref m0a53, .ref m0a54, .ref m0a55, .ref m0a56, .ref m0a57, .ref m0a58, .ref m0a59, .ref m0a60, .ref m0a61, .ref m0a62, .ref m0a63, .long 0, .int 0, .int (-9), .ref m0a67, .ref m0a68, .ref m0a69, .ref m0a70, .ref m0a71, .ref m0a72, .ref m0a73, .ref m0a74, .ref m0a75, .long 0]))]) [0] rfl
  have hD := hD.sub (ws' := [(m0, .inr (12, [.int 0, .ref m0a1, .int 0, .long 0, .int 0, .ref m0a5, .ref m0a6, .ref m0a7, .ref m0a8, .ref m0a9, .int 0, .ref m0a11, .ref m0a12, .ref m0a13, .ref m0a14, .ref m0a15, .ref m0a16, .int 0, .ref m0a18, .ref m0a19, .ref m0a20, .ref m0a21, .ref m0a22, .int 0, .ref m0a24, .ref m0a25, .ref m0a26, .int 0, .ref m0a28, .ref m0a29, .ref m0a30, .ref m0a31, .int 0, .ref m0a33, .ref m0a34, .ref m0a35, .ref m0a36, .ref m0a37, .ref m0a38, .ref m0a39, .ref m0a40, .ref m0a41, .ref m0a42, .ref m0a43, .ref m0a44, .ref m0a45, .ref m0a46, .ref m0a47, .int 0, .ref m0a49, .ref m0a50, .ref m0a51, .int 0, .ref m0a53, .ref m0a54, .ref m0a55, .ref m0a56, .ref m0a57, .ref m0a58, .ref m0a59, .ref m0a60, .ref m0a61, .ref m0a62, .ref m0a63, .long 0, .int 0, .int (-9), .ref m0a67, .ref m0a68, .ref m0a69, .ref m0a70, .ref m0a71, .ref m0a72, .ref m0a73, .ref m0a74, .ref m0a75, .long 0]))]) [0] rfl rfl
  refine lv_aload_n hx hb dL_law_1077 rfl (lv_at hl 1 rfl) ?_
  refine lv_aload_n hx hb dL_law_1078 rfl (lv_at hl 3 rfl) ?_
  refine lv_iload_n hx hb dL_law_1079 rfl (lv_at hl 0 rfl) ?_
  refine lv_iconst (v := 1) hx hb dL_law_1080 (by decide) ?_
  refine lv_iadd hx hb dL_law_1081 ?_
  refine lv_topk (v := 1) (by decide) ?_
  refine va_sld hx hb hX hbl hbA hS (by unfold vp_in; decide) dL_law_1082 ?_
  refine lv_topk (v := scr 1) rfl ?_
  refine lv_aload_n hx hb dL_law_1083 rfl (lv_at hl 3 rfl) ?_
  refine lv_iload_n hx hb dL_law_1084 rfl (lv_at hl 0 rfl) ?_
  refine lv_iconst (v := 2) hx hb dL_law_1085 (by decide) ?_
  refine lv_iadd hx hb dL_law_1086 ?_
  refine lv_topk (v := 2) (by decide) ?_
  refine va_sld hx hb hX hbl hbA hS (by unfold vp_in; decide) dL_law_1087 ?_
  refine lv_topk (v := scr 2) rfl ?_
  refine kVi (As := [.int (scr 1), .int (scr 2)]) (rest := [.int r_1]) (wr := []) X (c_X12_cellOf l g m0 (scr 1) (scr 2) m0a1 m0a5 m0a6 m0a7 m0a8 m0a9 m0a11 m0a12 m0a13 m0a14 m0a15 m0a16 m0a18 m0a19 m0a20 m0a21 m0a22 m0a24 m0a25 m0a26 m0a28 m0a29 m0a30 m0a31 m0a33 m0a34 m0a35 m0a36 m0a37 m0a38 m0a39 m0a40 m0a41 m0a42 m0a43 m0a44 m0a45 m0a46 m0a47 m0a49 m0a50 m0a51 m0a53 m0a54 m0a55 m0a56 m0a57 m0a58 m0a59 m0a60 m0a61 m0a62 m0a63 m0a67 m0a68 m0a69 m0a70 m0a71 m0a72 m0a73 m0a74 m0a75) ok_X12_cellOf okv_X12_cellOf q_1921 rfl hK hP hD hS hA hZ hl.1 [0] [] rfl rfl rfl rfl rfl 0 12 rfl rfl rfl (Nat.le_of_ble_eq_true rfl) ⟨Nat.le_of_ble_eq_true rfl, Nat.le_of_ble_eq_true rfl⟩ dL_law_1088 ⟨Nat.le_of_ble_eq_true rfl, Nat.le_of_ble_eq_true rfl⟩ (fun r_3 w1 H locs hw_4 hP hD hS => ?_)
  have hP := pSub hP (ws' := []) [] rfl
  have hD := hD.sub (ws' := []) [] rfl rfl
  refine lv_icmp_eq (tgt := 1955) hx hb dL_law_1091 (by decide) (fun _ => ?_) (fun c => absurd (hw_2.trans ((eq_cellOf g x0 (scr 1) (scr 2) xr xt xg xb xp xu xm xd xw xh xa xs xf xma0 xma1 xma2 xma3 xma4 xma5 xma6 xma7 xma8 xma9 xma10 xma11 xma12 m0 m0a1 m0a5 m0a6 m0a7 m0a8 m0a9 m0a11 m0a12 m0a13 m0a14 m0a15 m0a16 m0a18 m0a19 m0a20 m0a21 m0a22 m0a24 m0a25 m0a26 m0a28 m0a29 m0a30 m0a31 m0a33 m0a34 m0a35 m0a36 m0a37 m0a38 m0a39 m0a40 m0a41 m0a42 m0a43 m0a44 m0a45 m0a46 m0a47 m0a49 m0a50 m0a51 m0a53 m0a54 m0a55 m0a56 m0a57 m0a58 m0a59 m0a60 m0a61 m0a62 m0a63 m0a67 m0a68 m0a69 m0a70 m0a71 m0a72 m0a73 m0a74 m0a75).trans hw_4.symm)) c)
  exact kend _ _ _ hS (lv_sub hl [3, 0] rfl)
set_option maxHeartbeats 4000000 in
set_option maxRecDepth 100000 in
theorem law_22 (l : Launch) (g : GG) {p : Program} {e : Env} {s : State} {m : MethodId} {below : List Frame} {meth : Method} {c : Code} {b : Nat} {scr : Nat → Int32} (X : En p s m #[Value.ref b] meth c cL_law 4 ret R_law meth.name) (hK : va_K g.1 classes (tyG g) s) (hA : ∀ q, s.heap.size ≤ q → laA s q) (hZ : stS g (laA s) s s.heap) (hX : va_X b 6 scr s s.heap) (hbl : b < s.heap.size) (hbA : ¬ laA s b) (x0 : Nat) (xr : Nat) (xt : Nat) (xg : Nat) (xb : Nat) (xp : Nat) (xu : Nat) (xm : Nat) (xd : Nat) (xw : Nat) (xh : Nat) (xa : Nat) (xs : Nat) (xf : Nat) (xma0 : Nat) (xma1 : Nat) (xma2 : Nat) (xma3 : Nat) (xma4 : Nat) (xma5 : Nat) (xma6 : Nat) (xma7 : Nat) (xma8 : Nat) (xma9 : Nat) (xma10 : Nat) (xma11 : Nat) (xma12 : Nat) (m0 : Nat) (m0a1 : Nat) (m0a5 : Nat) (m0a6 : Nat) (m0a7 : Nat) (m0a8 : Nat) (m0a9 : Nat) (m0a11 : Nat) (m0a12 : Nat) (m0a13 : Nat) (m0a14 : Nat) (m0a15 : Nat) (m0a16 : Nat) (m0a18 : Nat) (m0a19 : Nat) (m0a20 : Nat) (m0a21 : Nat) (m0a22 : Nat) (m0a24 : Nat) (m0a25 : Nat) (m0a26 : Nat) (m0a28 : Nat) (m0a29 : Nat) (m0a30 : Nat) (m0a31 : Nat) (m0a33 : Nat) (m0a34 : Nat) (m0a35 : Nat) (m0a36 : Nat) (m0a37 : Nat) (m0a38 : Nat) (m0a39 : Nat) (m0a40 : Nat) (m0a41 : Nat) (m0a42 : Nat) (m0a43 : Nat) (m0a44 : Nat) (m0a45 : Nat) (m0a46 : Nat) (m0a47 : Nat) (m0a49 : Nat) (m0a50 : Nat) (m0a51 : Nat) (m0a53 : Nat) (m0a54 : Nat) (m0a55 : Nat) (m0a56 : Nat) (m0a57 : Nat) (m0a58 : Nat) (m0a59 : Nat) (m0a60 : Nat) (m0a61 : Nat) (m0a62 : Nat) (m0a63 : Nat) (m0a67 : Nat) (m0a68 : Nat) (m0a69 : Nat) (m0a70 : Nat) (m0a71 : Nat) (m0a72 : Nat) (m0a73 : Nat) (m0a74 : Nat) (m0a75 : Nat) {H : Heap} {locs : List Loc} {ls : Array Slot} (hP : va_P g.1 classes [(x0, .inr (11, [.ref xr, .ref xt, .ref xg, .ref xb, .ref xp, .ref xu, .ref xm, .ref xd, .ref xw, .ref xh, .ref xa, .ref xs, .ref xf, .int 0, .int 0, .long 0, .long 0, .int 0])), (xm, .inr (4, [.ref xma0, .ref xma1, .ref xma2, .ref xma3, .ref xma4, .ref xma5, .ref xma6, .ref xma7, .ref xma8, .ref xma9, .ref xma10, .ref xma11, .ref xma12, .int 0])), (m0, .inr (12, [.int 0, .ref m0a1, .int 0, .long 0, .int 0, .ref m0a5, .ref m0a6, .ref m0a7, .ref m0a8, .ref m0a9, .int 0, .ref m0a11, .ref m0a12, .ref m0a13, .ref m0a14, .ref m0a15, .ref m0a16, .int 0, .ref m0a18, .ref m0a19, .ref m0a20, .ref m0a21, .ref m0a22, .int 0, .ref m0a24, .ref m0a25, .ref m0a26, .int 0, .ref m0a28, .ref m0a29, .ref m0a30, .ref m0a31, .int 0, .ref m0a33, .ref m0a34, .ref m0a35, .ref m0a36, .ref m0a37, .ref m0a38, .ref m0a39, .ref m0a40, .ref m0a41, .ref m0a42, .ref m0a43, .ref m0a44, .ref m0a45, .ref m0a46, .ref m0a47, .int 0, .ref m0a49, .ref m0a50, .ref m0a51, .int 0, .ref m0a53, .ref m0a54, .ref m0a55, .ref m0a56, .ref m0a57, .ref m0a58, .ref m0a59, .ref m0a60, .ref m0a61, .ref m0a62, .ref m0a63, .long 0, .int 0, .int (-9), .ref m0a67, .ref m0a68, .ref m0a69, .ref m0a70, .ref m0a71, .ref m0a72, .ref m0a73, .ref m0a74, .ref m0a75, .long 0]))] H) (hD : va_D (laA s) [(x0, .inr (11, [.ref xr, .ref xt, .ref xg, .ref xb, .ref xp, .ref xu, .ref xm, .ref xd, .ref xw, .ref xh, .ref xa, .ref xs, .ref xf, .int 0, .int 0, .long 0, .long 0, .int 0])), (xm, .inr (4, [.ref xma0, .ref xma1, .ref xma2, .ref xma3, .ref xma4, .ref xma5, .ref xma6, .ref xma7, .ref xma8, .ref xma9, .ref xma10, .ref xma11, .ref xma12, .int 0])), (m0, .inr (12, [.int 0, .ref m0a1, .int 0, .long 0, .int 0, .ref m0a5, .ref m0a6, .ref m0a7, .ref m0a8, .ref m0a9, .int 0, .ref m0a11, .ref m0a12, .ref m0a13, .ref m0a14, .ref m0a15, .ref m0a16, .int 0, .ref m0a18, .ref m0a19, .ref m0a20, .ref m0a21, .ref m0a22, .int 0, .ref m0a24, .ref m0a25, .ref m0a26, .int 0, .ref m0a28, .ref m0a29, .ref m0a30, .ref m0a31, .int 0, .ref m0a33, .ref m0a34, .ref m0a35, .ref m0a36, .ref m0a37, .ref m0a38, .ref m0a39, .ref m0a40, .ref m0a41, .ref m0a42, .ref m0a43, .ref m0a44, .ref m0a45, .ref m0a46, .ref m0a47, .int 0, .ref m0a49, .ref m0a50, .ref m0a51, .int 0, .ref m0a53, .ref m0a54, .ref m0a55, .ref m0a56, .ref m0a57, .ref m0a58, .ref m0a59, .ref m0a60, .ref m0a61, .ref m0a62, .ref m0a63, .long 0, .int 0, .int (-9), .ref m0a67, .ref m0a68, .ref m0a69, .ref m0a70, .ref m0a71, .ref m0a72, .ref m0a73, .ref m0a74, .ref m0a75, .long 0]))]) (hS : va_S (laA s) s.heap H locs) (hl : lv_has ls 4 [(3, .int 0), (2, .ref m0), (1, .ref x0), (0, .ref b)]) {Q : State → Prop} (kend : ∀ (H : Heap) (locs : List Loc) (ls : Array Slot), va_S (laA s) s.heap H locs → lv_has ls 4 [(0, .ref b), (3, .int 0)] → W p l e room_1 s m #[Value.ref b] below meth c H locs 141 11384 Q (F0 m 1955 ls [])) : W p l e room_1 s m #[Value.ref b] below meth c H locs 141 11384 Q (F0 m 1096 ls []) := by
  have hx := X.1
  have hb := X.2.1
  have hml := X.2.2.1
  have hown := X.2.2.2.1
  have hts := X.2.2.2.2.1
  refine lv_aload_n hx hb dL_law_1096 rfl (lv_at hl 2 rfl) ?_
  refine lv_aload_n hx hb dL_law_1097 rfl (lv_at hl 3 rfl) ?_
  refine lv_iload_n hx hb dL_law_1098 rfl (lv_at hl 0 rfl) ?_
  refine lv_iconst (v := 1) hx hb dL_law_1099 (by decide) ?_
  refine lv_iadd hx hb dL_law_1100 ?_
  refine lv_topk (v := 1) (by decide) ?_
  refine va_sld hx hb hX hbl hbA hS (by unfold vp_in; decide) dL_law_1101 ?_
  refine lv_topk (v := scr 1) rfl ?_
  refine kVi (As := [.int (scr 1)]) (rest := []) (wr := [(m0, .inr (12, [.int 0, .ref m0a1, .int 0, .long 0, .int 0, .ref m0a5, .ref m0a6, .ref m0a7, .ref m0a8, .ref m0a9, .int 0, .ref m0a11, .ref m0a12, .ref m0a13, .ref m0a14, .ref m0a15, .ref m0a16, .int 0, .ref m0a18, .ref m0a19, .ref m0a20, .ref m0a21, .ref m0a22, .int 0, .ref m0a24, .ref m0a25, .ref m0a26, .int 0, .ref m0a28, .ref m0a29, .ref m0a30, .ref m0a31, .int 0, .ref m0a33, .ref m0a34, .ref m0a35, .ref m0a36, .ref m0a37, .ref m0a38, .ref m0a39, .ref m0a40, .ref m0a41, .ref m0a42, .ref m0a43, .ref m0a44, .ref m0a45, .ref m0a46, .ref m0a47, .int 0, .ref m0a49, .ref m0a50, .ref m0a51, .int 0, .ref m0a53, .ref m0a54, .ref m0a55, .ref m0a56, .ref m0a57, .ref m0a58, .ref m0a59, .ref m0a60, .ref m0a61, .ref m0a62, .ref m0a63, .long 0, .int 0, .int (-9), .ref m0a67, .ref m0a68, .ref m0a69, .ref m0a70, .ref m0a71, .ref m0a72, .ref m0a73, .ref m0a74, .ref m0a75, .long 0]))]) X (c_X11_show l g x0 (scr 1) xr xt xg xb xp xu xm xd xw xh xa xs xf xma0 xma1 xma2 xma3 xma4 xma5 xma6 xma7 xma8 xma9 xma10 xma11 xma12) ok_X11_show okv_X11_show q_915 rfl hK hP hD hS hA hZ hl.1 [0, 1] [2] rfl rfl rfl rfl rfl 0 11 rfl rfl rfl (Nat.le_of_ble_eq_true rfl) ⟨Nat.le_of_ble_eq_true rfl, Nat.le_of_ble_eq_true rfl⟩ dL_law_1102 ⟨Nat.le_of_ble_eq_true rfl, Nat.le_of_ble_eq_true rfl⟩ (fun r_1 w1 H locs hw_2 hP hD hS => ?_)
  have hP := pSub hP (ws' := [(m0, .inr (12, [.int 0, .ref m0a1, .int 0, .long 0, .int 0, .ref m0a5, .ref m0a6, .ref m0a7, .ref m0a8, .ref m0a9, .int 0, .ref m0a11, .ref m0a12, .ref m0a13, .ref m0a14, .ref m0a15, .ref m0a16, .int 0, .ref m0a18, .ref m0a19, .ref m0a20, .ref m0a21, .ref m0a22, .int 0, .ref m0a24, .ref m0a25, .ref m0a26, .int 0, .ref m0a28, .ref m0a29, .ref m0a30, .ref m0a31, .int 0, .ref m0a33, .ref m0a34, .ref m0a35, .ref m0a36, .ref m0a37, .ref m0a38, .ref m0a39, .ref m0a40, .ref m0a41, .ref m0a42, .ref m0a43, .ref m0a44, .ref m0a45, .ref m0a46, .ref m0a47, .int 0, .ref m0a49, .ref m0a50, .ref m0a51, .int 0, .ref m0a53, .ref m0a54, .ref m0a55, .ref m0a56, .ref m0a57, .ref m0a58, .ref m0a59, .ref m0a60, .ref m0a61, .ref m0a62, .ref m0a63, .long 0, .int 0, .int (-9), .ref m0a67, .ref m0a68, .ref m0a69, .ref m0a70, .ref m0a71, .ref m0a72, .ref m0a73, .ref m0a74, .ref m0a75, .long 0]))]) [0] rfl
  have hD := hD.sub (ws' := [(m0, .inr (12, [.int 0, .ref m0a1, .int 0, .long 0, .int 0, .ref m0a5, .ref m0a6, .ref m0a7, .ref m0a8, .ref m0a9, .int 0, .ref m0a11, .ref m0a12, .ref m0a13, .ref m0a14, .ref m0a15, .ref m0a16, .int 0, .ref m0a18, .ref m0a19, .ref m0a20, .ref m0a21, .ref m0a22, .int 0, .ref m0a24, .ref m0a25, .ref m0a26, .int 0, .ref m0a28, .ref m0a29, .ref m0a30, .ref m0a31, .int 0, .ref m0a33, .ref m0a34, .ref m0a35, .ref m0a36, .ref m0a37, .ref m0a38, .ref m0a39, .ref m0a40, .ref m0a41, .ref m0a42, .ref m0a43, .ref m0a44, .ref m0a45, .ref m0a46, .ref m0a47, .int 0, .ref m0a49, .ref m0a50, .ref m0a51, .int 0, .ref m0a53, .ref m0a54, .ref m0a55, .ref m0a56, .ref m0a57, .ref m0a58, .ref m0a59, .ref m0a60, .ref m0a61, .ref m0a62, .ref m0a63, .long 0, .int 0, .int (-9), .ref m0a67, .ref m0a68, .ref m0a69, .ref m0a70, .ref m0a71, .ref m0a72, .ref m0a73, .ref m0a74, .ref m0a75, .long 0]))]) [0] rfl rfl
  refine lv_aload_n hx hb dL_law_1105 rfl (lv_at hl 1 rfl) ?_
  refine lv_aload_n hx hb dL_law_1106 rfl (lv_at hl 3 rfl) ?_
  refine lv_iload_n hx hb dL_law_1107 rfl (lv_at hl 0 rfl) ?_
  refine lv_iconst (v := 1) hx hb dL_law_1108 (by decide) ?_
  refine lv_iadd hx hb dL_law_1109 ?_
  refine lv_topk (v := 1) (by decide) ?_
  refine va_sld hx hb hX hbl hbA hS (by unfold vp_in; decide) dL_law_1110 ?_
  refine lv_topk (v := scr 1) rfl ?_
  refine kVi (As := [.int (scr 1)]) (rest := [.int r_1]) (wr := []) X (c_X12_show l g m0 (scr 1) m0a1 m0a5 m0a6 m0a7 m0a8 m0a9 m0a11 m0a12 m0a13 m0a14 m0a15 m0a16 m0a18 m0a19 m0a20 m0a21 m0a22 m0a24 m0a25 m0a26 m0a28 m0a29 m0a30 m0a31 m0a33 m0a34 m0a35 m0a36 m0a37 m0a38 m0a39 m0a40 m0a41 m0a42 m0a43 m0a44 m0a45 m0a46 m0a47 m0a49 m0a50 m0a51 m0a53 m0a54 m0a55 m0a56 m0a57 m0a58 m0a59 m0a60 m0a61 m0a62 m0a63 m0a67 m0a68 m0a69 m0a70 m0a71 m0a72 m0a73 m0a74 m0a75) ok_X12_show okv_X12_show q_1929 rfl hK hP hD hS hA hZ hl.1 [0] [] rfl rfl rfl rfl rfl 0 12 rfl rfl rfl (Nat.le_of_ble_eq_true rfl) ⟨Nat.le_of_ble_eq_true rfl, Nat.le_of_ble_eq_true rfl⟩ dL_law_1111 ⟨Nat.le_of_ble_eq_true rfl, Nat.le_of_ble_eq_true rfl⟩ (fun r_3 w1 H locs hw_4 hP hD hS => ?_)
  have hP := pSub hP (ws' := []) [] rfl
  have hD := hD.sub (ws' := []) [] rfl rfl
  refine lv_icmp_eq (tgt := 1955) hx hb dL_law_1114 (by decide) (fun _ => ?_) (fun c => absurd (hw_2.trans ((eq_show g x0 (scr 1) xr xt xg xb xp xu xm xd xw xh xa xs xf xma0 xma1 xma2 xma3 xma4 xma5 xma6 xma7 xma8 xma9 xma10 xma11 xma12 m0 m0a1 m0a5 m0a6 m0a7 m0a8 m0a9 m0a11 m0a12 m0a13 m0a14 m0a15 m0a16 m0a18 m0a19 m0a20 m0a21 m0a22 m0a24 m0a25 m0a26 m0a28 m0a29 m0a30 m0a31 m0a33 m0a34 m0a35 m0a36 m0a37 m0a38 m0a39 m0a40 m0a41 m0a42 m0a43 m0a44 m0a45 m0a46 m0a47 m0a49 m0a50 m0a51 m0a53 m0a54 m0a55 m0a56 m0a57 m0a58 m0a59 m0a60 m0a61 m0a62 m0a63 m0a67 m0a68 m0a69 m0a70 m0a71 m0a72 m0a73 m0a74 m0a75).trans hw_4.symm)) c)
  exact kend _ _ _ hS (lv_sub hl [3, 0] rfl)
set_option maxHeartbeats 4000000 in
set_option maxRecDepth 100000 in
theorem law_23 (l : Launch) (g : GG) {p : Program} {e : Env} {s : State} {m : MethodId} {below : List Frame} {meth : Method} {c : Code} {b : Nat} {scr : Nat → Int32} (X : En p s m #[Value.ref b] meth c cL_law 4 ret R_law meth.name) (hK : va_K g.1 classes (tyG g) s) (hA : ∀ q, s.heap.size ≤ q → laA s q) (hZ : stS g (laA s) s s.heap) (hX : va_X b 6 scr s s.heap) (hbl : b < s.heap.size) (hbA : ¬ laA s b) (x0 : Nat) (xr : Nat) (xt : Nat) (xg : Nat) (xb : Nat) (xp : Nat) (xu : Nat) (xm : Nat) (xd : Nat) (xw : Nat) (xh : Nat) (xa : Nat) (xs : Nat) (xf : Nat) (xba0 : Nat) (xba1 : Nat) (xba2 : Nat) (xba3 : Nat) (xba4 : Nat) (xba5 : Nat) (xba6 : Nat) (xba7 : Nat) (xba8 : Nat) (xba9 : Nat) (xba10 : Nat) (xba11 : Nat) (m0 : Nat) (m0a1 : Nat) (m0a5 : Nat) (m0a6 : Nat) (m0a7 : Nat) (m0a8 : Nat) (m0a9 : Nat) (m0a11 : Nat) (m0a12 : Nat) (m0a13 : Nat) (m0a14 : Nat) (m0a15 : Nat) (m0a16 : Nat) (m0a18 : Nat) (m0a19 : Nat) (m0a20 : Nat) (m0a21 : Nat) (m0a22 : Nat) (m0a24 : Nat) (m0a25 : Nat) (m0a26 : Nat) (m0a28 : Nat) (m0a29 : Nat) (m0a30 : Nat) (m0a31 : Nat) (m0a33 : Nat) (m0a34 : Nat) (m0a35 : Nat) (m0a36 : Nat) (m0a37 : Nat) (m0a38 : Nat) (m0a39 : Nat) (m0a40 : Nat) (m0a41 : Nat) (m0a42 : Nat) (m0a43 : Nat) (m0a44 : Nat) (m0a45 : Nat) (m0a46 : Nat) (m0a47 : Nat) (m0a49 : Nat) (m0a50 : Nat) (m0a51 : Nat) (m0a53 : Nat) (m0a54 : Nat) (m0a55 : Nat) (m0a56 : Nat) (m0a57 : Nat) (m0a58 : Nat) (m0a59 : Nat) (m0a60 : Nat) (m0a61 : Nat) (m0a62 : Nat) (m0a63 : Nat) (m0a67 : Nat) (m0a68 : Nat) (m0a69 : Nat) (m0a70 : Nat) (m0a71 : Nat) (m0a72 : Nat) (m0a73 : Nat) (m0a74 : Nat) (m0a75 : Nat) {H : Heap} {locs : List Loc} {ls : Array Slot} (hP : va_P g.1 classes [(x0, .inr (11, [.ref xr, .ref xt, .ref xg, .ref xb, .ref xp, .ref xu, .ref xm, .ref xd, .ref xw, .ref xh, .ref xa, .ref xs, .ref xf, .int 0, .int 0, .long 0, .long 0, .int 0])), (xb, .inr (1, [.ref xba0, .ref xba1, .ref xba2, .ref xba3, .ref xba4, .ref xba5, .ref xba6, .ref xba7, .ref xba8, .ref xba9, .ref xba10, .ref xba11, .int 0, .int 0])), (m0, .inr (12, [.int 0, .ref m0a1, .int 0, .long 0, .int 0, .ref m0a5, .ref m0a6, .ref m0a7, .ref m0a8, .ref m0a9, .int 0, .ref m0a11, .ref m0a12, .ref m0a13, .ref m0a14, .ref m0a15, .ref m0a16, .int 0, .ref m0a18, .ref m0a19, .ref m0a20, .ref m0a21, .ref m0a22, .int 0, .ref m0a24, .ref m0a25, .ref m0a26, .int 0, .ref m0a28, .ref m0a29, .ref m0a30, .ref m0a31, .int 0, .ref m0a33, .ref m0a34, .ref m0a35, .ref m0a36, .ref m0a37, .ref m0a38, .ref m0a39, .ref m0a40, .ref m0a41, .ref m0a42, .ref m0a43, .ref m0a44, .ref m0a45, .ref m0a46, .ref m0a47, .int 0, .ref m0a49, .ref m0a50, .ref m0a51, .int 0, .ref m0a53, .ref m0a54, .ref m0a55, .ref m0a56, .ref m0a57, .ref m0a58, .ref m0a59, .ref m0a60, .ref m0a61, .ref m0a62, .ref m0a63, .long 0, .int 0, .int (-9), .ref m0a67, .ref m0a68, .ref m0a69, .ref m0a70, .ref m0a71, .ref m0a72, .ref m0a73, .ref m0a74, .ref m0a75, .long 0]))] H) (hD : va_D (laA s) [(x0, .inr (11, [.ref xr, .ref xt, .ref xg, .ref xb, .ref xp, .ref xu, .ref xm, .ref xd, .ref xw, .ref xh, .ref xa, .ref xs, .ref xf, .int 0, .int 0, .long 0, .long 0, .int 0])), (xb, .inr (1, [.ref xba0, .ref xba1, .ref xba2, .ref xba3, .ref xba4, .ref xba5, .ref xba6, .ref xba7, .ref xba8, .ref xba9, .ref xba10, .ref xba11, .int 0, .int 0])), (m0, .inr (12, [.int 0, .ref m0a1, .int 0, .long 0, .int 0, .ref m0a5, .ref m0a6, .ref m0a7, .ref m0a8, .ref m0a9, .int 0, .ref m0a11, .ref m0a12, .ref m0a13, .ref m0a14, .ref m0a15, .ref m0a16, .int 0, .ref m0a18, .ref m0a19, .ref m0a20, .ref m0a21, .ref m0a22, .int 0, .ref m0a24, .ref m0a25, .ref m0a26, .int 0, .ref m0a28, .ref m0a29, .ref m0a30, .ref m0a31, .int 0, .ref m0a33, .ref m0a34, .ref m0a35, .ref m0a36, .ref m0a37, .ref m0a38, .ref m0a39, .ref m0a40, .ref m0a41, .ref m0a42, .ref m0a43, .ref m0a44, .ref m0a45, .ref m0a46, .ref m0a47, .int 0, .ref m0a49, .ref m0a50, .ref m0a51, .int 0, .ref m0a53, .ref m0a54, .ref m0a55, .ref m0a56, .ref m0a57, .ref m0a58, .ref m0a59, .ref m0a60, .ref m0a61, .ref m0a62, .ref m0a63, .long 0, .int 0, .int (-9), .ref m0a67, .ref m0a68, .ref m0a69, .ref m0a70, .ref m0a71, .ref m0a72, .ref m0a73, .ref m0a74, .ref m0a75, .long 0]))]) (hS : va_S (laA s) s.heap H locs) (hl : lv_has ls 4 [(3, .int 0), (2, .ref m0), (1, .ref x0), (0, .ref b)]) {Q : State → Prop} (kend : ∀ (H : Heap) (locs : List Loc) (ls : Array Slot), va_S (laA s) s.heap H locs → lv_has ls 4 [(0, .ref b), (3, .int 0)] → W p l e room_1 s m #[Value.ref b] below meth c H locs 141 11384 Q (F0 m 1955 ls [])) : W p l e room_1 s m #[Value.ref b] below meth c H locs 141 11384 Q (F0 m 1119 ls []) := by
  have hx := X.1
  have hb := X.2.1
  have hml := X.2.2.1
  have hown := X.2.2.2.1
  have hts := X.2.2.2.2.1
  refine lv_aload_n hx hb dL_law_1119 rfl (lv_at hl 2 rfl) ?_
  refine lv_aload_n hx hb dL_law_1120 rfl (lv_at hl 3 rfl) ?_
  refine lv_iload_n hx hb dL_law_1121 rfl (lv_at hl 0 rfl) ?_
  refine lv_iconst (v := 1) hx hb dL_law_1122 (by decide) ?_
  refine lv_iadd hx hb dL_law_1123 ?_
  refine lv_topk (v := 1) (by decide) ?_
  refine va_sld hx hb hX hbl hbA hS (by unfold vp_in; decide) dL_law_1124 ?_
  refine lv_topk (v := scr 1) rfl ?_
  refine lv_aload_n hx hb dL_law_1125 rfl (lv_at hl 3 rfl) ?_
  refine lv_iload_n hx hb dL_law_1126 rfl (lv_at hl 0 rfl) ?_
  refine lv_iconst (v := 2) hx hb dL_law_1127 (by decide) ?_
  refine lv_iadd hx hb dL_law_1128 ?_
  refine lv_topk (v := 2) (by decide) ?_
  refine va_sld hx hb hX hbl hbA hS (by unfold vp_in; decide) dL_law_1129 ?_
  refine lv_topk (v := scr 2) rfl ?_
  refine kVi (As := [.int (scr 1), .int (scr 2)]) (rest := []) (wr := [(m0, .inr (12, [.int 0, .ref m0a1, .int 0, .long 0, .int 0, .ref m0a5, .ref m0a6, .ref m0a7, .ref m0a8, .ref m0a9, .int 0, .ref m0a11, .ref m0a12, .ref m0a13, .ref m0a14, .ref m0a15, .ref m0a16, .int 0, .ref m0a18, .ref m0a19, .ref m0a20, .ref m0a21, .ref m0a22, .int 0, .ref m0a24, .ref m0a25, .ref m0a26, .int 0, .ref m0a28, .ref m0a29, .ref m0a30, .ref m0a31, .int 0, .ref m0a33, .ref m0a34, .ref m0a35, .ref m0a36, .ref m0a37, .ref m0a38, .ref m0a39, .ref m0a40, .ref m0a41, .ref m0a42, .ref m0a43, .ref m0a44, .ref m0a45, .ref m0a46, .ref m0a47, .int 0, .ref m0a49, .ref m0a50, .ref m0a51, .int 0, .ref m0a53, .ref m0a54, .ref m0a55, .ref m0a56, .ref m0a57, .ref m0a58, .ref m0a59, .ref m0a60, .ref m0a61, .ref m0a62, .ref m0a63, .long 0, .int 0, .int (-9), .ref m0a67, .ref m0a68, .ref m0a69, .ref m0a70, .ref m0a71, .ref m0a72, .ref m0a73, .ref m0a74, .ref m0a75, .long 0]))]) X (c_X11_take l g x0 (scr 1) (scr 2) xr xt xg xb xp xu xm xd xw xh xa xs xf xba0 xba1 xba2 xba3 xba4 xba5 xba6 xba7 xba8 xba9 xba10 xba11) ok_X11_take okv_X11_take q_955 rfl hK hP hD hS hA hZ hl.1 [0, 1] [2] rfl rfl rfl rfl rfl 0 11 rfl rfl rfl (Nat.le_of_ble_eq_true rfl) ⟨Nat.le_of_ble_eq_true rfl, Nat.le_of_ble_eq_true rfl⟩ dL_law_1130 ⟨Nat.le_of_ble_eq_true rfl, Nat.le_of_ble_eq_true rfl⟩ (fun r_1 w1 H locs hw_2 hP hD hS => ?_)
  have hP := pSub hP (ws' := [(m0, .inr (12, [.int 0, .ref m0a1, .int 0, .long 0, .int 0, .ref m0a5, .ref m0a6, .ref m0a7, .ref m0a8, .ref m0a9, .int 0, .ref m0a11, .ref m0a12, .ref m0a13, .ref m0a14, .ref m0a15, .ref m0a16, .int 0, .ref m0a18, .ref m0a19, .ref m0a20, .ref m0a21, .ref m0a22, .int 0, .ref m0a24, .ref m0a25, .ref m0a26, .int 0, .ref m0a28, .ref m0a29, .ref m0a30, .ref m0a31, .int 0, .ref m0a33, .ref m0a34, .ref m0a35, .ref m0a36, .ref m0a37, .ref m0a38, .ref m0a39, .ref m0a40, .ref m0a41, .ref m0a42, .ref m0a43, .ref m0a44, .ref m0a45, .ref m0a46, .ref m0a47, .int 0, .ref m0a49, .ref m0a50, .ref m0a51, .int 0, .ref m0a53, .ref m0a54, .ref m0a55, .ref m0a56, .ref m0a57, .ref m0a58, .ref m0a59, .ref m0a60, .ref m0a61, .ref m0a62, .ref m0a63, .long 0, .int 0, .int (-9), .ref m0a67, .ref m0a68, .ref m0a69, .ref m0a70, .ref m0a71, .ref m0a72, .ref m0a73, .ref m0a74, .ref m0a75, .long 0]))]) [0] rfl
  have hD := hD.sub (ws' := [(m0, .inr (12, [.int 0, .ref m0a1, .int 0, .long 0, .int 0, .ref m0a5, .ref m0a6, .ref m0a7, .ref m0a8, .ref m0a9, .int 0, .ref m0a11, .ref m0a12, .ref m0a13, .ref m0a14, .ref m0a15, .ref m0a16, .int 0, .ref m0a18, .ref m0a19, .ref m0a20, .ref m0a21, .ref m0a22, .int 0, .ref m0a24, .ref m0a25, .ref m0a26, .int 0, .ref m0a28, .ref m0a29, .ref m0a30, .ref m0a31, .int 0, .ref m0a33, .ref m0a34, .ref m0a35, .ref m0a36, .ref m0a37, .ref m0a38, .ref m0a39, .ref m0a40, .ref m0a41, .ref m0a42, .ref m0a43, .ref m0a44, .ref m0a45, .ref m0a46, .ref m0a47, .int 0, .ref m0a49, .ref m0a50, .ref m0a51, .int 0, .ref m0a53, .ref m0a54, .ref m0a55, .ref m0a56, .ref m0a57, .ref m0a58, .ref m0a59, .ref m0a60, .ref m0a61, .ref m0a62, .ref m0a63, .long 0, .int 0, .int (-9), .ref m0a67, .ref m0a68, .ref m0a69, .ref m0a70, .ref m0a71, .ref m0a72, .ref m0a73, .ref m0a74, .ref m0a75, .long 0]))]) [0] rfl rfl
  refine lv_aload_n hx hb dL_law_1133 rfl (lv_at hl 1 rfl) ?_
  refine lv_aload_n hx hb dL_law_1134 rfl (lv_at hl 3 rfl) ?_
  refine lv_iload_n hx hb dL_law_1135 rfl (lv_at hl 0 rfl) ?_
  refine lv_iconst (v := 1) hx hb dL_law_1136 (by decide) ?_
  refine lv_iadd hx hb dL_law_1137 ?_
  refine lv_topk (v := 1) (by decide) ?_
  refine va_sld hx hb hX hbl hbA hS (by unfold vp_in; decide) dL_law_1138 ?_
  refine lv_topk (v := scr 1) rfl ?_
  refine lv_aload_n hx hb dL_law_1139 rfl (lv_at hl 3 rfl) ?_
  refine lv_iload_n hx hb dL_law_1140 rfl (lv_at hl 0 rfl) ?_
  refine lv_iconst (v := 2) hx hb dL_law_1141 (by decide) ?_
  refine lv_iadd hx hb dL_law_1142 ?_
  refine lv_topk (v := 2) (by decide) ?_
  refine va_sld hx hb hX hbl hbA hS (by unfold vp_in; decide) dL_law_1143 ?_
  refine lv_topk (v := scr 2) rfl ?_
  refine kVi (As := [.int (scr 1), .int (scr 2)]) (rest := [.int r_1]) (wr := []) X (c_X12_take l g m0 (scr 1) (scr 2) m0a1 m0a5 m0a6 m0a7 m0a8 m0a9 m0a11 m0a12 m0a13 m0a14 m0a15 m0a16 m0a18 m0a19 m0a20 m0a21 m0a22 m0a24 m0a25 m0a26 m0a28 m0a29 m0a30 m0a31 m0a33 m0a34 m0a35 m0a36 m0a37 m0a38 m0a39 m0a40 m0a41 m0a42 m0a43 m0a44 m0a45 m0a46 m0a47 m0a49 m0a50 m0a51 m0a53 m0a54 m0a55 m0a56 m0a57 m0a58 m0a59 m0a60 m0a61 m0a62 m0a63 m0a67 m0a68 m0a69 m0a70 m0a71 m0a72 m0a73 m0a74 m0a75) ok_X12_take okv_X12_take q_1937 rfl hK hP hD hS hA hZ hl.1 [0] [] rfl rfl rfl rfl rfl 0 12 rfl rfl rfl (Nat.le_of_ble_eq_true rfl) ⟨Nat.le_of_ble_eq_true rfl, Nat.le_of_ble_eq_true rfl⟩ dL_law_1144 ⟨Nat.le_of_ble_eq_true rfl, Nat.le_of_ble_eq_true rfl⟩ (fun r_3 w1 H locs hw_4 hP hD hS => ?_)
  have hP := pSub hP (ws' := []) [] rfl
  have hD := hD.sub (ws' := []) [] rfl rfl
  refine lv_icmp_eq (tgt := 1955) hx hb dL_law_1147 (by decide) (fun _ => ?_) (fun c => absurd (hw_2.trans ((eq_take g x0 (scr 1) (scr 2) xr xt xg xb xp xu xm xd xw xh xa xs xf xba0 xba1 xba2 xba3 xba4 xba5 xba6 xba7 xba8 xba9 xba10 xba11 m0 m0a1 m0a5 m0a6 m0a7 m0a8 m0a9 m0a11 m0a12 m0a13 m0a14 m0a15 m0a16 m0a18 m0a19 m0a20 m0a21 m0a22 m0a24 m0a25 m0a26 m0a28 m0a29 m0a30 m0a31 m0a33 m0a34 m0a35 m0a36 m0a37 m0a38 m0a39 m0a40 m0a41 m0a42 m0a43 m0a44 m0a45 m0a46 m0a47 m0a49 m0a50 m0a51 m0a53 m0a54 m0a55 m0a56 m0a57 m0a58 m0a59 m0a60 m0a61 m0a62 m0a63 m0a67 m0a68 m0a69 m0a70 m0a71 m0a72 m0a73 m0a74 m0a75).trans hw_4.symm)) c)
  exact kend _ _ _ hS (lv_sub hl [3, 0] rfl)
set_option maxHeartbeats 4000000 in
set_option maxRecDepth 100000 in
theorem law_24 (l : Launch) (g : GG) {p : Program} {e : Env} {s : State} {m : MethodId} {below : List Frame} {meth : Method} {c : Code} {b : Nat} {scr : Nat → Int32} (X : En p s m #[Value.ref b] meth c cL_law 4 ret R_law meth.name) (hK : va_K g.1 classes (tyG g) s) (hA : ∀ q, s.heap.size ≤ q → laA s q) (hZ : stS g (laA s) s s.heap) (hX : va_X b 6 scr s s.heap) (hbl : b < s.heap.size) (hbA : ¬ laA s b) (x0 : Nat) (xr : Nat) (xt : Nat) (xg : Nat) (xb : Nat) (xp : Nat) (xu : Nat) (xm : Nat) (xd : Nat) (xw : Nat) (xh : Nat) (xa : Nat) (xs : Nat) (xf : Nat) (xma0 : Nat) (xma1 : Nat) (xma2 : Nat) (xma3 : Nat) (xma4 : Nat) (xma5 : Nat) (xma6 : Nat) (xma7 : Nat) (xma8 : Nat) (xma9 : Nat) (xma10 : Nat) (xma11 : Nat) (xma12 : Nat) (m0 : Nat) (m0a1 : Nat) (m0a5 : Nat) (m0a6 : Nat) (m0a7 : Nat) (m0a8 : Nat) (m0a9 : Nat) (m0a11 : Nat) (m0a12 : Nat) (m0a13 : Nat) (m0a14 : Nat) (m0a15 : Nat) (m0a16 : Nat) (m0a18 : Nat) (m0a19 : Nat) (m0a20 : Nat) (m0a21 : Nat) (m0a22 : Nat) (m0a24 : Nat) (m0a25 : Nat) (m0a26 : Nat) (m0a28 : Nat) (m0a29 : Nat) (m0a30 : Nat) (m0a31 : Nat) (m0a33 : Nat) (m0a34 : Nat) (m0a35 : Nat) (m0a36 : Nat) (m0a37 : Nat) (m0a38 : Nat) (m0a39 : Nat) (m0a40 : Nat) (m0a41 : Nat) (m0a42 : Nat) (m0a43 : Nat) (m0a44 : Nat) (m0a45 : Nat) (m0a46 : Nat) (m0a47 : Nat) (m0a49 : Nat) (m0a50 : Nat) (m0a51 : Nat) (m0a53 : Nat) (m0a54 : Nat) (m0a55 : Nat) (m0a56 : Nat) (m0a57 : Nat) (m0a58 : Nat) (m0a59 : Nat) (m0a60 : Nat) (m0a61 : Nat) (m0a62 : Nat) (m0a63 : Nat) (m0a67 : Nat) (m0a68 : Nat) (m0a69 : Nat) (m0a70 : Nat) (m0a71 : Nat) (m0a72 : Nat) (m0a73 : Nat) (m0a74 : Nat) (m0a75 : Nat) {H : Heap} {locs : List Loc} {ls : Array Slot} (hP : va_P g.1 classes [(x0, .inr (11, [.ref xr, .ref xt, .ref xg, .ref xb, .ref xp, .ref xu, .ref xm, .ref xd, .ref xw, .ref xh, .ref xa, .ref xs, .ref xf, .int 0, .int 0, .long 0, .long 0, .int 0])), (xm, .inr (4, [.ref xma0, .ref xma1, .ref xma2, .ref xma3, .ref xma4, .ref xma5, .ref xma6, .ref xma7, .ref xma8, .ref xma9, .ref xma10, .ref xma11, .ref xma12, .int 0])), (m0, .inr (12, [.int 0, .ref m0a1, .int 0, .long 0, .int 0, .ref m0a5, .ref m0a6, .ref m0a7, .ref m0a8, .ref m0a9, .int 0, .ref m0a11, .ref m0a12, .ref m0a13, .ref m0a14, .ref m0a15, .ref m0a16, .int 0, .ref m0a18, .ref m0a19, .ref m0a20, .ref m0a21, .ref m0a22, .int 0, .ref m0a24, .ref m0a25, .ref m0a26, .int 0, .ref m0a28, .ref m0a29, .ref m0a30, .ref m0a31, .int 0, .ref m0a33, .ref m0a34, .ref m0a35, .ref m0a36, .ref m0a37, .ref m0a38, .ref m0a39, .ref m0a40, .ref m0a41, .ref m0a42, .ref m0a43, .ref m0a44, .ref m0a45, .ref m0a46, .ref m0a47, .int 0, .ref m0a49, .ref m0a50, .ref m0a51, .int 0, .ref m0a53, .ref m0a54, .ref m0a55, .ref m0a56, .ref m0a57, .ref m0a58, .ref m0a59, .ref m0a60, .ref m0a61, .ref m0a62, .ref m0a63, .long 0, .int 0, .int (-9), .ref m0a67, .ref m0a68, .ref m0a69, .ref m0a70, .ref m0a71, .ref m0a72, .ref m0a73, .ref m0a74, .ref m0a75, .long 0]))] H) (hD : va_D (laA s) [(x0, .inr (11, [.ref xr, .ref xt, .ref xg, .ref xb, .ref xp, .ref xu, .ref xm, .ref xd, .ref xw, .ref xh, .ref xa, .ref xs, .ref xf, .int 0, .int 0, .long 0, .long 0, .int 0])), (xm, .inr (4, [.ref xma0, .ref xma1, .ref xma2, .ref xma3, .ref xma4, .ref xma5, .ref xma6, .ref xma7, .ref xma8, .ref xma9, .ref xma10, .ref xma11, .ref xma12, .int 0])), (m0, .inr (12, [.int 0, .ref m0a1, .int 0, .long 0, .int 0, .ref m0a5, .ref m0a6, .ref m0a7, .ref m0a8, .ref m0a9, .int 0, .ref m0a11, .ref m0a12, .ref m0a13, .ref m0a14, .ref m0a15, .ref m0a16, .int 0, .ref m0a18, .ref m0a19, .ref m0a20, .ref m0a21, .ref m0a22, .int 0, .ref m0a24, .ref m0a25, .ref m0a26, .int 0, .ref m0a28, .ref m0a29, .ref m0a30, .ref m0a31, .int 0, .ref m0a33, .ref m0a34, .ref m0a35, .ref m0a36, .ref m0a37, .ref m0a38, .ref m0a39, .ref m0a40, .ref m0a41, .ref m0a42, .ref m0a43, .ref m0a44, .ref m0a45, .ref m0a46, .ref m0a47, .int 0, .ref m0a49, .ref m0a50, .ref m0a51, .int 0, .ref m0a53, .ref m0a54, .ref m0a55, .ref m0a56, .ref m0a57, .ref m0a58, .ref m0a59, .ref m0a60, .ref m0a61, .ref m0a62, .ref m0a63, .long 0, .int 0, .int (-9), .ref m0a67, .ref m0a68, .ref m0a69, .ref m0a70, .ref m0a71, .ref m0a72, .ref m0a73, .ref m0a74, .ref m0a75, .long 0]))]) (hS : va_S (laA s) s.heap H locs) (hl : lv_has ls 4 [(3, .int 0), (2, .ref m0), (1, .ref x0), (0, .ref b)]) {Q : State → Prop} (kend : ∀ (H : Heap) (locs : List Loc) (ls : Array Slot), va_S (laA s) s.heap H locs → lv_has ls 4 [(0, .ref b), (3, .int 0)] → W p l e room_1 s m #[Value.ref b] below meth c H locs 141 11384 Q (F0 m 1955 ls [])) : W p l e room_1 s m #[Value.ref b] below meth c H locs 141 11384 Q (F0 m 1152 ls []) := by
  have hx := X.1
  have hb := X.2.1
  have hml := X.2.2.1
  have hown := X.2.2.2.1
  have hts := X.2.2.2.2.1
  refine lv_aload_n hx hb dL_law_1152 rfl (lv_at hl 2 rfl) ?_
  refine lv_aload_n hx hb dL_law_1153 rfl (lv_at hl 3 rfl) ?_
  refine lv_iload_n hx hb dL_law_1154 rfl (lv_at hl 0 rfl) ?_
  refine lv_iconst (v := 1) hx hb dL_law_1155 (by decide) ?_
  refine lv_iadd hx hb dL_law_1156 ?_
  refine lv_topk (v := 1) (by decide) ?_
  refine va_sld hx hb hX hbl hbA hS (by unfold vp_in; decide) dL_law_1157 ?_
  refine lv_topk (v := scr 1) rfl ?_
  refine lv_aload_n hx hb dL_law_1158 rfl (lv_at hl 3 rfl) ?_
  refine lv_iload_n hx hb dL_law_1159 rfl (lv_at hl 0 rfl) ?_
  refine lv_iconst (v := 2) hx hb dL_law_1160 (by decide) ?_
  refine lv_iadd hx hb dL_law_1161 ?_
  refine lv_topk (v := 2) (by decide) ?_
  refine va_sld hx hb hX hbl hbA hS (by unfold vp_in; decide) dL_law_1162 ?_
  refine lv_topk (v := scr 2) rfl ?_
  refine lv_aload_n hx hb dL_law_1163 rfl (lv_at hl 3 rfl) ?_
  refine lv_iload_n hx hb dL_law_1164 rfl (lv_at hl 0 rfl) ?_
  refine lv_iconst (v := 3) hx hb dL_law_1165 (by decide) ?_
  refine lv_iadd hx hb dL_law_1166 ?_
  refine lv_topk (v := 3) (by decide) ?_
  refine va_sld hx hb hX hbl hbA hS (by unfold vp_in; decide) dL_law_1167 ?_
  refine lv_topk (v := scr 3) rfl ?_
  refine kVi (As := [.int (scr 1), .int (scr 2), .int (scr 3)]) (rest := []) (wr := [(m0, .inr (12, [.int 0, .ref m0a1, .int 0, .long 0, .int 0, .ref m0a5, .ref m0a6, .ref m0a7, .ref m0a8, .ref m0a9, .int 0, .ref m0a11, .ref m0a12, .ref m0a13, .ref m0a14, .ref m0a15, .ref m0a16, .int 0, .ref m0a18, .ref m0a19, .ref m0a20, .ref m0a21, .ref m0a22, .int 0, .ref m0a24, .ref m0a25, .ref m0a26, .int 0, .ref m0a28, .ref m0a29, .ref m0a30, .ref m0a31, .int 0, .ref m0a33, .ref m0a34, .ref m0a35, .ref m0a36, .ref m0a37, .ref m0a38, .ref m0a39, .ref m0a40, .ref m0a41, .ref m0a42, .ref m0a43, .ref m0a44, .ref m0a45, .ref m0a46, .ref m0a47, .int 0, .ref m0a49, .ref m0a50, .ref m0a51, .int 0, .ref m0a53, .ref m0a54, .ref m0a55, .ref m0a56, .ref m0a57, .ref m0a58, .ref m0a59, .ref m0a60, .ref m0a61, .ref m0a62, .ref m0a63, .long 0, .int 0, .int (-9), .ref m0a67, .ref m0a68, .ref m0a69, .ref m0a70, .ref m0a71, .ref m0a72, .ref m0a73, .ref m0a74, .ref m0a75, .long 0]))]) X (c_X11_moved l g x0 (scr 1) (scr 2) (scr 3) xr xt xg xb xp xu xm xd xw xh xa xs xf xma0 xma1 xma2 xma3 xma4 xma5 xma6 xma7 xma8 xma9 xma10 xma11 xma12) ok_X11_moved okv_X11_moved q_975 rfl hK hP hD hS hA hZ hl.1 [0, 1] [2] rfl rfl rfl rfl rfl 0 11 rfl rfl rfl (Nat.le_of_ble_eq_true rfl) ⟨Nat.le_of_ble_eq_true rfl, Nat.le_of_ble_eq_true rfl⟩ dL_law_1168 ⟨Nat.le_of_ble_eq_true rfl, Nat.le_of_ble_eq_true rfl⟩ (fun r_1 w1 H locs hw_2 hP hD hS => ?_)
  have hP := pSub hP (ws' := [(m0, .inr (12, [.int 0, .ref m0a1, .int 0, .long 0, .int 0, .ref m0a5, .ref m0a6, .ref m0a7, .ref m0a8, .ref m0a9, .int 0, .ref m0a11, .ref m0a12, .ref m0a13, .ref m0a14, .ref m0a15, .ref m0a16, .int 0, .ref m0a18, .ref m0a19, .ref m0a20, .ref m0a21, .ref m0a22, .int 0, .ref m0a24, .ref m0a25, .ref m0a26, .int 0, .ref m0a28, .ref m0a29, .ref m0a30, .ref m0a31, .int 0, .ref m0a33, .ref m0a34, .ref m0a35, .ref m0a36, .ref m0a37, .ref m0a38, .ref m0a39, .ref m0a40, .ref m0a41, .ref m0a42, .ref m0a43, .ref m0a44, .ref m0a45, .ref m0a46, .ref m0a47, .int 0, .ref m0a49, .ref m0a50, .ref m0a51, .int 0, .ref m0a53, .ref m0a54, .ref m0a55, .ref m0a56, .ref m0a57, .ref m0a58, .ref m0a59, .ref m0a60, .ref m0a61, .ref m0a62, .ref m0a63, .long 0, .int 0, .int (-9), .ref m0a67, .ref m0a68, .ref m0a69, .ref m0a70, .ref m0a71, .ref m0a72, .ref m0a73, .ref m0a74, .ref m0a75, .long 0]))]) [0] rfl
  have hD := hD.sub (ws' := [(m0, .inr (12, [.int 0, .ref m0a1, .int 0, .long 0, .int 0, .ref m0a5, .ref m0a6, .ref m0a7, .ref m0a8, .ref m0a9, .int 0, .ref m0a11, .ref m0a12, .ref m0a13, .ref m0a14, .ref m0a15, .ref m0a16, .int 0, .ref m0a18, .ref m0a19, .ref m0a20, .ref m0a21, .ref m0a22, .int 0, .ref m0a24, .ref m0a25, .ref m0a26, .int 0, .ref m0a28, .ref m0a29, .ref m0a30, .ref m0a31, .int 0, .ref m0a33, .ref m0a34, .ref m0a35, .ref m0a36, .ref m0a37, .ref m0a38, .ref m0a39, .ref m0a40, .ref m0a41, .ref m0a42, .ref m0a43, .ref m0a44, .ref m0a45, .ref m0a46, .ref m0a47, .int 0, .ref m0a49, .ref m0a50, .ref m0a51, .int 0, .ref m0a53, .ref m0a54, .ref m0a55, .ref m0a56, .ref m0a57, .ref m0a58, .ref m0a59, .ref m0a60, .ref m0a61, .ref m0a62, .ref m0a63, .long 0, .int 0, .int (-9), .ref m0a67, .ref m0a68, .ref m0a69, .ref m0a70, .ref m0a71, .ref m0a72, .ref m0a73, .ref m0a74, .ref m0a75, .long 0]))]) [0] rfl rfl
  refine lv_aload_n hx hb dL_law_1171 rfl (lv_at hl 1 rfl) ?_
  refine lv_aload_n hx hb dL_law_1172 rfl (lv_at hl 3 rfl) ?_
  refine lv_iload_n hx hb dL_law_1173 rfl (lv_at hl 0 rfl) ?_
  refine lv_iconst (v := 1) hx hb dL_law_1174 (by decide) ?_
  refine lv_iadd hx hb dL_law_1175 ?_
  refine lv_topk (v := 1) (by decide) ?_
  refine va_sld hx hb hX hbl hbA hS (by unfold vp_in; decide) dL_law_1176 ?_
  refine lv_topk (v := scr 1) rfl ?_
  refine lv_aload_n hx hb dL_law_1177 rfl (lv_at hl 3 rfl) ?_
  refine lv_iload_n hx hb dL_law_1178 rfl (lv_at hl 0 rfl) ?_
  refine lv_iconst (v := 2) hx hb dL_law_1179 (by decide) ?_
  refine lv_iadd hx hb dL_law_1180 ?_
  refine lv_topk (v := 2) (by decide) ?_
  refine va_sld hx hb hX hbl hbA hS (by unfold vp_in; decide) dL_law_1181 ?_
  refine lv_topk (v := scr 2) rfl ?_
  refine lv_aload_n hx hb dL_law_1182 rfl (lv_at hl 3 rfl) ?_
  refine lv_iload_n hx hb dL_law_1183 rfl (lv_at hl 0 rfl) ?_
  refine lv_iconst (v := 3) hx hb dL_law_1184 (by decide) ?_
  refine lv_iadd hx hb dL_law_1185 ?_
  refine lv_topk (v := 3) (by decide) ?_
  refine va_sld hx hb hX hbl hbA hS (by unfold vp_in; decide) dL_law_1186 ?_
  refine lv_topk (v := scr 3) rfl ?_
  refine kVi (As := [.int (scr 1), .int (scr 2), .int (scr 3)]) (rest := [.int r_1]) (wr := []) X (c_X12_moved l g m0 (scr 1) (scr 2) (scr 3) m0a1 m0a5 m0a6 m0a7 m0a8 m0a9 m0a11 m0a12 m0a13 m0a14 m0a15 m0a16 m0a18 m0a19 m0a20 m0a21 m0a22 m0a24 m0a25 m0a26 m0a28 m0a29 m0a30 m0a31 m0a33 m0a34 m0a35 m0a36 m0a37 m0a38 m0a39 m0a40 m0a41 m0a42 m0a43 m0a44 m0a45 m0a46 m0a47 m0a49 m0a50 m0a51 m0a53 m0a54 m0a55 m0a56 m0a57 m0a58 m0a59 m0a60 m0a61 m0a62 m0a63 m0a67 m0a68 m0a69 m0a70 m0a71 m0a72 m0a73 m0a74 m0a75) ok_X12_moved okv_X12_moved q_1945 rfl hK hP hD hS hA hZ hl.1 [0] [] rfl rfl rfl rfl rfl 0 12 rfl rfl rfl (Nat.le_of_ble_eq_true rfl) ⟨Nat.le_of_ble_eq_true rfl, Nat.le_of_ble_eq_true rfl⟩ dL_law_1187 ⟨Nat.le_of_ble_eq_true rfl, Nat.le_of_ble_eq_true rfl⟩ (fun r_3 w1 H locs hw_4 hP hD hS => ?_)
  have hP := pSub hP (ws' := []) [] rfl
  have hD := hD.sub (ws' := []) [] rfl rfl
  refine lv_icmp_eq (tgt := 1955) hx hb dL_law_1190 (by decide) (fun _ => ?_) (fun c => absurd (hw_2.trans ((eq_moved g x0 (scr 1) (scr 2) (scr 3) xr xt xg xb xp xu xm xd xw xh xa xs xf xma0 xma1 xma2 xma3 xma4 xma5 xma6 xma7 xma8 xma9 xma10 xma11 xma12 m0 m0a1 m0a5 m0a6 m0a7 m0a8 m0a9 m0a11 m0a12 m0a13 m0a14 m0a15 m0a16 m0a18 m0a19 m0a20 m0a21 m0a22 m0a24 m0a25 m0a26 m0a28 m0a29 m0a30 m0a31 m0a33 m0a34 m0a35 m0a36 m0a37 m0a38 m0a39 m0a40 m0a41 m0a42 m0a43 m0a44 m0a45 m0a46 m0a47 m0a49 m0a50 m0a51 m0a53 m0a54 m0a55 m0a56 m0a57 m0a58 m0a59 m0a60 m0a61 m0a62 m0a63 m0a67 m0a68 m0a69 m0a70 m0a71 m0a72 m0a73 m0a74 m0a75).trans hw_4.symm)) c)
  exact kend _ _ _ hS (lv_sub hl [3, 0] rfl)
set_option maxHeartbeats 4000000 in
set_option maxRecDepth 100000 in
theorem law_25 (l : Launch) (g : GG) {p : Program} {e : Env} {s : State} {m : MethodId} {below : List Frame} {meth : Method} {c : Code} {b : Nat} {scr : Nat → Int32} (X : En p s m #[Value.ref b] meth c cL_law 4 ret R_law meth.name) (hK : va_K g.1 classes (tyG g) s) (hA : ∀ q, s.heap.size ≤ q → laA s q) (hZ : stS g (laA s) s s.heap) (hX : va_X b 6 scr s s.heap) (hbl : b < s.heap.size) (hbA : ¬ laA s b) (x0 : Nat) (xr : Nat) (xt : Nat) (xg : Nat) (xb : Nat) (xp : Nat) (xu : Nat) (xm : Nat) (xd : Nat) (xw : Nat) (xh : Nat) (xa : Nat) (xs : Nat) (xf : Nat) (xma0 : Nat) (xma1 : Nat) (xma2 : Nat) (xma3 : Nat) (xma4 : Nat) (xma5 : Nat) (xma6 : Nat) (xma7 : Nat) (xma8 : Nat) (xma9 : Nat) (xma10 : Nat) (xma11 : Nat) (xma12 : Nat) (m0 : Nat) (m0a1 : Nat) (m0a5 : Nat) (m0a6 : Nat) (m0a7 : Nat) (m0a8 : Nat) (m0a9 : Nat) (m0a11 : Nat) (m0a12 : Nat) (m0a13 : Nat) (m0a14 : Nat) (m0a15 : Nat) (m0a16 : Nat) (m0a18 : Nat) (m0a19 : Nat) (m0a20 : Nat) (m0a21 : Nat) (m0a22 : Nat) (m0a24 : Nat) (m0a25 : Nat) (m0a26 : Nat) (m0a28 : Nat) (m0a29 : Nat) (m0a30 : Nat) (m0a31 : Nat) (m0a33 : Nat) (m0a34 : Nat) (m0a35 : Nat) (m0a36 : Nat) (m0a37 : Nat) (m0a38 : Nat) (m0a39 : Nat) (m0a40 : Nat) (m0a41 : Nat) (m0a42 : Nat) (m0a43 : Nat) (m0a44 : Nat) (m0a45 : Nat) (m0a46 : Nat) (m0a47 : Nat) (m0a49 : Nat) (m0a50 : Nat) (m0a51 : Nat) (m0a53 : Nat) (m0a54 : Nat) (m0a55 : Nat) (m0a56 : Nat) (m0a57 : Nat) (m0a58 : Nat) (m0a59 : Nat) (m0a60 : Nat) (m0a61 : Nat) (m0a62 : Nat) (m0a63 : Nat) (m0a67 : Nat) (m0a68 : Nat) (m0a69 : Nat) (m0a70 : Nat) (m0a71 : Nat) (m0a72 : Nat) (m0a73 : Nat) (m0a74 : Nat) (m0a75 : Nat) {H : Heap} {locs : List Loc} {ls : Array Slot} (hP : va_P g.1 classes [(x0, .inr (11, [.ref xr, .ref xt, .ref xg, .ref xb, .ref xp, .ref xu, .ref xm, .ref xd, .ref xw, .ref xh, .ref xa, .ref xs, .ref xf, .int 0, .int 0, .long 0, .long 0, .int 0])), (xm, .inr (4, [.ref xma0, .ref xma1, .ref xma2, .ref xma3, .ref xma4, .ref xma5, .ref xma6, .ref xma7, .ref xma8, .ref xma9, .ref xma10, .ref xma11, .ref xma12, .int 0])), (xma0, .inl (cI g, 24, .inl (fun _ => 0))), (xma1, .inl (cI g, 24, .inl (fun _ => 0))), (xma2, .inl (cI g, 24, .inl (fun _ => 0))), (xma7, .inl (cI g, 24, .inl (fun _ => 0))), (xma8, .inl (cI g, 24, .inl (fun _ => 0))), (xma10, .inl (cI g, 24, .inl (fun _ => 0))), (m0, .inr (12, [.int 0, .ref m0a1, .int 0, .long 0, .int 0, .ref m0a5, .ref m0a6, .ref m0a7, .ref m0a8, .ref m0a9, .int 0, .ref m0a11, .ref m0a12, .ref m0a13, .ref m0a14, .ref m0a15, .ref m0a16, .int 0, .ref m0a18, .ref m0a19, .ref m0a20, .ref m0a21, .ref m0a22, .int 0, .ref m0a24, .ref m0a25, .ref m0a26, .int 0, .ref m0a28, .ref m0a29, .ref m0a30, .ref m0a31, .int 0, .ref m0a33, .ref m0a34, .ref m0a35, .ref m0a36, .ref m0a37, .ref m0a38, .ref m0a39, .ref m0a40, .ref m0a41, .ref m0a42, .ref m0a43, .ref m0a44, .ref m0a45, .ref m0a46, .ref m0a47, .int 0, .ref m0a49, .ref m0a50, .ref m0a51, .int 0, .ref m0a53, .ref m0a54, .ref m0a55, .ref m0a56, .ref m0a57, .ref m0a58, .ref m0a59, .ref m0a60, .ref m0a61, .ref m0a62, .ref m0a63, .long 0, .int 0, .int (-9), .ref m0a67, .ref m0a68, .ref m0a69, .ref m0a70, .ref m0a71, .ref m0a72, .ref m0a73, .ref m0a74, .ref m0a75, .long 0])), (m0a33, .inl (cI g, 24, .inl (fun _ => 0))), (m0a34, .inl (cI g, 24, .inl (fun _ => 0))), (m0a35, .inl (cI g, 24, .inl (fun _ => 0))), (m0a37, .inl (cI g, 24, .inl (fun _ => 0))), (m0a38, .inl (cI g, 24, .inl (fun _ => 0))), (m0a43, .inl (cI g, 24, .inl (fun _ => 0))), (m0a44, .inl (cI g, 24, .inl (fun _ => 0)))] H) (hD : va_D (laA s) [(x0, .inr (11, [.ref xr, .ref xt, .ref xg, .ref xb, .ref xp, .ref xu, .ref xm, .ref xd, .ref xw, .ref xh, .ref xa, .ref xs, .ref xf, .int 0, .int 0, .long 0, .long 0, .int 0])), (xm, .inr (4, [.ref xma0, .ref xma1, .ref xma2, .ref xma3, .ref xma4, .ref xma5, .ref xma6, .ref xma7, .ref xma8, .ref xma9, .ref xma10, .ref xma11, .ref xma12, .int 0])), (xma0, .inl (cI g, 24, .inl (fun _ => 0))), (xma1, .inl (cI g, 24, .inl (fun _ => 0))), (xma2, .inl (cI g, 24, .inl (fun _ => 0))), (xma7, .inl (cI g, 24, .inl (fun _ => 0))), (xma8, .inl (cI g, 24, .inl (fun _ => 0))), (xma10, .inl (cI g, 24, .inl (fun _ => 0))), (m0, .inr (12, [.int 0, .ref m0a1, .int 0, .long 0, .int 0, .ref m0a5, .ref m0a6, .ref m0a7, .ref m0a8, .ref m0a9, .int 0, .ref m0a11, .ref m0a12, .ref m0a13, .ref m0a14, .ref m0a15, .ref m0a16, .int 0, .ref m0a18, .ref m0a19, .ref m0a20, .ref m0a21, .ref m0a22, .int 0, .ref m0a24, .ref m0a25, .ref m0a26, .int 0, .ref m0a28, .ref m0a29, .ref m0a30, .ref m0a31, .int 0, .ref m0a33, .ref m0a34, .ref m0a35, .ref m0a36, .ref m0a37, .ref m0a38, .ref m0a39, .ref m0a40, .ref m0a41, .ref m0a42, .ref m0a43, .ref m0a44, .ref m0a45, .ref m0a46, .ref m0a47, .int 0, .ref m0a49, .ref m0a50, .ref m0a51, .int 0, .ref m0a53, .ref m0a54, .ref m0a55, .ref m0a56, .ref m0a57, .ref m0a58, .ref m0a59, .ref m0a60, .ref m0a61, .ref m0a62, .ref m0a63, .long 0, .int 0, .int (-9), .ref m0a67, .ref m0a68, .ref m0a69, .ref m0a70, .ref m0a71, .ref m0a72, .ref m0a73, .ref m0a74, .ref m0a75, .long 0])), (m0a33, .inl (cI g, 24, .inl (fun _ => 0))), (m0a34, .inl (cI g, 24, .inl (fun _ => 0))), (m0a35, .inl (cI g, 24, .inl (fun _ => 0))), (m0a37, .inl (cI g, 24, .inl (fun _ => 0))), (m0a38, .inl (cI g, 24, .inl (fun _ => 0))), (m0a43, .inl (cI g, 24, .inl (fun _ => 0))), (m0a44, .inl (cI g, 24, .inl (fun _ => 0)))]) (hS : va_S (laA s) s.heap H locs) (hl : lv_has ls 4 [(3, .int 0), (2, .ref m0), (1, .ref x0), (0, .ref b)]) {Q : State → Prop} (kend : ∀ (H : Heap) (locs : List Loc) (ls : Array Slot), va_S (laA s) s.heap H locs → lv_has ls 4 [(0, .ref b), (3, .int 0)] → W p l e room_1 s m #[Value.ref b] below meth c H locs 141 11384 Q (F0 m 1955 ls [])) : W p l e room_1 s m #[Value.ref b] below meth c H locs 141 11384 Q (F0 m 1195 ls []) := by
  have hx := X.1
  have hb := X.2.1
  have hml := X.2.2.1
  have hown := X.2.2.2.1
  have hts := X.2.2.2.2.1
  refine lv_aload_n hx hb dL_law_1195 rfl (lv_at hl 2 rfl) ?_
  refine lv_aload_n hx hb dL_law_1196 rfl (lv_at hl 3 rfl) ?_
  refine lv_iload_n hx hb dL_law_1197 rfl (lv_at hl 0 rfl) ?_
  refine lv_iconst (v := 1) hx hb dL_law_1198 (by decide) ?_
  refine lv_iadd hx hb dL_law_1199 ?_
  refine lv_topk (v := 1) (by decide) ?_
  refine va_sld hx hb hX hbl hbA hS (by unfold vp_in; decide) dL_law_1200 ?_
  refine lv_topk (v := scr 1) rfl ?_
  refine lv_aload_n hx hb dL_law_1201 rfl (lv_at hl 3 rfl) ?_
  refine lv_iload_n hx hb dL_law_1202 rfl (lv_at hl 0 rfl) ?_
  refine lv_iconst (v := 2) hx hb dL_law_1203 (by decide) ?_
  refine lv_iadd hx hb dL_law_1204 ?_
  refine lv_topk (v := 2) (by decide) ?_
  refine va_sld hx hb hX hbl hbA hS (by unfold vp_in; decide) dL_law_1205 ?_
  refine lv_topk (v := scr 2) rfl ?_
  refine kVi (As := [.int (scr 1), .int (scr 2)]) (rest := []) (wr := [(m0, .inr (12, [.int 0, .ref m0a1, .int 0, .long 0, .int 0, .ref m0a5, .ref m0a6, .ref m0a7, .ref m0a8, .ref m0a9, .int 0, .ref m0a11, .ref m0a12, .ref m0a13, .ref m0a14, .ref m0a15, .ref m0a16, .int 0, .ref m0a18, .ref m0a19, .ref m0a20, .ref m0a21, .ref m0a22, .int 0, .ref m0a24, .ref m0a25, .ref m0a26, .int 0, .ref m0a28, .ref m0a29, .ref m0a30, .ref m0a31, .int 0, .ref m0a33, .ref m0a34, .ref m0a35, .ref m0a36, .ref m0a37, .ref m0a38, .ref m0a39, .ref m0a40, .ref m0a41, .ref m0a42, .ref m0a43, .ref m0a44, .ref m0a45, .ref m0a46, .ref m0a47, .int 0, .ref m0a49, .ref m0a50, .ref m0a51, .int 0, .ref m0a53, .ref m0a54, .ref m0a55, .ref m0a56, .ref m0a57, .ref m0a58, .ref m0a59, .ref m0a60, .ref m0a61, .ref m0a62, .ref m0a63, .long 0, .int 0, .int (-9), .ref m0a67, .ref m0a68, .ref m0a69, .ref m0a70, .ref m0a71, .ref m0a72, .ref m0a73, .ref m0a74, .ref m0a75, .long 0])), (m0a33, .inl (cI g, 24, .inl (fun _ => 0))), (m0a34, .inl (cI g, 24, .inl (fun _ => 0))), (m0a35, .inl (cI g, 24, .inl (fun _ => 0))), (m0a37, .inl (cI g, 24, .inl (fun _ => 0))), (m0a38, .inl (cI g, 24, .inl (fun _ => 0))), (m0a43, .inl (cI g, 24, .inl (fun _ => 0))), (m0a44, .inl (cI g, 24, .inl (fun _ => 0)))]) X (c_X11_grant l g x0 (scr 1) (scr 2) xr xt xg xb xp xu xm xd xw xh xa xs xf xma0 xma1 xma2 xma3 xma4 xma5 xma6 xma7 xma8 xma9 xma10 xma11 xma12) ok_X11_grant okv_X11_grant q_995 rfl hK hP hD hS hA hZ hl.1 [0, 1, 2, 3, 4, 5, 6, 7] [8, 9, 10, 11, 12, 13, 14, 15] rfl rfl rfl rfl rfl 0 11 rfl rfl rfl (Nat.le_of_ble_eq_true rfl) ⟨Nat.le_of_ble_eq_true rfl, Nat.le_of_ble_eq_true rfl⟩ dL_law_1206 ⟨Nat.le_of_ble_eq_true rfl, Nat.le_of_ble_eq_true rfl⟩ (fun r_1 w1 H locs hw_2 hP hD hS => ?_)
  have hP := pSub hP (ws' := [(m0, .inr (12, [.int 0, .ref m0a1, .int 0, .long 0, .int 0, .ref m0a5, .ref m0a6, .ref m0a7, .ref m0a8, .ref m0a9, .int 0, .ref m0a11, .ref m0a12, .ref m0a13, .ref m0a14, .ref m0a15, .ref m0a16, .int 0, .ref m0a18, .ref m0a19, .ref m0a20, .ref m0a21, .ref m0a22, .int 0, .ref m0a24, .ref m0a25, .ref m0a26, .int 0, .ref m0a28, .ref m0a29, .ref m0a30, .ref m0a31, .int 0, .ref m0a33, .ref m0a34, .ref m0a35, .ref m0a36, .ref m0a37, .ref m0a38, .ref m0a39, .ref m0a40, .ref m0a41, .ref m0a42, .ref m0a43, .ref m0a44, .ref m0a45, .ref m0a46, .ref m0a47, .int 0, .ref m0a49, .ref m0a50, .ref m0a51, .int 0, .ref m0a53, .ref m0a54, .ref m0a55, .ref m0a56, .ref m0a57, .ref m0a58, .ref m0a59, .ref m0a60, .ref m0a61, .ref m0a62, .ref m0a63, .long 0, .int 0, .int (-9), .ref m0a67, .ref m0a68, .ref m0a69, .ref m0a70, .ref m0a71, .ref m0a72, .ref m0a73, .ref m0a74, .ref m0a75, .long 0])), (m0a33, .inl (cI g, 24, .inl (fun _ => 0))), (m0a34, .inl (cI g, 24, .inl (fun _ => 0))), (m0a35, .inl (cI g, 24, .inl (fun _ => 0))), (m0a37, .inl (cI g, 24, .inl (fun _ => 0))), (m0a38, .inl (cI g, 24, .inl (fun _ => 0))), (m0a43, .inl (cI g, 24, .inl (fun _ => 0))), (m0a44, .inl (cI g, 24, .inl (fun _ => 0)))]) [0, 1, 2, 3, 4, 5, 6, 7] rfl
  have hD := hD.sub (ws' := [(m0, .inr (12, [.int 0, .ref m0a1, .int 0, .long 0, .int 0, .ref m0a5, .ref m0a6, .ref m0a7, .ref m0a8, .ref m0a9, .int 0, .ref m0a11, .ref m0a12, .ref m0a13, .ref m0a14, .ref m0a15, .ref m0a16, .int 0, .ref m0a18, .ref m0a19, .ref m0a20, .ref m0a21, .ref m0a22, .int 0, .ref m0a24, .ref m0a25, .ref m0a26, .int 0, .ref m0a28, .ref m0a29, .ref m0a30, .ref m0a31, .int 0, .ref m0a33, .ref m0a34, .ref m0a35, .ref m0a36, .ref m0a37, .ref m0a38, .ref m0a39, .ref m0a40, .ref m0a41, .ref m0a42, .ref m0a43, .ref m0a44, .ref m0a45, .ref m0a46, .ref m0a47, .int 0, .ref m0a49, .ref m0a50, .ref m0a51, .int 0, .ref m0a53, .ref m0a54, .ref m0a55, .ref m0a56, .ref m0a57, .ref m0a58, .ref m0a59, .ref m0a60, .ref m0a61, .ref m0a62, .ref m0a63, .long 0, .int 0, .int (-9), .ref m0a67, .ref m0a68, .ref m0a69, .ref m0a70, .ref m0a71, .ref m0a72, .ref m0a73, .ref m0a74, .ref m0a75, .long 0])), (m0a33, .inl (cI g, 24, .inl (fun _ => 0))), (m0a34, .inl (cI g, 24, .inl (fun _ => 0))), (m0a35, .inl (cI g, 24, .inl (fun _ => 0))), (m0a37, .inl (cI g, 24, .inl (fun _ => 0))), (m0a38, .inl (cI g, 24, .inl (fun _ => 0))), (m0a43, .inl (cI g, 24, .inl (fun _ => 0))), (m0a44, .inl (cI g, 24, .inl (fun _ => 0)))]) [0, 1, 2, 3, 4, 5, 6, 7] rfl rfl
  refine lv_aload_n hx hb dL_law_1209 rfl (lv_at hl 1 rfl) ?_
  refine lv_aload_n hx hb dL_law_1210 rfl (lv_at hl 3 rfl) ?_
  refine lv_iload_n hx hb dL_law_1211 rfl (lv_at hl 0 rfl) ?_
  refine lv_iconst (v := 1) hx hb dL_law_1212 (by decide) ?_
  refine lv_iadd hx hb dL_law_1213 ?_
  refine lv_topk (v := 1) (by decide) ?_
  refine va_sld hx hb hX hbl hbA hS (by unfold vp_in; decide) dL_law_1214 ?_
  refine lv_topk (v := scr 1) rfl ?_
  refine lv_aload_n hx hb dL_law_1215 rfl (lv_at hl 3 rfl) ?_
  refine lv_iload_n hx hb dL_law_1216 rfl (lv_at hl 0 rfl) ?_
  refine lv_iconst (v := 2) hx hb dL_law_1217 (by decide) ?_
  refine lv_iadd hx hb dL_law_1218 ?_
  refine lv_topk (v := 2) (by decide) ?_
  refine va_sld hx hb hX hbl hbA hS (by unfold vp_in; decide) dL_law_1219 ?_
  refine lv_topk (v := scr 2) rfl ?_
  refine kVi (As := [.int (scr 1), .int (scr 2)]) (rest := [.int r_1]) (wr := []) X (c_X12_grant l g m0 (scr 1) (scr 2) m0a1 m0a5 m0a6 m0a7 m0a8 m0a9 m0a11 m0a12 m0a13 m0a14 m0a15 m0a16 m0a18 m0a19 m0a20 m0a21 m0a22 m0a24 m0a25 m0a26 m0a28 m0a29 m0a30 m0a31 m0a33 m0a34 m0a35 m0a36 m0a37 m0a38 m0a39 m0a40 m0a41 m0a42 m0a43 m0a44 m0a45 m0a46 m0a47 m0a49 m0a50 m0a51 m0a53 m0a54 m0a55 m0a56 m0a57 m0a58 m0a59 m0a60 m0a61 m0a62 m0a63 m0a67 m0a68 m0a69 m0a70 m0a71 m0a72 m0a73 m0a74 m0a75) ok_X12_grant okv_X12_grant q_1949 rfl hK hP hD hS hA hZ hl.1 [0, 1, 2, 3, 4, 5, 6, 7] [] rfl rfl rfl rfl rfl 0 12 rfl rfl rfl (Nat.le_of_ble_eq_true rfl) ⟨Nat.le_of_ble_eq_true rfl, Nat.le_of_ble_eq_true rfl⟩ dL_law_1220 ⟨Nat.le_of_ble_eq_true rfl, Nat.le_of_ble_eq_true rfl⟩ (fun r_3 w1 H locs hw_4 hP hD hS => ?_)
  have hP := pSub hP (ws' := []) [] rfl
  have hD := hD.sub (ws' := []) [] rfl rfl
  refine lv_icmp_eq (tgt := 1955) hx hb dL_law_1223 (by decide) (fun _ => ?_) (fun c => absurd (hw_2.trans ((eq_grant g x0 (scr 1) (scr 2) xr xt xg xb xp xu xm xd xw xh xa xs xf xma0 xma1 xma2 xma3 xma4 xma5 xma6 xma7 xma8 xma9 xma10 xma11 xma12 m0 m0a1 m0a5 m0a6 m0a7 m0a8 m0a9 m0a11 m0a12 m0a13 m0a14 m0a15 m0a16 m0a18 m0a19 m0a20 m0a21 m0a22 m0a24 m0a25 m0a26 m0a28 m0a29 m0a30 m0a31 m0a33 m0a34 m0a35 m0a36 m0a37 m0a38 m0a39 m0a40 m0a41 m0a42 m0a43 m0a44 m0a45 m0a46 m0a47 m0a49 m0a50 m0a51 m0a53 m0a54 m0a55 m0a56 m0a57 m0a58 m0a59 m0a60 m0a61 m0a62 m0a63 m0a67 m0a68 m0a69 m0a70 m0a71 m0a72 m0a73 m0a74 m0a75).trans hw_4.symm)) c)
  exact kend _ _ _ hS (lv_sub hl [3, 0] rfl)
set_option maxHeartbeats 4000000 in
set_option maxRecDepth 100000 in
theorem law_26 (l : Launch) (g : GG) {p : Program} {e : Env} {s : State} {m : MethodId} {below : List Frame} {meth : Method} {c : Code} {b : Nat} {scr : Nat → Int32} (X : En p s m #[Value.ref b] meth c cL_law 4 ret R_law meth.name) (hK : va_K g.1 classes (tyG g) s) (hA : ∀ q, s.heap.size ≤ q → laA s q) (hZ : stS g (laA s) s s.heap) (hX : va_X b 6 scr s s.heap) (hbl : b < s.heap.size) (hbA : ¬ laA s b) (x0 : Nat) (xr : Nat) (xt : Nat) (xg : Nat) (xb : Nat) (xp : Nat) (xu : Nat) (xm : Nat) (xd : Nat) (xw : Nat) (xh : Nat) (xa : Nat) (xs : Nat) (xf : Nat) (xma0 : Nat) (xma1 : Nat) (xma2 : Nat) (xma3 : Nat) (xma4 : Nat) (xma5 : Nat) (xma6 : Nat) (xma7 : Nat) (xma8 : Nat) (xma9 : Nat) (xma10 : Nat) (xma11 : Nat) (xma12 : Nat) (m0 : Nat) (m0a1 : Nat) (m0a5 : Nat) (m0a6 : Nat) (m0a7 : Nat) (m0a8 : Nat) (m0a9 : Nat) (m0a11 : Nat) (m0a12 : Nat) (m0a13 : Nat) (m0a14 : Nat) (m0a15 : Nat) (m0a16 : Nat) (m0a18 : Nat) (m0a19 : Nat) (m0a20 : Nat) (m0a21 : Nat) (m0a22 : Nat) (m0a24 : Nat) (m0a25 : Nat) (m0a26 : Nat) (m0a28 : Nat) (m0a29 : Nat) (m0a30 : Nat) (m0a31 : Nat) (m0a33 : Nat) (m0a34 : Nat) (m0a35 : Nat) (m0a36 : Nat) (m0a37 : Nat) (m0a38 : Nat) (m0a39 : Nat) (m0a40 : Nat) (m0a41 : Nat) (m0a42 : Nat) (m0a43 : Nat) (m0a44 : Nat) (m0a45 : Nat) (m0a46 : Nat) (m0a47 : Nat) (m0a49 : Nat) (m0a50 : Nat) (m0a51 : Nat) (m0a53 : Nat) (m0a54 : Nat) (m0a55 : Nat) (m0a56 : Nat) (m0a57 : Nat) (m0a58 : Nat) (m0a59 : Nat) (m0a60 : Nat) (m0a61 : Nat) (m0a62 : Nat) (m0a63 : Nat) (m0a67 : Nat) (m0a68 : Nat) (m0a69 : Nat) (m0a70 : Nat) (m0a71 : Nat) (m0a72 : Nat) (m0a73 : Nat) (m0a74 : Nat) (m0a75 : Nat) {H : Heap} {locs : List Loc} {ls : Array Slot} (hP : va_P g.1 classes [(x0, .inr (11, [.ref xr, .ref xt, .ref xg, .ref xb, .ref xp, .ref xu, .ref xm, .ref xd, .ref xw, .ref xh, .ref xa, .ref xs, .ref xf, .int 0, .int 0, .long 0, .long 0, .int 0])), (xm, .inr (4, [.ref xma0, .ref xma1, .ref xma2, .ref xma3, .ref xma4, .ref xma5, .ref xma6, .ref xma7, .ref xma8, .ref xma9, .ref xma10, .ref xma11, .ref xma12, .int 0])), (m0, .inr (12, [.int 0, .ref m0a1, .int 0, .long 0, .int 0, .ref m0a5, .ref m0a6, .ref m0a7, .ref m0a8, .ref m0a9, .int 0, .ref m0a11, .ref m0a12, .ref m0a13, .ref m0a14, .ref m0a15, .ref m0a16, .int 0, .ref m0a18, .ref m0a19, .ref m0a20, .ref m0a21, .ref m0a22, .int 0, .ref m0a24, .ref m0a25, .ref m0a26, .int 0, .ref m0a28, .ref m0a29, .ref m0a30, .ref m0a31, .int 0, .ref m0a33, .ref m0a34, .ref m0a35, .ref m0a36, .ref m0a37, .ref m0a38, .ref m0a39, .ref m0a40, .ref m0a41, .ref m0a42, .ref m0a43, .ref m0a44, .ref m0a45, .ref m0a46, .ref m0a47, .int 0, .ref m0a49, .ref m0a50, .ref m0a51, .int 0, .ref m0a53, .ref m0a54, .ref m0a55, .ref m0a56, .ref m0a57, .ref m0a58, .ref m0a59, .ref m0a60, .ref m0a61, .ref m0a62, .ref m0a63, .long 0, .int 0, .int (-9), .ref m0a67, .ref m0a68, .ref m0a69, .ref m0a70, .ref m0a71, .ref m0a72, .ref m0a73, .ref m0a74, .ref m0a75, .long 0]))] H) (hD : va_D (laA s) [(x0, .inr (11, [.ref xr, .ref xt, .ref xg, .ref xb, .ref xp, .ref xu, .ref xm, .ref xd, .ref xw, .ref xh, .ref xa, .ref xs, .ref xf, .int 0, .int 0, .long 0, .long 0, .int 0])), (xm, .inr (4, [.ref xma0, .ref xma1, .ref xma2, .ref xma3, .ref xma4, .ref xma5, .ref xma6, .ref xma7, .ref xma8, .ref xma9, .ref xma10, .ref xma11, .ref xma12, .int 0])), (m0, .inr (12, [.int 0, .ref m0a1, .int 0, .long 0, .int 0, .ref m0a5, .ref m0a6, .ref m0a7, .ref m0a8, .ref m0a9, .int 0, .ref m0a11, .ref m0a12, .ref m0a13, .ref m0a14, .ref m0a15, .ref m0a16, .int 0, .ref m0a18, .ref m0a19, .ref m0a20, .ref m0a21, .ref m0a22, .int 0, .ref m0a24, .ref m0a25, .ref m0a26, .int 0, .ref m0a28, .ref m0a29, .ref m0a30, .ref m0a31, .int 0, .ref m0a33, .ref m0a34, .ref m0a35, .ref m0a36, .ref m0a37, .ref m0a38, .ref m0a39, .ref m0a40, .ref m0a41, .ref m0a42, .ref m0a43, .ref m0a44, .ref m0a45, .ref m0a46, .ref m0a47, .int 0, .ref m0a49, .ref m0a50, .ref m0a51, .int 0, .ref m0a53, .ref m0a54, .ref m0a55, .ref m0a56, .ref m0a57, .ref m0a58, .ref m0a59, .ref m0a60, .ref m0a61, .ref m0a62, .ref m0a63, .long 0, .int 0, .int (-9), .ref m0a67, .ref m0a68, .ref m0a69, .ref m0a70, .ref m0a71, .ref m0a72, .ref m0a73, .ref m0a74, .ref m0a75, .long 0]))]) (hS : va_S (laA s) s.heap H locs) (hl : lv_has ls 4 [(3, .int 0), (2, .ref m0), (1, .ref x0), (0, .ref b)]) {Q : State → Prop} (kend : ∀ (H : Heap) (locs : List Loc) (ls : Array Slot), va_S (laA s) s.heap H locs → lv_has ls 4 [(0, .ref b), (3, .int 0)] → W p l e room_1 s m #[Value.ref b] below meth c H locs 141 11384 Q (F0 m 1955 ls [])) : W p l e room_1 s m #[Value.ref b] below meth c H locs 141 11384 Q (F0 m 1228 ls []) := by
  have hx := X.1
  have hb := X.2.1
  have hml := X.2.2.1
  have hown := X.2.2.2.1
  have hts := X.2.2.2.2.1
  refine lv_aload_n hx hb dL_law_1228 rfl (lv_at hl 2 rfl) ?_
  refine lv_aload_n hx hb dL_law_1229 rfl (lv_at hl 3 rfl) ?_
  refine lv_iload_n hx hb dL_law_1230 rfl (lv_at hl 0 rfl) ?_
  refine lv_iconst (v := 1) hx hb dL_law_1231 (by decide) ?_
  refine lv_iadd hx hb dL_law_1232 ?_
  refine lv_topk (v := 1) (by decide) ?_
  refine va_sld hx hb hX hbl hbA hS (by unfold vp_in; decide) dL_law_1233 ?_
  refine lv_topk (v := scr 1) rfl ?_
  refine lv_aload_n hx hb dL_law_1234 rfl (lv_at hl 3 rfl) ?_
  refine lv_iload_n hx hb dL_law_1235 rfl (lv_at hl 0 rfl) ?_
  refine lv_iconst (v := 2) hx hb dL_law_1236 (by decide) ?_
  refine lv_iadd hx hb dL_law_1237 ?_
  refine lv_topk (v := 2) (by decide) ?_
  refine va_sld hx hb hX hbl hbA hS (by unfold vp_in; decide) dL_law_1238 ?_
  refine lv_topk (v := scr 2) rfl ?_
  refine lv_aload_n hx hb dL_law_1239 rfl (lv_at hl 3 rfl) ?_
  refine lv_iload_n hx hb dL_law_1240 rfl (lv_at hl 0 rfl) ?_
  refine lv_iconst (v := 3) hx hb dL_law_1241 (by decide) ?_
  refine lv_iadd hx hb dL_law_1242 ?_
  refine lv_topk (v := 3) (by decide) ?_
  refine va_sld hx hb hX hbl hbA hS (by unfold vp_in; decide) dL_law_1243 ?_
  refine lv_topk (v := scr 3) rfl ?_
  refine lv_aload_n hx hb dL_law_1244 rfl (lv_at hl 3 rfl) ?_
  refine lv_iload_n hx hb dL_law_1245 rfl (lv_at hl 0 rfl) ?_
  refine lv_iconst (v := 4) hx hb dL_law_1246 (by decide) ?_
  refine lv_iadd hx hb dL_law_1247 ?_
  refine lv_topk (v := 4) (by decide) ?_
  refine va_sld hx hb hX hbl hbA hS (by unfold vp_in; decide) dL_law_1248 ?_
  refine lv_topk (v := scr 4) rfl ?_
  refine kVi (As := [.int (scr 1), .int (scr 2), .int (scr 3), .int (scr 4)]) (rest := []) (wr := [(m0, .inr (12, [.int 0, .ref m0a1, .int 0, .long 0, .int 0, .ref m0a5, .ref m0a6, .ref m0a7, .ref m0a8, .ref m0a9, .int 0, .ref m0a11, .ref m0a12, .ref m0a13, .ref m0a14, .ref m0a15, .ref m0a16, .int 0, .ref m0a18, .ref m0a19, .ref m0a20, .ref m0a21, .ref m0a22, .int 0, .ref m0a24, .ref m0a25, .ref m0a26, .int 0, .ref m0a28, .ref m0a29, .ref m0a30, .ref m0a31, .int 0, .ref m0a33, .ref m0a34, .ref m0a35, .ref m0a36, .ref m0a37, .ref m0a38, .ref m0a39, .ref m0a40, .ref m0a41, .ref m0a42, .ref m0a43, .ref m0a44, .ref m0a45, .ref m0a46, .ref m0a47, .int 0, .ref m0a49, .ref m0a50, .ref m0a51, .int 0, .ref m0a53, .ref m0a54, .ref m0a55, .ref m0a56, .ref m0a57, .ref m0a58, .ref m0a59, .ref m0a60, .ref m0a61, .ref m0a62, .ref m0a63, .long 0, .int 0, .int (-9), .ref m0a67, .ref m0a68, .ref m0a69, .ref m0a70, .ref m0a71, .ref m0a72, .ref m0a73, .ref m0a74, .ref m0a75, .long 0]))]) X (c_X11_hearing l g x0 (scr 1) (scr 2) (scr 3) (scr 4) xr xt xg xb xp xu xm xd xw xh xa xs xf xma0 xma1 xma2 xma3 xma4 xma5 xma6 xma7 xma8 xma9 xma10 xma11 xma12) ok_X11_hearing okv_X11_hearing q_1003 rfl hK hP hD hS hA hZ hl.1 [0, 1] [2] rfl rfl rfl rfl rfl 0 11 rfl rfl rfl (Nat.le_of_ble_eq_true rfl) ⟨Nat.le_of_ble_eq_true rfl, Nat.le_of_ble_eq_true rfl⟩ dL_law_1249 ⟨Nat.le_of_ble_eq_true rfl, Nat.le_of_ble_eq_true rfl⟩ (fun r_1 w1 H locs hw_2 hP hD hS => ?_)
  have hP := pSub hP (ws' := [(m0, .inr (12, [.int 0, .ref m0a1, .int 0, .long 0, .int 0, .ref m0a5, .ref m0a6, .ref m0a7, .ref m0a8, .ref m0a9, .int 0, .ref m0a11, .ref m0a12, .ref m0a13, .ref m0a14, .ref m0a15, .ref m0a16, .int 0, .ref m0a18, .ref m0a19, .ref m0a20, .ref m0a21, .ref m0a22, .int 0, .ref m0a24, .ref m0a25, .ref m0a26, .int 0, .ref m0a28, .ref m0a29, .ref m0a30, .ref m0a31, .int 0, .ref m0a33, .ref m0a34, .ref m0a35, .ref m0a36, .ref m0a37, .ref m0a38, .ref m0a39, .ref m0a40, .ref m0a41, .ref m0a42, .ref m0a43, .ref m0a44, .ref m0a45, .ref m0a46, .ref m0a47, .int 0, .ref m0a49, .ref m0a50, .ref m0a51, .int 0, .ref m0a53, .ref m0a54, .ref m0a55, .ref m0a56, .ref m0a57, .ref m0a58, .ref m0a59, .ref m0a60, .ref m0a61, .ref m0a62, .ref m0a63, .long 0, .int 0, .int (-9), .ref m0a67, .ref m0a68, .ref m0a69, .ref m0a70, .ref m0a71, .ref m0a72, .ref m0a73, .ref m0a74, .ref m0a75, .long 0]))]) [0] rfl
  have hD := hD.sub (ws' := [(m0, .inr (12, [.int 0, .ref m0a1, .int 0, .long 0, .int 0, .ref m0a5, .ref m0a6, .ref m0a7, .ref m0a8, .ref m0a9, .int 0, .ref m0a11, .ref m0a12, .ref m0a13, .ref m0a14, .ref m0a15, .ref m0a16, .int 0, .ref m0a18, .ref m0a19, .ref m0a20, .ref m0a21, .ref m0a22, .int 0, .ref m0a24, .ref m0a25, .ref m0a26, .int 0, .ref m0a28, .ref m0a29, .ref m0a30, .ref m0a31, .int 0, .ref m0a33, .ref m0a34, .ref m0a35, .ref m0a36, .ref m0a37, .ref m0a38, .ref m0a39, .ref m0a40, .ref m0a41, .ref m0a42, .ref m0a43, .ref m0a44, .ref m0a45, .ref m0a46, .ref m0a47, .int 0, .ref m0a49, .ref m0a50, .ref m0a51, .int 0, .ref m0a53, .ref m0a54, .ref m0a55, .ref m0a56, .ref m0a57, .ref m0a58, .ref m0a59, .ref m0a60, .ref m0a61, .ref m0a62, .ref m0a63, .long 0, .int 0, .int (-9), .ref m0a67, .ref m0a68, .ref m0a69, .ref m0a70, .ref m0a71, .ref m0a72, .ref m0a73, .ref m0a74, .ref m0a75, .long 0]))]) [0] rfl rfl
  refine lv_aload_n hx hb dL_law_1252 rfl (lv_at hl 1 rfl) ?_
  refine lv_aload_n hx hb dL_law_1253 rfl (lv_at hl 3 rfl) ?_
  refine lv_iload_n hx hb dL_law_1254 rfl (lv_at hl 0 rfl) ?_
  refine lv_iconst (v := 1) hx hb dL_law_1255 (by decide) ?_
  refine lv_iadd hx hb dL_law_1256 ?_
  refine lv_topk (v := 1) (by decide) ?_
  refine va_sld hx hb hX hbl hbA hS (by unfold vp_in; decide) dL_law_1257 ?_
  refine lv_topk (v := scr 1) rfl ?_
  refine lv_aload_n hx hb dL_law_1258 rfl (lv_at hl 3 rfl) ?_
  refine lv_iload_n hx hb dL_law_1259 rfl (lv_at hl 0 rfl) ?_
  refine lv_iconst (v := 2) hx hb dL_law_1260 (by decide) ?_
  refine lv_iadd hx hb dL_law_1261 ?_
  refine lv_topk (v := 2) (by decide) ?_
  refine va_sld hx hb hX hbl hbA hS (by unfold vp_in; decide) dL_law_1262 ?_
  refine lv_topk (v := scr 2) rfl ?_
  refine lv_aload_n hx hb dL_law_1263 rfl (lv_at hl 3 rfl) ?_
  refine lv_iload_n hx hb dL_law_1264 rfl (lv_at hl 0 rfl) ?_
  refine lv_iconst (v := 3) hx hb dL_law_1265 (by decide) ?_
  refine lv_iadd hx hb dL_law_1266 ?_
  refine lv_topk (v := 3) (by decide) ?_
  refine va_sld hx hb hX hbl hbA hS (by unfold vp_in; decide) dL_law_1267 ?_
  refine lv_topk (v := scr 3) rfl ?_
  refine lv_aload_n hx hb dL_law_1268 rfl (lv_at hl 3 rfl) ?_
  refine lv_iload_n hx hb dL_law_1269 rfl (lv_at hl 0 rfl) ?_
  refine lv_iconst (v := 4) hx hb dL_law_1270 (by decide) ?_
  refine lv_iadd hx hb dL_law_1271 ?_
  refine lv_topk (v := 4) (by decide) ?_
  refine va_sld hx hb hX hbl hbA hS (by unfold vp_in; decide) dL_law_1272 ?_
  refine lv_topk (v := scr 4) rfl ?_
  refine kVi (As := [.int (scr 1), .int (scr 2), .int (scr 3), .int (scr 4)]) (rest := [.int r_1]) (wr := []) X (c_X12_hearing l g m0 (scr 1) (scr 2) (scr 3) (scr 4) m0a1 m0a5 m0a6 m0a7 m0a8 m0a9 m0a11 m0a12 m0a13 m0a14 m0a15 m0a16 m0a18 m0a19 m0a20 m0a21 m0a22 m0a24 m0a25 m0a26 m0a28 m0a29 m0a30 m0a31 m0a33 m0a34 m0a35 m0a36 m0a37 m0a38 m0a39 m0a40 m0a41 m0a42 m0a43 m0a44 m0a45 m0a46 m0a47 m0a49 m0a50 m0a51 m0a53 m0a54 m0a55 m0a56 m0a57 m0a58 m0a59 m0a60 m0a61 m0a62 m0a63 m0a67 m0a68 m0a69 m0a70 m0a71 m0a72 m0a73 m0a74 m0a75) ok_X12_hearing okv_X12_hearing q_1953 rfl hK hP hD hS hA hZ hl.1 [0] [] rfl rfl rfl rfl rfl 0 12 rfl rfl rfl (Nat.le_of_ble_eq_true rfl) ⟨Nat.le_of_ble_eq_true rfl, Nat.le_of_ble_eq_true rfl⟩ dL_law_1273 ⟨Nat.le_of_ble_eq_true rfl, Nat.le_of_ble_eq_true rfl⟩ (fun r_3 w1 H locs hw_4 hP hD hS => ?_)
  have hP := pSub hP (ws' := []) [] rfl
  have hD := hD.sub (ws' := []) [] rfl rfl
  refine lv_icmp_eq (tgt := 1955) hx hb dL_law_1276 (by decide) (fun _ => ?_) (fun c => absurd (hw_2.trans ((eq_hearing g x0 (scr 1) (scr 2) (scr 3) (scr 4) xr xt xg xb xp xu xm xd xw xh xa xs xf xma0 xma1 xma2 xma3 xma4 xma5 xma6 xma7 xma8 xma9 xma10 xma11 xma12 m0 m0a1 m0a5 m0a6 m0a7 m0a8 m0a9 m0a11 m0a12 m0a13 m0a14 m0a15 m0a16 m0a18 m0a19 m0a20 m0a21 m0a22 m0a24 m0a25 m0a26 m0a28 m0a29 m0a30 m0a31 m0a33 m0a34 m0a35 m0a36 m0a37 m0a38 m0a39 m0a40 m0a41 m0a42 m0a43 m0a44 m0a45 m0a46 m0a47 m0a49 m0a50 m0a51 m0a53 m0a54 m0a55 m0a56 m0a57 m0a58 m0a59 m0a60 m0a61 m0a62 m0a63 m0a67 m0a68 m0a69 m0a70 m0a71 m0a72 m0a73 m0a74 m0a75).trans hw_4.symm)) c)
  exact kend _ _ _ hS (lv_sub hl [3, 0] rfl)
set_option maxHeartbeats 4000000 in
set_option maxRecDepth 100000 in
theorem law_27 (l : Launch) (g : GG) {p : Program} {e : Env} {s : State} {m : MethodId} {below : List Frame} {meth : Method} {c : Code} {b : Nat} {scr : Nat → Int32} (X : En p s m #[Value.ref b] meth c cL_law 4 ret R_law meth.name) (hK : va_K g.1 classes (tyG g) s) (hA : ∀ q, s.heap.size ≤ q → laA s q) (hZ : stS g (laA s) s s.heap) (hX : va_X b 6 scr s s.heap) (hbl : b < s.heap.size) (hbA : ¬ laA s b) (x0 : Nat) (xr : Nat) (xt : Nat) (xg : Nat) (xb : Nat) (xp : Nat) (xu : Nat) (xm : Nat) (xd : Nat) (xw : Nat) (xh : Nat) (xa : Nat) (xs : Nat) (xf : Nat) (xma0 : Nat) (xma1 : Nat) (xma2 : Nat) (xma3 : Nat) (xma4 : Nat) (xma5 : Nat) (xma6 : Nat) (xma7 : Nat) (xma8 : Nat) (xma9 : Nat) (xma10 : Nat) (xma11 : Nat) (xma12 : Nat) (m0 : Nat) (m0a1 : Nat) (m0a5 : Nat) (m0a6 : Nat) (m0a7 : Nat) (m0a8 : Nat) (m0a9 : Nat) (m0a11 : Nat) (m0a12 : Nat) (m0a13 : Nat) (m0a14 : Nat) (m0a15 : Nat) (m0a16 : Nat) (m0a18 : Nat) (m0a19 : Nat) (m0a20 : Nat) (m0a21 : Nat) (m0a22 : Nat) (m0a24 : Nat) (m0a25 : Nat) (m0a26 : Nat) (m0a28 : Nat) (m0a29 : Nat) (m0a30 : Nat) (m0a31 : Nat) (m0a33 : Nat) (m0a34 : Nat) (m0a35 : Nat) (m0a36 : Nat) (m0a37 : Nat) (m0a38 : Nat) (m0a39 : Nat) (m0a40 : Nat) (m0a41 : Nat) (m0a42 : Nat) (m0a43 : Nat) (m0a44 : Nat) (m0a45 : Nat) (m0a46 : Nat) (m0a47 : Nat) (m0a49 : Nat) (m0a50 : Nat) (m0a51 : Nat) (m0a53 : Nat) (m0a54 : Nat) (m0a55 : Nat) (m0a56 : Nat) (m0a57 : Nat) (m0a58 : Nat) (m0a59 : Nat) (m0a60 : Nat) (m0a61 : Nat) (m0a62 : Nat) (m0a63 : Nat) (m0a67 : Nat) (m0a68 : Nat) (m0a69 : Nat) (m0a70 : Nat) (m0a71 : Nat) (m0a72 : Nat) (m0a73 : Nat) (m0a74 : Nat) (m0a75 : Nat) {H : Heap} {locs : List Loc} {ls : Array Slot} (hP : va_P g.1 classes [(x0, .inr (11, [.ref xr, .ref xt, .ref xg, .ref xb, .ref xp, .ref xu, .ref xm, .ref xd, .ref xw, .ref xh, .ref xa, .ref xs, .ref xf, .int 0, .int 0, .long 0, .long 0, .int 0])), (xm, .inr (4, [.ref xma0, .ref xma1, .ref xma2, .ref xma3, .ref xma4, .ref xma5, .ref xma6, .ref xma7, .ref xma8, .ref xma9, .ref xma10, .ref xma11, .ref xma12, .int 0])), (m0, .inr (12, [.int 0, .ref m0a1, .int 0, .long 0, .int 0, .ref m0a5, .ref m0a6, .ref m0a7, .ref m0a8, .ref m0a9, .int 0, .ref m0a11, .ref m0a12, .ref m0a13, .ref m0a14, .ref m0a15, .ref m0a16, .int 0, .ref m0a18, .ref m0a19, .ref m0a20, .ref m0a21, .ref m0a22, .int 0, .ref m0a24, .ref m0a25, .ref m0a26, .int 0, .ref m0a28, .ref m0a29, .ref m0a30, .ref m0a31, .int 0, .ref m0a33, .ref m0a34, .ref m0a35, .ref m0a36, .ref m0a37, .ref m0a38, .ref m0a39, .ref m0a40, .ref m0a41, .ref m0a42, .ref m0a43, .ref m0a44, .ref m0a45, .ref m0a46, .ref m0a47, .int 0, .ref m0a49, .ref m0a50, .ref m0a51, .int 0, .ref m0a53, .ref m0a54, .ref m0a55, .ref m0a56, .ref m0a57, .ref m0a58, .ref m0a59, .ref m0a60, .ref m0a61, .ref m0a62, .ref m0a63, .long 0, .int 0, .int (-9), .ref m0a67, .ref m0a68, .ref m0a69, .ref m0a70, .ref m0a71, .ref m0a72, .ref m0a73, .ref m0a74, .ref m0a75, .long 0]))] H) (hD : va_D (laA s) [(x0, .inr (11, [.ref xr, .ref xt, .ref xg, .ref xb, .ref xp, .ref xu, .ref xm, .ref xd, .ref xw, .ref xh, .ref xa, .ref xs, .ref xf, .int 0, .int 0, .long 0, .long 0, .int 0])), (xm, .inr (4, [.ref xma0, .ref xma1, .ref xma2, .ref xma3, .ref xma4, .ref xma5, .ref xma6, .ref xma7, .ref xma8, .ref xma9, .ref xma10, .ref xma11, .ref xma12, .int 0])), (m0, .inr (12, [.int 0, .ref m0a1, .int 0, .long 0, .int 0, .ref m0a5, .ref m0a6, .ref m0a7, .ref m0a8, .ref m0a9, .int 0, .ref m0a11, .ref m0a12, .ref m0a13, .ref m0a14, .ref m0a15, .ref m0a16, .int 0, .ref m0a18, .ref m0a19, .ref m0a20, .ref m0a21, .ref m0a22, .int 0, .ref m0a24, .ref m0a25, .ref m0a26, .int 0, .ref m0a28, .ref m0a29, .ref m0a30, .ref m0a31, .int 0, .ref m0a33, .ref m0a34, .ref m0a35, .ref m0a36, .ref m0a37, .ref m0a38, .ref m0a39, .ref m0a40, .ref m0a41, .ref m0a42, .ref m0a43, .ref m0a44, .ref m0a45, .ref m0a46, .ref m0a47, .int 0, .ref m0a49, .ref m0a50, .ref m0a51, .int 0, .ref m0a53, .ref m0a54, .ref m0a55, .ref m0a56, .ref m0a57, .ref m0a58, .ref m0a59, .ref m0a60, .ref m0a61, .ref m0a62, .ref m0a63, .long 0, .int 0, .int (-9), .ref m0a67, .ref m0a68, .ref m0a69, .ref m0a70, .ref m0a71, .ref m0a72, .ref m0a73, .ref m0a74, .ref m0a75, .long 0]))]) (hS : va_S (laA s) s.heap H locs) (hl : lv_has ls 4 [(3, .int 0), (2, .ref m0), (1, .ref x0), (0, .ref b)]) {Q : State → Prop} (kend : ∀ (H : Heap) (locs : List Loc) (ls : Array Slot), va_S (laA s) s.heap H locs → lv_has ls 4 [(0, .ref b), (3, .int 0)] → W p l e room_1 s m #[Value.ref b] below meth c H locs 141 11384 Q (F0 m 1955 ls [])) : W p l e room_1 s m #[Value.ref b] below meth c H locs 141 11384 Q (F0 m 1281 ls []) := by
  have hx := X.1
  have hb := X.2.1
  have hml := X.2.2.1
  have hown := X.2.2.2.1
  have hts := X.2.2.2.2.1
  refine lv_aload_n hx hb dL_law_1281 rfl (lv_at hl 2 rfl) ?_
  refine lv_aload_n hx hb dL_law_1282 rfl (lv_at hl 3 rfl) ?_
  refine lv_iload_n hx hb dL_law_1283 rfl (lv_at hl 0 rfl) ?_
  refine lv_iconst (v := 1) hx hb dL_law_1284 (by decide) ?_
  refine lv_iadd hx hb dL_law_1285 ?_
  refine lv_topk (v := 1) (by decide) ?_
  refine va_sld hx hb hX hbl hbA hS (by unfold vp_in; decide) dL_law_1286 ?_
  refine lv_topk (v := scr 1) rfl ?_
  refine lv_aload_n hx hb dL_law_1287 rfl (lv_at hl 3 rfl) ?_
  refine lv_iload_n hx hb dL_law_1288 rfl (lv_at hl 0 rfl) ?_
  refine lv_iconst (v := 2) hx hb dL_law_1289 (by decide) ?_
  refine lv_iadd hx hb dL_law_1290 ?_
  refine lv_topk (v := 2) (by decide) ?_
  refine va_sld hx hb hX hbl hbA hS (by unfold vp_in; decide) dL_law_1291 ?_
  refine lv_topk (v := scr 2) rfl ?_
  refine kVi (As := [.int (scr 1), .int (scr 2)]) (rest := []) (wr := [(m0, .inr (12, [.int 0, .ref m0a1, .int 0, .long 0, .int 0, .ref m0a5, .ref m0a6, .ref m0a7, .ref m0a8, .ref m0a9, .int 0, .ref m0a11, .ref m0a12, .ref m0a13, .ref m0a14, .ref m0a15, .ref m0a16, .int 0, .ref m0a18, .ref m0a19, .ref m0a20, .ref m0a21, .ref m0a22, .int 0, .ref m0a24, .ref m0a25, .ref m0a26, .int 0, .ref m0a28, .ref m0a29, .ref m0a30, .ref m0a31, .int 0, .ref m0a33, .ref m0a34, .ref m0a35, .ref m0a36, .ref m0a37, .ref m0a38, .ref m0a39, .ref m0a40, .ref m0a41, .ref m0a42, .ref m0a43, .ref m0a44, .ref m0a45, .ref m0a46, .ref m0a47, .int 0, .ref m0a49, .ref m0a50, .ref m0a51, .int 0, .ref m0a53, .ref m0a54, .ref m0a55, .ref m0a56, .ref m0a57, .ref m0a58, .ref m0a59, .ref m0a60, .ref m0a61, .ref m0a62, .ref m0a63, .long 0, .int 0, .int (-9), .ref m0a67, .ref m0a68, .ref m0a69, .ref m0a70, .ref m0a71, .ref m0a72, .ref m0a73, .ref m0a74, .ref m0a75, .long 0]))]) X (c_X11_told l g x0 (scr 1) (scr 2) xr xt xg xb xp xu xm xd xw xh xa xs xf xma0 xma1 xma2 xma3 xma4 xma5 xma6 xma7 xma8 xma9 xma10 xma11 xma12) ok_X11_told okv_X11_told q_1011 rfl hK hP hD hS hA hZ hl.1 [0, 1] [2] rfl rfl rfl rfl rfl 0 11 rfl rfl rfl (Nat.le_of_ble_eq_true rfl) ⟨Nat.le_of_ble_eq_true rfl, Nat.le_of_ble_eq_true rfl⟩ dL_law_1292 ⟨Nat.le_of_ble_eq_true rfl, Nat.le_of_ble_eq_true rfl⟩ (fun r_1 w1 H locs hw_2 hP hD hS => ?_)
  have hP := pSub hP (ws' := [(m0, .inr (12, [.int 0, .ref m0a1, .int 0, .long 0, .int 0, .ref m0a5, .ref m0a6, .ref m0a7, .ref m0a8, .ref m0a9, .int 0, .ref m0a11, .ref m0a12, .ref m0a13, .ref m0a14, .ref m0a15, .ref m0a16, .int 0, .ref m0a18, .ref m0a19, .ref m0a20, .ref m0a21, .ref m0a22, .int 0, .ref m0a24, .ref m0a25, .ref m0a26, .int 0, .ref m0a28, .ref m0a29, .ref m0a30, .ref m0a31, .int 0, .ref m0a33, .ref m0a34, .ref m0a35, .ref m0a36, .ref m0a37, .ref m0a38, .ref m0a39, .ref m0a40, .ref m0a41, .ref m0a42, .ref m0a43, .ref m0a44, .ref m0a45, .ref m0a46, .ref m0a47, .int 0, .ref m0a49, .ref m0a50, .ref m0a51, .int 0, .ref m0a53, .ref m0a54, .ref m0a55, .ref m0a56, .ref m0a57, .ref m0a58, .ref m0a59, .ref m0a60, .ref m0a61, .ref m0a62, .ref m0a63, .long 0, .int 0, .int (-9), .ref m0a67, .ref m0a68, .ref m0a69, .ref m0a70, .ref m0a71, .ref m0a72, .ref m0a73, .ref m0a74, .ref m0a75, .long 0]))]) [0] rfl
  have hD := hD.sub (ws' := [(m0, .inr (12, [.int 0, .ref m0a1, .int 0, .long 0, .int 0, .ref m0a5, .ref m0a6, .ref m0a7, .ref m0a8, .ref m0a9, .int 0, .ref m0a11, .ref m0a12, .ref m0a13, .ref m0a14, .ref m0a15, .ref m0a16, .int 0, .ref m0a18, .ref m0a19, .ref m0a20, .ref m0a21, .ref m0a22, .int 0, .ref m0a24, .ref m0a25, .ref m0a26, .int 0, .ref m0a28, .ref m0a29, .ref m0a30, .ref m0a31, .int 0, .ref m0a33, .ref m0a34, .ref m0a35, .ref m0a36, .ref m0a37, .ref m0a38, .ref m0a39, .ref m0a40, .ref m0a41, .ref m0a42, .ref m0a43, .ref m0a44, .ref m0a45, .ref m0a46, .ref m0a47, .int 0, .ref m0a49, .ref m0a50, .ref m0a51, .int 0, .ref m0a53, .ref m0a54, .ref m0a55, .ref m0a56, .ref m0a57, .ref m0a58, .ref m0a59, .ref m0a60, .ref m0a61, .ref m0a62, .ref m0a63, .long 0, .int 0, .int (-9), .ref m0a67, .ref m0a68, .ref m0a69, .ref m0a70, .ref m0a71, .ref m0a72, .ref m0a73, .ref m0a74, .ref m0a75, .long 0]))]) [0] rfl rfl
  refine lv_aload_n hx hb dL_law_1295 rfl (lv_at hl 1 rfl) ?_
  refine lv_aload_n hx hb dL_law_1296 rfl (lv_at hl 3 rfl) ?_
  refine lv_iload_n hx hb dL_law_1297 rfl (lv_at hl 0 rfl) ?_
  refine lv_iconst (v := 1) hx hb dL_law_1298 (by decide) ?_
  refine lv_iadd hx hb dL_law_1299 ?_
  refine lv_topk (v := 1) (by decide) ?_
  refine va_sld hx hb hX hbl hbA hS (by unfold vp_in; decide) dL_law_1300 ?_
  refine lv_topk (v := scr 1) rfl ?_
  refine lv_aload_n hx hb dL_law_1301 rfl (lv_at hl 3 rfl) ?_
  refine lv_iload_n hx hb dL_law_1302 rfl (lv_at hl 0 rfl) ?_
  refine lv_iconst (v := 2) hx hb dL_law_1303 (by decide) ?_
  refine lv_iadd hx hb dL_law_1304 ?_
  refine lv_topk (v := 2) (by decide) ?_
  refine va_sld hx hb hX hbl hbA hS (by unfold vp_in; decide) dL_law_1305 ?_
  refine lv_topk (v := scr 2) rfl ?_
  refine kVi (As := [.int (scr 1), .int (scr 2)]) (rest := [.int r_1]) (wr := []) X (c_X12_told l g m0 (scr 1) (scr 2) m0a1 m0a5 m0a6 m0a7 m0a8 m0a9 m0a11 m0a12 m0a13 m0a14 m0a15 m0a16 m0a18 m0a19 m0a20 m0a21 m0a22 m0a24 m0a25 m0a26 m0a28 m0a29 m0a30 m0a31 m0a33 m0a34 m0a35 m0a36 m0a37 m0a38 m0a39 m0a40 m0a41 m0a42 m0a43 m0a44 m0a45 m0a46 m0a47 m0a49 m0a50 m0a51 m0a53 m0a54 m0a55 m0a56 m0a57 m0a58 m0a59 m0a60 m0a61 m0a62 m0a63 m0a67 m0a68 m0a69 m0a70 m0a71 m0a72 m0a73 m0a74 m0a75) ok_X12_told okv_X12_told q_1957 rfl hK hP hD hS hA hZ hl.1 [0] [] rfl rfl rfl rfl rfl 0 12 rfl rfl rfl (Nat.le_of_ble_eq_true rfl) ⟨Nat.le_of_ble_eq_true rfl, Nat.le_of_ble_eq_true rfl⟩ dL_law_1306 ⟨Nat.le_of_ble_eq_true rfl, Nat.le_of_ble_eq_true rfl⟩ (fun r_3 w1 H locs hw_4 hP hD hS => ?_)
  have hP := pSub hP (ws' := []) [] rfl
  have hD := hD.sub (ws' := []) [] rfl rfl
  refine lv_icmp_eq (tgt := 1955) hx hb dL_law_1309 (by decide) (fun _ => ?_) (fun c => absurd (hw_2.trans ((eq_told g x0 (scr 1) (scr 2) xr xt xg xb xp xu xm xd xw xh xa xs xf xma0 xma1 xma2 xma3 xma4 xma5 xma6 xma7 xma8 xma9 xma10 xma11 xma12 m0 m0a1 m0a5 m0a6 m0a7 m0a8 m0a9 m0a11 m0a12 m0a13 m0a14 m0a15 m0a16 m0a18 m0a19 m0a20 m0a21 m0a22 m0a24 m0a25 m0a26 m0a28 m0a29 m0a30 m0a31 m0a33 m0a34 m0a35 m0a36 m0a37 m0a38 m0a39 m0a40 m0a41 m0a42 m0a43 m0a44 m0a45 m0a46 m0a47 m0a49 m0a50 m0a51 m0a53 m0a54 m0a55 m0a56 m0a57 m0a58 m0a59 m0a60 m0a61 m0a62 m0a63 m0a67 m0a68 m0a69 m0a70 m0a71 m0a72 m0a73 m0a74 m0a75).trans hw_4.symm)) c)
  exact kend _ _ _ hS (lv_sub hl [3, 0] rfl)
set_option maxHeartbeats 4000000 in
set_option maxRecDepth 100000 in
theorem law_28 (l : Launch) (g : GG) {p : Program} {e : Env} {s : State} {m : MethodId} {below : List Frame} {meth : Method} {c : Code} {b : Nat} {scr : Nat → Int32} (X : En p s m #[Value.ref b] meth c cL_law 4 ret R_law meth.name) (hK : va_K g.1 classes (tyG g) s) (hA : ∀ q, s.heap.size ≤ q → laA s q) (hZ : stS g (laA s) s s.heap) (hX : va_X b 6 scr s s.heap) (hbl : b < s.heap.size) (hbA : ¬ laA s b) (x0 : Nat) (xr : Nat) (xt : Nat) (xg : Nat) (xb : Nat) (xp : Nat) (xu : Nat) (xm : Nat) (xd : Nat) (xw : Nat) (xh : Nat) (xa : Nat) (xs : Nat) (xf : Nat) (xma0 : Nat) (xma1 : Nat) (xma2 : Nat) (xma3 : Nat) (xma4 : Nat) (xma5 : Nat) (xma6 : Nat) (xma7 : Nat) (xma8 : Nat) (xma9 : Nat) (xma10 : Nat) (xma11 : Nat) (xma12 : Nat) (m0 : Nat) (m0a1 : Nat) (m0a5 : Nat) (m0a6 : Nat) (m0a7 : Nat) (m0a8 : Nat) (m0a9 : Nat) (m0a11 : Nat) (m0a12 : Nat) (m0a13 : Nat) (m0a14 : Nat) (m0a15 : Nat) (m0a16 : Nat) (m0a18 : Nat) (m0a19 : Nat) (m0a20 : Nat) (m0a21 : Nat) (m0a22 : Nat) (m0a24 : Nat) (m0a25 : Nat) (m0a26 : Nat) (m0a28 : Nat) (m0a29 : Nat) (m0a30 : Nat) (m0a31 : Nat) (m0a33 : Nat) (m0a34 : Nat) (m0a35 : Nat) (m0a36 : Nat) (m0a37 : Nat) (m0a38 : Nat) (m0a39 : Nat) (m0a40 : Nat) (m0a41 : Nat) (m0a42 : Nat) (m0a43 : Nat) (m0a44 : Nat) (m0a45 : Nat) (m0a46 : Nat) (m0a47 : Nat) (m0a49 : Nat) (m0a50 : Nat) (m0a51 : Nat) (m0a53 : Nat) (m0a54 : Nat) (m0a55 : Nat) (m0a56 : Nat) (m0a57 : Nat) (m0a58 : Nat) (m0a59 : Nat) (m0a60 : Nat) (m0a61 : Nat) (m0a62 : Nat) (m0a63 : Nat) (m0a67 : Nat) (m0a68 : Nat) (m0a69 : Nat) (m0a70 : Nat) (m0a71 : Nat) (m0a72 : Nat) (m0a73 : Nat) (m0a74 : Nat) (m0a75 : Nat) {H : Heap} {locs : List Loc} {ls : Array Slot} (hP : va_P g.1 classes [(x0, .inr (11, [.ref xr, .ref xt, .ref xg, .ref xb, .ref xp, .ref xu, .ref xm, .ref xd, .ref xw, .ref xh, .ref xa, .ref xs, .ref xf, .int 0, .int 0, .long 0, .long 0, .int 0])), (xm, .inr (4, [.ref xma0, .ref xma1, .ref xma2, .ref xma3, .ref xma4, .ref xma5, .ref xma6, .ref xma7, .ref xma8, .ref xma9, .ref xma10, .ref xma11, .ref xma12, .int 0])), (m0, .inr (12, [.int 0, .ref m0a1, .int 0, .long 0, .int 0, .ref m0a5, .ref m0a6, .ref m0a7, .ref m0a8, .ref m0a9, .int 0, .ref m0a11, .ref m0a12, .ref m0a13, .ref m0a14, .ref m0a15, .ref m0a16, .int 0, .ref m0a18, .ref m0a19, .ref m0a20, .ref m0a21, .ref m0a22, .int 0, .ref m0a24, .ref m0a25, .ref m0a26, .int 0, .ref m0a28, .ref m0a29, .ref m0a30, .ref m0a31, .int 0, .ref m0a33, .ref m0a34, .ref m0a35, .ref m0a36, .ref m0a37, .ref m0a38, .ref m0a39, .ref m0a40, .ref m0a41, .ref m0a42, .ref m0a43, .ref m0a44, .ref m0a45, .ref m0a46, .ref m0a47, .int 0, .ref m0a49, .ref m0a50, .ref m0a51, .int 0, .ref m0a53, .ref m0a54, .ref m0a55, .ref m0a56, .ref m0a57, .ref m0a58, .ref m0a59, .ref m0a60, .ref m0a61, .ref m0a62, .ref m0a63, .long 0, .int 0, .int (-9), .ref m0a67, .ref m0a68, .ref m0a69, .ref m0a70, .ref m0a71, .ref m0a72, .ref m0a73, .ref m0a74, .ref m0a75, .long 0]))] H) (hD : va_D (laA s) [(x0, .inr (11, [.ref xr, .ref xt, .ref xg, .ref xb, .ref xp, .ref xu, .ref xm, .ref xd, .ref xw, .ref xh, .ref xa, .ref xs, .ref xf, .int 0, .int 0, .long 0, .long 0, .int 0])), (xm, .inr (4, [.ref xma0, .ref xma1, .ref xma2, .ref xma3, .ref xma4, .ref xma5, .ref xma6, .ref xma7, .ref xma8, .ref xma9, .ref xma10, .ref xma11, .ref xma12, .int 0])), (m0, .inr (12, [.int 0, .ref m0a1, .int 0, .long 0, .int 0, .ref m0a5, .ref m0a6, .ref m0a7, .ref m0a8, .ref m0a9, .int 0, .ref m0a11, .ref m0a12, .ref m0a13, .ref m0a14, .ref m0a15, .ref m0a16, .int 0, .ref m0a18, .ref m0a19, .ref m0a20, .ref m0a21, .ref m0a22, .int 0, .ref m0a24, .ref m0a25, .ref m0a26, .int 0, .ref m0a28, .ref m0a29, .ref m0a30, .ref m0a31, .int 0, .ref m0a33, .ref m0a34, .ref m0a35, .ref m0a36, .ref m0a37, .ref m0a38, .ref m0a39, .ref m0a40, .ref m0a41, .ref m0a42, .ref m0a43, .ref m0a44, .ref m0a45, .ref m0a46, .ref m0a47, .int 0, .ref m0a49, .ref m0a50, .ref m0a51, .int 0, .ref m0a53, .ref m0a54, .ref m0a55, .ref m0a56, .ref m0a57, .ref m0a58, .ref m0a59, .ref m0a60, .ref m0a61, .ref m0a62, .ref m0a63, .long 0, .int 0, .int (-9), .ref m0a67, .ref m0a68, .ref m0a69, .ref m0a70, .ref m0a71, .ref m0a72, .ref m0a73, .ref m0a74, .ref m0a75, .long 0]))]) (hS : va_S (laA s) s.heap H locs) (hl : lv_has ls 4 [(3, .int 0), (2, .ref m0), (1, .ref x0), (0, .ref b)]) {Q : State → Prop} (kend : ∀ (H : Heap) (locs : List Loc) (ls : Array Slot), va_S (laA s) s.heap H locs → lv_has ls 4 [(0, .ref b), (3, .int 0)] → W p l e room_1 s m #[Value.ref b] below meth c H locs 141 11384 Q (F0 m 1955 ls [])) : W p l e room_1 s m #[Value.ref b] below meth c H locs 141 11384 Q (F0 m 1314 ls []) := by
  have hx := X.1
  have hb := X.2.1
  have hml := X.2.2.1
  have hown := X.2.2.2.1
  have hts := X.2.2.2.2.1
  refine lv_aload_n hx hb dL_law_1314 rfl (lv_at hl 2 rfl) ?_
  refine lv_aload_n hx hb dL_law_1315 rfl (lv_at hl 3 rfl) ?_
  refine lv_iload_n hx hb dL_law_1316 rfl (lv_at hl 0 rfl) ?_
  refine lv_iconst (v := 1) hx hb dL_law_1317 (by decide) ?_
  refine lv_iadd hx hb dL_law_1318 ?_
  refine lv_topk (v := 1) (by decide) ?_
  refine va_sld hx hb hX hbl hbA hS (by unfold vp_in; decide) dL_law_1319 ?_
  refine lv_topk (v := scr 1) rfl ?_
  refine lv_aload_n hx hb dL_law_1320 rfl (lv_at hl 3 rfl) ?_
  refine lv_iload_n hx hb dL_law_1321 rfl (lv_at hl 0 rfl) ?_
  refine lv_iconst (v := 2) hx hb dL_law_1322 (by decide) ?_
  refine lv_iadd hx hb dL_law_1323 ?_
  refine lv_topk (v := 2) (by decide) ?_
  refine va_sld hx hb hX hbl hbA hS (by unfold vp_in; decide) dL_law_1324 ?_
  refine lv_topk (v := scr 2) rfl ?_
  refine kVi (As := [.int (scr 1), .int (scr 2)]) (rest := []) (wr := [(m0, .inr (12, [.int 0, .ref m0a1, .int 0, .long 0, .int 0, .ref m0a5, .ref m0a6, .ref m0a7, .ref m0a8, .ref m0a9, .int 0, .ref m0a11, .ref m0a12, .ref m0a13, .ref m0a14, .ref m0a15, .ref m0a16, .int 0, .ref m0a18, .ref m0a19, .ref m0a20, .ref m0a21, .ref m0a22, .int 0, .ref m0a24, .ref m0a25, .ref m0a26, .int 0, .ref m0a28, .ref m0a29, .ref m0a30, .ref m0a31, .int 0, .ref m0a33, .ref m0a34, .ref m0a35, .ref m0a36, .ref m0a37, .ref m0a38, .ref m0a39, .ref m0a40, .ref m0a41, .ref m0a42, .ref m0a43, .ref m0a44, .ref m0a45, .ref m0a46, .ref m0a47, .int 0, .ref m0a49, .ref m0a50, .ref m0a51, .int 0, .ref m0a53, .ref m0a54, .ref m0a55, .ref m0a56, .ref m0a57, .ref m0a58, .ref m0a59, .ref m0a60, .ref m0a61, .ref m0a62, .ref m0a63, .long 0, .int 0, .int (-9), .ref m0a67, .ref m0a68, .ref m0a69, .ref m0a70, .ref m0a71, .ref m0a72, .ref m0a73, .ref m0a74, .ref m0a75, .long 0]))]) X (c_X11_mark l g x0 (scr 1) (scr 2) xr xt xg xb xp xu xm xd xw xh xa xs xf xma0 xma1 xma2 xma3 xma4 xma5 xma6 xma7 xma8 xma9 xma10 xma11 xma12) ok_X11_mark okv_X11_mark q_1019 rfl hK hP hD hS hA hZ hl.1 [0, 1] [2] rfl rfl rfl rfl rfl 0 11 rfl rfl rfl (Nat.le_of_ble_eq_true rfl) ⟨Nat.le_of_ble_eq_true rfl, Nat.le_of_ble_eq_true rfl⟩ dL_law_1325 ⟨Nat.le_of_ble_eq_true rfl, Nat.le_of_ble_eq_true rfl⟩ (fun r_1 w1 H locs hw_2 hP hD hS => ?_)
  have hP := pSub hP (ws' := [(m0, .inr (12, [.int 0, .ref m0a1, .int 0, .long 0, .int 0, .ref m0a5, .ref m0a6, .ref m0a7, .ref m0a8, .ref m0a9, .int 0, .ref m0a11, .ref m0a12, .ref m0a13, .ref m0a14, .ref m0a15, .ref m0a16, .int 0, .ref m0a18, .ref m0a19, .ref m0a20, .ref m0a21, .ref m0a22, .int 0, .ref m0a24, .ref m0a25, .ref m0a26, .int 0, .ref m0a28, .ref m0a29, .ref m0a30, .ref m0a31, .int 0, .ref m0a33, .ref m0a34, .ref m0a35, .ref m0a36, .ref m0a37, .ref m0a38, .ref m0a39, .ref m0a40, .ref m0a41, .ref m0a42, .ref m0a43, .ref m0a44, .ref m0a45, .ref m0a46, .ref m0a47, .int 0, .ref m0a49, .ref m0a50, .ref m0a51, .int 0, .ref m0a53, .ref m0a54, .ref m0a55, .ref m0a56, .ref m0a57, .ref m0a58, .ref m0a59, .ref m0a60, .ref m0a61, .ref m0a62, .ref m0a63, .long 0, .int 0, .int (-9), .ref m0a67, .ref m0a68, .ref m0a69, .ref m0a70, .ref m0a71, .ref m0a72, .ref m0a73, .ref m0a74, .ref m0a75, .long 0]))]) [0] rfl
  have hD := hD.sub (ws' := [(m0, .inr (12, [.int 0, .ref m0a1, .int 0, .long 0, .int 0, .ref m0a5, .ref m0a6, .ref m0a7, .ref m0a8, .ref m0a9, .int 0, .ref m0a11, .ref m0a12, .ref m0a13, .ref m0a14, .ref m0a15, .ref m0a16, .int 0, .ref m0a18, .ref m0a19, .ref m0a20, .ref m0a21, .ref m0a22, .int 0, .ref m0a24, .ref m0a25, .ref m0a26, .int 0, .ref m0a28, .ref m0a29, .ref m0a30, .ref m0a31, .int 0, .ref m0a33, .ref m0a34, .ref m0a35, .ref m0a36, .ref m0a37, .ref m0a38, .ref m0a39, .ref m0a40, .ref m0a41, .ref m0a42, .ref m0a43, .ref m0a44, .ref m0a45, .ref m0a46, .ref m0a47, .int 0, .ref m0a49, .ref m0a50, .ref m0a51, .int 0, .ref m0a53, .ref m0a54, .ref m0a55, .ref m0a56, .ref m0a57, .ref m0a58, .ref m0a59, .ref m0a60, .ref m0a61, .ref m0a62, .ref m0a63, .long 0, .int 0, .int (-9), .ref m0a67, .ref m0a68, .ref m0a69, .ref m0a70, .ref m0a71, .ref m0a72, .ref m0a73, .ref m0a74, .ref m0a75, .long 0]))]) [0] rfl rfl
  refine lv_aload_n hx hb dL_law_1328 rfl (lv_at hl 1 rfl) ?_
  refine lv_aload_n hx hb dL_law_1329 rfl (lv_at hl 3 rfl) ?_
  refine lv_iload_n hx hb dL_law_1330 rfl (lv_at hl 0 rfl) ?_
  refine lv_iconst (v := 1) hx hb dL_law_1331 (by decide) ?_
  refine lv_iadd hx hb dL_law_1332 ?_
  refine lv_topk (v := 1) (by decide) ?_
  refine va_sld hx hb hX hbl hbA hS (by unfold vp_in; decide) dL_law_1333 ?_
  refine lv_topk (v := scr 1) rfl ?_
  refine lv_aload_n hx hb dL_law_1334 rfl (lv_at hl 3 rfl) ?_
  refine lv_iload_n hx hb dL_law_1335 rfl (lv_at hl 0 rfl) ?_
  refine lv_iconst (v := 2) hx hb dL_law_1336 (by decide) ?_
  refine lv_iadd hx hb dL_law_1337 ?_
  refine lv_topk (v := 2) (by decide) ?_
  refine va_sld hx hb hX hbl hbA hS (by unfold vp_in; decide) dL_law_1338 ?_
  refine lv_topk (v := scr 2) rfl ?_
  refine kVi (As := [.int (scr 1), .int (scr 2)]) (rest := [.int r_1]) (wr := []) X (c_X12_mark l g m0 (scr 1) (scr 2) m0a1 m0a5 m0a6 m0a7 m0a8 m0a9 m0a11 m0a12 m0a13 m0a14 m0a15 m0a16 m0a18 m0a19 m0a20 m0a21 m0a22 m0a24 m0a25 m0a26 m0a28 m0a29 m0a30 m0a31 m0a33 m0a34 m0a35 m0a36 m0a37 m0a38 m0a39 m0a40 m0a41 m0a42 m0a43 m0a44 m0a45 m0a46 m0a47 m0a49 m0a50 m0a51 m0a53 m0a54 m0a55 m0a56 m0a57 m0a58 m0a59 m0a60 m0a61 m0a62 m0a63 m0a67 m0a68 m0a69 m0a70 m0a71 m0a72 m0a73 m0a74 m0a75) ok_X12_mark okv_X12_mark q_1965 rfl hK hP hD hS hA hZ hl.1 [0] [] rfl rfl rfl rfl rfl 0 12 rfl rfl rfl (Nat.le_of_ble_eq_true rfl) ⟨Nat.le_of_ble_eq_true rfl, Nat.le_of_ble_eq_true rfl⟩ dL_law_1339 ⟨Nat.le_of_ble_eq_true rfl, Nat.le_of_ble_eq_true rfl⟩ (fun r_3 w1 H locs hw_4 hP hD hS => ?_)
  have hP := pSub hP (ws' := []) [] rfl
  have hD := hD.sub (ws' := []) [] rfl rfl
  refine lv_icmp_eq (tgt := 1955) hx hb dL_law_1342 (by decide) (fun _ => ?_) (fun c => absurd (hw_2.trans ((eq_mark g x0 (scr 1) (scr 2) xr xt xg xb xp xu xm xd xw xh xa xs xf xma0 xma1 xma2 xma3 xma4 xma5 xma6 xma7 xma8 xma9 xma10 xma11 xma12 m0 m0a1 m0a5 m0a6 m0a7 m0a8 m0a9 m0a11 m0a12 m0a13 m0a14 m0a15 m0a16 m0a18 m0a19 m0a20 m0a21 m0a22 m0a24 m0a25 m0a26 m0a28 m0a29 m0a30 m0a31 m0a33 m0a34 m0a35 m0a36 m0a37 m0a38 m0a39 m0a40 m0a41 m0a42 m0a43 m0a44 m0a45 m0a46 m0a47 m0a49 m0a50 m0a51 m0a53 m0a54 m0a55 m0a56 m0a57 m0a58 m0a59 m0a60 m0a61 m0a62 m0a63 m0a67 m0a68 m0a69 m0a70 m0a71 m0a72 m0a73 m0a74 m0a75).trans hw_4.symm)) c)
  exact kend _ _ _ hS (lv_sub hl [3, 0] rfl)
set_option maxHeartbeats 4000000 in
set_option maxRecDepth 100000 in
theorem law_29 (l : Launch) (g : GG) {p : Program} {e : Env} {s : State} {m : MethodId} {below : List Frame} {meth : Method} {c : Code} {b : Nat} {scr : Nat → Int32} (X : En p s m #[Value.ref b] meth c cL_law 4 ret R_law meth.name) (hK : va_K g.1 classes (tyG g) s) (hA : ∀ q, s.heap.size ≤ q → laA s q) (hZ : stS g (laA s) s s.heap) (hX : va_X b 6 scr s s.heap) (hbl : b < s.heap.size) (hbA : ¬ laA s b) (x0 : Nat) (xr : Nat) (xt : Nat) (xg : Nat) (xb : Nat) (xp : Nat) (xu : Nat) (xm : Nat) (xd : Nat) (xw : Nat) (xh : Nat) (xa : Nat) (xs : Nat) (xf : Nat) (xma0 : Nat) (xma1 : Nat) (xma2 : Nat) (xma3 : Nat) (xma4 : Nat) (xma5 : Nat) (xma6 : Nat) (xma7 : Nat) (xma8 : Nat) (xma9 : Nat) (xma10 : Nat) (xma11 : Nat) (xma12 : Nat) (m0 : Nat) (m0a1 : Nat) (m0a5 : Nat) (m0a6 : Nat) (m0a7 : Nat) (m0a8 : Nat) (m0a9 : Nat) (m0a11 : Nat) (m0a12 : Nat) (m0a13 : Nat) (m0a14 : Nat) (m0a15 : Nat) (m0a16 : Nat) (m0a18 : Nat) (m0a19 : Nat) (m0a20 : Nat) (m0a21 : Nat) (m0a22 : Nat) (m0a24 : Nat) (m0a25 : Nat) (m0a26 : Nat) (m0a28 : Nat) (m0a29 : Nat) (m0a30 : Nat) (m0a31 : Nat) (m0a33 : Nat) (m0a34 : Nat) (m0a35 : Nat) (m0a36 : Nat) (m0a37 : Nat) (m0a38 : Nat) (m0a39 : Nat) (m0a40 : Nat) (m0a41 : Nat) (m0a42 : Nat) (m0a43 : Nat) (m0a44 : Nat) (m0a45 : Nat) (m0a46 : Nat) (m0a47 : Nat) (m0a49 : Nat) (m0a50 : Nat) (m0a51 : Nat) (m0a53 : Nat) (m0a54 : Nat) (m0a55 : Nat) (m0a56 : Nat) (m0a57 : Nat) (m0a58 : Nat) (m0a59 : Nat) (m0a60 : Nat) (m0a61 : Nat) (m0a62 : Nat) (m0a63 : Nat) (m0a67 : Nat) (m0a68 : Nat) (m0a69 : Nat) (m0a70 : Nat) (m0a71 : Nat) (m0a72 : Nat) (m0a73 : Nat) (m0a74 : Nat) (m0a75 : Nat) {H : Heap} {locs : List Loc} {ls : Array Slot} (hP : va_P g.1 classes [(x0, .inr (11, [.ref xr, .ref xt, .ref xg, .ref xb, .ref xp, .ref xu, .ref xm, .ref xd, .ref xw, .ref xh, .ref xa, .ref xs, .ref xf, .int 0, .int 0, .long 0, .long 0, .int 0])), (xm, .inr (4, [.ref xma0, .ref xma1, .ref xma2, .ref xma3, .ref xma4, .ref xma5, .ref xma6, .ref xma7, .ref xma8, .ref xma9, .ref xma10, .ref xma11, .ref xma12, .int 0])), (m0, .inr (12, [.int 0, .ref m0a1, .int 0, .long 0, .int 0, .ref m0a5, .ref m0a6, .ref m0a7, .ref m0a8, .ref m0a9, .int 0, .ref m0a11, .ref m0a12, .ref m0a13, .ref m0a14, .ref m0a15, .ref m0a16, .int 0, .ref m0a18, .ref m0a19, .ref m0a20, .ref m0a21, .ref m0a22, .int 0, .ref m0a24, .ref m0a25, .ref m0a26, .int 0, .ref m0a28, .ref m0a29, .ref m0a30, .ref m0a31, .int 0, .ref m0a33, .ref m0a34, .ref m0a35, .ref m0a36, .ref m0a37, .ref m0a38, .ref m0a39, .ref m0a40, .ref m0a41, .ref m0a42, .ref m0a43, .ref m0a44, .ref m0a45, .ref m0a46, .ref m0a47, .int 0, .ref m0a49, .ref m0a50, .ref m0a51, .int 0, .ref m0a53, .ref m0a54, .ref m0a55, .ref m0a56, .ref m0a57, .ref m0a58, .ref m0a59, .ref m0a60, .ref m0a61, .ref m0a62, .ref m0a63, .long 0, .int 0, .int (-9), .ref m0a67, .ref m0a68, .ref m0a69, .ref m0a70, .ref m0a71, .ref m0a72, .ref m0a73, .ref m0a74, .ref m0a75, .long 0]))] H) (hD : va_D (laA s) [(x0, .inr (11, [.ref xr, .ref xt, .ref xg, .ref xb, .ref xp, .ref xu, .ref xm, .ref xd, .ref xw, .ref xh, .ref xa, .ref xs, .ref xf, .int 0, .int 0, .long 0, .long 0, .int 0])), (xm, .inr (4, [.ref xma0, .ref xma1, .ref xma2, .ref xma3, .ref xma4, .ref xma5, .ref xma6, .ref xma7, .ref xma8, .ref xma9, .ref xma10, .ref xma11, .ref xma12, .int 0])), (m0, .inr (12, [.int 0, .ref m0a1, .int 0, .long 0, .int 0, .ref m0a5, .ref m0a6, .ref m0a7, .ref m0a8, .ref m0a9, .int 0, .ref m0a11, .ref m0a12, .ref m0a13, .ref m0a14, .ref m0a15, .ref m0a16, .int 0, .ref m0a18, .ref m0a19, .ref m0a20, .ref m0a21, .ref m0a22, .int 0, .ref m0a24, .ref m0a25, .ref m0a26, .int 0, .ref m0a28, .ref m0a29, .ref m0a30, .ref m0a31, .int 0, .ref m0a33, .ref m0a34, .ref m0a35, .ref m0a36, .ref m0a37, .ref m0a38, .ref m0a39, .ref m0a40, .ref m0a41, .ref m0a42, .ref m0a43, .ref m0a44, .ref m0a45, .ref m0a46, .ref m0a47, .int 0, .ref m0a49, .ref m0a50, .ref m0a51, .int 0, .ref m0a53, .ref m0a54, .ref m0a55, .ref m0a56, .ref m0a57, .ref m0a58, .ref m0a59, .ref m0a60, .ref m0a61, .ref m0a62, .ref m0a63, .long 0, .int 0, .int (-9), .ref m0a67, .ref m0a68, .ref m0a69, .ref m0a70, .ref m0a71, .ref m0a72, .ref m0a73, .ref m0a74, .ref m0a75, .long 0]))]) (hS : va_S (laA s) s.heap H locs) (hl : lv_has ls 4 [(3, .int 0), (2, .ref m0), (1, .ref x0), (0, .ref b)]) {Q : State → Prop} (kend : ∀ (H : Heap) (locs : List Loc) (ls : Array Slot), va_S (laA s) s.heap H locs → lv_has ls 4 [(0, .ref b), (3, .int 0)] → W p l e room_1 s m #[Value.ref b] below meth c H locs 141 11384 Q (F0 m 1955 ls [])) : W p l e room_1 s m #[Value.ref b] below meth c H locs 141 11384 Q (F0 m 1347 ls []) := by
  have hx := X.1
  have hb := X.2.1
  have hml := X.2.2.1
  have hown := X.2.2.2.1
  have hts := X.2.2.2.2.1
  refine lv_aload_n hx hb dL_law_1347 rfl (lv_at hl 2 rfl) ?_
  refine lv_aload_n hx hb dL_law_1348 rfl (lv_at hl 3 rfl) ?_
  refine lv_iload_n hx hb dL_law_1349 rfl (lv_at hl 0 rfl) ?_
  refine lv_iconst (v := 1) hx hb dL_law_1350 (by decide) ?_
  refine lv_iadd hx hb dL_law_1351 ?_
  refine lv_topk (v := 1) (by decide) ?_
  refine va_sld hx hb hX hbl hbA hS (by unfold vp_in; decide) dL_law_1352 ?_
  refine lv_topk (v := scr 1) rfl ?_
  refine kVi (As := [.int (scr 1)]) (rest := []) (wr := [(m0, .inr (12, [.int 0, .ref m0a1, .int 0, .long 0, .int 0, .ref m0a5, .ref m0a6, .ref m0a7, .ref m0a8, .ref m0a9, .int 0, .ref m0a11, .ref m0a12, .ref m0a13, .ref m0a14, .ref m0a15, .ref m0a16, .int 0, .ref m0a18, .ref m0a19, .ref m0a20, .ref m0a21, .ref m0a22, .int 0, .ref m0a24, .ref m0a25, .ref m0a26, .int 0, .ref m0a28, .ref m0a29, .ref m0a30, .ref m0a31, .int 0, .ref m0a33, .ref m0a34, .ref m0a35, .ref m0a36, .ref m0a37, .ref m0a38, .ref m0a39, .ref m0a40, .ref m0a41, .ref m0a42, .ref m0a43, .ref m0a44, .ref m0a45, .ref m0a46, .ref m0a47, .int 0, .ref m0a49, .ref m0a50, .ref m0a51, .int 0, .ref m0a53, .ref m0a54, .ref m0a55, .ref m0a56, .ref m0a57, .ref m0a58, .ref m0a59, .ref m0a60, .ref m0a61, .ref m0a62, .ref m0a63, .long 0, .int 0, .int (-9), .ref m0a67, .ref m0a68, .ref m0a69, .ref m0a70, .ref m0a71, .ref m0a72, .ref m0a73, .ref m0a74, .ref m0a75, .long 0]))]) X (c_X11_cost l g x0 (scr 1) xr xt xg xb xp xu xm xd xw xh xa xs xf xma0 xma1 xma2 xma3 xma4 xma5 xma6 xma7 xma8 xma9 xma10 xma11 xma12) ok_X11_cost okv_X11_cost q_1050 rfl hK hP hD hS hA hZ hl.1 [0, 1] [2] rfl rfl rfl rfl rfl 0 11 rfl rfl rfl (Nat.le_of_ble_eq_true rfl) ⟨Nat.le_of_ble_eq_true rfl, Nat.le_of_ble_eq_true rfl⟩ dL_law_1353 ⟨Nat.le_of_ble_eq_true rfl, Nat.le_of_ble_eq_true rfl⟩ (fun r_1 w1 H locs hw_2 hP hD hS => ?_)
  have hP := pSub hP (ws' := [(m0, .inr (12, [.int 0, .ref m0a1, .int 0, .long 0, .int 0, .ref m0a5, .ref m0a6, .ref m0a7, .ref m0a8, .ref m0a9, .int 0, .ref m0a11, .ref m0a12, .ref m0a13, .ref m0a14, .ref m0a15, .ref m0a16, .int 0, .ref m0a18, .ref m0a19, .ref m0a20, .ref m0a21, .ref m0a22, .int 0, .ref m0a24, .ref m0a25, .ref m0a26, .int 0, .ref m0a28, .ref m0a29, .ref m0a30, .ref m0a31, .int 0, .ref m0a33, .ref m0a34, .ref m0a35, .ref m0a36, .ref m0a37, .ref m0a38, .ref m0a39, .ref m0a40, .ref m0a41, .ref m0a42, .ref m0a43, .ref m0a44, .ref m0a45, .ref m0a46, .ref m0a47, .int 0, .ref m0a49, .ref m0a50, .ref m0a51, .int 0, .ref m0a53, .ref m0a54, .ref m0a55, .ref m0a56, .ref m0a57, .ref m0a58, .ref m0a59, .ref m0a60, .ref m0a61, .ref m0a62, .ref m0a63, .long 0, .int 0, .int (-9), .ref m0a67, .ref m0a68, .ref m0a69, .ref m0a70, .ref m0a71, .ref m0a72, .ref m0a73, .ref m0a74, .ref m0a75, .long 0]))]) [0] rfl
  have hD := hD.sub (ws' := [(m0, .inr (12, [.int 0, .ref m0a1, .int 0, .long 0, .int 0, .ref m0a5, .ref m0a6, .ref m0a7, .ref m0a8, .ref m0a9, .int 0, .ref m0a11, .ref m0a12, .ref m0a13, .ref m0a14, .ref m0a15, .ref m0a16, .int 0, .ref m0a18, .ref m0a19, .ref m0a20, .ref m0a21, .ref m0a22, .int 0, .ref m0a24, .ref m0a25, .ref m0a26, .int 0, .ref m0a28, .ref m0a29, .ref m0a30, .ref m0a31, .int 0, .ref m0a33, .ref m0a34, .ref m0a35, .ref m0a36, .ref m0a37, .ref m0a38, .ref m0a39, .ref m0a40, .ref m0a41, .ref m0a42, .ref m0a43, .ref m0a44, .ref m0a45, .ref m0a46, .ref m0a47, .int 0, .ref m0a49, .ref m0a50, .ref m0a51, .int 0, .ref m0a53, .ref m0a54, .ref m0a55, .ref m0a56, .ref m0a57, .ref m0a58, .ref m0a59, .ref m0a60, .ref m0a61, .ref m0a62, .ref m0a63, .long 0, .int 0, .int (-9), .ref m0a67, .ref m0a68, .ref m0a69, .ref m0a70, .ref m0a71, .ref m0a72, .ref m0a73, .ref m0a74, .ref m0a75, .long 0]))]) [0] rfl rfl
  refine lv_aload_n hx hb dL_law_1356 rfl (lv_at hl 1 rfl) ?_
  refine lv_aload_n hx hb dL_law_1357 rfl (lv_at hl 3 rfl) ?_
  refine lv_iload_n hx hb dL_law_1358 rfl (lv_at hl 0 rfl) ?_
  refine lv_iconst (v := 1) hx hb dL_law_1359 (by decide) ?_
  refine lv_iadd hx hb dL_law_1360 ?_
  refine lv_topk (v := 1) (by decide) ?_
  refine va_sld hx hb hX hbl hbA hS (by unfold vp_in; decide) dL_law_1361 ?_
  refine lv_topk (v := scr 1) rfl ?_
  refine kVi (As := [.int (scr 1)]) (rest := [.int r_1]) (wr := []) X (c_X12_cost l g m0 (scr 1) m0a1 m0a5 m0a6 m0a7 m0a8 m0a9 m0a11 m0a12 m0a13 m0a14 m0a15 m0a16 m0a18 m0a19 m0a20 m0a21 m0a22 m0a24 m0a25 m0a26 m0a28 m0a29 m0a30 m0a31 m0a33 m0a34 m0a35 m0a36 m0a37 m0a38 m0a39 m0a40 m0a41 m0a42 m0a43 m0a44 m0a45 m0a46 m0a47 m0a49 m0a50 m0a51 m0a53 m0a54 m0a55 m0a56 m0a57 m0a58 m0a59 m0a60 m0a61 m0a62 m0a63 m0a67 m0a68 m0a69 m0a70 m0a71 m0a72 m0a73 m0a74 m0a75) ok_X12_cost okv_X12_cost q_1973 rfl hK hP hD hS hA hZ hl.1 [0] [] rfl rfl rfl rfl rfl 0 12 rfl rfl rfl (Nat.le_of_ble_eq_true rfl) ⟨Nat.le_of_ble_eq_true rfl, Nat.le_of_ble_eq_true rfl⟩ dL_law_1362 ⟨Nat.le_of_ble_eq_true rfl, Nat.le_of_ble_eq_true rfl⟩ (fun r_3 w1 H locs hw_4 hP hD hS => ?_)
  have hP := pSub hP (ws' := []) [] rfl
  have hD := hD.sub (ws' := []) [] rfl rfl
  refine lv_icmp_eq (tgt := 1955) hx hb dL_law_1365 (by decide) (fun _ => ?_) (fun c => absurd (hw_2.trans ((eq_cost g x0 (scr 1) xr xt xg xb xp xu xm xd xw xh xa xs xf xma0 xma1 xma2 xma3 xma4 xma5 xma6 xma7 xma8 xma9 xma10 xma11 xma12 m0 m0a1 m0a5 m0a6 m0a7 m0a8 m0a9 m0a11 m0a12 m0a13 m0a14 m0a15 m0a16 m0a18 m0a19 m0a20 m0a21 m0a22 m0a24 m0a25 m0a26 m0a28 m0a29 m0a30 m0a31 m0a33 m0a34 m0a35 m0a36 m0a37 m0a38 m0a39 m0a40 m0a41 m0a42 m0a43 m0a44 m0a45 m0a46 m0a47 m0a49 m0a50 m0a51 m0a53 m0a54 m0a55 m0a56 m0a57 m0a58 m0a59 m0a60 m0a61 m0a62 m0a63 m0a67 m0a68 m0a69 m0a70 m0a71 m0a72 m0a73 m0a74 m0a75).trans hw_4.symm)) c)
  exact kend _ _ _ hS (lv_sub hl [3, 0] rfl)
set_option maxHeartbeats 4000000 in
set_option maxRecDepth 100000 in
theorem law_30 (l : Launch) (g : GG) {p : Program} {e : Env} {s : State} {m : MethodId} {below : List Frame} {meth : Method} {c : Code} {b : Nat} {scr : Nat → Int32} (X : En p s m #[Value.ref b] meth c cL_law 4 ret R_law meth.name) (hK : va_K g.1 classes (tyG g) s) (hA : ∀ q, s.heap.size ≤ q → laA s q) (hZ : stS g (laA s) s s.heap) (hX : va_X b 6 scr s s.heap) (hbl : b < s.heap.size) (hbA : ¬ laA s b) (x0 : Nat) (xr : Nat) (xt : Nat) (xg : Nat) (xb : Nat) (xp : Nat) (xu : Nat) (xm : Nat) (xd : Nat) (xw : Nat) (xh : Nat) (xa : Nat) (xs : Nat) (xf : Nat) (xma0 : Nat) (xma1 : Nat) (xma2 : Nat) (xma3 : Nat) (xma4 : Nat) (xma5 : Nat) (xma6 : Nat) (xma7 : Nat) (xma8 : Nat) (xma9 : Nat) (xma10 : Nat) (xma11 : Nat) (xma12 : Nat) (m0 : Nat) (m0a1 : Nat) (m0a5 : Nat) (m0a6 : Nat) (m0a7 : Nat) (m0a8 : Nat) (m0a9 : Nat) (m0a11 : Nat) (m0a12 : Nat) (m0a13 : Nat) (m0a14 : Nat) (m0a15 : Nat) (m0a16 : Nat) (m0a18 : Nat) (m0a19 : Nat) (m0a20 : Nat) (m0a21 : Nat) (m0a22 : Nat) (m0a24 : Nat) (m0a25 : Nat) (m0a26 : Nat) (m0a28 : Nat) (m0a29 : Nat) (m0a30 : Nat) (m0a31 : Nat) (m0a33 : Nat) (m0a34 : Nat) (m0a35 : Nat) (m0a36 : Nat) (m0a37 : Nat) (m0a38 : Nat) (m0a39 : Nat) (m0a40 : Nat) (m0a41 : Nat) (m0a42 : Nat) (m0a43 : Nat) (m0a44 : Nat) (m0a45 : Nat) (m0a46 : Nat) (m0a47 : Nat) (m0a49 : Nat) (m0a50 : Nat) (m0a51 : Nat) (m0a53 : Nat) (m0a54 : Nat) (m0a55 : Nat) (m0a56 : Nat) (m0a57 : Nat) (m0a58 : Nat) (m0a59 : Nat) (m0a60 : Nat) (m0a61 : Nat) (m0a62 : Nat) (m0a63 : Nat) (m0a67 : Nat) (m0a68 : Nat) (m0a69 : Nat) (m0a70 : Nat) (m0a71 : Nat) (m0a72 : Nat) (m0a73 : Nat) (m0a74 : Nat) (m0a75 : Nat) {H : Heap} {locs : List Loc} {ls : Array Slot} (hP : va_P g.1 classes [(x0, .inr (11, [.ref xr, .ref xt, .ref xg, .ref xb, .ref xp, .ref xu, .ref xm, .ref xd, .ref xw, .ref xh, .ref xa, .ref xs, .ref xf, .int 0, .int 0, .long 0, .long 0, .int 0])), (xm, .inr (4, [.ref xma0, .ref xma1, .ref xma2, .ref xma3, .ref xma4, .ref xma5, .ref xma6, .ref xma7, .ref xma8, .ref xma9, .ref xma10, .ref xma11, .ref xma12, .int 0])), (m0, .inr (12, [.int 0, .ref m0a1, .int 0, .long 0, .int 0, .ref m0a5, .ref m0a6, .ref m0a7, .ref m0a8, .ref m0a9, .int 0, .ref m0a11, .ref m0a12, .ref m0a13, .ref m0a14, .ref m0a15, .ref m0a16, .int 0, .ref m0a18, .ref m0a19, .ref m0a20, .ref m0a21, .ref m0a22, .int 0, .ref m0a24, .ref m0a25, .ref m0a26, .int 0, .ref m0a28, .ref m0a29, .ref m0a30, .ref m0a31, .int 0, .ref m0a33, .ref m0a34, .ref m0a35, .ref m0a36, .ref m0a37, .ref m0a38, .ref m0a39, .ref m0a40, .ref m0a41, .ref m0a42, .ref m0a43, .ref m0a44, .ref m0a45, .ref m0a46, .ref m0a47, .int 0, .ref m0a49, .ref m0a50, .ref m0a51, .int 0, .ref m0a53, .ref m0a54, .ref m0a55, .ref m0a56, .ref m0a57, .ref m0a58, .ref m0a59, .ref m0a60, .ref m0a61, .ref m0a62, .ref m0a63, .long 0, .int 0, .int (-9), .ref m0a67, .ref m0a68, .ref m0a69, .ref m0a70, .ref m0a71, .ref m0a72, .ref m0a73, .ref m0a74, .ref m0a75, .long 0]))] H) (hD : va_D (laA s) [(x0, .inr (11, [.ref xr, .ref xt, .ref xg, .ref xb, .ref xp, .ref xu, .ref xm, .ref xd, .ref xw, .ref xh, .ref xa, .ref xs, .ref xf, .int 0, .int 0, .long 0, .long 0, .int 0])), (xm, .inr (4, [.ref xma0, .ref xma1, .ref xma2, .ref xma3, .ref xma4, .ref xma5, .ref xma6, .ref xma7, .ref xma8, .ref xma9, .ref xma10, .ref xma11, .ref xma12, .int 0])), (m0, .inr (12, [.int 0, .ref m0a1, .int 0, .long 0, .int 0, .ref m0a5, .ref m0a6, .ref m0a7, .ref m0a8, .ref m0a9, .int 0, .ref m0a11, .ref m0a12, .ref m0a13, .ref m0a14, .ref m0a15, .ref m0a16, .int 0, .ref m0a18, .ref m0a19, .ref m0a20, .ref m0a21, .ref m0a22, .int 0, .ref m0a24, .ref m0a25, .ref m0a26, .int 0, .ref m0a28, .ref m0a29, .ref m0a30, .ref m0a31, .int 0, .ref m0a33, .ref m0a34, .ref m0a35, .ref m0a36, .ref m0a37, .ref m0a38, .ref m0a39, .ref m0a40, .ref m0a41, .ref m0a42, .ref m0a43, .ref m0a44, .ref m0a45, .ref m0a46, .ref m0a47, .int 0, .ref m0a49, .ref m0a50, .ref m0a51, .int 0, .ref m0a53, .ref m0a54, .ref m0a55, .ref m0a56, .ref m0a57, .ref m0a58, .ref m0a59, .ref m0a60, .ref m0a61, .ref m0a62, .ref m0a63, .long 0, .int 0, .int (-9), .ref m0a67, .ref m0a68, .ref m0a69, .ref m0a70, .ref m0a71, .ref m0a72, .ref m0a73, .ref m0a74, .ref m0a75, .long 0]))]) (hS : va_S (laA s) s.heap H locs) (hl : lv_has ls 4 [(3, .int 0), (2, .ref m0), (1, .ref x0), (0, .ref b)]) {Q : State → Prop} (kend : ∀ (H : Heap) (locs : List Loc) (ls : Array Slot), va_S (laA s) s.heap H locs → lv_has ls 4 [(0, .ref b), (3, .int 0)] → W p l e room_1 s m #[Value.ref b] below meth c H locs 141 11384 Q (F0 m 1955 ls [])) : W p l e room_1 s m #[Value.ref b] below meth c H locs 141 11384 Q (F0 m 1370 ls []) := by
  have hx := X.1
  have hb := X.2.1
  have hml := X.2.2.1
  have hown := X.2.2.2.1
  have hts := X.2.2.2.2.1
  refine lv_aload_n hx hb dL_law_1370 rfl (lv_at hl 2 rfl) ?_
  refine lv_aload_n hx hb dL_law_1371 rfl (lv_at hl 3 rfl) ?_
  refine lv_iload_n hx hb dL_law_1372 rfl (lv_at hl 0 rfl) ?_
  refine lv_iconst (v := 1) hx hb dL_law_1373 (by decide) ?_
  refine lv_iadd hx hb dL_law_1374 ?_
  refine lv_topk (v := 1) (by decide) ?_
  refine va_sld hx hb hX hbl hbA hS (by unfold vp_in; decide) dL_law_1375 ?_
  refine lv_topk (v := scr 1) rfl ?_
  refine kVi (As := [.int (scr 1)]) (rest := []) (wr := [(m0, .inr (12, [.int 0, .ref m0a1, .int 0, .long 0, .int 0, .ref m0a5, .ref m0a6, .ref m0a7, .ref m0a8, .ref m0a9, .int 0, .ref m0a11, .ref m0a12, .ref m0a13, .ref m0a14, .ref m0a15, .ref m0a16, .int 0, .ref m0a18, .ref m0a19, .ref m0a20, .ref m0a21, .ref m0a22, .int 0, .ref m0a24, .ref m0a25, .ref m0a26, .int 0, .ref m0a28, .ref m0a29, .ref m0a30, .ref m0a31, .int 0, .ref m0a33, .ref m0a34, .ref m0a35, .ref m0a36, .ref m0a37, .ref m0a38, .ref m0a39, .ref m0a40, .ref m0a41, .ref m0a42, .ref m0a43, .ref m0a44, .ref m0a45, .ref m0a46, .ref m0a47, .int 0, .ref m0a49, .ref m0a50, .ref m0a51, .int 0, .ref m0a53, .ref m0a54, .ref m0a55, .ref m0a56, .ref m0a57, .ref m0a58, .ref m0a59, .ref m0a60, .ref m0a61, .ref m0a62, .ref m0a63, .long 0, .int 0, .int (-9), .ref m0a67, .ref m0a68, .ref m0a69, .ref m0a70, .ref m0a71, .ref m0a72, .ref m0a73, .ref m0a74, .ref m0a75, .long 0]))]) X (c_X11_shown l g x0 (scr 1) xr xt xg xb xp xu xm xd xw xh xa xs xf xma0 xma1 xma2 xma3 xma4 xma5 xma6 xma7 xma8 xma9 xma10 xma11 xma12) ok_X11_shown okv_X11_shown q_1058 rfl hK hP hD hS hA hZ hl.1 [0, 1] [2] rfl rfl rfl rfl rfl 0 11 rfl rfl rfl (Nat.le_of_ble_eq_true rfl) ⟨Nat.le_of_ble_eq_true rfl, Nat.le_of_ble_eq_true rfl⟩ dL_law_1376 ⟨Nat.le_of_ble_eq_true rfl, Nat.le_of_ble_eq_true rfl⟩ (fun r_1 w1 H locs hw_2 hP hD hS => ?_)
  have hP := pSub hP (ws' := [(m0, .inr (12, [.int 0, .ref m0a1, .int 0, .long 0, .int 0, .ref m0a5, .ref m0a6, .ref m0a7, .ref m0a8, .ref m0a9, .int 0, .ref m0a11, .ref m0a12, .ref m0a13, .ref m0a14, .ref m0a15, .ref m0a16, .int 0, .ref m0a18, .ref m0a19, .ref m0a20, .ref m0a21, .ref m0a22, .int 0, .ref m0a24, .ref m0a25, .ref m0a26, .int 0, .ref m0a28, .ref m0a29, .ref m0a30, .ref m0a31, .int 0, .ref m0a33, .ref m0a34, .ref m0a35, .ref m0a36, .ref m0a37, .ref m0a38, .ref m0a39, .ref m0a40, .ref m0a41, .ref m0a42, .ref m0a43, .ref m0a44, .ref m0a45, .ref m0a46, .ref m0a47, .int 0, .ref m0a49, .ref m0a50, .ref m0a51, .int 0, .ref m0a53, .ref m0a54, .ref m0a55, .ref m0a56, .ref m0a57, .ref m0a58, .ref m0a59, .ref m0a60, .ref m0a61, .ref m0a62, .ref m0a63, .long 0, .int 0, .int (-9), .ref m0a67, .ref m0a68, .ref m0a69, .ref m0a70, .ref m0a71, .ref m0a72, .ref m0a73, .ref m0a74, .ref m0a75, .long 0]))]) [0] rfl
  have hD := hD.sub (ws' := [(m0, .inr (12, [.int 0, .ref m0a1, .int 0, .long 0, .int 0, .ref m0a5, .ref m0a6, .ref m0a7, .ref m0a8, .ref m0a9, .int 0, .ref m0a11, .ref m0a12, .ref m0a13, .ref m0a14, .ref m0a15, .ref m0a16, .int 0, .ref m0a18, .ref m0a19, .ref m0a20, .ref m0a21, .ref m0a22, .int 0, .ref m0a24, .ref m0a25, .ref m0a26, .int 0, .ref m0a28, .ref m0a29, .ref m0a30, .ref m0a31, .int 0, .ref m0a33, .ref m0a34, .ref m0a35, .ref m0a36, .ref m0a37, .ref m0a38, .ref m0a39, .ref m0a40, .ref m0a41, .ref m0a42, .ref m0a43, .ref m0a44, .ref m0a45, .ref m0a46, .ref m0a47, .int 0, .ref m0a49, .ref m0a50, .ref m0a51, .int 0, .ref m0a53, .ref m0a54, .ref m0a55, .ref m0a56, .ref m0a57, .ref m0a58, .ref m0a59, .ref m0a60, .ref m0a61, .ref m0a62, .ref m0a63, .long 0, .int 0, .int (-9), .ref m0a67, .ref m0a68, .ref m0a69, .ref m0a70, .ref m0a71, .ref m0a72, .ref m0a73, .ref m0a74, .ref m0a75, .long 0]))]) [0] rfl rfl
  refine lv_aload_n hx hb dL_law_1379 rfl (lv_at hl 1 rfl) ?_
  refine lv_aload_n hx hb dL_law_1380 rfl (lv_at hl 3 rfl) ?_
  refine lv_iload_n hx hb dL_law_1381 rfl (lv_at hl 0 rfl) ?_
  refine lv_iconst (v := 1) hx hb dL_law_1382 (by decide) ?_
  refine lv_iadd hx hb dL_law_1383 ?_
  refine lv_topk (v := 1) (by decide) ?_
  refine va_sld hx hb hX hbl hbA hS (by unfold vp_in; decide) dL_law_1384 ?_
  refine lv_topk (v := scr 1) rfl ?_
  refine kVi (As := [.int (scr 1)]) (rest := [.int r_1]) (wr := []) X (c_X12_shown l g m0 (scr 1) m0a1 m0a5 m0a6 m0a7 m0a8 m0a9 m0a11 m0a12 m0a13 m0a14 m0a15 m0a16 m0a18 m0a19 m0a20 m0a21 m0a22 m0a24 m0a25 m0a26 m0a28 m0a29 m0a30 m0a31 m0a33 m0a34 m0a35 m0a36 m0a37 m0a38 m0a39 m0a40 m0a41 m0a42 m0a43 m0a44 m0a45 m0a46 m0a47 m0a49 m0a50 m0a51 m0a53 m0a54 m0a55 m0a56 m0a57 m0a58 m0a59 m0a60 m0a61 m0a62 m0a63 m0a67 m0a68 m0a69 m0a70 m0a71 m0a72 m0a73 m0a74 m0a75) ok_X12_shown okv_X12_shown q_1977 rfl hK hP hD hS hA hZ hl.1 [0] [] rfl rfl rfl rfl rfl 0 12 rfl rfl rfl (Nat.le_of_ble_eq_true rfl) ⟨Nat.le_of_ble_eq_true rfl, Nat.le_of_ble_eq_true rfl⟩ dL_law_1385 ⟨Nat.le_of_ble_eq_true rfl, Nat.le_of_ble_eq_true rfl⟩ (fun r_3 w1 H locs hw_4 hP hD hS => ?_)
  have hP := pSub hP (ws' := []) [] rfl
  have hD := hD.sub (ws' := []) [] rfl rfl
  refine lv_icmp_eq (tgt := 1955) hx hb dL_law_1388 (by decide) (fun _ => ?_) (fun c => absurd (hw_2.trans ((eq_shown g x0 (scr 1) xr xt xg xb xp xu xm xd xw xh xa xs xf xma0 xma1 xma2 xma3 xma4 xma5 xma6 xma7 xma8 xma9 xma10 xma11 xma12 m0 m0a1 m0a5 m0a6 m0a7 m0a8 m0a9 m0a11 m0a12 m0a13 m0a14 m0a15 m0a16 m0a18 m0a19 m0a20 m0a21 m0a22 m0a24 m0a25 m0a26 m0a28 m0a29 m0a30 m0a31 m0a33 m0a34 m0a35 m0a36 m0a37 m0a38 m0a39 m0a40 m0a41 m0a42 m0a43 m0a44 m0a45 m0a46 m0a47 m0a49 m0a50 m0a51 m0a53 m0a54 m0a55 m0a56 m0a57 m0a58 m0a59 m0a60 m0a61 m0a62 m0a63 m0a67 m0a68 m0a69 m0a70 m0a71 m0a72 m0a73 m0a74 m0a75).trans hw_4.symm)) c)
  exact kend _ _ _ hS (lv_sub hl [3, 0] rfl)
set_option maxHeartbeats 4000000 in
set_option maxRecDepth 100000 in
theorem law_31 (l : Launch) (g : GG) {p : Program} {e : Env} {s : State} {m : MethodId} {below : List Frame} {meth : Method} {c : Code} {b : Nat} {scr : Nat → Int32} (X : En p s m #[Value.ref b] meth c cL_law 4 ret R_law meth.name) (hK : va_K g.1 classes (tyG g) s) (hA : ∀ q, s.heap.size ≤ q → laA s q) (hZ : stS g (laA s) s s.heap) (hX : va_X b 6 scr s s.heap) (hbl : b < s.heap.size) (hbA : ¬ laA s b) (x0 : Nat) (xr : Nat) (xt : Nat) (xg : Nat) (xb : Nat) (xp : Nat) (xu : Nat) (xm : Nat) (xd : Nat) (xw : Nat) (xh : Nat) (xa : Nat) (xs : Nat) (xf : Nat) (xma0 : Nat) (xma1 : Nat) (xma2 : Nat) (xma3 : Nat) (xma4 : Nat) (xma5 : Nat) (xma6 : Nat) (xma7 : Nat) (xma8 : Nat) (xma9 : Nat) (xma10 : Nat) (xma11 : Nat) (xma12 : Nat) (m0 : Nat) (m0a1 : Nat) (m0a5 : Nat) (m0a6 : Nat) (m0a7 : Nat) (m0a8 : Nat) (m0a9 : Nat) (m0a11 : Nat) (m0a12 : Nat) (m0a13 : Nat) (m0a14 : Nat) (m0a15 : Nat) (m0a16 : Nat) (m0a18 : Nat) (m0a19 : Nat) (m0a20 : Nat) (m0a21 : Nat) (m0a22 : Nat) (m0a24 : Nat) (m0a25 : Nat) (m0a26 : Nat) (m0a28 : Nat) (m0a29 : Nat) (m0a30 : Nat) (m0a31 : Nat) (m0a33 : Nat) (m0a34 : Nat) (m0a35 : Nat) (m0a36 : Nat) (m0a37 : Nat) (m0a38 : Nat) (m0a39 : Nat) (m0a40 : Nat) (m0a41 : Nat) (m0a42 : Nat) (m0a43 : Nat) (m0a44 : Nat) (m0a45 : Nat) (m0a46 : Nat) (m0a47 : Nat) (m0a49 : Nat) (m0a50 : Nat) (m0a51 : Nat) (m0a53 : Nat) (m0a54 : Nat) (m0a55 : Nat) (m0a56 : Nat) (m0a57 : Nat) (m0a58 : Nat) (m0a59 : Nat) (m0a60 : Nat) (m0a61 : Nat) (m0a62 : Nat) (m0a63 : Nat) (m0a67 : Nat) (m0a68 : Nat) (m0a69 : Nat) (m0a70 : Nat) (m0a71 : Nat) (m0a72 : Nat) (m0a73 : Nat) (m0a74 : Nat) (m0a75 : Nat) {H : Heap} {locs : List Loc} {ls : Array Slot} (hP : va_P g.1 classes [(x0, .inr (11, [.ref xr, .ref xt, .ref xg, .ref xb, .ref xp, .ref xu, .ref xm, .ref xd, .ref xw, .ref xh, .ref xa, .ref xs, .ref xf, .int 0, .int 0, .long 0, .long 0, .int 0])), (xm, .inr (4, [.ref xma0, .ref xma1, .ref xma2, .ref xma3, .ref xma4, .ref xma5, .ref xma6, .ref xma7, .ref xma8, .ref xma9, .ref xma10, .ref xma11, .ref xma12, .int 0])), (m0, .inr (12, [.int 0, .ref m0a1, .int 0, .long 0, .int 0, .ref m0a5, .ref m0a6, .ref m0a7, .ref m0a8, .ref m0a9, .int 0, .ref m0a11, .ref m0a12, .ref m0a13, .ref m0a14, .ref m0a15, .ref m0a16, .int 0, .ref m0a18, .ref m0a19, .ref m0a20, .ref m0a21, .ref m0a22, .int 0, .ref m0a24, .ref m0a25, .ref m0a26, .int 0, .ref m0a28, .ref m0a29, .ref m0a30, .ref m0a31, .int 0, .ref m0a33, .ref m0a34, .ref m0a35, .ref m0a36, .ref m0a37, .ref m0a38, .ref m0a39, .ref m0a40, .ref m0a41, .ref m0a42, .ref m0a43, .ref m0a44, .ref m0a45, .ref m0a46, .ref m0a47, .int 0, .ref m0a49, .ref m0a50, .ref m0a51, .int 0, .ref m0a53, .ref m0a54, .ref m0a55, .ref m0a56, .ref m0a57, .ref m0a58, .ref m0a59, .ref m0a60, .ref m0a61, .ref m0a62, .ref m0a63, .long 0, .int 0, .int (-9), .ref m0a67, .ref m0a68, .ref m0a69, .ref m0a70, .ref m0a71, .ref m0a72, .ref m0a73, .ref m0a74, .ref m0a75, .long 0]))] H) (hD : va_D (laA s) [(x0, .inr (11, [.ref xr, .ref xt, .ref xg, .ref xb, .ref xp, .ref xu, .ref xm, .ref xd, .ref xw, .ref xh, .ref xa, .ref xs, .ref xf, .int 0, .int 0, .long 0, .long 0, .int 0])), (xm, .inr (4, [.ref xma0, .ref xma1, .ref xma2, .ref xma3, .ref xma4, .ref xma5, .ref xma6, .ref xma7, .ref xma8, .ref xma9, .ref xma10, .ref xma11, .ref xma12, .int 0])), (m0, .inr (12, [.int 0, .ref m0a1, .int 0, .long 0, .int 0, .ref m0a5, .ref m0a6, .ref m0a7, .ref m0a8, .ref m0a9, .int 0, .ref m0a11, .ref m0a12, .ref m0a13, .ref m0a14, .ref m0a15, .ref m0a16, .int 0, .ref m0a18, .ref m0a19, .ref m0a20, .ref m0a21, .ref m0a22, .int 0, .ref m0a24, .ref m0a25, .ref m0a26, .int 0, .ref m0a28, .ref m0a29, .ref m0a30, .ref m0a31, .int 0, .ref m0a33, .ref m0a34, .ref m0a35, .ref m0a36, .ref m0a37, .ref m0a38, .ref m0a39, .ref m0a40, .ref m0a41, .ref m0a42, .ref m0a43, .ref m0a44, .ref m0a45, .ref m0a46, .ref m0a47, .int 0, .ref m0a49, .ref m0a50, .ref m0a51, .int 0, .ref m0a53, .ref m0a54, .ref m0a55, .ref m0a56, .ref m0a57, .ref m0a58, .ref m0a59, .ref m0a60, .ref m0a61, .ref m0a62, .ref m0a63, .long 0, .int 0, .int (-9), .ref m0a67, .ref m0a68, .ref m0a69, .ref m0a70, .ref m0a71, .ref m0a72, .ref m0a73, .ref m0a74, .ref m0a75, .long 0]))]) (hS : va_S (laA s) s.heap H locs) (hl : lv_has ls 4 [(3, .int 0), (2, .ref m0), (1, .ref x0), (0, .ref b)]) {Q : State → Prop} (kend : ∀ (H : Heap) (locs : List Loc) (ls : Array Slot), va_S (laA s) s.heap H locs → lv_has ls 4 [(0, .ref b), (3, .int 0)] → W p l e room_1 s m #[Value.ref b] below meth c H locs 141 11384 Q (F0 m 1955 ls [])) : W p l e room_1 s m #[Value.ref b] below meth c H locs 141 11384 Q (F0 m 1393 ls []) := by
  have hx := X.1
  have hb := X.2.1
  have hml := X.2.2.1
  have hown := X.2.2.2.1
  have hts := X.2.2.2.2.1
  refine lv_aload_n hx hb dL_law_1393 rfl (lv_at hl 2 rfl) ?_
  refine lv_aload_n hx hb dL_law_1394 rfl (lv_at hl 3 rfl) ?_
  refine lv_iload_n hx hb dL_law_1395 rfl (lv_at hl 0 rfl) ?_
  refine lv_iconst (v := 1) hx hb dL_law_1396 (by decide) ?_
  refine lv_iadd hx hb dL_law_1397 ?_
  refine lv_topk (v := 1) (by decide) ?_
  refine va_sld hx hb hX hbl hbA hS (by unfold vp_in; decide) dL_law_1398 ?_
  refine lv_topk (v := scr 1) rfl ?_
  refine kVi (As := [.int (scr 1)]) (rest := []) (wr := [(m0, .inr (12, [.int 0, .ref m0a1, .int 0, .long 0, .int 0, .ref m0a5, .ref m0a6, .ref m0a7, .ref m0a8, .ref m0a9, .int 0, .ref m0a11, .ref m0a12, .ref m0a13, .ref m0a14, .ref m0a15, .ref m0a16, .int 0, .ref m0a18, .ref m0a19, .ref m0a20, .ref m0a21, .ref m0a22, .int 0, .ref m0a24, .ref m0a25, .ref m0a26, .int 0, .ref m0a28, .ref m0a29, .ref m0a30, .ref m0a31, .int 0, .ref m0a33, .ref m0a34, .ref m0a35, .ref m0a36, .ref m0a37, .ref m0a38, .ref m0a39, .ref m0a40, .ref m0a41, .ref m0a42, .ref m0a43, .ref m0a44, .ref m0a45, .ref m0a46, .ref m0a47, .int 0, .ref m0a49, .ref m0a50, .ref m0a51, .int 0, .ref m0a53, .ref m0a54, .ref m0a55, .ref m0a56, .ref m0a57, .ref m0a58, .ref m0a59, .ref m0a60, .ref m0a61, .ref m0a62, .ref m0a63, .long 0, .int 0, .int (-9), .ref m0a67, .ref m0a68, .ref m0a69, .ref m0a70, .ref m0a71, .ref m0a72, .ref m0a73, .ref m0a74, .ref m0a75, .long 0]))]) X (c_X11_over l g x0 (scr 1) xr xt xg xb xp xu xm xd xw xh xa xs xf xma0 xma1 xma2 xma3 xma4 xma5 xma6 xma7 xma8 xma9 xma10 xma11 xma12) ok_X11_over okv_X11_over q_1062 rfl hK hP hD hS hA hZ hl.1 [0, 1] [2] rfl rfl rfl rfl rfl 0 11 rfl rfl rfl (Nat.le_of_ble_eq_true rfl) ⟨Nat.le_of_ble_eq_true rfl, Nat.le_of_ble_eq_true rfl⟩ dL_law_1399 ⟨Nat.le_of_ble_eq_true rfl, Nat.le_of_ble_eq_true rfl⟩ (fun r_1 w1 H locs hw_2 hP hD hS => ?_)
  have hP := pSub hP (ws' := [(m0, .inr (12, [.int 0, .ref m0a1, .int 0, .long 0, .int 0, .ref m0a5, .ref m0a6, .ref m0a7, .ref m0a8, .ref m0a9, .int 0, .ref m0a11, .ref m0a12, .ref m0a13, .ref m0a14, .ref m0a15, .ref m0a16, .int 0, .ref m0a18, .ref m0a19, .ref m0a20, .ref m0a21, .ref m0a22, .int 0, .ref m0a24, .ref m0a25, .ref m0a26, .int 0, .ref m0a28, .ref m0a29, .ref m0a30, .ref m0a31, .int 0, .ref m0a33, .ref m0a34, .ref m0a35, .ref m0a36, .ref m0a37, .ref m0a38, .ref m0a39, .ref m0a40, .ref m0a41, .ref m0a42, .ref m0a43, .ref m0a44, .ref m0a45, .ref m0a46, .ref m0a47, .int 0, .ref m0a49, .ref m0a50, .ref m0a51, .int 0, .ref m0a53, .ref m0a54, .ref m0a55, .ref m0a56, .ref m0a57, .ref m0a58, .ref m0a59, .ref m0a60, .ref m0a61, .ref m0a62, .ref m0a63, .long 0, .int 0, .int (-9), .ref m0a67, .ref m0a68, .ref m0a69, .ref m0a70, .ref m0a71, .ref m0a72, .ref m0a73, .ref m0a74, .ref m0a75, .long 0]))]) [0] rfl
  have hD := hD.sub (ws' := [(m0, .inr (12, [.int 0, .ref m0a1, .int 0, .long 0, .int 0, .ref m0a5, .ref m0a6, .ref m0a7, .ref m0a8, .ref m0a9, .int 0, .ref m0a11, .ref m0a12, .ref m0a13, .ref m0a14, .ref m0a15, .ref m0a16, .int 0, .ref m0a18, .ref m0a19, .ref m0a20, .ref m0a21, .ref m0a22, .int 0, .ref m0a24, .ref m0a25, .ref m0a26, .int 0, .ref m0a28, .ref m0a29, .ref m0a30, .ref m0a31, .int 0, .ref m0a33, .ref m0a34, .ref m0a35, .ref m0a36, .ref m0a37, .ref m0a38, .ref m0a39, .ref m0a40, .ref m0a41, .ref m0a42, .ref m0a43, .ref m0a44, .ref m0a45, .ref m0a46, .ref m0a47, .int 0, .ref m0a49, .ref m0a50, .ref m0a51, .int 0, .ref m0a53, .ref m0a54, .ref m0a55, .ref m0a56, .ref m0a57, .ref m0a58, .ref m0a59, .ref m0a60, .ref m0a61, .ref m0a62, .ref m0a63, .long 0, .int 0, .int (-9), .ref m0a67, .ref m0a68, .ref m0a69, .ref m0a70, .ref m0a71, .ref m0a72, .ref m0a73, .ref m0a74, .ref m0a75, .long 0]))]) [0] rfl rfl
  refine lv_aload_n hx hb dL_law_1402 rfl (lv_at hl 1 rfl) ?_
  refine lv_aload_n hx hb dL_law_1403 rfl (lv_at hl 3 rfl) ?_
  refine lv_iload_n hx hb dL_law_1404 rfl (lv_at hl 0 rfl) ?_
  refine lv_iconst (v := 1) hx hb dL_law_1405 (by decide) ?_
  refine lv_iadd hx hb dL_law_1406 ?_
  refine lv_topk (v := 1) (by decide) ?_
  refine va_sld hx hb hX hbl hbA hS (by unfold vp_in; decide) dL_law_1407 ?_
  refine lv_topk (v := scr 1) rfl ?_
  refine kVi (As := [.int (scr 1)]) (rest := [.int r_1]) (wr := []) X (c_X12_over l g m0 (scr 1) m0a1 m0a5 m0a6 m0a7 m0a8 m0a9 m0a11 m0a12 m0a13 m0a14 m0a15 m0a16 m0a18 m0a19 m0a20 m0a21 m0a22 m0a24 m0a25 m0a26 m0a28 m0a29 m0a30 m0a31 m0a33 m0a34 m0a35 m0a36 m0a37 m0a38 m0a39 m0a40 m0a41 m0a42 m0a43 m0a44 m0a45 m0a46 m0a47 m0a49 m0a50 m0a51 m0a53 m0a54 m0a55 m0a56 m0a57 m0a58 m0a59 m0a60 m0a61 m0a62 m0a63 m0a67 m0a68 m0a69 m0a70 m0a71 m0a72 m0a73 m0a74 m0a75) ok_X12_over okv_X12_over q_1981 rfl hK hP hD hS hA hZ hl.1 [0] [] rfl rfl rfl rfl rfl 0 12 rfl rfl rfl (Nat.le_of_ble_eq_true rfl) ⟨Nat.le_of_ble_eq_true rfl, Nat.le_of_ble_eq_true rfl⟩ dL_law_1408 ⟨Nat.le_of_ble_eq_true rfl, Nat.le_of_ble_eq_true rfl⟩ (fun r_3 w1 H locs hw_4 hP hD hS => ?_)
  have hP := pSub hP (ws' := []) [] rfl
  have hD := hD.sub (ws' := []) [] rfl rfl
  refine lv_icmp_eq (tgt := 1955) hx hb dL_law_1411 (by decide) (fun _ => ?_) (fun c => absurd (hw_2.trans ((eq_over g x0 (scr 1) xr xt xg xb xp xu xm xd xw xh xa xs xf xma0 xma1 xma2 xma3 xma4 xma5 xma6 xma7 xma8 xma9 xma10 xma11 xma12 m0 m0a1 m0a5 m0a6 m0a7 m0a8 m0a9 m0a11 m0a12 m0a13 m0a14 m0a15 m0a16 m0a18 m0a19 m0a20 m0a21 m0a22 m0a24 m0a25 m0a26 m0a28 m0a29 m0a30 m0a31 m0a33 m0a34 m0a35 m0a36 m0a37 m0a38 m0a39 m0a40 m0a41 m0a42 m0a43 m0a44 m0a45 m0a46 m0a47 m0a49 m0a50 m0a51 m0a53 m0a54 m0a55 m0a56 m0a57 m0a58 m0a59 m0a60 m0a61 m0a62 m0a63 m0a67 m0a68 m0a69 m0a70 m0a71 m0a72 m0a73 m0a74 m0a75).trans hw_4.symm)) c)
  exact kend _ _ _ hS (lv_sub hl [3, 0] rfl)
set_option maxHeartbeats 4000000 in
set_option maxRecDepth 100000 in
theorem law_32 (l : Launch) (g : GG) {p : Program} {e : Env} {s : State} {m : MethodId} {below : List Frame} {meth : Method} {c : Code} {b : Nat} {scr : Nat → Int32} (X : En p s m #[Value.ref b] meth c cL_law 4 ret R_law meth.name) (hK : va_K g.1 classes (tyG g) s) (hA : ∀ q, s.heap.size ≤ q → laA s q) (hZ : stS g (laA s) s s.heap) (hX : va_X b 6 scr s s.heap) (hbl : b < s.heap.size) (hbA : ¬ laA s b) (x0 : Nat) (xr : Nat) (xt : Nat) (xg : Nat) (xb : Nat) (xp : Nat) (xu : Nat) (xm : Nat) (xd : Nat) (xw : Nat) (xh : Nat) (xa : Nat) (xs : Nat) (xf : Nat) (xba0 : Nat) (xba1 : Nat) (xba2 : Nat) (xba3 : Nat) (xba4 : Nat) (xba5 : Nat) (xba6 : Nat) (xba7 : Nat) (xba8 : Nat) (xba9 : Nat) (xba10 : Nat) (xba11 : Nat) (m0 : Nat) (m0a1 : Nat) (m0a5 : Nat) (m0a6 : Nat) (m0a7 : Nat) (m0a8 : Nat) (m0a9 : Nat) (m0a11 : Nat) (m0a12 : Nat) (m0a13 : Nat) (m0a14 : Nat) (m0a15 : Nat) (m0a16 : Nat) (m0a18 : Nat) (m0a19 : Nat) (m0a20 : Nat) (m0a21 : Nat) (m0a22 : Nat) (m0a24 : Nat) (m0a25 : Nat) (m0a26 : Nat) (m0a28 : Nat) (m0a29 : Nat) (m0a30 : Nat) (m0a31 : Nat) (m0a33 : Nat) (m0a34 : Nat) (m0a35 : Nat) (m0a36 : Nat) (m0a37 : Nat) (m0a38 : Nat) (m0a39 : Nat) (m0a40 : Nat) (m0a41 : Nat) (m0a42 : Nat) (m0a43 : Nat) (m0a44 : Nat) (m0a45 : Nat) (m0a46 : Nat) (m0a47 : Nat) (m0a49 : Nat) (m0a50 : Nat) (m0a51 : Nat) (m0a53 : Nat) (m0a54 : Nat) (m0a55 : Nat) (m0a56 : Nat) (m0a57 : Nat) (m0a58 : Nat) (m0a59 : Nat) (m0a60 : Nat) (m0a61 : Nat) (m0a62 : Nat) (m0a63 : Nat) (m0a67 : Nat) (m0a68 : Nat) (m0a69 : Nat) (m0a70 : Nat) (m0a71 : Nat) (m0a72 : Nat) (m0a73 : Nat) (m0a74 : Nat) (m0a75 : Nat) {H : Heap} {locs : List Loc} {ls : Array Slot} (hP : va_P g.1 classes [(x0, .inr (11, [.ref xr, .ref xt, .ref xg, .ref xb, .ref xp, .ref xu, .ref xm, .ref xd, .ref xw, .ref xh, .ref xa, .ref xs, .ref xf, .int 0, .int 0, .long 0, .long 0, .int 0])), (xb, .inr (1, [.ref xba0, .ref xba1, .ref xba2, .ref xba3, .ref xba4, .ref xba5, .ref xba6, .ref xba7, .ref xba8, .ref xba9, .ref xba10, .ref xba11, .int 0, .int 0])), (m0, .inr (12, [.int 0, .ref m0a1, .int 0, .long 0, .int 0, .ref m0a5, .ref m0a6, .ref m0a7, .ref m0a8, .ref m0a9, .int 0, .ref m0a11, .ref m0a12, .ref m0a13, .ref m0a14, .ref m0a15, .ref m0a16, .int 0, .ref m0a18, .ref m0a19, .ref m0a20, .ref m0a21, .ref m0a22, .int 0, .ref m0a24, .ref m0a25, .ref m0a26, .int 0, .ref m0a28, .ref m0a29, .ref m0a30, .ref m0a31, .int 0, .ref m0a33, .ref m0a34, .ref m0a35, .ref m0a36, .ref m0a37, .ref m0a38, .ref m0a39, .ref m0a40, .ref m0a41, .ref m0a42, .ref m0a43, .ref m0a44, .ref m0a45, .ref m0a46, .ref m0a47, .int 0, .ref m0a49, .ref m0a50, .ref m0a51, .int 0, .ref m0a53, .ref m0a54, .ref m0a55, .ref m0a56, .ref m0a57, .ref m0a58, .ref m0a59, .ref m0a60, .ref m0a61, .ref m0a62, .ref m0a63, .long 0, .int 0, .int (-9), .ref m0a67, .ref m0a68, .ref m0a69, .ref m0a70, .ref m0a71, .ref m0a72, .ref m0a73, .ref m0a74, .ref m0a75, .long 0]))] H) (hD : va_D (laA s) [(x0, .inr (11, [.ref xr, .ref xt, .ref xg, .ref xb, .ref xp, .ref xu, .ref xm, .ref xd, .ref xw, .ref xh, .ref xa, .ref xs, .ref xf, .int 0, .int 0, .long 0, .long 0, .int 0])), (xb, .inr (1, [.ref xba0, .ref xba1, .ref xba2, .ref xba3, .ref xba4, .ref xba5, .ref xba6, .ref xba7, .ref xba8, .ref xba9, .ref xba10, .ref xba11, .int 0, .int 0])), (m0, .inr (12, [.int 0, .ref m0a1, .int 0, .long 0, .int 0, .ref m0a5, .ref m0a6, .ref m0a7, .ref m0a8, .ref m0a9, .int 0, .ref m0a11, .ref m0a12, .ref m0a13, .ref m0a14, .ref m0a15, .ref m0a16, .int 0, .ref m0a18, .ref m0a19, .ref m0a20, .ref m0a21, .ref m0a22, .int 0, .ref m0a24, .ref m0a25, .ref m0a26, .int 0, .ref m0a28, .ref m0a29, .ref m0a30, .ref m0a31, .int 0, .ref m0a33, .ref m0a34, .ref m0a35, .ref m0a36, .ref m0a37, .ref m0a38, .ref m0a39, .ref m0a40, .ref m0a41, .ref m0a42, .ref m0a43, .ref m0a44, .ref m0a45, .ref m0a46, .ref m0a47, .int 0, .ref m0a49, .ref m0a50, .ref m0a51, .int 0, .ref m0a53, .ref m0a54, .ref m0a55, .ref m0a56, .ref m0a57, .ref m0a58, .ref m0a59, .ref m0a60, .ref m0a61, .ref m0a62, .ref m0a63, .long 0, .int 0, .int (-9), .ref m0a67, .ref m0a68, .ref m0a69, .ref m0a70, .ref m0a71, .ref m0a72, .ref m0a73, .ref m0a74, .ref m0a75, .long 0]))]) (hS : va_S (laA s) s.heap H locs) (hl : lv_has ls 4 [(3, .int 0), (2, .ref m0), (1, .ref x0), (0, .ref b)]) {Q : State → Prop} (kend : ∀ (H : Heap) (locs : List Loc) (ls : Array Slot), va_S (laA s) s.heap H locs → lv_has ls 4 [(0, .ref b), (3, .int 0)] → W p l e room_1 s m #[Value.ref b] below meth c H locs 141 11384 Q (F0 m 1955 ls [])) : W p l e room_1 s m #[Value.ref b] below meth c H locs 141 11384 Q (F0 m 1416 ls []) := by
  have hx := X.1
  have hb := X.2.1
  have hml := X.2.2.1
  have hown := X.2.2.2.1
  have hts := X.2.2.2.2.1
  refine lv_aload_n hx hb dL_law_1416 rfl (lv_at hl 2 rfl) ?_
  refine lv_aload_n hx hb dL_law_1417 rfl (lv_at hl 3 rfl) ?_
  refine lv_iload_n hx hb dL_law_1418 rfl (lv_at hl 0 rfl) ?_
  refine lv_iconst (v := 1) hx hb dL_law_1419 (by decide) ?_
  refine lv_iadd hx hb dL_law_1420 ?_
  refine lv_topk (v := 1) (by decide) ?_
  refine va_sld hx hb hX hbl hbA hS (by unfold vp_in; decide) dL_law_1421 ?_
  refine lv_topk (v := scr 1) rfl ?_
  refine lv_aload_n hx hb dL_law_1422 rfl (lv_at hl 3 rfl) ?_
  refine lv_iload_n hx hb dL_law_1423 rfl (lv_at hl 0 rfl) ?_
  refine lv_iconst (v := 2) hx hb dL_law_1424 (by decide) ?_
  refine lv_iadd hx hb dL_law_1425 ?_
  refine lv_topk (v := 2) (by decide) ?_
  refine va_sld hx hb hX hbl hbA hS (by unfold vp_in; decide) dL_law_1426 ?_
  refine lv_topk (v := scr 2) rfl ?_
  refine kVi (As := [.int (scr 1), .int (scr 2)]) (rest := []) (wr := [(m0, .inr (12, [.int 0, .ref m0a1, .int 0, .long 0, .int 0, .ref m0a5, .ref m0a6, .ref m0a7, .ref m0a8, .ref m0a9, .int 0, .ref m0a11, .ref m0a12, .ref m0a13, .ref m0a14, .ref m0a15, .ref m0a16, .int 0, .ref m0a18, .ref m0a19, .ref m0a20, .ref m0a21, .ref m0a22, .int 0, .ref m0a24, .ref m0a25, .ref m0a26, .int 0, .ref m0a28, .ref m0a29, .ref m0a30, .ref m0a31, .int 0, .ref m0a33, .ref m0a34, .ref m0a35, .ref m0a36, .ref m0a37, .ref m0a38, .ref m0a39, .ref m0a40, .ref m0a41, .ref m0a42, .ref m0a43, .ref m0a44, .ref m0a45, .ref m0a46, .ref m0a47, .int 0, .ref m0a49, .ref m0a50, .ref m0a51, .int 0, .ref m0a53, .ref m0a54, .ref m0a55, .ref m0a56, .ref m0a57, .ref m0a58, .ref m0a59, .ref m0a60, .ref m0a61, .ref m0a62, .ref m0a63, .long 0, .int 0, .int (-9), .ref m0a67, .ref m0a68, .ref m0a69, .ref m0a70, .ref m0a71, .ref m0a72, .ref m0a73, .ref m0a74, .ref m0a75, .long 0]))]) X (c_X11_buy l g x0 (scr 1) (scr 2) xr xt xg xb xp xu xm xd xw xh xa xs xf xba0 xba1 xba2 xba3 xba4 xba5 xba6 xba7 xba8 xba9 xba10 xba11) ok_X11_buy okv_X11_buy q_1066 rfl hK hP hD hS hA hZ hl.1 [0, 1] [2] rfl rfl rfl rfl rfl 0 11 rfl rfl rfl (Nat.le_of_ble_eq_true rfl) ⟨Nat.le_of_ble_eq_true rfl, Nat.le_of_ble_eq_true rfl⟩ dL_law_1427 ⟨Nat.le_of_ble_eq_true rfl, Nat.le_of_ble_eq_true rfl⟩ (fun r_1 w1 H locs hw_2 hP hD hS => ?_)
  have hP := pSub hP (ws' := [(m0, .inr (12, [.int 0, .ref m0a1, .int 0, .long 0, .int 0, .ref m0a5, .ref m0a6, .ref m0a7, .ref m0a8, .ref m0a9, .int 0, .ref m0a11, .ref m0a12, .ref m0a13, .ref m0a14, .ref m0a15, .ref m0a16, .int 0, .ref m0a18, .ref m0a19, .ref m0a20, .ref m0a21, .ref m0a22, .int 0, .ref m0a24, .ref m0a25, .ref m0a26, .int 0, .ref m0a28, .ref m0a29, .ref m0a30, .ref m0a31, .int 0, .ref m0a33, .ref m0a34, .ref m0a35, .ref m0a36, .ref m0a37, .ref m0a38, .ref m0a39, .ref m0a40, .ref m0a41, .ref m0a42, .ref m0a43, .ref m0a44, .ref m0a45, .ref m0a46, .ref m0a47, .int 0, .ref m0a49, .ref m0a50, .ref m0a51, .int 0, .ref m0a53, .ref m0a54, .ref m0a55, .ref m0a56, .ref m0a57, .ref m0a58, .ref m0a59, .ref m0a60, .ref m0a61, .ref m0a62, .ref m0a63, .long 0, .int 0, .int (-9), .ref m0a67, .ref m0a68, .ref m0a69, .ref m0a70, .ref m0a71, .ref m0a72, .ref m0a73, .ref m0a74, .ref m0a75, .long 0]))]) [0] rfl
  have hD := hD.sub (ws' := [(m0, .inr (12, [.int 0, .ref m0a1, .int 0, .long 0, .int 0, .ref m0a5, .ref m0a6, .ref m0a7, .ref m0a8, .ref m0a9, .int 0, .ref m0a11, .ref m0a12, .ref m0a13, .ref m0a14, .ref m0a15, .ref m0a16, .int 0, .ref m0a18, .ref m0a19, .ref m0a20, .ref m0a21, .ref m0a22, .int 0, .ref m0a24, .ref m0a25, .ref m0a26, .int 0, .ref m0a28, .ref m0a29, .ref m0a30, .ref m0a31, .int 0, .ref m0a33, .ref m0a34, .ref m0a35, .ref m0a36, .ref m0a37, .ref m0a38, .ref m0a39, .ref m0a40, .ref m0a41, .ref m0a42, .ref m0a43, .ref m0a44, .ref m0a45, .ref m0a46, .ref m0a47, .int 0, .ref m0a49, .ref m0a50, .ref m0a51, .int 0, .ref m0a53, .ref m0a54, .ref m0a55, .ref m0a56, .ref m0a57, .ref m0a58, .ref m0a59, .ref m0a60, .ref m0a61, .ref m0a62, .ref m0a63, .long 0, .int 0, .int (-9), .ref m0a67, .ref m0a68, .ref m0a69, .ref m0a70, .ref m0a71, .ref m0a72, .ref m0a73, .ref m0a74, .ref m0a75, .long 0]))]) [0] rfl rfl
  refine lv_aload_n hx hb dL_law_1430 rfl (lv_at hl 1 rfl) ?_
  refine lv_aload_n hx hb dL_law_1431 rfl (lv_at hl 3 rfl) ?_
  refine lv_iload_n hx hb dL_law_1432 rfl (lv_at hl 0 rfl) ?_
  refine lv_iconst (v := 1) hx hb dL_law_1433 (by decide) ?_
  refine lv_iadd hx hb dL_law_1434 ?_
  refine lv_topk (v := 1) (by decide) ?_
  refine va_sld hx hb hX hbl hbA hS (by unfold vp_in; decide) dL_law_1435 ?_
  refine lv_topk (v := scr 1) rfl ?_
  refine lv_aload_n hx hb dL_law_1436 rfl (lv_at hl 3 rfl) ?_
  refine lv_iload_n hx hb dL_law_1437 rfl (lv_at hl 0 rfl) ?_
  refine lv_iconst (v := 2) hx hb dL_law_1438 (by decide) ?_
  refine lv_iadd hx hb dL_law_1439 ?_
  refine lv_topk (v := 2) (by decide) ?_
  refine va_sld hx hb hX hbl hbA hS (by unfold vp_in; decide) dL_law_1440 ?_
  refine lv_topk (v := scr 2) rfl ?_
  refine kVi (As := [.int (scr 1), .int (scr 2)]) (rest := [.int r_1]) (wr := []) X (c_X12_buy l g m0 (scr 1) (scr 2) m0a1 m0a5 m0a6 m0a7 m0a8 m0a9 m0a11 m0a12 m0a13 m0a14 m0a15 m0a16 m0a18 m0a19 m0a20 m0a21 m0a22 m0a24 m0a25 m0a26 m0a28 m0a29 m0a30 m0a31 m0a33 m0a34 m0a35 m0a36 m0a37 m0a38 m0a39 m0a40 m0a41 m0a42 m0a43 m0a44 m0a45 m0a46 m0a47 m0a49 m0a50 m0a51 m0a53 m0a54 m0a55 m0a56 m0a57 m0a58 m0a59 m0a60 m0a61 m0a62 m0a63 m0a67 m0a68 m0a69 m0a70 m0a71 m0a72 m0a73 m0a74 m0a75) ok_X12_buy okv_X12_buy q_1985 rfl hK hP hD hS hA hZ hl.1 [0] [] rfl rfl rfl rfl rfl 0 12 rfl rfl rfl (Nat.le_of_ble_eq_true rfl) ⟨Nat.le_of_ble_eq_true rfl, Nat.le_of_ble_eq_true rfl⟩ dL_law_1441 ⟨Nat.le_of_ble_eq_true rfl, Nat.le_of_ble_eq_true rfl⟩ (fun r_3 w1 H locs hw_4 hP hD hS => ?_)
  have hP := pSub hP (ws' := []) [] rfl
  have hD := hD.sub (ws' := []) [] rfl rfl
  refine lv_icmp_eq (tgt := 1955) hx hb dL_law_1444 (by decide) (fun _ => ?_) (fun c => absurd (hw_2.trans ((eq_buy g x0 (scr 1) (scr 2) xr xt xg xb xp xu xm xd xw xh xa xs xf xba0 xba1 xba2 xba3 xba4 xba5 xba6 xba7 xba8 xba9 xba10 xba11 m0 m0a1 m0a5 m0a6 m0a7 m0a8 m0a9 m0a11 m0a12 m0a13 m0a14 m0a15 m0a16 m0a18 m0a19 m0a20 m0a21 m0a22 m0a24 m0a25 m0a26 m0a28 m0a29 m0a30 m0a31 m0a33 m0a34 m0a35 m0a36 m0a37 m0a38 m0a39 m0a40 m0a41 m0a42 m0a43 m0a44 m0a45 m0a46 m0a47 m0a49 m0a50 m0a51 m0a53 m0a54 m0a55 m0a56 m0a57 m0a58 m0a59 m0a60 m0a61 m0a62 m0a63 m0a67 m0a68 m0a69 m0a70 m0a71 m0a72 m0a73 m0a74 m0a75).trans hw_4.symm)) c)
  exact kend _ _ _ hS (lv_sub hl [3, 0] rfl)
set_option maxHeartbeats 4000000 in
set_option maxRecDepth 100000 in
theorem law_33 (l : Launch) (g : GG) {p : Program} {e : Env} {s : State} {m : MethodId} {below : List Frame} {meth : Method} {c : Code} {b : Nat} {scr : Nat → Int32} (X : En p s m #[Value.ref b] meth c cL_law 4 ret R_law meth.name) (hK : va_K g.1 classes (tyG g) s) (hA : ∀ q, s.heap.size ≤ q → laA s q) (hZ : stS g (laA s) s s.heap) (hX : va_X b 6 scr s s.heap) (hbl : b < s.heap.size) (hbA : ¬ laA s b) (x0 : Nat) (xr : Nat) (xt : Nat) (xg : Nat) (xb : Nat) (xp : Nat) (xu : Nat) (xm : Nat) (xd : Nat) (xw : Nat) (xh : Nat) (xa : Nat) (xs : Nat) (xf : Nat) (xpa0 : Nat) (xpa1 : Nat) (xpa2 : Nat) (xpa3 : Nat) (m0 : Nat) (m0a1 : Nat) (m0a5 : Nat) (m0a6 : Nat) (m0a7 : Nat) (m0a8 : Nat) (m0a9 : Nat) (m0a11 : Nat) (m0a12 : Nat) (m0a13 : Nat) (m0a14 : Nat) (m0a15 : Nat) (m0a16 : Nat) (m0a18 : Nat) (m0a19 : Nat) (m0a20 : Nat) (m0a21 : Nat) (m0a22 : Nat) (m0a24 : Nat) (m0a25 : Nat) (m0a26 : Nat) (m0a28 : Nat) (m0a29 : Nat) (m0a30 : Nat) (m0a31 : Nat) (m0a33 : Nat) (m0a34 : Nat) (m0a35 : Nat) (m0a36 : Nat) (m0a37 : Nat) (m0a38 : Nat) (m0a39 : Nat) (m0a40 : Nat) (m0a41 : Nat) (m0a42 : Nat) (m0a43 : Nat) (m0a44 : Nat) (m0a45 : Nat) (m0a46 : Nat) (m0a47 : Nat) (m0a49 : Nat) (m0a50 : Nat) (m0a51 : Nat) (m0a53 : Nat) (m0a54 : Nat) (m0a55 : Nat) (m0a56 : Nat) (m0a57 : Nat) (m0a58 : Nat) (m0a59 : Nat) (m0a60 : Nat) (m0a61 : Nat) (m0a62 : Nat) (m0a63 : Nat) (m0a67 : Nat) (m0a68 : Nat) (m0a69 : Nat) (m0a70 : Nat) (m0a71 : Nat) (m0a72 : Nat) (m0a73 : Nat) (m0a74 : Nat) (m0a75 : Nat) {H : Heap} {locs : List Loc} {ls : Array Slot} (hP : va_P g.1 classes [(x0, .inr (11, [.ref xr, .ref xt, .ref xg, .ref xb, .ref xp, .ref xu, .ref xm, .ref xd, .ref xw, .ref xh, .ref xa, .ref xs, .ref xf, .int 0, .int 0, .long 0, .long 0, .int 0])), (xp, .inr (5, [.ref xpa0, .ref xpa1, .ref xpa2, .ref xpa3, .int 0])), (m0, .inr (12, [.int 0, .ref m0a1, .int 0, .long 0, .int 0, .ref m0a5, .ref m0a6, .ref m0a7, .ref m0a8, .ref m0a9, .int 0, .ref m0a11, .ref m0a12, .ref m0a13, .ref m0a14, .ref m0a15, .ref m0a16, .int 0, .ref m0a18, .ref m0a19, .ref m0a20, .ref m0a21, .ref m0a22, .int 0, .ref m0a24, .ref m0a25, .ref m0a26, .int 0, .ref m0a28, .ref m0a29, .ref m0a30, .ref m0a31, .int 0, .ref m0a33, .ref m0a34, .ref m0a35, .ref m0a36, .ref m0a37, .ref m0a38, .ref m0a39, .ref m0a40, .ref m0a41, .ref m0a42, .ref m0a43, .ref m0a44, .ref m0a45, .ref m0a46, .ref m0a47, .int 0, .ref m0a49, .ref m0a50, .ref m0a51, .int 0, .ref m0a53, .ref m0a54, .ref m0a55, .ref m0a56, .ref m0a57, .ref m0a58, .ref m0a59, .ref m0a60, .ref m0a61, .ref m0a62, .ref m0a63, .long 0, .int 0, .int (-9), .ref m0a67, .ref m0a68, .ref m0a69, .ref m0a70, .ref m0a71, .ref m0a72, .ref m0a73, .ref m0a74, .ref m0a75, .long 0]))] H) (hD : va_D (laA s) [(x0, .inr (11, [.ref xr, .ref xt, .ref xg, .ref xb, .ref xp, .ref xu, .ref xm, .ref xd, .ref xw, .ref xh, .ref xa, .ref xs, .ref xf, .int 0, .int 0, .long 0, .long 0, .int 0])), (xp, .inr (5, [.ref xpa0, .ref xpa1, .ref xpa2, .ref xpa3, .int 0])), (m0, .inr (12, [.int 0, .ref m0a1, .int 0, .long 0, .int 0, .ref m0a5, .ref m0a6, .ref m0a7, .ref m0a8, .ref m0a9, .int 0, .ref m0a11, .ref m0a12, .ref m0a13, .ref m0a14, .ref m0a15, .ref m0a16, .int 0, .ref m0a18, .ref m0a19, .ref m0a20, .ref m0a21, .ref m0a22, .int 0, .ref m0a24, .ref m0a25, .ref m0a26, .int 0, .ref m0a28, .ref m0a29, .ref m0a30, .ref m0a31, .int 0, .ref m0a33, .ref m0a34, .ref m0a35, .ref m0a36, .ref m0a37, .ref m0a38, .ref m0a39, .ref m0a40, .ref m0a41, .ref m0a42, .ref m0a43, .ref m0a44, .ref m0a45, .ref m0a46, .ref m0a47, .int 0, .ref m0a49, .ref m0a50, .ref m0a51, .int 0, .ref m0a53, .ref m0a54, .ref m0a55, .ref m0a56, .ref m0a57, .ref m0a58, .ref m0a59, .ref m0a60, .ref m0a61, .ref m0a62, .ref m0a63, .long 0, .int 0, .int (-9), .ref m0a67, .ref m0a68, .ref m0a69, .ref m0a70, .ref m0a71, .ref m0a72, .ref m0a73, .ref m0a74, .ref m0a75, .long 0]))]) (hS : va_S (laA s) s.heap H locs) (hl : lv_has ls 4 [(3, .int 0), (2, .ref m0), (1, .ref x0), (0, .ref b)]) {Q : State → Prop} (kend : ∀ (H : Heap) (locs : List Loc) (ls : Array Slot), va_S (laA s) s.heap H locs → lv_has ls 4 [(0, .ref b), (3, .int 0)] → W p l e room_1 s m #[Value.ref b] below meth c H locs 141 11384 Q (F0 m 1955 ls [])) : W p l e room_1 s m #[Value.ref b] below meth c H locs 141 11384 Q (F0 m 1449 ls []) := by
  have hx := X.1
  have hb := X.2.1
  have hml := X.2.2.1
  have hown := X.2.2.2.1
  have hts := X.2.2.2.2.1
  refine lv_aload_n hx hb dL_law_1449 rfl (lv_at hl 2 rfl) ?_
  refine lv_aload_n hx hb dL_law_1450 rfl (lv_at hl 3 rfl) ?_
  refine lv_iload_n hx hb dL_law_1451 rfl (lv_at hl 0 rfl) ?_
  refine lv_iconst (v := 1) hx hb dL_law_1452 (by decide) ?_
  refine lv_iadd hx hb dL_law_1453 ?_
  refine lv_topk (v := 1) (by decide) ?_
  refine va_sld hx hb hX hbl hbA hS (by unfold vp_in; decide) dL_law_1454 ?_
  refine lv_topk (v := scr 1) rfl ?_
  refine lv_aload_n hx hb dL_law_1455 rfl (lv_at hl 3 rfl) ?_
  refine lv_iload_n hx hb dL_law_1456 rfl (lv_at hl 0 rfl) ?_
  refine lv_iconst (v := 2) hx hb dL_law_1457 (by decide) ?_
  refine lv_iadd hx hb dL_law_1458 ?_
  refine lv_topk (v := 2) (by decide) ?_
  refine va_sld hx hb hX hbl hbA hS (by unfold vp_in; decide) dL_law_1459 ?_
  refine lv_topk (v := scr 2) rfl ?_
  refine kVi (As := [.int (scr 1), .int (scr 2)]) (rest := []) (wr := [(m0, .inr (12, [.int 0, .ref m0a1, .int 0, .long 0, .int 0, .ref m0a5, .ref m0a6, .ref m0a7, .ref m0a8, .ref m0a9, .int 0, .ref m0a11, .ref m0a12, .ref m0a13, .ref m0a14, .ref m0a15, .ref m0a16, .int 0, .ref m0a18, .ref m0a19, .ref m0a20, .ref m0a21, .ref m0a22, .int 0, .ref m0a24, .ref m0a25, .ref m0a26, .int 0, .ref m0a28, .ref m0a29, .ref m0a30, .ref m0a31, .int 0, .ref m0a33, .ref m0a34, .ref m0a35, .ref m0a36, .ref m0a37, .ref m0a38, .ref m0a39, .ref m0a40, .ref m0a41, .ref m0a42, .ref m0a43, .ref m0a44, .ref m0a45, .ref m0a46, .ref m0a47, .int 0, .ref m0a49, .ref m0a50, .ref m0a51, .int 0, .ref m0a53, .ref m0a54, .ref m0a55, .ref m0a56, .ref m0a57, .ref m0a58, .ref m0a59, .ref m0a60, .ref m0a61, .ref m0a62, .ref m0a63, .long 0, .int 0, .int (-9), .ref m0a67, .ref m0a68, .ref m0a69, .ref m0a70, .ref m0a71, .ref m0a72, .ref m0a73, .ref m0a74, .ref m0a75, .long 0]))]) X (c_X11_hear l g x0 (scr 1) (scr 2) xr xt xg xb xp xu xm xd xw xh xa xs xf xpa0 xpa1 xpa2 xpa3) ok_X11_hear okv_X11_hear q_1082 rfl hK hP hD hS hA hZ hl.1 [0, 1] [2] rfl rfl rfl rfl rfl 0 11 rfl rfl rfl (Nat.le_of_ble_eq_true rfl) ⟨Nat.le_of_ble_eq_true rfl, Nat.le_of_ble_eq_true rfl⟩ dL_law_1460 ⟨Nat.le_of_ble_eq_true rfl, Nat.le_of_ble_eq_true rfl⟩ (fun r_1 w1 H locs hw_2 hP hD hS => ?_)
  have hP := pSub hP (ws' := [(m0, .inr (12, [.int 0, .ref m0a1, .int 0, .long 0, .int 0, .ref m0a5, .ref m0a6, .ref m0a7, .ref m0a8, .ref m0a9, .int 0, .ref m0a11, .ref m0a12, .ref m0a13, .ref m0a14, .ref m0a15, .ref m0a16, .int 0, .ref m0a18, .ref m0a19, .ref m0a20, .ref m0a21, .ref m0a22, .int 0, .ref m0a24, .ref m0a25, .ref m0a26, .int 0, .ref m0a28, .ref m0a29, .ref m0a30, .ref m0a31, .int 0, .ref m0a33, .ref m0a34, .ref m0a35, .ref m0a36, .ref m0a37, .ref m0a38, .ref m0a39, .ref m0a40, .ref m0a41, .ref m0a42, .ref m0a43, .ref m0a44, .ref m0a45, .ref m0a46, .ref m0a47, .int 0, .ref m0a49, .ref m0a50, .ref m0a51, .int 0, .ref m0a53, .ref m0a54, .ref m0a55, .ref m0a56, .ref m0a57, .ref m0a58, .ref m0a59, .ref m0a60, .ref m0a61, .ref m0a62, .ref m0a63, .long 0, .int 0, .int (-9), .ref m0a67, .ref m0a68, .ref m0a69, .ref m0a70, .ref m0a71, .ref m0a72, .ref m0a73, .ref m0a74, .ref m0a75, .long 0]))]) [0] rfl
  have hD := hD.sub (ws' := [(m0, .inr (12, [.int 0, .ref m0a1, .int 0, .long 0, .int 0, .ref m0a5, .ref m0a6, .ref m0a7, .ref m0a8, .ref m0a9, .int 0, .ref m0a11, .ref m0a12, .ref m0a13, .ref m0a14, .ref m0a15, .ref m0a16, .int 0, .ref m0a18, .ref m0a19, .ref m0a20, .ref m0a21, .ref m0a22, .int 0, .ref m0a24, .ref m0a25, .ref m0a26, .int 0, .ref m0a28, .ref m0a29, .ref m0a30, .ref m0a31, .int 0, .ref m0a33, .ref m0a34, .ref m0a35, .ref m0a36, .ref m0a37, .ref m0a38, .ref m0a39, .ref m0a40, .ref m0a41, .ref m0a42, .ref m0a43, .ref m0a44, .ref m0a45, .ref m0a46, .ref m0a47, .int 0, .ref m0a49, .ref m0a50, .ref m0a51, .int 0, .ref m0a53, .ref m0a54, .ref m0a55, .ref m0a56, .ref m0a57, .ref m0a58, .ref m0a59, .ref m0a60, .ref m0a61, .ref m0a62, .ref m0a63, .long 0, .int 0, .int (-9), .ref m0a67, .ref m0a68, .ref m0a69, .ref m0a70, .ref m0a71, .ref m0a72, .ref m0a73, .ref m0a74, .ref m0a75, .long 0]))]) [0] rfl rfl
  refine lv_aload_n hx hb dL_law_1463 rfl (lv_at hl 1 rfl) ?_
  refine lv_aload_n hx hb dL_law_1464 rfl (lv_at hl 3 rfl) ?_
  refine lv_iload_n hx hb dL_law_1465 rfl (lv_at hl 0 rfl) ?_
  refine lv_iconst (v := 1) hx hb dL_law_1466 (by decide) ?_
  refine lv_iadd hx hb dL_law_1467 ?_
  refine lv_topk (v := 1) (by decide) ?_
  refine va_sld hx hb hX hbl hbA hS (by unfold vp_in; decide) dL_law_1468 ?_
  refine lv_topk (v := scr 1) rfl ?_
  refine lv_aload_n hx hb dL_law_1469 rfl (lv_at hl 3 rfl) ?_
  refine lv_iload_n hx hb dL_law_1470 rfl (lv_at hl 0 rfl) ?_
  refine lv_iconst (v := 2) hx hb dL_law_1471 (by decide) ?_
  refine lv_iadd hx hb dL_law_1472 ?_
  refine lv_topk (v := 2) (by decide) ?_
  refine va_sld hx hb hX hbl hbA hS (by unfold vp_in; decide) dL_law_1473 ?_
  refine lv_topk (v := scr 2) rfl ?_
  refine kVi (As := [.int (scr 1), .int (scr 2)]) (rest := [.int r_1]) (wr := []) X (c_X12_hear l g m0 (scr 1) (scr 2) m0a1 m0a5 m0a6 m0a7 m0a8 m0a9 m0a11 m0a12 m0a13 m0a14 m0a15 m0a16 m0a18 m0a19 m0a20 m0a21 m0a22 m0a24 m0a25 m0a26 m0a28 m0a29 m0a30 m0a31 m0a33 m0a34 m0a35 m0a36 m0a37 m0a38 m0a39 m0a40 m0a41 m0a42 m0a43 m0a44 m0a45 m0a46 m0a47 m0a49 m0a50 m0a51 m0a53 m0a54 m0a55 m0a56 m0a57 m0a58 m0a59 m0a60 m0a61 m0a62 m0a63 m0a67 m0a68 m0a69 m0a70 m0a71 m0a72 m0a73 m0a74 m0a75) ok_X12_hear okv_X12_hear q_1989 rfl hK hP hD hS hA hZ hl.1 [0] [] rfl rfl rfl rfl rfl 0 12 rfl rfl rfl (Nat.le_of_ble_eq_true rfl) ⟨Nat.le_of_ble_eq_true rfl, Nat.le_of_ble_eq_true rfl⟩ dL_law_1474 ⟨Nat.le_of_ble_eq_true rfl, Nat.le_of_ble_eq_true rfl⟩ (fun r_3 w1 H locs hw_4 hP hD hS => ?_)
  have hP := pSub hP (ws' := []) [] rfl
  have hD := hD.sub (ws' := []) [] rfl rfl
  refine lv_icmp_eq (tgt := 1955) hx hb dL_law_1477 (by decide) (fun _ => ?_) (fun c => absurd (hw_2.trans ((eq_hear g x0 (scr 1) (scr 2) xr xt xg xb xp xu xm xd xw xh xa xs xf xpa0 xpa1 xpa2 xpa3 m0 m0a1 m0a5 m0a6 m0a7 m0a8 m0a9 m0a11 m0a12 m0a13 m0a14 m0a15 m0a16 m0a18 m0a19 m0a20 m0a21 m0a22 m0a24 m0a25 m0a26 m0a28 m0a29 m0a30 m0a31 m0a33 m0a34 m0a35 m0a36 m0a37 m0a38 m0a39 m0a40 m0a41 m0a42 m0a43 m0a44 m0a45 m0a46 m0a47 m0a49 m0a50 m0a51 m0a53 m0a54 m0a55 m0a56 m0a57 m0a58 m0a59 m0a60 m0a61 m0a62 m0a63 m0a67 m0a68 m0a69 m0a70 m0a71 m0a72 m0a73 m0a74 m0a75).trans hw_4.symm)) c)
  exact kend _ _ _ hS (lv_sub hl [3, 0] rfl)
set_option maxHeartbeats 4000000 in
set_option maxRecDepth 100000 in
theorem law_34 (l : Launch) (g : GG) {p : Program} {e : Env} {s : State} {m : MethodId} {below : List Frame} {meth : Method} {c : Code} {b : Nat} {scr : Nat → Int32} (X : En p s m #[Value.ref b] meth c cL_law 4 ret R_law meth.name) (hK : va_K g.1 classes (tyG g) s) (hA : ∀ q, s.heap.size ≤ q → laA s q) (hZ : stS g (laA s) s s.heap) (hX : va_X b 6 scr s s.heap) (hbl : b < s.heap.size) (hbA : ¬ laA s b) (x0 : Nat) (xr : Nat) (xt : Nat) (xg : Nat) (xb : Nat) (xp : Nat) (xu : Nat) (xm : Nat) (xd : Nat) (xw : Nat) (xh : Nat) (xa : Nat) (xs : Nat) (xf : Nat) (xma0 : Nat) (xma1 : Nat) (xma2 : Nat) (xma3 : Nat) (xma4 : Nat) (xma5 : Nat) (xma6 : Nat) (xma7 : Nat) (xma8 : Nat) (xma9 : Nat) (xma10 : Nat) (xma11 : Nat) (xma12 : Nat) (m0 : Nat) (m0a1 : Nat) (m0a5 : Nat) (m0a6 : Nat) (m0a7 : Nat) (m0a8 : Nat) (m0a9 : Nat) (m0a11 : Nat) (m0a12 : Nat) (m0a13 : Nat) (m0a14 : Nat) (m0a15 : Nat) (m0a16 : Nat) (m0a18 : Nat) (m0a19 : Nat) (m0a20 : Nat) (m0a21 : Nat) (m0a22 : Nat) (m0a24 : Nat) (m0a25 : Nat) (m0a26 : Nat) (m0a28 : Nat) (m0a29 : Nat) (m0a30 : Nat) (m0a31 : Nat) (m0a33 : Nat) (m0a34 : Nat) (m0a35 : Nat) (m0a36 : Nat) (m0a37 : Nat) (m0a38 : Nat) (m0a39 : Nat) (m0a40 : Nat) (m0a41 : Nat) (m0a42 : Nat) (m0a43 : Nat) (m0a44 : Nat) (m0a45 : Nat) (m0a46 : Nat) (m0a47 : Nat) (m0a49 : Nat) (m0a50 : Nat) (m0a51 : Nat) (m0a53 : Nat) (m0a54 : Nat) (m0a55 : Nat) (m0a56 : Nat) (m0a57 : Nat) (m0a58 : Nat) (m0a59 : Nat) (m0a60 : Nat) (m0a61 : Nat) (m0a62 : Nat) (m0a63 : Nat) (m0a67 : Nat) (m0a68 : Nat) (m0a69 : Nat) (m0a70 : Nat) (m0a71 : Nat) (m0a72 : Nat) (m0a73 : Nat) (m0a74 : Nat) (m0a75 : Nat) {H : Heap} {locs : List Loc} {ls : Array Slot} (hP : va_P g.1 classes [(x0, .inr (11, [.ref xr, .ref xt, .ref xg, .ref xb, .ref xp, .ref xu, .ref xm, .ref xd, .ref xw, .ref xh, .ref xa, .ref xs, .ref xf, .int 0, .int 0, .long 0, .long 0, .int 0])), (xm, .inr (4, [.ref xma0, .ref xma1, .ref xma2, .ref xma3, .ref xma4, .ref xma5, .ref xma6, .ref xma7, .ref xma8, .ref xma9, .ref xma10, .ref xma11, .ref xma12, .int 0])), (m0, .inr (12, [.int 0, .ref m0a1, .int 0, .long 0, .int 0, .ref m0a5, .ref m0a6, .ref m0a7, .ref m0a8, .ref m0a9, .int 0, .ref m0a11, .ref m0a12, .ref m0a13, .ref m0a14, .ref m0a15, .ref m0a16, .int 0, .ref m0a18, .ref m0a19, .ref m0a20, .ref m0a21, .ref m0a22, .int 0, .ref m0a24, .ref m0a25, .ref m0a26, .int 0, .ref m0a28, .ref m0a29, .ref m0a30, .ref m0a31, .int 0, .ref m0a33, .ref m0a34, .ref m0a35, .ref m0a36, .ref m0a37, .ref m0a38, .ref m0a39, .ref m0a40, .ref m0a41, .ref m0a42, .ref m0a43, .ref m0a44, .ref m0a45, .ref m0a46, .ref m0a47, .int 0, .ref m0a49, .ref m0a50, .ref m0a51, .int 0, .ref m0a53, .ref m0a54, .ref m0a55, .ref m0a56, .ref m0a57, .ref m0a58, .ref m0a59, .ref m0a60, .ref m0a61, .ref m0a62, .ref m0a63, .long 0, .int 0, .int (-9), .ref m0a67, .ref m0a68, .ref m0a69, .ref m0a70, .ref m0a71, .ref m0a72, .ref m0a73, .ref m0a74, .ref m0a75, .long 0]))] H) (hD : va_D (laA s) [(x0, .inr (11, [.ref xr, .ref xt, .ref xg, .ref xb, .ref xp, .ref xu, .ref xm, .ref xd, .ref xw, .ref xh, .ref xa, .ref xs, .ref xf, .int 0, .int 0, .long 0, .long 0, .int 0])), (xm, .inr (4, [.ref xma0, .ref xma1, .ref xma2, .ref xma3, .ref xma4, .ref xma5, .ref xma6, .ref xma7, .ref xma8, .ref xma9, .ref xma10, .ref xma11, .ref xma12, .int 0])), (m0, .inr (12, [.int 0, .ref m0a1, .int 0, .long 0, .int 0, .ref m0a5, .ref m0a6, .ref m0a7, .ref m0a8, .ref m0a9, .int 0, .ref m0a11, .ref m0a12, .ref m0a13, .ref m0a14, .ref m0a15, .ref m0a16, .int 0, .ref m0a18, .ref m0a19, .ref m0a20, .ref m0a21, .ref m0a22, .int 0, .ref m0a24, .ref m0a25, .ref m0a26, .int 0, .ref m0a28, .ref m0a29, .ref m0a30, .ref m0a31, .int 0, .ref m0a33, .ref m0a34, .ref m0a35, .ref m0a36, .ref m0a37, .ref m0a38, .ref m0a39, .ref m0a40, .ref m0a41, .ref m0a42, .ref m0a43, .ref m0a44, .ref m0a45, .ref m0a46, .ref m0a47, .int 0, .ref m0a49, .ref m0a50, .ref m0a51, .int 0, .ref m0a53, .ref m0a54, .ref m0a55, .ref m0a56, .ref m0a57, .ref m0a58, .ref m0a59, .ref m0a60, .ref m0a61, .ref m0a62, .ref m0a63, .long 0, .int 0, .int (-9), .ref m0a67, .ref m0a68, .ref m0a69, .ref m0a70, .ref m0a71, .ref m0a72, .ref m0a73, .ref m0a74, .ref m0a75, .long 0]))]) (hS : va_S (laA s) s.heap H locs) (hl : lv_has ls 4 [(3, .int 0), (2, .ref m0), (1, .ref x0), (0, .ref b)]) {Q : State → Prop} (kend : ∀ (H : Heap) (locs : List Loc) (ls : Array Slot), va_S (laA s) s.heap H locs → lv_has ls 4 [(0, .ref b), (3, .int 0)] → W p l e room_1 s m #[Value.ref b] below meth c H locs 141 11384 Q (F0 m 1955 ls [])) : W p l e room_1 s m #[Value.ref b] below meth c H locs 141 11384 Q (F0 m 1482 ls []) := by
  have hx := X.1
  have hb := X.2.1
  have hml := X.2.2.1
  have hown := X.2.2.2.1
  have hts := X.2.2.2.2.1
  refine lv_aload_n hx hb dL_law_1482 rfl (lv_at hl 2 rfl) ?_
  refine lv_aload_n hx hb dL_law_1483 rfl (lv_at hl 3 rfl) ?_
  refine lv_iload_n hx hb dL_law_1484 rfl (lv_at hl 0 rfl) ?_
  refine lv_iconst (v := 1) hx hb dL_law_1485 (by decide) ?_
  refine lv_iadd hx hb dL_law_1486 ?_
  refine lv_topk (v := 1) (by decide) ?_
  refine va_sld hx hb hX hbl hbA hS (by unfold vp_in; decide) dL_law_1487 ?_
  refine lv_topk (v := scr 1) rfl ?_
  refine kVi (As := [.int (scr 1)]) (rest := []) (wr := [(m0, .inr (12, [.int 0, .ref m0a1, .int 0, .long 0, .int 0, .ref m0a5, .ref m0a6, .ref m0a7, .ref m0a8, .ref m0a9, .int 0, .ref m0a11, .ref m0a12, .ref m0a13, .ref m0a14, .ref m0a15, .ref m0a16, .int 0, .ref m0a18, .ref m0a19, .ref m0a20, .ref m0a21, .ref m0a22, .int 0, .ref m0a24, .ref m0a25, .ref m0a26, .int 0, .ref m0a28, .ref m0a29, .ref m0a30, .ref m0a31, .int 0, .ref m0a33, .ref m0a34, .ref m0a35, .ref m0a36, .ref m0a37, .ref m0a38, .ref m0a39, .ref m0a40, .ref m0a41, .ref m0a42, .ref m0a43, .ref m0a44, .ref m0a45, .ref m0a46, .ref m0a47, .int 0, .ref m0a49, .ref m0a50, .ref m0a51, .int 0, .ref m0a53, .ref m0a54, .ref m0a55, .ref m0a56, .ref m0a57, .ref m0a58, .ref m0a59, .ref m0a60, .ref m0a61, .ref m0a62, .ref m0a63, .long 0, .int 0, .int (-9), .ref m0a67, .ref m0a68, .ref m0a69, .ref m0a70, .ref m0a71, .ref m0a72, .ref m0a73, .ref m0a74, .ref m0a75, .long 0]))]) X (c_X11_early l g x0 (scr 1) xr xt xg xb xp xu xm xd xw xh xa xs xf xma0 xma1 xma2 xma3 xma4 xma5 xma6 xma7 xma8 xma9 xma10 xma11 xma12) ok_X11_early okv_X11_early q_1098 rfl hK hP hD hS hA hZ hl.1 [0, 1] [2] rfl rfl rfl rfl rfl 0 11 rfl rfl rfl (Nat.le_of_ble_eq_true rfl) ⟨Nat.le_of_ble_eq_true rfl, Nat.le_of_ble_eq_true rfl⟩ dL_law_1488 ⟨Nat.le_of_ble_eq_true rfl, Nat.le_of_ble_eq_true rfl⟩ (fun r_1 w1 H locs hw_2 hP hD hS => ?_)
  have hP := pSub hP (ws' := [(m0, .inr (12, [.int 0, .ref m0a1, .int 0, .long 0, .int 0, .ref m0a5, .ref m0a6, .ref m0a7, .ref m0a8, .ref m0a9, .int 0, .ref m0a11, .ref m0a12, .ref m0a13, .ref m0a14, .ref m0a15, .ref m0a16, .int 0, .ref m0a18, .ref m0a19, .ref m0a20, .ref m0a21, .ref m0a22, .int 0, .ref m0a24, .ref m0a25, .ref m0a26, .int 0, .ref m0a28, .ref m0a29, .ref m0a30, .ref m0a31, .int 0, .ref m0a33, .ref m0a34, .ref m0a35, .ref m0a36, .ref m0a37, .ref m0a38, .ref m0a39, .ref m0a40, .ref m0a41, .ref m0a42, .ref m0a43, .ref m0a44, .ref m0a45, .ref m0a46, .ref m0a47, .int 0, .ref m0a49, .ref m0a50, .ref m0a51, .int 0, .ref m0a53, .ref m0a54, .ref m0a55, .ref m0a56, .ref m0a57, .ref m0a58, .ref m0a59, .ref m0a60, .ref m0a61, .ref m0a62, .ref m0a63, .long 0, .int 0, .int (-9), .ref m0a67, .ref m0a68, .ref m0a69, .ref m0a70, .ref m0a71, .ref m0a72, .ref m0a73, .ref m0a74, .ref m0a75, .long 0]))]) [0] rfl
  have hD := hD.sub (ws' := [(m0, .inr (12, [.int 0, .ref m0a1, .int 0, .long 0, .int 0, .ref m0a5, .ref m0a6, .ref m0a7, .ref m0a8, .ref m0a9, .int 0, .ref m0a11, .ref m0a12, .ref m0a13, .ref m0a14, .ref m0a15, .ref m0a16, .int 0, .ref m0a18, .ref m0a19, .ref m0a20, .ref m0a21, .ref m0a22, .int 0, .ref m0a24, .ref m0a25, .ref m0a26, .int 0, .ref m0a28, .ref m0a29, .ref m0a30, .ref m0a31, .int 0, .ref m0a33, .ref m0a34, .ref m0a35, .ref m0a36, .ref m0a37, .ref m0a38, .ref m0a39, .ref m0a40, .ref m0a41, .ref m0a42, .ref m0a43, .ref m0a44, .ref m0a45, .ref m0a46, .ref m0a47, .int 0, .ref m0a49, .ref m0a50, .ref m0a51, .int 0, .ref m0a53, .ref m0a54, .ref m0a55, .ref m0a56, .ref m0a57, .ref m0a58, .ref m0a59, .ref m0a60, .ref m0a61, .ref m0a62, .ref m0a63, .long 0, .int 0, .int (-9), .ref m0a67, .ref m0a68, .ref m0a69, .ref m0a70, .ref m0a71, .ref m0a72, .ref m0a73, .ref m0a74, .ref m0a75, .long 0]))]) [0] rfl rfl
  refine lv_aload_n hx hb dL_law_1491 rfl (lv_at hl 1 rfl) ?_
  refine lv_aload_n hx hb dL_law_1492 rfl (lv_at hl 3 rfl) ?_
  refine lv_iload_n hx hb dL_law_1493 rfl (lv_at hl 0 rfl) ?_
  refine lv_iconst (v := 1) hx hb dL_law_1494 (by decide) ?_
  refine lv_iadd hx hb dL_law_1495 ?_
  refine lv_topk (v := 1) (by decide) ?_
  refine va_sld hx hb hX hbl hbA hS (by unfold vp_in; decide) dL_law_1496 ?_
  refine lv_topk (v := scr 1) rfl ?_
  refine kVi (As := [.int (scr 1)]) (rest := [.int r_1]) (wr := []) X (c_X12_early l g m0 (scr 1) m0a1 m0a5 m0a6 m0a7 m0a8 m0a9 m0a11 m0a12 m0a13 m0a14 m0a15 m0a16 m0a18 m0a19 m0a20 m0a21 m0a22 m0a24 m0a25 m0a26 m0a28 m0a29 m0a30 m0a31 m0a33 m0a34 m0a35 m0a36 m0a37 m0a38 m0a39 m0a40 m0a41 m0a42 m0a43 m0a44 m0a45 m0a46 m0a47 m0a49 m0a50 m0a51 m0a53 m0a54 m0a55 m0a56 m0a57 m0a58 m0a59 m0a60 m0a61 m0a62 m0a63 m0a67 m0a68 m0a69 m0a70 m0a71 m0a72 m0a73 m0a74 m0a75) ok_X12_early okv_X12_early q_1997 rfl hK hP hD hS hA hZ hl.1 [0] [] rfl rfl rfl rfl rfl 0 12 rfl rfl rfl (Nat.le_of_ble_eq_true rfl) ⟨Nat.le_of_ble_eq_true rfl, Nat.le_of_ble_eq_true rfl⟩ dL_law_1497 ⟨Nat.le_of_ble_eq_true rfl, Nat.le_of_ble_eq_true rfl⟩ (fun r_3 w1 H locs hw_4 hP hD hS => ?_)
  have hP := pSub hP (ws' := []) [] rfl
  have hD := hD.sub (ws' := []) [] rfl rfl
  refine lv_icmp_eq (tgt := 1955) hx hb dL_law_1500 (by decide) (fun _ => ?_) (fun c => absurd (hw_2.trans ((eq_early g x0 (scr 1) xr xt xg xb xp xu xm xd xw xh xa xs xf xma0 xma1 xma2 xma3 xma4 xma5 xma6 xma7 xma8 xma9 xma10 xma11 xma12 m0 m0a1 m0a5 m0a6 m0a7 m0a8 m0a9 m0a11 m0a12 m0a13 m0a14 m0a15 m0a16 m0a18 m0a19 m0a20 m0a21 m0a22 m0a24 m0a25 m0a26 m0a28 m0a29 m0a30 m0a31 m0a33 m0a34 m0a35 m0a36 m0a37 m0a38 m0a39 m0a40 m0a41 m0a42 m0a43 m0a44 m0a45 m0a46 m0a47 m0a49 m0a50 m0a51 m0a53 m0a54 m0a55 m0a56 m0a57 m0a58 m0a59 m0a60 m0a61 m0a62 m0a63 m0a67 m0a68 m0a69 m0a70 m0a71 m0a72 m0a73 m0a74 m0a75).trans hw_4.symm)) c)
  exact kend _ _ _ hS (lv_sub hl [3, 0] rfl)
set_option maxHeartbeats 4000000 in
set_option maxRecDepth 100000 in
theorem law_35 (l : Launch) (g : GG) {p : Program} {e : Env} {s : State} {m : MethodId} {below : List Frame} {meth : Method} {c : Code} {b : Nat} {scr : Nat → Int32} (X : En p s m #[Value.ref b] meth c cL_law 4 ret R_law meth.name) (hK : va_K g.1 classes (tyG g) s) (hA : ∀ q, s.heap.size ≤ q → laA s q) (hZ : stS g (laA s) s s.heap) (hX : va_X b 6 scr s s.heap) (hbl : b < s.heap.size) (hbA : ¬ laA s b) (x0 : Nat) (xr : Nat) (xt : Nat) (xg : Nat) (xb : Nat) (xp : Nat) (xu : Nat) (xm : Nat) (xd : Nat) (xw : Nat) (xh : Nat) (xa : Nat) (xs : Nat) (xf : Nat) (xma0 : Nat) (xma1 : Nat) (xma2 : Nat) (xma3 : Nat) (xma4 : Nat) (xma5 : Nat) (xma6 : Nat) (xma7 : Nat) (xma8 : Nat) (xma9 : Nat) (xma10 : Nat) (xma11 : Nat) (xma12 : Nat) (m0 : Nat) (m0a1 : Nat) (m0a5 : Nat) (m0a6 : Nat) (m0a7 : Nat) (m0a8 : Nat) (m0a9 : Nat) (m0a11 : Nat) (m0a12 : Nat) (m0a13 : Nat) (m0a14 : Nat) (m0a15 : Nat) (m0a16 : Nat) (m0a18 : Nat) (m0a19 : Nat) (m0a20 : Nat) (m0a21 : Nat) (m0a22 : Nat) (m0a24 : Nat) (m0a25 : Nat) (m0a26 : Nat) (m0a28 : Nat) (m0a29 : Nat) (m0a30 : Nat) (m0a31 : Nat) (m0a33 : Nat) (m0a34 : Nat) (m0a35 : Nat) (m0a36 : Nat) (m0a37 : Nat) (m0a38 : Nat) (m0a39 : Nat) (m0a40 : Nat) (m0a41 : Nat) (m0a42 : Nat) (m0a43 : Nat) (m0a44 : Nat) (m0a45 : Nat) (m0a46 : Nat) (m0a47 : Nat) (m0a49 : Nat) (m0a50 : Nat) (m0a51 : Nat) (m0a53 : Nat) (m0a54 : Nat) (m0a55 : Nat) (m0a56 : Nat) (m0a57 : Nat) (m0a58 : Nat) (m0a59 : Nat) (m0a60 : Nat) (m0a61 : Nat) (m0a62 : Nat) (m0a63 : Nat) (m0a67 : Nat) (m0a68 : Nat) (m0a69 : Nat) (m0a70 : Nat) (m0a71 : Nat) (m0a72 : Nat) (m0a73 : Nat) (m0a74 : Nat) (m0a75 : Nat) {H : Heap} {locs : List Loc} {ls : Array Slot} (hP : va_P g.1 classes [(x0, .inr (11, [.ref xr, .ref xt, .ref xg, .ref xb, .ref xp, .ref xu, .ref xm, .ref xd, .ref xw, .ref xh, .ref xa, .ref xs, .ref xf, .int 0, .int 0, .long 0, .long 0, .int 0])), (xm, .inr (4, [.ref xma0, .ref xma1, .ref xma2, .ref xma3, .ref xma4, .ref xma5, .ref xma6, .ref xma7, .ref xma8, .ref xma9, .ref xma10, .ref xma11, .ref xma12, .int 0])), (m0, .inr (12, [.int 0, .ref m0a1, .int 0, .long 0, .int 0, .ref m0a5, .ref m0a6, .ref m0a7, .ref m0a8, .ref m0a9, .int 0, .ref m0a11, .ref m0a12, .ref m0a13, .ref m0a14, .ref m0a15, .ref m0a16, .int 0, .ref m0a18, .ref m0a19, .ref m0a20, .ref m0a21, .ref m0a22, .int 0, .ref m0a24, .ref m0a25, .ref m0a26, .int 0, .ref m0a28, .ref m0a29, .ref m0a30, .ref m0a31, .int 0, .ref m0a33, .ref m0a34, .ref m0a35, .ref m0a36, .ref m0a37, .ref m0a38, .ref m0a39, .ref m0a40, .ref m0a41, .ref m0a42, .ref m0a43, .ref m0a44, .ref m0a45, .ref m0a46, .ref m0a47, .int 0, .ref m0a49, .ref m0a50, .ref m0a51, .int 0, .ref m0a53, .ref m0a54, .ref m0a55, .ref m0a56, .ref m0a57, .ref m0a58, .ref m0a59, .ref m0a60, .ref m0a61, .ref m0a62, .ref m0a63, .long 0, .int 0, .int (-9), .ref m0a67, .ref m0a68, .ref m0a69, .ref m0a70, .ref m0a71, .ref m0a72, .ref m0a73, .ref m0a74, .ref m0a75, .long 0]))] H) (hD : va_D (laA s) [(x0, .inr (11, [.ref xr, .ref xt, .ref xg, .ref xb, .ref xp, .ref xu, .ref xm, .ref xd, .ref xw, .ref xh, .ref xa, .ref xs, .ref xf, .int 0, .int 0, .long 0, .long 0, .int 0])), (xm, .inr (4, [.ref xma0, .ref xma1, .ref xma2, .ref xma3, .ref xma4, .ref xma5, .ref xma6, .ref xma7, .ref xma8, .ref xma9, .ref xma10, .ref xma11, .ref xma12, .int 0])), (m0, .inr (12, [.int 0, .ref m0a1, .int 0, .long 0, .int 0, .ref m0a5, .ref m0a6, .ref m0a7, .ref m0a8, .ref m0a9, .int 0, .ref m0a11, .ref m0a12, .ref m0a13, .ref m0a14, .ref m0a15, .ref m0a16, .int 0, .ref m0a18, .ref m0a19, .ref m0a20, .ref m0a21, .ref m0a22, .int 0, .ref m0a24, .ref m0a25, .ref m0a26, .int 0, .ref m0a28, .ref m0a29, .ref m0a30, .ref m0a31, .int 0, .ref m0a33, .ref m0a34, .ref m0a35, .ref m0a36, .ref m0a37, .ref m0a38, .ref m0a39, .ref m0a40, .ref m0a41, .ref m0a42, .ref m0a43, .ref m0a44, .ref m0a45, .ref m0a46, .ref m0a47, .int 0, .ref m0a49, .ref m0a50, .ref m0a51, .int 0, .ref m0a53, .ref m0a54, .ref m0a55, .ref m0a56, .ref m0a57, .ref m0a58, .ref m0a59, .ref m0a60, .ref m0a61, .ref m0a62, .ref m0a63, .long 0, .int 0, .int (-9), .ref m0a67, .ref m0a68, .ref m0a69, .ref m0a70, .ref m0a71, .ref m0a72, .ref m0a73, .ref m0a74, .ref m0a75, .long 0]))]) (hS : va_S (laA s) s.heap H locs) (hl : lv_has ls 4 [(3, .int 0), (2, .ref m0), (1, .ref x0), (0, .ref b)]) {Q : State → Prop} (kend : ∀ (H : Heap) (locs : List Loc) (ls : Array Slot), va_S (laA s) s.heap H locs → lv_has ls 4 [(0, .ref b), (3, .int 0)] → W p l e room_1 s m #[Value.ref b] below meth c H locs 141 11384 Q (F0 m 1955 ls [])) : W p l e room_1 s m #[Value.ref b] below meth c H locs 141 11384 Q (F0 m 1505 ls []) := by
  have hx := X.1
  have hb := X.2.1
  have hml := X.2.2.1
  have hown := X.2.2.2.1
  have hts := X.2.2.2.2.1
  refine lv_aload_n hx hb dL_law_1505 rfl (lv_at hl 2 rfl) ?_
  refine lv_aload_n hx hb dL_law_1506 rfl (lv_at hl 3 rfl) ?_
  refine lv_iload_n hx hb dL_law_1507 rfl (lv_at hl 0 rfl) ?_
  refine lv_iconst (v := 1) hx hb dL_law_1508 (by decide) ?_
  refine lv_iadd hx hb dL_law_1509 ?_
  refine lv_topk (v := 1) (by decide) ?_
  refine va_sld hx hb hX hbl hbA hS (by unfold vp_in; decide) dL_law_1510 ?_
  refine lv_topk (v := scr 1) rfl ?_
  refine kVi (As := [.int (scr 1)]) (rest := []) (wr := [(m0, .inr (12, [.int 0, .ref m0a1, .int 0, .long 0, .int 0, .ref m0a5, .ref m0a6, .ref m0a7, .ref m0a8, .ref m0a9, .int 0, .ref m0a11, .ref m0a12, .ref m0a13, .ref m0a14, .ref m0a15, .ref m0a16, .int 0, .ref m0a18, .ref m0a19, .ref m0a20, .ref m0a21, .ref m0a22, .int 0, .ref m0a24, .ref m0a25, .ref m0a26, .int 0, .ref m0a28, .ref m0a29, .ref m0a30, .ref m0a31, .int 0, .ref m0a33, .ref m0a34, .ref m0a35, .ref m0a36, .ref m0a37, .ref m0a38, .ref m0a39, .ref m0a40, .ref m0a41, .ref m0a42, .ref m0a43, .ref m0a44, .ref m0a45, .ref m0a46, .ref m0a47, .int 0, .ref m0a49, .ref m0a50, .ref m0a51, .int 0, .ref m0a53, .ref m0a54, .ref m0a55, .ref m0a56, .ref m0a57, .ref m0a58, .ref m0a59, .ref m0a60, .ref m0a61, .ref m0a62, .ref m0a63, .long 0, .int 0, .int (-9), .ref m0a67, .ref m0a68, .ref m0a69, .ref m0a70, .ref m0a71, .ref m0a72, .ref m0a73, .ref m0a74, .ref m0a75, .long 0]))]) X (c_X11_whither l g x0 (scr 1) xr xt xg xb xp xu xm xd xw xh xa xs xf xma0 xma1 xma2 xma3 xma4 xma5 xma6 xma7 xma8 xma9 xma10 xma11 xma12) ok_X11_whither okv_X11_whither q_1127 rfl hK hP hD hS hA hZ hl.1 [0, 1] [2] rfl rfl rfl rfl rfl 0 11 rfl rfl rfl (Nat.le_of_ble_eq_true rfl) ⟨Nat.le_of_ble_eq_true rfl, Nat.le_of_ble_eq_true rfl⟩ dL_law_1511 ⟨Nat.le_of_ble_eq_true rfl, Nat.le_of_ble_eq_true rfl⟩ (fun r_1 w1 H locs hw_2 hP hD hS => ?_)
  have hP := pSub hP (ws' := [(m0, .inr (12, [.int 0, .ref m0a1, .int 0, .long 0, .int 0, .ref m0a5, .ref m0a6, .ref m0a7, .ref m0a8, .ref m0a9, .int 0, .ref m0a11, .ref m0a12, .ref m0a13, .ref m0a14, .ref m0a15, .ref m0a16, .int 0, .ref m0a18, .ref m0a19, .ref m0a20, .ref m0a21, .ref m0a22, .int 0, .ref m0a24, .ref m0a25, .ref m0a26, .int 0, .ref m0a28, .ref m0a29, .ref m0a30, .ref m0a31, .int 0, .ref m0a33, .ref m0a34, .ref m0a35, .ref m0a36, .ref m0a37, .ref m0a38, .ref m0a39, .ref m0a40, .ref m0a41, .ref m0a42, .ref m0a43, .ref m0a44, .ref m0a45, .ref m0a46, .ref m0a47, .int 0, .ref m0a49, .ref m0a50, .ref m0a51, .int 0, .ref m0a53, .ref m0a54, .ref m0a55, .ref m0a56, .ref m0a57, .ref m0a58, .ref m0a59, .ref m0a60, .ref m0a61, .ref m0a62, .ref m0a63, .long 0, .int 0, .int (-9), .ref m0a67, .ref m0a68, .ref m0a69, .ref m0a70, .ref m0a71, .ref m0a72, .ref m0a73, .ref m0a74, .ref m0a75, .long 0]))]) [0] rfl
  have hD := hD.sub (ws' := [(m0, .inr (12, [.int 0, .ref m0a1, .int 0, .long 0, .int 0, .ref m0a5, .ref m0a6, .ref m0a7, .ref m0a8, .ref m0a9, .int 0, .ref m0a11, .ref m0a12, .ref m0a13, .ref m0a14, .ref m0a15, .ref m0a16, .int 0, .ref m0a18, .ref m0a19, .ref m0a20, .ref m0a21, .ref m0a22, .int 0, .ref m0a24, .ref m0a25, .ref m0a26, .int 0, .ref m0a28, .ref m0a29, .ref m0a30, .ref m0a31, .int 0, .ref m0a33, .ref m0a34, .ref m0a35, .ref m0a36, .ref m0a37, .ref m0a38, .ref m0a39, .ref m0a40, .ref m0a41, .ref m0a42, .ref m0a43, .ref m0a44, .ref m0a45, .ref m0a46, .ref m0a47, .int 0, .ref m0a49, .ref m0a50, .ref m0a51, .int 0, .ref m0a53, .ref m0a54, .ref m0a55, .ref m0a56, .ref m0a57, .ref m0a58, .ref m0a59, .ref m0a60, .ref m0a61, .ref m0a62, .ref m0a63, .long 0, .int 0, .int (-9), .ref m0a67, .ref m0a68, .ref m0a69, .ref m0a70, .ref m0a71, .ref m0a72, .ref m0a73, .ref m0a74, .ref m0a75, .long 0]))]) [0] rfl rfl
  refine lv_aload_n hx hb dL_law_1514 rfl (lv_at hl 1 rfl) ?_
  refine lv_aload_n hx hb dL_law_1515 rfl (lv_at hl 3 rfl) ?_
  refine lv_iload_n hx hb dL_law_1516 rfl (lv_at hl 0 rfl) ?_
  refine lv_iconst (v := 1) hx hb dL_law_1517 (by decide) ?_
  refine lv_iadd hx hb dL_law_1518 ?_
  refine lv_topk (v := 1) (by decide) ?_
  refine va_sld hx hb hX hbl hbA hS (by unfold vp_in; decide) dL_law_1519 ?_
  refine lv_topk (v := scr 1) rfl ?_
  refine kVi (As := [.int (scr 1)]) (rest := [.int r_1]) (wr := []) X (c_X12_whither l g m0 (scr 1) m0a1 m0a5 m0a6 m0a7 m0a8 m0a9 m0a11 m0a12 m0a13 m0a14 m0a15 m0a16 m0a18 m0a19 m0a20 m0a21 m0a22 m0a24 m0a25 m0a26 m0a28 m0a29 m0a30 m0a31 m0a33 m0a34 m0a35 m0a36 m0a37 m0a38 m0a39 m0a40 m0a41 m0a42 m0a43 m0a44 m0a45 m0a46 m0a47 m0a49 m0a50 m0a51 m0a53 m0a54 m0a55 m0a56 m0a57 m0a58 m0a59 m0a60 m0a61 m0a62 m0a63 m0a67 m0a68 m0a69 m0a70 m0a71 m0a72 m0a73 m0a74 m0a75) ok_X12_whither okv_X12_whither q_2005 rfl hK hP hD hS hA hZ hl.1 [0] [] rfl rfl rfl rfl rfl 0 12 rfl rfl rfl (Nat.le_of_ble_eq_true rfl) ⟨Nat.le_of_ble_eq_true rfl, Nat.le_of_ble_eq_true rfl⟩ dL_law_1520 ⟨Nat.le_of_ble_eq_true rfl, Nat.le_of_ble_eq_true rfl⟩ (fun r_3 w1 H locs hw_4 hP hD hS => ?_)
  have hP := pSub hP (ws' := []) [] rfl
  have hD := hD.sub (ws' := []) [] rfl rfl
  refine lv_icmp_eq (tgt := 1955) hx hb dL_law_1523 (by decide) (fun _ => ?_) (fun c => absurd (hw_2.trans ((eq_whither g x0 (scr 1) xr xt xg xb xp xu xm xd xw xh xa xs xf xma0 xma1 xma2 xma3 xma4 xma5 xma6 xma7 xma8 xma9 xma10 xma11 xma12 m0 m0a1 m0a5 m0a6 m0a7 m0a8 m0a9 m0a11 m0a12 m0a13 m0a14 m0a15 m0a16 m0a18 m0a19 m0a20 m0a21 m0a22 m0a24 m0a25 m0a26 m0a28 m0a29 m0a30 m0a31 m0a33 m0a34 m0a35 m0a36 m0a37 m0a38 m0a39 m0a40 m0a41 m0a42 m0a43 m0a44 m0a45 m0a46 m0a47 m0a49 m0a50 m0a51 m0a53 m0a54 m0a55 m0a56 m0a57 m0a58 m0a59 m0a60 m0a61 m0a62 m0a63 m0a67 m0a68 m0a69 m0a70 m0a71 m0a72 m0a73 m0a74 m0a75).trans hw_4.symm)) c)
  exact kend _ _ _ hS (lv_sub hl [3, 0] rfl)
