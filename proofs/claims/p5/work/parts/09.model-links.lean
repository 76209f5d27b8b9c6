set_option maxRecDepth 100000 in
theorem lk_M_0 : Cond.fieldLink R_M 7 R_M (F_M 0).2.1 (F_M 0).2.2.1 ∈ wd_tbl := wd_of 2107 (by decide +kernel) rfl
set_option maxRecDepth 100000 in
theorem lk_M_1 : Cond.fieldLink R_M 13 R_M (F_M 1).2.1 (F_M 1).2.2.1 ∈ wd_tbl := wd_of 2108 (by decide +kernel) rfl
set_option maxRecDepth 100000 in
theorem lk_M_2 : Cond.fieldLink R_M 16 R_M (F_M 2).2.1 (F_M 2).2.2.1 ∈ wd_tbl := wd_of 2109 (by decide +kernel) rfl
set_option maxRecDepth 100000 in
theorem lk_M_3 : Cond.fieldLink R_M 369 R_M (F_M 3).2.1 (F_M 3).2.2.1 ∈ wd_tbl := wd_of 2110 (by decide +kernel) rfl
set_option maxRecDepth 100000 in
theorem lk_M_4 : Cond.fieldLink R_M 19 R_M (F_M 4).2.1 (F_M 4).2.2.1 ∈ wd_tbl := wd_of 2111 (by decide +kernel) rfl
set_option maxRecDepth 100000 in
theorem lk_M_5 : Cond.fieldLink R_M 372 R_M (F_M 5).2.1 (F_M 5).2.2.1 ∈ wd_tbl := wd_of 2112 (by decide +kernel) rfl
set_option maxRecDepth 100000 in
theorem lk_M_6 : Cond.fieldLink R_M 22 R_M (F_M 6).2.1 (F_M 6).2.2.1 ∈ wd_tbl := wd_of 2113 (by decide +kernel) rfl
set_option maxRecDepth 100000 in
theorem lk_M_7 : Cond.fieldLink R_M 25 R_M (F_M 7).2.1 (F_M 7).2.2.1 ∈ wd_tbl := wd_of 2114 (by decide +kernel) rfl
set_option maxRecDepth 100000 in
theorem lk_M_8 : Cond.fieldLink R_M 29 R_M (F_M 8).2.1 (F_M 8).2.2.1 ∈ wd_tbl := wd_of 2115 (by decide +kernel) rfl
set_option maxRecDepth 100000 in
theorem lk_M_9 : Cond.fieldLink R_M 402 R_M (F_M 9).2.1 (F_M 9).2.2.1 ∈ wd_tbl := wd_of 2116 (by decide +kernel) rfl
set_option maxRecDepth 100000 in
theorem lk_M_10 : Cond.fieldLink R_M 408 R_M (F_M 10).2.1 (F_M 10).2.2.1 ∈ wd_tbl := wd_of 2117 (by decide +kernel) rfl
set_option maxRecDepth 100000 in
theorem lk_M_11 : Cond.fieldLink R_M 405 R_M (F_M 11).2.1 (F_M 11).2.2.1 ∈ wd_tbl := wd_of 2118 (by decide +kernel) rfl
set_option maxRecDepth 100000 in
theorem lk_M_12 : Cond.fieldLink R_M 32 R_M (F_M 12).2.1 (F_M 12).2.2.1 ∈ wd_tbl := wd_of 2119 (by decide +kernel) rfl
set_option maxRecDepth 100000 in
theorem lk_M_13 : Cond.fieldLink R_M 35 R_M (F_M 13).2.1 (F_M 13).2.2.1 ∈ wd_tbl := wd_of 2120 (by decide +kernel) rfl
set_option maxRecDepth 100000 in
theorem lk_M_14 : Cond.fieldLink R_M 385 R_M (F_M 14).2.1 (F_M 14).2.2.1 ∈ wd_tbl := wd_of 2121 (by decide +kernel) rfl
set_option maxRecDepth 100000 in
theorem lk_M_15 : Cond.fieldLink R_M 38 R_M (F_M 15).2.1 (F_M 15).2.2.1 ∈ wd_tbl := wd_of 2122 (by decide +kernel) rfl
set_option maxRecDepth 100000 in
theorem lk_M_16 : Cond.fieldLink R_M 41 R_M (F_M 16).2.1 (F_M 16).2.2.1 ∈ wd_tbl := wd_of 2123 (by decide +kernel) rfl
set_option maxRecDepth 100000 in
theorem lk_M_17 : Cond.fieldLink R_M 392 R_M (F_M 17).2.1 (F_M 17).2.2.1 ∈ wd_tbl := wd_of 2124 (by decide +kernel) rfl
set_option maxRecDepth 100000 in
theorem lk_M_18 : Cond.fieldLink R_M 44 R_M (F_M 18).2.1 (F_M 18).2.2.1 ∈ wd_tbl := wd_of 2125 (by decide +kernel) rfl
set_option maxRecDepth 100000 in
theorem lk_M_19 : Cond.fieldLink R_M 47 R_M (F_M 19).2.1 (F_M 19).2.2.1 ∈ wd_tbl := wd_of 2126 (by decide +kernel) rfl
set_option maxRecDepth 100000 in
theorem lk_M_20 : Cond.fieldLink R_M 395 R_M (F_M 20).2.1 (F_M 20).2.2.1 ∈ wd_tbl := wd_of 2127 (by decide +kernel) rfl
set_option maxRecDepth 100000 in
theorem lk_M_21 : Cond.fieldLink R_M 50 R_M (F_M 21).2.1 (F_M 21).2.2.1 ∈ wd_tbl := wd_of 2128 (by decide +kernel) rfl
set_option maxRecDepth 100000 in
theorem lk_M_22 : Cond.fieldLink R_M 53 R_M (F_M 22).2.1 (F_M 22).2.2.1 ∈ wd_tbl := wd_of 2129 (by decide +kernel) rfl
set_option maxRecDepth 100000 in
theorem lk_M_23 : Cond.fieldLink R_M 56 R_M (F_M 23).2.1 (F_M 23).2.2.1 ∈ wd_tbl := wd_of 2130 (by decide +kernel) rfl
set_option maxRecDepth 100000 in
theorem lk_M_24 : Cond.fieldLink R_M 59 R_M (F_M 24).2.1 (F_M 24).2.2.1 ∈ wd_tbl := wd_of 2131 (by decide +kernel) rfl
set_option maxRecDepth 100000 in
theorem lk_M_25 : Cond.fieldLink R_M 63 R_M (F_M 25).2.1 (F_M 25).2.2.1 ∈ wd_tbl := wd_of 2132 (by decide +kernel) rfl
set_option maxRecDepth 100000 in
theorem lk_M_26 : Cond.fieldLink R_M 66 R_M (F_M 26).2.1 (F_M 26).2.2.1 ∈ wd_tbl := wd_of 2133 (by decide +kernel) rfl
set_option maxRecDepth 100000 in
theorem lk_M_27 : Cond.fieldLink R_M 69 R_M (F_M 27).2.1 (F_M 27).2.2.1 ∈ wd_tbl := wd_of 2134 (by decide +kernel) rfl
set_option maxRecDepth 100000 in
theorem lk_M_28 : Cond.fieldLink R_M 72 R_M (F_M 28).2.1 (F_M 28).2.2.1 ∈ wd_tbl := wd_of 2135 (by decide +kernel) rfl
set_option maxRecDepth 100000 in
theorem lk_M_29 : Cond.fieldLink R_M 75 R_M (F_M 29).2.1 (F_M 29).2.2.1 ∈ wd_tbl := wd_of 2136 (by decide +kernel) rfl
set_option maxRecDepth 100000 in
theorem lk_M_30 : Cond.fieldLink R_M 78 R_M (F_M 30).2.1 (F_M 30).2.2.1 ∈ wd_tbl := wd_of 2137 (by decide +kernel) rfl
set_option maxRecDepth 100000 in
theorem lk_M_31 : Cond.fieldLink R_M 82 R_M (F_M 31).2.1 (F_M 31).2.2.1 ∈ wd_tbl := wd_of 2138 (by decide +kernel) rfl
set_option maxRecDepth 100000 in
theorem lk_M_32 : Cond.fieldLink R_M 448 R_M (F_M 32).2.1 (F_M 32).2.2.1 ∈ wd_tbl := wd_of 2139 (by decide +kernel) rfl
set_option maxRecDepth 100000 in
theorem lk_M_33 : Cond.fieldLink R_M 85 R_M (F_M 33).2.1 (F_M 33).2.2.1 ∈ wd_tbl := wd_of 2140 (by decide +kernel) rfl
set_option maxRecDepth 100000 in
theorem lk_M_34 : Cond.fieldLink R_M 88 R_M (F_M 34).2.1 (F_M 34).2.2.1 ∈ wd_tbl := wd_of 2141 (by decide +kernel) rfl
set_option maxRecDepth 100000 in
theorem lk_M_35 : Cond.fieldLink R_M 92 R_M (F_M 35).2.1 (F_M 35).2.2.1 ∈ wd_tbl := wd_of 2142 (by decide +kernel) rfl
set_option maxRecDepth 100000 in
theorem lk_M_36 : Cond.fieldLink R_M 95 R_M (F_M 36).2.1 (F_M 36).2.2.1 ∈ wd_tbl := wd_of 2143 (by decide +kernel) rfl
set_option maxRecDepth 100000 in
theorem lk_M_37 : Cond.fieldLink R_M 98 R_M (F_M 37).2.1 (F_M 37).2.2.1 ∈ wd_tbl := wd_of 2144 (by decide +kernel) rfl
set_option maxRecDepth 100000 in
theorem lk_M_38 : Cond.fieldLink R_M 101 R_M (F_M 38).2.1 (F_M 38).2.2.1 ∈ wd_tbl := wd_of 2145 (by decide +kernel) rfl
set_option maxRecDepth 100000 in
theorem lk_M_39 : Cond.fieldLink R_M 451 R_M (F_M 39).2.1 (F_M 39).2.2.1 ∈ wd_tbl := wd_of 2146 (by decide +kernel) rfl
set_option maxRecDepth 100000 in
theorem lk_M_40 : Cond.fieldLink R_M 104 R_M (F_M 40).2.1 (F_M 40).2.2.1 ∈ wd_tbl := wd_of 2147 (by decide +kernel) rfl
set_option maxRecDepth 100000 in
theorem lk_M_41 : Cond.fieldLink R_M 107 R_M (F_M 41).2.1 (F_M 41).2.2.1 ∈ wd_tbl := wd_of 2148 (by decide +kernel) rfl
set_option maxRecDepth 100000 in
theorem lk_M_42 : Cond.fieldLink R_M 110 R_M (F_M 42).2.1 (F_M 42).2.2.1 ∈ wd_tbl := wd_of 2149 (by decide +kernel) rfl
set_option maxRecDepth 100000 in
theorem lk_M_43 : Cond.fieldLink R_M 113 R_M (F_M 43).2.1 (F_M 43).2.2.1 ∈ wd_tbl := wd_of 2150 (by decide +kernel) rfl
set_option maxRecDepth 100000 in
theorem lk_M_44 : Cond.fieldLink R_M 116 R_M (F_M 44).2.1 (F_M 44).2.2.1 ∈ wd_tbl := wd_of 2151 (by decide +kernel) rfl
set_option maxRecDepth 100000 in
theorem lk_M_45 : Cond.fieldLink R_M 119 R_M (F_M 45).2.1 (F_M 45).2.2.1 ∈ wd_tbl := wd_of 2152 (by decide +kernel) rfl
set_option maxRecDepth 100000 in
theorem lk_M_46 : Cond.fieldLink R_M 505 R_M (F_M 46).2.1 (F_M 46).2.2.1 ∈ wd_tbl := wd_of 2153 (by decide +kernel) rfl
set_option maxRecDepth 100000 in
theorem lk_M_47 : Cond.fieldLink R_M 122 R_M (F_M 47).2.1 (F_M 47).2.2.1 ∈ wd_tbl := wd_of 2154 (by decide +kernel) rfl
set_option maxRecDepth 100000 in
theorem lk_M_48 : Cond.fieldLink R_M 125 R_M (F_M 48).2.1 (F_M 48).2.2.1 ∈ wd_tbl := wd_of 2155 (by decide +kernel) rfl
set_option maxRecDepth 100000 in
theorem lk_M_49 : Cond.fieldLink R_M 128 R_M (F_M 49).2.1 (F_M 49).2.2.1 ∈ wd_tbl := wd_of 2156 (by decide +kernel) rfl
set_option maxRecDepth 100000 in
theorem lk_M_50 : Cond.fieldLink R_M 131 R_M (F_M 50).2.1 (F_M 50).2.2.1 ∈ wd_tbl := wd_of 2157 (by decide +kernel) rfl
set_option maxRecDepth 100000 in
theorem lk_M_51 : Cond.fieldLink R_M 134 R_M (F_M 51).2.1 (F_M 51).2.2.1 ∈ wd_tbl := wd_of 2158 (by decide +kernel) rfl
set_option maxRecDepth 100000 in
theorem lk_M_52 : Cond.fieldLink R_M 508 R_M (F_M 52).2.1 (F_M 52).2.2.1 ∈ wd_tbl := wd_of 2159 (by decide +kernel) rfl
set_option maxRecDepth 100000 in
theorem lk_M_53 : Cond.fieldLink R_M 137 R_M (F_M 53).2.1 (F_M 53).2.2.1 ∈ wd_tbl := wd_of 2160 (by decide +kernel) rfl
set_option maxRecDepth 100000 in
theorem lk_M_54 : Cond.fieldLink R_M 140 R_M (F_M 54).2.1 (F_M 54).2.2.1 ∈ wd_tbl := wd_of 2161 (by decide +kernel) rfl
set_option maxRecDepth 100000 in
theorem lk_M_55 : Cond.fieldLink R_M 143 R_M (F_M 55).2.1 (F_M 55).2.2.1 ∈ wd_tbl := wd_of 2162 (by decide +kernel) rfl
set_option maxRecDepth 100000 in
theorem lk_M_56 : Cond.fieldLink R_M 511 R_M (F_M 56).2.1 (F_M 56).2.2.1 ∈ wd_tbl := wd_of 2163 (by decide +kernel) rfl
set_option maxRecDepth 100000 in
theorem lk_M_57 : Cond.fieldLink R_M 146 R_M (F_M 57).2.1 (F_M 57).2.2.1 ∈ wd_tbl := wd_of 2164 (by decide +kernel) rfl
set_option maxRecDepth 100000 in
theorem lk_M_58 : Cond.fieldLink R_M 514 R_M (F_M 58).2.1 (F_M 58).2.2.1 ∈ wd_tbl := wd_of 2165 (by decide +kernel) rfl
set_option maxRecDepth 100000 in
theorem lk_M_59 : Cond.fieldLink R_M 150 R_M (F_M 59).2.1 (F_M 59).2.2.1 ∈ wd_tbl := wd_of 2166 (by decide +kernel) rfl
set_option maxRecDepth 100000 in
theorem lk_M_60 : Cond.fieldLink R_M 153 R_M (F_M 60).2.1 (F_M 60).2.2.1 ∈ wd_tbl := wd_of 2167 (by decide +kernel) rfl
set_option maxRecDepth 100000 in
theorem lk_M_61 : Cond.fieldLink R_M 156 R_M (F_M 61).2.1 (F_M 61).2.2.1 ∈ wd_tbl := wd_of 2168 (by decide +kernel) rfl
set_option maxRecDepth 100000 in
theorem lk_M_62 : Cond.fieldLink R_M 159 R_M (F_M 62).2.1 (F_M 62).2.2.1 ∈ wd_tbl := wd_of 2169 (by decide +kernel) rfl
set_option maxRecDepth 100000 in
theorem lk_M_63 : Cond.fieldLink R_M 162 R_M (F_M 63).2.1 (F_M 63).2.2.1 ∈ wd_tbl := wd_of 2170 (by decide +kernel) rfl
set_option maxRecDepth 100000 in
theorem lk_M_64 : Cond.fieldLink R_M 165 R_M (F_M 64).2.1 (F_M 64).2.2.1 ∈ wd_tbl := wd_of 2171 (by decide +kernel) rfl
set_option maxRecDepth 100000 in
theorem lk_M_65 : Cond.fieldLink R_M 493 R_M (F_M 65).2.1 (F_M 65).2.2.1 ∈ wd_tbl := wd_of 2172 (by decide +kernel) rfl
set_option maxRecDepth 100000 in
theorem lk_M_66 : Cond.fieldLink R_M 496 R_M (F_M 66).2.1 (F_M 66).2.2.1 ∈ wd_tbl := wd_of 2173 (by decide +kernel) rfl
set_option maxRecDepth 100000 in
theorem lk_M_67 : Cond.fieldLink R_M 454 R_M (F_M 67).2.1 (F_M 67).2.2.1 ∈ wd_tbl := wd_of 2174 (by decide +kernel) rfl
set_option maxRecDepth 100000 in
theorem lk_M_68 : Cond.fieldLink R_M 460 R_M (F_M 68).2.1 (F_M 68).2.2.1 ∈ wd_tbl := wd_of 2175 (by decide +kernel) rfl
set_option maxRecDepth 100000 in
theorem lk_M_69 : Cond.fieldLink R_M 457 R_M (F_M 69).2.1 (F_M 69).2.2.1 ∈ wd_tbl := wd_of 2176 (by decide +kernel) rfl
set_option maxRecDepth 100000 in
theorem lk_M_70 : Cond.fieldLink R_M 484 R_M (F_M 70).2.1 (F_M 70).2.2.1 ∈ wd_tbl := wd_of 2177 (by decide +kernel) rfl
set_option maxRecDepth 100000 in
theorem lk_M_71 : Cond.fieldLink R_M 466 R_M (F_M 71).2.1 (F_M 71).2.2.1 ∈ wd_tbl := wd_of 2178 (by decide +kernel) rfl
set_option maxRecDepth 100000 in
theorem lk_M_72 : Cond.fieldLink R_M 463 R_M (F_M 72).2.1 (F_M 72).2.2.1 ∈ wd_tbl := wd_of 2179 (by decide +kernel) rfl
set_option maxRecDepth 100000 in
theorem lk_M_73 : Cond.fieldLink R_M 517 R_M (F_M 73).2.1 (F_M 73).2.2.1 ∈ wd_tbl := wd_of 2180 (by decide +kernel) rfl
set_option maxRecDepth 100000 in
theorem lk_M_74 : Cond.fieldLink R_M 168 R_M (F_M 74).2.1 (F_M 74).2.2.1 ∈ wd_tbl := wd_of 2181 (by decide +kernel) rfl
set_option maxRecDepth 100000 in
theorem lk_M_75 : Cond.fieldLink R_M 586 R_M (F_M 75).2.1 (F_M 75).2.2.1 ∈ wd_tbl := wd_of 2182 (by decide +kernel) rfl
set_option maxRecDepth 100000 in
theorem lk_M_76 : Cond.fieldLink R_M 171 R_M (F_M 76).2.1 (F_M 76).2.2.1 ∈ wd_tbl := wd_of 2183 (by decide +kernel) rfl
set_option maxRecDepth 100000 in
theorem lk_M_77 : Cond.fieldLink R_M 589 R_M (F_M 77).2.1 (F_M 77).2.2.1 ∈ wd_tbl := wd_of 2184 (by decide +kernel) rfl
set_option maxRecDepth 100000 in
theorem lk_M_78 : Cond.fieldLink R_M 174 R_M (F_M 78).2.1 (F_M 78).2.2.1 ∈ wd_tbl := wd_of 2185 (by decide +kernel) rfl
set_option maxRecDepth 100000 in
theorem lk_M_79 : Cond.fieldLink R_M 177 R_M (F_M 79).2.1 (F_M 79).2.2.1 ∈ wd_tbl := wd_of 2186 (by decide +kernel) rfl
set_option maxRecDepth 100000 in
theorem lk_M_80 : Cond.fieldLink R_M 180 R_M (F_M 80).2.1 (F_M 80).2.2.1 ∈ wd_tbl := wd_of 2187 (by decide +kernel) rfl
set_option maxRecDepth 100000 in
theorem lk_M_81 : Cond.fieldLink R_M 183 R_M (F_M 81).2.1 (F_M 81).2.2.1 ∈ wd_tbl := wd_of 2188 (by decide +kernel) rfl
set_option maxRecDepth 100000 in
theorem lk_M_82 : Cond.fieldLink R_M 186 R_M (F_M 82).2.1 (F_M 82).2.2.1 ∈ wd_tbl := wd_of 2189 (by decide +kernel) rfl
set_option maxRecDepth 100000 in
theorem lk_M_83 : Cond.fieldLink R_M 610 R_M (F_M 83).2.1 (F_M 83).2.2.1 ∈ wd_tbl := wd_of 2190 (by decide +kernel) rfl
set_option maxRecDepth 100000 in
theorem lk_M_84 : Cond.fieldLink R_M 623 R_M (F_M 84).2.1 (F_M 84).2.2.1 ∈ wd_tbl := wd_of 2191 (by decide +kernel) rfl
set_option maxRecDepth 100000 in
theorem lk_M_86 : Cond.fieldLink R_M 654 R_M (F_M 86).2.1 (F_M 86).2.2.1 ∈ wd_tbl := wd_of 2192 (by decide +kernel) rfl
set_option maxRecDepth 100000 in
theorem lk_M_87 : Cond.fieldLink R_M 657 R_M (F_M 87).2.1 (F_M 87).2.2.1 ∈ wd_tbl := wd_of 2193 (by decide +kernel) rfl
set_option maxRecDepth 100000 in
theorem lk_M_88 : Cond.fieldLink R_M 189 R_M (F_M 88).2.1 (F_M 88).2.2.1 ∈ wd_tbl := wd_of 2194 (by decide +kernel) rfl
set_option maxRecDepth 100000 in
theorem lk_M_89 : Cond.fieldLink R_M 192 R_M (F_M 89).2.1 (F_M 89).2.2.1 ∈ wd_tbl := wd_of 2195 (by decide +kernel) rfl
set_option maxRecDepth 100000 in
theorem lk_M_90 : Cond.fieldLink R_M 195 R_M (F_M 90).2.1 (F_M 90).2.2.1 ∈ wd_tbl := wd_of 2196 (by decide +kernel) rfl
set_option maxRecDepth 100000 in
theorem lk_M_91 : Cond.fieldLink R_M 199 R_M (F_M 91).2.1 (F_M 91).2.2.1 ∈ wd_tbl := wd_of 2197 (by decide +kernel) rfl
set_option maxRecDepth 100000 in
theorem lk_M_92 : Cond.fieldLink R_M 202 R_M (F_M 92).2.1 (F_M 92).2.2.1 ∈ wd_tbl := wd_of 2198 (by decide +kernel) rfl
set_option maxRecDepth 100000 in
theorem lk_M_93 : Cond.fieldLink R_M 206 R_M (F_M 93).2.1 (F_M 93).2.2.1 ∈ wd_tbl := wd_of 2199 (by decide +kernel) rfl
set_option maxRecDepth 100000 in
theorem lk_M_94 : Cond.fieldLink R_M 209 R_M (F_M 94).2.1 (F_M 94).2.2.1 ∈ wd_tbl := wd_of 2200 (by decide +kernel) rfl
set_option maxRecDepth 100000 in
theorem lk_M_95 : Cond.fieldLink R_M 212 R_M (F_M 95).2.1 (F_M 95).2.2.1 ∈ wd_tbl := wd_of 2201 (by decide +kernel) rfl
set_option maxRecDepth 100000 in
theorem lk_M_96 : Cond.fieldLink R_M 215 R_M (F_M 96).2.1 (F_M 96).2.2.1 ∈ wd_tbl := wd_of 2202 (by decide +kernel) rfl
set_option maxRecDepth 100000 in
theorem lk_M_97 : Cond.fieldLink R_M 218 R_M (F_M 97).2.1 (F_M 97).2.2.1 ∈ wd_tbl := wd_of 2203 (by decide +kernel) rfl
set_option maxRecDepth 100000 in
theorem lk_M_98 : Cond.fieldLink R_M 221 R_M (F_M 98).2.1 (F_M 98).2.2.1 ∈ wd_tbl := wd_of 2204 (by decide +kernel) rfl
set_option maxRecDepth 100000 in
theorem lk_M_99 : Cond.fieldLink R_M 224 R_M (F_M 99).2.1 (F_M 99).2.2.1 ∈ wd_tbl := wd_of 2205 (by decide +kernel) rfl
set_option maxRecDepth 100000 in
theorem lk_M_100 : Cond.fieldLink R_M 227 R_M (F_M 100).2.1 (F_M 100).2.2.1 ∈ wd_tbl := wd_of 2206 (by decide +kernel) rfl
set_option maxRecDepth 100000 in
theorem lk_M_101 : Cond.fieldLink R_M 230 R_M (F_M 101).2.1 (F_M 101).2.2.1 ∈ wd_tbl := wd_of 2207 (by decide +kernel) rfl
set_option maxRecDepth 100000 in
theorem lk_M_102 : Cond.fieldLink R_M 234 R_M (F_M 102).2.1 (F_M 102).2.2.1 ∈ wd_tbl := wd_of 2208 (by decide +kernel) rfl
set_option maxRecDepth 100000 in
theorem lk_M_103 : Cond.fieldLink R_M 237 R_M (F_M 103).2.1 (F_M 103).2.2.1 ∈ wd_tbl := wd_of 2209 (by decide +kernel) rfl
set_option maxRecDepth 100000 in
theorem lk_M_104 : Cond.fieldLink R_M 240 R_M (F_M 104).2.1 (F_M 104).2.2.1 ∈ wd_tbl := wd_of 2210 (by decide +kernel) rfl
set_option maxRecDepth 100000 in
theorem lk_M_105 : Cond.fieldLink R_M 243 R_M (F_M 105).2.1 (F_M 105).2.2.1 ∈ wd_tbl := wd_of 2211 (by decide +kernel) rfl
set_option maxRecDepth 100000 in
theorem lk_M_106 : Cond.fieldLink R_M 246 R_M (F_M 106).2.1 (F_M 106).2.2.1 ∈ wd_tbl := wd_of 2212 (by decide +kernel) rfl
set_option maxRecDepth 100000 in
theorem lk_M_107 : Cond.fieldLink R_M 249 R_M (F_M 107).2.1 (F_M 107).2.2.1 ∈ wd_tbl := wd_of 2213 (by decide +kernel) rfl
set_option maxRecDepth 100000 in
theorem lk_M_108 : Cond.fieldLink R_M 252 R_M (F_M 108).2.1 (F_M 108).2.2.1 ∈ wd_tbl := wd_of 2214 (by decide +kernel) rfl
set_option maxRecDepth 100000 in
theorem lk_M_109 : Cond.fieldLink R_M 255 R_M (F_M 109).2.1 (F_M 109).2.2.1 ∈ wd_tbl := wd_of 2215 (by decide +kernel) rfl
set_option maxRecDepth 100000 in
theorem lk_M_110 : Cond.fieldLink R_M 258 R_M (F_M 110).2.1 (F_M 110).2.2.1 ∈ wd_tbl := wd_of 2216 (by decide +kernel) rfl
set_option maxRecDepth 100000 in
theorem lk_M_111 : Cond.fieldLink R_M 261 R_M (F_M 111).2.1 (F_M 111).2.2.1 ∈ wd_tbl := wd_of 2217 (by decide +kernel) rfl
set_option maxRecDepth 100000 in
theorem lk_M_112 : Cond.fieldLink R_M 264 R_M (F_M 112).2.1 (F_M 112).2.2.1 ∈ wd_tbl := wd_of 2218 (by decide +kernel) rfl
set_option maxRecDepth 100000 in
theorem lk_M_113 : Cond.fieldLink R_M 267 R_M (F_M 113).2.1 (F_M 113).2.2.1 ∈ wd_tbl := wd_of 2219 (by decide +kernel) rfl
set_option maxRecDepth 100000 in
theorem lk_M_114 : Cond.fieldLink R_M 270 R_M (F_M 114).2.1 (F_M 114).2.2.1 ∈ wd_tbl := wd_of 2220 (by decide +kernel) rfl
set_option maxRecDepth 100000 in
theorem lk_M_115 : Cond.fieldLink R_M 273 R_M (F_M 115).2.1 (F_M 115).2.2.1 ∈ wd_tbl := wd_of 2221 (by decide +kernel) rfl
set_option maxRecDepth 100000 in
theorem lk_M_116 : Cond.fieldLink R_M 276 R_M (F_M 116).2.1 (F_M 116).2.2.1 ∈ wd_tbl := wd_of 2222 (by decide +kernel) rfl
set_option maxRecDepth 100000 in
theorem lk_M_117 : Cond.fieldLink R_M 279 R_M (F_M 117).2.1 (F_M 117).2.2.1 ∈ wd_tbl := wd_of 2223 (by decide +kernel) rfl
set_option maxRecDepth 100000 in
theorem lk_M_118 : Cond.fieldLink R_M 989 R_M (F_M 118).2.1 (F_M 118).2.2.1 ∈ wd_tbl := wd_of 2224 (by decide +kernel) rfl
set_option maxRecDepth 100000 in
theorem lk_M_119 : Cond.fieldLink R_M 962 R_M (F_M 119).2.1 (F_M 119).2.2.1 ∈ wd_tbl := wd_of 2225 (by decide +kernel) rfl
set_option maxRecDepth 100000 in
theorem lk_M_120 : Cond.fieldLink R_M 904 R_M (F_M 120).2.1 (F_M 120).2.2.1 ∈ wd_tbl := wd_of 2226 (by decide +kernel) rfl
set_option maxRecDepth 100000 in
theorem lk_M_121 : Cond.fieldLink R_M 1001 R_M (F_M 121).2.1 (F_M 121).2.2.1 ∈ wd_tbl := wd_of 2227 (by decide +kernel) rfl
set_option maxRecDepth 100000 in
theorem lk_M_122 : Cond.fieldLink R_M 282 R_M (F_M 122).2.1 (F_M 122).2.2.1 ∈ wd_tbl := wd_of 2228 (by decide +kernel) rfl
set_option maxRecDepth 100000 in
theorem lk_M_123 : Cond.fieldLink R_M 285 R_M (F_M 123).2.1 (F_M 123).2.2.1 ∈ wd_tbl := wd_of 2229 (by decide +kernel) rfl
set_option maxRecDepth 100000 in
theorem lk_M_124 : Cond.fieldLink R_M 288 R_M (F_M 124).2.1 (F_M 124).2.2.1 ∈ wd_tbl := wd_of 2230 (by decide +kernel) rfl
set_option maxRecDepth 100000 in
theorem lk_M_125 : Cond.fieldLink R_M 757 R_M (F_M 125).2.1 (F_M 125).2.2.1 ∈ wd_tbl := wd_of 2231 (by decide +kernel) rfl
set_option maxRecDepth 100000 in
theorem lk_M_126 : Cond.fieldLink R_M 291 R_M (F_M 126).2.1 (F_M 126).2.2.1 ∈ wd_tbl := wd_of 2232 (by decide +kernel) rfl
set_option maxRecDepth 100000 in
theorem lk_M_127 : Cond.fieldLink R_M 294 R_M (F_M 127).2.1 (F_M 127).2.2.1 ∈ wd_tbl := wd_of 2233 (by decide +kernel) rfl
set_option maxRecDepth 100000 in
theorem lk_M_128 : Cond.fieldLink R_M 1010 R_M (F_M 128).2.1 (F_M 128).2.2.1 ∈ wd_tbl := wd_of 2234 (by decide +kernel) rfl
set_option maxRecDepth 100000 in
theorem lk_M_129 : Cond.fieldLink R_M 297 R_M (F_M 129).2.1 (F_M 129).2.2.1 ∈ wd_tbl := wd_of 2235 (by decide +kernel) rfl
set_option maxRecDepth 100000 in
theorem lk_M_130 : Cond.fieldLink R_M 1032 R_M (F_M 130).2.1 (F_M 130).2.2.1 ∈ wd_tbl := wd_of 2236 (by decide +kernel) rfl
set_option maxRecDepth 100000 in
theorem lk_M_131 : Cond.fieldLink R_M 300 R_M (F_M 131).2.1 (F_M 131).2.2.1 ∈ wd_tbl := wd_of 2237 (by decide +kernel) rfl
set_option maxRecDepth 100000 in
theorem lk_M_132 : Cond.fieldLink R_M 303 R_M (F_M 132).2.1 (F_M 132).2.2.1 ∈ wd_tbl := wd_of 2238 (by decide +kernel) rfl
set_option maxRecDepth 100000 in
theorem lk_M_133 : Cond.fieldLink R_M 669 R_M (F_M 133).2.1 (F_M 133).2.2.1 ∈ wd_tbl := wd_of 2239 (by decide +kernel) rfl
set_option maxRecDepth 100000 in
theorem lk_M_134 : Cond.fieldLink R_M 306 R_M (F_M 134).2.1 (F_M 134).2.2.1 ∈ wd_tbl := wd_of 2240 (by decide +kernel) rfl
set_option maxRecDepth 100000 in
theorem lk_M_135 : Cond.fieldLink R_M 309 R_M (F_M 135).2.1 (F_M 135).2.2.1 ∈ wd_tbl := wd_of 2241 (by decide +kernel) rfl
set_option maxRecDepth 100000 in
theorem lk_M_136 : Cond.fieldLink R_M 694 R_M (F_M 136).2.1 (F_M 136).2.2.1 ∈ wd_tbl := wd_of 2242 (by decide +kernel) rfl
set_option maxRecDepth 100000 in
theorem lk_M_137 : Cond.fieldLink R_M 312 R_M (F_M 137).2.1 (F_M 137).2.2.1 ∈ wd_tbl := wd_of 2243 (by decide +kernel) rfl
set_option maxRecDepth 100000 in
theorem lk_M_138 : Cond.fieldLink R_M 697 R_M (F_M 138).2.1 (F_M 138).2.2.1 ∈ wd_tbl := wd_of 2244 (by decide +kernel) rfl
set_option maxRecDepth 100000 in
theorem lk_M_139 : Cond.fieldLink R_M 319 R_M (F_M 139).2.1 (F_M 139).2.2.1 ∈ wd_tbl := wd_of 2245 (by decide +kernel) rfl
set_option maxRecDepth 100000 in
theorem lk_M_140 : Cond.fieldLink R_M 323 R_M (F_M 140).2.1 (F_M 140).2.2.1 ∈ wd_tbl := wd_of 2246 (by decide +kernel) rfl
set_option maxRecDepth 100000 in
theorem lk_M_141 : Cond.fieldLink R_M 327 R_M (F_M 141).2.1 (F_M 141).2.2.1 ∈ wd_tbl := wd_of 2247 (by decide +kernel) rfl
set_option maxRecDepth 100000 in
theorem lk_M_142 : Cond.fieldLink R_M 330 R_M (F_M 142).2.1 (F_M 142).2.2.1 ∈ wd_tbl := wd_of 2248 (by decide +kernel) rfl
set_option maxRecDepth 100000 in
theorem lk_M_143 : Cond.fieldLink R_M 333 R_M (F_M 143).2.1 (F_M 143).2.2.1 ∈ wd_tbl := wd_of 2249 (by decide +kernel) rfl
set_option maxRecDepth 100000 in
theorem lk_M_144 : Cond.fieldLink R_M 724 R_M (F_M 144).2.1 (F_M 144).2.2.1 ∈ wd_tbl := wd_of 2250 (by decide +kernel) rfl
set_option maxRecDepth 100000 in
theorem lk_M_145 : Cond.fieldLink R_M 336 R_M (F_M 145).2.1 (F_M 145).2.2.1 ∈ wd_tbl := wd_of 2251 (by decide +kernel) rfl
set_option maxRecDepth 100000 in
theorem lk_M_146 : Cond.fieldLink R_M 339 R_M (F_M 146).2.1 (F_M 146).2.2.1 ∈ wd_tbl := wd_of 2252 (by decide +kernel) rfl
set_option maxRecDepth 100000 in
theorem lk_M_147 : Cond.fieldLink R_M 342 R_M (F_M 147).2.1 (F_M 147).2.2.1 ∈ wd_tbl := wd_of 2253 (by decide +kernel) rfl
set_option maxRecDepth 100000 in
theorem lk_M_148 : Cond.fieldLink R_M 345 R_M (F_M 148).2.1 (F_M 148).2.2.1 ∈ wd_tbl := wd_of 2254 (by decide +kernel) rfl
set_option maxRecDepth 100000 in
theorem lk_M_149 : Cond.fieldLink R_M 743 R_M (F_M 149).2.1 (F_M 149).2.2.1 ∈ wd_tbl := wd_of 2255 (by decide +kernel) rfl
set_option maxRecDepth 100000 in
theorem lk_M_150 : Cond.fieldLink R_M 740 R_M (F_M 150).2.1 (F_M 150).2.2.1 ∈ wd_tbl := wd_of 2256 (by decide +kernel) rfl
set_option maxRecDepth 100000 in
theorem lk_M_151 : Cond.fieldLink R_M 789 R_M (F_M 151).2.1 (F_M 151).2.2.1 ∈ wd_tbl := wd_of 2257 (by decide +kernel) rfl
set_option maxRecDepth 100000 in
theorem lk_M_152 : Cond.fieldLink R_M 795 R_M (F_M 152).2.1 (F_M 152).2.2.1 ∈ wd_tbl := wd_of 2258 (by decide +kernel) rfl
set_option maxRecDepth 100000 in
theorem lk_M_153 : Cond.fieldLink R_M 838 R_M (F_M 153).2.1 (F_M 153).2.2.1 ∈ wd_tbl := wd_of 2259 (by decide +kernel) rfl
set_option maxRecDepth 100000 in
theorem lk_M_154 : Cond.fieldLink R_M 820 R_M (F_M 154).2.1 (F_M 154).2.2.1 ∈ wd_tbl := wd_of 2260 (by decide +kernel) rfl
set_option maxRecDepth 100000 in
theorem lk_M_155 : Cond.fieldLink R_M 852 R_M (F_M 155).2.1 (F_M 155).2.2.1 ∈ wd_tbl := wd_of 2261 (by decide +kernel) rfl
set_option maxRecDepth 100000 in
theorem lk_M_156 : Cond.fieldLink R_M 826 R_M (F_M 156).2.1 (F_M 156).2.2.1 ∈ wd_tbl := wd_of 2262 (by decide +kernel) rfl
set_option maxRecDepth 100000 in
theorem lk_M_157 : Cond.fieldLink R_M 817 R_M (F_M 157).2.1 (F_M 157).2.2.1 ∈ wd_tbl := wd_of 2263 (by decide +kernel) rfl
set_option maxRecDepth 100000 in
theorem lk_M_158 : Cond.fieldLink R_M 841 R_M (F_M 158).2.1 (F_M 158).2.2.1 ∈ wd_tbl := wd_of 2264 (by decide +kernel) rfl
set_option maxRecDepth 100000 in
theorem lk_M_159 : Cond.fieldLink R_M 907 R_M (F_M 159).2.1 (F_M 159).2.2.1 ∈ wd_tbl := wd_of 2265 (by decide +kernel) rfl
set_option maxRecDepth 100000 in
theorem lk_M_160 : Cond.fieldLink R_M 348 R_M (F_M 160).2.1 (F_M 160).2.2.1 ∈ wd_tbl := wd_of 2266 (by decide +kernel) rfl
set_option maxRecDepth 100000 in
theorem lk_M_161 : Cond.fieldLink R_M 351 R_M (F_M 161).2.1 (F_M 161).2.2.1 ∈ wd_tbl := wd_of 2267 (by decide +kernel) rfl
set_option maxRecDepth 100000 in
theorem lk_M_162 : Cond.fieldLink R_M 354 R_M (F_M 162).2.1 (F_M 162).2.2.1 ∈ wd_tbl := wd_of 2268 (by decide +kernel) rfl
set_option maxRecDepth 100000 in
theorem lk_M_163 : Cond.fieldLink R_M 357 R_M (F_M 163).2.1 (F_M 163).2.2.1 ∈ wd_tbl := wd_of 2269 (by decide +kernel) rfl
set_option maxRecDepth 100000 in
theorem lk_M_164 : Cond.fieldLink R_M 886 R_M (F_M 164).2.1 (F_M 164).2.2.1 ∈ wd_tbl := wd_of 2270 (by decide +kernel) rfl
set_option maxRecDepth 100000 in
theorem lk_M_165 : Cond.fieldLink R_M 889 R_M (F_M 165).2.1 (F_M 165).2.2.1 ∈ wd_tbl := wd_of 2271 (by decide +kernel) rfl
set_option maxRecDepth 100000 in
theorem lk_M_166 : Cond.fieldLink R_M 959 R_M (F_M 166).2.1 (F_M 166).2.2.1 ∈ wd_tbl := wd_of 2272 (by decide +kernel) rfl
set_option maxRecDepth 100000 in
theorem lk_M_167 : Cond.fieldLink R_M 360 R_M (F_M 167).2.1 (F_M 167).2.2.1 ∈ wd_tbl := wd_of 2273 (by decide +kernel) rfl
set_option maxRecDepth 100000 in
theorem lk_M_168 : Cond.fieldLink R_M 363 R_M (F_M 168).2.1 (F_M 168).2.2.1 ∈ wd_tbl := wd_of 2274 (by decide +kernel) rfl
set_option maxRecDepth 100000 in
theorem lk_M_169 : Cond.fieldLink R_M 977 R_M (F_M 169).2.1 (F_M 169).2.2.1 ∈ wd_tbl := wd_of 2275 (by decide +kernel) rfl
set_option maxRecDepth 100000 in
theorem lk_M_170 : Cond.fieldLink R_M 366 R_M (F_M 170).2.1 (F_M 170).2.2.1 ∈ wd_tbl := wd_of 2276 (by decide +kernel) rfl
