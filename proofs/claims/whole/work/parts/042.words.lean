theorem tb_953 : (Cond.code Lib.Math.abs.name Lib.Math.abs.code 1 (some .int)) ∈ TB := TB_mk (tm_4 _ (List.mem_of_getElem? (i := 149) (by decide +kernel))) rfl
theorem tb_954 : (Cond.methodLink RL 76 yX11_order) ∈ TB := TB_mk (tm_4 _ (List.mem_of_getElem? (i := 150) (by decide +kernel))) rfl
theorem tb_955 : (Cond.instanceMethod yX11_order) ∈ TB := TB_mk (tm_4 _ (List.mem_of_getElem? (i := 151) (by decide +kernel))) rfl
theorem tb_956 : (Cond.selects RX11 yX11_order yX11_order) ∈ TB := TB_mk (tm_4 _ (List.mem_of_getElem? (i := 152) (by decide +kernel))) rfl
theorem tb_957 : (Cond.code yX11_order cX11_order 4 (some .int)) ∈ TB := TB_mk (tm_4 _ (List.mem_of_getElem? (i := 153) (by decide +kernel))) rfl
theorem tb_958 : (Cond.methodLink RX11 235 yX5_climbsAnew) ∈ TB := TB_mk (tm_4 _ (List.mem_of_getElem? (i := 154) (by decide +kernel))) rfl
theorem tb_959 : (Cond.instanceMethod yX5_climbsAnew) ∈ TB := TB_mk (tm_4 _ (List.mem_of_getElem? (i := 155) (by decide +kernel))) rfl
theorem tb_960 : (Cond.selects RX5 yX5_climbsAnew yX5_climbsAnew) ∈ TB := TB_mk (tm_4 _ (List.mem_of_getElem? (i := 156) (by decide +kernel))) rfl
theorem tb_961 : (Cond.code yX5_climbsAnew cX5_climbsAnew 9 (some .int)) ∈ TB := TB_mk (tm_4 _ (List.mem_of_getElem? (i := 157) (by decide +kernel))) rfl
theorem tb_962 : (Cond.methodLink RL 80 yX11_moreFit) ∈ TB := TB_mk (tm_4 _ (List.mem_of_getElem? (i := 158) (by decide +kernel))) rfl
theorem tb_963 : (Cond.instanceMethod yX11_moreFit) ∈ TB := TB_mk (tm_4 _ (List.mem_of_getElem? (i := 159) (by decide +kernel))) rfl
theorem tb_964 : (Cond.selects RX11 yX11_moreFit yX11_moreFit) ∈ TB := TB_mk (tm_4 _ (List.mem_of_getElem? (i := 160) (by decide +kernel))) rfl
theorem tb_965 : (Cond.code yX11_moreFit cX11_moreFit 4 (some .int)) ∈ TB := TB_mk (tm_4 _ (List.mem_of_getElem? (i := 161) (by decide +kernel))) rfl
theorem tb_966 : (Cond.methodLink RX11 239 yX7_fitFamilies) ∈ TB := TB_mk (tm_4 _ (List.mem_of_getElem? (i := 162) (by decide +kernel))) rfl
theorem tb_967 : (Cond.instanceMethod yX7_fitFamilies) ∈ TB := TB_mk (tm_4 _ (List.mem_of_getElem? (i := 163) (by decide +kernel))) rfl
theorem tb_968 : (Cond.selects RX7 yX7_fitFamilies yX7_fitFamilies) ∈ TB := TB_mk (tm_4 _ (List.mem_of_getElem? (i := 164) (by decide +kernel))) rfl
theorem tb_969 : (Cond.code yX7_fitFamilies cX7_fitFamilies 9 (some .int)) ∈ TB := TB_mk (tm_4 _ (List.mem_of_getElem? (i := 165) (by decide +kernel))) rfl
theorem nb_970 : (Cond.methodLinkNest RX7 54 yX11_isWithin "WeddingPews") ∈ lw_tbl := tm_4 _ (List.mem_of_getElem? (i := 166) (by decide +kernel))
theorem tb_971 : (Cond.methodLink RX7 58 yX0_sittingIn) ∈ TB := TB_mk (tm_4 _ (List.mem_of_getElem? (i := 167) (by decide +kernel))) rfl
theorem tb_972 : (Cond.methodLink RX7 63 yX7_withOnePewMore) ∈ TB := TB_mk (tm_4 _ (List.mem_of_getElem? (i := 168) (by decide +kernel))) rfl
theorem tb_974 : (Cond.instanceMethod yX7_withOnePewMore) ∈ TB := TB_mk (tm_4 _ (List.mem_of_getElem? (i := 170) (by decide +kernel))) rfl
theorem tb_975 : (Cond.code yX7_withOnePewMore cX7_withOnePewMore 10 (some .long)) ∈ TB := TB_mk (tm_4 _ (List.mem_of_getElem? (i := 171) (by decide +kernel))) rfl
theorem tb_976 : (Cond.methodLink RX7 67 yJ6_bitCount_0f7a4) ∈ TB := TB_mk (tm_4 _ (List.mem_of_getElem? (i := 172) (by decide +kernel))) rfl
theorem tb_977 : (Cond.static yJ6_bitCount_0f7a4) ∈ TB := TB_mk (tm_4 _ (List.mem_of_getElem? (i := 173) (by decide +kernel))) rfl
theorem tb_978 : (Cond.code yJ6_bitCount_0f7a4 cJ6_bitCount_0f7a4 1 (some .int)) ∈ TB := TB_mk (tm_4 _ (List.mem_of_getElem? (i := 174) (by decide +kernel))) rfl
theorem tb_979 : (Cond.constant RJ6 265 (1431655765)) ∈ TB := TB_mk (tm_4 _ (List.mem_of_getElem? (i := 175) (by decide +kernel))) rfl
theorem tb_980 : (Cond.constant RJ6 266 (858993459)) ∈ TB := TB_mk (tm_4 _ (List.mem_of_getElem? (i := 176) (by decide +kernel))) rfl
theorem tb_981 : (Cond.constant RJ6 267 (252645135)) ∈ TB := TB_mk (tm_4 _ (List.mem_of_getElem? (i := 177) (by decide +kernel))) rfl
theorem tb_982 : (Cond.methodLink RL 84 yX11_fathers) ∈ TB := TB_mk (tm_4 _ (List.mem_of_getElem? (i := 178) (by decide +kernel))) rfl
theorem tb_983 : (Cond.instanceMethod yX11_fathers) ∈ TB := TB_mk (tm_4 _ (List.mem_of_getElem? (i := 179) (by decide +kernel))) rfl
theorem tb_984 : (Cond.selects RX11 yX11_fathers yX11_fathers) ∈ TB := TB_mk (tm_4 _ (List.mem_of_getElem? (i := 180) (by decide +kernel))) rfl
theorem tb_985 : (Cond.code yX11_fathers cX11_fathers 4 (some .int)) ∈ TB := TB_mk (tm_4 _ (List.mem_of_getElem? (i := 181) (by decide +kernel))) rfl
theorem tb_986 : (Cond.methodLink RX11 245 yX5_seatTwo) ∈ TB := TB_mk (tm_4 _ (List.mem_of_getElem? (i := 182) (by decide +kernel))) rfl
theorem tb_987 : (Cond.instanceMethod yX5_seatTwo) ∈ TB := TB_mk (tm_4 _ (List.mem_of_getElem? (i := 183) (by decide +kernel))) rfl
theorem tb_988 : (Cond.selects RX5 yX5_seatTwo yX5_seatTwo) ∈ TB := TB_mk (tm_4 _ (List.mem_of_getElem? (i := 184) (by decide +kernel))) rfl
theorem tb_989 : (Cond.code yX5_seatTwo cX5_seatTwo 11 (some .int)) ∈ TB := TB_mk (tm_4 _ (List.mem_of_getElem? (i := 185) (by decide +kernel))) rfl
theorem tb_990 : (Cond.methodLink RL 88 yX11_singers) ∈ TB := TB_mk (tm_4 _ (List.mem_of_getElem? (i := 186) (by decide +kernel))) rfl
theorem tb_991 : (Cond.instanceMethod yX11_singers) ∈ TB := TB_mk (tm_4 _ (List.mem_of_getElem? (i := 187) (by decide +kernel))) rfl
theorem tb_992 : (Cond.selects RX11 yX11_singers yX11_singers) ∈ TB := TB_mk (tm_4 _ (List.mem_of_getElem? (i := 188) (by decide +kernel))) rfl
theorem tb_993 : (Cond.code yX11_singers cX11_singers 2 (some .int)) ∈ TB := TB_mk (tm_4 _ (List.mem_of_getElem? (i := 189) (by decide +kernel))) rfl
theorem tb_994 : (Cond.methodLink RX11 249 yX5_choir) ∈ TB := TB_mk (tm_4 _ (List.mem_of_getElem? (i := 190) (by decide +kernel))) rfl
theorem tb_995 : (Cond.instanceMethod yX5_choir) ∈ TB := TB_mk (tm_4 _ (List.mem_of_getElem? (i := 191) (by decide +kernel))) rfl
theorem tb_996 : (Cond.selects RX5 yX5_choir yX5_choir) ∈ TB := TB_mk (tm_4 _ (List.mem_of_getElem? (i := 192) (by decide +kernel))) rfl
theorem tb_997 : (Cond.code yX5_choir cX5_choir 7 (some .int)) ∈ TB := TB_mk (tm_4 _ (List.mem_of_getElem? (i := 193) (by decide +kernel))) rfl
theorem tb_998 : (Cond.methodLink RX5 72 yX5_fillSingersByRow) ∈ TB := TB_mk (tm_4 _ (List.mem_of_getElem? (i := 194) (by decide +kernel))) rfl
theorem tb_1000 : (Cond.instanceMethod yX5_fillSingersByRow) ∈ TB := TB_mk (tm_4 _ (List.mem_of_getElem? (i := 196) (by decide +kernel))) rfl
theorem tb_1001 : (Cond.code yX5_fillSingersByRow cX5_fillSingersByRow 4 (some .int)) ∈ TB := TB_mk (tm_4 _ (List.mem_of_getElem? (i := 197) (by decide +kernel))) rfl
theorem tb_1002 : (Cond.methodLink RX5 82 yJ7_fill_53178) ∈ TB := TB_mk (tm_4 _ (List.mem_of_getElem? (i := 198) (by decide +kernel))) rfl
theorem tb_1003 : (Cond.methodLink RX5 88 yX1_singerOf) ∈ TB := TB_mk (tm_4 _ (List.mem_of_getElem? (i := 199) (by decide +kernel))) rfl
theorem tb_1004 : (Cond.methodLink RX5 76 yX5_middleRow) ∈ TB := TB_mk (tm_4 _ (List.mem_of_getElem? (i := 200) (by decide +kernel))) rfl
theorem tb_1006 : (Cond.instanceMethod yX5_middleRow) ∈ TB := TB_mk (tm_4 _ (List.mem_of_getElem? (i := 202) (by decide +kernel))) rfl
theorem tb_1007 : (Cond.code yX5_middleRow cX5_middleRow 4 (some .int)) ∈ TB := TB_mk (tm_4 _ (List.mem_of_getElem? (i := 203) (by decide +kernel))) rfl
theorem tb_1008 : (Cond.methodLink RX5 79 Lib.Math.abs.name) ∈ TB := TB_mk (tm_4 _ (List.mem_of_getElem? (i := 204) (by decide +kernel))) rfl
theorem tb_1009 : (Cond.methodLink RL 92 yX11_strangers) ∈ TB := TB_mk (tm_4 _ (List.mem_of_getElem? (i := 205) (by decide +kernel))) rfl
theorem tb_1010 : (Cond.instanceMethod yX11_strangers) ∈ TB := TB_mk (tm_4 _ (List.mem_of_getElem? (i := 206) (by decide +kernel))) rfl
theorem tb_1011 : (Cond.selects RX11 yX11_strangers yX11_strangers) ∈ TB := TB_mk (tm_4 _ (List.mem_of_getElem? (i := 207) (by decide +kernel))) rfl
theorem tb_1012 : (Cond.code yX11_strangers cX11_strangers 2 (some .int)) ∈ TB := TB_mk (tm_4 _ (List.mem_of_getElem? (i := 208) (by decide +kernel))) rfl
theorem tb_1013 : (Cond.methodLink RX11 252 yX5_lonely) ∈ TB := TB_mk (tm_4 _ (List.mem_of_getElem? (i := 209) (by decide +kernel))) rfl
theorem tb_1014 : (Cond.instanceMethod yX5_lonely) ∈ TB := TB_mk (tm_4 _ (List.mem_of_getElem? (i := 210) (by decide +kernel))) rfl
theorem tb_1015 : (Cond.selects RX5 yX5_lonely yX5_lonely) ∈ TB := TB_mk (tm_4 _ (List.mem_of_getElem? (i := 211) (by decide +kernel))) rfl
theorem tb_1016 : (Cond.code yX5_lonely cX5_lonely 6 (some .int)) ∈ TB := TB_mk (tm_4 _ (List.mem_of_getElem? (i := 212) (by decide +kernel))) rfl
theorem tb_1017 : (Cond.methodLink RX5 91 yX5_isLonely) ∈ TB := TB_mk (tm_4 _ (List.mem_of_getElem? (i := 213) (by decide +kernel))) rfl
theorem tb_1019 : (Cond.instanceMethod yX5_isLonely) ∈ TB := TB_mk (tm_4 _ (List.mem_of_getElem? (i := 215) (by decide +kernel))) rfl
theorem tb_1020 : (Cond.code yX5_isLonely cX5_isLonely 7 (some .boolean)) ∈ TB := TB_mk (tm_4 _ (List.mem_of_getElem? (i := 216) (by decide +kernel))) rfl
theorem tb_1021 : (Cond.methodLink RL 96 yX11_inLine) ∈ TB := TB_mk (tm_4 _ (List.mem_of_getElem? (i := 217) (by decide +kernel))) rfl
theorem tb_1022 : (Cond.instanceMethod yX11_inLine) ∈ TB := TB_mk (tm_4 _ (List.mem_of_getElem? (i := 218) (by decide +kernel))) rfl
theorem tb_1023 : (Cond.selects RX11 yX11_inLine yX11_inLine) ∈ TB := TB_mk (tm_4 _ (List.mem_of_getElem? (i := 219) (by decide +kernel))) rfl
theorem tb_1024 : (Cond.code yX11_inLine cX11_inLine 2 (some .int)) ∈ TB := TB_mk (tm_4 _ (List.mem_of_getElem? (i := 220) (by decide +kernel))) rfl
theorem tb_1025 : (Cond.methodLink RX11 255 yX5_familiesWaiting) ∈ TB := TB_mk (tm_4 _ (List.mem_of_getElem? (i := 221) (by decide +kernel))) rfl
theorem tb_1026 : (Cond.instanceMethod yX5_familiesWaiting) ∈ TB := TB_mk (tm_4 _ (List.mem_of_getElem? (i := 222) (by decide +kernel))) rfl
theorem tb_1027 : (Cond.selects RX5 yX5_familiesWaiting yX5_familiesWaiting) ∈ TB := TB_mk (tm_4 _ (List.mem_of_getElem? (i := 223) (by decide +kernel))) rfl
theorem tb_1028 : (Cond.code yX5_familiesWaiting cX5_familiesWaiting 4 (some .int)) ∈ TB := TB_mk (tm_4 _ (List.mem_of_getElem? (i := 224) (by decide +kernel))) rfl
theorem tb_1029 : (Cond.methodLink RX11 258 yX5_waitingLike) ∈ TB := TB_mk (tm_4 _ (List.mem_of_getElem? (i := 225) (by decide +kernel))) rfl
theorem tb_1030 : (Cond.instanceMethod yX5_waitingLike) ∈ TB := TB_mk (tm_4 _ (List.mem_of_getElem? (i := 226) (by decide +kernel))) rfl
theorem tb_1031 : (Cond.selects RX5 yX5_waitingLike yX5_waitingLike) ∈ TB := TB_mk (tm_4 _ (List.mem_of_getElem? (i := 227) (by decide +kernel))) rfl
theorem tb_1032 : (Cond.code yX5_waitingLike cX5_waitingLike 5 (some .int)) ∈ TB := TB_mk (tm_4 _ (List.mem_of_getElem? (i := 228) (by decide +kernel))) rfl
theorem tb_1033 : (Cond.methodLink RX5 101 yX5_isLike) ∈ TB := TB_mk (tm_4 _ (List.mem_of_getElem? (i := 229) (by decide +kernel))) rfl
theorem tb_1034 : (Cond.static yX5_isLike) ∈ TB := TB_mk (tm_4 _ (List.mem_of_getElem? (i := 230) (by decide +kernel))) rfl
theorem tb_1035 : (Cond.code yX5_isLike cX5_isLike 2 (some .boolean)) ∈ TB := TB_mk (tm_4 _ (List.mem_of_getElem? (i := 231) (by decide +kernel))) rfl
theorem tb_1036 : (Cond.methodLink RX5 104 yX1_childOf) ∈ TB := TB_mk (tm_4 _ (List.mem_of_getElem? (i := 232) (by decide +kernel))) rfl
theorem tb_1037 : (Cond.methodLink RX5 107 yX1_sideOf) ∈ TB := TB_mk (tm_4 _ (List.mem_of_getElem? (i := 233) (by decide +kernel))) rfl
theorem tb_1038 : (Cond.methodLink RL 100 yX11_edge) ∈ TB := TB_mk (tm_4 _ (List.mem_of_getElem? (i := 234) (by decide +kernel))) rfl
theorem tb_1039 : (Cond.instanceMethod yX11_edge) ∈ TB := TB_mk (tm_4 _ (List.mem_of_getElem? (i := 235) (by decide +kernel))) rfl
theorem tb_1040 : (Cond.selects RX11 yX11_edge yX11_edge) ∈ TB := TB_mk (tm_4 _ (List.mem_of_getElem? (i := 236) (by decide +kernel))) rfl
theorem tb_1041 : (Cond.code yX11_edge cX11_edge 2 (some .int)) ∈ TB := TB_mk (tm_4 _ (List.mem_of_getElem? (i := 237) (by decide +kernel))) rfl
theorem tb_1042 : (Cond.methodLink RX11 261 yX5_children) ∈ TB := TB_mk (tm_4 _ (List.mem_of_getElem? (i := 238) (by decide +kernel))) rfl
theorem tb_1043 : (Cond.instanceMethod yX5_children) ∈ TB := TB_mk (tm_4 _ (List.mem_of_getElem? (i := 239) (by decide +kernel))) rfl
theorem tb_1044 : (Cond.selects RX5 yX5_children yX5_children) ∈ TB := TB_mk (tm_5 _ (List.mem_of_getElem? (i := 0) (by decide +kernel))) rfl
theorem tb_1045 : (Cond.code yX5_children cX5_children 5 (some .int)) ∈ TB := TB_mk (tm_5 _ (List.mem_of_getElem? (i := 1) (by decide +kernel))) rfl
theorem tb_1046 : (Cond.methodLink RX5 110 yX0_sittingAisleward) ∈ TB := TB_mk (tm_5 _ (List.mem_of_getElem? (i := 2) (by decide +kernel))) rfl
theorem tb_1047 : (Cond.methodLink RL 104 yX11_ushers) ∈ TB := TB_mk (tm_5 _ (List.mem_of_getElem? (i := 3) (by decide +kernel))) rfl
theorem tb_1048 : (Cond.instanceMethod yX11_ushers) ∈ TB := TB_mk (tm_5 _ (List.mem_of_getElem? (i := 4) (by decide +kernel))) rfl
theorem tb_1049 : (Cond.selects RX11 yX11_ushers yX11_ushers) ∈ TB := TB_mk (tm_5 _ (List.mem_of_getElem? (i := 5) (by decide +kernel))) rfl
theorem tb_1050 : (Cond.code yX11_ushers cX11_ushers 5 (some .int)) ∈ TB := TB_mk (tm_5 _ (List.mem_of_getElem? (i := 6) (by decide +kernel))) rfl
theorem tb_1051 : (Cond.methodLink RX11 265 yX7_leadInRow) ∈ TB := TB_mk (tm_5 _ (List.mem_of_getElem? (i := 7) (by decide +kernel))) rfl
theorem tb_1052 : (Cond.instanceMethod yX7_leadInRow) ∈ TB := TB_mk (tm_5 _ (List.mem_of_getElem? (i := 8) (by decide +kernel))) rfl
theorem tb_1053 : (Cond.selects RX7 yX7_leadInRow yX7_leadInRow) ∈ TB := TB_mk (tm_5 _ (List.mem_of_getElem? (i := 9) (by decide +kernel))) rfl
theorem tb_1054 : (Cond.code yX7_leadInRow cX7_leadInRow 7 (some .int)) ∈ TB := TB_mk (tm_5 _ (List.mem_of_getElem? (i := 10) (by decide +kernel))) rfl
theorem tb_1055 : (Cond.methodLink RX7 72 yJ7_fill_53178) ∈ TB := TB_mk (tm_5 _ (List.mem_of_getElem? (i := 11) (by decide +kernel))) rfl
theorem tb_1056 : (Cond.methodLink RX7 78 yX7_firstFree) ∈ TB := TB_mk (tm_5 _ (List.mem_of_getElem? (i := 12) (by decide +kernel))) rfl
theorem tb_1058 : (Cond.instanceMethod yX7_firstFree) ∈ TB := TB_mk (tm_5 _ (List.mem_of_getElem? (i := 14) (by decide +kernel))) rfl
theorem tb_1059 : (Cond.code yX7_firstFree cX7_firstFree 4 (some .int)) ∈ TB := TB_mk (tm_5 _ (List.mem_of_getElem? (i := 15) (by decide +kernel))) rfl
theorem tb_1060 : (Cond.methodLink RX7 81 Lib.Math.max.name) ∈ TB := TB_mk (tm_5 _ (List.mem_of_getElem? (i := 16) (by decide +kernel))) rfl
theorem tb_1061 : (Cond.methodLink RL 108 yX11_leastTime) ∈ TB := TB_mk (tm_5 _ (List.mem_of_getElem? (i := 17) (by decide +kernel))) rfl
theorem tb_1062 : (Cond.instanceMethod yX11_leastTime) ∈ TB := TB_mk (tm_5 _ (List.mem_of_getElem? (i := 18) (by decide +kernel))) rfl
theorem tb_1063 : (Cond.selects RX11 yX11_leastTime yX11_leastTime) ∈ TB := TB_mk (tm_5 _ (List.mem_of_getElem? (i := 19) (by decide +kernel))) rfl
theorem tb_1064 : (Cond.code yX11_leastTime cX11_leastTime 4 (some .int)) ∈ TB := TB_mk (tm_5 _ (List.mem_of_getElem? (i := 20) (by decide +kernel))) rfl
theorem tb_1065 : (Cond.methodLink RX11 269 yX7_leadInBestRow) ∈ TB := TB_mk (tm_5 _ (List.mem_of_getElem? (i := 21) (by decide +kernel))) rfl
theorem tb_1066 : (Cond.instanceMethod yX7_leadInBestRow) ∈ TB := TB_mk (tm_5 _ (List.mem_of_getElem? (i := 22) (by decide +kernel))) rfl
theorem tb_1067 : (Cond.selects RX7 yX7_leadInBestRow yX7_leadInBestRow) ∈ TB := TB_mk (tm_5 _ (List.mem_of_getElem? (i := 23) (by decide +kernel))) rfl
theorem tb_1068 : (Cond.code yX7_leadInBestRow cX7_leadInBestRow 8 (some .int)) ∈ TB := TB_mk (tm_5 _ (List.mem_of_getElem? (i := 24) (by decide +kernel))) rfl
theorem tb_1069 : (Cond.methodLink RX7 84 yX7_ushersFor) ∈ TB := TB_mk (tm_5 _ (List.mem_of_getElem? (i := 25) (by decide +kernel))) rfl
theorem tb_1071 : (Cond.instanceMethod yX7_ushersFor) ∈ TB := TB_mk (tm_5 _ (List.mem_of_getElem? (i := 27) (by decide +kernel))) rfl
theorem tb_1072 : (Cond.code yX7_ushersFor cX7_ushersFor 6 (some .int)) ∈ TB := TB_mk (tm_5 _ (List.mem_of_getElem? (i := 28) (by decide +kernel))) rfl
theorem tb_1073 : (Cond.methodLink RX7 87 yX7_withOneMore) ∈ TB := TB_mk (tm_5 _ (List.mem_of_getElem? (i := 29) (by decide +kernel))) rfl
theorem tb_1074 : (Cond.static yX7_withOneMore) ∈ TB := TB_mk (tm_5 _ (List.mem_of_getElem? (i := 30) (by decide +kernel))) rfl
theorem tb_1075 : (Cond.code yX7_withOneMore cX7_withOneMore 3 (some .int)) ∈ TB := TB_mk (tm_5 _ (List.mem_of_getElem? (i := 31) (by decide +kernel))) rfl
theorem tb_1076 : (Cond.methodLink RL 112 yX11_photo) ∈ TB := TB_mk (tm_5 _ (List.mem_of_getElem? (i := 32) (by decide +kernel))) rfl
theorem tb_1077 : (Cond.instanceMethod yX11_photo) ∈ TB := TB_mk (tm_5 _ (List.mem_of_getElem? (i := 33) (by decide +kernel))) rfl
theorem tb_1078 : (Cond.selects RX11 yX11_photo yX11_photo) ∈ TB := TB_mk (tm_5 _ (List.mem_of_getElem? (i := 34) (by decide +kernel))) rfl
theorem tb_1079 : (Cond.code yX11_photo cX11_photo 2 (some .int)) ∈ TB := TB_mk (tm_5 _ (List.mem_of_getElem? (i := 35) (by decide +kernel))) rfl
theorem tb_1080 : (Cond.methodLink RX11 272 yX5_mostApart) ∈ TB := TB_mk (tm_5 _ (List.mem_of_getElem? (i := 36) (by decide +kernel))) rfl
theorem tb_1081 : (Cond.instanceMethod yX5_mostApart) ∈ TB := TB_mk (tm_5 _ (List.mem_of_getElem? (i := 37) (by decide +kernel))) rfl
theorem tb_1082 : (Cond.selects RX5 yX5_mostApart yX5_mostApart) ∈ TB := TB_mk (tm_5 _ (List.mem_of_getElem? (i := 38) (by decide +kernel))) rfl
theorem tb_1083 : (Cond.code yX5_mostApart cX5_mostApart 7 (some .int)) ∈ TB := TB_mk (tm_5 _ (List.mem_of_getElem? (i := 39) (by decide +kernel))) rfl
theorem tb_1084 : (Cond.methodLink RX5 113 arraycopyName) ∈ TB := TB_mk (tm_5 _ (List.mem_of_getElem? (i := 40) (by decide +kernel))) rfl
theorem nb_1085 : (Cond.methodLinkNest RX5 119 yX11_pewOf "WeddingPews") ∈ lw_tbl := tm_5 _ (List.mem_of_getElem? (i := 41) (by decide +kernel))
theorem tb_1086 : (Cond.methodLink RX5 122 yX5_takenPlaces) ∈ TB := TB_mk (tm_5 _ (List.mem_of_getElem? (i := 42) (by decide +kernel))) rfl
theorem tb_1087 : (Cond.static yX5_takenPlaces) ∈ TB := TB_mk (tm_5 _ (List.mem_of_getElem? (i := 43) (by decide +kernel))) rfl
theorem tb_1088 : (Cond.code yX5_takenPlaces cX5_takenPlaces 4 (some .int)) ∈ TB := TB_mk (tm_5 _ (List.mem_of_getElem? (i := 44) (by decide +kernel))) rfl
theorem tb_1089 : (Cond.methodLink RX5 125 yJ6_bitCount_0f7a4) ∈ TB := TB_mk (tm_5 _ (List.mem_of_getElem? (i := 45) (by decide +kernel))) rfl
theorem tb_1090 : (Cond.methodLink RX5 130 yX5_raiseToSubsets) ∈ TB := TB_mk (tm_5 _ (List.mem_of_getElem? (i := 46) (by decide +kernel))) rfl
theorem tb_1092 : (Cond.instanceMethod yX5_raiseToSubsets) ∈ TB := TB_mk (tm_5 _ (List.mem_of_getElem? (i := 48) (by decide +kernel))) rfl
theorem tb_1093 : (Cond.code yX5_raiseToSubsets cX5_raiseToSubsets 3 none) ∈ TB := TB_mk (tm_5 _ (List.mem_of_getElem? (i := 49) (by decide +kernel))) rfl
theorem tb_1094 : (Cond.methodLink RL 116 yX11_hats) ∈ TB := TB_mk (tm_5 _ (List.mem_of_getElem? (i := 50) (by decide +kernel))) rfl
theorem tb_1095 : (Cond.instanceMethod yX11_hats) ∈ TB := TB_mk (tm_5 _ (List.mem_of_getElem? (i := 51) (by decide +kernel))) rfl
theorem tb_1096 : (Cond.selects RX11 yX11_hats yX11_hats) ∈ TB := TB_mk (tm_5 _ (List.mem_of_getElem? (i := 52) (by decide +kernel))) rfl
theorem tb_1097 : (Cond.code yX11_hats cX11_hats 4 (some .int)) ∈ TB := TB_mk (tm_5 _ (List.mem_of_getElem? (i := 53) (by decide +kernel))) rfl
theorem tb_1098 : (Cond.methodLink RX11 275 yX7_heightsInRow) ∈ TB := TB_mk (tm_5 _ (List.mem_of_getElem? (i := 54) (by decide +kernel))) rfl
theorem tb_1099 : (Cond.instanceMethod yX7_heightsInRow) ∈ TB := TB_mk (tm_5 _ (List.mem_of_getElem? (i := 55) (by decide +kernel))) rfl
theorem tb_1100 : (Cond.selects RX7 yX7_heightsInRow yX7_heightsInRow) ∈ TB := TB_mk (tm_5 _ (List.mem_of_getElem? (i := 56) (by decide +kernel))) rfl
theorem tb_1101 : (Cond.code yX7_heightsInRow cX7_heightsInRow 3 (some .int)) ∈ TB := TB_mk (tm_5 _ (List.mem_of_getElem? (i := 57) (by decide +kernel))) rfl
theorem tb_1102 : (Cond.methodLink RX7 91 yX7_seenFromFront) ∈ TB := TB_mk (tm_5 _ (List.mem_of_getElem? (i := 58) (by decide +kernel))) rfl
theorem tb_1104 : (Cond.instanceMethod yX7_seenFromFront) ∈ TB := TB_mk (tm_5 _ (List.mem_of_getElem? (i := 60) (by decide +kernel))) rfl
theorem tb_1105 : (Cond.code yX7_seenFromFront cX7_seenFromFront 5 (some .int)) ∈ TB := TB_mk (tm_5 _ (List.mem_of_getElem? (i := 61) (by decide +kernel))) rfl
theorem tb_1106 : (Cond.methodLink RX7 94 yX7_changesTillRising) ∈ TB := TB_mk (tm_5 _ (List.mem_of_getElem? (i := 62) (by decide +kernel))) rfl
theorem tb_1108 : (Cond.instanceMethod yX7_changesTillRising) ∈ TB := TB_mk (tm_5 _ (List.mem_of_getElem? (i := 64) (by decide +kernel))) rfl
theorem tb_1109 : (Cond.code yX7_changesTillRising cX7_changesTillRising 5 (some .int)) ∈ TB := TB_mk (tm_5 _ (List.mem_of_getElem? (i := 65) (by decide +kernel))) rfl
theorem tb_1110 : (Cond.methodLink RX7 97 yX7_longestRising) ∈ TB := TB_mk (tm_5 _ (List.mem_of_getElem? (i := 66) (by decide +kernel))) rfl
theorem tb_1112 : (Cond.instanceMethod yX7_longestRising) ∈ TB := TB_mk (tm_5 _ (List.mem_of_getElem? (i := 68) (by decide +kernel))) rfl
theorem tb_1113 : (Cond.code yX7_longestRising cX7_longestRising 5 (some .int)) ∈ TB := TB_mk (tm_5 _ (List.mem_of_getElem? (i := 69) (by decide +kernel))) rfl
theorem tb_1114 : (Cond.methodLink RL 120 yX11_seed) ∈ TB := TB_mk (tm_5 _ (List.mem_of_getElem? (i := 70) (by decide +kernel))) rfl
theorem tb_1115 : (Cond.instanceMethod yX11_seed) ∈ TB := TB_mk (tm_5 _ (List.mem_of_getElem? (i := 71) (by decide +kernel))) rfl
theorem tb_1116 : (Cond.selects RX11 yX11_seed yX11_seed) ∈ TB := TB_mk (tm_5 _ (List.mem_of_getElem? (i := 72) (by decide +kernel))) rfl
theorem tb_1117 : (Cond.code yX11_seed cX11_seed 2 (some .boolean)) ∈ TB := TB_mk (tm_5 _ (List.mem_of_getElem? (i := 73) (by decide +kernel))) rfl
theorem tb_1118 : (Cond.constant RX11 278 (65535)) ∈ TB := TB_mk (tm_5 _ (List.mem_of_getElem? (i := 74) (by decide +kernel))) rfl
theorem tb_1119 : (Cond.methodLink RL 125 yX11_keep) ∈ TB := TB_mk (tm_5 _ (List.mem_of_getElem? (i := 75) (by decide +kernel))) rfl
theorem tb_1120 : (Cond.instanceMethod yX11_keep) ∈ TB := TB_mk (tm_5 _ (List.mem_of_getElem? (i := 76) (by decide +kernel))) rfl
theorem tb_1121 : (Cond.selects RX11 yX11_keep yX11_keep) ∈ TB := TB_mk (tm_5 _ (List.mem_of_getElem? (i := 77) (by decide +kernel))) rfl
theorem tb_1122 : (Cond.code yX11_keep cX11_keep 1 (some .int)) ∈ TB := TB_mk (tm_5 _ (List.mem_of_getElem? (i := 78) (by decide +kernel))) rfl
theorem tb_1123 : (Cond.methodLink RL 129 yX11_undo) ∈ TB := TB_mk (tm_5 _ (List.mem_of_getElem? (i := 79) (by decide +kernel))) rfl
theorem tb_1124 : (Cond.instanceMethod yX11_undo) ∈ TB := TB_mk (tm_5 _ (List.mem_of_getElem? (i := 80) (by decide +kernel))) rfl
theorem tb_1125 : (Cond.selects RX11 yX11_undo yX11_undo) ∈ TB := TB_mk (tm_5 _ (List.mem_of_getElem? (i := 81) (by decide +kernel))) rfl
theorem tb_1126 : (Cond.code yX11_undo cX11_undo 1 (some .boolean)) ∈ TB := TB_mk (tm_5 _ (List.mem_of_getElem? (i := 82) (by decide +kernel))) rfl
theorem tb_1127 : (Cond.methodLink RL 134 yX11_check) ∈ TB := TB_mk (tm_5 _ (List.mem_of_getElem? (i := 83) (by decide +kernel))) rfl
theorem tb_1128 : (Cond.instanceMethod yX11_check) ∈ TB := TB_mk (tm_5 _ (List.mem_of_getElem? (i := 84) (by decide +kernel))) rfl
theorem tb_1129 : (Cond.selects RX11 yX11_check yX11_check) ∈ TB := TB_mk (tm_5 _ (List.mem_of_getElem? (i := 85) (by decide +kernel))) rfl
theorem tb_1130 : (Cond.code yX11_check cX11_check 4 (some .int)) ∈ TB := TB_mk (tm_5 _ (List.mem_of_getElem? (i := 86) (by decide +kernel))) rfl
theorem tb_1131 : (Cond.methodLink RX11 285 yX11_firstWrongRow) ∈ TB := TB_mk (tm_5 _ (List.mem_of_getElem? (i := 87) (by decide +kernel))) rfl
theorem tb_1133 : (Cond.instanceMethod yX11_firstWrongRow) ∈ TB := TB_mk (tm_5 _ (List.mem_of_getElem? (i := 89) (by decide +kernel))) rfl
theorem tb_1134 : (Cond.code yX11_firstWrongRow cX11_firstWrongRow 4 (some .int)) ∈ TB := TB_mk (tm_5 _ (List.mem_of_getElem? (i := 90) (by decide +kernel))) rfl
theorem tb_1135 : (Cond.methodLink RX11 300 yX8_byteAt) ∈ TB := TB_mk (tm_5 _ (List.mem_of_getElem? (i := 91) (by decide +kernel))) rfl
theorem tb_1136 : (Cond.methodLink RL 138 yX11_count) ∈ TB := TB_mk (tm_5 _ (List.mem_of_getElem? (i := 92) (by decide +kernel))) rfl
theorem tb_1137 : (Cond.instanceMethod yX11_count) ∈ TB := TB_mk (tm_5 _ (List.mem_of_getElem? (i := 93) (by decide +kernel))) rfl
theorem tb_1138 : (Cond.selects RX11 yX11_count yX11_count) ∈ TB := TB_mk (tm_5 _ (List.mem_of_getElem? (i := 94) (by decide +kernel))) rfl
theorem tb_1139 : (Cond.code yX11_count cX11_count 2 (some .int)) ∈ TB := TB_mk (tm_5 _ (List.mem_of_getElem? (i := 95) (by decide +kernel))) rfl
theorem tb_1140 : (Cond.methodLink RX11 288 yX0_sittingOf) ∈ TB := TB_mk (tm_5 _ (List.mem_of_getElem? (i := 96) (by decide +kernel))) rfl
theorem tb_1141 : (Cond.methodLink RX11 294 yX0_sittingOn) ∈ TB := TB_mk (tm_5 _ (List.mem_of_getElem? (i := 97) (by decide +kernel))) rfl
theorem tb_1142 : (Cond.classLink RL 10 RX12) ∈ TB := TB_mk (tm_5 _ (List.mem_of_getElem? (i := 98) (by decide +kernel))) rfl
theorem tb_1143 : (Cond.instantiable RX12 43) ∈ TB := TB_mk (tm_5 _ (List.mem_of_getElem? (i := 99) (by decide +kernel))) rfl
theorem tb_1144 : (Cond.methodLink RL 12 yX12_init) ∈ TB := TB_mk (tm_5 _ (List.mem_of_getElem? (i := 100) (by decide +kernel))) rfl
theorem tb_1145 : (Cond.instanceMethod yX12_init) ∈ TB := TB_mk (tm_5 _ (List.mem_of_getElem? (i := 101) (by decide +kernel))) rfl
theorem tb_1146 : (Cond.code yX12_init cX12_init 2 none) ∈ TB := TB_mk (tm_5 _ (List.mem_of_getElem? (i := 102) (by decide +kernel))) rfl
theorem tb_1147 : (Cond.methodLink RX12 1 objectInit) ∈ TB := TB_mk (tm_5 _ (List.mem_of_getElem? (i := 103) (by decide +kernel))) rfl
theorem tb_1148 : (Cond.fieldLink RX12 7 "WeddingPewsModel" "now" "[I") ∈ TB := TB_mk (tm_5 _ (List.mem_of_getElem? (i := 104) (by decide +kernel))) rfl
theorem tb_1149 : (Cond.fieldLink RX12 13 "WeddingPewsModel" "aside" "[I") ∈ TB := TB_mk (tm_5 _ (List.mem_of_getElem? (i := 105) (by decide +kernel))) rfl
theorem tb_1150 : (Cond.fieldLink RX12 16 "WeddingPewsModel" "kept" "[I") ∈ TB := TB_mk (tm_5 _ (List.mem_of_getElem? (i := 106) (by decide +kernel))) rfl
theorem tb_1151 : (Cond.fieldLink RX12 19 "WeddingPewsModel" "tape" "[B") ∈ TB := TB_mk (tm_5 _ (List.mem_of_getElem? (i := 107) (by decide +kernel))) rfl
theorem tb_1152 : (Cond.fieldLink RX12 112 "WeddingPewsModel" "taped" "I") ∈ TB := TB_mk (tm_5 _ (List.mem_of_getElem? (i := 108) (by decide +kernel))) rfl
theorem tb_1153 : (Cond.fieldLink RX12 120 "WeddingPewsModel" "place0" "I") ∈ TB := TB_mk (tm_5 _ (List.mem_of_getElem? (i := 109) (by decide +kernel))) rfl
theorem tb_1154 : (Cond.fieldLink RX12 123 "WeddingPewsModel" "length0" "I") ∈ TB := TB_mk (tm_5 _ (List.mem_of_getElem? (i := 110) (by decide +kernel))) rfl
theorem tb_1155 : (Cond.fieldLink RX12 130 "WeddingPewsModel" "fault" "I") ∈ TB := TB_mk (tm_5 _ (List.mem_of_getElem? (i := 111) (by decide +kernel))) rfl
theorem tb_1156 : (Cond.fieldLink RX12 137 "WeddingPewsModel" "number0" "I") ∈ TB := TB_mk (tm_5 _ (List.mem_of_getElem? (i := 112) (by decide +kernel))) rfl
theorem tb_1157 : (Cond.fieldLink RX12 148 "WeddingPewsModel" "open" "I") ∈ TB := TB_mk (tm_5 _ (List.mem_of_getElem? (i := 113) (by decide +kernel))) rfl
theorem tb_1158 : (Cond.fieldLink RX12 144 "WeddingPewsModel" "codeMany" "I") ∈ TB := TB_mk (tm_5 _ (List.mem_of_getElem? (i := 114) (by decide +kernel))) rfl
theorem tb_1159 : (Cond.fieldLink RX12 151 "WeddingPewsModel" "waiting" "I") ∈ TB := TB_mk (tm_5 _ (List.mem_of_getElem? (i := 115) (by decide +kernel))) rfl
theorem tb_1160 : (Cond.fieldLink RX12 198 "WeddingPewsModel" "saidMany" "I") ∈ TB := TB_mk (tm_5 _ (List.mem_of_getElem? (i := 116) (by decide +kernel))) rfl
theorem tb_1161 : (Cond.fieldLink RX12 213 "WeddingPewsModel" "clauses" "I") ∈ TB := TB_mk (tm_5 _ (List.mem_of_getElem? (i := 117) (by decide +kernel))) rfl
theorem tb_1162 : (Cond.fieldLink RX12 23 "WeddingPewsModel" "said" "[I") ∈ TB := TB_mk (tm_5 _ (List.mem_of_getElem? (i := 118) (by decide +kernel))) rfl
theorem tb_1163 : (Cond.fieldLink RX12 26 "WeddingPewsModel" "waitsAt" "[I") ∈ TB := TB_mk (tm_5 _ (List.mem_of_getElem? (i := 119) (by decide +kernel))) rfl
theorem tb_1164 : (Cond.fieldLink RX12 29 "WeddingPewsModel" "saidLetter" "[I") ∈ TB := TB_mk (tm_5 _ (List.mem_of_getElem? (i := 120) (by decide +kernel))) rfl
theorem tb_1165 : (Cond.fieldLink RX12 32 "WeddingPewsModel" "saidFrom" "[I") ∈ TB := TB_mk (tm_5 _ (List.mem_of_getElem? (i := 121) (by decide +kernel))) rfl
theorem tb_1166 : (Cond.fieldLink RX12 35 "WeddingPewsModel" "saidHalf" "[I") ∈ TB := TB_mk (tm_5 _ (List.mem_of_getElem? (i := 122) (by decide +kernel))) rfl
theorem tb_1167 : (Cond.fieldLink RX12 38 "WeddingPewsModel" "saidTo" "[I") ∈ TB := TB_mk (tm_5 _ (List.mem_of_getElem? (i := 123) (by decide +kernel))) rfl
theorem tb_1168 : (Cond.fieldLink RX12 41 "WeddingPewsModel" "codes" "[I") ∈ TB := TB_mk (tm_5 _ (List.mem_of_getElem? (i := 124) (by decide +kernel))) rfl
theorem tb_1169 : (Cond.fieldLink RX12 44 "WeddingPewsModel" "clauseOf" "[I") ∈ TB := TB_mk (tm_5 _ (List.mem_of_getElem? (i := 125) (by decide +kernel))) rfl
theorem tb_1170 : (Cond.fieldLink RX12 47 "WeddingPewsModel" "codeFrom" "[I") ∈ TB := TB_mk (tm_5 _ (List.mem_of_getElem? (i := 126) (by decide +kernel))) rfl
theorem tb_1171 : (Cond.fieldLink RX12 50 "WeddingPewsModel" "codeHalf" "[I") ∈ TB := TB_mk (tm_5 _ (List.mem_of_getElem? (i := 127) (by decide +kernel))) rfl
theorem tb_1172 : (Cond.fieldLink RX12 53 "WeddingPewsModel" "codeTo" "[I") ∈ TB := TB_mk (tm_5 _ (List.mem_of_getElem? (i := 128) (by decide +kernel))) rfl
theorem tb_1173 : (Cond.fieldLink RX12 56 "WeddingPewsModel" "stack" "[I") ∈ TB := TB_mk (tm_5 _ (List.mem_of_getElem? (i := 129) (by decide +kernel))) rfl
theorem tb_1174 : (Cond.fieldLink RX12 59 "WeddingPewsModel" "facts" "[I") ∈ TB := TB_mk (tm_5 _ (List.mem_of_getElem? (i := 130) (by decide +kernel))) rfl
theorem tb_1175 : (Cond.fieldLink RX12 62 "WeddingPewsModel" "newLine" "[I") ∈ TB := TB_mk (tm_5 _ (List.mem_of_getElem? (i := 131) (by decide +kernel))) rfl
theorem tb_1176 : (Cond.fieldLink RX12 241 "WeddingPewsModel" "newMany" "I") ∈ TB := TB_mk (tm_5 _ (List.mem_of_getElem? (i := 132) (by decide +kernel))) rfl
theorem tb_1177 : (Cond.fieldLink RX12 247 "WeddingPewsModel" "lines" "I") ∈ TB := TB_mk (tm_5 _ (List.mem_of_getElem? (i := 133) (by decide +kernel))) rfl
theorem tb_1178 : (Cond.fieldLink RX12 295 "WeddingPewsModel" "stoodNow" "I") ∈ TB := TB_mk (tm_5 _ (List.mem_of_getElem? (i := 134) (by decide +kernel))) rfl
theorem tb_1179 : (Cond.fieldLink RX12 282 "WeddingPewsModel" "lastSeat" "I") ∈ TB := TB_mk (tm_5 _ (List.mem_of_getElem? (i := 135) (by decide +kernel))) rfl
theorem tb_1180 : (Cond.fieldLink RX12 279 "WeddingPewsModel" "climbedNow" "I") ∈ TB := TB_mk (tm_5 _ (List.mem_of_getElem? (i := 136) (by decide +kernel))) rfl
theorem tb_1181 : (Cond.fieldLink RX12 65 "WeddingPewsModel" "canSit" "[Z") ∈ TB := TB_mk (tm_5 _ (List.mem_of_getElem? (i := 137) (by decide +kernel))) rfl
theorem tb_1182 : (Cond.fieldLink RX12 69 "WeddingPewsModel" "canNext" "[Z") ∈ TB := TB_mk (tm_5 _ (List.mem_of_getElem? (i := 138) (by decide +kernel))) rfl
theorem tb_1183 : (Cond.fieldLink RX12 72 "WeddingPewsModel" "singersIn" "[I") ∈ TB := TB_mk (tm_5 _ (List.mem_of_getElem? (i := 139) (by decide +kernel))) rfl
theorem tb_1184 : (Cond.fieldLink RX12 75 "WeddingPewsModel" "freeAt" "[I") ∈ TB := TB_mk (tm_5 _ (List.mem_of_getElem? (i := 140) (by decide +kernel))) rfl
theorem tb_1185 : (Cond.fieldLink RX12 78 "WeddingPewsModel" "beginsAt" "[I") ∈ TB := TB_mk (tm_5 _ (List.mem_of_getElem? (i := 141) (by decide +kernel))) rfl
theorem tb_1186 : (Cond.fieldLink RX12 81 "WeddingPewsModel" "leastBy" "[I") ∈ TB := TB_mk (tm_5 _ (List.mem_of_getElem? (i := 142) (by decide +kernel))) rfl
theorem tb_1187 : (Cond.fieldLink RX12 84 "WeddingPewsModel" "mostBy" "[I") ∈ TB := TB_mk (tm_5 _ (List.mem_of_getElem? (i := 143) (by decide +kernel))) rfl
theorem tb_1188 : (Cond.fieldLink RX12 87 "WeddingPewsModel" "mostNext" "[I") ∈ TB := TB_mk (tm_5 _ (List.mem_of_getElem? (i := 144) (by decide +kernel))) rfl
theorem tb_1189 : (Cond.fieldLink RX12 90 "WeddingPewsModel" "risesTo" "[I") ∈ TB := TB_mk (tm_5 _ (List.mem_of_getElem? (i := 145) (by decide +kernel))) rfl
theorem tb_1190 : (Cond.fieldLink RX12 362 "WeddingPewsModel" "isKept" "Z") ∈ TB := TB_mk (tm_5 _ (List.mem_of_getElem? (i := 146) (by decide +kernel))) rfl
theorem tb_1278 : (Cond.arrayClass .boolean) ∈ TB := TB_mk (tm_5 _ (List.mem_of_getElem? (i := 234) (by decide +kernel))) rfl
theorem tb_1279 : (Cond.methodLink RL 17 yX12_coat) ∈ TB := TB_mk (tm_5 _ (List.mem_of_getElem? (i := 235) (by decide +kernel))) rfl
theorem tb_1280 : (Cond.instanceMethod yX12_coat) ∈ TB := TB_mk (tm_5 _ (List.mem_of_getElem? (i := 236) (by decide +kernel))) rfl
theorem tb_1281 : (Cond.selects RX12 yX12_coat yX12_coat) ∈ TB := TB_mk (tm_5 _ (List.mem_of_getElem? (i := 237) (by decide +kernel))) rfl
theorem tb_1282 : (Cond.code yX12_coat cX12_coat 3 (some .boolean)) ∈ TB := TB_mk (tm_5 _ (List.mem_of_getElem? (i := 238) (by decide +kernel))) rfl
theorem tb_1283 : (Cond.methodLink RX12 108 yX12_in) ∈ TB := TB_mk (tm_5 _ (List.mem_of_getElem? (i := 239) (by decide +kernel))) rfl
theorem tb_1284 : (Cond.static yX12_in) ∈ TB := TB_mk (tm_6 _ (List.mem_of_getElem? (i := 0) (by decide +kernel))) rfl
theorem tb_1285 : (Cond.code yX12_in cX12_in 3 (some .boolean)) ∈ TB := TB_mk (tm_6 _ (List.mem_of_getElem? (i := 1) (by decide +kernel))) rfl
theorem tb_1286 : (Cond.methodLink RL 22 yX12_feed) ∈ TB := TB_mk (tm_6 _ (List.mem_of_getElem? (i := 2) (by decide +kernel))) rfl
theorem tb_1287 : (Cond.instanceMethod yX12_feed) ∈ TB := TB_mk (tm_6 _ (List.mem_of_getElem? (i := 3) (by decide +kernel))) rfl
theorem tb_1288 : (Cond.selects RX12 yX12_feed yX12_feed) ∈ TB := TB_mk (tm_6 _ (List.mem_of_getElem? (i := 4) (by decide +kernel))) rfl
theorem tb_1289 : (Cond.code yX12_feed cX12_feed 6 (some .int)) ∈ TB := TB_mk (tm_6 _ (List.mem_of_getElem? (i := 5) (by decide +kernel))) rfl
theorem tb_1290 : (Cond.methodLink RX12 116 yX12_types) ∈ TB := TB_mk (tm_6 _ (List.mem_of_getElem? (i := 6) (by decide +kernel))) rfl
theorem tb_1292 : (Cond.instanceMethod yX12_types) ∈ TB := TB_mk (tm_6 _ (List.mem_of_getElem? (i := 8) (by decide +kernel))) rfl
theorem tb_1293 : (Cond.code yX12_types cX12_types 3 none) ∈ TB := TB_mk (tm_6 _ (List.mem_of_getElem? (i := 9) (by decide +kernel))) rfl
theorem tb_1294 : (Cond.methodLink RL 27 yX12_law) ∈ TB := TB_mk (tm_6 _ (List.mem_of_getElem? (i := 10) (by decide +kernel))) rfl
theorem tb_1295 : (Cond.instanceMethod yX12_law) ∈ TB := TB_mk (tm_6 _ (List.mem_of_getElem? (i := 11) (by decide +kernel))) rfl
theorem tb_1296 : (Cond.selects RX12 yX12_law yX12_law) ∈ TB := TB_mk (tm_6 _ (List.mem_of_getElem? (i := 12) (by decide +kernel))) rfl
theorem tb_1297 : (Cond.code yX12_law cX12_law 4 (some .int)) ∈ TB := TB_mk (tm_6 _ (List.mem_of_getElem? (i := 13) (by decide +kernel))) rfl
theorem tb_1298 : (Cond.methodLink RX12 204 yX12_beginsText) ∈ TB := TB_mk (tm_6 _ (List.mem_of_getElem? (i := 14) (by decide +kernel))) rfl
theorem tb_1300 : (Cond.instanceMethod yX12_beginsText) ∈ TB := TB_mk (tm_6 _ (List.mem_of_getElem? (i := 16) (by decide +kernel))) rfl
theorem tb_1301 : (Cond.code yX12_beginsText cX12_beginsText 2 none) ∈ TB := TB_mk (tm_6 _ (List.mem_of_getElem? (i := 17) (by decide +kernel))) rfl
theorem tb_1302 : (Cond.methodLink RX12 207 yX12_readsRule) ∈ TB := TB_mk (tm_6 _ (List.mem_of_getElem? (i := 18) (by decide +kernel))) rfl
theorem tb_1304 : (Cond.instanceMethod yX12_readsRule) ∈ TB := TB_mk (tm_6 _ (List.mem_of_getElem? (i := 20) (by decide +kernel))) rfl
theorem tb_1305 : (Cond.code yX12_readsRule cX12_readsRule 2 (some .boolean)) ∈ TB := TB_mk (tm_6 _ (List.mem_of_getElem? (i := 21) (by decide +kernel))) rfl
theorem tb_1306 : (Cond.methodLink RX12 126 yX12_here) ∈ TB := TB_mk (tm_6 _ (List.mem_of_getElem? (i := 22) (by decide +kernel))) rfl
theorem tb_1308 : (Cond.instanceMethod yX12_here) ∈ TB := TB_mk (tm_6 _ (List.mem_of_getElem? (i := 24) (by decide +kernel))) rfl
theorem tb_1309 : (Cond.code yX12_here cX12_here 1 (some .int)) ∈ TB := TB_mk (tm_6 _ (List.mem_of_getElem? (i := 25) (by decide +kernel))) rfl
theorem tb_1310 : (Cond.methodLink RX12 133 yX12_wrongAt) ∈ TB := TB_mk (tm_6 _ (List.mem_of_getElem? (i := 26) (by decide +kernel))) rfl
theorem tb_1312 : (Cond.instanceMethod yX12_wrongAt) ∈ TB := TB_mk (tm_6 _ (List.mem_of_getElem? (i := 28) (by decide +kernel))) rfl
theorem tb_1313 : (Cond.code yX12_wrongAt cX12_wrongAt 3 (some .boolean)) ∈ TB := TB_mk (tm_6 _ (List.mem_of_getElem? (i := 29) (by decide +kernel))) rfl
theorem tb_1314 : (Cond.methodLink RX12 183 yX12_readsSum) ∈ TB := TB_mk (tm_6 _ (List.mem_of_getElem? (i := 30) (by decide +kernel))) rfl
theorem tb_1316 : (Cond.instanceMethod yX12_readsSum) ∈ TB := TB_mk (tm_6 _ (List.mem_of_getElem? (i := 32) (by decide +kernel))) rfl
theorem tb_1317 : (Cond.code yX12_readsSum cX12_readsSum 3 (some .boolean)) ∈ TB := TB_mk (tm_6 _ (List.mem_of_getElem? (i := 33) (by decide +kernel))) rfl
theorem tb_1318 : (Cond.methodLink RX12 170 yX12_readsFactor) ∈ TB := TB_mk (tm_6 _ (List.mem_of_getElem? (i := 34) (by decide +kernel))) rfl
theorem tb_1320 : (Cond.instanceMethod yX12_readsFactor) ∈ TB := TB_mk (tm_6 _ (List.mem_of_getElem? (i := 36) (by decide +kernel))) rfl
theorem tb_1321 : (Cond.code yX12_readsFactor cX12_readsFactor 2 (some .boolean)) ∈ TB := TB_mk (tm_6 _ (List.mem_of_getElem? (i := 37) (by decide +kernel))) rfl
theorem tb_1322 : (Cond.methodLink RX12 161 yX12_opens) ∈ TB := TB_mk (tm_6 _ (List.mem_of_getElem? (i := 38) (by decide +kernel))) rfl
theorem tb_1324 : (Cond.instanceMethod yX12_opens) ∈ TB := TB_mk (tm_6 _ (List.mem_of_getElem? (i := 40) (by decide +kernel))) rfl
theorem tb_1325 : (Cond.code yX12_opens cX12_opens 2 (some .boolean)) ∈ TB := TB_mk (tm_6 _ (List.mem_of_getElem? (i := 41) (by decide +kernel))) rfl
theorem tb_1326 : (Cond.constant RX12 147 (1048576)) ∈ TB := TB_mk (tm_6 _ (List.mem_of_getElem? (i := 42) (by decide +kernel))) rfl
theorem tb_1327 : (Cond.methodLink RX12 140 yX12_isDigit) ∈ TB := TB_mk (tm_6 _ (List.mem_of_getElem? (i := 43) (by decide +kernel))) rfl
theorem tb_1329 : (Cond.instanceMethod yX12_isDigit) ∈ TB := TB_mk (tm_6 _ (List.mem_of_getElem? (i := 45) (by decide +kernel))) rfl
theorem tb_1330 : (Cond.code yX12_isDigit cX12_isDigit 1 (some .boolean)) ∈ TB := TB_mk (tm_6 _ (List.mem_of_getElem? (i := 46) (by decide +kernel))) rfl
theorem tb_1331 : (Cond.methodLink RX12 164 yX12_readsNumber) ∈ TB := TB_mk (tm_6 _ (List.mem_of_getElem? (i := 47) (by decide +kernel))) rfl
theorem tb_1333 : (Cond.instanceMethod yX12_readsNumber) ∈ TB := TB_mk (tm_6 _ (List.mem_of_getElem? (i := 49) (by decide +kernel))) rfl
theorem tb_1334 : (Cond.code yX12_readsNumber cX12_readsNumber 2 (some .boolean)) ∈ TB := TB_mk (tm_6 _ (List.mem_of_getElem? (i := 50) (by decide +kernel))) rfl
theorem tb_1335 : (Cond.methodLink RX12 157 yX12_notes) ∈ TB := TB_mk (tm_6 _ (List.mem_of_getElem? (i := 51) (by decide +kernel))) rfl
theorem tb_1337 : (Cond.instanceMethod yX12_notes) ∈ TB := TB_mk (tm_6 _ (List.mem_of_getElem? (i := 53) (by decide +kernel))) rfl
theorem tb_1338 : (Cond.code yX12_notes cX12_notes 3 none) ∈ TB := TB_mk (tm_6 _ (List.mem_of_getElem? (i := 54) (by decide +kernel))) rfl
theorem tb_1339 : (Cond.methodLink RX12 167 yX12_factOf) ∈ TB := TB_mk (tm_6 _ (List.mem_of_getElem? (i := 55) (by decide +kernel))) rfl
theorem tb_1340 : (Cond.static yX12_factOf) ∈ TB := TB_mk (tm_6 _ (List.mem_of_getElem? (i := 56) (by decide +kernel))) rfl
theorem tb_1341 : (Cond.code yX12_factOf cX12_factOf 1 (some .int)) ∈ TB := TB_mk (tm_6 _ (List.mem_of_getElem? (i := 57) (by decide +kernel))) rfl
theorem tb_1342 : (Cond.methodLink RX12 173 yX12_sumSign) ∈ TB := TB_mk (tm_6 _ (List.mem_of_getElem? (i := 58) (by decide +kernel))) rfl
theorem tb_1343 : (Cond.static yX12_sumSign) ∈ TB := TB_mk (tm_6 _ (List.mem_of_getElem? (i := 59) (by decide +kernel))) rfl
theorem tb_1344 : (Cond.code yX12_sumSign cX12_sumSign 1 (some .int)) ∈ TB := TB_mk (tm_6 _ (List.mem_of_getElem? (i := 60) (by decide +kernel))) rfl
theorem tb_1345 : (Cond.methodLink RX12 176 yX12_closesSums) ∈ TB := TB_mk (tm_6 _ (List.mem_of_getElem? (i := 61) (by decide +kernel))) rfl
theorem tb_1347 : (Cond.instanceMethod yX12_closesSums) ∈ TB := TB_mk (tm_6 _ (List.mem_of_getElem? (i := 63) (by decide +kernel))) rfl
theorem tb_1348 : (Cond.code yX12_closesSums cX12_closesSums 2 none) ∈ TB := TB_mk (tm_6 _ (List.mem_of_getElem? (i := 64) (by decide +kernel))) rfl
theorem tb_1349 : (Cond.methodLink RX12 154 yX12_waitTop) ∈ TB := TB_mk (tm_6 _ (List.mem_of_getElem? (i := 65) (by decide +kernel))) rfl
theorem tb_1351 : (Cond.instanceMethod yX12_waitTop) ∈ TB := TB_mk (tm_6 _ (List.mem_of_getElem? (i := 67) (by decide +kernel))) rfl
theorem tb_1352 : (Cond.code yX12_waitTop cX12_waitTop 1 (some .int)) ∈ TB := TB_mk (tm_6 _ (List.mem_of_getElem? (i := 68) (by decide +kernel))) rfl
theorem tb_1353 : (Cond.methodLink RX12 180 yX12_hasOpenSum) ∈ TB := TB_mk (tm_6 _ (List.mem_of_getElem? (i := 69) (by decide +kernel))) rfl
theorem tb_1355 : (Cond.instanceMethod yX12_hasOpenSum) ∈ TB := TB_mk (tm_6 _ (List.mem_of_getElem? (i := 71) (by decide +kernel))) rfl
theorem tb_1356 : (Cond.code yX12_hasOpenSum cX12_hasOpenSum 3 (some .boolean)) ∈ TB := TB_mk (tm_6 _ (List.mem_of_getElem? (i := 72) (by decide +kernel))) rfl
theorem tb_1357 : (Cond.methodLink RX12 201 yX12_readsCondition) ∈ TB := TB_mk (tm_6 _ (List.mem_of_getElem? (i := 73) (by decide +kernel))) rfl
theorem tb_1359 : (Cond.instanceMethod yX12_readsCondition) ∈ TB := TB_mk (tm_6 _ (List.mem_of_getElem? (i := 75) (by decide +kernel))) rfl
theorem tb_1360 : (Cond.code yX12_readsCondition cX12_readsCondition 1 (some .boolean)) ∈ TB := TB_mk (tm_6 _ (List.mem_of_getElem? (i := 76) (by decide +kernel))) rfl
theorem tb_1361 : (Cond.methodLink RX12 189 yX12_readsCompared) ∈ TB := TB_mk (tm_6 _ (List.mem_of_getElem? (i := 77) (by decide +kernel))) rfl
theorem tb_1363 : (Cond.instanceMethod yX12_readsCompared) ∈ TB := TB_mk (tm_6 _ (List.mem_of_getElem? (i := 79) (by decide +kernel))) rfl
theorem tb_1364 : (Cond.code yX12_readsCompared cX12_readsCompared 2 (some .boolean)) ∈ TB := TB_mk (tm_6 _ (List.mem_of_getElem? (i := 80) (by decide +kernel))) rfl
theorem tb_1365 : (Cond.methodLink RX12 186 yX12_endsPiece) ∈ TB := TB_mk (tm_6 _ (List.mem_of_getElem? (i := 81) (by decide +kernel))) rfl
theorem tb_1367 : (Cond.instanceMethod yX12_endsPiece) ∈ TB := TB_mk (tm_6 _ (List.mem_of_getElem? (i := 83) (by decide +kernel))) rfl
theorem tb_1368 : (Cond.code yX12_endsPiece cX12_endsPiece 1 none) ∈ TB := TB_mk (tm_6 _ (List.mem_of_getElem? (i := 84) (by decide +kernel))) rfl
theorem tb_1369 : (Cond.methodLink RX12 192 yX12_lands) ∈ TB := TB_mk (tm_6 _ (List.mem_of_getElem? (i := 85) (by decide +kernel))) rfl
theorem tb_1371 : (Cond.instanceMethod yX12_lands) ∈ TB := TB_mk (tm_6 _ (List.mem_of_getElem? (i := 87) (by decide +kernel))) rfl
theorem tb_1372 : (Cond.code yX12_lands cX12_lands 3 none) ∈ TB := TB_mk (tm_6 _ (List.mem_of_getElem? (i := 88) (by decide +kernel))) rfl
theorem tb_1373 : (Cond.methodLink RX12 195 yX12_jumps) ∈ TB := TB_mk (tm_6 _ (List.mem_of_getElem? (i := 89) (by decide +kernel))) rfl
theorem tb_1375 : (Cond.instanceMethod yX12_jumps) ∈ TB := TB_mk (tm_6 _ (List.mem_of_getElem? (i := 91) (by decide +kernel))) rfl
theorem tb_1376 : (Cond.code yX12_jumps cX12_jumps 2 none) ∈ TB := TB_mk (tm_6 _ (List.mem_of_getElem? (i := 92) (by decide +kernel))) rfl
theorem tb_1377 : (Cond.methodLink RX12 210 yX12_takes) ∈ TB := TB_mk (tm_6 _ (List.mem_of_getElem? (i := 93) (by decide +kernel))) rfl
theorem tb_1379 : (Cond.instanceMethod yX12_takes) ∈ TB := TB_mk (tm_6 _ (List.mem_of_getElem? (i := 95) (by decide +kernel))) rfl
theorem tb_1380 : (Cond.code yX12_takes cX12_takes 2 (some .boolean)) ∈ TB := TB_mk (tm_6 _ (List.mem_of_getElem? (i := 96) (by decide +kernel))) rfl
theorem tb_1381 : (Cond.methodLink RL 31 yX12_list) ∈ TB := TB_mk (tm_6 _ (List.mem_of_getElem? (i := 97) (by decide +kernel))) rfl
theorem tb_1382 : (Cond.instanceMethod yX12_list) ∈ TB := TB_mk (tm_6 _ (List.mem_of_getElem? (i := 98) (by decide +kernel))) rfl
theorem tb_1383 : (Cond.selects RX12 yX12_list yX12_list) ∈ TB := TB_mk (tm_6 _ (List.mem_of_getElem? (i := 99) (by decide +kernel))) rfl
theorem tb_1384 : (Cond.code yX12_list cX12_list 4 (some .int)) ∈ TB := TB_mk (tm_6 _ (List.mem_of_getElem? (i := 100) (by decide +kernel))) rfl
theorem tb_1385 : (Cond.methodLink RX12 244 yX12_readsPart) ∈ TB := TB_mk (tm_6 _ (List.mem_of_getElem? (i := 101) (by decide +kernel))) rfl
theorem tb_1387 : (Cond.instanceMethod yX12_readsPart) ∈ TB := TB_mk (tm_6 _ (List.mem_of_getElem? (i := 103) (by decide +kernel))) rfl
theorem tb_1388 : (Cond.code yX12_readsPart cX12_readsPart 8 (some .boolean)) ∈ TB := TB_mk (tm_6 _ (List.mem_of_getElem? (i := 104) (by decide +kernel))) rfl
theorem tb_1389 : (Cond.methodLink RL 35 yX12_moves) ∈ TB := TB_mk (tm_6 _ (List.mem_of_getElem? (i := 105) (by decide +kernel))) rfl
theorem tb_1390 : (Cond.instanceMethod yX12_moves) ∈ TB := TB_mk (tm_6 _ (List.mem_of_getElem? (i := 106) (by decide +kernel))) rfl
theorem tb_1391 : (Cond.selects RX12 yX12_moves yX12_moves) ∈ TB := TB_mk (tm_6 _ (List.mem_of_getElem? (i := 107) (by decide +kernel))) rfl
theorem tb_1392 : (Cond.code yX12_moves cX12_moves 3 (some .int)) ∈ TB := TB_mk (tm_6 _ (List.mem_of_getElem? (i := 108) (by decide +kernel))) rfl
theorem tb_1393 : (Cond.methodLink RX12 256 yX12_copies) ∈ TB := TB_mk (tm_6 _ (List.mem_of_getElem? (i := 109) (by decide +kernel))) rfl
theorem tb_1394 : (Cond.static yX12_copies) ∈ TB := TB_mk (tm_6 _ (List.mem_of_getElem? (i := 110) (by decide +kernel))) rfl
theorem tb_1395 : (Cond.code yX12_copies cX12_copies 3 none) ∈ TB := TB_mk (tm_6 _ (List.mem_of_getElem? (i := 111) (by decide +kernel))) rfl
theorem tb_1396 : (Cond.methodLink RX12 260 yX12_readsMove) ∈ TB := TB_mk (tm_6 _ (List.mem_of_getElem? (i := 112) (by decide +kernel))) rfl
theorem tb_1398 : (Cond.instanceMethod yX12_readsMove) ∈ TB := TB_mk (tm_6 _ (List.mem_of_getElem? (i := 114) (by decide +kernel))) rfl
theorem tb_1399 : (Cond.code yX12_readsMove cX12_readsMove 4 (some .boolean)) ∈ TB := TB_mk (tm_6 _ (List.mem_of_getElem? (i := 115) (by decide +kernel))) rfl
theorem tb_1400 : (Cond.methodLink RX12 250 yX12_readsSeat) ∈ TB := TB_mk (tm_6 _ (List.mem_of_getElem? (i := 116) (by decide +kernel))) rfl
theorem tb_1402 : (Cond.instanceMethod yX12_readsSeat) ∈ TB := TB_mk (tm_6 _ (List.mem_of_getElem? (i := 118) (by decide +kernel))) rfl
theorem tb_1403 : (Cond.code yX12_readsSeat cX12_readsSeat 2 (some .boolean)) ∈ TB := TB_mk (tm_6 _ (List.mem_of_getElem? (i := 119) (by decide +kernel))) rfl
theorem tb_1404 : (Cond.methodLink RX12 93 yX12_isTaken) ∈ TB := TB_mk (tm_6 _ (List.mem_of_getElem? (i := 120) (by decide +kernel))) rfl
theorem tb_1406 : (Cond.instanceMethod yX12_isTaken) ∈ TB := TB_mk (tm_6 _ (List.mem_of_getElem? (i := 122) (by decide +kernel))) rfl
theorem tb_1407 : (Cond.code yX12_isTaken cX12_isTaken 2 (some .boolean)) ∈ TB := TB_mk (tm_6 _ (List.mem_of_getElem? (i := 123) (by decide +kernel))) rfl
theorem tb_1408 : (Cond.methodLink RX12 253 yX12_swaps) ∈ TB := TB_mk (tm_6 _ (List.mem_of_getElem? (i := 124) (by decide +kernel))) rfl
theorem tb_1410 : (Cond.instanceMethod yX12_swaps) ∈ TB := TB_mk (tm_6 _ (List.mem_of_getElem? (i := 126) (by decide +kernel))) rfl
theorem tb_1411 : (Cond.code yX12_swaps cX12_swaps 4 none) ∈ TB := TB_mk (tm_6 _ (List.mem_of_getElem? (i := 127) (by decide +kernel))) rfl
theorem tb_1412 : (Cond.methodLink RL 39 yX12_come) ∈ TB := TB_mk (tm_6 _ (List.mem_of_getElem? (i := 128) (by decide +kernel))) rfl
theorem tb_1413 : (Cond.instanceMethod yX12_come) ∈ TB := TB_mk (tm_6 _ (List.mem_of_getElem? (i := 129) (by decide +kernel))) rfl
theorem tb_1414 : (Cond.selects RX12 yX12_come yX12_come) ∈ TB := TB_mk (tm_6 _ (List.mem_of_getElem? (i := 130) (by decide +kernel))) rfl
theorem tb_1415 : (Cond.code yX12_come cX12_come 2 (some .int)) ∈ TB := TB_mk (tm_6 _ (List.mem_of_getElem? (i := 131) (by decide +kernel))) rfl
theorem tb_1416 : (Cond.methodLink RX12 304 yX12_theyCome) ∈ TB := TB_mk (tm_6 _ (List.mem_of_getElem? (i := 132) (by decide +kernel))) rfl
theorem tb_1418 : (Cond.instanceMethod yX12_theyCome) ∈ TB := TB_mk (tm_6 _ (List.mem_of_getElem? (i := 134) (by decide +kernel))) rfl
theorem tb_1419 : (Cond.code yX12_theyCome cX12_theyCome 3 none) ∈ TB := TB_mk (tm_6 _ (List.mem_of_getElem? (i := 135) (by decide +kernel))) rfl
theorem tb_1420 : (Cond.methodLink RX12 301 yX12_oneComes) ∈ TB := TB_mk (tm_6 _ (List.mem_of_getElem? (i := 136) (by decide +kernel))) rfl
theorem tb_1422 : (Cond.instanceMethod yX12_oneComes) ∈ TB := TB_mk (tm_6 _ (List.mem_of_getElem? (i := 138) (by decide +kernel))) rfl
theorem tb_1423 : (Cond.code yX12_oneComes cX12_oneComes 4 none) ∈ TB := TB_mk (tm_6 _ (List.mem_of_getElem? (i := 139) (by decide +kernel))) rfl
theorem tb_1424 : (Cond.methodLink RX12 285 yX12_feelsGuest) ∈ TB := TB_mk (tm_6 _ (List.mem_of_getElem? (i := 140) (by decide +kernel))) rfl
theorem tb_1426 : (Cond.instanceMethod yX12_feelsGuest) ∈ TB := TB_mk (tm_6 _ (List.mem_of_getElem? (i := 142) (by decide +kernel))) rfl
theorem tb_1427 : (Cond.code yX12_feelsGuest cX12_feelsGuest 3 none) ∈ TB := TB_mk (tm_6 _ (List.mem_of_getElem? (i := 143) (by decide +kernel))) rfl
theorem tb_1428 : (Cond.methodLink RX12 223 yX12_sideOf) ∈ TB := TB_mk (tm_6 _ (List.mem_of_getElem? (i := 144) (by decide +kernel))) rfl
theorem tb_1429 : (Cond.static yX12_sideOf) ∈ TB := TB_mk (tm_6 _ (List.mem_of_getElem? (i := 145) (by decide +kernel))) rfl
theorem tb_1430 : (Cond.code yX12_sideOf cX12_sideOf 1 (some .int)) ∈ TB := TB_mk (tm_6 _ (List.mem_of_getElem? (i := 146) (by decide +kernel))) rfl
theorem tb_1431 : (Cond.methodLink RX12 101 yX12_familyOf) ∈ TB := TB_mk (tm_6 _ (List.mem_of_getElem? (i := 147) (by decide +kernel))) rfl
theorem tb_1432 : (Cond.static yX12_familyOf) ∈ TB := TB_mk (tm_6 _ (List.mem_of_getElem? (i := 148) (by decide +kernel))) rfl
theorem tb_1433 : (Cond.code yX12_familyOf cX12_familyOf 1 (some .int)) ∈ TB := TB_mk (tm_6 _ (List.mem_of_getElem? (i := 149) (by decide +kernel))) rfl
theorem tb_1434 : (Cond.methodLink RX12 226 yX12_heightOf) ∈ TB := TB_mk (tm_6 _ (List.mem_of_getElem? (i := 150) (by decide +kernel))) rfl
theorem tb_1435 : (Cond.static yX12_heightOf) ∈ TB := TB_mk (tm_6 _ (List.mem_of_getElem? (i := 151) (by decide +kernel))) rfl
theorem tb_1436 : (Cond.code yX12_heightOf cX12_heightOf 1 (some .int)) ∈ TB := TB_mk (tm_6 _ (List.mem_of_getElem? (i := 152) (by decide +kernel))) rfl
theorem tb_1437 : (Cond.methodLink RX12 229 yX12_childOf) ∈ TB := TB_mk (tm_6 _ (List.mem_of_getElem? (i := 153) (by decide +kernel))) rfl
theorem tb_1438 : (Cond.static yX12_childOf) ∈ TB := TB_mk (tm_6 _ (List.mem_of_getElem? (i := 154) (by decide +kernel))) rfl
theorem tb_1439 : (Cond.code yX12_childOf cX12_childOf 1 (some .int)) ∈ TB := TB_mk (tm_6 _ (List.mem_of_getElem? (i := 155) (by decide +kernel))) rfl
theorem tb_1440 : (Cond.methodLink RX12 232 yX12_singerOf) ∈ TB := TB_mk (tm_6 _ (List.mem_of_getElem? (i := 156) (by decide +kernel))) rfl
theorem tb_1441 : (Cond.static yX12_singerOf) ∈ TB := TB_mk (tm_6 _ (List.mem_of_getElem? (i := 157) (by decide +kernel))) rfl
theorem tb_1442 : (Cond.code yX12_singerOf cX12_singerOf 1 (some .int)) ∈ TB := TB_mk (tm_6 _ (List.mem_of_getElem? (i := 158) (by decide +kernel))) rfl
theorem tb_1443 : (Cond.methodLink RX12 235 yX12_sittersOn) ∈ TB := TB_mk (tm_6 _ (List.mem_of_getElem? (i := 159) (by decide +kernel))) rfl
theorem tb_1445 : (Cond.instanceMethod yX12_sittersOn) ∈ TB := TB_mk (tm_6 _ (List.mem_of_getElem? (i := 161) (by decide +kernel))) rfl
theorem tb_1446 : (Cond.code yX12_sittersOn cX12_sittersOn 4 (some .int)) ∈ TB := TB_mk (tm_6 _ (List.mem_of_getElem? (i := 162) (by decide +kernel))) rfl
theorem tb_1447 : (Cond.methodLink RX12 97 yX12_sittersIn) ∈ TB := TB_mk (tm_6 _ (List.mem_of_getElem? (i := 163) (by decide +kernel))) rfl
theorem tb_1449 : (Cond.instanceMethod yX12_sittersIn) ∈ TB := TB_mk (tm_6 _ (List.mem_of_getElem? (i := 165) (by decide +kernel))) rfl
theorem tb_1450 : (Cond.code yX12_sittersIn cX12_sittersIn 4 (some .int)) ∈ TB := TB_mk (tm_6 _ (List.mem_of_getElem? (i := 166) (by decide +kernel))) rfl
theorem tb_1451 : (Cond.methodLink RX12 273 yX12_byLaw) ∈ TB := TB_mk (tm_6 _ (List.mem_of_getElem? (i := 167) (by decide +kernel))) rfl
theorem tb_1453 : (Cond.instanceMethod yX12_byLaw) ∈ TB := TB_mk (tm_6 _ (List.mem_of_getElem? (i := 169) (by decide +kernel))) rfl
theorem tb_1454 : (Cond.code yX12_byLaw cX12_byLaw 5 (some .int)) ∈ TB := TB_mk (tm_6 _ (List.mem_of_getElem? (i := 170) (by decide +kernel))) rfl
theorem tb_1455 : (Cond.methodLink RX12 220 yX12_comesTo) ∈ TB := TB_mk (tm_6 _ (List.mem_of_getElem? (i := 171) (by decide +kernel))) rfl
theorem tb_1457 : (Cond.instanceMethod yX12_comesTo) ∈ TB := TB_mk (tm_6 _ (List.mem_of_getElem? (i := 173) (by decide +kernel))) rfl
theorem tb_1458 : (Cond.code yX12_comesTo cX12_comesTo 8 (some .int)) ∈ TB := TB_mk (tm_6 _ (List.mem_of_getElem? (i := 174) (by decide +kernel))) rfl
theorem tb_1459 : (Cond.methodLink RX12 216 yX12_reckon) ∈ TB := TB_mk (tm_6 _ (List.mem_of_getElem? (i := 175) (by decide +kernel))) rfl
theorem tb_1460 : (Cond.static yX12_reckon) ∈ TB := TB_mk (tm_6 _ (List.mem_of_getElem? (i := 176) (by decide +kernel))) rfl
theorem tb_1461 : (Cond.code yX12_reckon cX12_reckon 3 (some .int)) ∈ TB := TB_mk (tm_6 _ (List.mem_of_getElem? (i := 177) (by decide +kernel))) rfl
theorem tb_1462 : (Cond.constant RX12 288 (65536)) ∈ TB := TB_mk (tm_6 _ (List.mem_of_getElem? (i := 178) (by decide +kernel))) rfl
theorem tb_1463 : (Cond.methodLink RX12 289 yX12_emptiest) ∈ TB := TB_mk (tm_6 _ (List.mem_of_getElem? (i := 179) (by decide +kernel))) rfl
theorem tb_1465 : (Cond.instanceMethod yX12_emptiest) ∈ TB := TB_mk (tm_6 _ (List.mem_of_getElem? (i := 181) (by decide +kernel))) rfl
theorem tb_1466 : (Cond.code yX12_emptiest cX12_emptiest 4 (some .int)) ∈ TB := TB_mk (tm_6 _ (List.mem_of_getElem? (i := 182) (by decide +kernel))) rfl
theorem tb_1467 : (Cond.methodLink RX12 266 yX12_seatIn) ∈ TB := TB_mk (tm_6 _ (List.mem_of_getElem? (i := 183) (by decide +kernel))) rfl
theorem tb_1469 : (Cond.instanceMethod yX12_seatIn) ∈ TB := TB_mk (tm_6 _ (List.mem_of_getElem? (i := 185) (by decide +kernel))) rfl
theorem tb_1470 : (Cond.code yX12_seatIn cX12_seatIn 6 (some .int)) ∈ TB := TB_mk (tm_6 _ (List.mem_of_getElem? (i := 186) (by decide +kernel))) rfl
theorem tb_1471 : (Cond.methodLink RX12 263 yX12_isFree) ∈ TB := TB_mk (tm_6 _ (List.mem_of_getElem? (i := 187) (by decide +kernel))) rfl
theorem tb_1473 : (Cond.instanceMethod yX12_isFree) ∈ TB := TB_mk (tm_6 _ (List.mem_of_getElem? (i := 189) (by decide +kernel))) rfl
theorem tb_1474 : (Cond.code yX12_isFree cX12_isFree 3 (some .boolean)) ∈ TB := TB_mk (tm_6 _ (List.mem_of_getElem? (i := 190) (by decide +kernel))) rfl
theorem tb_1475 : (Cond.methodLink RX12 292 yX12_dearest) ∈ TB := TB_mk (tm_6 _ (List.mem_of_getElem? (i := 191) (by decide +kernel))) rfl
theorem tb_1477 : (Cond.instanceMethod yX12_dearest) ∈ TB := TB_mk (tm_6 _ (List.mem_of_getElem? (i := 193) (by decide +kernel))) rfl
theorem tb_1478 : (Cond.code yX12_dearest cX12_dearest 6 (some .int)) ∈ TB := TB_mk (tm_6 _ (List.mem_of_getElem? (i := 194) (by decide +kernel))) rfl
theorem tb_1479 : (Cond.methodLink RX12 270 yX12_feelsPew) ∈ TB := TB_mk (tm_6 _ (List.mem_of_getElem? (i := 195) (by decide +kernel))) rfl
theorem tb_1481 : (Cond.instanceMethod yX12_feelsPew) ∈ TB := TB_mk (tm_6 _ (List.mem_of_getElem? (i := 197) (by decide +kernel))) rfl
theorem tb_1482 : (Cond.code yX12_feelsPew cX12_feelsPew 3 none) ∈ TB := TB_mk (tm_6 _ (List.mem_of_getElem? (i := 198) (by decide +kernel))) rfl
theorem tb_1483 : (Cond.methodLink RX12 104 yX12_familyIn) ∈ TB := TB_mk (tm_6 _ (List.mem_of_getElem? (i := 199) (by decide +kernel))) rfl
theorem tb_1485 : (Cond.instanceMethod yX12_familyIn) ∈ TB := TB_mk (tm_6 _ (List.mem_of_getElem? (i := 201) (by decide +kernel))) rfl
theorem tb_1486 : (Cond.code yX12_familyIn cX12_familyIn 5 (some .int)) ∈ TB := TB_mk (tm_6 _ (List.mem_of_getElem? (i := 202) (by decide +kernel))) rfl
theorem tb_1487 : (Cond.methodLink RX12 238 yX12_coatsIn) ∈ TB := TB_mk (tm_6 _ (List.mem_of_getElem? (i := 203) (by decide +kernel))) rfl
theorem tb_1489 : (Cond.instanceMethod yX12_coatsIn) ∈ TB := TB_mk (tm_6 _ (List.mem_of_getElem? (i := 205) (by decide +kernel))) rfl
theorem tb_1490 : (Cond.code yX12_coatsIn cX12_coatsIn 5 (some .int)) ∈ TB := TB_mk (tm_6 _ (List.mem_of_getElem? (i := 206) (by decide +kernel))) rfl
theorem tb_1491 : (Cond.methodLink RX12 298 yX12_sits) ∈ TB := TB_mk (tm_6 _ (List.mem_of_getElem? (i := 207) (by decide +kernel))) rfl
theorem tb_1493 : (Cond.instanceMethod yX12_sits) ∈ TB := TB_mk (tm_6 _ (List.mem_of_getElem? (i := 209) (by decide +kernel))) rfl
theorem tb_1494 : (Cond.code yX12_sits cX12_sits 5 none) ∈ TB := TB_mk (tm_6 _ (List.mem_of_getElem? (i := 210) (by decide +kernel))) rfl
theorem tb_1495 : (Cond.methodLink RX12 276 yX12_holdsAny) ∈ TB := TB_mk (tm_6 _ (List.mem_of_getElem? (i := 211) (by decide +kernel))) rfl
theorem tb_1497 : (Cond.instanceMethod yX12_holdsAny) ∈ TB := TB_mk (tm_6 _ (List.mem_of_getElem? (i := 213) (by decide +kernel))) rfl
theorem tb_1498 : (Cond.code yX12_holdsAny cX12_holdsAny 3 (some .boolean)) ∈ TB := TB_mk (tm_6 _ (List.mem_of_getElem? (i := 214) (by decide +kernel))) rfl
theorem tb_1499 : (Cond.methodLink RL 44 yX12_tried) ∈ TB := TB_mk (tm_6 _ (List.mem_of_getElem? (i := 215) (by decide +kernel))) rfl
theorem tb_1500 : (Cond.instanceMethod yX12_tried) ∈ TB := TB_mk (tm_6 _ (List.mem_of_getElem? (i := 216) (by decide +kernel))) rfl
theorem tb_1501 : (Cond.selects RX12 yX12_tried yX12_tried) ∈ TB := TB_mk (tm_6 _ (List.mem_of_getElem? (i := 217) (by decide +kernel))) rfl
