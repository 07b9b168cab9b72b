set_option maxRecDepth 100000 in
theorem gd_mem {w : Cond} (i : Nat) (h : lw_tbl[i]? = some w) (hg : goodWord w = true) : w ∈ gd_tbl := List.mem_filter.mpr ⟨List.mem_of_getElem? h, hg⟩
set_option maxRecDepth 100000 in
theorem ns_mem {w : Cond} (i : Nat) (h : tables_1[i]? = some w) (hg : isNest w = true) : w ∈ nst_tbl := List.mem_filter.mpr ⟨List.mem_of_getElem? h, hg⟩
set_option maxRecDepth 100000 in
theorem clw_X0 : ∀ w ∈ u_ws RX0 TX0 11, w ∈ gd_tbl := show ∀ w ∈ [(Jvm.Cond.lays "FortyStems$Hand" "FortyStems$Hand" "holds" "I"), (Jvm.Cond.lays "FortyStems$Hand" "FortyStems$Hand" "begin" "I"), (Jvm.Cond.lays "FortyStems$Hand" "FortyStems$Hand" "rule" "I"), (Jvm.Cond.lays "FortyStems$Hand" "FortyStems$Hand" "flowers" "I"), (Jvm.Cond.laysFinal "FortyStems$Hand" "FortyStems$Hand" "kinds" "[I"), (Jvm.Cond.laysFinal "FortyStems$Hand" "FortyStems$Hand" "numbers" "[I"), (Jvm.Cond.laysFinal "FortyStems$Hand" "FortyStems$Hand" "colours" "[I"), (Jvm.Cond.laysFinal "FortyStems$Hand" "FortyStems$Hand" "buckets" "[I"), (Jvm.Cond.lays "FortyStems$Hand" "FortyStems$Hand" "stems" "I"), (Jvm.Cond.laysFinal "FortyStems$Hand" "FortyStems$Hand" "stemFlowers" "[I"), (Jvm.Cond.laysFinal "FortyStems$Hand" "FortyStems$Hand" "stemAngles" "[I")], w ∈ gd_tbl from List.forall_mem_cons.mpr ⟨gd_mem 179 rfl rfl, List.forall_mem_cons.mpr ⟨gd_mem 181 rfl rfl, List.forall_mem_cons.mpr ⟨gd_mem 183 rfl rfl, List.forall_mem_cons.mpr ⟨gd_mem 185 rfl rfl, List.forall_mem_cons.mpr ⟨gd_mem 187 rfl rfl, List.forall_mem_cons.mpr ⟨gd_mem 189 rfl rfl, List.forall_mem_cons.mpr ⟨gd_mem 191 rfl rfl, List.forall_mem_cons.mpr ⟨gd_mem 193 rfl rfl, List.forall_mem_cons.mpr ⟨gd_mem 195 rfl rfl, List.forall_mem_cons.mpr ⟨gd_mem 197 rfl rfl, List.forall_mem_cons.mpr ⟨gd_mem 199 rfl rfl, fun _ h => absurd h List.not_mem_nil⟩⟩⟩⟩⟩⟩⟩⟩⟩⟩⟩
theorem cl_X0 : clOk 0 RX0 TX0 11 tyX0 := ⟨rfl, clw_X0, tyX0_ok, nmX0⟩
set_option maxRecDepth 100000 in
theorem clw_X2 : ∀ w ∈ u_ws RX2 TX2 4, w ∈ gd_tbl := show ∀ w ∈ [(Jvm.Cond.laysFinal "FortyStems$Moment" "FortyStems$Moment" "texts" "LFortyStems$Texts;"), (Jvm.Cond.lays "FortyStems$Moment" "FortyStems$Moment" "rule" "I"), (Jvm.Cond.lays "FortyStems$Moment" "FortyStems$Moment" "kind" "I"), (Jvm.Cond.laysFinal "FortyStems$Moment" "FortyStems$Moment" "names" "[I")], w ∈ gd_tbl from List.forall_mem_cons.mpr ⟨gd_mem 285 rfl rfl, List.forall_mem_cons.mpr ⟨gd_mem 287 rfl rfl, List.forall_mem_cons.mpr ⟨gd_mem 289 rfl rfl, List.forall_mem_cons.mpr ⟨gd_mem 291 rfl rfl, fun _ h => absurd h List.not_mem_nil⟩⟩⟩⟩
theorem cl_X2 : clOk 1 RX2 TX2 4 tyX2 := ⟨rfl, clw_X2, tyX2_ok, nmX2⟩
set_option maxRecDepth 100000 in
theorem clw_X3 : ∀ w ∈ u_ws RX3 TX3 5, w ∈ gd_tbl := show ∀ w ∈ [(Jvm.Cond.laysFinal "FortyStems$Orders" "FortyStems$Orders" "trial" "LFortyStems$Trial;"), (Jvm.Cond.laysFinal "FortyStems$Orders" "FortyStems$Orders" "flowers" "[I"), (Jvm.Cond.lays "FortyStems$Orders" "FortyStems$Orders" "size" "I"), (Jvm.Cond.lays "FortyStems$Orders" "FortyStems$Orders" "fewest" "I"), (Jvm.Cond.lays "FortyStems$Orders" "FortyStems$Orders" "bestDigits" "I")], w ∈ gd_tbl from List.forall_mem_cons.mpr ⟨gd_mem 341 rfl rfl, List.forall_mem_cons.mpr ⟨gd_mem 343 rfl rfl, List.forall_mem_cons.mpr ⟨gd_mem 345 rfl rfl, List.forall_mem_cons.mpr ⟨gd_mem 347 rfl rfl, List.forall_mem_cons.mpr ⟨gd_mem 349 rfl rfl, fun _ h => absurd h List.not_mem_nil⟩⟩⟩⟩⟩
theorem cl_X3 : clOk 2 RX3 TX3 5 tyX3 := ⟨rfl, clw_X3, tyX3_ok, nmX3⟩
set_option maxRecDepth 100000 in
theorem clw_X4 : ∀ w ∈ u_ws RX4 TX4 9, w ∈ gd_tbl := show ∀ w ∈ [(Jvm.Cond.laysFinal "FortyStems$Reader" "FortyStems$Reader" "tape" "LFortyStems$Tape;"), (Jvm.Cond.laysFinal "FortyStems$Reader" "FortyStems$Reader" "steps" "[I"), (Jvm.Cond.laysFinal "FortyStems$Reader" "FortyStems$Reader" "ends" "[I"), (Jvm.Cond.lays "FortyStems$Reader" "FortyStems$Reader" "made" "I"), (Jvm.Cond.lays "FortyStems$Reader" "FortyStems$Reader" "place" "I"), (Jvm.Cond.lays "FortyStems$Reader" "FortyStems$Reader" "fault" "I"), (Jvm.Cond.lays "FortyStems$Reader" "FortyStems$Reader" "token" "I"), (Jvm.Cond.lays "FortyStems$Reader" "FortyStems$Reader" "start" "I"), (Jvm.Cond.lays "FortyStems$Reader" "FortyStems$Reader" "value" "I")], w ∈ gd_tbl from List.forall_mem_cons.mpr ⟨gd_mem 256 rfl rfl, List.forall_mem_cons.mpr ⟨gd_mem 258 rfl rfl, List.forall_mem_cons.mpr ⟨gd_mem 260 rfl rfl, List.forall_mem_cons.mpr ⟨gd_mem 262 rfl rfl, List.forall_mem_cons.mpr ⟨gd_mem 264 rfl rfl, List.forall_mem_cons.mpr ⟨gd_mem 266 rfl rfl, List.forall_mem_cons.mpr ⟨gd_mem 268 rfl rfl, List.forall_mem_cons.mpr ⟨gd_mem 270 rfl rfl, List.forall_mem_cons.mpr ⟨gd_mem 272 rfl rfl, fun _ h => absurd h List.not_mem_nil⟩⟩⟩⟩⟩⟩⟩⟩⟩
theorem cl_X4 : clOk 3 RX4 TX4 9 tyX4 := ⟨rfl, clw_X4, tyX4_ok, nmX4⟩
set_option maxRecDepth 100000 in
theorem clw_X5 : ∀ w ∈ u_ws RX5 TX5 3, w ∈ gd_tbl := show ∀ w ∈ [(Jvm.Cond.laysFinal "FortyStems$Sheets" "FortyStems$Sheets" "sorts" "[I"), (Jvm.Cond.laysFinal "FortyStems$Sheets" "FortyStems$Sheets" "sizes" "[I"), (Jvm.Cond.laysFinal "FortyStems$Sheets" "FortyStems$Sheets" "items" "[[I")], w ∈ gd_tbl from List.forall_mem_cons.mpr ⟨gd_mem 365 rfl rfl, List.forall_mem_cons.mpr ⟨gd_mem 367 rfl rfl, List.forall_mem_cons.mpr ⟨gd_mem 369 rfl rfl, fun _ h => absurd h List.not_mem_nil⟩⟩⟩
theorem cl_X5 : clOk 4 RX5 TX5 3 tyX5 := ⟨rfl, clw_X5, tyX5_ok, nmX5⟩
set_option maxRecDepth 100000 in
theorem clw_X6 : ∀ w ∈ u_ws RX6 TX6 2, w ∈ gd_tbl := show ∀ w ∈ [(Jvm.Cond.laysFinal "FortyStems$Tape" "FortyStems$Tape" "bytes" "[I"), (Jvm.Cond.lays "FortyStems$Tape" "FortyStems$Tape" "size" "I")], w ∈ gd_tbl from List.forall_mem_cons.mpr ⟨gd_mem 212 rfl rfl, List.forall_mem_cons.mpr ⟨gd_mem 214 rfl rfl, fun _ h => absurd h List.not_mem_nil⟩⟩
theorem cl_X6 : clOk 5 RX6 TX6 2 tyX6 := ⟨rfl, clw_X6, tyX6_ok, nmX6⟩
set_option maxRecDepth 100000 in
theorem clw_X7 : ∀ w ∈ u_ws RX7 TX7 4, w ∈ gd_tbl := show ∀ w ∈ [(Jvm.Cond.lays "FortyStems$Texts" "FortyStems$Texts" "size" "I"), (Jvm.Cond.laysFinal "FortyStems$Texts" "FortyStems$Texts" "steps" "[[I"), (Jvm.Cond.laysFinal "FortyStems$Texts" "FortyStems$Texts" "ends" "[[I"), (Jvm.Cond.laysFinal "FortyStems$Texts" "FortyStems$Texts" "stack" "[I")], w ∈ gd_tbl from List.forall_mem_cons.mpr ⟨gd_mem 230 rfl rfl, List.forall_mem_cons.mpr ⟨gd_mem 232 rfl rfl, List.forall_mem_cons.mpr ⟨gd_mem 234 rfl rfl, List.forall_mem_cons.mpr ⟨gd_mem 236 rfl rfl, fun _ h => absurd h List.not_mem_nil⟩⟩⟩⟩
theorem cl_X7 : clOk 6 RX7 TX7 4 tyX7 := ⟨rfl, clw_X7, tyX7_ok, nmX7⟩
set_option maxRecDepth 100000 in
theorem clw_X8 : ∀ w ∈ u_ws RX8 TX8 8, w ∈ gd_tbl := show ∀ w ∈ [(Jvm.Cond.laysFinal "FortyStems$Trial" "FortyStems$Trial" "hand" "LFortyStems$Hand;"), (Jvm.Cond.laysFinal "FortyStems$Trial" "FortyStems$Trial" "moment" "LFortyStems$Moment;"), (Jvm.Cond.laysFinal "FortyStems$Trial" "FortyStems$Trial" "left" "[I"), (Jvm.Cond.laysFinal "FortyStems$Trial" "FortyStems$Trial" "lying" "[I"), (Jvm.Cond.lays "FortyStems$Trial" "FortyStems$Trial" "stems" "I"), (Jvm.Cond.lays "FortyStems$Trial" "FortyStems$Trial" "angle" "I"), (Jvm.Cond.lays "FortyStems$Trial" "FortyStems$Trial" "room" "I"), (Jvm.Cond.lays "FortyStems$Trial" "FortyStems$Trial" "touching" "I")], w ∈ gd_tbl from List.forall_mem_cons.mpr ⟨gd_mem 311 rfl rfl, List.forall_mem_cons.mpr ⟨gd_mem 313 rfl rfl, List.forall_mem_cons.mpr ⟨gd_mem 315 rfl rfl, List.forall_mem_cons.mpr ⟨gd_mem 317 rfl rfl, List.forall_mem_cons.mpr ⟨gd_mem 319 rfl rfl, List.forall_mem_cons.mpr ⟨gd_mem 321 rfl rfl, List.forall_mem_cons.mpr ⟨gd_mem 323 rfl rfl, List.forall_mem_cons.mpr ⟨gd_mem 325 rfl rfl, fun _ h => absurd h List.not_mem_nil⟩⟩⟩⟩⟩⟩⟩⟩
theorem cl_X8 : clOk 7 RX8 TX8 8 tyX8 := ⟨rfl, clw_X8, tyX8_ok, nmX8⟩
set_option maxRecDepth 100000 in
theorem clw_X9 : ∀ w ∈ u_ws RX9 TX9 10, w ∈ gd_tbl := show ∀ w ∈ [(Jvm.Cond.laysFinal "FortyStems" "FortyStems" "now" "LFortyStems$Hand;"), (Jvm.Cond.laysFinal "FortyStems" "FortyStems" "kept" "LFortyStems$Hand;"), (Jvm.Cond.lays "FortyStems" "FortyStems" "isKept" "Z"), (Jvm.Cond.laysFinal "FortyStems" "FortyStems" "tape" "LFortyStems$Tape;"), (Jvm.Cond.laysFinal "FortyStems" "FortyStems" "texts" "LFortyStems$Texts;"), (Jvm.Cond.laysFinal "FortyStems" "FortyStems" "reader" "LFortyStems$Reader;"), (Jvm.Cond.laysFinal "FortyStems" "FortyStems" "moment" "LFortyStems$Moment;"), (Jvm.Cond.laysFinal "FortyStems" "FortyStems" "trial" "LFortyStems$Trial;"), (Jvm.Cond.laysFinal "FortyStems" "FortyStems" "orders" "LFortyStems$Orders;"), (Jvm.Cond.laysFinal "FortyStems" "FortyStems" "sheets" "LFortyStems$Sheets;")], w ∈ gd_tbl from List.forall_mem_cons.mpr ⟨gd_mem 382 rfl rfl, List.forall_mem_cons.mpr ⟨gd_mem 384 rfl rfl, List.forall_mem_cons.mpr ⟨gd_mem 386 rfl rfl, List.forall_mem_cons.mpr ⟨gd_mem 388 rfl rfl, List.forall_mem_cons.mpr ⟨gd_mem 390 rfl rfl, List.forall_mem_cons.mpr ⟨gd_mem 392 rfl rfl, List.forall_mem_cons.mpr ⟨gd_mem 394 rfl rfl, List.forall_mem_cons.mpr ⟨gd_mem 396 rfl rfl, List.forall_mem_cons.mpr ⟨gd_mem 398 rfl rfl, List.forall_mem_cons.mpr ⟨gd_mem 400 rfl rfl, fun _ h => absurd h List.not_mem_nil⟩⟩⟩⟩⟩⟩⟩⟩⟩⟩
theorem cl_X9 : clOk 8 RX9 TX9 10 tyX9 := ⟨rfl, clw_X9, tyX9_ok, nmX9⟩
set_option maxRecDepth 100000 in
theorem clw_X10 : ∀ w ∈ u_ws RX10 TX10 46, w ∈ gd_tbl := show ∀ w ∈ [(Jvm.Cond.lays "FortyStemsModel" "FortyStemsModel" "thrown" "I"), (Jvm.Cond.laysFinal "FortyStemsModel" "FortyStemsModel" "texts" "[I"), (Jvm.Cond.laysFinal "FortyStemsModel" "FortyStemsModel" "textSize" "[I"), (Jvm.Cond.lays "FortyStemsModel" "FortyStemsModel" "textCount" "I"), (Jvm.Cond.lays "FortyStemsModel" "FortyStemsModel" "rule" "I"), (Jvm.Cond.laysFinal "FortyStemsModel" "FortyStemsModel" "tape" "[I"), (Jvm.Cond.lays "FortyStemsModel" "FortyStemsModel" "taped" "I"), (Jvm.Cond.lays "FortyStemsModel" "FortyStemsModel" "hand" "I"), (Jvm.Cond.lays "FortyStemsModel" "FortyStemsModel" "beginAt" "I"), (Jvm.Cond.laysFinal "FortyStemsModel" "FortyStemsModel" "kinds" "[I"), (Jvm.Cond.laysFinal "FortyStemsModel" "FortyStemsModel" "rows" "[I"), (Jvm.Cond.lays "FortyStemsModel" "FortyStemsModel" "many" "I"), (Jvm.Cond.laysFinal "FortyStemsModel" "FortyStemsModel" "flowerOf" "[I"), (Jvm.Cond.laysFinal "FortyStemsModel" "FortyStemsModel" "angleOf" "[I"), (Jvm.Cond.lays "FortyStemsModel" "FortyStemsModel" "stemMany" "I"), (Jvm.Cond.lays "FortyStemsModel" "FortyStemsModel" "ofStem" "I"), (Jvm.Cond.lays "FortyStemsModel" "FortyStemsModel" "ofColour" "I"), (Jvm.Cond.lays "FortyStemsModel" "FortyStemsModel" "ofNumber" "I"), (Jvm.Cond.lays "FortyStemsModel" "FortyStemsModel" "ofAngle" "I"), (Jvm.Cond.lays "FortyStemsModel" "FortyStemsModel" "ofLeft" "I"), (Jvm.Cond.lays "FortyStemsModel" "FortyStemsModel" "ofRoom" "I"), (Jvm.Cond.lays "FortyStemsModel" "FortyStemsModel" "from" "I"), (Jvm.Cond.lays "FortyStemsModel" "FortyStemsModel" "size" "I"), (Jvm.Cond.lays "FortyStemsModel" "FortyStemsModel" "here" "I"), (Jvm.Cond.lays "FortyStemsModel" "FortyStemsModel" "token" "I"), (Jvm.Cond.lays "FortyStemsModel" "FortyStemsModel" "tokenAt" "I"), (Jvm.Cond.lays "FortyStemsModel" "FortyStemsModel" "tokenWorth" "J"), (Jvm.Cond.lays "FortyStemsModel" "FortyStemsModel" "open" "I"), (Jvm.Cond.lays "FortyStemsModel" "FortyStemsModel" "bad" "Z"), (Jvm.Cond.lays "FortyStemsModel" "FortyStemsModel" "fault" "I"), (Jvm.Cond.lays "FortyStemsModel" "FortyStemsModel" "bestTouching" "I"), (Jvm.Cond.lays "FortyStemsModel" "FortyStemsModel" "bestDigits" "I"), (Jvm.Cond.laysFinal "FortyStemsModel" "FortyStemsModel" "prices" "[I"), (Jvm.Cond.laysFinal "FortyStemsModel" "FortyStemsModel" "anglesThen" "[I"), (Jvm.Cond.laysFinal "FortyStemsModel" "FortyStemsModel" "rowsKept" "[I"), (Jvm.Cond.laysFinal "FortyStemsModel" "FortyStemsModel" "flowersKept" "[I"), (Jvm.Cond.laysFinal "FortyStemsModel" "FortyStemsModel" "anglesKept" "[I"), (Jvm.Cond.lays "FortyStemsModel" "FortyStemsModel" "manyKept" "I"), (Jvm.Cond.lays "FortyStemsModel" "FortyStemsModel" "handKept" "I"), (Jvm.Cond.lays "FortyStemsModel" "FortyStemsModel" "beginKept" "I"), (Jvm.Cond.lays "FortyStemsModel" "FortyStemsModel" "stemsKept" "I"), (Jvm.Cond.lays "FortyStemsModel" "FortyStemsModel" "ruleKept" "I"), (Jvm.Cond.laysFinal "FortyStemsModel" "FortyStemsModel" "isThere" "[Z"), (Jvm.Cond.laysFinal "FortyStemsModel" "FortyStemsModel" "sorts" "[I"), (Jvm.Cond.laysFinal "FortyStemsModel" "FortyStemsModel" "sheetSize" "[I"), (Jvm.Cond.laysFinal "FortyStemsModel" "FortyStemsModel" "items" "[I")], w ∈ gd_tbl from List.forall_mem_cons.mpr ⟨gd_mem 1027 rfl rfl, List.forall_mem_cons.mpr ⟨gd_mem 1029 rfl rfl, List.forall_mem_cons.mpr ⟨gd_mem 1031 rfl rfl, List.forall_mem_cons.mpr ⟨gd_mem 1033 rfl rfl, List.forall_mem_cons.mpr ⟨gd_mem 1035 rfl rfl, List.forall_mem_cons.mpr ⟨gd_mem 1037 rfl rfl, List.forall_mem_cons.mpr ⟨gd_mem 1039 rfl rfl, List.forall_mem_cons.mpr ⟨gd_mem 1041 rfl rfl, List.forall_mem_cons.mpr ⟨gd_mem 1043 rfl rfl, List.forall_mem_cons.mpr ⟨gd_mem 1045 rfl rfl, List.forall_mem_cons.mpr ⟨gd_mem 1047 rfl rfl, List.forall_mem_cons.mpr ⟨gd_mem 1049 rfl rfl, List.forall_mem_cons.mpr ⟨gd_mem 1051 rfl rfl, List.forall_mem_cons.mpr ⟨gd_mem 1053 rfl rfl, List.forall_mem_cons.mpr ⟨gd_mem 1055 rfl rfl, List.forall_mem_cons.mpr ⟨gd_mem 1057 rfl rfl, List.forall_mem_cons.mpr ⟨gd_mem 1059 rfl rfl, List.forall_mem_cons.mpr ⟨gd_mem 1061 rfl rfl, List.forall_mem_cons.mpr ⟨gd_mem 1063 rfl rfl, List.forall_mem_cons.mpr ⟨gd_mem 1065 rfl rfl, List.forall_mem_cons.mpr ⟨gd_mem 1067 rfl rfl, List.forall_mem_cons.mpr ⟨gd_mem 1069 rfl rfl, List.forall_mem_cons.mpr ⟨gd_mem 1071 rfl rfl, List.forall_mem_cons.mpr ⟨gd_mem 1073 rfl rfl, List.forall_mem_cons.mpr ⟨gd_mem 1075 rfl rfl, List.forall_mem_cons.mpr ⟨gd_mem 1077 rfl rfl, List.forall_mem_cons.mpr ⟨gd_mem 1079 rfl rfl, List.forall_mem_cons.mpr ⟨gd_mem 1081 rfl rfl, List.forall_mem_cons.mpr ⟨gd_mem 1083 rfl rfl, List.forall_mem_cons.mpr ⟨gd_mem 1085 rfl rfl, List.forall_mem_cons.mpr ⟨gd_mem 1087 rfl rfl, List.forall_mem_cons.mpr ⟨gd_mem 1089 rfl rfl, List.forall_mem_cons.mpr ⟨gd_mem 1091 rfl rfl, List.forall_mem_cons.mpr ⟨gd_mem 1093 rfl rfl, List.forall_mem_cons.mpr ⟨gd_mem 1095 rfl rfl, List.forall_mem_cons.mpr ⟨gd_mem 1097 rfl rfl, List.forall_mem_cons.mpr ⟨gd_mem 1099 rfl rfl, List.forall_mem_cons.mpr ⟨gd_mem 1101 rfl rfl, List.forall_mem_cons.mpr ⟨gd_mem 1103 rfl rfl, List.forall_mem_cons.mpr ⟨gd_mem 1105 rfl rfl, List.forall_mem_cons.mpr ⟨gd_mem 1107 rfl rfl, List.forall_mem_cons.mpr ⟨gd_mem 1109 rfl rfl, List.forall_mem_cons.mpr ⟨gd_mem 1111 rfl rfl, List.forall_mem_cons.mpr ⟨gd_mem 1113 rfl rfl, List.forall_mem_cons.mpr ⟨gd_mem 1115 rfl rfl, List.forall_mem_cons.mpr ⟨gd_mem 1117 rfl rfl, fun _ h => absurd h List.not_mem_nil⟩⟩⟩⟩⟩⟩⟩⟩⟩⟩⟩⟩⟩⟩⟩⟩⟩⟩⟩⟩⟩⟩⟩⟩⟩⟩⟩⟩⟩⟩⟩⟩⟩⟩⟩⟩⟩⟩⟩⟩⟩⟩⟩⟩⟩⟩
theorem cl_X10 : clOk 9 RX10 TX10 46 tyX10 := ⟨rfl, clw_X10, tyX10_ok, nmX10⟩
theorem so_0 : shp[0]? = some (.inl (8, [4, 11, 2, 18, 20, 36, 39, 41, 44, 46])) := rfl
theorem so_1 : shp[1]? = some (.inl (0, [0, 0, 0, 0, 5, 6, 7, 8, 0, 9, 10])) := rfl
theorem sa_2 : isI 2 6 := rfl
theorem sa_3 : isI 3 6 := rfl
theorem sa_4 : isI 4 6 := rfl
theorem sa_5 : isI 5 6 := rfl
theorem sa_6 : isI 6 40 := rfl
theorem sa_7 : isI 7 40 := rfl
theorem so_8 : shp[8]? = some (.inl (0, [0, 0, 0, 0, 12, 13, 14, 15, 0, 16, 17])) := rfl
theorem sa_9 : isI 9 6 := rfl
theorem sa_10 : isI 10 6 := rfl
theorem sa_11 : isI 11 6 := rfl
theorem sa_12 : isI 12 6 := rfl
theorem sa_13 : isI 13 40 := rfl
theorem sa_14 : isI 14 40 := rfl
theorem so_15 : shp[15]? = some (.inl (5, [19, 0])) := rfl
theorem sa_16 : isI 16 160 := rfl
theorem so_17 : shp[17]? = some (.inl (6, [0, 21, 28, 35])) := rfl
theorem gr_18 : shp[18]? = some (.inr (.inr [19, 20, 21, 22, 23, 24])) := rfl
theorem grp_18 {i : Int} (h : 0 ≤ i ∧ i < 6) : [19, 20, 21, 22, 23, 24][i.toNat]? = some (19 + i.toNat) := by
  have h1 : i.toNat < 6 := by omega
  generalize i.toNat = k at h1
  match k, h1 with
  | 0, _ => rfl
  | 1, _ => rfl
  | 2, _ => rfl
  | 3, _ => rfl
  | 4, _ => rfl
  | 5, _ => rfl
theorem gri_18 {i : Int} (h : 0 ≤ i ∧ i < 6) : isI (19 + i.toNat) 160 := by
  have h1 : i.toNat < 6 := by omega
  generalize i.toNat = k at h1
  match k, h1 with
  | 0, _ => rfl
  | 1, _ => rfl
  | 2, _ => rfl
  | 3, _ => rfl
  | 4, _ => rfl
  | 5, _ => rfl
theorem sa_19 : isI 19 160 := rfl
theorem sa_20 : isI 20 160 := rfl
theorem sa_21 : isI 21 160 := rfl
theorem sa_22 : isI 22 160 := rfl
theorem sa_23 : isI 23 160 := rfl
theorem sa_24 : isI 24 160 := rfl
theorem gr_25 : shp[25]? = some (.inr (.inr [26, 27, 28, 29, 30, 31])) := rfl
theorem grp_25 {i : Int} (h : 0 ≤ i ∧ i < 6) : [26, 27, 28, 29, 30, 31][i.toNat]? = some (26 + i.toNat) := by
  have h1 : i.toNat < 6 := by omega
  generalize i.toNat = k at h1
  match k, h1 with
  | 0, _ => rfl
  | 1, _ => rfl
  | 2, _ => rfl
  | 3, _ => rfl
  | 4, _ => rfl
  | 5, _ => rfl
theorem gri_25 {i : Int} (h : 0 ≤ i ∧ i < 6) : isI (26 + i.toNat) 3 := by
  have h1 : i.toNat < 6 := by omega
  generalize i.toNat = k at h1
  match k, h1 with
  | 0, _ => rfl
  | 1, _ => rfl
  | 2, _ => rfl
  | 3, _ => rfl
  | 4, _ => rfl
  | 5, _ => rfl
theorem sa_26 : isI 26 3 := rfl
theorem sa_27 : isI 27 3 := rfl
theorem sa_28 : isI 28 3 := rfl
theorem sa_29 : isI 29 3 := rfl
theorem sa_30 : isI 30 3 := rfl
theorem sa_31 : isI 31 3 := rfl
theorem sa_32 : isI 32 160 := rfl
theorem so_33 : shp[33]? = some (.inl (3, [18, 37, 38, 0, 0, 0, 0, 0, 0])) := rfl
theorem sa_34 : isI 34 160 := rfl
theorem sa_35 : isI 35 3 := rfl
theorem so_36 : shp[36]? = some (.inl (1, [20, 0, 0, 40])) := rfl
theorem sa_37 : isI 37 6 := rfl
theorem so_38 : shp[38]? = some (.inl (7, [4, 39, 42, 43, 0, 0, 0, 0])) := rfl
theorem sa_39 : isI 39 6 := rfl
theorem sa_40 : isI 40 80 := rfl
theorem so_41 : shp[41]? = some (.inl (2, [41, 45, 0, 0, 0])) := rfl
theorem sa_42 : isI 42 6 := rfl
theorem so_43 : shp[43]? = some (.inl (4, [47, 48, 49])) := rfl
theorem sa_44 : isI 44 4 := rfl
theorem sa_45 : isI 45 4 := rfl
theorem gr_46 : shp[46]? = some (.inr (.inr [47, 48, 49, 50])) := rfl
theorem grp_46 {i : Int} (h : 0 ≤ i ∧ i < 4) : [47, 48, 49, 50][i.toNat]? = some (47 + i.toNat) := by
  have h1 : i.toNat < 4 := by omega
  generalize i.toNat = k at h1
  match k, h1 with
  | 0, _ => rfl
  | 1, _ => rfl
  | 2, _ => rfl
  | 3, _ => rfl
theorem gri_46 {i : Int} (h : 0 ≤ i ∧ i < 4) : isI (47 + i.toNat) 40 := by
  have h1 : i.toNat < 4 := by omega
  generalize i.toNat = k at h1
  match k, h1 with
  | 0, _ => rfl
  | 1, _ => rfl
  | 2, _ => rfl
  | 3, _ => rfl
theorem sa_47 : isI 47 40 := rfl
theorem sa_48 : isI 48 40 := rfl
theorem sa_49 : isI 49 40 := rfl
theorem sa_50 : isI 50 40 := rfl
theorem so_51 : shp[51]? = some (.inl (9, [0, 55, 56, 0, 0, 57, 0, 0, 0, 58, 59, 0, 60, 61, 0, 0, 0, 0, 0, 0, 0, 0, 0, 0, 0, 0, 1, 0, 2, 0, 0, 0, 62, 63, 64, 65, 66, 0, 0, 0, 0, 0, 67, 68, 69, 70])) := rfl
theorem sa_52 : isI 52 960 := rfl
theorem sa_53 : isI 53 6 := rfl
theorem sa_54 : isI 54 160 := rfl
theorem sa_55 : isI 55 6 := rfl
theorem sa_56 : isI 56 18 := rfl
theorem sa_57 : isI 57 40 := rfl
theorem sa_58 : isI 58 40 := rfl
theorem sa_59 : isI 59 6 := rfl
theorem sa_60 : isI 60 20 := rfl
theorem sa_61 : isI 61 18 := rfl
theorem sa_62 : isI 62 40 := rfl
theorem sa_63 : isI 63 40 := rfl
theorem sa_64 : shp[64]? = some (.inr (.inl (1, 4))) := rfl
theorem sa_65 : isI 65 4 := rfl
theorem sa_66 : isI 66 4 := rfl
theorem sa_67 : isI 67 160 := rfl
set_option maxRecDepth 100000 in
theorem fl_X0_9 : fLk RX0 9 (TX0 0) := Or.inl (gd_mem 147 rfl rfl)
set_option maxRecDepth 100000 in
theorem fl_X0_15 : fLk RX0 15 (TX0 1) := Or.inl (gd_mem 149 rfl rfl)
set_option maxRecDepth 100000 in
theorem fl_X0_18 : fLk RX0 18 (TX0 2) := Or.inl (gd_mem 151 rfl rfl)
set_option maxRecDepth 100000 in
theorem fl_X0_21 : fLk RX0 21 (TX0 3) := Or.inl (gd_mem 154 rfl rfl)
set_option maxRecDepth 100000 in
theorem fl_X0_24 : fLk RX0 24 (TX0 4) := Or.inl (gd_mem 157 rfl rfl)
set_option maxRecDepth 100000 in
theorem fl_X0_28 : fLk RX0 28 (TX0 5) := Or.inl (gd_mem 160 rfl rfl)
set_option maxRecDepth 100000 in
theorem fl_X0_31 : fLk RX0 31 (TX0 6) := Or.inl (gd_mem 163 rfl rfl)
set_option maxRecDepth 100000 in
theorem fl_X0_34 : fLk RX0 34 (TX0 7) := Or.inl (gd_mem 165 rfl rfl)
set_option maxRecDepth 100000 in
theorem fl_X0_37 : fLk RX0 37 (TX0 8) := Or.inl (gd_mem 169 rfl rfl)
set_option maxRecDepth 100000 in
theorem fl_X0_40 : fLk RX0 40 (TX0 9) := Or.inl (gd_mem 173 rfl rfl)
set_option maxRecDepth 100000 in
theorem fl_X0_43 : fLk RX0 43 (TX0 10) := Or.inl (gd_mem 176 rfl rfl)
set_option maxRecDepth 100000 in
theorem fl_X10_13 : fLk RX10 13 (TX10 1) := Or.inl (gd_mem 982 rfl rfl)
set_option maxRecDepth 100000 in
theorem fl_X10_17 : fLk RX10 17 (TX10 2) := Or.inl (gd_mem 983 rfl rfl)
set_option maxRecDepth 100000 in
theorem fl_X10_20 : fLk RX10 20 (TX10 5) := Or.inl (gd_mem 986 rfl rfl)
set_option maxRecDepth 100000 in
theorem fl_X10_23 : fLk RX10 23 (TX10 7) := Or.inl (gd_mem 988 rfl rfl)
set_option maxRecDepth 100000 in
theorem fl_X10_26 : fLk RX10 26 (TX10 9) := Or.inl (gd_mem 990 rfl rfl)
set_option maxRecDepth 100000 in
theorem fl_X10_29 : fLk RX10 29 (TX10 10) := Or.inl (gd_mem 991 rfl rfl)
set_option maxRecDepth 100000 in
theorem fl_X10_32 : fLk RX10 32 (TX10 12) := Or.inl (gd_mem 993 rfl rfl)
set_option maxRecDepth 100000 in
theorem fl_X10_35 : fLk RX10 35 (TX10 13) := Or.inl (gd_mem 994 rfl rfl)
set_option maxRecDepth 100000 in
theorem fl_X10_38 : fLk RX10 38 (TX10 32) := Or.inl (gd_mem 1013 rfl rfl)
set_option maxRecDepth 100000 in
theorem fl_X10_41 : fLk RX10 41 (TX10 33) := Or.inl (gd_mem 1014 rfl rfl)
set_option maxRecDepth 100000 in
theorem fl_X10_44 : fLk RX10 44 (TX10 34) := Or.inl (gd_mem 1015 rfl rfl)
set_option maxRecDepth 100000 in
theorem fl_X10_47 : fLk RX10 47 (TX10 35) := Or.inl (gd_mem 1016 rfl rfl)
set_option maxRecDepth 100000 in
theorem fl_X10_50 : fLk RX10 50 (TX10 36) := Or.inl (gd_mem 1017 rfl rfl)
set_option maxRecDepth 100000 in
theorem fl_X10_53 : fLk RX10 53 (TX10 37) := Or.inl (gd_mem 1018 rfl rfl)
set_option maxRecDepth 100000 in
theorem fl_X10_56 : fLk RX10 56 (TX10 42) := Or.inl (gd_mem 1023 rfl rfl)
set_option maxRecDepth 100000 in
theorem fl_X10_60 : fLk RX10 60 (TX10 43) := Or.inl (gd_mem 1024 rfl rfl)
set_option maxRecDepth 100000 in
theorem fl_X10_63 : fLk RX10 63 (TX10 44) := Or.inl (gd_mem 1025 rfl rfl)
set_option maxRecDepth 100000 in
theorem fl_X10_66 : fLk RX10 66 (TX10 45) := Or.inl (gd_mem 1026 rfl rfl)
set_option maxRecDepth 100000 in
theorem fl_X10_73 : fLk RX10 73 (TX10 3) := Or.inl (gd_mem 984 rfl rfl)
set_option maxRecDepth 100000 in
theorem fl_X10_76 : fLk RX10 76 (TX10 11) := Or.inl (gd_mem 992 rfl rfl)
set_option maxRecDepth 100000 in
theorem fl_X10_101 : fLk RX10 101 (TX10 8) := Or.inl (gd_mem 989 rfl rfl)
set_option maxRecDepth 100000 in
theorem fl_X10_104 : fLk RX10 104 (TX10 4) := Or.inl (gd_mem 985 rfl rfl)
set_option maxRecDepth 100000 in
theorem fl_X10_129 : fLk RX10 129 (TX10 6) := Or.inl (gd_mem 987 rfl rfl)
set_option maxRecDepth 100000 in
theorem fl_X10_132 : fLk RX10 132 (TX10 22) := Or.inl (gd_mem 1003 rfl rfl)
set_option maxRecDepth 100000 in
theorem fl_X10_135 : fLk RX10 135 (TX10 21) := Or.inl (gd_mem 1002 rfl rfl)
set_option maxRecDepth 100000 in
theorem fl_X10_138 : fLk RX10 138 (TX10 23) := Or.inl (gd_mem 1004 rfl rfl)
set_option maxRecDepth 100000 in
theorem fl_X10_144 : fLk RX10 144 (TX10 25) := Or.inl (gd_mem 1006 rfl rfl)
set_option maxRecDepth 100000 in
theorem fl_X10_147 : fLk RX10 147 (TX10 24) := Or.inl (gd_mem 1005 rfl rfl)
set_option maxRecDepth 100000 in
theorem fl_X10_158 : fLk RX10 158 (TX10 26) := Or.inl (gd_mem 1007 rfl rfl)
set_option maxRecDepth 100000 in
theorem fl_X10_164 : fLk RX10 164 (TX10 28) := Or.inl (gd_mem 1009 rfl rfl)
set_option maxRecDepth 100000 in
theorem fl_X10_168 : fLk RX10 168 (TX10 29) := Or.inl (gd_mem 1010 rfl rfl)
set_option maxRecDepth 100000 in
theorem fl_X10_175 : fLk RX10 175 (TX10 27) := Or.inl (gd_mem 1008 rfl rfl)
set_option maxRecDepth 100000 in
theorem fl_X10_188 : fLk RX10 188 (TX10 15) := Or.inl (gd_mem 996 rfl rfl)
set_option maxRecDepth 100000 in
theorem fl_X10_191 : fLk RX10 191 (TX10 16) := Or.inl (gd_mem 997 rfl rfl)
set_option maxRecDepth 100000 in
theorem fl_X10_194 : fLk RX10 194 (TX10 17) := Or.inl (gd_mem 998 rfl rfl)
set_option maxRecDepth 100000 in
theorem fl_X10_197 : fLk RX10 197 (TX10 18) := Or.inl (gd_mem 999 rfl rfl)
set_option maxRecDepth 100000 in
theorem fl_X10_200 : fLk RX10 200 (TX10 19) := Or.inl (gd_mem 1000 rfl rfl)
set_option maxRecDepth 100000 in
theorem fl_X10_203 : fLk RX10 203 (TX10 20) := Or.inl (gd_mem 1001 rfl rfl)
set_option maxRecDepth 100000 in
theorem fl_X10_246 : fLk RX10 246 (TX10 14) := Or.inl (gd_mem 995 rfl rfl)
set_option maxRecDepth 100000 in
theorem fl_X10_299 : fLk RX10 299 (TX10 31) := Or.inl (gd_mem 1012 rfl rfl)
set_option maxRecDepth 100000 in
theorem fl_X10_302 : fLk RX10 302 (TX10 30) := Or.inl (gd_mem 1011 rfl rfl)
set_option maxRecDepth 100000 in
theorem fl_X10_340 : fLk RX10 340 (TX10 38) := Or.inl (gd_mem 1019 rfl rfl)
set_option maxRecDepth 100000 in
theorem fl_X10_343 : fLk RX10 343 (TX10 39) := Or.inl (gd_mem 1020 rfl rfl)
set_option maxRecDepth 100000 in
theorem fl_X10_346 : fLk RX10 346 (TX10 40) := Or.inl (gd_mem 1021 rfl rfl)
set_option maxRecDepth 100000 in
theorem fl_X10_349 : fLk RX10 349 (TX10 41) := Or.inl (gd_mem 1022 rfl rfl)
set_option maxRecDepth 100000 in
theorem fl_X2_9 : fLk RX2 9 (TX2 1) := Or.inl (gd_mem 282 rfl rfl)
set_option maxRecDepth 100000 in
theorem fl_X2_15 : fLk RX2 15 (TX2 2) := Or.inl (gd_mem 283 rfl rfl)
set_option maxRecDepth 100000 in
theorem fl_X2_20 : fLk RX2 20 (TX2 3) := Or.inl (gd_mem 284 rfl rfl)
set_option maxRecDepth 100000 in
theorem fl_X2_24 : fLk RX2 24 (TX2 0) := Or.inl (gd_mem 281 rfl rfl)
set_option maxRecDepth 100000 in
theorem fl_X2_32 : fLk RX2 32 (TX0 8) := Or.inr ⟨"FortyStems", ns_mem 56 rfl rfl⟩
set_option maxRecDepth 100000 in
theorem fl_X2_48 : fLk RX2 48 (TX0 2) := Or.inr ⟨"FortyStems", ns_mem 37 rfl rfl⟩
set_option maxRecDepth 100000 in
theorem fl_X2_49 : fLk RX2 49 (TX0 4) := Or.inr ⟨"FortyStems", ns_mem 43 rfl rfl⟩
set_option maxRecDepth 100000 in
theorem fl_X2_52 : fLk RX2 52 (TX0 6) := Or.inr ⟨"FortyStems", ns_mem 49 rfl rfl⟩
set_option maxRecDepth 100000 in
theorem fl_X2_55 : fLk RX2 55 (TX0 5) := Or.inr ⟨"FortyStems", ns_mem 46 rfl rfl⟩
set_option maxRecDepth 100000 in
theorem fl_X2_58 : fLk RX2 58 (TX0 1) := Or.inr ⟨"FortyStems", ns_mem 35 rfl rfl⟩
set_option maxRecDepth 100000 in
theorem fl_X2_61 : fLk RX2 61 (TX0 7) := Or.inr ⟨"FortyStems", ns_mem 52 rfl rfl⟩
set_option maxRecDepth 100000 in
theorem fl_X2_64 : fLk RX2 64 (TX0 0) := Or.inr ⟨"FortyStems", ns_mem 33 rfl rfl⟩
set_option maxRecDepth 100000 in
theorem fl_X3_9 : fLk RX3 9 (TX3 1) := Or.inl (gd_mem 335 rfl rfl)
set_option maxRecDepth 100000 in
theorem fl_X3_15 : fLk RX3 15 (TX3 2) := Or.inl (gd_mem 336 rfl rfl)
set_option maxRecDepth 100000 in
theorem fl_X3_19 : fLk RX3 19 (TX3 3) := Or.inl (gd_mem 337 rfl rfl)
set_option maxRecDepth 100000 in
theorem fl_X3_22 : fLk RX3 22 (TX3 4) := Or.inl (gd_mem 339 rfl rfl)
set_option maxRecDepth 100000 in
theorem fl_X3_25 : fLk RX3 25 (TX3 0) := Or.inl (gd_mem 334 rfl rfl)
set_option maxRecDepth 100000 in
theorem fl_X3_35 : fLk RX3 35 (TX8 7) := Or.inr ⟨"FortyStems", ns_mem 194 rfl rfl⟩
set_option maxRecDepth 100000 in
theorem fl_X3_48 : fLk RX3 48 (TX8 5) := Or.inr ⟨"FortyStems", ns_mem 191 rfl rfl⟩
set_option maxRecDepth 100000 in
theorem fl_X4_9 : fLk RX4 9 (TX4 1) := Or.inl (gd_mem 246 rfl rfl)
set_option maxRecDepth 100000 in
theorem fl_X4_17 : fLk RX4 17 (TX4 2) := Or.inl (gd_mem 248 rfl rfl)
set_option maxRecDepth 100000 in
theorem fl_X4_20 : fLk RX4 20 (TX4 3) := Or.inl (gd_mem 250 rfl rfl)
set_option maxRecDepth 100000 in
theorem fl_X4_24 : fLk RX4 24 (TX4 4) := Or.inl (gd_mem 251 rfl rfl)
set_option maxRecDepth 100000 in
theorem fl_X4_27 : fLk RX4 27 (TX4 5) := Or.inl (gd_mem 252 rfl rfl)
set_option maxRecDepth 100000 in
theorem fl_X4_30 : fLk RX4 30 (TX4 6) := Or.inl (gd_mem 253 rfl rfl)
set_option maxRecDepth 100000 in
theorem fl_X4_33 : fLk RX4 33 (TX4 7) := Or.inl (gd_mem 254 rfl rfl)
set_option maxRecDepth 100000 in
theorem fl_X4_36 : fLk RX4 36 (TX4 8) := Or.inl (gd_mem 255 rfl rfl)
set_option maxRecDepth 100000 in
theorem fl_X4_39 : fLk RX4 39 (TX4 0) := Or.inl (gd_mem 245 rfl rfl)
set_option maxRecDepth 100000 in
theorem fl_X5_9 : fLk RX5 9 (TX5 0) := Or.inl (gd_mem 359 rfl rfl)
set_option maxRecDepth 100000 in
theorem fl_X5_13 : fLk RX5 13 (TX5 1) := Or.inl (gd_mem 361 rfl rfl)
set_option maxRecDepth 100000 in
theorem fl_X5_18 : fLk RX5 18 (TX5 2) := Or.inl (gd_mem 363 rfl rfl)
set_option maxRecDepth 100000 in
theorem fl_X6_9 : fLk RX6 9 (TX6 0) := Or.inl (gd_mem 209 rfl rfl)
set_option maxRecDepth 100000 in
theorem fl_X6_15 : fLk RX6 15 (TX6 1) := Or.inl (gd_mem 210 rfl rfl)
set_option maxRecDepth 100000 in
theorem fl_X7_9 : fLk RX7 9 (TX7 0) := Or.inl (gd_mem 225 rfl rfl)
set_option maxRecDepth 100000 in
theorem fl_X7_17 : fLk RX7 17 (TX7 1) := Or.inl (gd_mem 227 rfl rfl)
set_option maxRecDepth 100000 in
theorem fl_X7_20 : fLk RX7 20 (TX7 2) := Or.inl (gd_mem 228 rfl rfl)
set_option maxRecDepth 100000 in
theorem fl_X7_23 : fLk RX7 23 (TX7 3) := Or.inl (gd_mem 229 rfl rfl)
set_option maxRecDepth 100000 in
theorem fl_X7_31 : fLk RX7 31 (TX4 1) := Or.inr ⟨"FortyStems", ns_mem 132 rfl rfl⟩
set_option maxRecDepth 100000 in
theorem fl_X7_41 : fLk RX7 41 (TX4 2) := Or.inr ⟨"FortyStems", ns_mem 134 rfl rfl⟩
set_option maxRecDepth 100000 in
theorem fl_X8_9 : fLk RX8 9 (TX8 2) := Or.inl (gd_mem 302 rfl rfl)
set_option maxRecDepth 100000 in
theorem fl_X8_15 : fLk RX8 15 (TX8 3) := Or.inl (gd_mem 303 rfl rfl)
set_option maxRecDepth 100000 in
theorem fl_X8_18 : fLk RX8 18 (TX8 4) := Or.inl (gd_mem 304 rfl rfl)
set_option maxRecDepth 100000 in
theorem fl_X8_22 : fLk RX8 22 (TX8 5) := Or.inl (gd_mem 305 rfl rfl)
set_option maxRecDepth 100000 in
theorem fl_X8_25 : fLk RX8 25 (TX8 6) := Or.inl (gd_mem 307 rfl rfl)
set_option maxRecDepth 100000 in
theorem fl_X8_28 : fLk RX8 28 (TX8 7) := Or.inl (gd_mem 308 rfl rfl)
set_option maxRecDepth 100000 in
theorem fl_X8_31 : fLk RX8 31 (TX8 0) := Or.inl (gd_mem 300 rfl rfl)
set_option maxRecDepth 100000 in
theorem fl_X8_35 : fLk RX8 35 (TX8 1) := Or.inl (gd_mem 301 rfl rfl)
set_option maxRecDepth 100000 in
theorem fl_X8_39 : fLk RX8 39 (TX0 8) := Or.inr ⟨"FortyStems", ns_mem 55 rfl rfl⟩
set_option maxRecDepth 100000 in
theorem fl_X8_49 : fLk RX8 49 (TX0 3) := Or.inr ⟨"FortyStems", ns_mem 40 rfl rfl⟩
set_option maxRecDepth 100000 in
theorem fl_X8_52 : fLk RX8 52 (TX0 7) := Or.inr ⟨"FortyStems", ns_mem 51 rfl rfl⟩
set_option maxRecDepth 100000 in
theorem fl_X8_55 : fLk RX8 55 (TX0 9) := Or.inr ⟨"FortyStems", ns_mem 59 rfl rfl⟩
set_option maxRecDepth 100000 in
theorem fl_X8_62 : fLk RX8 62 (TX0 10) := Or.inr ⟨"FortyStems", ns_mem 62 rfl rfl⟩
set_option maxRecDepth 100000 in
theorem fl_X9_10 : fLk RX9 10 (TX9 0) := Or.inl (gd_mem 372 rfl rfl)
set_option maxRecDepth 100000 in
theorem fl_X9_16 : fLk RX9 16 (TX9 1) := Or.inl (gd_mem 373 rfl rfl)
set_option maxRecDepth 100000 in
theorem fl_X9_19 : fLk RX9 19 (TX9 2) := Or.inl (gd_mem 374 rfl rfl)
set_option maxRecDepth 100000 in
theorem fl_X9_26 : fLk RX9 26 (TX9 3) := Or.inl (gd_mem 375 rfl rfl)
set_option maxRecDepth 100000 in
theorem fl_X9_33 : fLk RX9 33 (TX9 4) := Or.inl (gd_mem 376 rfl rfl)
set_option maxRecDepth 100000 in
theorem fl_X9_42 : fLk RX9 42 (TX9 5) := Or.inl (gd_mem 377 rfl rfl)
set_option maxRecDepth 100000 in
theorem fl_X9_51 : fLk RX9 51 (TX9 6) := Or.inl (gd_mem 378 rfl rfl)
set_option maxRecDepth 100000 in
theorem fl_X9_60 : fLk RX9 60 (TX9 7) := Or.inl (gd_mem 379 rfl rfl)
set_option maxRecDepth 100000 in
theorem fl_X9_69 : fLk RX9 69 (TX9 8) := Or.inl (gd_mem 380 rfl rfl)
set_option maxRecDepth 100000 in
theorem fl_X9_76 : fLk RX9 76 (TX9 9) := Or.inl (gd_mem 381 rfl rfl)
set_option maxRecDepth 100000 in
theorem fl_X9_103 : fLk RX9 103 (TX0 4) := Or.inr ⟨"FortyStems", ns_mem 44 rfl rfl⟩
set_option maxRecDepth 100000 in
theorem fl_X9_123 : fLk RX9 123 (TX6 1) := Or.inr ⟨"FortyStems", ns_mem 96 rfl rfl⟩
set_option maxRecDepth 100000 in
theorem fl_X9_143 : fLk RX9 143 (TX0 2) := Or.inr ⟨"FortyStems", ns_mem 38 rfl rfl⟩
set_option maxRecDepth 100000 in
theorem fl_X9_146 : fLk RX9 146 (TX0 7) := Or.inr ⟨"FortyStems", ns_mem 53 rfl rfl⟩
set_option maxRecDepth 100000 in
theorem fl_X9_168 : fLk RX9 168 (TX0 9) := Or.inr ⟨"FortyStems", ns_mem 60 rfl rfl⟩
set_option maxRecDepth 100000 in
theorem fl_X9_171 : fLk RX9 171 (TX0 10) := Or.inr ⟨"FortyStems", ns_mem 63 rfl rfl⟩
set_option maxRecDepth 100000 in
theorem fl_X9_193 : fLk RX9 193 (TX8 7) := Or.inr ⟨"FortyStems", ns_mem 195 rfl rfl⟩
set_option maxRecDepth 100000 in
theorem fl_X9_204 : fLk RX9 204 (TX0 3) := Or.inr ⟨"FortyStems", ns_mem 41 rfl rfl⟩
set_option maxRecDepth 100000 in
theorem fl_X9_223 : fLk RX9 223 (TX5 1) := Or.inr ⟨"FortyStems", ns_mem 247 rfl rfl⟩
set_option maxRecDepth 100000 in
theorem fl_X9_229 : fLk RX9 229 (TX5 2) := Or.inr ⟨"FortyStems", ns_mem 249 rfl rfl⟩
set_option maxRecDepth 100000 in
theorem fl_X9_239 : fLk RX9 239 (TX3 3) := Or.inr ⟨"FortyStems", ns_mem 223 rfl rfl⟩
set_option maxRecDepth 100000 in
theorem fl_X9_242 : fLk RX9 242 (TX3 4) := Or.inr ⟨"FortyStems", ns_mem 225 rfl rfl⟩
set_option maxRecDepth 100000 in
theorem fl_X9_248 : fLk RX9 248 (TX0 8) := Or.inr ⟨"FortyStems", ns_mem 57 rfl rfl⟩
set_option maxRecDepth 100000 in
theorem fl_X9_270 : fLk RX9 270 (TX7 0) := Or.inr ⟨"FortyStems", ns_mem 111 rfl rfl⟩
set_option maxRecDepth 100000 in
theorem fl_X9_302 : fLk RX9 302 (TX5 0) := Or.inr ⟨"FortyStems", ns_mem 245 rfl rfl⟩
set_option maxRecDepth 100000 in
theorem fl_X9_323 : fLk RX9 323 (TX0 5) := Or.inr ⟨"FortyStems", ns_mem 47 rfl rfl⟩
set_option maxRecDepth 100000 in
theorem kc_X10_83 : Cond.constantLong RX10 83 (Int64.ofInt 4) ∈ gd_tbl := gd_mem 1125 rfl rfl
set_option maxRecDepth 100000 in
theorem kc_X10_107 : Cond.constantLong RX10 107 (Int64.ofInt 5) ∈ gd_tbl := gd_mem 1251 rfl rfl
set_option maxRecDepth 100000 in
theorem kc_X10_109 : Cond.constantLong RX10 109 (Int64.ofInt 9) ∈ gd_tbl := gd_mem 1140 rfl rfl
set_option maxRecDepth 100000 in
theorem kc_X10_127 : Cond.constantLong RX10 127 (Int64.ofInt 255) ∈ gd_tbl := gd_mem 1257 rfl rfl
set_option maxRecDepth 100000 in
theorem kc_X10_150 : Cond.constantLong RX10 150 (Int64.ofInt 97) ∈ gd_tbl := gd_mem 1173 rfl rfl
set_option maxRecDepth 100000 in
theorem kc_X10_152 : Cond.constantLong RX10 152 (Int64.ofInt 122) ∈ gd_tbl := gd_mem 1174 rfl rfl
set_option maxRecDepth 100000 in
theorem kc_X10_154 : Cond.constantLong RX10 154 (Int64.ofInt 48) ∈ gd_tbl := gd_mem 1175 rfl rfl
set_option maxRecDepth 100000 in
theorem kc_X10_156 : Cond.constantLong RX10 156 (Int64.ofInt 57) ∈ gd_tbl := gd_mem 1176 rfl rfl
set_option maxRecDepth 100000 in
theorem kc_X10_162 : Cond.constantLong RX10 162 (Int64.ofInt 10) ∈ gd_tbl := gd_mem 1177 rfl rfl
set_option maxRecDepth 100000 in
theorem kc_X10_226 : Cond.constantLong RX10 226 (Int64.ofInt 43) ∈ gd_tbl := gd_mem 1230 rfl rfl
set_option maxRecDepth 100000 in
theorem kc_X10_234 : Cond.constantLong RX10 234 (Int64.ofInt 60) ∈ gd_tbl := gd_mem 1231 rfl rfl
set_option maxRecDepth 100000 in
theorem kc_X10_274 : Cond.constantLong RX10 274 (Int64.ofInt 7) ∈ gd_tbl := gd_mem 1293 rfl rfl
set_option maxRecDepth 100000 in
theorem kc_X10_276 : Cond.constantLong RX10 276 (Int64.ofInt 14) ∈ gd_tbl := gd_mem 1294 rfl rfl
set_option maxRecDepth 100000 in
theorem kc_X10_278 : Cond.constant RX10 278 (Int32.ofInt (-100000)) ∈ gd_tbl := gd_mem 1295 rfl rfl
set_option maxRecDepth 100000 in
theorem kc_X10_291 : Cond.constantLong RX10 291 (Int64.ofInt 99) ∈ gd_tbl := gd_mem 1324 rfl rfl
set_option maxRecDepth 100000 in
theorem kc_X10_308 : Cond.constantLong RX10 308 (Int64.ofInt 6) ∈ gd_tbl := gd_mem 1353 rfl rfl
set_option maxRecDepth 100000 in
theorem kc_X10_316 : Cond.constantLong RX10 316 (Int64.ofInt 9999) ∈ gd_tbl := gd_mem 1362 rfl rfl
set_option maxRecDepth 100000 in
theorem kc_X10_325 : Cond.constantLong RX10 325 (Int64.ofInt 20) ∈ gd_tbl := gd_mem 1383 rfl rfl
set_option maxRecDepth 100000 in
theorem kc_X10_330 : Cond.constant RX10 330 (Int32.ofInt 1103515245) ∈ gd_tbl := gd_mem 1399 rfl rfl
set_option maxRecDepth 100000 in
theorem kc_X10_331 : Cond.constantLong RX10 331 (Int64.ofInt 40) ∈ gd_tbl := gd_mem 1394 rfl rfl
set_option maxRecDepth 100000 in
theorem kc_X10_336 : Cond.constantLong RX10 336 (Int64.ofInt 999) ∈ gd_tbl := gd_mem 1404 rfl rfl
set_option maxRecDepth 100000 in
theorem kc_X10_338 : Cond.constantLong RX10 338 (Int64.ofInt (-4611686018427387904)) ∈ gd_tbl := gd_mem 1405 rfl rfl
set_option maxRecDepth 100000 in
theorem kc_X10_352 : Cond.constantLong RX10 352 (Int64.ofInt 3) ∈ gd_tbl := gd_mem 1348 rfl rfl
set_option maxRecDepth 100000 in
theorem kc_X10_354 : Cond.constantLong RX10 354 (Int64.ofInt (-1)) ∈ gd_tbl := gd_mem 1388 rfl rfl
set_option maxRecDepth 100000 in
theorem kc_X10_356 : Cond.constantLong RX10 356 (Int64.ofInt 2) ∈ gd_tbl := gd_mem 1389 rfl rfl
set_option maxRecDepth 100000 in
theorem kc_X9_192 : Cond.constant RX9 192 (Int32.ofInt (-100000)) ∈ gd_tbl := gd_mem 775 rfl rfl
set_option maxRecDepth 100000 in
theorem kc_X9_283 : Cond.constant RX9 283 (Int32.ofInt 1103515245) ∈ gd_tbl := gd_mem 906 rfl rfl
set_option maxRecDepth 100000 in
theorem kc_X9_284 : Cond.constantLong RX9 284 (Int64.ofInt (-4611686018427387904)) ∈ gd_tbl := gd_mem 911 rfl rfl
theorem pd_0 : (parseMethodDescriptor "(I)C").map (fun d => d.parameters.length) = some 1 := by decide +kernel
theorem pd_1 : (parseMethodDescriptor "()I").map (fun d => d.parameters.length) = some 0 := by decide +kernel
theorem pd_2 : (parseMethodDescriptor "(II)I").map (fun d => d.parameters.length) = some 2 := by decide +kernel
theorem pd_3 : (parseMethodDescriptor "(II)V").map (fun d => d.parameters.length) = some 2 := by decide +kernel
theorem pd_4 : (parseMethodDescriptor "(LFortyStems$Hand;)V").map (fun d => d.parameters.length) = some 1 := by decide +kernel
theorem pd_5 : (parseMethodDescriptor "(III)V").map (fun d => d.parameters.length) = some 3 := by decide +kernel
theorem pd_6 : (parseMethodDescriptor "(I)I").map (fun d => d.parameters.length) = some 1 := by decide +kernel
theorem pd_7 : (parseMethodDescriptor "(I)Z").map (fun d => d.parameters.length) = some 1 := by decide +kernel
theorem pd_8 : (parseMethodDescriptor "(III)I").map (fun d => d.parameters.length) = some 3 := by decide +kernel
theorem pd_9 : (parseMethodDescriptor "(IIII)J").map (fun d => d.parameters.length) = some 4 := by decide +kernel
theorem pd_10 : (parseMethodDescriptor "(IIIII)I").map (fun d => d.parameters.length) = some 5 := by decide +kernel
theorem pd_11 : (parseMethodDescriptor "()V").map (fun d => d.parameters.length) = some 0 := by decide +kernel
theorem pd_12 : (parseMethodDescriptor "(IIII)I").map (fun d => d.parameters.length) = some 4 := by decide +kernel
theorem pd_13 : (parseMethodDescriptor "(JJJ)Z").map (fun d => d.parameters.length) = some 3 := by decide +kernel
theorem pd_14 : (parseMethodDescriptor "(II)Z").map (fun d => d.parameters.length) = some 2 := by decide +kernel
theorem pd_15 : (parseMethodDescriptor "(IIIIIIII)Z").map (fun d => d.parameters.length) = some 8 := by decide +kernel
theorem pd_16 : (parseMethodDescriptor "(I)V").map (fun d => d.parameters.length) = some 1 := by decide +kernel
theorem pd_17 : (parseMethodDescriptor "()Z").map (fun d => d.parameters.length) = some 0 := by decide +kernel
theorem pd_18 : (parseMethodDescriptor "(Z)I").map (fun d => d.parameters.length) = some 1 := by decide +kernel
theorem pd_19 : (parseMethodDescriptor "(IIIIIIIII)V").map (fun d => d.parameters.length) = some 9 := by decide +kernel
theorem pd_20 : (parseMethodDescriptor "(LFortyStems$Hand;I)V").map (fun d => d.parameters.length) = some 2 := by decide +kernel
theorem pd_21 : (parseMethodDescriptor "(IIII)V").map (fun d => d.parameters.length) = some 4 := by decide +kernel
theorem pd_22 : (parseMethodDescriptor "([II)V").map (fun d => d.parameters.length) = some 2 := by decide +kernel
theorem pd_23 : (parseMethodDescriptor "(III)Z").map (fun d => d.parameters.length) = some 3 := by decide +kernel
theorem pd_24 : (parseMethodDescriptor "(LFortyStems$Reader;)I").map (fun d => d.parameters.length) = some 1 := by decide +kernel
theorem pd_25 : (parseMethodDescriptor "(II[I)I").map (fun d => d.parameters.length) = some 3 := by decide +kernel
theorem nb_J0 : RJ0 ≠ "java/lang/invoke/MethodHandle" ∧ RJ0 ≠ "java/lang/invoke/VarHandle" := by decide +kernel
theorem nb_J9 : RJ9 ≠ "java/lang/invoke/MethodHandle" ∧ RJ9 ≠ "java/lang/invoke/VarHandle" := by decide +kernel
theorem nb_X0 : RX0 ≠ "java/lang/invoke/MethodHandle" ∧ RX0 ≠ "java/lang/invoke/VarHandle" := by decide +kernel
theorem nb_X1 : RX1 ≠ "java/lang/invoke/MethodHandle" ∧ RX1 ≠ "java/lang/invoke/VarHandle" := by decide +kernel
theorem nb_X10 : RX10 ≠ "java/lang/invoke/MethodHandle" ∧ RX10 ≠ "java/lang/invoke/VarHandle" := by decide +kernel
theorem nb_X2 : RX2 ≠ "java/lang/invoke/MethodHandle" ∧ RX2 ≠ "java/lang/invoke/VarHandle" := by decide +kernel
theorem nb_X3 : RX3 ≠ "java/lang/invoke/MethodHandle" ∧ RX3 ≠ "java/lang/invoke/VarHandle" := by decide +kernel
theorem nb_X4 : RX4 ≠ "java/lang/invoke/MethodHandle" ∧ RX4 ≠ "java/lang/invoke/VarHandle" := by decide +kernel
theorem nb_X5 : RX5 ≠ "java/lang/invoke/MethodHandle" ∧ RX5 ≠ "java/lang/invoke/VarHandle" := by decide +kernel
theorem nb_X6 : RX6 ≠ "java/lang/invoke/MethodHandle" ∧ RX6 ≠ "java/lang/invoke/VarHandle" := by decide +kernel
theorem nb_X7 : RX7 ≠ "java/lang/invoke/MethodHandle" ∧ RX7 ≠ "java/lang/invoke/VarHandle" := by decide +kernel
theorem nb_X8 : RX8 ≠ "java/lang/invoke/MethodHandle" ∧ RX8 ≠ "java/lang/invoke/VarHandle" := by decide +kernel
theorem nb_X9 : RX9 ≠ "java/lang/invoke/MethodHandle" ∧ RX9 ≠ "java/lang/invoke/VarHandle" := by decide +kernel
theorem pl_J0_charAt_5068e : plainFor yJ0_charAt_5068e = true := by decide +kernel
abbrev md_J0_charAt_5068e : MD := (yJ0_charAt_5068e, cJ0_charAt_5068e, 2, (some .char))
set_option maxRecDepth 100000 in
theorem ok_J0_charAt_5068e : vOk md_J0_charAt_5068e 1 := ⟨⟨gd_mem 569 rfl rfl, gd_mem 128 rfl rfl, ⟨nb_J0.1, nb_J0.2, pd_0⟩, by decide⟩, gd_mem 567 rfl rfl, gd_mem 568 rfl rfl⟩
theorem pl_J0_length_8abf5 : plainFor yJ0_length_8abf5 = true := by decide +kernel
abbrev md_J0_length_8abf5 : MD := (yJ0_length_8abf5, cJ0_length_8abf5, 1, (some .int))
set_option maxRecDepth 100000 in
theorem ok_J0_length_8abf5 : vOk md_J0_length_8abf5 0 := ⟨⟨gd_mem 559 rfl rfl, gd_mem 128 rfl rfl, ⟨nb_J0.1, nb_J0.2, pd_1⟩, by decide⟩, gd_mem 557 rfl rfl, gd_mem 558 rfl rfl⟩
theorem pl_J9_floorMod_7cf53 : plainFor yJ9_floorMod_7cf53 = true := by decide +kernel
abbrev md_J9_floorMod_7cf53 : MD := (yJ9_floorMod_7cf53, cJ9_floorMod_7cf53, 3, (some .int))
set_option maxRecDepth 100000 in
theorem ok_J9_floorMod_7cf53 : sOk md_J9_floorMod_7cf53 2 := ⟨⟨gd_mem 696 rfl rfl, gd_mem 127 rfl rfl, ⟨nb_J9.1, nb_J9.2, pd_2⟩, by decide⟩, gd_mem 695 rfl rfl⟩
theorem pl_J9_max_7cf53 : plainFor yJ9_max_7cf53 = true := by decide +kernel
abbrev md_J9_max_7cf53 : MD := (yJ9_max_7cf53, cJ9_max_7cf53, 2, (some .int))
set_option maxRecDepth 100000 in
theorem ok_J9_max_7cf53 : sOk md_J9_max_7cf53 2 := ⟨⟨gd_mem 481 rfl rfl, gd_mem 127 rfl rfl, ⟨nb_J9.1, nb_J9.2, pd_2⟩, by decide⟩, gd_mem 480 rfl rfl⟩
theorem pl_J9_min_7cf53 : plainFor yJ9_min_7cf53 = true := by decide +kernel
abbrev md_J9_min_7cf53 : MD := (yJ9_min_7cf53, cJ9_min_7cf53, 2, (some .int))
set_option maxRecDepth 100000 in
theorem ok_J9_min_7cf53 : sOk md_J9_min_7cf53 2 := ⟨⟨gd_mem 484 rfl rfl, gd_mem 127 rfl rfl, ⟨nb_J9.1, nb_J9.2, pd_2⟩, by decide⟩, gd_mem 483 rfl rfl⟩
theorem pl_X0_addFlower : plainFor yX0_addFlower = true := by decide +kernel
abbrev md_X0_addFlower : MD := (yX0_addFlower, cX0_addFlower, 3, (some .int))
set_option maxRecDepth 100000 in
theorem ok_X0_addFlower : vOk md_X0_addFlower 2 := ⟨⟨gd_mem 430 rfl rfl, gd_mem 117 rfl rfl, ⟨nb_X0.1, nb_X0.2, pd_2⟩, by decide⟩, gd_mem 429 rfl rfl, gd_mem 3 rfl rfl⟩
theorem pl_X0_addStem : plainFor yX0_addStem = true := by decide +kernel
abbrev md_X0_addStem : MD := (yX0_addStem, cX0_addStem, 3, none)
set_option maxRecDepth 100000 in
theorem ok_X0_addStem : vOk md_X0_addStem 2 := ⟨⟨gd_mem 724 rfl rfl, gd_mem 117 rfl rfl, ⟨nb_X0.1, nb_X0.2, pd_3⟩, by decide⟩, gd_mem 723 rfl rfl, gd_mem 42 rfl rfl⟩
theorem pl_X0_become : plainFor yX0_become = true := by decide +kernel
abbrev md_X0_become : MD := (yX0_become, cX0_become, 2, none)
set_option maxRecDepth 100000 in
theorem ok_X0_become : vOk md_X0_become 1 := ⟨⟨gd_mem 922 rfl rfl, gd_mem 117 rfl rfl, ⟨nb_X0.1, nb_X0.2, pd_4⟩, by decide⟩, gd_mem 921 rfl rfl, gd_mem 71 rfl rfl⟩
theorem pl_X0_change : plainFor yX0_change = true := by decide +kernel
abbrev md_X0_change : MD := (yX0_change, cX0_change, 4, none)
set_option maxRecDepth 100000 in
theorem ok_X0_change : vOk md_X0_change 3 := ⟨⟨gd_mem 422 rfl rfl, gd_mem 117 rfl rfl, ⟨nb_X0.1, nb_X0.2, pd_5⟩, by decide⟩, gd_mem 421 rfl rfl, gd_mem 2 rfl rfl⟩
theorem pl_X0_colourOf : plainFor yX0_colourOf = true := by decide +kernel
abbrev md_X0_colourOf : MD := (yX0_colourOf, cX0_colourOf, 2, (some .int))
set_option maxRecDepth 100000 in
theorem ok_X0_colourOf : vOk md_X0_colourOf 1 := ⟨⟨gd_mem 685 rfl rfl, gd_mem 117 rfl rfl, ⟨nb_X0.1, nb_X0.2, pd_6⟩, by decide⟩, gd_mem 684 rfl rfl, gd_mem 35 rfl rfl⟩
theorem pl_X0_hasFlower : plainFor yX0_hasFlower = true := by decide +kernel
abbrev md_X0_hasFlower : MD := (yX0_hasFlower, cX0_hasFlower, 2, (some .boolean))
set_option maxRecDepth 100000 in
theorem ok_X0_hasFlower : vOk md_X0_hasFlower 1 := ⟨⟨gd_mem 413 rfl rfl, gd_mem 117 rfl rfl, ⟨nb_X0.1, nb_X0.2, pd_7⟩, by decide⟩, gd_mem 412 rfl rfl, gd_mem 0 rfl rfl⟩
theorem pl_X0_hasStem : plainFor yX0_hasStem = true := by decide +kernel
abbrev md_X0_hasStem : MD := (yX0_hasStem, cX0_hasStem, 2, (some .boolean))
set_option maxRecDepth 100000 in
theorem ok_X0_hasStem : vOk md_X0_hasStem 1 := ⟨⟨gd_mem 732 rfl rfl, gd_mem 117 rfl rfl, ⟨nb_X0.1, nb_X0.2, pd_7⟩, by decide⟩, gd_mem 731 rfl rfl, gd_mem 43 rfl rfl⟩
theorem pl_X0_inAllBuckets : plainFor yX0_inAllBuckets = true := by decide +kernel
abbrev md_X0_inAllBuckets : MD := (yX0_inAllBuckets, cX0_inAllBuckets, 3, (some .int))
set_option maxRecDepth 100000 in
theorem ok_X0_inAllBuckets : vOk md_X0_inAllBuckets 0 := ⟨⟨gd_mem 935 rfl rfl, gd_mem 117 rfl rfl, ⟨nb_X0.1, nb_X0.2, pd_1⟩, by decide⟩, gd_mem 934 rfl rfl, gd_mem 72 rfl rfl⟩
theorem pl_X0_lastAngle : plainFor yX0_lastAngle = true := by decide +kernel
abbrev md_X0_lastAngle : MD := (yX0_lastAngle, cX0_lastAngle, 1, (some .int))
set_option maxRecDepth 100000 in
theorem ok_X0_lastAngle : vOk md_X0_lastAngle 0 := ⟨⟨gd_mem 450 rfl rfl, gd_mem 117 rfl rfl, ⟨nb_X0.1, nb_X0.2, pd_1⟩, by decide⟩, gd_mem 449 rfl rfl, gd_mem 6 rfl rfl⟩
theorem pl_X0_removeStem : plainFor yX0_removeStem = true := by decide +kernel
abbrev md_X0_removeStem : MD := (yX0_removeStem, cX0_removeStem, 4, (some .int))
set_option maxRecDepth 100000 in
theorem ok_X0_removeStem : vOk md_X0_removeStem 1 := ⟨⟨gd_mem 736 rfl rfl, gd_mem 117 rfl rfl, ⟨nb_X0.1, nb_X0.2, pd_6⟩, by decide⟩, gd_mem 735 rfl rfl, gd_mem 44 rfl rfl⟩
theorem pl_X0_roomLeft : plainFor yX0_roomLeft = true := by decide +kernel
abbrev md_X0_roomLeft : MD := (yX0_roomLeft, cX0_roomLeft, 3, (some .int))
set_option maxRecDepth 100000 in
theorem ok_X0_roomLeft : vOk md_X0_roomLeft 0 := ⟨⟨gd_mem 454 rfl rfl, gd_mem 117 rfl rfl, ⟨nb_X0.1, nb_X0.2, pd_1⟩, by decide⟩, gd_mem 453 rfl rfl, gd_mem 7 rfl rfl⟩
theorem pl_X0_settingOf : plainFor yX0_settingOf = true := by decide +kernel
abbrev md_X0_settingOf : MD := (yX0_settingOf, cX0_settingOf, 3, (some .int))
set_option maxRecDepth 100000 in
theorem ok_X0_settingOf : vOk md_X0_settingOf 2 := ⟨⟨gd_mem 417 rfl rfl, gd_mem 117 rfl rfl, ⟨nb_X0.1, nb_X0.2, pd_2⟩, by decide⟩, gd_mem 416 rfl rfl, gd_mem 1 rfl rfl⟩
theorem pl_X0_stemsInQuarter : plainFor yX0_stemsInQuarter = true := by decide +kernel
abbrev md_X0_stemsInQuarter : MD := (yX0_stemsInQuarter, cX0_stemsInQuarter, 4, (some .int))
set_option maxRecDepth 100000 in
theorem ok_X0_stemsInQuarter : vOk md_X0_stemsInQuarter 1 := ⟨⟨gd_mem 750 rfl rfl, gd_mem 117 rfl rfl, ⟨nb_X0.1, nb_X0.2, pd_6⟩, by decide⟩, gd_mem 749 rfl rfl, gd_mem 45 rfl rfl⟩
theorem pl_X0_stemsOf : plainFor yX0_stemsOf = true := by decide +kernel
abbrev md_X0_stemsOf : MD := (yX0_stemsOf, cX0_stemsOf, 4, (some .int))
set_option maxRecDepth 100000 in
theorem ok_X0_stemsOf : vOk md_X0_stemsOf 1 := ⟨⟨gd_mem 773 rfl rfl, gd_mem 117 rfl rfl, ⟨nb_X0.1, nb_X0.2, pd_6⟩, by decide⟩, gd_mem 772 rfl rfl, gd_mem 50 rfl rfl⟩
theorem pl_X0_stemsOfColour : plainFor yX0_stemsOfColour = true := by decide +kernel
abbrev md_X0_stemsOfColour : MD := (yX0_stemsOfColour, cX0_stemsOfColour, 4, (some .int))
set_option maxRecDepth 100000 in
theorem ok_X0_stemsOfColour : vOk md_X0_stemsOfColour 1 := ⟨⟨gd_mem 754 rfl rfl, gd_mem 117 rfl rfl, ⟨nb_X0.1, nb_X0.2, pd_6⟩, by decide⟩, gd_mem 753 rfl rfl, gd_mem 46 rfl rfl⟩
theorem pl_X0_thickOf : plainFor yX0_thickOf = true := by decide +kernel
abbrev md_X0_thickOf : MD := (yX0_thickOf, cX0_thickOf, 2, (some .int))
set_option maxRecDepth 100000 in
theorem ok_X0_thickOf : vOk md_X0_thickOf 1 := ⟨⟨gd_mem 458 rfl rfl, gd_mem 117 rfl rfl, ⟨nb_X0.1, nb_X0.2, pd_6⟩, by decide⟩, gd_mem 457 rfl rfl, gd_mem 8 rfl rfl⟩
theorem pl_X10_added : plainFor yX10_added = true := by decide +kernel
abbrev md_X10_added : MD := (yX10_added, cX10_added, 4, (some .int))
set_option maxRecDepth 100000 in
theorem ok_X10_added : vOk md_X10_added 0 := ⟨⟨gd_mem 1213 rfl rfl, gd_mem 125 rfl rfl, ⟨nb_X10.1, nb_X10.2, pd_1⟩, by decide⟩, gd_mem 1212 rfl rfl, gd_mem 92 rfl rfl⟩
theorem pl_X10_atom : plainFor yX10_atom = true := by decide +kernel
abbrev md_X10_atom : MD := (yX10_atom, cX10_atom, 2, (some .int))
set_option maxRecDepth 100000 in
theorem ok_X10_atom : vOk md_X10_atom 0 := ⟨⟨gd_mem 1221 rfl rfl, gd_mem 125 rfl rfl, ⟨nb_X10.1, nb_X10.2, pd_1⟩, by decide⟩, gd_mem 1220 rfl rfl, gd_mem 94 rfl rfl⟩
theorem pl_X10_back : plainFor yX10_back = true := by decide +kernel
abbrev md_X10_back : MD := (yX10_back, cX10_back, 2, (some .int))
set_option maxRecDepth 100000 in
theorem ok_X10_back : vOk md_X10_back 0 := ⟨⟨gd_mem 1413 rfl rfl, gd_mem 125 rfl rfl, ⟨nb_X10.1, nb_X10.2, pd_1⟩, by decide⟩, gd_mem 1411 rfl rfl, gd_mem 1412 rfl rfl⟩
theorem pl_X10_both : plainFor yX10_both = true := by decide +kernel
abbrev md_X10_both : MD := (yX10_both, cX10_both, 3, (some .int))
set_option maxRecDepth 100000 in
theorem ok_X10_both : vOk md_X10_both 0 := ⟨⟨gd_mem 1201 rfl rfl, gd_mem 125 rfl rfl, ⟨nb_X10.1, nb_X10.2, pd_1⟩, by decide⟩, gd_mem 1200 rfl rfl, gd_mem 89 rfl rfl⟩
theorem pl_X10_bunch : plainFor yX10_bunch = true := by decide +kernel
abbrev md_X10_bunch : MD := (yX10_bunch, cX10_bunch, 2, (some .int))
set_option maxRecDepth 100000 in
theorem ok_X10_bunch : vOk md_X10_bunch 1 := ⟨⟨gd_mem 1292 rfl rfl, gd_mem 125 rfl rfl, ⟨nb_X10.1, nb_X10.2, pd_6⟩, by decide⟩, gd_mem 1290 rfl rfl, gd_mem 1291 rfl rfl⟩
theorem pl_X10_byteAt : plainFor yX10_byteAt = true := by decide +kernel
abbrev md_X10_byteAt : MD := (yX10_byteAt, cX10_byteAt, 2, (some .int))
set_option maxRecDepth 100000 in
theorem ok_X10_byteAt : vOk md_X10_byteAt 1 := ⟨⟨gd_mem 1172 rfl rfl, gd_mem 125 rfl rfl, ⟨nb_X10.1, nb_X10.2, pd_6⟩, by decide⟩, gd_mem 1171 rfl rfl, gd_mem 83 rfl rfl⟩
theorem pl_X10_canLay : plainFor yX10_canLay = true := by decide +kernel
abbrev md_X10_canLay : MD := (yX10_canLay, cX10_canLay, 2, (some .boolean))
set_option maxRecDepth 100000 in
theorem ok_X10_canLay : vOk md_X10_canLay 1 := ⟨⟨gd_mem 1332 rfl rfl, gd_mem 125 rfl rfl, ⟨nb_X10.1, nb_X10.2, pd_7⟩, by decide⟩, gd_mem 1331 rfl rfl, gd_mem 108 rfl rfl⟩
theorem pl_X10_cell : plainFor yX10_cell = true := by decide +kernel
abbrev md_X10_cell : MD := (yX10_cell, cX10_cell, 4, (some .int))
set_option maxRecDepth 100000 in
theorem ok_X10_cell : vOk md_X10_cell 3 := ⟨⟨gd_mem 1422 rfl rfl, gd_mem 125 rfl rfl, ⟨nb_X10.1, nb_X10.2, pd_8⟩, by decide⟩, gd_mem 1420 rfl rfl, gd_mem 1421 rfl rfl⟩
theorem pl_X10_chance : plainFor yX10_chance = true := by decide +kernel
abbrev md_X10_chance : MD := (yX10_chance, cX10_chance, 13, (some .long))
set_option maxRecDepth 100000 in
theorem ok_X10_chance : vOk md_X10_chance 4 := ⟨⟨gd_mem 1403 rfl rfl, gd_mem 125 rfl rfl, ⟨nb_X10.1, nb_X10.2, pd_9⟩, by decide⟩, gd_mem 1401 rfl rfl, gd_mem 1402 rfl rfl⟩
theorem pl_X10_copy : plainFor yX10_copy = true := by decide +kernel
abbrev md_X10_copy : MD := (yX10_copy, cX10_copy, 9, (some .int))
set_option maxRecDepth 100000 in
theorem ok_X10_copy : vOk md_X10_copy 5 := ⟨⟨gd_mem 1426 rfl rfl, gd_mem 125 rfl rfl, ⟨nb_X10.1, nb_X10.2, pd_10⟩, by decide⟩, gd_mem 1424 rfl rfl, gd_mem 1425 rfl rfl⟩
theorem pl_X10_cost : plainFor yX10_cost = true := by decide +kernel
abbrev md_X10_cost : MD := (yX10_cost, cX10_cost, 3, (some .int))
set_option maxRecDepth 100000 in
theorem ok_X10_cost : vOk md_X10_cost 0 := ⟨⟨gd_mem 1315 rfl rfl, gd_mem 125 rfl rfl, ⟨nb_X10.1, nb_X10.2, pd_1⟩, by decide⟩, gd_mem 1314 rfl rfl, gd_mem 106 rfl rfl⟩
theorem pl_X10_costsOf : plainFor yX10_costsOf = true := by decide +kernel
abbrev md_X10_costsOf : MD := (yX10_costsOf, cX10_costsOf, 5, (some .int))
set_option maxRecDepth 100000 in
theorem ok_X10_costsOf : vOk md_X10_costsOf 1 := ⟨⟨gd_mem 1238 rfl rfl, gd_mem 125 rfl rfl, ⟨nb_X10.1, nb_X10.2, pd_6⟩, by decide⟩, gd_mem 1237 rfl rfl, gd_mem 97 rfl rfl⟩
theorem pl_X10_count : plainFor yX10_count = true := by decide +kernel
abbrev md_X10_count : MD := (yX10_count, cX10_count, 4, (some .int))
set_option maxRecDepth 100000 in
theorem ok_X10_count : vOk md_X10_count 1 := ⟨⟨gd_mem 1417 rfl rfl, gd_mem 125 rfl rfl, ⟨nb_X10.1, nb_X10.2, pd_6⟩, by decide⟩, gd_mem 1415 rfl rfl, gd_mem 1416 rfl rfl⟩
theorem pl_X10_draw : plainFor yX10_draw = true := by decide +kernel
abbrev md_X10_draw : MD := (yX10_draw, cX10_draw, 4, (some .int))
set_option maxRecDepth 100000 in
theorem ok_X10_draw : vOk md_X10_draw 1 := ⟨⟨gd_mem 1284 rfl rfl, gd_mem 125 rfl rfl, ⟨nb_X10.1, nb_X10.2, pd_6⟩, by decide⟩, gd_mem 1282 rfl rfl, gd_mem 1283 rfl rfl⟩
theorem pl_X10_drawn : plainFor yX10_drawn = true := by decide +kernel
abbrev md_X10_drawn : MD := (yX10_drawn, cX10_drawn, 3, (some .int))
set_option maxRecDepth 100000 in
theorem ok_X10_drawn : vOk md_X10_drawn 2 := ⟨⟨gd_mem 1393 rfl rfl, gd_mem 125 rfl rfl, ⟨nb_X10.1, nb_X10.2, pd_2⟩, by decide⟩, gd_mem 1391 rfl rfl, gd_mem 1392 rfl rfl⟩
theorem pl_X10_draws : plainFor yX10_draws = true := by decide +kernel
abbrev md_X10_draws : MD := (yX10_draws, cX10_draws, 7, (some .int))
set_option maxRecDepth 100000 in
theorem ok_X10_draws : vOk md_X10_draws 2 := ⟨⟨gd_mem 1398 rfl rfl, gd_mem 125 rfl rfl, ⟨nb_X10.1, nb_X10.2, pd_2⟩, by decide⟩, gd_mem 1397 rfl rfl, gd_mem 114 rfl rfl⟩
theorem pl_X10_either : plainFor yX10_either = true := by decide +kernel
abbrev md_X10_either : MD := (yX10_either, cX10_either, 3, (some .int))
set_option maxRecDepth 100000 in
theorem ok_X10_either : vOk md_X10_either 0 := ⟨⟨gd_mem 1197 rfl rfl, gd_mem 125 rfl rfl, ⟨nb_X10.1, nb_X10.2, pd_1⟩, by decide⟩, gd_mem 1196 rfl rfl, gd_mem 88 rfl rfl⟩
theorem pl_X10_even : plainFor yX10_even = true := by decide +kernel
abbrev md_X10_even : MD := (yX10_even, cX10_even, 5, (some .int))
set_option maxRecDepth 100000 in
theorem ok_X10_even : vOk md_X10_even 0 := ⟨⟨gd_mem 1307 rfl rfl, gd_mem 125 rfl rfl, ⟨nb_X10.1, nb_X10.2, pd_1⟩, by decide⟩, gd_mem 1306 rfl rfl, gd_mem 104 rfl rfl⟩
theorem pl_X10_fail : plainFor yX10_fail = true := by decide +kernel
abbrev md_X10_fail : MD := (yX10_fail, cX10_fail, 1, none)
set_option maxRecDepth 100000 in
theorem ok_X10_fail : vOk md_X10_fail 0 := ⟨⟨gd_mem 1193 rfl rfl, gd_mem 125 rfl rfl, ⟨nb_X10.1, nb_X10.2, pd_11⟩, by decide⟩, gd_mem 1192 rfl rfl, gd_mem 87 rfl rfl⟩
theorem pl_X10_feed : plainFor yX10_feed = true := by decide +kernel
abbrev md_X10_feed : MD := (yX10_feed, cX10_feed, 2, (some .int))
set_option maxRecDepth 100000 in
theorem ok_X10_feed : vOk md_X10_feed 1 := ⟨⟨gd_mem 1256 rfl rfl, gd_mem 125 rfl rfl, ⟨nb_X10.1, nb_X10.2, pd_6⟩, by decide⟩, gd_mem 1254 rfl rfl, gd_mem 1255 rfl rfl⟩
theorem pl_X10_film : plainFor yX10_film = true := by decide +kernel
abbrev md_X10_film : MD := (yX10_film, cX10_film, 5, (some .int))
set_option maxRecDepth 100000 in
theorem ok_X10_film : vOk md_X10_film 3 := ⟨⟨gd_mem 1382 rfl rfl, gd_mem 125 rfl rfl, ⟨nb_X10.1, nb_X10.2, pd_8⟩, by decide⟩, gd_mem 1380 rfl rfl, gd_mem 1381 rfl rfl⟩
theorem pl_X10_firstOther : plainFor yX10_firstOther = true := by decide +kernel
abbrev md_X10_firstOther : MD := (yX10_firstOther, cX10_firstOther, 4, (some .int))
set_option maxRecDepth 100000 in
theorem ok_X10_firstOther : vOk md_X10_firstOther 2 := ⟨⟨gd_mem 1374 rfl rfl, gd_mem 125 rfl rfl, ⟨nb_X10.1, nb_X10.2, pd_2⟩, by decide⟩, gd_mem 1373 rfl rfl, gd_mem 112 rfl rfl⟩
theorem pl_X10_flower : plainFor yX10_flower = true := by decide +kernel
abbrev md_X10_flower : MD := (yX10_flower, cX10_flower, 3, (some .int))
set_option maxRecDepth 100000 in
theorem ok_X10_flower : vOk md_X10_flower 2 := ⟨⟨gd_mem 1250 rfl rfl, gd_mem 125 rfl rfl, ⟨nb_X10.1, nb_X10.2, pd_2⟩, by decide⟩, gd_mem 1248 rfl rfl, gd_mem 1249 rfl rfl⟩
theorem pl_X10_flowers : plainFor yX10_flowers = true := by decide +kernel
abbrev md_X10_flowers : MD := (yX10_flowers, cX10_flowers, 8, (some .int))
set_option maxRecDepth 100000 in
theorem ok_X10_flowers : vOk md_X10_flowers 4 := ⟨⟨gd_mem 1430 rfl rfl, gd_mem 125 rfl rfl, ⟨nb_X10.1, nb_X10.2, pd_12⟩, by decide⟩, gd_mem 1428 rfl rfl, gd_mem 1429 rfl rfl⟩
theorem pl_X10_forMoney : plainFor yX10_forMoney = true := by decide +kernel
abbrev md_X10_forMoney : MD := (yX10_forMoney, cX10_forMoney, 9, (some .int))
set_option maxRecDepth 100000 in
theorem ok_X10_forMoney : vOk md_X10_forMoney 1 := ⟨⟨gd_mem 1361 rfl rfl, gd_mem 125 rfl rfl, ⟨nb_X10.1, nb_X10.2, pd_6⟩, by decide⟩, gd_mem 1359 rfl rfl, gd_mem 1360 rfl rfl⟩
theorem pl_X10_force : plainFor yX10_force = true := by decide +kernel
abbrev md_X10_force : MD := (yX10_force, cX10_force, 3, (some .int))
set_option maxRecDepth 100000 in
theorem ok_X10_force : vOk md_X10_force 1 := ⟨⟨gd_mem 1265 rfl rfl, gd_mem 125 rfl rfl, ⟨nb_X10.1, nb_X10.2, pd_6⟩, by decide⟩, gd_mem 1263 rfl rfl, gd_mem 1264 rfl rfl⟩
theorem pl_X10_good : plainFor yX10_good = true := by decide +kernel
abbrev md_X10_good : MD := (yX10_good, cX10_good, 4, (some .int))
set_option maxRecDepth 100000 in
theorem ok_X10_good : vOk md_X10_good 1 := ⟨⟨gd_mem 1323 rfl rfl, gd_mem 125 rfl rfl, ⟨nb_X10.1, nb_X10.2, pd_6⟩, by decide⟩, gd_mem 1321 rfl rfl, gd_mem 1322 rfl rfl⟩
theorem pl_X10_howMany : plainFor yX10_howMany = true := by decide +kernel
abbrev md_X10_howMany : MD := (yX10_howMany, cX10_howMany, 4, (some .int))
set_option maxRecDepth 100000 in
theorem ok_X10_howMany : vOk md_X10_howMany 1 := ⟨⟨gd_mem 1340 rfl rfl, gd_mem 125 rfl rfl, ⟨nb_X10.1, nb_X10.2, pd_6⟩, by decide⟩, gd_mem 1338 rfl rfl, gd_mem 1339 rfl rfl⟩
theorem pl_X10_image : plainFor yX10_image = true := by decide +kernel
abbrev md_X10_image : MD := (yX10_image, cX10_image, 2, (some .int))
set_option maxRecDepth 100000 in
theorem ok_X10_image : vOk md_X10_image 0 := ⟨⟨gd_mem 1409 rfl rfl, gd_mem 125 rfl rfl, ⟨nb_X10.1, nb_X10.2, pd_1⟩, by decide⟩, gd_mem 1407 rfl rfl, gd_mem 1408 rfl rfl⟩
theorem pl_X10_in : plainFor yX10_in = true := by decide +kernel
abbrev md_X10_in : MD := (yX10_in, cX10_in, 6, (some .boolean))
set_option maxRecDepth 100000 in
theorem ok_X10_in : sOk md_X10_in 3 := ⟨⟨gd_mem 1128 rfl rfl, gd_mem 125 rfl rfl, ⟨nb_X10.1, nb_X10.2, pd_13⟩, by decide⟩, gd_mem 1127 rfl rfl⟩
theorem pl_X10_isFlower : plainFor yX10_isFlower = true := by decide +kernel
abbrev md_X10_isFlower : MD := (yX10_isFlower, cX10_isFlower, 2, (some .boolean))
set_option maxRecDepth 100000 in
theorem ok_X10_isFlower : vOk md_X10_isFlower 1 := ⟨⟨gd_mem 1132 rfl rfl, gd_mem 125 rfl rfl, ⟨nb_X10.1, nb_X10.2, pd_7⟩, by decide⟩, gd_mem 1131 rfl rfl, gd_mem 75 rfl rfl⟩
theorem pl_X10_isLetter : plainFor yX10_isLetter = true := by decide +kernel
abbrev md_X10_isLetter : MD := (yX10_isLetter, cX10_isLetter, 3, (some .boolean))
set_option maxRecDepth 100000 in
theorem ok_X10_isLetter : vOk md_X10_isLetter 2 := ⟨⟨gd_mem 1185 rfl rfl, gd_mem 125 rfl rfl, ⟨nb_X10.1, nb_X10.2, pd_14⟩, by decide⟩, gd_mem 1184 rfl rfl, gd_mem 85 rfl rfl⟩
theorem pl_X10_isOrder : plainFor yX10_isOrder = true := by decide +kernel
abbrev md_X10_isOrder : MD := (yX10_isOrder, cX10_isOrder, 3, (some .boolean))
set_option maxRecDepth 100000 in
theorem ok_X10_isOrder : vOk md_X10_isOrder 1 := ⟨⟨gd_mem 1352 rfl rfl, gd_mem 125 rfl rfl, ⟨nb_X10.1, nb_X10.2, pd_7⟩, by decide⟩, gd_mem 1351 rfl rfl, gd_mem 110 rfl rfl⟩
theorem pl_X10_isRoom : plainFor yX10_isRoom = true := by decide +kernel
abbrev md_X10_isRoom : MD := (yX10_isRoom, cX10_isRoom, 2, (some .boolean))
set_option maxRecDepth 100000 in
theorem ok_X10_isRoom : vOk md_X10_isRoom 1 := ⟨⟨gd_mem 1273 rfl rfl, gd_mem 125 rfl rfl, ⟨nb_X10.1, nb_X10.2, pd_7⟩, by decide⟩, gd_mem 1272 rfl rfl, gd_mem 100 rfl rfl⟩
theorem pl_X10_isSheet : plainFor yX10_isSheet = true := by decide +kernel
abbrev md_X10_isSheet : MD := (yX10_isSheet, cX10_isSheet, 1, (some .boolean))
set_option maxRecDepth 100000 in
theorem ok_X10_isSheet : sOk md_X10_isSheet 1 := ⟨⟨gd_mem 1347 rfl rfl, gd_mem 125 rfl rfl, ⟨nb_X10.1, nb_X10.2, pd_7⟩, by decide⟩, gd_mem 1346 rfl rfl⟩
theorem pl_X10_isSign : plainFor yX10_isSign = true := by decide +kernel
abbrev md_X10_isSign : MD := (yX10_isSign, cX10_isSign, 2, (some .boolean))
set_option maxRecDepth 100000 in
theorem ok_X10_isSign : vOk md_X10_isSign 1 := ⟨⟨gd_mem 1225 rfl rfl, gd_mem 125 rfl rfl, ⟨nb_X10.1, nb_X10.2, pd_7⟩, by decide⟩, gd_mem 1224 rfl rfl, gd_mem 95 rfl rfl⟩
theorem pl_X10_isWord : plainFor yX10_isWord = true := by decide +kernel
abbrev md_X10_isWord : MD := (yX10_isWord, cX10_isWord, 9, (some .boolean))
set_option maxRecDepth 100000 in
theorem ok_X10_isWord : vOk md_X10_isWord 8 := ⟨⟨gd_mem 1181 rfl rfl, gd_mem 125 rfl rfl, ⟨nb_X10.1, nb_X10.2, pd_15⟩, by decide⟩, gd_mem 1180 rfl rfl, gd_mem 84 rfl rfl⟩
theorem pl_X10_lastAngle : plainFor yX10_lastAngle = true := by decide +kernel
abbrev md_X10_lastAngle : MD := (yX10_lastAngle, cX10_lastAngle, 1, (some .int))
set_option maxRecDepth 100000 in
theorem ok_X10_lastAngle : vOk md_X10_lastAngle 0 := ⟨⟨gd_mem 1152 rfl rfl, gd_mem 125 rfl rfl, ⟨nb_X10.1, nb_X10.2, pd_1⟩, by decide⟩, gd_mem 1151 rfl rfl, gd_mem 78 rfl rfl⟩
theorem pl_X10_lastsOf : plainFor yX10_lastsOf = true := by decide +kernel
abbrev md_X10_lastsOf : MD := (yX10_lastsOf, cX10_lastsOf, 4, (some .int))
set_option maxRecDepth 100000 in
theorem ok_X10_lastsOf : vOk md_X10_lastsOf 1 := ⟨⟨gd_mem 1242 rfl rfl, gd_mem 125 rfl rfl, ⟨nb_X10.1, nb_X10.2, pd_6⟩, by decide⟩, gd_mem 1241 rfl rfl, gd_mem 98 rfl rfl⟩
theorem pl_X10_lay : plainFor yX10_lay = true := by decide +kernel
abbrev md_X10_lay : MD := (yX10_lay, cX10_lay, 2, (some .int))
set_option maxRecDepth 100000 in
theorem ok_X10_lay : vOk md_X10_lay 1 := ⟨⟨gd_mem 1269 rfl rfl, gd_mem 125 rfl rfl, ⟨nb_X10.1, nb_X10.2, pd_6⟩, by decide⟩, gd_mem 1267 rfl rfl, gd_mem 1268 rfl rfl⟩
theorem pl_X10_lays : plainFor yX10_lays = true := by decide +kernel
abbrev md_X10_lays : MD := (yX10_lays, cX10_lays, 4, none)
set_option maxRecDepth 100000 in
theorem ok_X10_lays : vOk md_X10_lays 3 := ⟨⟨gd_mem 1246 rfl rfl, gd_mem 125 rfl rfl, ⟨nb_X10.1, nb_X10.2, pd_5⟩, by decide⟩, gd_mem 1245 rfl rfl, gd_mem 99 rfl rfl⟩
theorem pl_X10_looks : plainFor yX10_looks = true := by decide +kernel
abbrev md_X10_looks : MD := (yX10_looks, cX10_looks, 2, none)
set_option maxRecDepth 100000 in
theorem ok_X10_looks : vOk md_X10_looks 1 := ⟨⟨gd_mem 1148 rfl rfl, gd_mem 125 rfl rfl, ⟨nb_X10.1, nb_X10.2, pd_16⟩, by decide⟩, gd_mem 1147 rfl rfl, gd_mem 77 rfl rfl⟩
theorem pl_X10_mostOf : plainFor yX10_mostOf = true := by decide +kernel
abbrev md_X10_mostOf : MD := (yX10_mostOf, cX10_mostOf, 1, (some .int))
set_option maxRecDepth 100000 in
theorem ok_X10_mostOf : sOk md_X10_mostOf 1 := ⟨⟨gd_mem 1135 rfl rfl, gd_mem 125 rfl rfl, ⟨nb_X10.1, nb_X10.2, pd_6⟩, by decide⟩, gd_mem 1134 rfl rfl⟩
theorem pl_X10_name : plainFor yX10_name = true := by decide +kernel
abbrev md_X10_name : MD := (yX10_name, cX10_name, 1, (some .int))
set_option maxRecDepth 100000 in
theorem ok_X10_name : vOk md_X10_name 0 := ⟨⟨gd_mem 1229 rfl rfl, gd_mem 125 rfl rfl, ⟨nb_X10.1, nb_X10.2, pd_1⟩, by decide⟩, gd_mem 1228 rfl rfl, gd_mem 96 rfl rfl⟩
theorem pl_X10_next : plainFor yX10_next = true := by decide +kernel
abbrev md_X10_next : MD := (yX10_next, cX10_next, 6, (some .int))
set_option maxRecDepth 100000 in
theorem ok_X10_next : vOk md_X10_next 1 := ⟨⟨gd_mem 1328 rfl rfl, gd_mem 125 rfl rfl, ⟨nb_X10.1, nb_X10.2, pd_6⟩, by decide⟩, gd_mem 1326 rfl rfl, gd_mem 1327 rfl rfl⟩
theorem pl_X10_nextToken : plainFor yX10_nextToken = true := by decide +kernel
abbrev md_X10_nextToken : MD := (yX10_nextToken, cX10_nextToken, 3, none)
set_option maxRecDepth 100000 in
theorem ok_X10_nextToken : vOk md_X10_nextToken 0 := ⟨⟨gd_mem 1168 rfl rfl, gd_mem 125 rfl rfl, ⟨nb_X10.1, nb_X10.2, pd_11⟩, by decide⟩, gd_mem 1167 rfl rfl, gd_mem 82 rfl rfl⟩
theorem pl_X10_not : plainFor yX10_not = true := by decide +kernel
abbrev md_X10_not : MD := (yX10_not, cX10_not, 4, (some .int))
set_option maxRecDepth 100000 in
theorem ok_X10_not : vOk md_X10_not 0 := ⟨⟨gd_mem 1205 rfl rfl, gd_mem 125 rfl rfl, ⟨nb_X10.1, nb_X10.2, pd_1⟩, by decide⟩, gd_mem 1204 rfl rfl, gd_mem 90 rfl rfl⟩
theorem pl_X10_ofColours : plainFor yX10_ofColours = true := by decide +kernel
abbrev md_X10_ofColours : MD := (yX10_ofColours, cX10_ofColours, 4, (some .int))
set_option maxRecDepth 100000 in
theorem ok_X10_ofColours : vOk md_X10_ofColours 1 := ⟨⟨gd_mem 1319 rfl rfl, gd_mem 125 rfl rfl, ⟨nb_X10.1, nb_X10.2, pd_6⟩, by decide⟩, gd_mem 1318 rfl rfl, gd_mem 107 rfl rfl⟩
theorem pl_X10_opens : plainFor yX10_opens = true := by decide +kernel
abbrev md_X10_opens : MD := (yX10_opens, cX10_opens, 1, (some .boolean))
set_option maxRecDepth 100000 in
theorem ok_X10_opens : vOk md_X10_opens 0 := ⟨⟨gd_mem 1209 rfl rfl, gd_mem 125 rfl rfl, ⟨nb_X10.1, nb_X10.2, pd_17⟩, by decide⟩, gd_mem 1208 rfl rfl, gd_mem 91 rfl rfl⟩
theorem pl_X10_order : plainFor yX10_order = true := by decide +kernel
abbrev md_X10_order : MD := (yX10_order, cX10_order, 3, (some .int))
set_option maxRecDepth 100000 in
theorem ok_X10_order : vOk md_X10_order 2 := ⟨⟨gd_mem 1344 rfl rfl, gd_mem 125 rfl rfl, ⟨nb_X10.1, nb_X10.2, pd_2⟩, by decide⟩, gd_mem 1342 rfl rfl, gd_mem 1343 rfl rfl⟩
theorem pl_X10_over : plainFor yX10_over = true := by decide +kernel
abbrev md_X10_over : MD := (yX10_over, cX10_over, 1, (some .int))
set_option maxRecDepth 100000 in
theorem ok_X10_over : sOk md_X10_over 1 := ⟨⟨gd_mem 1438 rfl rfl, gd_mem 125 rfl rfl, ⟨nb_X10.1, nb_X10.2, pd_6⟩, by decide⟩, gd_mem 1437 rfl rfl⟩
theorem pl_X10_part : plainFor yX10_part = true := by decide +kernel
abbrev md_X10_part : MD := (yX10_part, cX10_part, 3, (some .int))
set_option maxRecDepth 100000 in
theorem ok_X10_part : vOk md_X10_part 1 := ⟨⟨gd_mem 1189 rfl rfl, gd_mem 125 rfl rfl, ⟨nb_X10.1, nb_X10.2, pd_18⟩, by decide⟩, gd_mem 1188 rfl rfl, gd_mem 86 rfl rfl⟩
theorem pl_X10_puts : plainFor yX10_puts = true := by decide +kernel
abbrev md_X10_puts : MD := (yX10_puts, cX10_puts, 3, none)
set_option maxRecDepth 100000 in
theorem ok_X10_puts : vOk md_X10_puts 1 := ⟨⟨gd_mem 1277 rfl rfl, gd_mem 125 rfl rfl, ⟨nb_X10.1, nb_X10.2, pd_16⟩, by decide⟩, gd_mem 1276 rfl rfl, gd_mem 101 rfl rfl⟩
theorem pl_X10_quarter : plainFor yX10_quarter = true := by decide +kernel
abbrev md_X10_quarter : MD := (yX10_quarter, cX10_quarter, 4, (some .int))
set_option maxRecDepth 100000 in
theorem ok_X10_quarter : vOk md_X10_quarter 1 := ⟨⟨gd_mem 1311 rfl rfl, gd_mem 125 rfl rfl, ⟨nb_X10.1, nb_X10.2, pd_6⟩, by decide⟩, gd_mem 1310 rfl rfl, gd_mem 105 rfl rfl⟩
theorem pl_X10_read : plainFor yX10_read = true := by decide +kernel
abbrev md_X10_read : MD := (yX10_read, cX10_read, 6, (some .int))
set_option maxRecDepth 100000 in
theorem ok_X10_read : vOk md_X10_read 2 := ⟨⟨gd_mem 1164 rfl rfl, gd_mem 125 rfl rfl, ⟨nb_X10.1, nb_X10.2, pd_2⟩, by decide⟩, gd_mem 1163 rfl rfl, gd_mem 81 rfl rfl⟩
theorem pl_X10_roomNow : plainFor yX10_roomNow = true := by decide +kernel
abbrev md_X10_roomNow : MD := (yX10_roomNow, cX10_roomNow, 3, (some .int))
set_option maxRecDepth 100000 in
theorem ok_X10_roomNow : vOk md_X10_roomNow 0 := ⟨⟨gd_mem 1156 rfl rfl, gd_mem 125 rfl rfl, ⟨nb_X10.1, nb_X10.2, pd_1⟩, by decide⟩, gd_mem 1155 rfl rfl, gd_mem 79 rfl rfl⟩
theorem pl_X10_round : plainFor yX10_round = true := by decide +kernel
abbrev md_X10_round : MD := (yX10_round, cX10_round, 2, (some .int))
set_option maxRecDepth 100000 in
theorem ok_X10_round : sOk md_X10_round 1 := ⟨⟨gd_mem 1280 rfl rfl, gd_mem 125 rfl rfl, ⟨nb_X10.1, nb_X10.2, pd_6⟩, by decide⟩, gd_mem 1279 rfl rfl⟩
theorem pl_X10_seeks : plainFor yX10_seeks = true := by decide +kernel
abbrev md_X10_seeks : MD := (yX10_seeks, cX10_seeks, 7, none)
set_option maxRecDepth 100000 in
theorem ok_X10_seeks : vOk md_X10_seeks 3 := ⟨⟨gd_mem 1357 rfl rfl, gd_mem 125 rfl rfl, ⟨nb_X10.1, nb_X10.2, pd_5⟩, by decide⟩, gd_mem 1356 rfl rfl, gd_mem 111 rfl rfl⟩
theorem pl_X10_set : plainFor yX10_set = true := by decide +kernel
abbrev md_X10_set : MD := (yX10_set, cX10_set, 5, (some .int))
set_option maxRecDepth 100000 in
theorem ok_X10_set : vOk md_X10_set 3 := ⟨⟨gd_mem 1124 rfl rfl, gd_mem 125 rfl rfl, ⟨nb_X10.1, nb_X10.2, pd_8⟩, by decide⟩, gd_mem 1122 rfl rfl, gd_mem 1123 rfl rfl⟩
theorem pl_X10_sheet : plainFor yX10_sheet = true := by decide +kernel
abbrev md_X10_sheet : MD := (yX10_sheet, cX10_sheet, 5, (some .int))
set_option maxRecDepth 100000 in
theorem ok_X10_sheet : vOk md_X10_sheet 3 := ⟨⟨gd_mem 1387 rfl rfl, gd_mem 125 rfl rfl, ⟨nb_X10.1, nb_X10.2, pd_8⟩, by decide⟩, gd_mem 1385 rfl rfl, gd_mem 1386 rfl rfl⟩
theorem pl_X10_spell : plainFor yX10_spell = true := by decide +kernel
abbrev md_X10_spell : MD := (yX10_spell, cX10_spell, 10, none)
set_option maxRecDepth 100000 in
theorem ok_X10_spell : vOk md_X10_spell 9 := ⟨⟨gd_mem 981 rfl rfl, gd_mem 125 rfl rfl, ⟨nb_X10.1, nb_X10.2, pd_19⟩, by decide⟩, gd_mem 980 rfl rfl, gd_mem 74 rfl rfl⟩
theorem pl_X10_stem : plainFor yX10_stem = true := by decide +kernel
abbrev md_X10_stem : MD := (yX10_stem, cX10_stem, 3, (some .int))
set_option maxRecDepth 100000 in
theorem ok_X10_stem : vOk md_X10_stem 2 := ⟨⟨gd_mem 1288 rfl rfl, gd_mem 125 rfl rfl, ⟨nb_X10.1, nb_X10.2, pd_2⟩, by decide⟩, gd_mem 1286 rfl rfl, gd_mem 1287 rfl rfl⟩
theorem pl_X10_taken : plainFor yX10_taken = true := by decide +kernel
abbrev md_X10_taken : MD := (yX10_taken, cX10_taken, 4, (some .int))
set_option maxRecDepth 100000 in
theorem ok_X10_taken : vOk md_X10_taken 2 := ⟨⟨gd_mem 1435 rfl rfl, gd_mem 125 rfl rfl, ⟨nb_X10.1, nb_X10.2, pd_2⟩, by decide⟩, gd_mem 1433 rfl rfl, gd_mem 1434 rfl rfl⟩
theorem pl_X10_takesOff : plainFor yX10_takesOff = true := by decide +kernel
abbrev md_X10_takesOff : MD := (yX10_takesOff, cX10_takesOff, 1, none)
set_option maxRecDepth 100000 in
theorem ok_X10_takesOff : vOk md_X10_takesOff 0 := ⟨⟨gd_mem 1336 rfl rfl, gd_mem 125 rfl rfl, ⟨nb_X10.1, nb_X10.2, pd_11⟩, by decide⟩, gd_mem 1335 rfl rfl, gd_mem 109 rfl rfl⟩
theorem pl_X10_tells : plainFor yX10_tells = true := by decide +kernel
abbrev md_X10_tells : MD := (yX10_tells, cX10_tells, 9, (some .int))
set_option maxRecDepth 100000 in
theorem ok_X10_tells : vOk md_X10_tells 3 := ⟨⟨gd_mem 1370 rfl rfl, gd_mem 125 rfl rfl, ⟨nb_X10.1, nb_X10.2, pd_8⟩, by decide⟩, gd_mem 1368 rfl rfl, gd_mem 1369 rfl rfl⟩
theorem pl_X10_term : plainFor yX10_term = true := by decide +kernel
abbrev md_X10_term : MD := (yX10_term, cX10_term, 2, (some .int))
set_option maxRecDepth 100000 in
theorem ok_X10_term : vOk md_X10_term 0 := ⟨⟨gd_mem 1217 rfl rfl, gd_mem 125 rfl rfl, ⟨nb_X10.1, nb_X10.2, pd_1⟩, by decide⟩, gd_mem 1216 rfl rfl, gd_mem 93 rfl rfl⟩
theorem pl_X10_text : plainFor yX10_text = true := by decide +kernel
abbrev md_X10_text : MD := (yX10_text, cX10_text, 2, (some .int))
set_option maxRecDepth 100000 in
theorem ok_X10_text : vOk md_X10_text 0 := ⟨⟨gd_mem 1261 rfl rfl, gd_mem 125 rfl rfl, ⟨nb_X10.1, nb_X10.2, pd_1⟩, by decide⟩, gd_mem 1259 rfl rfl, gd_mem 1260 rfl rfl⟩
theorem pl_X10_thickOf : plainFor yX10_thickOf = true := by decide +kernel
abbrev md_X10_thickOf : MD := (yX10_thickOf, cX10_thickOf, 4, (some .int))
set_option maxRecDepth 100000 in
theorem ok_X10_thickOf : vOk md_X10_thickOf 1 := ⟨⟨gd_mem 1144 rfl rfl, gd_mem 125 rfl rfl, ⟨nb_X10.1, nb_X10.2, pd_6⟩, by decide⟩, gd_mem 1143 rfl rfl, gd_mem 76 rfl rfl⟩
theorem pl_X10_told : plainFor yX10_told = true := by decide +kernel
abbrev md_X10_told : MD := (yX10_told, cX10_told, 3, (some .int))
set_option maxRecDepth 100000 in
theorem ok_X10_told : vOk md_X10_told 2 := ⟨⟨gd_mem 1139 rfl rfl, gd_mem 125 rfl rfl, ⟨nb_X10.1, nb_X10.2, pd_2⟩, by decide⟩, gd_mem 1137 rfl rfl, gd_mem 1138 rfl rfl⟩
theorem pl_X10_touch : plainFor yX10_touch = true := by decide +kernel
abbrev md_X10_touch : MD := (yX10_touch, cX10_touch, 4, (some .boolean))
set_option maxRecDepth 100000 in
theorem ok_X10_touch : vOk md_X10_touch 2 := ⟨⟨gd_mem 1303 rfl rfl, gd_mem 125 rfl rfl, ⟨nb_X10.1, nb_X10.2, pd_14⟩, by decide⟩, gd_mem 1302 rfl rfl, gd_mem 103 rfl rfl⟩
theorem pl_X10_touching : plainFor yX10_touching = true := by decide +kernel
abbrev md_X10_touching : MD := (yX10_touching, cX10_touching, 5, (some .int))
set_option maxRecDepth 100000 in
theorem ok_X10_touching : vOk md_X10_touching 1 := ⟨⟨gd_mem 1299 rfl rfl, gd_mem 125 rfl rfl, ⟨nb_X10.1, nb_X10.2, pd_6⟩, by decide⟩, gd_mem 1298 rfl rfl, gd_mem 102 rfl rfl⟩
theorem pl_X10_turnsFrom : plainFor yX10_turnsFrom = true := by decide +kernel
abbrev md_X10_turnsFrom : MD := (yX10_turnsFrom, cX10_turnsFrom, 5, none)
set_option maxRecDepth 100000 in
theorem ok_X10_turnsFrom : vOk md_X10_turnsFrom 2 := ⟨⟨gd_mem 1378 rfl rfl, gd_mem 125 rfl rfl, ⟨nb_X10.1, nb_X10.2, pd_3⟩, by decide⟩, gd_mem 1377 rfl rfl, gd_mem 113 rfl rfl⟩
theorem pl_X10_turnsOf : plainFor yX10_turnsOf = true := by decide +kernel
abbrev md_X10_turnsOf : MD := (yX10_turnsOf, cX10_turnsOf, 4, (some .int))
set_option maxRecDepth 100000 in
theorem ok_X10_turnsOf : vOk md_X10_turnsOf 1 := ⟨⟨gd_mem 1160 rfl rfl, gd_mem 125 rfl rfl, ⟨nb_X10.1, nb_X10.2, pd_6⟩, by decide⟩, gd_mem 1159 rfl rfl, gd_mem 80 rfl rfl⟩
theorem pl_X10_within : plainFor yX10_within = true := by decide +kernel
abbrev md_X10_within : MD := (yX10_within, cX10_within, 3, (some .int))
set_option maxRecDepth 100000 in
theorem ok_X10_within : sOk md_X10_within 3 := ⟨⟨gd_mem 1234 rfl rfl, gd_mem 125 rfl rfl, ⟨nb_X10.1, nb_X10.2, pd_8⟩, by decide⟩, gd_mem 1233 rfl rfl⟩
theorem pl_X10_worst : plainFor yX10_worst = true := by decide +kernel
abbrev md_X10_worst : MD := (yX10_worst, cX10_worst, 6, (some .int))
set_option maxRecDepth 100000 in
theorem ok_X10_worst : vOk md_X10_worst 1 := ⟨⟨gd_mem 1366 rfl rfl, gd_mem 125 rfl rfl, ⟨nb_X10.1, nb_X10.2, pd_6⟩, by decide⟩, gd_mem 1364 rfl rfl, gd_mem 1365 rfl rfl⟩
theorem pl_X1_costs : plainFor yX1_costs = true := by decide +kernel
abbrev md_X1_costs : MD := (yX1_costs, cX1_costs, 3, (some .int))
set_option maxRecDepth 100000 in
theorem ok_X1_costs : sOk md_X1_costs 3 := ⟨⟨gd_mem 508 rfl rfl, gd_mem 126 rfl rfl, ⟨nb_X1.1, nb_X1.2, pd_8⟩, by decide⟩, gd_mem 507 rfl rfl⟩
theorem pl_X1_isKind : plainFor yX1_isKind = true := by decide +kernel
abbrev md_X1_isKind : MD := (yX1_isKind, cX1_isKind, 1, (some .boolean))
set_option maxRecDepth 100000 in
theorem ok_X1_isKind : sOk md_X1_isKind 1 := ⟨⟨gd_mem 433 rfl rfl, gd_mem 126 rfl rfl, ⟨nb_X1.1, nb_X1.2, pd_7⟩, by decide⟩, gd_mem 432 rfl rfl⟩
theorem pl_X1_isUnder : plainFor yX1_isUnder = true := by decide +kernel
abbrev md_X1_isUnder : MD := (yX1_isUnder, cX1_isUnder, 4, (some .boolean))
set_option maxRecDepth 100000 in
theorem ok_X1_isUnder : sOk md_X1_isUnder 2 := ⟨⟨gd_mem 968 rfl rfl, gd_mem 126 rfl rfl, ⟨nb_X1.1, nb_X1.2, pd_14⟩, by decide⟩, gd_mem 967 rfl rfl⟩
theorem pl_X1_lasts : plainFor yX1_lasts = true := by decide +kernel
abbrev md_X1_lasts : MD := (yX1_lasts, cX1_lasts, 3, (some .int))
set_option maxRecDepth 100000 in
theorem ok_X1_lasts : sOk md_X1_lasts 3 := ⟨⟨gd_mem 516 rfl rfl, gd_mem 126 rfl rfl, ⟨nb_X1.1, nb_X1.2, pd_8⟩, by decide⟩, gd_mem 515 rfl rfl⟩
theorem pl_X1_thick : plainFor yX1_thick = true := by decide +kernel
abbrev md_X1_thick : MD := (yX1_thick, cX1_thick, 2, (some .int))
set_option maxRecDepth 100000 in
theorem ok_X1_thick : sOk md_X1_thick 2 := ⟨⟨gd_mem 461 rfl rfl, gd_mem 126 rfl rfl, ⟨nb_X1.1, nb_X1.2, pd_2⟩, by decide⟩, gd_mem 460 rfl rfl⟩
theorem pl_X1_turns : plainFor yX1_turns = true := by decide +kernel
abbrev md_X1_turns : MD := (yX1_turns, cX1_turns, 2, (some .int))
set_option maxRecDepth 100000 in
theorem ok_X1_turns : sOk md_X1_turns 2 := ⟨⟨gd_mem 501 rfl rfl, gd_mem 126 rfl rfl, ⟨nb_X1.1, nb_X1.2, pd_2⟩, by decide⟩, gd_mem 500 rfl rfl⟩
theorem pl_X2_asNow : plainFor yX2_asNow = true := by decide +kernel
abbrev md_X2_asNow : MD := (yX2_asNow, cX2_asNow, 3, none)
set_option maxRecDepth 100000 in
theorem ok_X2_asNow : vOk md_X2_asNow 2 := ⟨⟨gd_mem 441 rfl rfl, gd_mem 121 rfl rfl, ⟨nb_X2.1, nb_X2.2, pd_20⟩, by decide⟩, gd_mem 440 rfl rfl, gd_mem 4 rfl rfl⟩
theorem pl_X2_asThought : plainFor yX2_asThought = true := by decide +kernel
abbrev md_X2_asThought : MD := (yX2_asThought, cX2_asThought, 5, none)
set_option maxRecDepth 100000 in
theorem ok_X2_asThought : vOk md_X2_asThought 4 := ⟨⟨gd_mem 715 rfl rfl, gd_mem 121 rfl rfl, ⟨nb_X2.1, nb_X2.2, pd_21⟩, by decide⟩, gd_mem 714 rfl rfl, gd_mem 41 rfl rfl⟩
theorem pl_X2_costs : plainFor yX2_costs = true := by decide +kernel
abbrev md_X2_costs : MD := (yX2_costs, cX2_costs, 2, (some .int))
set_option maxRecDepth 100000 in
theorem ok_X2_costs : vOk md_X2_costs 0 := ⟨⟨gd_mem 505 rfl rfl, gd_mem 121 rfl rfl, ⟨nb_X2.1, nb_X2.2, pd_1⟩, by decide⟩, gd_mem 504 rfl rfl, gd_mem 13 rfl rfl⟩
theorem pl_X2_inEmptyHand : plainFor yX2_inEmptyHand = true := by decide +kernel
abbrev md_X2_inEmptyHand : MD := (yX2_inEmptyHand, cX2_inEmptyHand, 3, none)
set_option maxRecDepth 100000 in
theorem ok_X2_inEmptyHand : vOk md_X2_inEmptyHand 2 := ⟨⟨gd_mem 445 rfl rfl, gd_mem 121 rfl rfl, ⟨nb_X2.1, nb_X2.2, pd_20⟩, by decide⟩, gd_mem 444 rfl rfl, gd_mem 5 rfl rfl⟩
theorem pl_X2_lasts : plainFor yX2_lasts = true := by decide +kernel
abbrev md_X2_lasts : MD := (yX2_lasts, cX2_lasts, 2, (some .int))
set_option maxRecDepth 100000 in
theorem ok_X2_lasts : vOk md_X2_lasts 0 := ⟨⟨gd_mem 513 rfl rfl, gd_mem 121 rfl rfl, ⟨nb_X2.1, nb_X2.2, pd_1⟩, by decide⟩, gd_mem 512 rfl rfl, gd_mem 14 rfl rfl⟩
theorem pl_X2_layOne : plainFor yX2_layOne = true := by decide +kernel
abbrev md_X2_layOne : MD := (yX2_layOne, cX2_layOne, 1, (some .int))
set_option maxRecDepth 100000 in
theorem ok_X2_layOne : vOk md_X2_layOne 0 := ⟨⟨gd_mem 870 rfl rfl, gd_mem 121 rfl rfl, ⟨nb_X2.1, nb_X2.2, pd_1⟩, by decide⟩, gd_mem 869 rfl rfl, gd_mem 64 rfl rfl⟩
theorem pl_X2_suppose : plainFor yX2_suppose = true := by decide +kernel
abbrev md_X2_suppose : MD := (yX2_suppose, cX2_suppose, 3, none)
set_option maxRecDepth 100000 in
theorem ok_X2_suppose : vOk md_X2_suppose 2 := ⟨⟨gd_mem 885 rfl rfl, gd_mem 121 rfl rfl, ⟨nb_X2.1, nb_X2.2, pd_3⟩, by decide⟩, gd_mem 884 rfl rfl, gd_mem 67 rfl rfl⟩
theorem pl_X2_thick : plainFor yX2_thick = true := by decide +kernel
abbrev md_X2_thick : MD := (yX2_thick, cX2_thick, 1, (some .int))
set_option maxRecDepth 100000 in
theorem ok_X2_thick : vOk md_X2_thick 0 := ⟨⟨gd_mem 465 rfl rfl, gd_mem 121 rfl rfl, ⟨nb_X2.1, nb_X2.2, pd_1⟩, by decide⟩, gd_mem 464 rfl rfl, gd_mem 9 rfl rfl⟩
theorem pl_X2_turned : plainFor yX2_turned = true := by decide +kernel
abbrev md_X2_turned : MD := (yX2_turned, cX2_turned, 2, (some .int))
set_option maxRecDepth 100000 in
theorem ok_X2_turned : sOk md_X2_turned 2 := ⟨⟨gd_mem 719 rfl rfl, gd_mem 121 rfl rfl, ⟨nb_X2.1, nb_X2.2, pd_2⟩, by decide⟩, gd_mem 718 rfl rfl⟩
theorem pl_X2_turns : plainFor yX2_turns = true := by decide +kernel
abbrev md_X2_turns : MD := (yX2_turns, cX2_turns, 1, (some .int))
set_option maxRecDepth 100000 in
theorem ok_X2_turns : vOk md_X2_turns 0 := ⟨⟨gd_mem 470 rfl rfl, gd_mem 121 rfl rfl, ⟨nb_X2.1, nb_X2.2, pd_1⟩, by decide⟩, gd_mem 469 rfl rfl, gd_mem 10 rfl rfl⟩
theorem pl_X2_within : plainFor yX2_within = true := by decide +kernel
abbrev md_X2_within : MD := (yX2_within, cX2_within, 3, (some .int))
set_option maxRecDepth 100000 in
theorem ok_X2_within : sOk md_X2_within 3 := ⟨⟨gd_mem 496 rfl rfl, gd_mem 121 rfl rfl, ⟨nb_X2.1, nb_X2.2, pd_8⟩, by decide⟩, gd_mem 495 rfl rfl⟩
theorem pl_X3_isFree : plainFor yX3_isFree = true := by decide +kernel
abbrev md_X3_isFree : MD := (yX3_isFree, cX3_isFree, 4, (some .boolean))
set_option maxRecDepth 100000 in
theorem ok_X3_isFree : vOk md_X3_isFree 2 := ⟨⟨gd_mem 829 rfl rfl, gd_mem 123 rfl rfl, ⟨nb_X3.1, nb_X3.2, pd_14⟩, by decide⟩, gd_mem 828 rfl rfl, gd_mem 58 rfl rfl⟩
theorem pl_X3_search : plainFor yX3_search = true := by decide +kernel
abbrev md_X3_search : MD := (yX3_search, cX3_search, 5, none)
set_option maxRecDepth 100000 in
theorem ok_X3_search : vOk md_X3_search 3 := ⟨⟨gd_mem 825 rfl rfl, gd_mem 123 rfl rfl, ⟨nb_X3.1, nb_X3.2, pd_5⟩, by decide⟩, gd_mem 824 rfl rfl, gd_mem 57 rfl rfl⟩
theorem pl_X3_start : plainFor yX3_start = true := by decide +kernel
abbrev md_X3_start : MD := (yX3_start, cX3_start, 4, none)
set_option maxRecDepth 100000 in
theorem ok_X3_start : vOk md_X3_start 2 := ⟨⟨gd_mem 820 rfl rfl, gd_mem 123 rfl rfl, ⟨nb_X3.1, nb_X3.2, pd_22⟩, by decide⟩, gd_mem 819 rfl rfl, gd_mem 56 rfl rfl⟩
theorem pl_X3_tryPlace : plainFor yX3_tryPlace = true := by decide +kernel
abbrev md_X3_tryPlace : MD := (yX3_tryPlace, cX3_tryPlace, 8, none)
set_option maxRecDepth 100000 in
theorem ok_X3_tryPlace : vOk md_X3_tryPlace 4 := ⟨⟨gd_mem 833 rfl rfl, gd_mem 123 rfl rfl, ⟨nb_X3.1, nb_X3.2, pd_21⟩, by decide⟩, gd_mem 832 rfl rfl, gd_mem 59 rfl rfl⟩
theorem pl_X4_advance : plainFor yX4_advance = true := by decide +kernel
abbrev md_X4_advance : MD := (yX4_advance, cX4_advance, 2, none)
set_option maxRecDepth 100000 in
theorem ok_X4_advance : vOk md_X4_advance 0 := ⟨⟨gd_mem 540 rfl rfl, gd_mem 120 rfl rfl, ⟨nb_X4.1, nb_X4.2, pd_11⟩, by decide⟩, gd_mem 539 rfl rfl, gd_mem 18 rfl rfl⟩
theorem pl_X4_expect : plainFor yX4_expect = true := by decide +kernel
abbrev md_X4_expect : MD := (yX4_expect, cX4_expect, 2, none)
set_option maxRecDepth 100000 in
theorem ok_X4_expect : vOk md_X4_expect 1 := ⟨⟨gd_mem 625 rfl rfl, gd_mem 120 rfl rfl, ⟨nb_X4.1, nb_X4.2, pd_16⟩, by decide⟩, gd_mem 624 rfl rfl, gd_mem 24 rfl rfl⟩
theorem pl_X4_fail : plainFor yX4_fail = true := by decide +kernel
abbrev md_X4_fail : MD := (yX4_fail, cX4_fail, 1, none)
set_option maxRecDepth 100000 in
theorem ok_X4_fail : vOk md_X4_fail 0 := ⟨⟨gd_mem 611 rfl rfl, gd_mem 120 rfl rfl, ⟨nb_X4.1, nb_X4.2, pd_11⟩, by decide⟩, gd_mem 610 rfl rfl, gd_mem 22 rfl rfl⟩
theorem pl_X4_isBlank : plainFor yX4_isBlank = true := by decide +kernel
abbrev md_X4_isBlank : MD := (yX4_isBlank, cX4_isBlank, 1, (some .boolean))
set_option maxRecDepth 100000 in
theorem ok_X4_isBlank : sOk md_X4_isBlank 1 := ⟨⟨gd_mem 547 rfl rfl, gd_mem 120 rfl rfl, ⟨nb_X4.1, nb_X4.2, pd_7⟩, by decide⟩, gd_mem 546 rfl rfl⟩
theorem pl_X4_isDigit : plainFor yX4_isDigit = true := by decide +kernel
abbrev md_X4_isDigit : MD := (yX4_isDigit, cX4_isDigit, 1, (some .boolean))
set_option maxRecDepth 100000 in
theorem ok_X4_isDigit : sOk md_X4_isDigit 1 := ⟨⟨gd_mem 614 rfl rfl, gd_mem 120 rfl rfl, ⟨nb_X4.1, nb_X4.2, pd_7⟩, by decide⟩, gd_mem 613 rfl rfl⟩
theorem pl_X4_isLetter : plainFor yX4_isLetter = true := by decide +kernel
abbrev md_X4_isLetter : MD := (yX4_isLetter, cX4_isLetter, 1, (some .boolean))
set_option maxRecDepth 100000 in
theorem ok_X4_isLetter : sOk md_X4_isLetter 1 := ⟨⟨gd_mem 550 rfl rfl, gd_mem 120 rfl rfl, ⟨nb_X4.1, nb_X4.2, pd_7⟩, by decide⟩, gd_mem 549 rfl rfl⟩
theorem pl_X4_isSign : plainFor yX4_isSign = true := by decide +kernel
abbrev md_X4_isSign : MD := (yX4_isSign, cX4_isSign, 1, (some .boolean))
set_option maxRecDepth 100000 in
theorem ok_X4_isSign : sOk md_X4_isSign 1 := ⟨⟨gd_mem 621 rfl rfl, gd_mem 120 rfl rfl, ⟨nb_X4.1, nb_X4.2, pd_7⟩, by decide⟩, gd_mem 620 rfl rfl⟩
theorem pl_X4_make : plainFor yX4_make = true := by decide +kernel
abbrev md_X4_make : MD := (yX4_make, cX4_make, 2, none)
set_option maxRecDepth 100000 in
theorem ok_X4_make : vOk md_X4_make 1 := ⟨⟨gd_mem 641 rfl rfl, gd_mem 120 rfl rfl, ⟨nb_X4.1, nb_X4.2, pd_16⟩, by decide⟩, gd_mem 640 rfl rfl, gd_mem 28 rfl rfl⟩
theorem pl_X4_readAnd : plainFor yX4_readAnd = true := by decide +kernel
abbrev md_X4_readAnd : MD := (yX4_readAnd, cX4_readAnd, 3, none)
set_option maxRecDepth 100000 in
theorem ok_X4_readAnd : vOk md_X4_readAnd 1 := ⟨⟨gd_mem 633 rfl rfl, gd_mem 120 rfl rfl, ⟨nb_X4.1, nb_X4.2, pd_16⟩, by decide⟩, gd_mem 632 rfl rfl, gd_mem 26 rfl rfl⟩
theorem pl_X4_readNot : plainFor yX4_readNot = true := by decide +kernel
abbrev md_X4_readNot : MD := (yX4_readNot, cX4_readNot, 3, none)
set_option maxRecDepth 100000 in
theorem ok_X4_readNot : vOk md_X4_readNot 1 := ⟨⟨gd_mem 637 rfl rfl, gd_mem 120 rfl rfl, ⟨nb_X4.1, nb_X4.2, pd_16⟩, by decide⟩, gd_mem 636 rfl rfl, gd_mem 27 rfl rfl⟩
theorem pl_X4_readOne : plainFor yX4_readOne = true := by decide +kernel
abbrev md_X4_readOne : MD := (yX4_readOne, cX4_readOne, 2, none)
set_option maxRecDepth 100000 in
theorem ok_X4_readOne : vOk md_X4_readOne 1 := ⟨⟨gd_mem 653 rfl rfl, gd_mem 120 rfl rfl, ⟨nb_X4.1, nb_X4.2, pd_16⟩, by decide⟩, gd_mem 652 rfl rfl, gd_mem 31 rfl rfl⟩
theorem pl_X4_readOr : plainFor yX4_readOr = true := by decide +kernel
abbrev md_X4_readOr : MD := (yX4_readOr, cX4_readOr, 3, none)
set_option maxRecDepth 100000 in
theorem ok_X4_readOr : vOk md_X4_readOr 1 := ⟨⟨gd_mem 629 rfl rfl, gd_mem 120 rfl rfl, ⟨nb_X4.1, nb_X4.2, pd_16⟩, by decide⟩, gd_mem 628 rfl rfl, gd_mem 25 rfl rfl⟩
theorem pl_X4_readSum : plainFor yX4_readSum = true := by decide +kernel
abbrev md_X4_readSum : MD := (yX4_readSum, cX4_readSum, 4, none)
set_option maxRecDepth 100000 in
theorem ok_X4_readSum : vOk md_X4_readSum 1 := ⟨⟨gd_mem 645 rfl rfl, gd_mem 120 rfl rfl, ⟨nb_X4.1, nb_X4.2, pd_16⟩, by decide⟩, gd_mem 644 rfl rfl, gd_mem 29 rfl rfl⟩
theorem pl_X4_readTape : plainFor yX4_readTape = true := by decide +kernel
abbrev md_X4_readTape : MD := (yX4_readTape, cX4_readTape, 2, (some .int))
set_option maxRecDepth 100000 in
theorem ok_X4_readTape : vOk md_X4_readTape 0 := ⟨⟨gd_mem 536 rfl rfl, gd_mem 120 rfl rfl, ⟨nb_X4.1, nb_X4.2, pd_1⟩, by decide⟩, gd_mem 535 rfl rfl, gd_mem 17 rfl rfl⟩
theorem pl_X4_readTerm : plainFor yX4_readTerm = true := by decide +kernel
abbrev md_X4_readTerm : MD := (yX4_readTerm, cX4_readTerm, 3, none)
set_option maxRecDepth 100000 in
theorem ok_X4_readTerm : vOk md_X4_readTerm 1 := ⟨⟨gd_mem 649 rfl rfl, gd_mem 120 rfl rfl, ⟨nb_X4.1, nb_X4.2, pd_16⟩, by decide⟩, gd_mem 648 rfl rfl, gd_mem 30 rfl rfl⟩
theorem pl_X4_standsAtStart : plainFor yX4_standsAtStart = true := by decide +kernel
abbrev md_X4_standsAtStart : MD := (yX4_standsAtStart, cX4_standsAtStart, 4, (some .boolean))
set_option maxRecDepth 100000 in
theorem ok_X4_standsAtStart : vOk md_X4_standsAtStart 2 := ⟨⟨gd_mem 607 rfl rfl, gd_mem 120 rfl rfl, ⟨nb_X4.1, nb_X4.2, pd_14⟩, by decide⟩, gd_mem 606 rfl rfl, gd_mem 21 rfl rfl⟩
theorem pl_X4_takeNumber : plainFor yX4_takeNumber = true := by decide +kernel
abbrev md_X4_takeNumber : MD := (yX4_takeNumber, cX4_takeNumber, 2, none)
set_option maxRecDepth 100000 in
theorem ok_X4_takeNumber : vOk md_X4_takeNumber 0 := ⟨⟨gd_mem 618 rfl rfl, gd_mem 120 rfl rfl, ⟨nb_X4.1, nb_X4.2, pd_11⟩, by decide⟩, gd_mem 617 rfl rfl, gd_mem 23 rfl rfl⟩
theorem pl_X4_takeWord : plainFor yX4_takeWord = true := by decide +kernel
abbrev md_X4_takeWord : MD := (yX4_takeWord, cX4_takeWord, 4, none)
set_option maxRecDepth 100000 in
theorem ok_X4_takeWord : vOk md_X4_takeWord 0 := ⟨⟨gd_mem 554 rfl rfl, gd_mem 120 rfl rfl, ⟨nb_X4.1, nb_X4.2, pd_11⟩, by decide⟩, gd_mem 553 rfl rfl, gd_mem 20 rfl rfl⟩
theorem pl_X5_become : plainFor yX5_become = true := by decide +kernel
abbrev md_X5_become : MD := (yX5_become, cX5_become, 5, none)
set_option maxRecDepth 100000 in
theorem ok_X5_become : vOk md_X5_become 3 := ⟨⟨gd_mem 893 rfl rfl, gd_mem 124 rfl rfl, ⟨nb_X5.1, nb_X5.2, pd_5⟩, by decide⟩, gd_mem 892 rfl rfl, gd_mem 68 rfl rfl⟩
theorem pl_X5_hasItem : plainFor yX5_hasItem = true := by decide +kernel
abbrev md_X5_hasItem : MD := (yX5_hasItem, cX5_hasItem, 3, (some .boolean))
set_option maxRecDepth 100000 in
theorem ok_X5_hasItem : vOk md_X5_hasItem 2 := ⟨⟨gd_mem 816 rfl rfl, gd_mem 124 rfl rfl, ⟨nb_X5.1, nb_X5.2, pd_14⟩, by decide⟩, gd_mem 815 rfl rfl, gd_mem 55 rfl rfl⟩
theorem pl_X5_hasItems : plainFor yX5_hasItems = true := by decide +kernel
abbrev md_X5_hasItems : MD := (yX5_hasItems, cX5_hasItems, 4, (some .boolean))
set_option maxRecDepth 100000 in
theorem ok_X5_hasItems : vOk md_X5_hasItems 3 := ⟨⟨gd_mem 955 rfl rfl, gd_mem 124 rfl rfl, ⟨nb_X5.1, nb_X5.2, pd_23⟩, by decide⟩, gd_mem 954 rfl rfl, gd_mem 73 rfl rfl⟩
theorem pl_X5_isMissing : plainFor yX5_isMissing = true := by decide +kernel
abbrev md_X5_isMissing : MD := (yX5_isMissing, cX5_isMissing, 2, (some .boolean))
set_option maxRecDepth 100000 in
theorem ok_X5_isMissing : vOk md_X5_isMissing 1 := ⟨⟨gd_mem 807 rfl rfl, gd_mem 124 rfl rfl, ⟨nb_X5.1, nb_X5.2, pd_7⟩, by decide⟩, gd_mem 806 rfl rfl, gd_mem 53 rfl rfl⟩
theorem pl_X5_isNumber : plainFor yX5_isNumber = true := by decide +kernel
abbrev md_X5_isNumber : MD := (yX5_isNumber, cX5_isNumber, 1, (some .boolean))
set_option maxRecDepth 100000 in
theorem ok_X5_isNumber : sOk md_X5_isNumber 1 := ⟨⟨gd_mem 803 rfl rfl, gd_mem 124 rfl rfl, ⟨nb_X5.1, nb_X5.2, pd_7⟩, by decide⟩, gd_mem 802 rfl rfl⟩
theorem pl_X5_isSort : plainFor yX5_isSort = true := by decide +kernel
abbrev md_X5_isSort : MD := (yX5_isSort, cX5_isSort, 1, (some .boolean))
set_option maxRecDepth 100000 in
theorem ok_X5_isSort : sOk md_X5_isSort 1 := ⟨⟨gd_mem 942 rfl rfl, gd_mem 124 rfl rfl, ⟨nb_X5.1, nb_X5.2, pd_7⟩, by decide⟩, gd_mem 941 rfl rfl⟩
theorem pl_X5_itemAt : plainFor yX5_itemAt = true := by decide +kernel
abbrev md_X5_itemAt : MD := (yX5_itemAt, cX5_itemAt, 3, (some .int))
set_option maxRecDepth 100000 in
theorem ok_X5_itemAt : vOk md_X5_itemAt 2 := ⟨⟨gd_mem 812 rfl rfl, gd_mem 124 rfl rfl, ⟨nb_X5.1, nb_X5.2, pd_2⟩, by decide⟩, gd_mem 811 rfl rfl, gd_mem 54 rfl rfl⟩
theorem pl_X5_write : plainFor yX5_write = true := by decide +kernel
abbrev md_X5_write : MD := (yX5_write, cX5_write, 5, none)
set_option maxRecDepth 100000 in
theorem ok_X5_write : vOk md_X5_write 3 := ⟨⟨gd_mem 897 rfl rfl, gd_mem 124 rfl rfl, ⟨nb_X5.1, nb_X5.2, pd_5⟩, by decide⟩, gd_mem 896 rfl rfl, gd_mem 69 rfl rfl⟩
theorem pl_X6_add : plainFor yX6_add = true := by decide +kernel
abbrev md_X6_add : MD := (yX6_add, cX6_add, 2, (some .boolean))
set_option maxRecDepth 100000 in
theorem ok_X6_add : vOk md_X6_add 1 := ⟨⟨gd_mem 524 rfl rfl, gd_mem 118 rfl rfl, ⟨nb_X6.1, nb_X6.2, pd_7⟩, by decide⟩, gd_mem 523 rfl rfl, gd_mem 15 rfl rfl⟩
theorem pl_X6_byteAt : plainFor yX6_byteAt = true := by decide +kernel
abbrev md_X6_byteAt : MD := (yX6_byteAt, cX6_byteAt, 2, (some .int))
set_option maxRecDepth 100000 in
theorem ok_X6_byteAt : vOk md_X6_byteAt 1 := ⟨⟨gd_mem 544 rfl rfl, gd_mem 118 rfl rfl, ⟨nb_X6.1, nb_X6.2, pd_6⟩, by decide⟩, gd_mem 543 rfl rfl, gd_mem 19 rfl rfl⟩
theorem pl_X6_clear : plainFor yX6_clear = true := by decide +kernel
abbrev md_X6_clear : MD := (yX6_clear, cX6_clear, 1, none)
set_option maxRecDepth 100000 in
theorem ok_X6_clear : vOk md_X6_clear 0 := ⟨⟨gd_mem 657 rfl rfl, gd_mem 118 rfl rfl, ⟨nb_X6.1, nb_X6.2, pd_11⟩, by decide⟩, gd_mem 656 rfl rfl, gd_mem 32 rfl rfl⟩
theorem pl_X7_add : plainFor yX7_add = true := by decide +kernel
abbrev md_X7_add : MD := (yX7_add, cX7_add, 2, (some .int))
set_option maxRecDepth 100000 in
theorem ok_X7_add : vOk md_X7_add 1 := ⟨⟨gd_mem 661 rfl rfl, gd_mem 119 rfl rfl, ⟨nb_X7.1, nb_X7.2, pd_24⟩, by decide⟩, gd_mem 660 rfl rfl, gd_mem 33 rfl rfl⟩
theorem pl_X7_has : plainFor yX7_has = true := by decide +kernel
abbrev md_X7_has : MD := (yX7_has, cX7_has, 2, (some .boolean))
set_option maxRecDepth 100000 in
theorem ok_X7_has : vOk md_X7_has 1 := ⟨⟨gd_mem 478 rfl rfl, gd_mem 119 rfl rfl, ⟨nb_X7.1, nb_X7.2, pd_7⟩, by decide⟩, gd_mem 477 rfl rfl, gd_mem 12 rfl rfl⟩
theorem pl_X7_isFull : plainFor yX7_isFull = true := by decide +kernel
abbrev md_X7_isFull : MD := (yX7_isFull, cX7_isFull, 1, (some .boolean))
set_option maxRecDepth 100000 in
theorem ok_X7_isFull : vOk md_X7_isFull 0 := ⟨⟨gd_mem 532 rfl rfl, gd_mem 119 rfl rfl, ⟨nb_X7.1, nb_X7.2, pd_17⟩, by decide⟩, gd_mem 531 rfl rfl, gd_mem 16 rfl rfl⟩
theorem pl_X7_isOfOne : plainFor yX7_isOfOne = true := by decide +kernel
abbrev md_X7_isOfOne : MD := (yX7_isOfOne, cX7_isOfOne, 1, (some .boolean))
set_option maxRecDepth 100000 in
theorem ok_X7_isOfOne : sOk md_X7_isOfOne 1 := ⟨⟨gd_mem 487 rfl rfl, gd_mem 119 rfl rfl, ⟨nb_X7.1, nb_X7.2, pd_7⟩, by decide⟩, gd_mem 486 rfl rfl⟩
theorem pl_X7_ofOne : plainFor yX7_ofOne = true := by decide +kernel
abbrev md_X7_ofOne : MD := (yX7_ofOne, cX7_ofOne, 2, (some .int))
set_option maxRecDepth 100000 in
theorem ok_X7_ofOne : sOk md_X7_ofOne 2 := ⟨⟨gd_mem 490 rfl rfl, gd_mem 119 rfl rfl, ⟨nb_X7.1, nb_X7.2, pd_2⟩, by decide⟩, gd_mem 489 rfl rfl⟩
theorem pl_X7_ofTwo : plainFor yX7_ofTwo = true := by decide +kernel
abbrev md_X7_ofTwo : MD := (yX7_ofTwo, cX7_ofTwo, 3, (some .int))
set_option maxRecDepth 100000 in
theorem ok_X7_ofTwo : sOk md_X7_ofTwo 3 := ⟨⟨gd_mem 493 rfl rfl, gd_mem 119 rfl rfl, ⟨nb_X7.1, nb_X7.2, pd_8⟩, by decide⟩, gd_mem 492 rfl rfl⟩
theorem pl_X7_valueOf : plainFor yX7_valueOf = true := by decide +kernel
abbrev md_X7_valueOf : MD := (yX7_valueOf, cX7_valueOf, 10, (some .int))
set_option maxRecDepth 100000 in
theorem ok_X7_valueOf : vOk md_X7_valueOf 3 := ⟨⟨gd_mem 474 rfl rfl, gd_mem 119 rfl rfl, ⟨nb_X7.1, nb_X7.2, pd_25⟩, by decide⟩, gd_mem 473 rfl rfl, gd_mem 11 rfl rfl⟩
theorem pl_X8_angleOf : plainFor yX8_angleOf = true := by decide +kernel
abbrev md_X8_angleOf : MD := (yX8_angleOf, cX8_angleOf, 2, (some .int))
set_option maxRecDepth 100000 in
theorem ok_X8_angleOf : vOk md_X8_angleOf 1 := ⟨⟨gd_mem 710 rfl rfl, gd_mem 122 rfl rfl, ⟨nb_X8.1, nb_X8.2, pd_6⟩, by decide⟩, gd_mem 709 rfl rfl, gd_mem 40 rfl rfl⟩
theorem pl_X8_canBe : plainFor yX8_canBe = true := by decide +kernel
abbrev md_X8_canBe : MD := (yX8_canBe, cX8_canBe, 2, (some .boolean))
set_option maxRecDepth 100000 in
theorem ok_X8_canBe : vOk md_X8_canBe 1 := ⟨⟨gd_mem 704 rfl rfl, gd_mem 122 rfl rfl, ⟨nb_X8.1, nb_X8.2, pd_7⟩, by decide⟩, gd_mem 703 rfl rfl, gd_mem 39 rfl rfl⟩
theorem pl_X8_change : plainFor yX8_change = true := by decide +kernel
abbrev md_X8_change : MD := (yX8_change, cX8_change, 5, none)
set_option maxRecDepth 100000 in
theorem ok_X8_change : vOk md_X8_change 3 := ⟨⟨gd_mem 700 rfl rfl, gd_mem 122 rfl rfl, ⟨nb_X8.1, nb_X8.2, pd_5⟩, by decide⟩, gd_mem 699 rfl rfl, gd_mem 38 rfl rfl⟩
theorem pl_X8_lyingAt : plainFor yX8_lyingAt = true := by decide +kernel
abbrev md_X8_lyingAt : MD := (yX8_lyingAt, cX8_lyingAt, 4, (some .int))
set_option maxRecDepth 100000 in
theorem ok_X8_lyingAt : vOk md_X8_lyingAt 2 := ⟨⟨gd_mem 693 rfl rfl, gd_mem 122 rfl rfl, ⟨nb_X8.1, nb_X8.2, pd_2⟩, by decide⟩, gd_mem 692 rfl rfl, gd_mem 37 rfl rfl⟩
theorem pl_X8_neighbours : plainFor yX8_neighbours = true := by decide +kernel
abbrev md_X8_neighbours : MD := (yX8_neighbours, cX8_neighbours, 3, (some .int))
set_option maxRecDepth 100000 in
theorem ok_X8_neighbours : vOk md_X8_neighbours 2 := ⟨⟨gd_mem 689 rfl rfl, gd_mem 122 rfl rfl, ⟨nb_X8.1, nb_X8.2, pd_2⟩, by decide⟩, gd_mem 688 rfl rfl, gd_mem 36 rfl rfl⟩
theorem pl_X8_put : plainFor yX8_put = true := by decide +kernel
abbrev md_X8_put : MD := (yX8_put, cX8_put, 2, none)
set_option maxRecDepth 100000 in
theorem ok_X8_put : vOk md_X8_put 1 := ⟨⟨gd_mem 796 rfl rfl, gd_mem 122 rfl rfl, ⟨nb_X8.1, nb_X8.2, pd_16⟩, by decide⟩, gd_mem 795 rfl rfl, gd_mem 52 rfl rfl⟩
theorem pl_X8_putBack : plainFor yX8_putBack = true := by decide +kernel
abbrev md_X8_putBack : MD := (yX8_putBack, cX8_putBack, 3, none)
set_option maxRecDepth 100000 in
theorem ok_X8_putBack : vOk md_X8_putBack 2 := ⟨⟨gd_mem 840 rfl rfl, gd_mem 122 rfl rfl, ⟨nb_X8.1, nb_X8.2, pd_3⟩, by decide⟩, gd_mem 839 rfl rfl, gd_mem 60 rfl rfl⟩
theorem pl_X8_start : plainFor yX8_start = true := by decide +kernel
abbrev md_X8_start : MD := (yX8_start, cX8_start, 3, none)
set_option maxRecDepth 100000 in
theorem ok_X8_start : vOk md_X8_start 0 := ⟨⟨gd_mem 679 rfl rfl, gd_mem 122 rfl rfl, ⟨nb_X8.1, nb_X8.2, pd_11⟩, by decide⟩, gd_mem 678 rfl rfl, gd_mem 34 rfl rfl⟩
theorem pl_X8_touchedBy : plainFor yX8_touchedBy = true := by decide +kernel
abbrev md_X8_touchedBy : MD := (yX8_touchedBy, cX8_touchedBy, 2, (some .int))
set_option maxRecDepth 100000 in
theorem ok_X8_touchedBy : vOk md_X8_touchedBy 1 := ⟨⟨gd_mem 856 rfl rfl, gd_mem 122 rfl rfl, ⟨nb_X8.1, nb_X8.2, pd_6⟩, by decide⟩, gd_mem 855 rfl rfl, gd_mem 62 rfl rfl⟩
theorem pl_X8_touchingWith : plainFor yX8_touchingWith = true := by decide +kernel
abbrev md_X8_touchingWith : MD := (yX8_touchingWith, cX8_touchingWith, 2, (some .int))
set_option maxRecDepth 100000 in
theorem ok_X8_touchingWith : vOk md_X8_touchingWith 1 := ⟨⟨gd_mem 787 rfl rfl, gd_mem 122 rfl rfl, ⟨nb_X8.1, nb_X8.2, pd_6⟩, by decide⟩, gd_mem 786 rfl rfl, gd_mem 51 rfl rfl⟩
theorem pl_X9_agreeing : plainFor yX9_agreeing = true := by decide +kernel
abbrev md_X9_agreeing : MD := (yX9_agreeing, cX9_agreeing, 7, (some .int))
set_option maxRecDepth 100000 in
theorem ok_X9_agreeing : vOk md_X9_agreeing 3 := ⟨⟨gd_mem 877 rfl rfl, gd_mem 116 rfl rfl, ⟨nb_X9.1, nb_X9.2, pd_8⟩, by decide⟩, gd_mem 876 rfl rfl, gd_mem 65 rfl rfl⟩
theorem pl_X9_back : plainFor yX9_back = true := by decide +kernel
abbrev md_X9_back : MD := (yX9_back, cX9_back, 1, (some .int))
set_option maxRecDepth 100000 in
theorem ok_X9_back : vOk md_X9_back 0 := ⟨⟨gd_mem 927 rfl rfl, gd_mem 116 rfl rfl, ⟨nb_X9.1, nb_X9.2, pd_1⟩, by decide⟩, gd_mem 925 rfl rfl, gd_mem 926 rfl rfl⟩
theorem pl_X9_bunch : plainFor yX9_bunch = true := by decide +kernel
abbrev md_X9_bunch : MD := (yX9_bunch, cX9_bunch, 2, (some .int))
set_option maxRecDepth 100000 in
theorem ok_X9_bunch : vOk md_X9_bunch 1 := ⟨⟨gd_mem 746 rfl rfl, gd_mem 116 rfl rfl, ⟨nb_X9.1, nb_X9.2, pd_6⟩, by decide⟩, gd_mem 744 rfl rfl, gd_mem 745 rfl rfl⟩
theorem pl_X9_cell : plainFor yX9_cell = true := by decide +kernel
abbrev md_X9_cell : MD := (yX9_cell, cX9_cell, 4, (some .int))
set_option maxRecDepth 100000 in
theorem ok_X9_cell : vOk md_X9_cell 3 := ⟨⟨gd_mem 946 rfl rfl, gd_mem 116 rfl rfl, ⟨nb_X9.1, nb_X9.2, pd_8⟩, by decide⟩, gd_mem 944 rfl rfl, gd_mem 945 rfl rfl⟩
theorem pl_X9_chance : plainFor yX9_chance = true := by decide +kernel
abbrev md_X9_chance : MD := (yX9_chance, cX9_chance, 7, (some .long))
set_option maxRecDepth 100000 in
theorem ok_X9_chance : vOk md_X9_chance 4 := ⟨⟨gd_mem 910 rfl rfl, gd_mem 116 rfl rfl, ⟨nb_X9.1, nb_X9.2, pd_9⟩, by decide⟩, gd_mem 908 rfl rfl, gd_mem 909 rfl rfl⟩
theorem pl_X9_cheapestBut : plainFor yX9_cheapestBut = true := by decide +kernel
abbrev md_X9_cheapestBut : MD := (yX9_cheapestBut, cX9_cheapestBut, 6, (some .int))
set_option maxRecDepth 100000 in
theorem ok_X9_cheapestBut : vOk md_X9_cheapestBut 1 := ⟨⟨gd_mem 848 rfl rfl, gd_mem 116 rfl rfl, ⟨nb_X9.1, nb_X9.2, pd_6⟩, by decide⟩, gd_mem 847 rfl rfl, gd_mem 61 rfl rfl⟩
theorem pl_X9_choicesOf : plainFor yX9_choicesOf = true := by decide +kernel
abbrev md_X9_choicesOf : MD := (yX9_choicesOf, cX9_choicesOf, 2, (some .int))
set_option maxRecDepth 100000 in
theorem ok_X9_choicesOf : vOk md_X9_choicesOf 1 := ⟨⟨gd_mem 881 rfl rfl, gd_mem 116 rfl rfl, ⟨nb_X9.1, nb_X9.2, pd_6⟩, by decide⟩, gd_mem 880 rfl rfl, gd_mem 66 rfl rfl⟩
theorem pl_X9_commonDivisor : plainFor yX9_commonDivisor = true := by decide +kernel
abbrev md_X9_commonDivisor : MD := (yX9_commonDivisor, cX9_commonDivisor, 3, (some .int))
set_option maxRecDepth 100000 in
theorem ok_X9_commonDivisor : sOk md_X9_commonDivisor 2 := ⟨⟨gd_mem 914 rfl rfl, gd_mem 116 rfl rfl, ⟨nb_X9.1, nb_X9.2, pd_2⟩, by decide⟩, gd_mem 913 rfl rfl⟩
theorem pl_X9_copy : plainFor yX9_copy = true := by decide +kernel
abbrev md_X9_copy : MD := (yX9_copy, cX9_copy, 6, (some .int))
set_option maxRecDepth 100000 in
theorem ok_X9_copy : vOk md_X9_copy 5 := ⟨⟨gd_mem 951 rfl rfl, gd_mem 116 rfl rfl, ⟨nb_X9.1, nb_X9.2, pd_10⟩, by decide⟩, gd_mem 949 rfl rfl, gd_mem 950 rfl rfl⟩
theorem pl_X9_costOfAll : plainFor yX9_costOfAll = true := by decide +kernel
abbrev md_X9_costOfAll : MD := (yX9_costOfAll, cX9_costOfAll, 3, (some .int))
set_option maxRecDepth 100000 in
theorem ok_X9_costOfAll : vOk md_X9_costOfAll 0 := ⟨⟨gd_mem 769 rfl rfl, gd_mem 116 rfl rfl, ⟨nb_X9.1, nb_X9.2, pd_1⟩, by decide⟩, gd_mem 768 rfl rfl, gd_mem 49 rfl rfl⟩
theorem pl_X9_count : plainFor yX9_count = true := by decide +kernel
abbrev md_X9_count : MD := (yX9_count, cX9_count, 2, (some .int))
set_option maxRecDepth 100000 in
theorem ok_X9_count : vOk md_X9_count 1 := ⟨⟨gd_mem 931 rfl rfl, gd_mem 116 rfl rfl, ⟨nb_X9.1, nb_X9.2, pd_6⟩, by decide⟩, gd_mem 929 rfl rfl, gd_mem 930 rfl rfl⟩
theorem pl_X9_draw : plainFor yX9_draw = true := by decide +kernel
abbrev md_X9_draw : MD := (yX9_draw, cX9_draw, 2, (some .int))
set_option maxRecDepth 100000 in
theorem ok_X9_draw : vOk md_X9_draw 1 := ⟨⟨gd_mem 728 rfl rfl, gd_mem 116 rfl rfl, ⟨nb_X9.1, nb_X9.2, pd_6⟩, by decide⟩, gd_mem 726 rfl rfl, gd_mem 727 rfl rfl⟩
theorem pl_X9_drawn : plainFor yX9_drawn = true := by decide +kernel
abbrev md_X9_drawn : MD := (yX9_drawn, cX9_drawn, 3, (some .int))
set_option maxRecDepth 100000 in
theorem ok_X9_drawn : vOk md_X9_drawn 2 := ⟨⟨gd_mem 901 rfl rfl, gd_mem 116 rfl rfl, ⟨nb_X9.1, nb_X9.2, pd_2⟩, by decide⟩, gd_mem 899 rfl rfl, gd_mem 900 rfl rfl⟩
theorem pl_X9_feed : plainFor yX9_feed = true := by decide +kernel
abbrev md_X9_feed : MD := (yX9_feed, cX9_feed, 2, (some .int))
set_option maxRecDepth 100000 in
theorem ok_X9_feed : vOk md_X9_feed 1 := ⟨⟨gd_mem 520 rfl rfl, gd_mem 116 rfl rfl, ⟨nb_X9.1, nb_X9.2, pd_6⟩, by decide⟩, gd_mem 518 rfl rfl, gd_mem 519 rfl rfl⟩
theorem pl_X9_film : plainFor yX9_film = true := by decide +kernel
abbrev md_X9_film : MD := (yX9_film, cX9_film, 5, (some .int))
set_option maxRecDepth 100000 in
theorem ok_X9_film : vOk md_X9_film 3 := ⟨⟨gd_mem 889 rfl rfl, gd_mem 116 rfl rfl, ⟨nb_X9.1, nb_X9.2, pd_8⟩, by decide⟩, gd_mem 887 rfl rfl, gd_mem 888 rfl rfl⟩
theorem pl_X9_firstOtherwise : plainFor yX9_firstOtherwise = true := by decide +kernel
abbrev md_X9_firstOtherwise : MD := (yX9_firstOtherwise, cX9_firstOtherwise, 4, (some .int))
set_option maxRecDepth 100000 in
theorem ok_X9_firstOtherwise : vOk md_X9_firstOtherwise 1 := ⟨⟨gd_mem 866 rfl rfl, gd_mem 116 rfl rfl, ⟨nb_X9.1, nb_X9.2, pd_6⟩, by decide⟩, gd_mem 865 rfl rfl, gd_mem 63 rfl rfl⟩
theorem pl_X9_flower : plainFor yX9_flower = true := by decide +kernel
abbrev md_X9_flower : MD := (yX9_flower, cX9_flower, 3, (some .int))
set_option maxRecDepth 100000 in
theorem ok_X9_flower : vOk md_X9_flower 2 := ⟨⟨gd_mem 426 rfl rfl, gd_mem 116 rfl rfl, ⟨nb_X9.1, nb_X9.2, pd_2⟩, by decide⟩, gd_mem 424 rfl rfl, gd_mem 425 rfl rfl⟩
theorem pl_X9_flowers : plainFor yX9_flowers = true := by decide +kernel
abbrev md_X9_flowers : MD := (yX9_flowers, cX9_flowers, 10, (some .int))
set_option maxRecDepth 100000 in
theorem ok_X9_flowers : vOk md_X9_flowers 4 := ⟨⟨gd_mem 960 rfl rfl, gd_mem 116 rfl rfl, ⟨nb_X9.1, nb_X9.2, pd_12⟩, by decide⟩, gd_mem 958 rfl rfl, gd_mem 959 rfl rfl⟩
theorem pl_X9_forMoney : plainFor yX9_forMoney = true := by decide +kernel
abbrev md_X9_forMoney : MD := (yX9_forMoney, cX9_forMoney, 9, (some .int))
set_option maxRecDepth 100000 in
theorem ok_X9_forMoney : vOk md_X9_forMoney 1 := ⟨⟨gd_mem 844 rfl rfl, gd_mem 116 rfl rfl, ⟨nb_X9.1, nb_X9.2, pd_6⟩, by decide⟩, gd_mem 842 rfl rfl, gd_mem 843 rfl rfl⟩
theorem pl_X9_force : plainFor yX9_force = true := by decide +kernel
abbrev md_X9_force : MD := (yX9_force, cX9_force, 3, (some .int))
set_option maxRecDepth 100000 in
theorem ok_X9_force : vOk md_X9_force 1 := ⟨⟨gd_mem 670 rfl rfl, gd_mem 116 rfl rfl, ⟨nb_X9.1, nb_X9.2, pd_6⟩, by decide⟩, gd_mem 668 rfl rfl, gd_mem 669 rfl rfl⟩
theorem pl_X9_good : plainFor yX9_good = true := by decide +kernel
abbrev md_X9_good : MD := (yX9_good, cX9_good, 4, (some .int))
set_option maxRecDepth 100000 in
theorem ok_X9_good : vOk md_X9_good 1 := ⟨⟨gd_mem 779 rfl rfl, gd_mem 116 rfl rfl, ⟨nb_X9.1, nb_X9.2, pd_6⟩, by decide⟩, gd_mem 777 rfl rfl, gd_mem 778 rfl rfl⟩
theorem pl_X9_howMany : plainFor yX9_howMany = true := by decide +kernel
abbrev md_X9_howMany : MD := (yX9_howMany, cX9_howMany, 4, (some .int))
set_option maxRecDepth 100000 in
theorem ok_X9_howMany : vOk md_X9_howMany 1 := ⟨⟨gd_mem 792 rfl rfl, gd_mem 116 rfl rfl, ⟨nb_X9.1, nb_X9.2, pd_6⟩, by decide⟩, gd_mem 790 rfl rfl, gd_mem 791 rfl rfl⟩
theorem pl_X9_image : plainFor yX9_image = true := by decide +kernel
abbrev md_X9_image : MD := (yX9_image, cX9_image, 1, (some .int))
set_option maxRecDepth 100000 in
theorem ok_X9_image : vOk md_X9_image 0 := ⟨⟨gd_mem 918 rfl rfl, gd_mem 116 rfl rfl, ⟨nb_X9.1, nb_X9.2, pd_1⟩, by decide⟩, gd_mem 916 rfl rfl, gd_mem 917 rfl rfl⟩
theorem pl_X9_lay : plainFor yX9_lay = true := by decide +kernel
abbrev md_X9_lay : MD := (yX9_lay, cX9_lay, 3, (some .int))
set_option maxRecDepth 100000 in
theorem ok_X9_lay : vOk md_X9_lay 1 := ⟨⟨gd_mem 675 rfl rfl, gd_mem 116 rfl rfl, ⟨nb_X9.1, nb_X9.2, pd_6⟩, by decide⟩, gd_mem 673 rfl rfl, gd_mem 674 rfl rfl⟩
theorem pl_X9_mostOf : plainFor yX9_mostOf = true := by decide +kernel
abbrev md_X9_mostOf : MD := (yX9_mostOf, cX9_mostOf, 1, (some .int))
set_option maxRecDepth 100000 in
theorem ok_X9_mostOf : sOk md_X9_mostOf 1 := ⟨⟨gd_mem 409 rfl rfl, gd_mem 116 rfl rfl, ⟨nb_X9.1, nb_X9.2, pd_6⟩, by decide⟩, gd_mem 408 rfl rfl⟩
theorem pl_X9_next : plainFor yX9_next = true := by decide +kernel
abbrev md_X9_next : MD := (yX9_next, cX9_next, 6, (some .int))
set_option maxRecDepth 100000 in
theorem ok_X9_next : vOk md_X9_next 1 := ⟨⟨gd_mem 783 rfl rfl, gd_mem 116 rfl rfl, ⟨nb_X9.1, nb_X9.2, pd_6⟩, by decide⟩, gd_mem 781 rfl rfl, gd_mem 782 rfl rfl⟩
theorem pl_X9_order : plainFor yX9_order = true := by decide +kernel
abbrev md_X9_order : MD := (yX9_order, cX9_order, 5, (some .int))
set_option maxRecDepth 100000 in
theorem ok_X9_order : vOk md_X9_order 2 := ⟨⟨gd_mem 800 rfl rfl, gd_mem 116 rfl rfl, ⟨nb_X9.1, nb_X9.2, pd_2⟩, by decide⟩, gd_mem 798 rfl rfl, gd_mem 799 rfl rfl⟩
theorem pl_X9_set : plainFor yX9_set = true := by decide +kernel
abbrev md_X9_set : MD := (yX9_set, cX9_set, 5, (some .int))
set_option maxRecDepth 100000 in
theorem ok_X9_set : vOk md_X9_set 3 := ⟨⟨gd_mem 406 rfl rfl, gd_mem 116 rfl rfl, ⟨nb_X9.1, nb_X9.2, pd_8⟩, by decide⟩, gd_mem 404 rfl rfl, gd_mem 405 rfl rfl⟩
theorem pl_X9_sheet : plainFor yX9_sheet = true := by decide +kernel
abbrev md_X9_sheet : MD := (yX9_sheet, cX9_sheet, 4, (some .int))
set_option maxRecDepth 100000 in
theorem ok_X9_sheet : vOk md_X9_sheet 3 := ⟨⟨gd_mem 939 rfl rfl, gd_mem 116 rfl rfl, ⟨nb_X9.1, nb_X9.2, pd_8⟩, by decide⟩, gd_mem 937 rfl rfl, gd_mem 938 rfl rfl⟩
theorem pl_X9_stem : plainFor yX9_stem = true := by decide +kernel
abbrev md_X9_stem : MD := (yX9_stem, cX9_stem, 3, (some .int))
set_option maxRecDepth 100000 in
theorem ok_X9_stem : vOk md_X9_stem 2 := ⟨⟨gd_mem 742 rfl rfl, gd_mem 116 rfl rfl, ⟨nb_X9.1, nb_X9.2, pd_2⟩, by decide⟩, gd_mem 740 rfl rfl, gd_mem 741 rfl rfl⟩
theorem pl_X9_taken : plainFor yX9_taken = true := by decide +kernel
abbrev md_X9_taken : MD := (yX9_taken, cX9_taken, 3, (some .int))
set_option maxRecDepth 100000 in
theorem ok_X9_taken : vOk md_X9_taken 2 := ⟨⟨gd_mem 964 rfl rfl, gd_mem 116 rfl rfl, ⟨nb_X9.1, nb_X9.2, pd_2⟩, by decide⟩, gd_mem 962 rfl rfl, gd_mem 963 rfl rfl⟩
theorem pl_X9_tells : plainFor yX9_tells = true := by decide +kernel
abbrev md_X9_tells : MD := (yX9_tells, cX9_tells, 4, (some .int))
set_option maxRecDepth 100000 in
theorem ok_X9_tells : vOk md_X9_tells 3 := ⟨⟨gd_mem 861 rfl rfl, gd_mem 116 rfl rfl, ⟨nb_X9.1, nb_X9.2, pd_8⟩, by decide⟩, gd_mem 859 rfl rfl, gd_mem 860 rfl rfl⟩
theorem pl_X9_text : plainFor yX9_text = true := by decide +kernel
abbrev md_X9_text : MD := (yX9_text, cX9_text, 2, (some .int))
set_option maxRecDepth 100000 in
theorem ok_X9_text : vOk md_X9_text 0 := ⟨⟨gd_mem 528 rfl rfl, gd_mem 116 rfl rfl, ⟨nb_X9.1, nb_X9.2, pd_1⟩, by decide⟩, gd_mem 526 rfl rfl, gd_mem 527 rfl rfl⟩
theorem pl_X9_told : plainFor yX9_told = true := by decide +kernel
abbrev md_X9_told : MD := (yX9_told, cX9_told, 3, (some .int))
set_option maxRecDepth 100000 in
theorem ok_X9_told : vOk md_X9_told 2 := ⟨⟨gd_mem 437 rfl rfl, gd_mem 116 rfl rfl, ⟨nb_X9.1, nb_X9.2, pd_2⟩, by decide⟩, gd_mem 435 rfl rfl, gd_mem 436 rfl rfl⟩
theorem pl_X9_touchingDrawn : plainFor yX9_touchingDrawn = true := by decide +kernel
abbrev md_X9_touchingDrawn : MD := (yX9_touchingDrawn, cX9_touchingDrawn, 7, (some .int))
set_option maxRecDepth 100000 in
theorem ok_X9_touchingDrawn : vOk md_X9_touchingDrawn 2 := ⟨⟨gd_mem 905 rfl rfl, gd_mem 116 rfl rfl, ⟨nb_X9.1, nb_X9.2, pd_2⟩, by decide⟩, gd_mem 904 rfl rfl, gd_mem 70 rfl rfl⟩
theorem pl_X9_touchingNow : plainFor yX9_touchingNow = true := by decide +kernel
abbrev md_X9_touchingNow : MD := (yX9_touchingNow, cX9_touchingNow, 1, (some .int))
set_option maxRecDepth 100000 in
theorem ok_X9_touchingNow : vOk md_X9_touchingNow 0 := ⟨⟨gd_mem 759 rfl rfl, gd_mem 116 rfl rfl, ⟨nb_X9.1, nb_X9.2, pd_1⟩, by decide⟩, gd_mem 758 rfl rfl, gd_mem 47 rfl rfl⟩
theorem pl_X9_unevenness : plainFor yX9_unevenness = true := by decide +kernel
abbrev md_X9_unevenness : MD := (yX9_unevenness, cX9_unevenness, 5, (some .int))
set_option maxRecDepth 100000 in
theorem ok_X9_unevenness : vOk md_X9_unevenness 0 := ⟨⟨gd_mem 763 rfl rfl, gd_mem 116 rfl rfl, ⟨nb_X9.1, nb_X9.2, pd_1⟩, by decide⟩, gd_mem 762 rfl rfl, gd_mem 48 rfl rfl⟩
theorem pl_X9_worst : plainFor yX9_worst = true := by decide +kernel
abbrev md_X9_worst : MD := (yX9_worst, cX9_worst, 6, (some .int))
set_option maxRecDepth 100000 in
theorem ok_X9_worst : vOk md_X9_worst 1 := ⟨⟨gd_mem 852 rfl rfl, gd_mem 116 rfl rfl, ⟨nb_X9.1, nb_X9.2, pd_6⟩, by decide⟩, gd_mem 850 rfl rfl, gd_mem 851 rfl rfl⟩
set_option maxRecDepth 100000 in
theorem ml_X0_46 : mLk RX0 46 yX1_isKind := Or.inr ⟨"FortyStems", ns_mem 316 rfl rfl⟩
set_option maxRecDepth 100000 in
theorem ml_X0_52 : mLk RX0 52 yX0_hasFlower := Or.inl (gd_mem 418 rfl rfl)
set_option maxRecDepth 100000 in
theorem ml_X0_55 : mLk RX0 55 yX0_hasStem := Or.inl (gd_mem 737 rfl rfl)
set_option maxRecDepth 100000 in
theorem ml_X0_58 : mLk RX0 58 yJ9_min_7cf53 := Or.inl (gd_mem 738 rfl rfl)
set_option maxRecDepth 100000 in
theorem ml_X0_64 : mLk RX0 64 yX0_thickOf := Or.inl (gd_mem 455 rfl rfl)
set_option maxRecDepth 100000 in
theorem ml_X0_68 : mLk RX0 68 yX1_thick := Or.inr ⟨"FortyStems", ns_mem 344 rfl rfl⟩
set_option maxRecDepth 100000 in
theorem ml_X0_71 : mLk RX0 71 yX0_colourOf := Or.inl (gd_mem 755 rfl rfl)
set_option maxRecDepth 100000 in
theorem ml_X1_9 : mLk RX1 9 yX1_isKind := Or.inl (gd_mem 969 rfl rfl)
set_option maxRecDepth 100000 in
theorem ml_X1_19 : mLk RX1 19 yJ9_max_7cf53 := Or.inl (gd_mem 509 rfl rfl)
set_option maxRecDepth 100000 in
theorem ml_X10_79 : mLk RX10 79 yX10_in := Or.inl (gd_mem 1126 rfl rfl)
set_option maxRecDepth 100000 in
theorem ml_X10_85 : mLk RX10 85 yX10_isFlower := Or.inl (gd_mem 1129 rfl rfl)
set_option maxRecDepth 100000 in
theorem ml_X10_89 : mLk RX10 89 yX10_mostOf := Or.inl (gd_mem 1133 rfl rfl)
set_option maxRecDepth 100000 in
theorem ml_X10_93 : mLk RX10 93 yX10_told := Or.inl (gd_mem 1136 rfl rfl)
set_option maxRecDepth 100000 in
theorem ml_X10_97 : mLk RX10 97 yX10_lays := Or.inl (gd_mem 1243 rfl rfl)
set_option maxRecDepth 100000 in
theorem ml_X10_111 : mLk RX10 111 yX10_thickOf := Or.inl (gd_mem 1141 rfl rfl)
set_option maxRecDepth 100000 in
theorem ml_X10_114 : mLk RX10 114 yX10_looks := Or.inl (gd_mem 1145 rfl rfl)
set_option maxRecDepth 100000 in
theorem ml_X10_118 : mLk RX10 118 yX10_turnsOf := Or.inl (gd_mem 1157 rfl rfl)
set_option maxRecDepth 100000 in
theorem ml_X10_121 : mLk RX10 121 yX10_costsOf := Or.inl (gd_mem 1235 rfl rfl)
set_option maxRecDepth 100000 in
theorem ml_X10_124 : mLk RX10 124 yX10_lastsOf := Or.inl (gd_mem 1239 rfl rfl)
set_option maxRecDepth 100000 in
theorem ml_X10_141 : mLk RX10 141 yX10_byteAt := Or.inl (gd_mem 1169 rfl rfl)
set_option maxRecDepth 100000 in
theorem ml_X10_171 : mLk RX10 171 yX10_isLetter := Or.inl (gd_mem 1182 rfl rfl)
set_option maxRecDepth 100000 in
theorem ml_X10_178 : mLk RX10 178 yX10_fail := Or.inl (gd_mem 1190 rfl rfl)
set_option maxRecDepth 100000 in
theorem ml_X10_181 : mLk RX10 181 yX10_nextToken := Or.inl (gd_mem 1165 rfl rfl)
set_option maxRecDepth 100000 in
theorem ml_X10_184 : mLk RX10 184 yX10_isWord := Or.inl (gd_mem 1178 rfl rfl)
set_option maxRecDepth 100000 in
theorem ml_X10_206 : mLk RX10 206 yX10_isSign := Or.inl (gd_mem 1222 rfl rfl)
set_option maxRecDepth 100000 in
theorem ml_X10_209 : mLk RX10 209 yX10_opens := Or.inl (gd_mem 1206 rfl rfl)
set_option maxRecDepth 100000 in
theorem ml_X10_213 : mLk RX10 213 yX10_atom := Or.inl (gd_mem 1218 rfl rfl)
set_option maxRecDepth 100000 in
theorem ml_X10_217 : mLk RX10 217 yX10_either := Or.inl (gd_mem 1194 rfl rfl)
set_option maxRecDepth 100000 in
theorem ml_X10_220 : mLk RX10 220 yX10_name := Or.inl (gd_mem 1226 rfl rfl)
set_option maxRecDepth 100000 in
theorem ml_X10_223 : mLk RX10 223 yX10_term := Or.inl (gd_mem 1214 rfl rfl)
set_option maxRecDepth 100000 in
theorem ml_X10_228 : mLk RX10 228 yX10_not := Or.inl (gd_mem 1202 rfl rfl)
set_option maxRecDepth 100000 in
theorem ml_X10_231 : mLk RX10 231 yX10_added := Or.inl (gd_mem 1210 rfl rfl)
set_option maxRecDepth 100000 in
theorem ml_X10_236 : mLk RX10 236 yX10_both := Or.inl (gd_mem 1198 rfl rfl)
set_option maxRecDepth 100000 in
theorem ml_X10_239 : mLk RX10 239 yX10_part := Or.inl (gd_mem 1186 rfl rfl)
set_option maxRecDepth 100000 in
theorem ml_X10_243 : mLk RX10 243 yX10_read := Or.inl (gd_mem 1161 rfl rfl)
set_option maxRecDepth 100000 in
theorem ml_X10_249 : mLk RX10 249 yX10_lastAngle := Or.inl (gd_mem 1149 rfl rfl)
set_option maxRecDepth 100000 in
theorem ml_X10_252 : mLk RX10 252 yX10_roomNow := Or.inl (gd_mem 1153 rfl rfl)
set_option maxRecDepth 100000 in
theorem ml_X10_255 : mLk RX10 255 yX10_within := Or.inl (gd_mem 1232 rfl rfl)
set_option maxRecDepth 100000 in
theorem ml_X10_259 : mLk RX10 259 yX10_isRoom := Or.inl (gd_mem 1270 rfl rfl)
set_option maxRecDepth 100000 in
theorem ml_X10_262 : mLk RX10 262 yX10_round := Or.inl (gd_mem 1278 rfl rfl)
set_option maxRecDepth 100000 in
theorem ml_X10_265 : mLk RX10 265 yX10_puts := Or.inl (gd_mem 1274 rfl rfl)
set_option maxRecDepth 100000 in
theorem ml_X10_268 : mLk RX10 268 yX10_touch := Or.inl (gd_mem 1300 rfl rfl)
set_option maxRecDepth 100000 in
theorem ml_X10_271 : mLk RX10 271 yX10_quarter := Or.inl (gd_mem 1308 rfl rfl)
set_option maxRecDepth 100000 in
theorem ml_X10_279 : mLk RX10 279 yX10_touching := Or.inl (gd_mem 1296 rfl rfl)
set_option maxRecDepth 100000 in
theorem ml_X10_282 : mLk RX10 282 yX10_even := Or.inl (gd_mem 1304 rfl rfl)
set_option maxRecDepth 100000 in
theorem ml_X10_285 : mLk RX10 285 yX10_cost := Or.inl (gd_mem 1312 rfl rfl)
set_option maxRecDepth 100000 in
theorem ml_X10_288 : mLk RX10 288 yX10_ofColours := Or.inl (gd_mem 1316 rfl rfl)
set_option maxRecDepth 100000 in
theorem ml_X10_293 : mLk RX10 293 yX10_canLay := Or.inl (gd_mem 1329 rfl rfl)
set_option maxRecDepth 100000 in
theorem ml_X10_296 : mLk RX10 296 yX10_takesOff := Or.inl (gd_mem 1333 rfl rfl)
set_option maxRecDepth 100000 in
theorem ml_X10_305 : mLk RX10 305 yX10_seeks := Or.inl (gd_mem 1354 rfl rfl)
set_option maxRecDepth 100000 in
theorem ml_X10_310 : mLk RX10 310 yX10_isSheet := Or.inl (gd_mem 1345 rfl rfl)
set_option maxRecDepth 100000 in
theorem ml_X10_313 : mLk RX10 313 yX10_isOrder := Or.inl (gd_mem 1349 rfl rfl)
set_option maxRecDepth 100000 in
theorem ml_X10_318 : mLk RX10 318 yX10_turnsFrom := Or.inl (gd_mem 1375 rfl rfl)
set_option maxRecDepth 100000 in
theorem ml_X10_322 : mLk RX10 322 yX10_firstOther := Or.inl (gd_mem 1371 rfl rfl)
set_option maxRecDepth 100000 in
theorem ml_X10_327 : mLk RX10 327 yX10_sheet := Or.inl (gd_mem 1384 rfl rfl)
set_option maxRecDepth 100000 in
theorem ml_X10_333 : mLk RX10 333 yX10_draws := Or.inl (gd_mem 1395 rfl rfl)
set_option maxRecDepth 100000 in
theorem ml_X10_358 : mLk RX10 358 yX10_flower := Or.inl (gd_mem 1431 rfl rfl)
set_option maxRecDepth 100000 in
theorem ml_X10_361 : mLk RX10 361 yX10_over := Or.inl (gd_mem 1436 rfl rfl)
set_option maxRecDepth 100000 in
theorem ml_X2_28 : mLk RX2 28 yX2_inEmptyHand := Or.inl (gd_mem 442 rfl rfl)
set_option maxRecDepth 100000 in
theorem ml_X2_37 : mLk RX2 37 yX0_lastAngle := Or.inr ⟨"FortyStems", ns_mem 332 rfl rfl⟩
set_option maxRecDepth 100000 in
theorem ml_X2_41 : mLk RX2 41 yX0_roomLeft := Or.inr ⟨"FortyStems", ns_mem 336 rfl rfl⟩
set_option maxRecDepth 100000 in
theorem ml_X2_44 : mLk RX2 44 yX0_hasFlower := Or.inr ⟨"FortyStems", ns_mem 331 rfl rfl⟩
set_option maxRecDepth 100000 in
theorem ml_X2_67 : mLk RX2 67 yX2_turns := Or.inl (gd_mem 871 rfl rfl)
set_option maxRecDepth 100000 in
theorem ml_X2_70 : mLk RX2 70 yX2_turned := Or.inl (gd_mem 872 rfl rfl)
set_option maxRecDepth 100000 in
theorem ml_X2_74 : mLk RX2 74 yX2_thick := Or.inl (gd_mem 873 rfl rfl)
set_option maxRecDepth 100000 in
theorem ml_X2_77 : mLk RX2 77 yJ9_floorMod_7cf53 := Or.inl (gd_mem 720 rfl rfl)
set_option maxRecDepth 100000 in
theorem ml_X2_82 : mLk RX2 82 yX1_thick := Or.inr ⟨"FortyStems", ns_mem 351 rfl rfl⟩
set_option maxRecDepth 100000 in
theorem ml_X2_86 : mLk RX2 86 yX7_valueOf := Or.inr ⟨"FortyStems", ns_mem 356 rfl rfl⟩
set_option maxRecDepth 100000 in
theorem ml_X2_90 : mLk RX2 90 yX2_within := Or.inl (gd_mem 494 rfl rfl)
set_option maxRecDepth 100000 in
theorem ml_X2_94 : mLk RX2 94 yX1_turns := Or.inr ⟨"FortyStems", ns_mem 384 rfl rfl⟩
set_option maxRecDepth 100000 in
theorem ml_X2_96 : mLk RX2 96 yX1_costs := Or.inr ⟨"FortyStems", ns_mem 391 rfl rfl⟩
set_option maxRecDepth 100000 in
theorem ml_X2_99 : mLk RX2 99 yX1_lasts := Or.inr ⟨"FortyStems", ns_mem 399 rfl rfl⟩
set_option maxRecDepth 100000 in
theorem ml_X2_102 : mLk RX2 102 yJ9_min_7cf53 := Or.inl (gd_mem 497 rfl rfl)
set_option maxRecDepth 100000 in
theorem ml_X2_105 : mLk RX2 105 yJ9_max_7cf53 := Or.inl (gd_mem 498 rfl rfl)
set_option maxRecDepth 100000 in
theorem ml_X3_29 : mLk RX3 29 yJ9_min_7cf53 := Or.inl (gd_mem 821 rfl rfl)
set_option maxRecDepth 100000 in
theorem ml_X3_40 : mLk RX3 40 yX3_isFree := Or.inl (gd_mem 826 rfl rfl)
set_option maxRecDepth 100000 in
theorem ml_X3_44 : mLk RX3 44 yX3_tryPlace := Or.inl (gd_mem 830 rfl rfl)
set_option maxRecDepth 100000 in
theorem ml_X3_51 : mLk RX3 51 yX8_canBe := Or.inr ⟨"FortyStems", ns_mem 719 rfl rfl⟩
set_option maxRecDepth 100000 in
theorem ml_X3_55 : mLk RX3 55 yX8_put := Or.inr ⟨"FortyStems", ns_mem 720 rfl rfl⟩
set_option maxRecDepth 100000 in
theorem ml_X3_59 : mLk RX3 59 yX3_search := Or.inl (gd_mem 836 rfl rfl)
set_option maxRecDepth 100000 in
theorem ml_X3_63 : mLk RX3 63 yX8_putBack := Or.inr ⟨"FortyStems", ns_mem 722 rfl rfl⟩
set_option maxRecDepth 100000 in
theorem ml_X4_43 : mLk RX4 43 yX4_advance := Or.inl (gd_mem 537 rfl rfl)
set_option maxRecDepth 100000 in
theorem ml_X4_46 : mLk RX4 46 yX4_expect := Or.inl (gd_mem 622 rfl rfl)
set_option maxRecDepth 100000 in
theorem ml_X4_50 : mLk RX4 50 yX4_readOr := Or.inl (gd_mem 626 rfl rfl)
set_option maxRecDepth 100000 in
theorem ml_X4_53 : mLk RX4 53 yX4_fail := Or.inl (gd_mem 608 rfl rfl)
set_option maxRecDepth 100000 in
theorem ml_X4_56 : mLk RX4 56 yX4_readAnd := Or.inl (gd_mem 630 rfl rfl)
set_option maxRecDepth 100000 in
theorem ml_X4_59 : mLk RX4 59 yX4_make := Or.inl (gd_mem 638 rfl rfl)
set_option maxRecDepth 100000 in
theorem ml_X4_62 : mLk RX4 62 yX4_readNot := Or.inl (gd_mem 634 rfl rfl)
set_option maxRecDepth 100000 in
theorem ml_X4_65 : mLk RX4 65 yX4_readSum := Or.inl (gd_mem 642 rfl rfl)
set_option maxRecDepth 100000 in
theorem ml_X4_68 : mLk RX4 68 yX4_readTerm := Or.inl (gd_mem 646 rfl rfl)
set_option maxRecDepth 100000 in
theorem ml_X4_71 : mLk RX4 71 yX4_readOne := Or.inl (gd_mem 650 rfl rfl)
set_option maxRecDepth 100000 in
theorem ml_X4_74 : mLk RX4 74 yX6_byteAt := Or.inr ⟨"FortyStems", ns_mem 426 rfl rfl⟩
set_option maxRecDepth 100000 in
theorem ml_X4_80 : mLk RX4 80 yX4_isBlank := Or.inl (gd_mem 545 rfl rfl)
set_option maxRecDepth 100000 in
theorem ml_X4_84 : mLk RX4 84 yX4_isLetter := Or.inl (gd_mem 548 rfl rfl)
set_option maxRecDepth 100000 in
theorem ml_X4_87 : mLk RX4 87 yX4_takeWord := Or.inl (gd_mem 551 rfl rfl)
set_option maxRecDepth 100000 in
theorem ml_X4_90 : mLk RX4 90 yX4_isDigit := Or.inl (gd_mem 612 rfl rfl)
set_option maxRecDepth 100000 in
theorem ml_X4_93 : mLk RX4 93 yX4_takeNumber := Or.inl (gd_mem 615 rfl rfl)
set_option maxRecDepth 100000 in
theorem ml_X4_96 : mLk RX4 96 yX4_isSign := Or.inl (gd_mem 619 rfl rfl)
set_option maxRecDepth 100000 in
theorem ml_X4_101 : mLk RX4 101 yJ0_length_8abf5 := Or.inl (gd_mem 556 rfl rfl)
set_option maxRecDepth 100000 in
theorem ml_X4_107 : mLk RX4 107 yJ0_charAt_5068e := Or.inl (gd_mem 566 rfl rfl)
set_option maxRecDepth 100000 in
theorem ml_X4_111 : mLk RX4 111 yX4_standsAtStart := Or.inl (gd_mem 604 rfl rfl)
set_option maxRecDepth 100000 in
theorem ml_X5_21 : mLk RX5 21 yX5_isNumber := Or.inl (gd_mem 808 rfl rfl)
set_option maxRecDepth 100000 in
theorem ml_X5_25 : mLk RX5 25 yX5_hasItem := Or.inl (gd_mem 813 rfl rfl)
set_option maxRecDepth 100000 in
theorem ml_X7_27 : mLk RX7 27 yX7_isFull := Or.inl (gd_mem 662 rfl rfl)
set_option maxRecDepth 100000 in
theorem ml_X7_43 : mLk RX7 43 yX7_has := Or.inl (gd_mem 475 rfl rfl)
set_option maxRecDepth 100000 in
theorem ml_X7_47 : mLk RX7 47 yJ9_max_7cf53 := Or.inl (gd_mem 479 rfl rfl)
set_option maxRecDepth 100000 in
theorem ml_X7_53 : mLk RX7 53 yJ9_min_7cf53 := Or.inl (gd_mem 482 rfl rfl)
set_option maxRecDepth 100000 in
theorem ml_X7_56 : mLk RX7 56 yX7_isOfOne := Or.inl (gd_mem 485 rfl rfl)
set_option maxRecDepth 100000 in
theorem ml_X7_59 : mLk RX7 59 yX7_ofOne := Or.inl (gd_mem 488 rfl rfl)
set_option maxRecDepth 100000 in
theorem ml_X7_62 : mLk RX7 62 yX7_ofTwo := Or.inl (gd_mem 491 rfl rfl)
set_option maxRecDepth 100000 in
theorem ml_X8_42 : mLk RX8 42 yX0_lastAngle := Or.inr ⟨"FortyStems", ns_mem 565 rfl rfl⟩
set_option maxRecDepth 100000 in
theorem ml_X8_46 : mLk RX8 46 yX0_roomLeft := Or.inr ⟨"FortyStems", ns_mem 566 rfl rfl⟩
set_option maxRecDepth 100000 in
theorem ml_X8_58 : mLk RX8 58 yX0_colourOf := Or.inr ⟨"FortyStems", ns_mem 567 rfl rfl⟩
set_option maxRecDepth 100000 in
theorem ml_X8_65 : mLk RX8 65 yX8_neighbours := Or.inl (gd_mem 686 rfl rfl)
set_option maxRecDepth 100000 in
theorem ml_X8_69 : mLk RX8 69 yX8_change := Or.inl (gd_mem 697 rfl rfl)
set_option maxRecDepth 100000 in
theorem ml_X8_73 : mLk RX8 73 yJ9_floorMod_7cf53 := Or.inl (gd_mem 694 rfl rfl)
set_option maxRecDepth 100000 in
theorem ml_X8_78 : mLk RX8 78 yX8_lyingAt := Or.inl (gd_mem 690 rfl rfl)
set_option maxRecDepth 100000 in
theorem ml_X8_81 : mLk RX8 81 yX0_hasFlower := Or.inr ⟨"FortyStems", ns_mem 590 rfl rfl⟩
set_option maxRecDepth 100000 in
theorem ml_X8_85 : mLk RX8 85 yX0_thickOf := Or.inr ⟨"FortyStems", ns_mem 591 rfl rfl⟩
set_option maxRecDepth 100000 in
theorem ml_X8_88 : mLk RX8 88 yX2_inEmptyHand := Or.inr ⟨"FortyStems", ns_mem 596 rfl rfl⟩
set_option maxRecDepth 100000 in
theorem ml_X8_94 : mLk RX8 94 yX2_asThought := Or.inr ⟨"FortyStems", ns_mem 597 rfl rfl⟩
set_option maxRecDepth 100000 in
theorem ml_X8_98 : mLk RX8 98 yX2_turns := Or.inr ⟨"FortyStems", ns_mem 601 rfl rfl⟩
set_option maxRecDepth 100000 in
theorem ml_X8_101 : mLk RX8 101 yX2_turned := Or.inr ⟨"FortyStems", ns_mem 602 rfl rfl⟩
set_option maxRecDepth 100000 in
theorem ml_X8_104 : mLk RX8 104 yX8_angleOf := Or.inl (gd_mem 788 rfl rfl)
set_option maxRecDepth 100000 in
theorem ml_X8_107 : mLk RX8 107 yX0_hasStem := Or.inr ⟨"FortyStems", ns_mem 742 rfl rfl⟩
set_option maxRecDepth 100000 in
theorem ml_X9_80 : mLk RX9 80 yX9_mostOf := Or.inl (gd_mem 407 rfl rfl)
set_option maxRecDepth 100000 in
theorem ml_X9_84 : mLk RX9 84 yX0_hasFlower := Or.inr ⟨"FortyStems", ns_mem 295 rfl rfl⟩
set_option maxRecDepth 100000 in
theorem ml_X9_88 : mLk RX9 88 yX0_settingOf := Or.inr ⟨"FortyStems", ns_mem 299 rfl rfl⟩
set_option maxRecDepth 100000 in
theorem ml_X9_92 : mLk RX9 92 yX0_change := Or.inr ⟨"FortyStems", ns_mem 304 rfl rfl⟩
set_option maxRecDepth 100000 in
theorem ml_X9_96 : mLk RX9 96 yX0_addFlower := Or.inr ⟨"FortyStems", ns_mem 312 rfl rfl⟩
set_option maxRecDepth 100000 in
theorem ml_X9_99 : mLk RX9 99 yX2_asNow := Or.inr ⟨"FortyStems", ns_mem 323 rfl rfl⟩
set_option maxRecDepth 100000 in
theorem ml_X9_107 : mLk RX9 107 yX2_thick := Or.inr ⟨"FortyStems", ns_mem 347 rfl rfl⟩
set_option maxRecDepth 100000 in
theorem ml_X9_111 : mLk RX9 111 yX2_turns := Or.inr ⟨"FortyStems", ns_mem 352 rfl rfl⟩
set_option maxRecDepth 100000 in
theorem ml_X9_114 : mLk RX9 114 yX2_costs := Or.inr ⟨"FortyStems", ns_mem 387 rfl rfl⟩
set_option maxRecDepth 100000 in
theorem ml_X9_117 : mLk RX9 117 yX2_lasts := Or.inr ⟨"FortyStems", ns_mem 395 rfl rfl⟩
set_option maxRecDepth 100000 in
theorem ml_X9_120 : mLk RX9 120 yX6_add := Or.inr ⟨"FortyStems", ns_mem 406 rfl rfl⟩
set_option maxRecDepth 100000 in
theorem ml_X9_127 : mLk RX9 127 yX7_isFull := Or.inr ⟨"FortyStems", ns_mem 414 rfl rfl⟩
set_option maxRecDepth 100000 in
theorem ml_X9_131 : mLk RX9 131 yX4_readTape := Or.inr ⟨"FortyStems", ns_mem 418 rfl rfl⟩
set_option maxRecDepth 100000 in
theorem ml_X9_134 : mLk RX9 134 yX6_clear := Or.inr ⟨"FortyStems", ns_mem 539 rfl rfl⟩
set_option maxRecDepth 100000 in
theorem ml_X9_137 : mLk RX9 137 yX7_add := Or.inr ⟨"FortyStems", ns_mem 543 rfl rfl⟩
set_option maxRecDepth 100000 in
theorem ml_X9_140 : mLk RX9 140 yX7_has := Or.inr ⟨"FortyStems", ns_mem 556 rfl rfl⟩
set_option maxRecDepth 100000 in
theorem ml_X9_149 : mLk RX9 149 yX8_start := Or.inr ⟨"FortyStems", ns_mem 561 rfl rfl⟩
set_option maxRecDepth 100000 in
theorem ml_X9_152 : mLk RX9 152 yX8_canBe := Or.inr ⟨"FortyStems", ns_mem 586 rfl rfl⟩
set_option maxRecDepth 100000 in
theorem ml_X9_155 : mLk RX9 155 yX8_angleOf := Or.inr ⟨"FortyStems", ns_mem 592 rfl rfl⟩
set_option maxRecDepth 100000 in
theorem ml_X9_158 : mLk RX9 158 yX0_addStem := Or.inr ⟨"FortyStems", ns_mem 606 rfl rfl⟩
set_option maxRecDepth 100000 in
theorem ml_X9_162 : mLk RX9 162 yX0_hasStem := Or.inr ⟨"FortyStems", ns_mem 614 rfl rfl⟩
set_option maxRecDepth 100000 in
theorem ml_X9_165 : mLk RX9 165 yX0_removeStem := Or.inr ⟨"FortyStems", ns_mem 618 rfl rfl⟩
set_option maxRecDepth 100000 in
theorem ml_X9_174 : mLk RX9 174 yX0_stemsInQuarter := Or.inr ⟨"FortyStems", ns_mem 632 rfl rfl⟩
set_option maxRecDepth 100000 in
theorem ml_X9_177 : mLk RX9 177 yX0_stemsOfColour := Or.inr ⟨"FortyStems", ns_mem 636 rfl rfl⟩
set_option maxRecDepth 100000 in
theorem ml_X9_180 : mLk RX9 180 yX9_touchingNow := Or.inl (gd_mem 756 rfl rfl)
set_option maxRecDepth 100000 in
theorem ml_X9_183 : mLk RX9 183 yX9_unevenness := Or.inl (gd_mem 760 rfl rfl)
set_option maxRecDepth 100000 in
theorem ml_X9_186 : mLk RX9 186 yX9_costOfAll := Or.inl (gd_mem 766 rfl rfl)
set_option maxRecDepth 100000 in
theorem ml_X9_189 : mLk RX9 189 yX0_roomLeft := Or.inr ⟨"FortyStems", ns_mem 659 rfl rfl⟩
set_option maxRecDepth 100000 in
theorem ml_X9_196 : mLk RX9 196 yJ9_max_7cf53 := Or.inl (gd_mem 764 rfl rfl)
set_option maxRecDepth 100000 in
theorem ml_X9_201 : mLk RX9 201 yJ9_min_7cf53 := Or.inl (gd_mem 765 rfl rfl)
set_option maxRecDepth 100000 in
theorem ml_X9_207 : mLk RX9 207 yX0_stemsOf := Or.inr ⟨"FortyStems", ns_mem 655 rfl rfl⟩
set_option maxRecDepth 100000 in
theorem ml_X9_210 : mLk RX9 210 yX8_touchingWith := Or.inr ⟨"FortyStems", ns_mem 669 rfl rfl⟩
set_option maxRecDepth 100000 in
theorem ml_X9_213 : mLk RX9 213 yX8_put := Or.inr ⟨"FortyStems", ns_mem 678 rfl rfl⟩
set_option maxRecDepth 100000 in
theorem ml_X9_217 : mLk RX9 217 yX5_isNumber := Or.inr ⟨"FortyStems", ns_mem 686 rfl rfl⟩
set_option maxRecDepth 100000 in
theorem ml_X9_220 : mLk RX9 220 yX5_isMissing := Or.inr ⟨"FortyStems", ns_mem 689 rfl rfl⟩
set_option maxRecDepth 100000 in
theorem ml_X9_226 : mLk RX9 226 yX5_itemAt := Or.inr ⟨"FortyStems", ns_mem 694 rfl rfl⟩
set_option maxRecDepth 100000 in
theorem ml_X9_233 : mLk RX9 233 yX3_start := Or.inr ⟨"FortyStems", ns_mem 702 rfl rfl⟩
set_option maxRecDepth 100000 in
theorem ml_X9_236 : mLk RX9 236 yX3_search := Or.inr ⟨"FortyStems", ns_mem 707 rfl rfl⟩
set_option maxRecDepth 100000 in
theorem ml_X9_245 : mLk RX9 245 yX9_cheapestBut := Or.inl (gd_mem 845 rfl rfl)
set_option maxRecDepth 100000 in
theorem ml_X9_251 : mLk RX9 251 yX8_touchedBy := Or.inr ⟨"FortyStems", ns_mem 738 rfl rfl⟩
set_option maxRecDepth 100000 in
theorem ml_X9_254 : mLk RX9 254 yX2_inEmptyHand := Or.inr ⟨"FortyStems", ns_mem 747 rfl rfl⟩
set_option maxRecDepth 100000 in
theorem ml_X9_257 : mLk RX9 257 yX9_firstOtherwise := Or.inl (gd_mem 863 rfl rfl)
set_option maxRecDepth 100000 in
theorem ml_X9_260 : mLk RX9 260 yX9_agreeing := Or.inl (gd_mem 874 rfl rfl)
set_option maxRecDepth 100000 in
theorem ml_X9_264 : mLk RX9 264 yX9_choicesOf := Or.inl (gd_mem 878 rfl rfl)
set_option maxRecDepth 100000 in
theorem ml_X9_267 : mLk RX9 267 yX2_suppose := Or.inr ⟨"FortyStems", ns_mem 767 rfl rfl⟩
set_option maxRecDepth 100000 in
theorem ml_X9_271 : mLk RX9 271 yX2_layOne := Or.inr ⟨"FortyStems", ns_mem 752 rfl rfl⟩
set_option maxRecDepth 100000 in
theorem ml_X9_274 : mLk RX9 274 yX5_become := Or.inr ⟨"FortyStems", ns_mem 775 rfl rfl⟩
set_option maxRecDepth 100000 in
theorem ml_X9_277 : mLk RX9 277 yX5_write := Or.inr ⟨"FortyStems", ns_mem 779 rfl rfl⟩
set_option maxRecDepth 100000 in
theorem ml_X9_280 : mLk RX9 280 yX9_touchingDrawn := Or.inl (gd_mem 902 rfl rfl)
set_option maxRecDepth 100000 in
theorem ml_X9_286 : mLk RX9 286 yX9_commonDivisor := Or.inl (gd_mem 912 rfl rfl)
set_option maxRecDepth 100000 in
theorem ml_X9_289 : mLk RX9 289 yX0_become := Or.inr ⟨"FortyStems", ns_mem 804 rfl rfl⟩
set_option maxRecDepth 100000 in
theorem ml_X9_292 : mLk RX9 292 yX0_inAllBuckets := Or.inr ⟨"FortyStems", ns_mem 817 rfl rfl⟩
set_option maxRecDepth 100000 in
theorem ml_X9_295 : mLk RX9 295 yX5_isSort := Or.inr ⟨"FortyStems", ns_mem 825 rfl rfl⟩
set_option maxRecDepth 100000 in
theorem ml_X9_298 : mLk RX9 298 yX5_hasItem := Or.inr ⟨"FortyStems", ns_mem 832 rfl rfl⟩
set_option maxRecDepth 100000 in
theorem ml_X9_305 : mLk RX9 305 yX5_hasItems := Or.inr ⟨"FortyStems", ns_mem 837 rfl rfl⟩
set_option maxRecDepth 100000 in
theorem ml_X9_315 : mLk RX9 315 yX1_isKind := Or.inr ⟨"FortyStems", ns_mem 850 rfl rfl⟩
set_option maxRecDepth 100000 in
theorem ml_X9_320 : mLk RX9 320 yX1_isUnder := Or.inr ⟨"FortyStems", ns_mem 851 rfl rfl⟩
set_option maxRecDepth 100000 in
theorem ac_nat : Cond.native arraycopyName ∈ gd_tbl := gd_mem 665 rfl rfl
set_option maxRecDepth 100000 in
theorem ac_st : Cond.static arraycopyName ∈ gd_tbl := gd_mem 664 rfl rfl
set_option maxRecDepth 100000 in
theorem ac_ini : Cond.initialized "java/lang/System" ∈ gd_tbl := gd_mem 132 rfl rfl
set_option maxRecDepth 100000 in
theorem mlc_X0_74 : Cond.methodLink RX0 74 arraycopyName ∈ gd_tbl := gd_mem 923 rfl rfl
set_option maxRecDepth 100000 in
theorem mlc_X7_35 : Cond.methodLink RX7 35 arraycopyName ∈ gd_tbl := gd_mem 663 rfl rfl
set_option maxRecDepth 100000 in
theorem mlc_X9_309 : Cond.methodLink RX9 309 arraycopyName ∈ gd_tbl := gd_mem 956 rfl rfl
set_option maxRecDepth 100000 in
theorem gl_X1_15 : Cond.fieldLink RX1 15 "FortyStems$Kind" "UNDER" "[I" ∈ gd_tbl := gd_mem 970 rfl rfl
