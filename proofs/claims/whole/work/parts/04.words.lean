set_option maxRecDepth 20000
/-! words of the tables, by their places -/
theorem flX11_10 : Cond.fieldLink RX11 10 "PassHuts" "tape" "LPassHuts$Tape;" ∈ WD := WD_mem (i := 495) (by decide +kernel) rfl
theorem flX11_21 : Cond.fieldLink RX11 21 "PassHuts" "reader" "LPassHuts$Reader;" ∈ WD := WD_mem (i := 496) (by decide +kernel) rfl
theorem flX11_28 : Cond.fieldLink RX11 28 "PassHuts" "lyings" "LPassHuts$Lyings;" ∈ WD := WD_mem (i := 497) (by decide +kernel) rfl
theorem flX11_35 : Cond.fieldLink RX11 35 "PassHuts" "story" "LPassHuts$Story;" ∈ WD := WD_mem (i := 498) (by decide +kernel) rfl
theorem flX11_42 : Cond.fieldLink RX11 42 "PassHuts" "land" "LPassHuts$Hills;" ∈ WD := WD_mem (i := 502) (by decide +kernel) rfl
theorem flX11_46 : Cond.fieldLink RX11 46 "PassHuts" "draft" "LPassHuts$Hills;" ∈ WD := WD_mem (i := 503) (by decide +kernel) rfl
theorem flX11_52 : Cond.fieldLink RX11 52 "PassHuts" "plan" "LPassHuts$Trip;" ∈ WD := WD_mem (i := 504) (by decide +kernel) rfl
theorem flX11_56 : Cond.fieldLink RX11 56 "PassHuts" "sketch" "LPassHuts$Trip;" ∈ WD := WD_mem (i := 505) (by decide +kernel) rfl
theorem flX11_64 : Cond.fieldLink RX11 64 "PassHuts" "prospects" "LPassHuts$Prospects;" ∈ WD := WD_mem (i := 499) (by decide +kernel) rfl
theorem flX11_71 : Cond.fieldLink RX11 71 "PassHuts" "walk" "LPassHuts$Walk;" ∈ WD := WD_mem (i := 500) (by decide +kernel) rfl
theorem flX11_80 : Cond.fieldLink RX11 80 "PassHuts" "survey" "LPassHuts$Survey;" ∈ WD := WD_mem (i := 501) (by decide +kernel) rfl
theorem flX11_88 : Cond.fieldLink RX11 88 "PassHuts$Tape" "size" "I" ∈ WD := WD_mem (i := 153) (by decide +kernel) rfl
theorem flX11_121 : Cond.fieldLink RX11 121 "PassHuts$Hills" "kinds" "[I" ∈ WD := WD_mem (i := 328) (by decide +kernel) rfl
theorem flX11_125 : Cond.fieldLink RX11 125 "PassHuts$Story" "lying" "I" ∈ WD := WD_mem (i := 254) (by decide +kernel) rfl
theorem flX11_170 : Cond.fieldLink RX11 170 "PassHuts$Trip" "firstWrong" "I" ∈ WD := WD_mem (i := 403) (by decide +kernel) rfl
theorem flX11_173 : Cond.fieldLink RX11 173 "PassHuts$Trip" "firstCovered" "I" ∈ WD := WD_mem (i := 405) (by decide +kernel) rfl
theorem flX11_176 : Cond.fieldLink RX11 176 "PassHuts$Trip" "loadsAtLast" "I" ∈ WD := WD_mem (i := 407) (by decide +kernel) rfl
theorem flX11_227 : Cond.fieldLink RX11 227 "PassHuts$Hills" "huts" "I" ∈ WD := WD_mem (i := 337) (by decide +kernel) rfl
theorem flX11_292 : Cond.fieldLink RX11 292 "PassHuts$Hills" "ways" "I" ∈ WD := WD_mem (i := 341) (by decide +kernel) rfl
theorem flX11_322 : Cond.fieldLink RX11 322 "PassHuts$Story" "carried" "I" ∈ WD := WD_mem (i := 257) (by decide +kernel) rfl
theorem flX11_328 : Cond.fieldLink RX11 328 "PassHuts$Trip" "lines" "I" ∈ WD := WD_mem (i := 401) (by decide +kernel) rfl
theorem flX11_331 : Cond.fieldLink RX11 331 "PassHuts$Story" "seenSize" "I" ∈ WD := WD_mem (i := 261) (by decide +kernel) rfl
theorem flX11_334 : Cond.fieldLink RX11 334 "PassHuts$Story" "steps" "I" ∈ WD := WD_mem (i := 259) (by decide +kernel) rfl
theorem flX0_9 : Cond.fieldLink RX0 9 "PassHuts$Hills" "kinds" "[I" ∈ WD := WD_mem (i := 327) (by decide +kernel) rfl
theorem flX0_18 : Cond.fieldLink RX0 18 "PassHuts$Hills" "law" "LPassHuts$Law;" ∈ WD := WD_mem (i := 329) (by decide +kernel) rfl
theorem flX0_22 : Cond.fieldLink RX0 22 "PassHuts$Hills" "names" "[J" ∈ WD := WD_mem (i := 342) (by decide +kernel) rfl
theorem flX0_26 : Cond.fieldLink RX0 26 "PassHuts$Hills" "told" "[I" ∈ WD := WD_mem (i := 343) (by decide +kernel) rfl
theorem flX0_29 : Cond.fieldLink RX0 29 "PassHuts$Hills" "takes" "[I" ∈ WD := WD_mem (i := 344) (by decide +kernel) rfl
theorem flX0_32 : Cond.fieldLink RX0 32 "PassHuts$Hills" "wayOf" "[I" ∈ WD := WD_mem (i := 345) (by decide +kernel) rfl
theorem flX0_35 : Cond.fieldLink RX0 35 "PassHuts$Hills" "prices" "[I" ∈ WD := WD_mem (i := 346) (by decide +kernel) rfl
theorem flX0_38 : Cond.fieldLink RX0 38 "PassHuts$Hills" "from" "[I" ∈ WD := WD_mem (i := 347) (by decide +kernel) rfl
theorem flX0_41 : Cond.fieldLink RX0 41 "PassHuts$Hills" "to" "[I" ∈ WD := WD_mem (i := 348) (by decide +kernel) rfl
theorem flX0_44 : Cond.fieldLink RX0 44 "PassHuts$Hills" "fromShift" "[I" ∈ WD := WD_mem (i := 349) (by decide +kernel) rfl
theorem flX0_47 : Cond.fieldLink RX0 47 "PassHuts$Hills" "toShift" "[I" ∈ WD := WD_mem (i := 350) (by decide +kernel) rfl
theorem flX0_50 : Cond.fieldLink RX0 50 "PassHuts$Hills" "room" "[I" ∈ WD := WD_mem (i := 351) (by decide +kernel) rfl
theorem flX0_53 : Cond.fieldLink RX0 53 "PassHuts$Hills" "change" "[I" ∈ WD := WD_mem (i := 352) (by decide +kernel) rfl
theorem flX0_56 : Cond.fieldLink RX0 56 "PassHuts$Hills" "products" "[I" ∈ WD := WD_mem (i := 353) (by decide +kernel) rfl
theorem flX0_62 : Cond.fieldLink RX0 62 "PassHuts$Hills" "huts" "I" ∈ WD := WD_mem (i := 331) (by decide +kernel) rfl
theorem flX0_66 : Cond.fieldLink RX0 66 "PassHuts$Hills" "ways" "I" ∈ WD := WD_mem (i := 338) (by decide +kernel) rfl
theorem flX0_69 : Cond.fieldLink RX0 69 "PassHuts$Hills" "crowded" "I" ∈ WD := WD_mem (i := 354) (by decide +kernel) rfl
theorem flX1_11 : Cond.fieldLink RX1 11 "PassHuts$Law" "code" "[I" ∈ WD := WD_mem (i := 302) (by decide +kernel) rfl
theorem flX1_15 : Cond.fieldLink RX1 15 "PassHuts$Law" "stack" "[I" ∈ WD := WD_mem (i := 303) (by decide +kernel) rfl
theorem flX1_18 : Cond.fieldLink RX1 18 "PassHuts$Law" "facts" "[I" ∈ WD := WD_mem (i := 304) (by decide +kernel) rfl
theorem flX1_21 : Cond.fieldLink RX1 21 "PassHuts$Law" "known" "[J" ∈ WD := WD_mem (i := 305) (by decide +kernel) rfl
theorem flX1_25 : Cond.fieldLink RX1 25 "PassHuts$Law" "barred" "[J" ∈ WD := WD_mem (i := 306) (by decide +kernel) rfl
theorem flX1_36 : Cond.fieldLink RX1 36 "PassHuts$Law" "size" "I" ∈ WD := WD_mem (i := 307) (by decide +kernel) rfl
theorem flX2_9 : Cond.fieldLink RX2 9 "PassHuts$Lyings" "all" "[I" ∈ WD := WD_mem (i := 221) (by decide +kernel) rfl
theorem flX2_15 : Cond.fieldLink RX2 15 "PassHuts$Lyings" "byHighest" "[I" ∈ WD := WD_mem (i := 222) (by decide +kernel) rfl
theorem flX2_18 : Cond.fieldLink RX2 18 "PassHuts$Lyings" "byLowest" "[I" ∈ WD := WD_mem (i := 223) (by decide +kernel) rfl
theorem flX2_21 : Cond.fieldLink RX2 21 "PassHuts$Lyings" "firsts" "[I" ∈ WD := WD_mem (i := 224) (by decide +kernel) rfl
theorem flX2_24 : Cond.fieldLink RX2 24 "PassHuts$Lyings" "ends" "[I" ∈ WD := WD_mem (i := 225) (by decide +kernel) rfl
theorem flX3_9 : Cond.fieldLink RX3 9 "PassHuts$Prospects" "comings" "[J" ∈ WD := WD_mem (i := 430) (by decide +kernel) rfl
theorem flX3_15 : Cond.fieldLink RX3 15 "PassHuts$Prospects" "pulls" "[I" ∈ WD := WD_mem (i := 431) (by decide +kernel) rfl
theorem flX3_19 : Cond.fieldLink RX3 19 "PassHuts$Prospects" "lyings" "LPassHuts$Lyings;" ∈ WD := WD_mem (i := 429) (by decide +kernel) rfl
theorem flX3_23 : Cond.fieldLink RX3 23 "PassHuts$Prospects" "hills" "LPassHuts$Hills;" ∈ WD := WD_mem (i := 432) (by decide +kernel) rfl
theorem flX3_27 : Cond.fieldLink RX3 27 "PassHuts$Prospects" "known" "Z" ∈ WD := WD_mem (i := 433) (by decide +kernel) rfl
theorem flX3_31 : Cond.fieldLink RX3 31 "PassHuts$Hills" "huts" "I" ∈ WD := WD_mem (i := 333) (by decide +kernel) rfl
theorem flX3_58 : Cond.fieldLink RX3 58 "PassHuts$Hills" "ways" "I" ∈ WD := WD_mem (i := 339) (by decide +kernel) rfl
theorem flX4_9 : Cond.fieldLink RX4 9 "PassHuts$Reader" "tape" "LPassHuts$Tape;" ∈ WD := WD_mem (i := 197) (by decide +kernel) rfl
theorem flX4_20 : Cond.fieldLink RX4 20 "PassHuts$Reader" "tokens" "LPassHuts$Tokens;" ∈ WD := WD_mem (i := 198) (by decide +kernel) rfl
theorem flX4_29 : Cond.fieldLink RX4 29 "PassHuts$Reader" "fault" "I" ∈ WD := WD_mem (i := 199) (by decide +kernel) rfl
theorem flX4_36 : Cond.fieldLink RX4 36 "PassHuts$Tokens" "kind" "I" ∈ WD := WD_mem (i := 178) (by decide +kernel) rfl
theorem flX4_66 : Cond.fieldLink RX4 66 "PassHuts$Tokens" "place" "I" ∈ WD := WD_mem (i := 177) (by decide +kernel) rfl
theorem flX4_72 : Cond.fieldLink RX4 72 "PassHuts$Hills" "huts" "I" ∈ WD := WD_mem (i := 335) (by decide +kernel) rfl
theorem flX4_102 : Cond.fieldLink RX4 102 "PassHuts$Tokens" "word" "J" ∈ WD := WD_mem (i := 183) (by decide +kernel) rfl
theorem flX4_110 : Cond.fieldLink RX4 110 "PassHuts$Tokens" "number" "I" ∈ WD := WD_mem (i := 181) (by decide +kernel) rfl
theorem flX4_131 : Cond.fieldLink RX4 131 "PassHuts$Hills" "law" "LPassHuts$Law;" ∈ WD := WD_mem (i := 330) (by decide +kernel) rfl
theorem flX4_135 : Cond.fieldLink RX4 135 "PassHuts$Law" "size" "I" ∈ WD := WD_mem (i := 308) (by decide +kernel) rfl
theorem flX4_162 : Cond.fieldLink RX4 162 "PassHuts$Trip" "lines" "I" ∈ WD := WD_mem (i := 400) (by decide +kernel) rfl
theorem flX5_9 : Cond.fieldLink RX5 9 "PassHuts$Story" "oldLyings" "[I" ∈ WD := WD_mem (i := 244) (by decide +kernel) rfl
theorem flX5_15 : Cond.fieldLink RX5 15 "PassHuts$Story" "oldCarried" "[I" ∈ WD := WD_mem (i := 245) (by decide +kernel) rfl
theorem flX5_18 : Cond.fieldLink RX5 18 "PassHuts$Story" "seen" "[I" ∈ WD := WD_mem (i := 246) (by decide +kernel) rfl
theorem flX5_21 : Cond.fieldLink RX5 21 "PassHuts$Story" "marked" "[Z" ∈ WD := WD_mem (i := 247) (by decide +kernel) rfl
theorem flX5_25 : Cond.fieldLink RX5 25 "PassHuts$Story" "markedLying" "[I" ∈ WD := WD_mem (i := 248) (by decide +kernel) rfl
theorem flX5_28 : Cond.fieldLink RX5 28 "PassHuts$Story" "markedCarried" "[I" ∈ WD := WD_mem (i := 249) (by decide +kernel) rfl
theorem flX5_31 : Cond.fieldLink RX5 31 "PassHuts$Story" "markedSeenSize" "[I" ∈ WD := WD_mem (i := 250) (by decide +kernel) rfl
theorem flX5_34 : Cond.fieldLink RX5 34 "PassHuts$Story" "markedSeen" "[I" ∈ WD := WD_mem (i := 251) (by decide +kernel) rfl
theorem flX5_37 : Cond.fieldLink RX5 37 "PassHuts$Story" "lying" "I" ∈ WD := WD_mem (i := 253) (by decide +kernel) rfl
theorem flX5_41 : Cond.fieldLink RX5 41 "PassHuts$Story" "carried" "I" ∈ WD := WD_mem (i := 256) (by decide +kernel) rfl
theorem flX5_44 : Cond.fieldLink RX5 44 "PassHuts$Story" "steps" "I" ∈ WD := WD_mem (i := 258) (by decide +kernel) rfl
theorem flX5_47 : Cond.fieldLink RX5 47 "PassHuts$Story" "seenSize" "I" ∈ WD := WD_mem (i := 260) (by decide +kernel) rfl
theorem flX5_50 : Cond.fieldLink RX5 50 "PassHuts$Story" "newest" "I" ∈ WD := WD_mem (i := 252) (by decide +kernel) rfl
theorem flX5_64 : Cond.fieldLink RX5 64 "PassHuts$Hills" "huts" "I" ∈ WD := WD_mem (i := 336) (by decide +kernel) rfl
theorem flX6_9 : Cond.fieldLink RX6 9 "PassHuts$Survey" "tally" "[I" ∈ WD := WD_mem (i := 484) (by decide +kernel) rfl
theorem flX6_15 : Cond.fieldLink RX6 15 "PassHuts$Survey" "lyings" "LPassHuts$Lyings;" ∈ WD := WD_mem (i := 482) (by decide +kernel) rfl
theorem flX6_19 : Cond.fieldLink RX6 19 "PassHuts$Survey" "prospects" "LPassHuts$Prospects;" ∈ WD := WD_mem (i := 483) (by decide +kernel) rfl
theorem flX6_23 : Cond.fieldLink RX6 23 "PassHuts$Survey" "hills" "LPassHuts$Hills;" ∈ WD := WD_mem (i := 485) (by decide +kernel) rfl
theorem flX6_27 : Cond.fieldLink RX6 27 "PassHuts$Hills" "huts" "I" ∈ WD := WD_mem (i := 332) (by decide +kernel) rfl
theorem flX6_81 : Cond.fieldLink RX6 81 "PassHuts$Story" "lying" "I" ∈ WD := WD_mem (i := 255) (by decide +kernel) rfl
theorem flX7_9 : Cond.fieldLink RX7 9 "PassHuts$Tape" "signs" "[B" ∈ WD := WD_mem (i := 152) (by decide +kernel) rfl
theorem flX7_15 : Cond.fieldLink RX7 15 "PassHuts$Tape" "size" "I" ∈ WD := WD_mem (i := 154) (by decide +kernel) rfl
theorem flX8_7 : Cond.fieldLink RX8 7 "PassHuts$Tokens" "tape" "LPassHuts$Tape;" ∈ WD := WD_mem (i := 174) (by decide +kernel) rfl
theorem flX8_13 : Cond.fieldLink RX8 13 "PassHuts$Tokens" "behind" "I" ∈ WD := WD_mem (i := 175) (by decide +kernel) rfl
theorem flX8_20 : Cond.fieldLink RX8 20 "PassHuts$Tokens" "place" "I" ∈ WD := WD_mem (i := 176) (by decide +kernel) rfl
theorem flX8_23 : Cond.fieldLink RX8 23 "PassHuts$Tape" "size" "I" ∈ WD := WD_mem (i := 155) (by decide +kernel) rfl
theorem flX8_36 : Cond.fieldLink RX8 36 "PassHuts$Tokens" "kind" "I" ∈ WD := WD_mem (i := 179) (by decide +kernel) rfl
theorem flX8_54 : Cond.fieldLink RX8 54 "PassHuts$Tokens" "word" "J" ∈ WD := WD_mem (i := 182) (by decide +kernel) rfl
theorem flX8_62 : Cond.fieldLink RX8 62 "PassHuts$Tokens" "RESERVED" "[J" ∈ WD := WD_mem (i := 582) (by decide +kernel) rfl
theorem flX8_66 : Cond.fieldLink RX8 66 "PassHuts$Tokens" "number" "I" ∈ WD := WD_mem (i := 180) (by decide +kernel) rfl
theorem flX9_9 : Cond.fieldLink RX9 9 "PassHuts$Trip" "steps" "[I" ∈ WD := WD_mem (i := 396) (by decide +kernel) rfl
theorem flX9_15 : Cond.fieldLink RX9 15 "PassHuts$Trip" "places" "[I" ∈ WD := WD_mem (i := 397) (by decide +kernel) rfl
theorem flX9_18 : Cond.fieldLink RX9 18 "PassHuts$Trip" "others" "[I" ∈ WD := WD_mem (i := 398) (by decide +kernel) rfl
theorem flX9_21 : Cond.fieldLink RX9 21 "PassHuts$Trip" "lines" "I" ∈ WD := WD_mem (i := 399) (by decide +kernel) rfl
theorem flX9_31 : Cond.fieldLink RX9 31 "PassHuts$Trip" "firstWrong" "I" ∈ WD := WD_mem (i := 402) (by decide +kernel) rfl
theorem flX9_34 : Cond.fieldLink RX9 34 "PassHuts$Trip" "firstCovered" "I" ∈ WD := WD_mem (i := 404) (by decide +kernel) rfl
theorem flX9_51 : Cond.fieldLink RX9 51 "PassHuts$Trip" "loadsAtLast" "I" ∈ WD := WD_mem (i := 406) (by decide +kernel) rfl
theorem flX10_9 : Cond.fieldLink RX10 9 "PassHuts$Walk" "infos" "[I" ∈ WD := WD_mem (i := 452) (by decide +kernel) rfl
theorem flX10_15 : Cond.fieldLink RX10 15 "PassHuts$Walk" "order" "[I" ∈ WD := WD_mem (i := 453) (by decide +kernel) rfl
theorem flX10_18 : Cond.fieldLink RX10 18 "PassHuts$Walk" "tally" "[I" ∈ WD := WD_mem (i := 454) (by decide +kernel) rfl
theorem flX10_21 : Cond.fieldLink RX10 21 "PassHuts$Walk" "lyings" "LPassHuts$Lyings;" ∈ WD := WD_mem (i := 451) (by decide +kernel) rfl
theorem flX10_25 : Cond.fieldLink RX10 25 "PassHuts$Walk" "hills" "LPassHuts$Hills;" ∈ WD := WD_mem (i := 455) (by decide +kernel) rfl
theorem flX10_29 : Cond.fieldLink RX10 29 "PassHuts$Walk" "known" "Z" ∈ WD := WD_mem (i := 458) (by decide +kernel) rfl
theorem flX10_33 : Cond.fieldLink RX10 33 "PassHuts$Walk" "start" "I" ∈ WD := WD_mem (i := 457) (by decide +kernel) rfl
theorem flX10_37 : Cond.fieldLink RX10 37 "PassHuts$Walk" "size" "I" ∈ WD := WD_mem (i := 456) (by decide +kernel) rfl
theorem flX10_66 : Cond.fieldLink RX10 66 "PassHuts$Hills" "huts" "I" ∈ WD := WD_mem (i := 334) (by decide +kernel) rfl
theorem flX10_87 : Cond.fieldLink RX10 87 "PassHuts$Hills" "ways" "I" ∈ WD := WD_mem (i := 340) (by decide +kernel) rfl
theorem flX12_1 : Cond.fieldLink RX12 1 "PassHutsModel" "thrown" "I" ∈ WD := WD_mem (i := 1506) (by decide +kernel) rfl
theorem flX12_11 : Cond.fieldLink RX12 11 "PassHutsModel" "taped" "I" ∈ WD := WD_mem (i := 1508) (by decide +kernel) rfl
theorem flX12_14 : Cond.fieldLink RX12 14 "PassHutsModel" "tape" "[I" ∈ WD := WD_mem (i := 1507) (by decide +kernel) rfl
theorem flX12_24 : Cond.fieldLink RX12 24 "PassHutsModel" "sort" "[I" ∈ WD := WD_mem (i := 1510) (by decide +kernel) rfl
theorem flX12_27 : Cond.fieldLink RX12 27 "PassHutsModel" "place" "[I" ∈ WD := WD_mem (i := 1511) (by decide +kernel) rfl
theorem flX12_30 : Cond.fieldLink RX12 30 "PassHutsModel" "value" "[J" ∈ WD := WD_mem (i := 1512) (by decide +kernel) rfl
theorem flX12_72 : Cond.fieldLink RX12 72 "PassHutsModel" "words" "[J" ∈ WD := WD_mem (i := 1515) (by decide +kernel) rfl
theorem flX12_75 : Cond.fieldLink RX12 75 "PassHutsModel" "hills" "[I" ∈ WD := WD_mem (i := 1516) (by decide +kernel) rfl
theorem flX12_78 : Cond.fieldLink RX12 78 "PassHutsModel" "code" "[I" ∈ WD := WD_mem (i := 1517) (by decide +kernel) rfl
theorem flX12_81 : Cond.fieldLink RX12 81 "PassHutsModel" "names" "[J" ∈ WD := WD_mem (i := 1519) (by decide +kernel) rfl
theorem flX12_84 : Cond.fieldLink RX12 84 "PassHutsModel" "lines" "[I" ∈ WD := WD_mem (i := 1520) (by decide +kernel) rfl
theorem flX12_87 : Cond.fieldLink RX12 87 "PassHutsModel" "facts" "[I" ∈ WD := WD_mem (i := 1521) (by decide +kernel) rfl
theorem flX12_90 : Cond.fieldLink RX12 90 "PassHutsModel" "pile" "[I" ∈ WD := WD_mem (i := 1522) (by decide +kernel) rfl
theorem flX12_93 : Cond.fieldLink RX12 93 "PassHutsModel" "state" "[I" ∈ WD := WD_mem (i := 1523) (by decide +kernel) rfl
theorem flX12_96 : Cond.fieldLink RX12 96 "PassHutsModel" "isMarked" "[Z" ∈ WD := WD_mem (i := 1525) (by decide +kernel) rfl
theorem flX12_100 : Cond.fieldLink RX12 100 "PassHutsModel" "load" "[I" ∈ WD := WD_mem (i := 1526) (by decide +kernel) rfl
theorem flX12_103 : Cond.fieldLink RX12 103 "PassHutsModel" "table" "[J" ∈ WD := WD_mem (i := 1527) (by decide +kernel) rfl
theorem flX12_106 : Cond.fieldLink RX12 106 "PassHutsModel" "products" "[I" ∈ WD := WD_mem (i := 1529) (by decide +kernel) rfl
theorem flX12_109 : Cond.fieldLink RX12 109 "PassHutsModel" "found" "[I" ∈ WD := WD_mem (i := 1530) (by decide +kernel) rfl
theorem flX12_112 : Cond.fieldLink RX12 112 "PassHutsModel" "tally" "[I" ∈ WD := WD_mem (i := 1531) (by decide +kernel) rfl
theorem flX12_126 : Cond.fieldLink RX12 126 "PassHutsModel" "size" "I" ∈ WD := WD_mem (i := 1509) (by decide +kernel) rfl
theorem flX12_145 : Cond.fieldLink RX12 145 "PassHutsModel" "at" "I" ∈ WD := WD_mem (i := 1513) (by decide +kernel) rfl
theorem flX12_148 : Cond.fieldLink RX12 148 "PassHutsModel" "fault" "I" ∈ WD := WD_mem (i := 1514) (by decide +kernel) rfl
theorem flX12_183 : Cond.fieldLink RX12 183 "PassHutsModel" "codes" "I" ∈ WD := WD_mem (i := 1518) (by decide +kernel) rfl
theorem flX12_242 : Cond.fieldLink RX12 242 "PassHutsModel" "undos" "I" ∈ WD := WD_mem (i := 1524) (by decide +kernel) rfl
theorem flX12_245 : Cond.fieldLink RX12 245 "PassHutsModel" "laid" "I" ∈ WD := WD_mem (i := 1528) (by decide +kernel) rfl
theorem flX12_384 : Cond.fieldLink RX12 384 "PassHutsModel" "g" "J" ∈ WD := WD_mem (i := 1532) (by decide +kernel) rfl
theorem ckX0_126 : Cond.constant RX0 126 1000000 ∈ WD := WD_mem (i := 1200) (by decide +kernel) rfl
theorem ckX1_28 : Cond.constantLong RX1 28 1751478885 ∈ WD := WD_mem (i := 689) (by decide +kernel) rfl
theorem ckX1_30 : Cond.constantLong RX1 30 499967685221 ∈ WD := WD_mem (i := 690) (by decide +kernel) rfl
theorem ckX1_32 : Cond.constantLong RX1 32 482955846501 ∈ WD := WD_mem (i := 691) (by decide +kernel) rfl
theorem ckX1_34 : Cond.constantLong RX1 34 6384748 ∈ WD := WD_mem (i := 692) (by decide +kernel) rfl
theorem ckX3_85 : Cond.constantLong RX3 85 4095 ∈ WD := WD_mem (i := 991) (by decide +kernel) rfl
theorem ckX5_89 : Cond.constantLong RX5 89 1103515245 ∈ WD := WD_mem (i := 1343) (by decide +kernel) rfl
theorem ckX5_91 : Cond.constantLong RX5 91 12345 ∈ WD := WD_mem (i := 1344) (by decide +kernel) rfl
theorem ckX5_93 : Cond.constantLong RX5 93 2147483648 ∈ WD := WD_mem (i := 1345) (by decide +kernel) rfl
theorem ckX5_95 : Cond.constantLong RX5 95 65536 ∈ WD := WD_mem (i := 1349) (by decide +kernel) rfl
theorem ckX10_124 : Cond.constantLong RX10 124 2000000000 ∈ WD := WD_mem (i := 1037) (by decide +kernel) rfl
theorem ckX10_132 : Cond.constantLong RX10 132 1000000 ∈ WD := WD_mem (i := 1331) (by decide +kernel) rfl
theorem ckX12_34 : Cond.constantLong RX12 34 11749 ∈ WD := WD_mem (i := 1467) (by decide +kernel) rfl
theorem ckX12_36 : Cond.constantLong RX12 36 23251263 ∈ WD := WD_mem (i := 1468) (by decide +kernel) rfl
theorem ckX12_38 : Cond.constantLong RX12 38 812565 ∈ WD := WD_mem (i := 1469) (by decide +kernel) rfl
theorem ckX12_40 : Cond.constantLong RX12 40 37549136 ∈ WD := WD_mem (i := 1470) (by decide +kernel) rfl
theorem ckX12_42 : Cond.constantLong RX12 42 103360 ∈ WD := WD_mem (i := 1471) (by decide +kernel) rfl
theorem ckX12_44 : Cond.constantLong RX12 44 5698469 ∈ WD := WD_mem (i := 1472) (by decide +kernel) rfl
theorem ckX12_46 : Cond.constantLong RX12 46 16490 ∈ WD := WD_mem (i := 1473) (by decide +kernel) rfl
theorem ckX12_48 : Cond.constantLong RX12 48 6902 ∈ WD := WD_mem (i := 1474) (by decide +kernel) rfl
theorem ckX12_50 : Cond.constantLong RX12 50 30596128 ∈ WD := WD_mem (i := 1475) (by decide +kernel) rfl
theorem ckX12_52 : Cond.constantLong RX12 52 12853 ∈ WD := WD_mem (i := 1476) (by decide +kernel) rfl
theorem ckX12_54 : Cond.constantLong RX12 54 36629165 ∈ WD := WD_mem (i := 1477) (by decide +kernel) rfl
theorem ckX12_56 : Cond.constantLong RX12 56 36269373 ∈ WD := WD_mem (i := 1478) (by decide +kernel) rfl
theorem ckX12_58 : Cond.constantLong RX12 58 19741 ∈ WD := WD_mem (i := 1479) (by decide +kernel) rfl
theorem ckX12_60 : Cond.constantLong RX12 60 1891 ∈ WD := WD_mem (i := 1480) (by decide +kernel) rfl
theorem ckX12_62 : Cond.constantLong RX12 62 573 ∈ WD := WD_mem (i := 1481) (by decide +kernel) rfl
theorem ckX12_64 : Cond.constantLong RX12 64 412740 ∈ WD := WD_mem (i := 1482) (by decide +kernel) rfl
theorem ckX12_66 : Cond.constantLong RX12 66 37895960 ∈ WD := WD_mem (i := 1483) (by decide +kernel) rfl
theorem ckX12_68 : Cond.constantLong RX12 68 30910767 ∈ WD := WD_mem (i := 1484) (by decide +kernel) rfl
theorem ckX12_70 : Cond.constantLong RX12 70 1825 ∈ WD := WD_mem (i := 1485) (by decide +kernel) rfl
theorem ckX12_129 : Cond.constantLong RX12 129 37 ∈ WD := WD_mem (i := 1599) (by decide +kernel) rfl
theorem ckX12_138 : Cond.constantLong RX12 138 10 ∈ WD := WD_mem (i := 1606) (by decide +kernel) rfl
theorem ckX12_140 : Cond.constantLong RX12 140 48 ∈ WD := WD_mem (i := 1607) (by decide +kernel) rfl
theorem ckX12_316 : Cond.constantLong RX12 316 17 ∈ WD := WD_mem (i := 1828) (by decide +kernel) rfl
theorem ckX12_325 : Cond.constantLong RX12 325 16 ∈ WD := WD_mem (i := 1839) (by decide +kernel) rfl
theorem ckX12_327 : Cond.constantLong RX12 327 2000000000 ∈ WD := WD_mem (i := 1840) (by decide +kernel) rfl
theorem ckX12_329 : Cond.constantLong RX12 329 2 ∈ WD := WD_mem (i := 1844) (by decide +kernel) rfl
theorem ckX12_367 : Cond.constantLong RX12 367 (-1) ∈ WD := WD_mem (i := 2001) (by decide +kernel) rfl
theorem ckX12_378 : Cond.constantLong RX12 378 1000000 ∈ WD := WD_mem (i := 2030) (by decide +kernel) rfl
theorem ckX12_388 : Cond.constantLong RX12 388 1103515245 ∈ WD := WD_mem (i := 2050) (by decide +kernel) rfl
theorem ckX12_390 : Cond.constantLong RX12 390 12345 ∈ WD := WD_mem (i := 2051) (by decide +kernel) rfl
theorem ckX12_392 : Cond.constantLong RX12 392 2147483648 ∈ WD := WD_mem (i := 2052) (by decide +kernel) rfl
theorem ckX12_394 : Cond.constantLong RX12 394 65536 ∈ WD := WD_mem (i := 2053) (by decide +kernel) rfl
theorem wini_math : Cond.initialized "java/lang/Math" ∈ WD := WD_mem (i := 133) (by decide +kernel) rfl
theorem wst_mmax : Cond.static Lib.Math.max.name ∈ WD := WD_mem (i := 711) (by decide +kernel) rfl
theorem wco_mmax : Cond.code Lib.Math.max.name Lib.Math.max.code 2 (some .int) ∈ WD := WD_mem (i := 712) (by decide +kernel) rfl
theorem wst_mmin : Cond.static Lib.Math.min.name ∈ WD := WD_mem (i := 624) (by decide +kernel) rfl
theorem wco_mmin : Cond.code Lib.Math.min.name Lib.Math.min.code 2 (some .int) ∈ WD := WD_mem (i := 625) (by decide +kernel) rfl
theorem wst_lmin : Cond.static Lib.MathLoose.min_long.x ∈ WD := WD_mem (i := 1039) (by decide +kernel) rfl
theorem wco_lmin : Cond.code Lib.MathLoose.min_long.x Lib.MathLoose.min_long.code 4 (some .long) ∈ WD := WD_mem (i := 1040) (by decide +kernel) rfl
theorem mlX0_91 : Cond.methodLink RX0 91 Lib.Math.max.name ∈ WD := WD_mem (i := 710) (by decide +kernel) rfl
theorem mlX0_133 : Cond.methodLink RX0 133 Lib.Math.min.name ∈ WD := WD_mem (i := 1206) (by decide +kernel) rfl
theorem mlX4_89 : Cond.methodLink RX4 89 Lib.Math.min.name ∈ WD := WD_mem (i := 623) (by decide +kernel) rfl
theorem mlX5_53 : Cond.methodLink RX5 53 Lib.Math.min.name ∈ WD := WD_mem (i := 824) (by decide +kernel) rfl
theorem mlX6_90 : Cond.methodLink RX6 90 Lib.Math.min.name ∈ WD := WD_mem (i := 1316) (by decide +kernel) rfl
theorem mlX6_103 : Cond.methodLink RX6 103 Lib.Math.max.name ∈ WD := WD_mem (i := 1318) (by decide +kernel) rfl
theorem mlX10_94 : Cond.methodLink RX10 94 Lib.Math.min.name ∈ WD := WD_mem (i := 912) (by decide +kernel) rfl
theorem mlX10_99 : Cond.methodLink RX10 99 Lib.Math.max.name ∈ WD := WD_mem (i := 917) (by decide +kernel) rfl
theorem mlX10_126 : Cond.methodLink RX10 126 Lib.MathLoose.min_long.x ∈ WD := WD_mem (i := 1038) (by decide +kernel) rfl
theorem ykX7_append : yok yX7_append 1 := by unfold yok; decide +kernel
theorem wcX7_append : Cond.code yX7_append cX7_append 6 none ∈ WD := WD_mem (i := 536) rfl rfl
theorem wiX7_append : Cond.initialized (yX7_append).cls ∈ WD := WD_mem (i := 120) (by decide +kernel) rfl
theorem wnX7_append : Cond.instanceMethod yX7_append ∈ WD := WD_mem (i := 534) (by decide +kernel) rfl
theorem weX7_append : Cond.selects (yX7_append).cls yX7_append yX7_append ∈ WD := WD_mem (i := 535) (by decide +kernel) rfl
theorem ykX4_readHills : yok yX4_readHills 1 := by unfold yok; decide +kernel
theorem wcX4_readHills : Cond.code yX4_readHills cX4_readHills 3 (some .int) ∈ WD := WD_mem (i := 544) rfl rfl
theorem wiX4_readHills : Cond.initialized (yX4_readHills).cls ∈ WD := WD_mem (i := 121) (by decide +kernel) rfl
theorem wnX4_readHills : Cond.instanceMethod yX4_readHills ∈ WD := WD_mem (i := 542) (by decide +kernel) rfl
theorem weX4_readHills : Cond.selects (yX4_readHills).cls yX4_readHills yX4_readHills ∈ WD := WD_mem (i := 543) (by decide +kernel) rfl
theorem ykX9_clear : yok yX9_clear 0 := by unfold yok; decide +kernel
theorem wcX9_clear : Cond.code yX9_clear cX9_clear 1 none ∈ WD := WD_mem (i := 720) rfl rfl
theorem wiX9_clear : Cond.initialized (yX9_clear).cls ∈ WD := WD_mem (i := 127) (by decide +kernel) rfl
theorem wnX9_clear : Cond.instanceMethod yX9_clear ∈ WD := WD_mem (i := 718) (by decide +kernel) rfl
theorem weX9_clear : Cond.selects (yX9_clear).cls yX9_clear yX9_clear ∈ WD := WD_mem (i := 719) (by decide +kernel) rfl
theorem ykX0_toldLying : yok yX0_toldLying 0 := by unfold yok; decide +kernel
theorem wcX0_toldLying : Cond.code yX0_toldLying cX0_toldLying 3 (some .int) ∈ WD := WD_mem (i := 724) rfl rfl
theorem wiX0_toldLying : Cond.initialized (yX0_toldLying).cls ∈ WD := WD_mem (i := 125) (by decide +kernel) rfl
theorem wnX0_toldLying : Cond.instanceMethod yX0_toldLying ∈ WD := WD_mem (i := 722) (by decide +kernel) rfl
theorem weX0_toldLying : Cond.selects (yX0_toldLying).cls yX0_toldLying yX0_toldLying ∈ WD := WD_mem (i := 723) (by decide +kernel) rfl
theorem ykX5_restart : yok yX5_restart 1 := by unfold yok; decide +kernel
theorem wcX5_restart : Cond.code yX5_restart cX5_restart 3 none ∈ WD := WD_mem (i := 728) rfl rfl
theorem wiX5_restart : Cond.initialized (yX5_restart).cls ∈ WD := WD_mem (i := 124) (by decide +kernel) rfl
theorem wnX5_restart : Cond.instanceMethod yX5_restart ∈ WD := WD_mem (i := 726) (by decide +kernel) rfl
theorem weX5_restart : Cond.selects (yX5_restart).cls yX5_restart yX5_restart ∈ WD := WD_mem (i := 727) (by decide +kernel) rfl
theorem ykX3_moveTo : yok yX3_moveTo 1 := by unfold yok; decide +kernel
theorem wcX3_moveTo : Cond.code yX3_moveTo cX3_moveTo 2 none ∈ WD := WD_mem (i := 732) rfl rfl
theorem wiX3_moveTo : Cond.initialized (yX3_moveTo).cls ∈ WD := WD_mem (i := 128) (by decide +kernel) rfl
theorem wnX3_moveTo : Cond.instanceMethod yX3_moveTo ∈ WD := WD_mem (i := 730) (by decide +kernel) rfl
theorem weX3_moveTo : Cond.selects (yX3_moveTo).cls yX3_moveTo yX3_moveTo ∈ WD := WD_mem (i := 731) (by decide +kernel) rfl
theorem ykX10_moveTo : yok yX10_moveTo 1 := by unfold yok; decide +kernel
theorem wcX10_moveTo : Cond.code yX10_moveTo cX10_moveTo 2 none ∈ WD := WD_mem (i := 736) rfl rfl
theorem wiX10_moveTo : Cond.initialized (yX10_moveTo).cls ∈ WD := WD_mem (i := 129) (by decide +kernel) rfl
theorem wnX10_moveTo : Cond.instanceMethod yX10_moveTo ∈ WD := WD_mem (i := 734) (by decide +kernel) rfl
theorem weX10_moveTo : Cond.selects (yX10_moveTo).cls yX10_moveTo yX10_moveTo ∈ WD := WD_mem (i := 735) (by decide +kernel) rfl
theorem ykX6_moveTo : yok yX6_moveTo 1 := by unfold yok; decide +kernel
theorem wcX6_moveTo : Cond.code yX6_moveTo cX6_moveTo 2 none ∈ WD := WD_mem (i := 740) rfl rfl
theorem wiX6_moveTo : Cond.initialized (yX6_moveTo).cls ∈ WD := WD_mem (i := 130) (by decide +kernel) rfl
theorem wnX6_moveTo : Cond.instanceMethod yX6_moveTo ∈ WD := WD_mem (i := 738) (by decide +kernel) rfl
theorem weX6_moveTo : Cond.selects (yX6_moveTo).cls yX6_moveTo yX6_moveTo ∈ WD := WD_mem (i := 739) (by decide +kernel) rfl
theorem ykX4_readTrip : yok yX4_readTrip 2 := by unfold yok; decide +kernel
theorem wcX4_readTrip : Cond.code yX4_readTrip cX4_readTrip 4 (some .int) ∈ WD := WD_mem (i := 748) rfl rfl
theorem wiX4_readTrip : Cond.initialized (yX4_readTrip).cls ∈ WD := WD_mem (i := 121) (by decide +kernel) rfl
theorem wnX4_readTrip : Cond.instanceMethod yX4_readTrip ∈ WD := WD_mem (i := 746) (by decide +kernel) rfl
theorem weX4_readTrip : Cond.selects (yX4_readTrip).cls yX4_readTrip yX4_readTrip ∈ WD := WD_mem (i := 747) (by decide +kernel) rfl
theorem ykX0_isHut : yok yX0_isHut 1 := by unfold yok; decide +kernel
theorem wcX0_isHut : Cond.code yX0_isHut cX0_isHut 2 (some .boolean) ∈ WD := WD_mem (i := 657) rfl rfl
theorem wiX0_isHut : Cond.initialized (yX0_isHut).cls ∈ WD := WD_mem (i := 125) (by decide +kernel) rfl
theorem wnX0_isHut : Cond.instanceMethod yX0_isHut ∈ WD := WD_mem (i := 655) (by decide +kernel) rfl
theorem weX0_isHut : Cond.selects (yX0_isHut).cls yX0_isHut yX0_isHut ∈ WD := WD_mem (i := 656) (by decide +kernel) rfl
theorem ykX0_loadsIn : yok yX0_loadsIn 2 := by unfold yok; decide +kernel
theorem wcX0_loadsIn : Cond.code yX0_loadsIn cX0_loadsIn 3 (some .int) ∈ WD := WD_mem (i := 766) rfl rfl
theorem wiX0_loadsIn : Cond.initialized (yX0_loadsIn).cls ∈ WD := WD_mem (i := 125) (by decide +kernel) rfl
theorem wnX0_loadsIn : Cond.instanceMethod yX0_loadsIn ∈ WD := WD_mem (i := 764) (by decide +kernel) rfl
theorem weX0_loadsIn : Cond.selects (yX0_loadsIn).cls yX0_loadsIn yX0_loadsIn ∈ WD := WD_mem (i := 765) (by decide +kernel) rfl
theorem ykX0_neighbours : yok yX0_neighbours 1 := by unfold yok; decide +kernel
theorem wcX0_neighbours : Cond.code yX0_neighbours cX0_neighbours 4 (some .int) ∈ WD := WD_mem (i := 770) rfl rfl
theorem wiX0_neighbours : Cond.initialized (yX0_neighbours).cls ∈ WD := WD_mem (i := 125) (by decide +kernel) rfl
theorem wnX0_neighbours : Cond.instanceMethod yX0_neighbours ∈ WD := WD_mem (i := 768) (by decide +kernel) rfl
theorem weX0_neighbours : Cond.selects (yX0_neighbours).cls yX0_neighbours yX0_neighbours ∈ WD := WD_mem (i := 769) (by decide +kernel) rfl
theorem ykX0_isFull : yok yX0_isFull 2 := by unfold yok; decide +kernel
theorem wcX0_isFull : Cond.code yX0_isFull cX0_isFull 3 (some .boolean) ∈ WD := WD_mem (i := 774) rfl rfl
theorem wiX0_isFull : Cond.initialized (yX0_isFull).cls ∈ WD := WD_mem (i := 125) (by decide +kernel) rfl
theorem wnX0_isFull : Cond.instanceMethod yX0_isFull ∈ WD := WD_mem (i := 772) (by decide +kernel) rfl
theorem weX0_isFull : Cond.selects (yX0_isFull).cls yX0_isFull yX0_isFull ∈ WD := WD_mem (i := 773) (by decide +kernel) rfl
theorem ykX0_wayBetween : yok yX0_wayBetween 2 := by unfold yok; decide +kernel
theorem wcX0_wayBetween : Cond.code yX0_wayBetween cX0_wayBetween 3 (some .int) ∈ WD := WD_mem (i := 783) rfl rfl
theorem wiX0_wayBetween : Cond.initialized (yX0_wayBetween).cls ∈ WD := WD_mem (i := 125) (by decide +kernel) rfl
theorem wnX0_wayBetween : Cond.instanceMethod yX0_wayBetween ∈ WD := WD_mem (i := 781) (by decide +kernel) rfl
theorem weX0_wayBetween : Cond.selects (yX0_wayBetween).cls yX0_wayBetween yX0_wayBetween ∈ WD := WD_mem (i := 782) (by decide +kernel) rfl
theorem ykX0_priceOver : yok yX0_priceOver 1 := by unfold yok; decide +kernel
theorem wcX0_priceOver : Cond.code yX0_priceOver cX0_priceOver 2 (some .int) ∈ WD := WD_mem (i := 787) rfl rfl
theorem wiX0_priceOver : Cond.initialized (yX0_priceOver).cls ∈ WD := WD_mem (i := 125) (by decide +kernel) rfl
theorem wnX0_priceOver : Cond.instanceMethod yX0_priceOver ∈ WD := WD_mem (i := 785) (by decide +kernel) rfl
theorem weX0_priceOver : Cond.selects (yX0_priceOver).cls yX0_priceOver yX0_priceOver ∈ WD := WD_mem (i := 786) (by decide +kernel) rfl
theorem ykX0_afterCarrying : yok yX0_afterCarrying 3 := by unfold yok; decide +kernel
theorem wcX0_afterCarrying : Cond.code yX0_afterCarrying cX0_afterCarrying 4 (some .int) ∈ WD := WD_mem (i := 795) rfl rfl
theorem wiX0_afterCarrying : Cond.initialized (yX0_afterCarrying).cls ∈ WD := WD_mem (i := 125) (by decide +kernel) rfl
theorem wnX0_afterCarrying : Cond.instanceMethod yX0_afterCarrying ∈ WD := WD_mem (i := 793) (by decide +kernel) rfl
theorem weX0_afterCarrying : Cond.selects (yX0_afterCarrying).cls yX0_afterCarrying yX0_afterCarrying ∈ WD := WD_mem (i := 794) (by decide +kernel) rfl
theorem ykX5_turnTo : yok yX5_turnTo 2 := by unfold yok; decide +kernel
theorem wcX5_turnTo : Cond.code yX5_turnTo cX5_turnTo 3 none ∈ WD := WD_mem (i := 823) rfl rfl
theorem wiX5_turnTo : Cond.initialized (yX5_turnTo).cls ∈ WD := WD_mem (i := 124) (by decide +kernel) rfl
theorem wnX5_turnTo : Cond.instanceMethod yX5_turnTo ∈ WD := WD_mem (i := 821) (by decide +kernel) rfl
theorem weX5_turnTo : Cond.selects (yX5_turnTo).cls yX5_turnTo yX5_turnTo ∈ WD := WD_mem (i := 822) (by decide +kernel) rfl
theorem ykX0_afterLaying : yok yX0_afterLaying 2 := by unfold yok; decide +kernel
theorem wcX0_afterLaying : Cond.code yX0_afterLaying cX0_afterLaying 3 (some .int) ∈ WD := WD_mem (i := 832) rfl rfl
theorem wiX0_afterLaying : Cond.initialized (yX0_afterLaying).cls ∈ WD := WD_mem (i := 125) (by decide +kernel) rfl
theorem wnX0_afterLaying : Cond.instanceMethod yX0_afterLaying ∈ WD := WD_mem (i := 830) (by decide +kernel) rfl
theorem weX0_afterLaying : Cond.selects (yX0_afterLaying).cls yX0_afterLaying yX0_afterLaying ∈ WD := WD_mem (i := 831) (by decide +kernel) rfl
theorem ykX11_turnAndTell : yok yX11_turnAndTell 2 := by unfold yok; decide +kernel
theorem wcX11_turnAndTell : Cond.code yX11_turnAndTell cX11_turnAndTell 3 (some .int) ∈ WD := WD_mem (i := 837) rfl rfl
theorem wiX11_turnAndTell : Cond.initialized (yX11_turnAndTell).cls ∈ WD := WD_mem (i := 119) (by decide +kernel) rfl
theorem wnX11_turnAndTell : Cond.instanceMethod yX11_turnAndTell ∈ WD := WD_mem (i := 836) (by decide +kernel) rfl
theorem weX11_turnAndTell : Cond.selects (yX11_turnAndTell).cls yX11_turnAndTell yX11_turnAndTell ∈ WD := WD_mem (i := 26) (by decide +kernel) rfl
theorem ykX0_afterEating : yok yX0_afterEating 2 := by unfold yok; decide +kernel
theorem wcX0_afterEating : Cond.code yX0_afterEating cX0_afterEating 3 (some .int) ∈ WD := WD_mem (i := 845) rfl rfl
theorem wiX0_afterEating : Cond.initialized (yX0_afterEating).cls ∈ WD := WD_mem (i := 125) (by decide +kernel) rfl
theorem wnX0_afterEating : Cond.instanceMethod yX0_afterEating ∈ WD := WD_mem (i := 843) (by decide +kernel) rfl
theorem weX0_afterEating : Cond.selects (yX0_afterEating).cls yX0_afterEating yX0_afterEating ∈ WD := WD_mem (i := 844) (by decide +kernel) rfl
theorem ykX5_stepBack : yok yX5_stepBack 0 := by unfold yok; decide +kernel
theorem wcX5_stepBack : Cond.code yX5_stepBack cX5_stepBack 1 (some .boolean) ∈ WD := WD_mem (i := 853) rfl rfl
theorem wiX5_stepBack : Cond.initialized (yX5_stepBack).cls ∈ WD := WD_mem (i := 124) (by decide +kernel) rfl
theorem wnX5_stepBack : Cond.instanceMethod yX5_stepBack ∈ WD := WD_mem (i := 851) (by decide +kernel) rfl
theorem weX5_stepBack : Cond.selects (yX5_stepBack).cls yX5_stepBack yX5_stepBack ∈ WD := WD_mem (i := 852) (by decide +kernel) rfl
theorem ykX9_runOver : yok yX9_runOver 1 := by unfold yok; decide +kernel
theorem wcX9_runOver : Cond.code yX9_runOver cX9_runOver 5 none ∈ WD := WD_mem (i := 861) rfl rfl
theorem wiX9_runOver : Cond.initialized (yX9_runOver).cls ∈ WD := WD_mem (i := 127) (by decide +kernel) rfl
theorem wnX9_runOver : Cond.instanceMethod yX9_runOver ∈ WD := WD_mem (i := 859) (by decide +kernel) rfl
theorem weX9_runOver : Cond.selects (yX9_runOver).cls yX9_runOver yX9_runOver ∈ WD := WD_mem (i := 860) (by decide +kernel) rfl
theorem ykX10_startAt : yok yX10_startAt 1 := by unfold yok; decide +kernel
theorem wcX10_startAt : Cond.code yX10_startAt cX10_startAt 6 none ∈ WD := WD_mem (i := 886) rfl rfl
theorem wiX10_startAt : Cond.initialized (yX10_startAt).cls ∈ WD := WD_mem (i := 129) (by decide +kernel) rfl
theorem wnX10_startAt : Cond.instanceMethod yX10_startAt ∈ WD := WD_mem (i := 884) (by decide +kernel) rfl
theorem weX10_startAt : Cond.selects (yX10_startAt).cls yX10_startAt yX10_startAt ∈ WD := WD_mem (i := 885) (by decide +kernel) rfl
theorem ykX10_mostLoads : yok yX10_mostLoads 1 := by unfold yok; decide +kernel
theorem wcX10_mostLoads : Cond.code yX10_mostLoads cX10_mostLoads 4 (some .int) ∈ WD := WD_mem (i := 944) rfl rfl
theorem wiX10_mostLoads : Cond.initialized (yX10_mostLoads).cls ∈ WD := WD_mem (i := 129) (by decide +kernel) rfl
theorem wnX10_mostLoads : Cond.instanceMethod yX10_mostLoads ∈ WD := WD_mem (i := 942) (by decide +kernel) rfl
theorem weX10_mostLoads : Cond.selects (yX10_mostLoads).cls yX10_mostLoads yX10_mostLoads ∈ WD := WD_mem (i := 943) (by decide +kernel) rfl
theorem ykX3_prepare : yok yX3_prepare 0 := by unfold yok; decide +kernel
theorem wcX3_prepare : Cond.code yX3_prepare cX3_prepare 4 none ∈ WD := WD_mem (i := 953) rfl rfl
theorem wiX3_prepare : Cond.initialized (yX3_prepare).cls ∈ WD := WD_mem (i := 128) (by decide +kernel) rfl
theorem wnX3_prepare : Cond.instanceMethod yX3_prepare ∈ WD := WD_mem (i := 951) (by decide +kernel) rfl
theorem weX3_prepare : Cond.selects (yX3_prepare).cls yX3_prepare yX3_prepare ∈ WD := WD_mem (i := 952) (by decide +kernel) rfl
theorem ykX3_fewestTo : yok yX3_fewestTo 2 := by unfold yok; decide +kernel
theorem wcX3_fewestTo : Cond.code yX3_fewestTo cX3_fewestTo 3 (some .int) ∈ WD := WD_mem (i := 981) rfl rfl
theorem wiX3_fewestTo : Cond.initialized (yX3_fewestTo).cls ∈ WD := WD_mem (i := 128) (by decide +kernel) rfl
theorem wnX3_fewestTo : Cond.instanceMethod yX3_fewestTo ∈ WD := WD_mem (i := 979) (by decide +kernel) rfl
theorem weX3_fewestTo : Cond.selects (yX3_fewestTo).cls yX3_fewestTo yX3_fewestTo ∈ WD := WD_mem (i := 980) (by decide +kernel) rfl
theorem ykX3_stepOfRow : yok yX3_stepOfRow 3 := by unfold yok; decide +kernel
theorem wcX3_stepOfRow : Cond.code yX3_stepOfRow cX3_stepOfRow 8 (some .int) ∈ WD := WD_mem (i := 999) rfl rfl
theorem wiX3_stepOfRow : Cond.initialized (yX3_stepOfRow).cls ∈ WD := WD_mem (i := 128) (by decide +kernel) rfl
theorem wnX3_stepOfRow : Cond.instanceMethod yX3_stepOfRow ∈ WD := WD_mem (i := 997) (by decide +kernel) rfl
theorem weX3_stepOfRow : Cond.selects (yX3_stepOfRow).cls yX3_stepOfRow yX3_stepOfRow ∈ WD := WD_mem (i := 998) (by decide +kernel) rfl
theorem ykX10_countRows : yok yX10_countRows 2 := by unfold yok; decide +kernel
theorem wcX10_countRows : Cond.code yX10_countRows cX10_countRows 6 (some .int) ∈ WD := WD_mem (i := 1017) rfl rfl
theorem wiX10_countRows : Cond.initialized (yX10_countRows).cls ∈ WD := WD_mem (i := 129) (by decide +kernel) rfl
theorem wnX10_countRows : Cond.instanceMethod yX10_countRows ∈ WD := WD_mem (i := 1015) (by decide +kernel) rfl
theorem weX10_countRows : Cond.selects (yX10_countRows).cls yX10_countRows yX10_countRows ∈ WD := WD_mem (i := 1016) (by decide +kernel) rfl
theorem ykX10_mostTogether : yok yX10_mostTogether 1 := by unfold yok; decide +kernel
theorem wcX10_mostTogether : Cond.code yX10_mostTogether cX10_mostTogether 4 (some .int) ∈ WD := WD_mem (i := 1048) rfl rfl
theorem wiX10_mostTogether : Cond.initialized (yX10_mostTogether).cls ∈ WD := WD_mem (i := 129) (by decide +kernel) rfl
theorem wnX10_mostTogether : Cond.instanceMethod yX10_mostTogether ∈ WD := WD_mem (i := 1046) (by decide +kernel) rfl
theorem weX10_mostTogether : Cond.selects (yX10_mostTogether).cls yX10_mostTogether yX10_mostTogether ∈ WD := WD_mem (i := 1047) (by decide +kernel) rfl
theorem ykX0_allHuts : yok yX0_allHuts 0 := by unfold yok; decide +kernel
theorem wcX0_allHuts : Cond.code yX0_allHuts cX0_allHuts 1 (some .int) ∈ WD := WD_mem (i := 877) rfl rfl
theorem wiX0_allHuts : Cond.initialized (yX0_allHuts).cls ∈ WD := WD_mem (i := 125) (by decide +kernel) rfl
theorem wnX0_allHuts : Cond.instanceMethod yX0_allHuts ∈ WD := WD_mem (i := 875) (by decide +kernel) rfl
theorem weX0_allHuts : Cond.selects (yX0_allHuts).cls yX0_allHuts yX0_allHuts ∈ WD := WD_mem (i := 876) (by decide +kernel) rfl
theorem ykX10_fewestToHave : yok yX10_fewestToHave 1 := by unfold yok; decide +kernel
theorem wcX10_fewestToHave : Cond.code yX10_fewestToHave cX10_fewestToHave 5 (some .int) ∈ WD := WD_mem (i := 1057) rfl rfl
theorem wiX10_fewestToHave : Cond.initialized (yX10_fewestToHave).cls ∈ WD := WD_mem (i := 129) (by decide +kernel) rfl
theorem wnX10_fewestToHave : Cond.instanceMethod yX10_fewestToHave ∈ WD := WD_mem (i := 1055) (by decide +kernel) rfl
theorem weX10_fewestToHave : Cond.selects (yX10_fewestToHave).cls yX10_fewestToHave yX10_fewestToHave ∈ WD := WD_mem (i := 1056) (by decide +kernel) rfl
theorem ykX10_fewestToSum : yok yX10_fewestToSum 1 := by unfold yok; decide +kernel
theorem wcX10_fewestToSum : Cond.code yX10_fewestToSum cX10_fewestToSum 5 (some .int) ∈ WD := WD_mem (i := 1073) rfl rfl
theorem wiX10_fewestToSum : Cond.initialized (yX10_fewestToSum).cls ∈ WD := WD_mem (i := 129) (by decide +kernel) rfl
theorem wnX10_fewestToSum : Cond.instanceMethod yX10_fewestToSum ∈ WD := WD_mem (i := 1071) (by decide +kernel) rfl
theorem weX10_fewestToSum : Cond.selects (yX10_fewestToSum).cls yX10_fewestToSum yX10_fewestToSum ∈ WD := WD_mem (i := 1072) (by decide +kernel) rfl
theorem ykX0_isStuck : yok yX0_isStuck 1 := by unfold yok; decide +kernel
theorem wcX0_isStuck : Cond.code yX0_isStuck cX0_isStuck 4 (some .boolean) ∈ WD := WD_mem (i := 1081) rfl rfl
theorem wiX0_isStuck : Cond.initialized (yX0_isStuck).cls ∈ WD := WD_mem (i := 125) (by decide +kernel) rfl
theorem wnX0_isStuck : Cond.instanceMethod yX0_isStuck ∈ WD := WD_mem (i := 1079) (by decide +kernel) rfl
theorem weX0_isStuck : Cond.selects (yX0_isStuck).cls yX0_isStuck yX0_isStuck ∈ WD := WD_mem (i := 1080) (by decide +kernel) rfl
theorem ykX10_longestRow : yok yX10_longestRow 0 := by unfold yok; decide +kernel
theorem wcX10_longestRow : Cond.code yX10_longestRow cX10_longestRow 3 (some .int) ∈ WD := WD_mem (i := 1089) rfl rfl
theorem wiX10_longestRow : Cond.initialized (yX10_longestRow).cls ∈ WD := WD_mem (i := 129) (by decide +kernel) rfl
theorem wnX10_longestRow : Cond.instanceMethod yX10_longestRow ∈ WD := WD_mem (i := 1087) (by decide +kernel) rfl
theorem weX10_longestRow : Cond.selects (yX10_longestRow).cls yX10_longestRow yX10_longestRow ∈ WD := WD_mem (i := 1088) (by decide +kernel) rfl
theorem ykX10_countEnds : yok yX10_countEnds 0 := by unfold yok; decide +kernel
theorem wcX10_countEnds : Cond.code yX10_countEnds cX10_countEnds 3 (some .int) ∈ WD := WD_mem (i := 1097) rfl rfl
theorem wiX10_countEnds : Cond.initialized (yX10_countEnds).cls ∈ WD := WD_mem (i := 129) (by decide +kernel) rfl
theorem wnX10_countEnds : Cond.instanceMethod yX10_countEnds ∈ WD := WD_mem (i := 1095) (by decide +kernel) rfl
theorem weX10_countEnds : Cond.selects (yX10_countEnds).cls yX10_countEnds yX10_countEnds ∈ WD := WD_mem (i := 1096) (by decide +kernel) rfl
theorem ykX0_onlyIn : yok yX0_onlyIn 2 := by unfold yok; decide +kernel
theorem wcX0_onlyIn : Cond.code yX0_onlyIn cX0_onlyIn 3 (some .int) ∈ WD := WD_mem (i := 1105) rfl rfl
theorem wiX0_onlyIn : Cond.initialized (yX0_onlyIn).cls ∈ WD := WD_mem (i := 125) (by decide +kernel) rfl
theorem wnX0_onlyIn : Cond.instanceMethod yX0_onlyIn ∈ WD := WD_mem (i := 1103) (by decide +kernel) rfl
theorem weX0_onlyIn : Cond.selects (yX0_onlyIn).cls yX0_onlyIn yX0_onlyIn ∈ WD := WD_mem (i := 1104) (by decide +kernel) rfl
theorem ykX3_comesTo : yok yX3_comesTo 2 := by unfold yok; decide +kernel
theorem wcX3_comesTo : Cond.code yX3_comesTo cX3_comesTo 3 (some .boolean) ∈ WD := WD_mem (i := 1113) rfl rfl
theorem wiX3_comesTo : Cond.initialized (yX3_comesTo).cls ∈ WD := WD_mem (i := 128) (by decide +kernel) rfl
theorem wnX3_comesTo : Cond.instanceMethod yX3_comesTo ∈ WD := WD_mem (i := 1111) (by decide +kernel) rfl
theorem weX3_comesTo : Cond.selects (yX3_comesTo).cls yX3_comesTo yX3_comesTo ∈ WD := WD_mem (i := 1112) (by decide +kernel) rfl
theorem ykX3_hutsFrom : yok yX3_hutsFrom 1 := by unfold yok; decide +kernel
theorem wcX3_hutsFrom : Cond.code yX3_hutsFrom cX3_hutsFrom 2 (some .int) ∈ WD := WD_mem (i := 1121) rfl rfl
theorem wiX3_hutsFrom : Cond.initialized (yX3_hutsFrom).cls ∈ WD := WD_mem (i := 128) (by decide +kernel) rfl
theorem wnX3_hutsFrom : Cond.instanceMethod yX3_hutsFrom ∈ WD := WD_mem (i := 1119) (by decide +kernel) rfl
theorem weX3_hutsFrom : Cond.selects (yX3_hutsFrom).cls yX3_hutsFrom yX3_hutsFrom ∈ WD := WD_mem (i := 1120) (by decide +kernel) rfl
theorem ykX6_firstToLayIn : yok yX6_firstToLayIn 2 := by unfold yok; decide +kernel
theorem wcX6_firstToLayIn : Cond.code yX6_firstToLayIn cX6_firstToLayIn 5 (some .int) ∈ WD := WD_mem (i := 1133) rfl rfl
theorem wiX6_firstToLayIn : Cond.initialized (yX6_firstToLayIn).cls ∈ WD := WD_mem (i := 130) (by decide +kernel) rfl
theorem wnX6_firstToLayIn : Cond.instanceMethod yX6_firstToLayIn ∈ WD := WD_mem (i := 1131) (by decide +kernel) rfl
theorem weX6_firstToLayIn : Cond.selects (yX6_firstToLayIn).cls yX6_firstToLayIn yX6_firstToLayIn ∈ WD := WD_mem (i := 1132) (by decide +kernel) rfl
theorem ykX6_firstGuarded : yok yX6_firstGuarded 2 := by unfold yok; decide +kernel
theorem wcX6_firstGuarded : Cond.code yX6_firstGuarded cX6_firstGuarded 7 (some .int) ∈ WD := WD_mem (i := 1143) rfl rfl
theorem wiX6_firstGuarded : Cond.initialized (yX6_firstGuarded).cls ∈ WD := WD_mem (i := 130) (by decide +kernel) rfl
theorem wnX6_firstGuarded : Cond.instanceMethod yX6_firstGuarded ∈ WD := WD_mem (i := 1141) (by decide +kernel) rfl
theorem weX6_firstGuarded : Cond.selects (yX6_firstGuarded).cls yX6_firstGuarded yX6_firstGuarded ∈ WD := WD_mem (i := 1142) (by decide +kernel) rfl
theorem ykX0_sumOf : yok yX0_sumOf 1 := by unfold yok; decide +kernel
theorem wcX0_sumOf : Cond.code yX0_sumOf cX0_sumOf 4 (some .int) ∈ WD := WD_mem (i := 799) rfl rfl
theorem wiX0_sumOf : Cond.initialized (yX0_sumOf).cls ∈ WD := WD_mem (i := 125) (by decide +kernel) rfl
theorem wnX0_sumOf : Cond.instanceMethod yX0_sumOf ∈ WD := WD_mem (i := 797) (by decide +kernel) rfl
theorem weX0_sumOf : Cond.selects (yX0_sumOf).cls yX0_sumOf yX0_sumOf ∈ WD := WD_mem (i := 798) (by decide +kernel) rfl
theorem ykX0_countBefore : yok yX0_countBefore 1 := by unfold yok; decide +kernel
theorem wcX0_countBefore : Cond.code yX0_countBefore cX0_countBefore 8 (some .int) ∈ WD := WD_mem (i := 1165) rfl rfl
theorem wiX0_countBefore : Cond.initialized (yX0_countBefore).cls ∈ WD := WD_mem (i := 125) (by decide +kernel) rfl
theorem wnX0_countBefore : Cond.instanceMethod yX0_countBefore ∈ WD := WD_mem (i := 1163) (by decide +kernel) rfl
theorem weX0_countBefore : Cond.selects (yX0_countBefore).cls yX0_countBefore yX0_countBefore ∈ WD := WD_mem (i := 1164) (by decide +kernel) rfl
theorem ykX0_joinedTo : yok yX0_joinedTo 1 := by unfold yok; decide +kernel
theorem wcX0_joinedTo : Cond.code yX0_joinedTo cX0_joinedTo 4 (some .int) ∈ WD := WD_mem (i := 1174) rfl rfl
theorem wiX0_joinedTo : Cond.initialized (yX0_joinedTo).cls ∈ WD := WD_mem (i := 125) (by decide +kernel) rfl
theorem wnX0_joinedTo : Cond.instanceMethod yX0_joinedTo ∈ WD := WD_mem (i := 1172) (by decide +kernel) rfl
theorem weX0_joinedTo : Cond.selects (yX0_joinedTo).cls yX0_joinedTo yX0_joinedTo ∈ WD := WD_mem (i := 1173) (by decide +kernel) rfl
theorem ykX0_pathsBetween : yok yX0_pathsBetween 2 := by unfold yok; decide +kernel
theorem wcX0_pathsBetween : Cond.code yX0_pathsBetween cX0_pathsBetween 5 (some .int) ∈ WD := WD_mem (i := 1187) rfl rfl
theorem wiX0_pathsBetween : Cond.initialized (yX0_pathsBetween).cls ∈ WD := WD_mem (i := 125) (by decide +kernel) rfl
theorem wnX0_pathsBetween : Cond.instanceMethod yX0_pathsBetween ∈ WD := WD_mem (i := 1185) (by decide +kernel) rfl
theorem weX0_pathsBetween : Cond.selects (yX0_pathsBetween).cls yX0_pathsBetween yX0_pathsBetween ∈ WD := WD_mem (i := 1186) (by decide +kernel) rfl
theorem ykX0_leastProduct : yok yX0_leastProduct 2 := by unfold yok; decide +kernel
theorem wcX0_leastProduct : Cond.code yX0_leastProduct cX0_leastProduct 5 (some .int) ∈ WD := WD_mem (i := 1199) rfl rfl
theorem wiX0_leastProduct : Cond.initialized (yX0_leastProduct).cls ∈ WD := WD_mem (i := 125) (by decide +kernel) rfl
theorem wnX0_leastProduct : Cond.instanceMethod yX0_leastProduct ∈ WD := WD_mem (i := 1197) (by decide +kernel) rfl
theorem weX0_leastProduct : Cond.selects (yX0_leastProduct).cls yX0_leastProduct yX0_leastProduct ∈ WD := WD_mem (i := 1198) (by decide +kernel) rfl
theorem ykX6_countLayings : yok yX6_countLayings 1 := by unfold yok; decide +kernel
theorem wcX6_countLayings : Cond.code yX6_countLayings cX6_countLayings 5 (some .int) ∈ WD := WD_mem (i := 1214) rfl rfl
theorem wiX6_countLayings : Cond.initialized (yX6_countLayings).cls ∈ WD := WD_mem (i := 130) (by decide +kernel) rfl
theorem wnX6_countLayings : Cond.instanceMethod yX6_countLayings ∈ WD := WD_mem (i := 1212) (by decide +kernel) rfl
theorem weX6_countLayings : Cond.selects (yX6_countLayings).cls yX6_countLayings yX6_countLayings ∈ WD := WD_mem (i := 1213) (by decide +kernel) rfl
theorem ykX6_countComing : yok yX6_countComing 2 := by unfold yok; decide +kernel
theorem wcX6_countComing : Cond.code yX6_countComing cX6_countComing 7 (some .int) ∈ WD := WD_mem (i := 1223) rfl rfl
theorem wiX6_countComing : Cond.initialized (yX6_countComing).cls ∈ WD := WD_mem (i := 130) (by decide +kernel) rfl
theorem wnX6_countComing : Cond.instanceMethod yX6_countComing ∈ WD := WD_mem (i := 1221) (by decide +kernel) rfl
theorem weX6_countComing : Cond.selects (yX6_countComing).cls yX6_countComing yX6_countComing ∈ WD := WD_mem (i := 1222) (by decide +kernel) rfl
theorem ykX6_countEdens : yok yX6_countEdens 1 := by unfold yok; decide +kernel
theorem wcX6_countEdens : Cond.code yX6_countEdens cX6_countEdens 6 (some .int) ∈ WD := WD_mem (i := 1231) rfl rfl
theorem wiX6_countEdens : Cond.initialized (yX6_countEdens).cls ∈ WD := WD_mem (i := 130) (by decide +kernel) rfl
theorem wnX6_countEdens : Cond.instanceMethod yX6_countEdens ∈ WD := WD_mem (i := 1229) (by decide +kernel) rfl
theorem weX6_countEdens : Cond.selects (yX6_countEdens).cls yX6_countEdens yX6_countEdens ∈ WD := WD_mem (i := 1230) (by decide +kernel) rfl
theorem ykX6_sureFrom : yok yX6_sureFrom 1 := by unfold yok; decide +kernel
theorem wcX6_sureFrom : Cond.code yX6_sureFrom cX6_sureFrom 4 (some .int) ∈ WD := WD_mem (i := 1240) rfl rfl
theorem wiX6_sureFrom : Cond.initialized (yX6_sureFrom).cls ∈ WD := WD_mem (i := 130) (by decide +kernel) rfl
theorem wnX6_sureFrom : Cond.instanceMethod yX6_sureFrom ∈ WD := WD_mem (i := 1238) (by decide +kernel) rfl
theorem weX6_sureFrom : Cond.selects (yX6_sureFrom).cls yX6_sureFrom yX6_sureFrom ∈ WD := WD_mem (i := 1239) (by decide +kernel) rfl
theorem ykX6_firstWithout : yok yX6_firstWithout 2 := by unfold yok; decide +kernel
theorem wcX6_firstWithout : Cond.code yX6_firstWithout cX6_firstWithout 3 (some .int) ∈ WD := WD_mem (i := 1256) rfl rfl
theorem wiX6_firstWithout : Cond.initialized (yX6_firstWithout).cls ∈ WD := WD_mem (i := 130) (by decide +kernel) rfl
theorem wnX6_firstWithout : Cond.instanceMethod yX6_firstWithout ∈ WD := WD_mem (i := 1254) (by decide +kernel) rfl
theorem weX6_firstWithout : Cond.selects (yX6_firstWithout).cls yX6_firstWithout yX6_firstWithout ∈ WD := WD_mem (i := 1255) (by decide +kernel) rfl
theorem ykX6_firstForAll : yok yX6_firstForAll 0 := by unfold yok; decide +kernel
theorem wcX6_firstForAll : Cond.code yX6_firstForAll cX6_firstForAll 5 (some .int) ∈ WD := WD_mem (i := 1264) rfl rfl
theorem wiX6_firstForAll : Cond.initialized (yX6_firstForAll).cls ∈ WD := WD_mem (i := 130) (by decide +kernel) rfl
theorem wnX6_firstForAll : Cond.instanceMethod yX6_firstForAll ∈ WD := WD_mem (i := 1262) (by decide +kernel) rfl
theorem weX6_firstForAll : Cond.selects (yX6_firstForAll).cls yX6_firstForAll yX6_firstForAll ∈ WD := WD_mem (i := 1263) (by decide +kernel) rfl
theorem ykX3_pullLength : yok yX3_pullLength 1 := by unfold yok; decide +kernel
theorem wcX3_pullLength : Cond.code yX3_pullLength cX3_pullLength 2 (some .int) ∈ WD := WD_mem (i := 1273) rfl rfl
theorem wiX3_pullLength : Cond.initialized (yX3_pullLength).cls ∈ WD := WD_mem (i := 128) (by decide +kernel) rfl
theorem wnX3_pullLength : Cond.instanceMethod yX3_pullLength ∈ WD := WD_mem (i := 1271) (by decide +kernel) rfl
theorem weX3_pullLength : Cond.selects (yX3_pullLength).cls yX3_pullLength yX3_pullLength ∈ WD := WD_mem (i := 1272) (by decide +kernel) rfl
theorem ykX3_bestPull : yok yX3_bestPull 1 := by unfold yok; decide +kernel
theorem wcX3_bestPull : Cond.code yX3_bestPull cX3_bestPull 7 (some .int) ∈ WD := WD_mem (i := 1281) rfl rfl
theorem wiX3_bestPull : Cond.initialized (yX3_bestPull).cls ∈ WD := WD_mem (i := 128) (by decide +kernel) rfl
theorem wnX3_bestPull : Cond.instanceMethod yX3_bestPull ∈ WD := WD_mem (i := 1279) (by decide +kernel) rfl
theorem weX3_bestPull : Cond.selects (yX3_bestPull).cls yX3_bestPull yX3_bestPull ∈ WD := WD_mem (i := 1280) (by decide +kernel) rfl
theorem ykX0_codeOf : yok yX0_codeOf 1 := by unfold yok; decide +kernel
theorem wcX0_codeOf : Cond.code yX0_codeOf cX0_codeOf 2 (some .int) ∈ WD := WD_mem (i := 1009) rfl rfl
theorem wiX0_codeOf : Cond.initialized (yX0_codeOf).cls ∈ WD := WD_mem (i := 125) (by decide +kernel) rfl
theorem wnX0_codeOf : Cond.instanceMethod yX0_codeOf ∈ WD := WD_mem (i := 1007) (by decide +kernel) rfl
theorem weX0_codeOf : Cond.selects (yX0_codeOf).cls yX0_codeOf yX0_codeOf ∈ WD := WD_mem (i := 1008) (by decide +kernel) rfl
theorem ykX5_addSeen : yok yX5_addSeen 3 := by unfold yok; decide +kernel
theorem wcX5_addSeen : Cond.code yX5_addSeen cX5_addSeen 4 (some .boolean) ∈ WD := WD_mem (i := 1290) rfl rfl
theorem wiX5_addSeen : Cond.initialized (yX5_addSeen).cls ∈ WD := WD_mem (i := 124) (by decide +kernel) rfl
theorem wnX5_addSeen : Cond.instanceMethod yX5_addSeen ∈ WD := WD_mem (i := 1288) (by decide +kernel) rfl
theorem weX5_addSeen : Cond.selects (yX5_addSeen).cls yX5_addSeen yX5_addSeen ∈ WD := WD_mem (i := 1289) (by decide +kernel) rfl
theorem ykX6_countFitting : yok yX6_countFitting 1 := by unfold yok; decide +kernel
theorem wcX6_countFitting : Cond.code yX6_countFitting cX6_countFitting 7 (some .int) ∈ WD := WD_mem (i := 1298) rfl rfl
theorem wiX6_countFitting : Cond.initialized (yX6_countFitting).cls ∈ WD := WD_mem (i := 130) (by decide +kernel) rfl
theorem wnX6_countFitting : Cond.instanceMethod yX6_countFitting ∈ WD := WD_mem (i := 1296) (by decide +kernel) rfl
theorem weX6_countFitting : Cond.selects (yX6_countFitting).cls yX6_countFitting yX6_countFitting ∈ WD := WD_mem (i := 1297) (by decide +kernel) rfl
theorem ykX6_bestLook : yok yX6_bestLook 1 := by unfold yok; decide +kernel
theorem wcX6_bestLook : Cond.code yX6_bestLook cX6_bestLook 9 (some .int) ∈ WD := WD_mem (i := 1311) rfl rfl
theorem wiX6_bestLook : Cond.initialized (yX6_bestLook).cls ∈ WD := WD_mem (i := 130) (by decide +kernel) rfl
theorem wnX6_bestLook : Cond.instanceMethod yX6_bestLook ∈ WD := WD_mem (i := 1309) (by decide +kernel) rfl
theorem weX6_bestLook : Cond.selects (yX6_bestLook).cls yX6_bestLook yX6_bestLook ∈ WD := WD_mem (i := 1310) (by decide +kernel) rfl
theorem ykX10_millionths : yok yX10_millionths 2 := by unfold yok; decide +kernel
theorem wcX10_millionths : Cond.code yX10_millionths cX10_millionths 8 (some .int) ∈ WD := WD_mem (i := 1326) rfl rfl
theorem wiX10_millionths : Cond.initialized (yX10_millionths).cls ∈ WD := WD_mem (i := 129) (by decide +kernel) rfl
theorem wnX10_millionths : Cond.instanceMethod yX10_millionths ∈ WD := WD_mem (i := 1324) (by decide +kernel) rfl
theorem weX10_millionths : Cond.selects (yX10_millionths).cls yX10_millionths yX10_millionths ∈ WD := WD_mem (i := 1325) (by decide +kernel) rfl
theorem ykX5_drawSeasons : yok yX5_drawSeasons 4 := by unfold yok; decide +kernel
theorem wcX5_drawSeasons : Cond.code yX5_drawSeasons cX5_drawSeasons 14 (some .int) ∈ WD := WD_mem (i := 1339) rfl rfl
theorem wiX5_drawSeasons : Cond.initialized (yX5_drawSeasons).cls ∈ WD := WD_mem (i := 124) (by decide +kernel) rfl
theorem wnX5_drawSeasons : Cond.instanceMethod yX5_drawSeasons ∈ WD := WD_mem (i := 1337) (by decide +kernel) rfl
theorem weX5_drawSeasons : Cond.selects (yX5_drawSeasons).cls yX5_drawSeasons yX5_drawSeasons ∈ WD := WD_mem (i := 1338) (by decide +kernel) rfl
theorem ykX5_backToMark : yok yX5_backToMark 1 := by unfold yok; decide +kernel
theorem wcX5_backToMark : Cond.code yX5_backToMark cX5_backToMark 3 (some .boolean) ∈ WD := WD_mem (i := 1361) rfl rfl
theorem wiX5_backToMark : Cond.initialized (yX5_backToMark).cls ∈ WD := WD_mem (i := 124) (by decide +kernel) rfl
theorem wnX5_backToMark : Cond.instanceMethod yX5_backToMark ∈ WD := WD_mem (i := 1359) (by decide +kernel) rfl
theorem weX5_backToMark : Cond.selects (yX5_backToMark).cls yX5_backToMark yX5_backToMark ∈ WD := WD_mem (i := 1360) (by decide +kernel) rfl
theorem ykX5_layMark : yok yX5_layMark 1 := by unfold yok; decide +kernel
theorem wcX5_layMark : Cond.code yX5_layMark cX5_layMark 3 (some .boolean) ∈ WD := WD_mem (i := 1365) rfl rfl
theorem wiX5_layMark : Cond.initialized (yX5_layMark).cls ∈ WD := WD_mem (i := 124) (by decide +kernel) rfl
theorem wnX5_layMark : Cond.instanceMethod yX5_layMark ∈ WD := WD_mem (i := 1363) (by decide +kernel) rfl
theorem weX5_layMark : Cond.selects (yX5_layMark).cls yX5_layMark yX5_layMark ∈ WD := WD_mem (i := 1364) (by decide +kernel) rfl
theorem ykX0_occupied : yok yX0_occupied 1 := by unfold yok; decide +kernel
theorem wcX0_occupied : Cond.code yX0_occupied cX0_occupied 4 (some .int) ∈ WD := WD_mem (i := 873) rfl rfl
theorem wiX0_occupied : Cond.initialized (yX0_occupied).cls ∈ WD := WD_mem (i := 125) (by decide +kernel) rfl
theorem wnX0_occupied : Cond.instanceMethod yX0_occupied ∈ WD := WD_mem (i := 871) (by decide +kernel) rfl
theorem weX0_occupied : Cond.selects (yX0_occupied).cls yX0_occupied yX0_occupied ∈ WD := WD_mem (i := 872) (by decide +kernel) rfl
theorem ykX8_next : yok yX8_next 0 := by unfold yok; decide +kernel
theorem wcX8_next : Cond.code yX8_next cX8_next 2 none ∈ WD := WD_mem (i := 563) rfl rfl
theorem wiX8_next : Cond.initialized (yX8_next).cls ∈ WD := WD_mem (i := 122) (by decide +kernel) rfl
theorem wnX8_next : Cond.instanceMethod yX8_next ∈ WD := WD_mem (i := 561) (by decide +kernel) rfl
theorem weX8_next : Cond.selects (yX8_next).cls yX8_next yX8_next ∈ WD := WD_mem (i := 562) (by decide +kernel) rfl
theorem ykX7_signAt : yok yX7_signAt 1 := by unfold yok; decide +kernel
theorem wcX7_signAt : Cond.code yX7_signAt cX7_signAt 2 (some .int) ∈ WD := WD_mem (i := 567) rfl rfl
theorem wiX7_signAt : Cond.initialized (yX7_signAt).cls ∈ WD := WD_mem (i := 120) (by decide +kernel) rfl
theorem wnX7_signAt : Cond.instanceMethod yX7_signAt ∈ WD := WD_mem (i := 565) (by decide +kernel) rfl
theorem weX7_signAt : Cond.selects (yX7_signAt).cls yX7_signAt yX7_signAt ∈ WD := WD_mem (i := 566) (by decide +kernel) rfl
theorem ykX8_takeWord : yok yX8_takeWord 0 := by unfold yok; decide +kernel
theorem wcX8_takeWord : Cond.code yX8_takeWord cX8_takeWord 1 none ∈ WD := WD_mem (i := 577) rfl rfl
theorem wiX8_takeWord : Cond.initialized (yX8_takeWord).cls ∈ WD := WD_mem (i := 122) (by decide +kernel) rfl
theorem wnX8_takeWord : Cond.instanceMethod yX8_takeWord ∈ WD := WD_mem (i := 576) (by decide +kernel) rfl
theorem weX8_takeWord : Cond.selects (yX8_takeWord).cls yX8_takeWord yX8_takeWord ∈ WD := WD_mem (i := 3) (by decide +kernel) rfl
theorem ykX8_takeNumber : yok yX8_takeNumber 0 := by unfold yok; decide +kernel
theorem wcX8_takeNumber : Cond.code yX8_takeNumber cX8_takeNumber 1 none ∈ WD := WD_mem (i := 590) rfl rfl
theorem wiX8_takeNumber : Cond.initialized (yX8_takeNumber).cls ∈ WD := WD_mem (i := 122) (by decide +kernel) rfl
theorem wnX8_takeNumber : Cond.instanceMethod yX8_takeNumber ∈ WD := WD_mem (i := 589) (by decide +kernel) rfl
theorem weX8_takeNumber : Cond.selects (yX8_takeNumber).cls yX8_takeNumber yX8_takeNumber ∈ WD := WD_mem (i := 5) (by decide +kernel) rfl
theorem ykX8_kindOfWord : yok yX8_kindOfWord 0 := by unfold yok; decide +kernel
theorem wcX8_kindOfWord : Cond.code yX8_kindOfWord cX8_kindOfWord 2 (some .int) ∈ WD := WD_mem (i := 581) rfl rfl
theorem wiX8_kindOfWord : Cond.initialized (yX8_kindOfWord).cls ∈ WD := WD_mem (i := 122) (by decide +kernel) rfl
theorem wnX8_kindOfWord : Cond.instanceMethod yX8_kindOfWord ∈ WD := WD_mem (i := 580) (by decide +kernel) rfl
theorem weX8_kindOfWord : Cond.selects (yX8_kindOfWord).cls yX8_kindOfWord yX8_kindOfWord ∈ WD := WD_mem (i := 4) (by decide +kernel) rfl
theorem ykX0_clear : yok yX0_clear 0 := by unfold yok; decide +kernel
theorem wcX0_clear : Cond.code yX0_clear cX0_clear 2 none ∈ WD := WD_mem (i := 548) rfl rfl
theorem wiX0_clear : Cond.initialized (yX0_clear).cls ∈ WD := WD_mem (i := 125) (by decide +kernel) rfl
theorem wnX0_clear : Cond.instanceMethod yX0_clear ∈ WD := WD_mem (i := 546) (by decide +kernel) rfl
theorem weX0_clear : Cond.selects (yX0_clear).cls yX0_clear yX0_clear ∈ WD := WD_mem (i := 547) (by decide +kernel) rfl
theorem ykX8_start : yok yX8_start 0 := by unfold yok; decide +kernel
theorem wcX8_start : Cond.code yX8_start cX8_start 1 none ∈ WD := WD_mem (i := 559) rfl rfl
theorem wiX8_start : Cond.initialized (yX8_start).cls ∈ WD := WD_mem (i := 122) (by decide +kernel) rfl
theorem wnX8_start : Cond.instanceMethod yX8_start ∈ WD := WD_mem (i := 557) (by decide +kernel) rfl
theorem weX8_start : Cond.selects (yX8_start).cls yX8_start yX8_start ∈ WD := WD_mem (i := 558) (by decide +kernel) rfl
theorem ykX4_readHut : yok yX4_readHut 1 := by unfold yok; decide +kernel
theorem wcX4_readHut : Cond.code yX4_readHut cX4_readHut 7 none ∈ WD := WD_mem (i := 597) rfl rfl
theorem wiX4_readHut : Cond.initialized (yX4_readHut).cls ∈ WD := WD_mem (i := 121) (by decide +kernel) rfl
theorem wnX4_readHut : Cond.instanceMethod yX4_readHut ∈ WD := WD_mem (i := 596) (by decide +kernel) rfl
theorem weX4_readHut : Cond.selects (yX4_readHut).cls yX4_readHut yX4_readHut ∈ WD := WD_mem (i := 6) (by decide +kernel) rfl
theorem ykX4_readPath : yok yX4_readPath 1 := by unfold yok; decide +kernel
theorem wcX4_readPath : Cond.code yX4_readPath cX4_readPath 5 none ∈ WD := WD_mem (i := 637) rfl rfl
theorem wiX4_readPath : Cond.initialized (yX4_readPath).cls ∈ WD := WD_mem (i := 121) (by decide +kernel) rfl
theorem wnX4_readPath : Cond.instanceMethod yX4_readPath ∈ WD := WD_mem (i := 636) (by decide +kernel) rfl
theorem weX4_readPath : Cond.selects (yX4_readPath).cls yX4_readPath yX4_readPath ∈ WD := WD_mem (i := 12) (by decide +kernel) rfl
theorem ykX4_readBars : yok yX4_readBars 1 := by unfold yok; decide +kernel
theorem wcX4_readBars : Cond.code yX4_readBars cX4_readBars 2 none ∈ WD := WD_mem (i := 665) rfl rfl
theorem wiX4_readBars : Cond.initialized (yX4_readBars).cls ∈ WD := WD_mem (i := 121) (by decide +kernel) rfl
theorem wnX4_readBars : Cond.instanceMethod yX4_readBars ∈ WD := WD_mem (i := 664) (by decide +kernel) rfl
theorem weX4_readBars : Cond.selects (yX4_readBars).cls yX4_readBars yX4_readBars ∈ WD := WD_mem (i := 16) (by decide +kernel) rfl
theorem ykX4_wrong : yok yX4_wrong 1 := by unfold yok; decide +kernel
theorem wcX4_wrong : Cond.code yX4_wrong cX4_wrong 2 none ∈ WD := WD_mem (i := 601) rfl rfl
theorem wiX4_wrong : Cond.initialized (yX4_wrong).cls ∈ WD := WD_mem (i := 121) (by decide +kernel) rfl
theorem wnX4_wrong : Cond.instanceMethod yX4_wrong ∈ WD := WD_mem (i := 600) (by decide +kernel) rfl
theorem weX4_wrong : Cond.selects (yX4_wrong).cls yX4_wrong yX4_wrong ∈ WD := WD_mem (i := 7) (by decide +kernel) rfl
theorem ykX7_clear : yok yX7_clear 0 := by unfold yok; decide +kernel
theorem wcX7_clear : Cond.code yX7_clear cX7_clear 1 none ∈ WD := WD_mem (i := 700) rfl rfl
theorem wiX7_clear : Cond.initialized (yX7_clear).cls ∈ WD := WD_mem (i := 120) (by decide +kernel) rfl
theorem wnX7_clear : Cond.instanceMethod yX7_clear ∈ WD := WD_mem (i := 698) (by decide +kernel) rfl
theorem weX7_clear : Cond.selects (yX7_clear).cls yX7_clear yX7_clear ∈ WD := WD_mem (i := 699) (by decide +kernel) rfl
theorem ykX0_finish : yok yX0_finish 0 := by unfold yok; decide +kernel
theorem wcX0_finish : Cond.code yX0_finish cX0_finish 3 none ∈ WD := WD_mem (i := 704) rfl rfl
theorem wiX0_finish : Cond.initialized (yX0_finish).cls ∈ WD := WD_mem (i := 125) (by decide +kernel) rfl
theorem wnX0_finish : Cond.instanceMethod yX0_finish ∈ WD := WD_mem (i := 702) (by decide +kernel) rfl
theorem weX0_finish : Cond.selects (yX0_finish).cls yX0_finish yX0_finish ∈ WD := WD_mem (i := 703) (by decide +kernel) rfl
theorem ykX4_readTripLine : yok yX4_readTripLine 2 := by unfold yok; decide +kernel
theorem wcX4_readTripLine : Cond.code yX4_readTripLine cX4_readTripLine 6 none ∈ WD := WD_mem (i := 753) rfl rfl
theorem wiX4_readTripLine : Cond.initialized (yX4_readTripLine).cls ∈ WD := WD_mem (i := 121) (by decide +kernel) rfl
theorem wnX4_readTripLine : Cond.instanceMethod yX4_readTripLine ∈ WD := WD_mem (i := 752) (by decide +kernel) rfl
theorem weX4_readTripLine : Cond.selects (yX4_readTripLine).cls yX4_readTripLine yX4_readTripLine ∈ WD := WD_mem (i := 24) (by decide +kernel) rfl
theorem ykX4_readNewName : yok yX4_readNewName 1 := by unfold yok; decide +kernel
theorem wcX4_readNewName : Cond.code yX4_readNewName cX4_readNewName 4 (some .long) ∈ WD := WD_mem (i := 606) rfl rfl
theorem wiX4_readNewName : Cond.initialized (yX4_readNewName).cls ∈ WD := WD_mem (i := 121) (by decide +kernel) rfl
theorem wnX4_readNewName : Cond.instanceMethod yX4_readNewName ∈ WD := WD_mem (i := 605) (by decide +kernel) rfl
theorem weX4_readNewName : Cond.selects (yX4_readNewName).cls yX4_readNewName yX4_readNewName ∈ WD := WD_mem (i := 8) (by decide +kernel) rfl
theorem ykX4_readHutKind : yok yX4_readHutKind 0 := by unfold yok; decide +kernel
theorem wcX4_readHutKind : Cond.code yX4_readHutKind cX4_readHutKind 2 (some .int) ∈ WD := WD_mem (i := 618) rfl rfl
theorem wiX4_readHutKind : Cond.initialized (yX4_readHutKind).cls ∈ WD := WD_mem (i := 121) (by decide +kernel) rfl
theorem wnX4_readHutKind : Cond.instanceMethod yX4_readHutKind ∈ WD := WD_mem (i := 617) (by decide +kernel) rfl
theorem weX4_readHutKind : Cond.selects (yX4_readHutKind).cls yX4_readHutKind yX4_readHutKind ∈ WD := WD_mem (i := 10) (by decide +kernel) rfl
theorem ykX4_expect : yok yX4_expect 1 := by unfold yok; decide +kernel
theorem wcX4_expect : Cond.code yX4_expect cX4_expect 2 none ∈ WD := WD_mem (i := 614) rfl rfl
theorem wiX4_expect : Cond.initialized (yX4_expect).cls ∈ WD := WD_mem (i := 121) (by decide +kernel) rfl
theorem wnX4_expect : Cond.instanceMethod yX4_expect ∈ WD := WD_mem (i := 613) (by decide +kernel) rfl
theorem weX4_expect : Cond.selects (yX4_expect).cls yX4_expect yX4_expect ∈ WD := WD_mem (i := 9) (by decide +kernel) rfl
theorem ykX0_toldLoads : yok yX0_toldLoads 0 := by unfold yok; decide +kernel
theorem wcX0_toldLoads : Cond.code yX0_toldLoads cX0_toldLoads 3 (some .int) ∈ WD := WD_mem (i := 622) rfl rfl
theorem wiX0_toldLoads : Cond.initialized (yX0_toldLoads).cls ∈ WD := WD_mem (i := 125) (by decide +kernel) rfl
theorem wnX0_toldLoads : Cond.instanceMethod yX0_toldLoads ∈ WD := WD_mem (i := 620) (by decide +kernel) rfl
theorem weX0_toldLoads : Cond.selects (yX0_toldLoads).cls yX0_toldLoads yX0_toldLoads ∈ WD := WD_mem (i := 621) (by decide +kernel) rfl
theorem ykX4_readNumber : yok yX4_readNumber 2 := by unfold yok; decide +kernel
theorem wcX4_readNumber : Cond.code yX4_readNumber cX4_readNumber 4 (some .int) ∈ WD := WD_mem (i := 629) rfl rfl
theorem wiX4_readNumber : Cond.initialized (yX4_readNumber).cls ∈ WD := WD_mem (i := 121) (by decide +kernel) rfl
theorem wnX4_readNumber : Cond.instanceMethod yX4_readNumber ∈ WD := WD_mem (i := 628) (by decide +kernel) rfl
theorem weX4_readNumber : Cond.selects (yX4_readNumber).cls yX4_readNumber yX4_readNumber ∈ WD := WD_mem (i := 11) (by decide +kernel) rfl
theorem ykX0_addHut : yok yX0_addHut 3 := by unfold yok; decide +kernel
theorem wcX0_addHut : Cond.code yX0_addHut cX0_addHut 5 none ∈ WD := WD_mem (i := 633) rfl rfl
theorem wiX0_addHut : Cond.initialized (yX0_addHut).cls ∈ WD := WD_mem (i := 125) (by decide +kernel) rfl
theorem wnX0_addHut : Cond.instanceMethod yX0_addHut ∈ WD := WD_mem (i := 631) (by decide +kernel) rfl
theorem weX0_addHut : Cond.selects (yX0_addHut).cls yX0_addHut yX0_addHut ∈ WD := WD_mem (i := 632) (by decide +kernel) rfl
theorem ykX0_hutNamed : yok yX0_hutNamed 1 := by unfold yok; decide +kernel
theorem wcX0_hutNamed : Cond.code yX0_hutNamed cX0_hutNamed 4 (some .int) ∈ WD := WD_mem (i := 610) rfl rfl
theorem wiX0_hutNamed : Cond.initialized (yX0_hutNamed).cls ∈ WD := WD_mem (i := 125) (by decide +kernel) rfl
theorem wnX0_hutNamed : Cond.instanceMethod yX0_hutNamed ∈ WD := WD_mem (i := 608) (by decide +kernel) rfl
theorem weX0_hutNamed : Cond.selects (yX0_hutNamed).cls yX0_hutNamed yX0_hutNamed ∈ WD := WD_mem (i := 609) (by decide +kernel) rfl
theorem ykX4_readToldName : yok yX4_readToldName 1 := by unfold yok; decide +kernel
theorem wcX4_readToldName : Cond.code yX4_readToldName cX4_readToldName 3 (some .int) ∈ WD := WD_mem (i := 641) rfl rfl
theorem wiX4_readToldName : Cond.initialized (yX4_readToldName).cls ∈ WD := WD_mem (i := 121) (by decide +kernel) rfl
theorem wnX4_readToldName : Cond.instanceMethod yX4_readToldName ∈ WD := WD_mem (i := 640) (by decide +kernel) rfl
theorem weX4_readToldName : Cond.selects (yX4_readToldName).cls yX4_readToldName yX4_readToldName ∈ WD := WD_mem (i := 13) (by decide +kernel) rfl
theorem ykX4_readOtherName : yok yX4_readOtherName 3 := by unfold yok; decide +kernel
theorem wcX4_readOtherName : Cond.code yX4_readOtherName cX4_readOtherName 5 (some .int) ∈ WD := WD_mem (i := 649) rfl rfl
theorem wiX4_readOtherName : Cond.initialized (yX4_readOtherName).cls ∈ WD := WD_mem (i := 121) (by decide +kernel) rfl
theorem wnX4_readOtherName : Cond.instanceMethod yX4_readOtherName ∈ WD := WD_mem (i := 648) (by decide +kernel) rfl
theorem weX4_readOtherName : Cond.selects (yX4_readOtherName).cls yX4_readOtherName yX4_readOtherName ∈ WD := WD_mem (i := 15) (by decide +kernel) rfl
theorem ykX0_addPath : yok yX0_addPath 3 := by unfold yok; decide +kernel
theorem wcX0_addPath : Cond.code yX0_addPath cX0_addPath 4 none ∈ WD := WD_mem (i := 661) rfl rfl
theorem wiX0_addPath : Cond.initialized (yX0_addPath).cls ∈ WD := WD_mem (i := 125) (by decide +kernel) rfl
theorem wnX0_addPath : Cond.instanceMethod yX0_addPath ∈ WD := WD_mem (i := 659) (by decide +kernel) rfl
theorem weX0_addPath : Cond.selects (yX0_addPath).cls yX0_addPath yX0_addPath ∈ WD := WD_mem (i := 660) (by decide +kernel) rfl
theorem ykX4_tokenHut : yok yX4_tokenHut 1 := by unfold yok; decide +kernel
theorem wcX4_tokenHut : Cond.code yX4_tokenHut cX4_tokenHut 3 (some .int) ∈ WD := WD_mem (i := 645) rfl rfl
theorem wiX4_tokenHut : Cond.initialized (yX4_tokenHut).cls ∈ WD := WD_mem (i := 121) (by decide +kernel) rfl
theorem wnX4_tokenHut : Cond.instanceMethod yX4_tokenHut ∈ WD := WD_mem (i := 644) (by decide +kernel) rfl
theorem weX4_tokenHut : Cond.selects (yX4_tokenHut).cls yX4_tokenHut yX4_tokenHut ∈ WD := WD_mem (i := 14) (by decide +kernel) rfl
theorem ykX0_takesBetween : yok yX0_takesBetween 2 := by unfold yok; decide +kernel
theorem wcX0_takesBetween : Cond.code yX0_takesBetween cX0_takesBetween 3 (some .int) ∈ WD := WD_mem (i := 653) rfl rfl
theorem wiX0_takesBetween : Cond.initialized (yX0_takesBetween).cls ∈ WD := WD_mem (i := 125) (by decide +kernel) rfl
theorem wnX0_takesBetween : Cond.instanceMethod yX0_takesBetween ∈ WD := WD_mem (i := 651) (by decide +kernel) rfl
theorem weX0_takesBetween : Cond.selects (yX0_takesBetween).cls yX0_takesBetween yX0_takesBetween ∈ WD := WD_mem (i := 652) (by decide +kernel) rfl
theorem ykX4_readTests : yok yX4_readTests 2 := by unfold yok; decide +kernel
theorem wcX4_readTests : Cond.code yX4_readTests cX4_readTests 5 none ∈ WD := WD_mem (i := 669) rfl rfl
theorem wiX4_readTests : Cond.initialized (yX4_readTests).cls ∈ WD := WD_mem (i := 121) (by decide +kernel) rfl
theorem wnX4_readTests : Cond.instanceMethod yX4_readTests ∈ WD := WD_mem (i := 668) (by decide +kernel) rfl
theorem weX4_readTests : Cond.selects (yX4_readTests).cls yX4_readTests yX4_readTests ∈ WD := WD_mem (i := 17) (by decide +kernel) rfl
theorem ykX4_readTest : yok yX4_readTest 2 := by unfold yok; decide +kernel
theorem wcX4_readTest : Cond.code yX4_readTest cX4_readTest 4 none ∈ WD := WD_mem (i := 673) rfl rfl
theorem wiX4_readTest : Cond.initialized (yX4_readTest).cls ∈ WD := WD_mem (i := 121) (by decide +kernel) rfl
theorem wnX4_readTest : Cond.instanceMethod yX4_readTest ∈ WD := WD_mem (i := 672) (by decide +kernel) rfl
theorem weX4_readTest : Cond.selects (yX4_readTest).cls yX4_readTest yX4_readTest ∈ WD := WD_mem (i := 18) (by decide +kernel) rfl
theorem ykX1_add : yok yX1_add 1 := by unfold yok; decide +kernel
theorem wcX1_add : Cond.code yX1_add cX1_add 2 none ∈ WD := WD_mem (i := 696) rfl rfl
theorem wiX1_add : Cond.initialized (yX1_add).cls ∈ WD := WD_mem (i := 126) (by decide +kernel) rfl
theorem wnX1_add : Cond.instanceMethod yX1_add ∈ WD := WD_mem (i := 694) (by decide +kernel) rfl
theorem weX1_add : Cond.selects (yX1_add).cls yX1_add yX1_add ∈ WD := WD_mem (i := 695) (by decide +kernel) rfl
theorem ykX4_readSum : yok yX4_readSum 2 := by unfold yok; decide +kernel
theorem wcX4_readSum : Cond.code yX4_readSum cX4_readSum 5 none ∈ WD := WD_mem (i := 677) rfl rfl
theorem wiX4_readSum : Cond.initialized (yX4_readSum).cls ∈ WD := WD_mem (i := 121) (by decide +kernel) rfl
theorem wnX4_readSum : Cond.instanceMethod yX4_readSum ∈ WD := WD_mem (i := 676) (by decide +kernel) rfl
theorem weX4_readSum : Cond.selects (yX4_readSum).cls yX4_readSum yX4_readSum ∈ WD := WD_mem (i := 19) (by decide +kernel) rfl
theorem ykX4_readProduct : yok yX4_readProduct 2 := by unfold yok; decide +kernel
theorem wcX4_readProduct : Cond.code yX4_readProduct cX4_readProduct 4 none ∈ WD := WD_mem (i := 681) rfl rfl
theorem wiX4_readProduct : Cond.initialized (yX4_readProduct).cls ∈ WD := WD_mem (i := 121) (by decide +kernel) rfl
theorem wnX4_readProduct : Cond.instanceMethod yX4_readProduct ∈ WD := WD_mem (i := 680) (by decide +kernel) rfl
theorem weX4_readProduct : Cond.selects (yX4_readProduct).cls yX4_readProduct yX4_readProduct ∈ WD := WD_mem (i := 20) (by decide +kernel) rfl
theorem ykX4_readPart : yok yX4_readPart 2 := by unfold yok; decide +kernel
theorem wcX4_readPart : Cond.code yX4_readPart cX4_readPart 6 none ∈ WD := WD_mem (i := 685) rfl rfl
theorem wiX4_readPart : Cond.initialized (yX4_readPart).cls ∈ WD := WD_mem (i := 121) (by decide +kernel) rfl
theorem wnX4_readPart : Cond.instanceMethod yX4_readPart ∈ WD := WD_mem (i := 684) (by decide +kernel) rfl
theorem weX4_readPart : Cond.selects (yX4_readPart).cls yX4_readPart yX4_readPart ∈ WD := WD_mem (i := 21) (by decide +kernel) rfl
theorem ykX9_addLine : yok yX9_addLine 3 := by unfold yok; decide +kernel
theorem wcX9_addLine : Cond.code yX9_addLine cX9_addLine 4 none ∈ WD := WD_mem (i := 757) rfl rfl
theorem wiX9_addLine : Cond.initialized (yX9_addLine).cls ∈ WD := WD_mem (i := 127) (by decide +kernel) rfl
theorem wnX9_addLine : Cond.instanceMethod yX9_addLine ∈ WD := WD_mem (i := 755) (by decide +kernel) rfl
theorem weX9_addLine : Cond.selects (yX9_addLine).cls yX9_addLine yX9_addLine ∈ WD := WD_mem (i := 756) (by decide +kernel) rfl
theorem ykX1_reckon : yok yX1_reckon 4 := by unfold yok; decide +kernel
theorem wcX1_reckon : Cond.code yX1_reckon cX1_reckon 8 (some .int) ∈ WD := WD_mem (i := 812) rfl rfl
theorem wiX1_reckon : Cond.initialized (yX1_reckon).cls ∈ WD := WD_mem (i := 126) (by decide +kernel) rfl
theorem wnX1_reckon : Cond.instanceMethod yX1_reckon ∈ WD := WD_mem (i := 811) (by decide +kernel) rfl
theorem weX1_reckon : Cond.selects (yX1_reckon).cls yX1_reckon yX1_reckon ∈ WD := WD_mem (i := 25) (by decide +kernel) rfl
theorem ykX1_clear : yok yX1_clear 0 := by unfold yok; decide +kernel
theorem wcX1_clear : Cond.code yX1_clear cX1_clear 1 none ∈ WD := WD_mem (i := 552) rfl rfl
theorem wiX1_clear : Cond.initialized (yX1_clear).cls ∈ WD := WD_mem (i := 126) (by decide +kernel) rfl
theorem wnX1_clear : Cond.instanceMethod yX1_clear ∈ WD := WD_mem (i := 550) (by decide +kernel) rfl
theorem weX1_clear : Cond.selects (yX1_clear).cls yX1_clear yX1_clear ∈ WD := WD_mem (i := 551) (by decide +kernel) rfl
theorem ykX0_fillNone : yok yX0_fillNone 0 := by unfold yok; decide +kernel
theorem wcX0_fillNone : Cond.code yX0_fillNone cX0_fillNone 2 none ∈ WD := WD_mem (i := 326) rfl rfl
theorem wiX0_fillNone : Cond.initialized (yX0_fillNone).cls ∈ WD := WD_mem (i := 125) (by decide +kernel) rfl
theorem wnX0_fillNone : Cond.instanceMethod yX0_fillNone ∈ WD := WD_mem (i := 325) (by decide +kernel) rfl
theorem weX0_fillNone : Cond.selects (yX0_fillNone).cls yX0_fillNone yX0_fillNone ∈ WD := WD_mem (i := 2) (by decide +kernel) rfl
theorem ykX0_addWay : yok yX0_addWay 2 := by unfold yok; decide +kernel
theorem wcX0_addWay : Cond.code yX0_addWay cX0_addWay 4 none ∈ WD := WD_mem (i := 709) rfl rfl
theorem wiX0_addWay : Cond.initialized (yX0_addWay).cls ∈ WD := WD_mem (i := 125) (by decide +kernel) rfl
theorem wnX0_addWay : Cond.instanceMethod yX0_addWay ∈ WD := WD_mem (i := 708) (by decide +kernel) rfl
theorem weX0_addWay : Cond.selects (yX0_addWay).cls yX0_addWay yX0_addWay ∈ WD := WD_mem (i := 22) (by decide +kernel) rfl
theorem ykX0_shiftOf : yok yX0_shiftOf 1 := by unfold yok; decide +kernel
theorem wcX0_shiftOf : Cond.code yX0_shiftOf cX0_shiftOf 2 (some .int) ∈ WD := WD_mem (i := 716) rfl rfl
theorem wiX0_shiftOf : Cond.initialized (yX0_shiftOf).cls ∈ WD := WD_mem (i := 125) (by decide +kernel) rfl
theorem wnX0_shiftOf : Cond.instanceMethod yX0_shiftOf ∈ WD := WD_mem (i := 715) (by decide +kernel) rfl
theorem weX0_shiftOf : Cond.selects (yX0_shiftOf).cls yX0_shiftOf yX0_shiftOf ∈ WD := WD_mem (i := 23) (by decide +kernel) rfl
theorem ykX1_bars : yok yX1_bars 4 := by unfold yok; decide +kernel
theorem wcX1_bars : Cond.code yX1_bars cX1_bars 9 (some .boolean) ∈ WD := WD_mem (i := 808) rfl rfl
theorem wiX1_bars : Cond.initialized (yX1_bars).cls ∈ WD := WD_mem (i := 126) (by decide +kernel) rfl
theorem wnX1_bars : Cond.instanceMethod yX1_bars ∈ WD := WD_mem (i := 806) (by decide +kernel) rfl
theorem weX1_bars : Cond.selects (yX1_bars).cls yX1_bars yX1_bars ∈ WD := WD_mem (i := 807) (by decide +kernel) rfl
theorem ykX0_afterWay : yok yX0_afterWay 3 := by unfold yok; decide +kernel
theorem wcX0_afterWay : Cond.code yX0_afterWay cX0_afterWay 7 (some .int) ∈ WD := WD_mem (i := 804) rfl rfl
theorem wiX0_afterWay : Cond.initialized (yX0_afterWay).cls ∈ WD := WD_mem (i := 125) (by decide +kernel) rfl
theorem wnX0_afterWay : Cond.instanceMethod yX0_afterWay ∈ WD := WD_mem (i := 802) (by decide +kernel) rfl
theorem weX0_afterWay : Cond.selects (yX0_afterWay).cls yX0_afterWay yX0_afterWay ∈ WD := WD_mem (i := 803) (by decide +kernel) rfl
theorem ykX0_isWayToLie : yok yX0_isWayToLie 1 := by unfold yok; decide +kernel
theorem wcX0_isWayToLie : Cond.code yX0_isWayToLie cX0_isWayToLie 2 (some .boolean) ∈ WD := WD_mem (i := 960) rfl rfl
theorem wiX0_isWayToLie : Cond.initialized (yX0_isWayToLie).cls ∈ WD := WD_mem (i := 125) (by decide +kernel) rfl
theorem wnX0_isWayToLie : Cond.instanceMethod yX0_isWayToLie ∈ WD := WD_mem (i := 958) (by decide +kernel) rfl
theorem weX0_isWayToLie : Cond.selects (yX0_isWayToLie).cls yX0_isWayToLie yX0_isWayToLie ∈ WD := WD_mem (i := 959) (by decide +kernel) rfl
theorem ykX0_withNeighbours : yok yX0_withNeighbours 1 := by unfold yok; decide +kernel
theorem wcX0_withNeighbours : Cond.code yX0_withNeighbours cX0_withNeighbours 4 (some .int) ∈ WD := WD_mem (i := 1178) rfl rfl
theorem wiX0_withNeighbours : Cond.initialized (yX0_withNeighbours).cls ∈ WD := WD_mem (i := 125) (by decide +kernel) rfl
theorem wnX0_withNeighbours : Cond.instanceMethod yX0_withNeighbours ∈ WD := WD_mem (i := 1177) (by decide +kernel) rfl
theorem weX0_withNeighbours : Cond.selects (yX0_withNeighbours).cls yX0_withNeighbours yX0_withNeighbours ∈ WD := WD_mem (i := 46) (by decide +kernel) rfl
theorem ykX0_passProductOn : yok yX0_passProductOn 2 := by unfold yok; decide +kernel
theorem wcX0_passProductOn : Cond.code yX0_passProductOn cX0_passProductOn 5 none ∈ WD := WD_mem (i := 1204) rfl rfl
theorem wiX0_passProductOn : Cond.initialized (yX0_passProductOn).cls ∈ WD := WD_mem (i := 125) (by decide +kernel) rfl
theorem wnX0_passProductOn : Cond.instanceMethod yX0_passProductOn ∈ WD := WD_mem (i := 1203) (by decide +kernel) rfl
theorem weX0_passProductOn : Cond.selects (yX0_passProductOn).cls yX0_passProductOn yX0_passProductOn ∈ WD := WD_mem (i := 47) (by decide +kernel) rfl
theorem ykX9_afterLine : yok yX9_afterLine 3 := by unfold yok; decide +kernel
theorem wcX9_afterLine : Cond.code yX9_afterLine cX9_afterLine 4 (some .int) ∈ WD := WD_mem (i := 866) rfl rfl
theorem wiX9_afterLine : Cond.initialized (yX9_afterLine).cls ∈ WD := WD_mem (i := 127) (by decide +kernel) rfl
theorem wnX9_afterLine : Cond.instanceMethod yX9_afterLine ∈ WD := WD_mem (i := 865) (by decide +kernel) rfl
theorem weX9_afterLine : Cond.selects (yX9_afterLine).cls yX9_afterLine yX9_afterLine ∈ WD := WD_mem (i := 27) (by decide +kernel) rfl
theorem ykX2_numberOf : yok yX2_numberOf 2 := by unfold yok; decide +kernel
theorem wcX2_numberOf : Cond.code yX2_numberOf cX2_numberOf 6 (some .int) ∈ WD := WD_mem (i := 899) rfl rfl
theorem wiX2_numberOf : Cond.initialized (yX2_numberOf).cls ∈ WD := WD_mem (i := 123) (by decide +kernel) rfl
theorem wnX2_numberOf : Cond.instanceMethod yX2_numberOf ∈ WD := WD_mem (i := 897) (by decide +kernel) rfl
theorem weX2_numberOf : Cond.selects (yX2_numberOf).cls yX2_numberOf yX2_numberOf ∈ WD := WD_mem (i := 898) (by decide +kernel) rfl
theorem ykX2_endOf : yok yX2_endOf 2 := by unfold yok; decide +kernel
theorem wcX2_endOf : Cond.code yX2_endOf cX2_endOf 4 (some .int) ∈ WD := WD_mem (i := 925) rfl rfl
theorem wiX2_endOf : Cond.initialized (yX2_endOf).cls ∈ WD := WD_mem (i := 123) (by decide +kernel) rfl
theorem wnX2_endOf : Cond.instanceMethod yX2_endOf ∈ WD := WD_mem (i := 923) (by decide +kernel) rfl
theorem weX2_endOf : Cond.selects (yX2_endOf).cls yX2_endOf yX2_endOf ∈ WD := WD_mem (i := 924) (by decide +kernel) rfl
theorem ykX2_firstOf : yok yX2_firstOf 1 := by unfold yok; decide +kernel
theorem wcX2_firstOf : Cond.code yX2_firstOf cX2_firstOf 2 (some .int) ∈ WD := WD_mem (i := 921) rfl rfl
theorem wiX2_firstOf : Cond.initialized (yX2_firstOf).cls ∈ WD := WD_mem (i := 123) (by decide +kernel) rfl
theorem wnX2_firstOf : Cond.instanceMethod yX2_firstOf ∈ WD := WD_mem (i := 919) (by decide +kernel) rfl
theorem weX2_firstOf : Cond.selects (yX2_firstOf).cls yX2_firstOf yX2_firstOf ∈ WD := WD_mem (i := 920) (by decide +kernel) rfl
theorem ykX2_lyingAt : yok yX2_lyingAt 1 := by unfold yok; decide +kernel
theorem wcX2_lyingAt : Cond.code yX2_lyingAt cX2_lyingAt 2 (some .int) ∈ WD := WD_mem (i := 933) rfl rfl
theorem wiX2_lyingAt : Cond.initialized (yX2_lyingAt).cls ∈ WD := WD_mem (i := 123) (by decide +kernel) rfl
theorem wnX2_lyingAt : Cond.instanceMethod yX2_lyingAt ∈ WD := WD_mem (i := 931) (by decide +kernel) rfl
theorem weX2_lyingAt : Cond.selects (yX2_lyingAt).cls yX2_lyingAt yX2_lyingAt ∈ WD := WD_mem (i := 932) (by decide +kernel) rfl
theorem ykX3_reckonOne : yok yX3_reckonOne 2 := by unfold yok; decide +kernel
theorem wcX3_reckonOne : Cond.code yX3_reckonOne cX3_reckonOne 10 none ∈ WD := WD_mem (i := 964) rfl rfl
theorem wiX3_reckonOne : Cond.initialized (yX3_reckonOne).cls ∈ WD := WD_mem (i := 128) (by decide +kernel) rfl
theorem wnX3_reckonOne : Cond.instanceMethod yX3_reckonOne ∈ WD := WD_mem (i := 963) (by decide +kernel) rfl
theorem weX3_reckonOne : Cond.selects (yX3_reckonOne).cls yX3_reckonOne yX3_reckonOne ∈ WD := WD_mem (i := 35) (by decide +kernel) rfl
theorem ykX2_numberBehind : yok yX2_numberBehind 4 := by unfold yok; decide +kernel
theorem wcX2_numberBehind : Cond.code yX2_numberBehind cX2_numberBehind 6 (some .int) ∈ WD := WD_mem (i := 937) rfl rfl
theorem wiX2_numberBehind : Cond.initialized (yX2_numberBehind).cls ∈ WD := WD_mem (i := 123) (by decide +kernel) rfl
theorem wnX2_numberBehind : Cond.instanceMethod yX2_numberBehind ∈ WD := WD_mem (i := 935) (by decide +kernel) rfl
theorem weX2_numberBehind : Cond.selects (yX2_numberBehind).cls yX2_numberBehind yX2_numberBehind ∈ WD := WD_mem (i := 936) (by decide +kernel) rfl
theorem ykX3_pullAt : yok yX3_pullAt 1 := by unfold yok; decide +kernel
theorem wcX3_pullAt : Cond.code yX3_pullAt cX3_pullAt 2 (some .int) ∈ WD := WD_mem (i := 969) rfl rfl
theorem wiX3_pullAt : Cond.initialized (yX3_pullAt).cls ∈ WD := WD_mem (i := 128) (by decide +kernel) rfl
theorem wnX3_pullAt : Cond.instanceMethod yX3_pullAt ∈ WD := WD_mem (i := 968) (by decide +kernel) rfl
theorem weX3_pullAt : Cond.selects (yX3_pullAt).cls yX3_pullAt yX3_pullAt ∈ WD := WD_mem (i := 36) (by decide +kernel) rfl
theorem ykX3_comingsAt : yok yX3_comingsAt 1 := by unfold yok; decide +kernel
theorem wcX3_comingsAt : Cond.code yX3_comingsAt cX3_comingsAt 2 (some .long) ∈ WD := WD_mem (i := 973) rfl rfl
theorem wiX3_comingsAt : Cond.initialized (yX3_comingsAt).cls ∈ WD := WD_mem (i := 128) (by decide +kernel) rfl
theorem wnX3_comingsAt : Cond.instanceMethod yX3_comingsAt ∈ WD := WD_mem (i := 972) (by decide +kernel) rfl
theorem weX3_comingsAt : Cond.selects (yX3_comingsAt).cls yX3_comingsAt yX3_comingsAt ∈ WD := WD_mem (i := 37) (by decide +kernel) rfl
theorem ykX3_comingsOf : yok yX3_comingsOf 1 := by unfold yok; decide +kernel
theorem wcX3_comingsOf : Cond.code yX3_comingsOf cX3_comingsOf 2 (some .long) ∈ WD := WD_mem (i := 985) rfl rfl
theorem wiX3_comingsOf : Cond.initialized (yX3_comingsOf).cls ∈ WD := WD_mem (i := 128) (by decide +kernel) rfl
theorem wnX3_comingsOf : Cond.instanceMethod yX3_comingsOf ∈ WD := WD_mem (i := 984) (by decide +kernel) rfl
theorem weX3_comingsOf : Cond.selects (yX3_comingsOf).cls yX3_comingsOf yX3_comingsOf ∈ WD := WD_mem (i := 38) (by decide +kernel) rfl
theorem ykX3_hutsOf : yok yX3_hutsOf 1 := by unfold yok; decide +kernel
theorem wcX3_hutsOf : Cond.code yX3_hutsOf cX3_hutsOf 5 (some .int) ∈ WD := WD_mem (i := 1125) rfl rfl
theorem wiX3_hutsOf : Cond.initialized (yX3_hutsOf).cls ∈ WD := WD_mem (i := 128) (by decide +kernel) rfl
theorem wnX3_hutsOf : Cond.instanceMethod yX3_hutsOf ∈ WD := WD_mem (i := 1124) (by decide +kernel) rfl
theorem weX3_hutsOf : Cond.selects (yX3_hutsOf).cls yX3_hutsOf yX3_hutsOf ∈ WD := WD_mem (i := 44) (by decide +kernel) rfl
theorem ykX3_firstWayTowards : yok yX3_firstWayTowards 3 := by unfold yok; decide +kernel
theorem wcX3_firstWayTowards : Cond.code yX3_firstWayTowards cX3_firstWayTowards 7 (some .int) ∈ WD := WD_mem (i := 1004) rfl rfl
theorem wiX3_firstWayTowards : Cond.initialized (yX3_firstWayTowards).cls ∈ WD := WD_mem (i := 128) (by decide +kernel) rfl
theorem wnX3_firstWayTowards : Cond.instanceMethod yX3_firstWayTowards ∈ WD := WD_mem (i := 1003) (by decide +kernel) rfl
theorem weX3_firstWayTowards : Cond.selects (yX3_firstWayTowards).cls yX3_firstWayTowards yX3_firstWayTowards ∈ WD := WD_mem (i := 39) (by decide +kernel) rfl
theorem ykX10_numberAt : yok yX10_numberAt 1 := by unfold yok; decide +kernel
theorem wcX10_numberAt : Cond.code yX10_numberAt cX10_numberAt 2 (some .int) ∈ WD := WD_mem (i := 890) rfl rfl
theorem wiX10_numberAt : Cond.initialized (yX10_numberAt).cls ∈ WD := WD_mem (i := 129) (by decide +kernel) rfl
theorem wnX10_numberAt : Cond.instanceMethod yX10_numberAt ∈ WD := WD_mem (i := 889) (by decide +kernel) rfl
theorem weX10_numberAt : Cond.selects (yX10_numberAt).cls yX10_numberAt yX10_numberAt ∈ WD := WD_mem (i := 28) (by decide +kernel) rfl
theorem ykX10_setInfo : yok yX10_setInfo 2 := by unfold yok; decide +kernel
theorem wcX10_setInfo : Cond.code yX10_setInfo cX10_setInfo 3 none ∈ WD := WD_mem (i := 894) rfl rfl
theorem wiX10_setInfo : Cond.initialized (yX10_setInfo).cls ∈ WD := WD_mem (i := 129) (by decide +kernel) rfl
theorem wnX10_setInfo : Cond.instanceMethod yX10_setInfo ∈ WD := WD_mem (i := 893) (by decide +kernel) rfl
theorem weX10_setInfo : Cond.selects (yX10_setInfo).cls yX10_setInfo yX10_setInfo ∈ WD := WD_mem (i := 29) (by decide +kernel) rfl
theorem ykX10_merge : yok yX10_merge 3 := by unfold yok; decide +kernel
theorem wcX10_merge : Cond.code yX10_merge cX10_merge 6 none ∈ WD := WD_mem (i := 903) rfl rfl
theorem wiX10_merge : Cond.initialized (yX10_merge).cls ∈ WD := WD_mem (i := 129) (by decide +kernel) rfl
theorem wnX10_merge : Cond.instanceMethod yX10_merge ∈ WD := WD_mem (i := 902) (by decide +kernel) rfl
theorem weX10_merge : Cond.selects (yX10_merge).cls yX10_merge yX10_merge ∈ WD := WD_mem (i := 30) (by decide +kernel) rfl
theorem ykX10_infoOf : yok yX10_infoOf 1 := by unfold yok; decide +kernel
theorem wcX10_infoOf : Cond.code yX10_infoOf cX10_infoOf 2 (some .int) ∈ WD := WD_mem (i := 907) rfl rfl
theorem wiX10_infoOf : Cond.initialized (yX10_infoOf).cls ∈ WD := WD_mem (i := 129) (by decide +kernel) rfl
theorem wnX10_infoOf : Cond.instanceMethod yX10_infoOf ∈ WD := WD_mem (i := 906) (by decide +kernel) rfl
theorem weX10_infoOf : Cond.selects (yX10_infoOf).cls yX10_infoOf yX10_infoOf ∈ WD := WD_mem (i := 31) (by decide +kernel) rfl
theorem ykX10_spread : yok yX10_spread 2 := by unfold yok; decide +kernel
theorem wcX10_spread : Cond.code yX10_spread cX10_spread 8 none ∈ WD := WD_mem (i := 929) rfl rfl
theorem wiX10_spread : Cond.initialized (yX10_spread).cls ∈ WD := WD_mem (i := 129) (by decide +kernel) rfl
theorem wnX10_spread : Cond.instanceMethod yX10_spread ∈ WD := WD_mem (i := 928) (by decide +kernel) rfl
theorem weX10_spread : Cond.selects (yX10_spread).cls yX10_spread yX10_spread ∈ WD := WD_mem (i := 34) (by decide +kernel) rfl
theorem ykX10_fewestOf : yok yX10_fewestOf 1 := by unfold yok; decide +kernel
theorem wcX10_fewestOf : Cond.code yX10_fewestOf cX10_fewestOf 2 (some .int) ∈ WD := WD_mem (i := 911) rfl rfl
theorem wiX10_fewestOf : Cond.initialized (yX10_fewestOf).cls ∈ WD := WD_mem (i := 129) (by decide +kernel) rfl
theorem wnX10_fewestOf : Cond.instanceMethod yX10_fewestOf ∈ WD := WD_mem (i := 910) (by decide +kernel) rfl
theorem weX10_fewestOf : Cond.selects (yX10_fewestOf).cls yX10_fewestOf yX10_fewestOf ∈ WD := WD_mem (i := 32) (by decide +kernel) rfl
theorem ykX10_longestOf : yok yX10_longestOf 1 := by unfold yok; decide +kernel
theorem wcX10_longestOf : Cond.code yX10_longestOf cX10_longestOf 2 (some .int) ∈ WD := WD_mem (i := 916) rfl rfl
theorem wiX10_longestOf : Cond.initialized (yX10_longestOf).cls ∈ WD := WD_mem (i := 129) (by decide +kernel) rfl
theorem wnX10_longestOf : Cond.instanceMethod yX10_longestOf ∈ WD := WD_mem (i := 915) (by decide +kernel) rfl
theorem weX10_longestOf : Cond.selects (yX10_longestOf).cls yX10_longestOf yX10_longestOf ∈ WD := WD_mem (i := 33) (by decide +kernel) rfl
theorem ykX10_setTally : yok yX10_setTally 2 := by unfold yok; decide +kernel
theorem wcX10_setTally : Cond.code yX10_setTally cX10_setTally 3 none ∈ WD := WD_mem (i := 1025) rfl rfl
theorem wiX10_setTally : Cond.initialized (yX10_setTally).cls ∈ WD := WD_mem (i := 129) (by decide +kernel) rfl
theorem wnX10_setTally : Cond.instanceMethod yX10_setTally ∈ WD := WD_mem (i := 1024) (by decide +kernel) rfl
theorem weX10_setTally : Cond.selects (yX10_setTally).cls yX10_setTally yX10_setTally ∈ WD := WD_mem (i := 41) (by decide +kernel) rfl
theorem ykX10_clearTally : yok yX10_clearTally 0 := by unfold yok; decide +kernel
theorem wcX10_clearTally : Cond.code yX10_clearTally cX10_clearTally 2 none ∈ WD := WD_mem (i := 1021) rfl rfl
theorem wiX10_clearTally : Cond.initialized (yX10_clearTally).cls ∈ WD := WD_mem (i := 129) (by decide +kernel) rfl
theorem wnX10_clearTally : Cond.instanceMethod yX10_clearTally ∈ WD := WD_mem (i := 1020) (by decide +kernel) rfl
theorem weX10_clearTally : Cond.selects (yX10_clearTally).cls yX10_clearTally yX10_clearTally ∈ WD := WD_mem (i := 40) (by decide +kernel) rfl
theorem ykX10_passRowsOn : yok yX10_passRowsOn 1 := by unfold yok; decide +kernel
theorem wcX10_passRowsOn : Cond.code yX10_passRowsOn cX10_passRowsOn 6 none ∈ WD := WD_mem (i := 1029) rfl rfl
theorem wiX10_passRowsOn : Cond.initialized (yX10_passRowsOn).cls ∈ WD := WD_mem (i := 129) (by decide +kernel) rfl
theorem wnX10_passRowsOn : Cond.instanceMethod yX10_passRowsOn ∈ WD := WD_mem (i := 1028) (by decide +kernel) rfl
theorem weX10_passRowsOn : Cond.selects (yX10_passRowsOn).cls yX10_passRowsOn yX10_passRowsOn ∈ WD := WD_mem (i := 42) (by decide +kernel) rfl
theorem ykX10_tallyOf : yok yX10_tallyOf 1 := by unfold yok; decide +kernel
theorem wcX10_tallyOf : Cond.code yX10_tallyOf cX10_tallyOf 2 (some .int) ∈ WD := WD_mem (i := 1033) rfl rfl
theorem wiX10_tallyOf : Cond.initialized (yX10_tallyOf).cls ∈ WD := WD_mem (i := 129) (by decide +kernel) rfl
theorem wnX10_tallyOf : Cond.instanceMethod yX10_tallyOf ∈ WD := WD_mem (i := 1032) (by decide +kernel) rfl
theorem weX10_tallyOf : Cond.selects (yX10_tallyOf).cls yX10_tallyOf yX10_tallyOf ∈ WD := WD_mem (i := 43) (by decide +kernel) rfl
theorem ykX10_drawFrom : yok yX10_drawFrom 1 := by unfold yok; decide +kernel
theorem wcX10_drawFrom : Cond.code yX10_drawFrom cX10_drawFrom 8 none ∈ WD := WD_mem (i := 1330) rfl rfl
theorem wiX10_drawFrom : Cond.initialized (yX10_drawFrom).cls ∈ WD := WD_mem (i := 129) (by decide +kernel) rfl
theorem wnX10_drawFrom : Cond.instanceMethod yX10_drawFrom ∈ WD := WD_mem (i := 1329) (by decide +kernel) rfl
theorem weX10_drawFrom : Cond.selects (yX10_drawFrom).cls yX10_drawFrom yX10_drawFrom ∈ WD := WD_mem (i := 50) (by decide +kernel) rfl
theorem ykX3_hutsFromNumber : yok yX3_hutsFromNumber 1 := by unfold yok; decide +kernel
theorem wcX3_hutsFromNumber : Cond.code yX3_hutsFromNumber cX3_hutsFromNumber 2 (some .int) ∈ WD := WD_mem (i := 1156) rfl rfl
theorem wiX3_hutsFromNumber : Cond.initialized (yX3_hutsFromNumber).cls ∈ WD := WD_mem (i := 128) (by decide +kernel) rfl
theorem wnX3_hutsFromNumber : Cond.instanceMethod yX3_hutsFromNumber ∈ WD := WD_mem (i := 1154) (by decide +kernel) rfl
theorem weX3_hutsFromNumber : Cond.selects (yX3_hutsFromNumber).cls yX3_hutsFromNumber yX3_hutsFromNumber ∈ WD := WD_mem (i := 1155) (by decide +kernel) rfl
theorem ykX6_firstFailing : yok yX6_firstFailing 2 := by unfold yok; decide +kernel
theorem wcX6_firstFailing : Cond.code yX6_firstFailing cX6_firstFailing 6 (some .int) ∈ WD := WD_mem (i := 1244) rfl rfl
theorem wiX6_firstFailing : Cond.initialized (yX6_firstFailing).cls ∈ WD := WD_mem (i := 130) (by decide +kernel) rfl
theorem wnX6_firstFailing : Cond.instanceMethod yX6_firstFailing ∈ WD := WD_mem (i := 1243) (by decide +kernel) rfl
theorem weX6_firstFailing : Cond.selects (yX6_firstFailing).cls yX6_firstFailing yX6_firstFailing ∈ WD := WD_mem (i := 48) (by decide +kernel) rfl
theorem ykX6_isWithin : yok yX6_isWithin 2 := by unfold yok; decide +kernel
theorem wcX6_isWithin : Cond.code yX6_isWithin cX6_isWithin 4 (some .boolean) ∈ WD := WD_mem (i := 1151) rfl rfl
theorem wiX6_isWithin : Cond.initialized (yX6_isWithin).cls ∈ WD := WD_mem (i := 130) (by decide +kernel) rfl
theorem wnX6_isWithin : Cond.instanceMethod yX6_isWithin ∈ WD := WD_mem (i := 1150) (by decide +kernel) rfl
theorem weX6_isWithin : Cond.selects (yX6_isWithin).cls yX6_isWithin yX6_isWithin ∈ WD := WD_mem (i := 45) (by decide +kernel) rfl
theorem ykX5_agrees : yok yX5_agrees 2 := by unfold yok; decide +kernel
theorem wcX5_agrees : Cond.code yX5_agrees cX5_agrees 5 (some .boolean) ∈ WD := WD_mem (i := 1302) rfl rfl
theorem wiX5_agrees : Cond.initialized (yX5_agrees).cls ∈ WD := WD_mem (i := 124) (by decide +kernel) rfl
theorem wnX5_agrees : Cond.instanceMethod yX5_agrees ∈ WD := WD_mem (i := 1300) (by decide +kernel) rfl
theorem weX5_agrees : Cond.selects (yX5_agrees).cls yX5_agrees yX5_agrees ∈ WD := WD_mem (i := 1301) (by decide +kernel) rfl
theorem ykX6_tallyFitting : yok yX6_tallyFitting 1 := by unfold yok; decide +kernel
theorem wcX6_tallyFitting : Cond.code yX6_tallyFitting cX6_tallyFitting 7 none ∈ WD := WD_mem (i := 1315) rfl rfl
theorem wiX6_tallyFitting : Cond.initialized (yX6_tallyFitting).cls ∈ WD := WD_mem (i := 130) (by decide +kernel) rfl
theorem wnX6_tallyFitting : Cond.instanceMethod yX6_tallyFitting ∈ WD := WD_mem (i := 1314) (by decide +kernel) rfl
theorem weX6_tallyFitting : Cond.selects (yX6_tallyFitting).cls yX6_tallyFitting yX6_tallyFitting ∈ WD := WD_mem (i := 49) (by decide +kernel) rfl
theorem ykX12_lay : yok yX12_lay 1 := by unfold yok; decide +kernel
theorem wcX12_lay : Cond.code yX12_lay cX12_lay 5 none ∈ WD := WD_mem (i := 1461) rfl rfl
theorem wiX12_lay : Cond.initialized (yX12_lay).cls ∈ WD := WD_mem (i := 131) (by decide +kernel) rfl
theorem wnX12_lay : Cond.instanceMethod yX12_lay ∈ WD := WD_mem (i := 1459) (by decide +kernel) rfl
theorem weX12_lay : Cond.selects (yX12_lay).cls yX12_lay yX12_lay ∈ WD := WD_mem (i := 52) (by decide +kernel) rfl
theorem ykX12_laysNow : yok yX12_laysNow 0 := by unfold yok; decide +kernel
theorem wcX12_laysNow : Cond.code yX12_laysNow cX12_laysNow 2 none ∈ WD := WD_mem (i := 1721) rfl rfl
theorem wiX12_laysNow : Cond.initialized (yX12_laysNow).cls ∈ WD := WD_mem (i := 131) (by decide +kernel) rfl
theorem wnX12_laysNow : Cond.instanceMethod yX12_laysNow ∈ WD := WD_mem (i := 1720) (by decide +kernel) rfl
theorem weX12_laysNow : Cond.selects (yX12_laysNow).cls yX12_laysNow yX12_laysNow ∈ WD := WD_mem (i := 83) (by decide +kernel) rfl
theorem ykX12_isHut : yok yX12_isHut 1 := by unfold yok; decide +kernel
theorem wcX12_isHut : Cond.code yX12_isHut cX12_isHut 2 (some .boolean) ∈ WD := WD_mem (i := 1714) rfl rfl
theorem wiX12_isHut : Cond.initialized (yX12_isHut).cls ∈ WD := WD_mem (i := 131) (by decide +kernel) rfl
theorem wnX12_isHut : Cond.instanceMethod yX12_isHut ∈ WD := WD_mem (i := 1713) (by decide +kernel) rfl
theorem weX12_isHut : Cond.selects (yX12_isHut).cls yX12_isHut yX12_isHut ∈ WD := WD_mem (i := 82) (by decide +kernel) rfl
theorem ykX12_isFull : yok yX12_isFull 1 := by unfold yok; decide +kernel
theorem wcX12_isFull : Cond.code yX12_isFull cX12_isFull 2 (some .boolean) ∈ WD := WD_mem (i := 1729) rfl rfl
theorem wiX12_isFull : Cond.initialized (yX12_isFull).cls ∈ WD := WD_mem (i := 131) (by decide +kernel) rfl
theorem wnX12_isFull : Cond.instanceMethod yX12_isFull ∈ WD := WD_mem (i := 1728) (by decide +kernel) rfl
theorem weX12_isFull : Cond.selects (yX12_isFull).cls yX12_isFull yX12_isFull ∈ WD := WD_mem (i := 85) (by decide +kernel) rfl
theorem ykX12_allLoads : yok yX12_allLoads 0 := by unfold yok; decide +kernel
theorem wcX12_allLoads : Cond.code yX12_allLoads cX12_allLoads 3 (some .int) ∈ WD := WD_mem (i := 1749) rfl rfl
theorem wiX12_allLoads : Cond.initialized (yX12_allLoads).cls ∈ WD := WD_mem (i := 131) (by decide +kernel) rfl
theorem wnX12_allLoads : Cond.instanceMethod yX12_allLoads ∈ WD := WD_mem (i := 1748) (by decide +kernel) rfl
theorem weX12_allLoads : Cond.selects (yX12_allLoads).cls yX12_allLoads yX12_allLoads ∈ WD := WD_mem (i := 88) (by decide +kernel) rfl
theorem ykX12_keeps : yok yX12_keeps 0 := by unfold yok; decide +kernel
theorem wcX12_keeps : Cond.code yX12_keeps cX12_keeps 2 none ∈ WD := WD_mem (i := 1764) rfl rfl
theorem wiX12_keeps : Cond.initialized (yX12_keeps).cls ∈ WD := WD_mem (i := 131) (by decide +kernel) rfl
theorem wnX12_keeps : Cond.instanceMethod yX12_keeps ∈ WD := WD_mem (i := 1763) (by decide +kernel) rfl
theorem weX12_keeps : Cond.selects (yX12_keeps).cls yX12_keeps yX12_keeps ∈ WD := WD_mem (i := 90) (by decide +kernel) rfl
theorem ykX12_isSign : yok yX12_isSign 1 := by unfold yok; decide +kernel
theorem wcX12_isSign : Cond.code yX12_isSign cX12_isSign 2 (some .boolean) ∈ WD := WD_mem (i := 1690) rfl rfl
theorem wiX12_isSign : Cond.initialized (yX12_isSign).cls ∈ WD := WD_mem (i := 131) (by decide +kernel) rfl
theorem wnX12_isSign : Cond.instanceMethod yX12_isSign ∈ WD := WD_mem (i := 1689) (by decide +kernel) rfl
theorem weX12_isSign : Cond.selects (yX12_isSign).cls yX12_isSign yX12_isSign ∈ WD := WD_mem (i := 78) (by decide +kernel) rfl
theorem ykX12_wrong : yok yX12_wrong 1 := by unfold yok; decide +kernel
theorem wcX12_wrong : Cond.code yX12_wrong cX12_wrong 2 none ∈ WD := WD_mem (i := 1622) rfl rfl
theorem wiX12_wrong : Cond.initialized (yX12_wrong).cls ∈ WD := WD_mem (i := 131) (by decide +kernel) rfl
theorem wnX12_wrong : Cond.instanceMethod yX12_wrong ∈ WD := WD_mem (i := 1621) (by decide +kernel) rfl
theorem weX12_wrong : Cond.selects (yX12_wrong).cls yX12_wrong yX12_wrong ∈ WD := WD_mem (i := 61) (by decide +kernel) rfl
theorem ykX12_isWord : yok yX12_isWord 1 := by unfold yok; decide +kernel
theorem wcX12_isWord : Cond.code yX12_isWord cX12_isWord 2 (some .boolean) ∈ WD := WD_mem (i := 1614) rfl rfl
theorem wiX12_isWord : Cond.initialized (yX12_isWord).cls ∈ WD := WD_mem (i := 131) (by decide +kernel) rfl
theorem wnX12_isWord : Cond.instanceMethod yX12_isWord ∈ WD := WD_mem (i := 1613) (by decide +kernel) rfl
theorem weX12_isWord : Cond.selects (yX12_isWord).cls yX12_isWord yX12_isWord ∈ WD := WD_mem (i := 59) (by decide +kernel) rfl
theorem ykX12_hasWord : yok yX12_hasWord 1 := by unfold yok; decide +kernel
theorem wcX12_hasWord : Cond.code yX12_hasWord cX12_hasWord 3 (some .boolean) ∈ WD := WD_mem (i := 1650) rfl rfl
theorem wiX12_hasWord : Cond.initialized (yX12_hasWord).cls ∈ WD := WD_mem (i := 131) (by decide +kernel) rfl
theorem wnX12_hasWord : Cond.instanceMethod yX12_hasWord ∈ WD := WD_mem (i := 1649) (by decide +kernel) rfl
theorem weX12_hasWord : Cond.selects (yX12_hasWord).cls yX12_hasWord yX12_hasWord ∈ WD := WD_mem (i := 68) (by decide +kernel) rfl
theorem ykX12_takeWord : yok yX12_takeWord 1 := by unfold yok; decide +kernel
theorem wcX12_takeWord : Cond.code yX12_takeWord cX12_takeWord 2 none ∈ WD := WD_mem (i := 1646) rfl rfl
theorem wiX12_takeWord : Cond.initialized (yX12_takeWord).cls ∈ WD := WD_mem (i := 131) (by decide +kernel) rfl
theorem wnX12_takeWord : Cond.instanceMethod yX12_takeWord ∈ WD := WD_mem (i := 1645) (by decide +kernel) rfl
theorem weX12_takeWord : Cond.selects (yX12_takeWord).cls yX12_takeWord yX12_takeWord ∈ WD := WD_mem (i := 67) (by decide +kernel) rfl
theorem ykX12_takeNumber : yok yX12_takeNumber 2 := by unfold yok; decide +kernel
theorem wcX12_takeNumber : Cond.code yX12_takeNumber cX12_takeNumber 3 (some .int) ∈ WD := WD_mem (i := 1654) rfl rfl
theorem wiX12_takeNumber : Cond.initialized (yX12_takeNumber).cls ∈ WD := WD_mem (i := 131) (by decide +kernel) rfl
theorem wnX12_takeNumber : Cond.instanceMethod yX12_takeNumber ∈ WD := WD_mem (i := 1653) (by decide +kernel) rfl
theorem weX12_takeNumber : Cond.selects (yX12_takeNumber).cls yX12_takeNumber yX12_takeNumber ∈ WD := WD_mem (i := 69) (by decide +kernel) rfl
theorem ykX12_wordHere : yok yX12_wordHere 2 := by unfold yok; decide +kernel
theorem wcX12_wordHere : Cond.code yX12_wordHere cX12_wordHere 5 (some .int) ∈ WD := WD_mem (i := 1630) rfl rfl
theorem wiX12_wordHere : Cond.initialized (yX12_wordHere).cls ∈ WD := WD_mem (i := 131) (by decide +kernel) rfl
theorem wnX12_wordHere : Cond.instanceMethod yX12_wordHere ∈ WD := WD_mem (i := 1629) (by decide +kernel) rfl
theorem weX12_wordHere : Cond.selects (yX12_wordHere).cls yX12_wordHere yX12_wordHere ∈ WD := WD_mem (i := 63) (by decide +kernel) rfl
theorem ykX12_isName : yok yX12_isName 0 := by unfold yok; decide +kernel
theorem wcX12_isName : Cond.code yX12_isName cX12_isName 1 (some .boolean) ∈ WD := WD_mem (i := 1626) rfl rfl
theorem wiX12_isName : Cond.initialized (yX12_isName).cls ∈ WD := WD_mem (i := 131) (by decide +kernel) rfl
theorem wnX12_isName : Cond.instanceMethod yX12_isName ∈ WD := WD_mem (i := 1625) (by decide +kernel) rfl
theorem weX12_isName : Cond.selects (yX12_isName).cls yX12_isName yX12_isName ∈ WD := WD_mem (i := 62) (by decide +kernel) rfl
theorem ykX12_nameAt : yok yX12_nameAt 2 := by unfold yok; decide +kernel
theorem wcX12_nameAt : Cond.code yX12_nameAt cX12_nameAt 5 (some .int) ∈ WD := WD_mem (i := 1634) rfl rfl
theorem wiX12_nameAt : Cond.initialized (yX12_nameAt).cls ∈ WD := WD_mem (i := 131) (by decide +kernel) rfl
theorem wnX12_nameAt : Cond.instanceMethod yX12_nameAt ∈ WD := WD_mem (i := 1633) (by decide +kernel) rfl
theorem weX12_nameAt : Cond.selects (yX12_nameAt).cls yX12_nameAt yX12_nameAt ∈ WD := WD_mem (i := 64) (by decide +kernel) rfl
theorem ykX12_cutAll : yok yX12_cutAll 0 := by unfold yok; decide +kernel
theorem wcX12_cutAll : Cond.code yX12_cutAll cX12_cutAll 7 none ∈ WD := WD_mem (i := 1595) rfl rfl
theorem wiX12_cutAll : Cond.initialized (yX12_cutAll).cls ∈ WD := WD_mem (i := 131) (by decide +kernel) rfl
theorem wnX12_cutAll : Cond.instanceMethod yX12_cutAll ∈ WD := WD_mem (i := 1594) (by decide +kernel) rfl
theorem weX12_cutAll : Cond.selects (yX12_cutAll).cls yX12_cutAll yX12_cutAll ∈ WD := WD_mem (i := 58) (by decide +kernel) rfl
theorem ykX12_standsAsAlways : yok yX12_standsAsAlways 1 := by unfold yok; decide +kernel
theorem wcX12_standsAsAlways : Cond.code yX12_standsAsAlways cX12_standsAsAlways 3 none ∈ WD := WD_mem (i := 1489) rfl rfl
theorem wiX12_standsAsAlways : Cond.initialized (yX12_standsAsAlways).cls ∈ WD := WD_mem (i := 131) (by decide +kernel) rfl
theorem wnX12_standsAsAlways : Cond.instanceMethod yX12_standsAsAlways ∈ WD := WD_mem (i := 1488) (by decide +kernel) rfl
theorem weX12_standsAsAlways : Cond.selects (yX12_standsAsAlways).cls yX12_standsAsAlways yX12_standsAsAlways ∈ WD := WD_mem (i := 53) (by decide +kernel) rfl
theorem ykX12_readHut : yok yX12_readHut 0 := by unfold yok; decide +kernel
theorem wcX12_readHut : Cond.code yX12_readHut cX12_readHut 5 none ∈ WD := WD_mem (i := 1618) rfl rfl
theorem wiX12_readHut : Cond.initialized (yX12_readHut).cls ∈ WD := WD_mem (i := 131) (by decide +kernel) rfl
theorem wnX12_readHut : Cond.instanceMethod yX12_readHut ∈ WD := WD_mem (i := 1617) (by decide +kernel) rfl
theorem weX12_readHut : Cond.selects (yX12_readHut).cls yX12_readHut yX12_readHut ∈ WD := WD_mem (i := 60) (by decide +kernel) rfl
theorem ykX12_readPath : yok yX12_readPath 0 := by unfold yok; decide +kernel
theorem wcX12_readPath : Cond.code yX12_readPath cX12_readPath 6 none ∈ WD := WD_mem (i := 1658) rfl rfl
theorem wiX12_readPath : Cond.initialized (yX12_readPath).cls ∈ WD := WD_mem (i := 131) (by decide +kernel) rfl
theorem wnX12_readPath : Cond.instanceMethod yX12_readPath ∈ WD := WD_mem (i := 1657) (by decide +kernel) rfl
theorem weX12_readPath : Cond.selects (yX12_readPath).cls yX12_readPath yX12_readPath ∈ WD := WD_mem (i := 70) (by decide +kernel) rfl
theorem ykX12_readBars : yok yX12_readBars 0 := by unfold yok; decide +kernel
theorem wcX12_readBars : Cond.code yX12_readBars cX12_readBars 1 none ∈ WD := WD_mem (i := 1666) rfl rfl
theorem wiX12_readBars : Cond.initialized (yX12_readBars).cls ∈ WD := WD_mem (i := 131) (by decide +kernel) rfl
theorem wnX12_readBars : Cond.instanceMethod yX12_readBars ∈ WD := WD_mem (i := 1665) (by decide +kernel) rfl
theorem weX12_readBars : Cond.selects (yX12_readBars).cls yX12_readBars yX12_readBars ∈ WD := WD_mem (i := 72) (by decide +kernel) rfl
theorem ykX12_takeSign : yok yX12_takeSign 1 := by unfold yok; decide +kernel
theorem wcX12_takeSign : Cond.code yX12_takeSign cX12_takeSign 2 none ∈ WD := WD_mem (i := 1702) rfl rfl
theorem wiX12_takeSign : Cond.initialized (yX12_takeSign).cls ∈ WD := WD_mem (i := 131) (by decide +kernel) rfl
theorem wnX12_takeSign : Cond.instanceMethod yX12_takeSign ∈ WD := WD_mem (i := 1701) (by decide +kernel) rfl
theorem weX12_takeSign : Cond.selects (yX12_takeSign).cls yX12_takeSign yX12_takeSign ∈ WD := WD_mem (i := 81) (by decide +kernel) rfl
theorem ykX12_begins : yok yX12_begins 0 := by unfold yok; decide +kernel
theorem wcX12_begins : Cond.code yX12_begins cX12_begins 2 none ∈ WD := WD_mem (i := 1493) rfl rfl
theorem wiX12_begins : Cond.initialized (yX12_begins).cls ∈ WD := WD_mem (i := 131) (by decide +kernel) rfl
theorem wnX12_begins : Cond.instanceMethod yX12_begins ∈ WD := WD_mem (i := 1492) (by decide +kernel) rfl
theorem weX12_begins : Cond.selects (yX12_begins).cls yX12_begins yX12_begins ∈ WD := WD_mem (i := 54) (by decide +kernel) rfl
theorem ykX12_takeOne : yok yX12_takeOne 2 := by unfold yok; decide +kernel
theorem wcX12_takeOne : Cond.code yX12_takeOne cX12_takeOne 4 (some .int) ∈ WD := WD_mem (i := 1638) rfl rfl
theorem wiX12_takeOne : Cond.initialized (yX12_takeOne).cls ∈ WD := WD_mem (i := 131) (by decide +kernel) rfl
theorem wnX12_takeOne : Cond.instanceMethod yX12_takeOne ∈ WD := WD_mem (i := 1637) (by decide +kernel) rfl
theorem weX12_takeOne : Cond.selects (yX12_takeOne).cls yX12_takeOne yX12_takeOne ∈ WD := WD_mem (i := 65) (by decide +kernel) rfl
theorem ykX12_takeAfter : yok yX12_takeAfter 3 := by unfold yok; decide +kernel
theorem wcX12_takeAfter : Cond.code yX12_takeAfter cX12_takeAfter 4 (some .int) ∈ WD := WD_mem (i := 1642) rfl rfl
theorem wiX12_takeAfter : Cond.initialized (yX12_takeAfter).cls ∈ WD := WD_mem (i := 131) (by decide +kernel) rfl
theorem wnX12_takeAfter : Cond.instanceMethod yX12_takeAfter ∈ WD := WD_mem (i := 1641) (by decide +kernel) rfl
theorem weX12_takeAfter : Cond.selects (yX12_takeAfter).cls yX12_takeAfter yX12_takeAfter ∈ WD := WD_mem (i := 66) (by decide +kernel) rfl
theorem ykX12_takeTold : yok yX12_takeTold 3 := by unfold yok; decide +kernel
theorem wcX12_takeTold : Cond.code yX12_takeTold cX12_takeTold 5 (some .int) ∈ WD := WD_mem (i := 1662) rfl rfl
theorem wiX12_takeTold : Cond.initialized (yX12_takeTold).cls ∈ WD := WD_mem (i := 131) (by decide +kernel) rfl
theorem wnX12_takeTold : Cond.instanceMethod yX12_takeTold ∈ WD := WD_mem (i := 1661) (by decide +kernel) rfl
theorem weX12_takeTold : Cond.selects (yX12_takeTold).cls yX12_takeTold yX12_takeTold ∈ WD := WD_mem (i := 71) (by decide +kernel) rfl
theorem ykX12_whole : yok yX12_whole 1 := by unfold yok; decide +kernel
theorem wcX12_whole : Cond.code yX12_whole cX12_whole 3 none ∈ WD := WD_mem (i := 1670) rfl rfl
theorem wiX12_whole : Cond.initialized (yX12_whole).cls ∈ WD := WD_mem (i := 131) (by decide +kernel) rfl
theorem wnX12_whole : Cond.instanceMethod yX12_whole ∈ WD := WD_mem (i := 1669) (by decide +kernel) rfl
theorem weX12_whole : Cond.selects (yX12_whole).cls yX12_whole yX12_whole ∈ WD := WD_mem (i := 73) (by decide +kernel) rfl
theorem ykX12_emit : yok yX12_emit 2 := by unfold yok; decide +kernel
theorem wcX12_emit : Cond.code yX12_emit cX12_emit 3 none ∈ WD := WD_mem (i := 1694) rfl rfl
theorem wiX12_emit : Cond.initialized (yX12_emit).cls ∈ WD := WD_mem (i := 131) (by decide +kernel) rfl
theorem wnX12_emit : Cond.instanceMethod yX12_emit ∈ WD := WD_mem (i := 1693) (by decide +kernel) rfl
theorem weX12_emit : Cond.selects (yX12_emit).cls yX12_emit yX12_emit ∈ WD := WD_mem (i := 79) (by decide +kernel) rfl
theorem ykX12_huts : yok yX12_huts 0 := by unfold yok; decide +kernel
theorem wcX12_huts : Cond.code yX12_huts cX12_huts 1 (some .int) ∈ WD := WD_mem (i := 1501) rfl rfl
theorem wiX12_huts : Cond.initialized (yX12_huts).cls ∈ WD := WD_mem (i := 131) (by decide +kernel) rfl
theorem wnX12_huts : Cond.instanceMethod yX12_huts ∈ WD := WD_mem (i := 1500) (by decide +kernel) rfl
theorem weX12_huts : Cond.selects (yX12_huts).cls yX12_huts yX12_huts ∈ WD := WD_mem (i := 56) (by decide +kernel) rfl
theorem ykX12_test : yok yX12_test 1 := by unfold yok; decide +kernel
theorem wcX12_test : Cond.code yX12_test cX12_test 3 none ∈ WD := WD_mem (i := 1674) rfl rfl
theorem wiX12_test : Cond.initialized (yX12_test).cls ∈ WD := WD_mem (i := 131) (by decide +kernel) rfl
theorem wnX12_test : Cond.instanceMethod yX12_test ∈ WD := WD_mem (i := 1673) (by decide +kernel) rfl
theorem weX12_test : Cond.selects (yX12_test).cls yX12_test yX12_test ∈ WD := WD_mem (i := 74) (by decide +kernel) rfl
theorem ykX12_sums : yok yX12_sums 1 := by unfold yok; decide +kernel
theorem wcX12_sums : Cond.code yX12_sums cX12_sums 3 none ∈ WD := WD_mem (i := 1678) rfl rfl
theorem wiX12_sums : Cond.initialized (yX12_sums).cls ∈ WD := WD_mem (i := 131) (by decide +kernel) rfl
theorem wnX12_sums : Cond.instanceMethod yX12_sums ∈ WD := WD_mem (i := 1677) (by decide +kernel) rfl
theorem weX12_sums : Cond.selects (yX12_sums).cls yX12_sums yX12_sums ∈ WD := WD_mem (i := 75) (by decide +kernel) rfl
theorem ykX12_hasSign : yok yX12_hasSign 1 := by unfold yok; decide +kernel
theorem wcX12_hasSign : Cond.code yX12_hasSign cX12_hasSign 3 (some .boolean) ∈ WD := WD_mem (i := 1698) rfl rfl
theorem wiX12_hasSign : Cond.initialized (yX12_hasSign).cls ∈ WD := WD_mem (i := 131) (by decide +kernel) rfl
theorem wnX12_hasSign : Cond.instanceMethod yX12_hasSign ∈ WD := WD_mem (i := 1697) (by decide +kernel) rfl
theorem weX12_hasSign : Cond.selects (yX12_hasSign).cls yX12_hasSign yX12_hasSign ∈ WD := WD_mem (i := 80) (by decide +kernel) rfl
theorem ykX12_products : yok yX12_products 1 := by unfold yok; decide +kernel
theorem wcX12_products : Cond.code yX12_products cX12_products 2 none ∈ WD := WD_mem (i := 1682) rfl rfl
theorem wiX12_products : Cond.initialized (yX12_products).cls ∈ WD := WD_mem (i := 131) (by decide +kernel) rfl
theorem wnX12_products : Cond.instanceMethod yX12_products ∈ WD := WD_mem (i := 1681) (by decide +kernel) rfl
theorem weX12_products : Cond.selects (yX12_products).cls yX12_products yX12_products ∈ WD := WD_mem (i := 76) (by decide +kernel) rfl
theorem ykX12_takePart : yok yX12_takePart 1 := by unfold yok; decide +kernel
theorem wcX12_takePart : Cond.code yX12_takePart cX12_takePart 4 none ∈ WD := WD_mem (i := 1686) rfl rfl
theorem wiX12_takePart : Cond.initialized (yX12_takePart).cls ∈ WD := WD_mem (i := 131) (by decide +kernel) rfl
theorem wnX12_takePart : Cond.instanceMethod yX12_takePart ∈ WD := WD_mem (i := 1685) (by decide +kernel) rfl
theorem weX12_takePart : Cond.selects (yX12_takePart).cls yX12_takePart yX12_takePart ∈ WD := WD_mem (i := 77) (by decide +kernel) rfl
theorem ykX12_hutOf : yok yX12_hutOf 2 := by unfold yok; decide +kernel
theorem wcX12_hutOf : Cond.code yX12_hutOf cX12_hutOf 3 (some .int) ∈ WD := WD_mem (i := 1505) rfl rfl
theorem wiX12_hutOf : Cond.initialized (yX12_hutOf).cls ∈ WD := WD_mem (i := 131) (by decide +kernel) rfl
theorem wnX12_hutOf : Cond.instanceMethod yX12_hutOf ∈ WD := WD_mem (i := 1504) (by decide +kernel) rfl
theorem weX12_hutOf : Cond.selects (yX12_hutOf).cls yX12_hutOf yX12_hutOf ∈ WD := WD_mem (i := 57) (by decide +kernel) rfl
theorem ykX12_laysTold : yok yX12_laysTold 0 := by unfold yok; decide +kernel
theorem wcX12_laysTold : Cond.code yX12_laysTold cX12_laysTold 2 none ∈ WD := WD_mem (i := 1497) rfl rfl
theorem wiX12_laysTold : Cond.initialized (yX12_laysTold).cls ∈ WD := WD_mem (i := 131) (by decide +kernel) rfl
theorem wnX12_laysTold : Cond.instanceMethod yX12_laysTold ∈ WD := WD_mem (i := 1496) (by decide +kernel) rfl
theorem weX12_laysTold : Cond.selects (yX12_laysTold).cls yX12_laysTold yX12_laysTold ∈ WD := WD_mem (i := 55) (by decide +kernel) rfl
theorem ykX12_copies : yok yX12_copies 3 := by unfold yok; decide +kernel
theorem wcX12_copies : Cond.code yX12_copies cX12_copies 5 none ∈ WD := WD_mem (i := 1768) rfl rfl
theorem wiX12_copies : Cond.initialized (yX12_copies).cls ∈ WD := WD_mem (i := 131) (by decide +kernel) rfl
theorem wnX12_copies : Cond.instanceMethod yX12_copies ∈ WD := WD_mem (i := 1767) (by decide +kernel) rfl
theorem weX12_copies : Cond.selects (yX12_copies).cls yX12_copies yX12_copies ∈ WD := WD_mem (i := 91) (by decide +kernel) rfl
theorem ykX12_priceOf : yok yX12_priceOf 2 := by unfold yok; decide +kernel
theorem wcX12_priceOf : Cond.code yX12_priceOf cX12_priceOf 4 (some .int) ∈ WD := WD_mem (i := 1737) rfl rfl
theorem wiX12_priceOf : Cond.initialized (yX12_priceOf).cls ∈ WD := WD_mem (i := 131) (by decide +kernel) rfl
theorem wnX12_priceOf : Cond.instanceMethod yX12_priceOf ∈ WD := WD_mem (i := 1736) (by decide +kernel) rfl
theorem weX12_priceOf : Cond.selects (yX12_priceOf).cls yX12_priceOf yX12_priceOf ∈ WD := WD_mem (i := 86) (by decide +kernel) rfl
theorem ykX12_worthAt : yok yX12_worthAt 1 := by unfold yok; decide +kernel
theorem wcX12_worthAt : Cond.code yX12_worthAt cX12_worthAt 5 (some .int) ∈ WD := WD_mem (i := 1753) rfl rfl
theorem wiX12_worthAt : Cond.initialized (yX12_worthAt).cls ∈ WD := WD_mem (i := 131) (by decide +kernel) rfl
theorem wnX12_worthAt : Cond.instanceMethod yX12_worthAt ∈ WD := WD_mem (i := 1752) (by decide +kernel) rfl
theorem weX12_worthAt : Cond.selects (yX12_worthAt).cls yX12_worthAt yX12_worthAt ∈ WD := WD_mem (i := 89) (by decide +kernel) rfl
theorem ykX12_pathsFrom : yok yX12_pathsFrom 1 := by unfold yok; decide +kernel
theorem wcX12_pathsFrom : Cond.code yX12_pathsFrom cX12_pathsFrom 4 (some .int) ∈ WD := WD_mem (i := 1725) rfl rfl
theorem wiX12_pathsFrom : Cond.initialized (yX12_pathsFrom).cls ∈ WD := WD_mem (i := 131) (by decide +kernel) rfl
theorem wnX12_pathsFrom : Cond.instanceMethod yX12_pathsFrom ∈ WD := WD_mem (i := 1724) (by decide +kernel) rfl
theorem weX12_pathsFrom : Cond.selects (yX12_pathsFrom).cls yX12_pathsFrom yX12_pathsFrom ∈ WD := WD_mem (i := 84) (by decide +kernel) rfl
theorem ykX12_mayCarry : yok yX12_mayCarry 2 := by unfold yok; decide +kernel
theorem wcX12_mayCarry : Cond.code yX12_mayCarry cX12_mayCarry 4 (some .boolean) ∈ WD := WD_mem (i := 1745) rfl rfl
theorem wiX12_mayCarry : Cond.initialized (yX12_mayCarry).cls ∈ WD := WD_mem (i := 131) (by decide +kernel) rfl
theorem wnX12_mayCarry : Cond.instanceMethod yX12_mayCarry ∈ WD := WD_mem (i := 1744) (by decide +kernel) rfl
theorem weX12_mayCarry : Cond.selects (yX12_mayCarry).cls yX12_mayCarry yX12_mayCarry ∈ WD := WD_mem (i := 87) (by decide +kernel) rfl
theorem ykX12_carries : yok yX12_carries 3 := by unfold yok; decide +kernel
theorem wcX12_carries : Cond.code yX12_carries cX12_carries 4 none ∈ WD := WD_mem (i := 1772) rfl rfl
theorem wiX12_carries : Cond.initialized (yX12_carries).cls ∈ WD := WD_mem (i := 131) (by decide +kernel) rfl
theorem wnX12_carries : Cond.instanceMethod yX12_carries ∈ WD := WD_mem (i := 1771) (by decide +kernel) rfl
theorem weX12_carries : Cond.selects (yX12_carries).cls yX12_carries yX12_carries ∈ WD := WD_mem (i := 92) (by decide +kernel) rfl
theorem ykX12_keepsLoads : yok yX12_keepsLoads 0 := by unfold yok; decide +kernel
theorem wcX12_keepsLoads : Cond.code yX12_keepsLoads cX12_keepsLoads 2 none ∈ WD := WD_mem (i := 1776) rfl rfl
theorem wiX12_keepsLoads : Cond.initialized (yX12_keepsLoads).cls ∈ WD := WD_mem (i := 131) (by decide +kernel) rfl
theorem wnX12_keepsLoads : Cond.instanceMethod yX12_keepsLoads ∈ WD := WD_mem (i := 1775) (by decide +kernel) rfl
theorem weX12_keepsLoads : Cond.selects (yX12_keepsLoads).cls yX12_keepsLoads yX12_keepsLoads ∈ WD := WD_mem (i := 93) (by decide +kernel) rfl
theorem ykX12_loadedNow : yok yX12_loadedNow 0 := by unfold yok; decide +kernel
theorem wcX12_loadedNow : Cond.code yX12_loadedNow cX12_loadedNow 3 (some .int) ∈ WD := WD_mem (i := 1796) rfl rfl
theorem wiX12_loadedNow : Cond.initialized (yX12_loadedNow).cls ∈ WD := WD_mem (i := 131) (by decide +kernel) rfl
theorem wnX12_loadedNow : Cond.instanceMethod yX12_loadedNow ∈ WD := WD_mem (i := 1795) (by decide +kernel) rfl
theorem weX12_loadedNow : Cond.selects (yX12_loadedNow).cls yX12_loadedNow yX12_loadedNow ∈ WD := WD_mem (i := 94) (by decide +kernel) rfl
theorem ykX12_allWays : yok yX12_allWays 0 := by unfold yok; decide +kernel
theorem wcX12_allWays : Cond.code yX12_allWays cX12_allWays 1 (some .int) ∈ WD := WD_mem (i := 1812) rfl rfl
theorem wiX12_allWays : Cond.initialized (yX12_allWays).cls ∈ WD := WD_mem (i := 131) (by decide +kernel) rfl
theorem wnX12_allWays : Cond.instanceMethod yX12_allWays ∈ WD := WD_mem (i := 1811) (by decide +kernel) rfl
theorem weX12_allWays : Cond.selects (yX12_allWays).cls yX12_allWays yX12_allWays ∈ WD := WD_mem (i := 97) (by decide +kernel) rfl
theorem ykX12_lays : yok yX12_lays 1 := by unfold yok; decide +kernel
theorem wcX12_lays : Cond.code yX12_lays cX12_lays 5 none ∈ WD := WD_mem (i := 1819) rfl rfl
theorem wiX12_lays : Cond.initialized (yX12_lays).cls ∈ WD := WD_mem (i := 131) (by decide +kernel) rfl
theorem wnX12_lays : Cond.instanceMethod yX12_lays ∈ WD := WD_mem (i := 1818) (by decide +kernel) rfl
theorem weX12_lays : Cond.selects (yX12_lays).cls yX12_lays yX12_lays ∈ WD := WD_mem (i := 98) (by decide +kernel) rfl
theorem ykX12_worthOf : yok yX12_worthOf 2 := by unfold yok; decide +kernel
theorem wcX12_worthOf : Cond.code yX12_worthOf cX12_worthOf 8 (some .long) ∈ WD := WD_mem (i := 1823) rfl rfl
theorem wiX12_worthOf : Cond.initialized (yX12_worthOf).cls ∈ WD := WD_mem (i := 131) (by decide +kernel) rfl
theorem wnX12_worthOf : Cond.instanceMethod yX12_worthOf ∈ WD := WD_mem (i := 1822) (by decide +kernel) rfl
theorem weX12_worthOf : Cond.selects (yX12_worthOf).cls yX12_worthOf yX12_worthOf ∈ WD := WD_mem (i := 99) (by decide +kernel) rfl
theorem ykX12_beginOf : yok yX12_beginOf 2 := by unfold yok; decide +kernel
theorem wcX12_beginOf : Cond.code yX12_beginOf cX12_beginOf 3 (some .long) ∈ WD := WD_mem (i := 1827) rfl rfl
theorem wiX12_beginOf : Cond.initialized (yX12_beginOf).cls ∈ WD := WD_mem (i := 131) (by decide +kernel) rfl
theorem wnX12_beginOf : Cond.instanceMethod yX12_beginOf ∈ WD := WD_mem (i := 1826) (by decide +kernel) rfl
theorem weX12_beginOf : Cond.selects (yX12_beginOf).cls yX12_beginOf yX12_beginOf ∈ WD := WD_mem (i := 100) (by decide +kernel) rfl
theorem ykX12_numberNow : yok yX12_numberNow 0 := by unfold yok; decide +kernel
theorem wcX12_numberNow : Cond.code yX12_numberNow cX12_numberNow 5 (some .int) ∈ WD := WD_mem (i := 1832) rfl rfl
theorem wiX12_numberNow : Cond.initialized (yX12_numberNow).cls ∈ WD := WD_mem (i := 131) (by decide +kernel) rfl
theorem wnX12_numberNow : Cond.instanceMethod yX12_numberNow ∈ WD := WD_mem (i := 1831) (by decide +kernel) rfl
theorem weX12_numberNow : Cond.selects (yX12_numberNow).cls yX12_numberNow yX12_numberNow ∈ WD := WD_mem (i := 101) (by decide +kernel) rfl
theorem ykX12_fills : yok yX12_fills 2 := by unfold yok; decide +kernel
theorem wcX12_fills : Cond.code yX12_fills cX12_fills 5 none ∈ WD := WD_mem (i := 1808) rfl rfl
theorem wiX12_fills : Cond.initialized (yX12_fills).cls ∈ WD := WD_mem (i := 131) (by decide +kernel) rfl
theorem wnX12_fills : Cond.instanceMethod yX12_fills ∈ WD := WD_mem (i := 1807) (by decide +kernel) rfl
theorem weX12_fills : Cond.selects (yX12_fills).cls yX12_fills yX12_fills ∈ WD := WD_mem (i := 96) (by decide +kernel) rfl
theorem ykX12_asked : yok yX12_asked 2 := by unfold yok; decide +kernel
theorem wcX12_asked : Cond.code yX12_asked cX12_asked 3 (some .long) ∈ WD := WD_mem (i := 1804) rfl rfl
theorem wiX12_asked : Cond.initialized (yX12_asked).cls ∈ WD := WD_mem (i := 131) (by decide +kernel) rfl
theorem wnX12_asked : Cond.instanceMethod yX12_asked ∈ WD := WD_mem (i := 1803) (by decide +kernel) rfl
theorem weX12_asked : Cond.selects (yX12_asked).cls yX12_asked yX12_asked ∈ WD := WD_mem (i := 95) (by decide +kernel) rfl
theorem ykX12_marksOn : yok yX12_marksOn 0 := by unfold yok; decide +kernel
theorem wcX12_marksOn : Cond.code yX12_marksOn cX12_marksOn 4 (some .boolean) ∈ WD := WD_mem (i := 1888) rfl rfl
theorem wiX12_marksOn : Cond.initialized (yX12_marksOn).cls ∈ WD := WD_mem (i := 131) (by decide +kernel) rfl
theorem wnX12_marksOn : Cond.instanceMethod yX12_marksOn ∈ WD := WD_mem (i := 1887) (by decide +kernel) rfl
theorem weX12_marksOn : Cond.selects (yX12_marksOn).cls yX12_marksOn yX12_marksOn ∈ WD := WD_mem (i := 102) (by decide +kernel) rfl
theorem ykX12_laysAlone : yok yX12_laysAlone 1 := by unfold yok; decide +kernel
theorem wcX12_laysAlone : Cond.code yX12_laysAlone cX12_laysAlone 3 none ∈ WD := WD_mem (i := 1896) rfl rfl
theorem wiX12_laysAlone : Cond.initialized (yX12_laysAlone).cls ∈ WD := WD_mem (i := 131) (by decide +kernel) rfl
theorem wnX12_laysAlone : Cond.instanceMethod yX12_laysAlone ∈ WD := WD_mem (i := 1895) (by decide +kernel) rfl
theorem weX12_laysAlone : Cond.selects (yX12_laysAlone).cls yX12_laysAlone yX12_laysAlone ∈ WD := WD_mem (i := 103) (by decide +kernel) rfl
theorem ykX12_comesTo : yok yX12_comesTo 0 := by unfold yok; decide +kernel
theorem wcX12_comesTo : Cond.code yX12_comesTo cX12_comesTo 1 (some .int) ∈ WD := WD_mem (i := 1904) rfl rfl
theorem wiX12_comesTo : Cond.initialized (yX12_comesTo).cls ∈ WD := WD_mem (i := 131) (by decide +kernel) rfl
theorem wnX12_comesTo : Cond.instanceMethod yX12_comesTo ∈ WD := WD_mem (i := 1903) (by decide +kernel) rfl
theorem weX12_comesTo : Cond.selects (yX12_comesTo).cls yX12_comesTo yX12_comesTo ∈ WD := WD_mem (i := 104) (by decide +kernel) rfl
theorem ykX12_reachOf : yok yX12_reachOf 1 := by unfold yok; decide +kernel
theorem wcX12_reachOf : Cond.code yX12_reachOf cX12_reachOf 5 (some .int) ∈ WD := WD_mem (i := 1916) rfl rfl
theorem wiX12_reachOf : Cond.initialized (yX12_reachOf).cls ∈ WD := WD_mem (i := 131) (by decide +kernel) rfl
theorem wnX12_reachOf : Cond.instanceMethod yX12_reachOf ∈ WD := WD_mem (i := 1915) (by decide +kernel) rfl
theorem weX12_reachOf : Cond.selects (yX12_reachOf).cls yX12_reachOf yX12_reachOf ∈ WD := WD_mem (i := 105) (by decide +kernel) rfl
theorem ykX12_isWay : yok yX12_isWay 0 := by unfold yok; decide +kernel
theorem wcX12_isWay : Cond.code yX12_isWay cX12_isWay 3 (some .boolean) ∈ WD := WD_mem (i := 1940) rfl rfl
theorem wiX12_isWay : Cond.initialized (yX12_isWay).cls ∈ WD := WD_mem (i := 131) (by decide +kernel) rfl
theorem wnX12_isWay : Cond.instanceMethod yX12_isWay ∈ WD := WD_mem (i := 1939) (by decide +kernel) rfl
theorem weX12_isWay : Cond.selects (yX12_isWay).cls yX12_isWay yX12_isWay ∈ WD := WD_mem (i := 107) (by decide +kernel) rfl
theorem ykX12_beforeNow : yok yX12_beforeNow 0 := by unfold yok; decide +kernel
theorem wcX12_beforeNow : Cond.code yX12_beforeNow cX12_beforeNow 4 (some .int) ∈ WD := WD_mem (i := 1936) rfl rfl
theorem wiX12_beforeNow : Cond.initialized (yX12_beforeNow).cls ∈ WD := WD_mem (i := 131) (by decide +kernel) rfl
theorem wnX12_beforeNow : Cond.instanceMethod yX12_beforeNow ∈ WD := WD_mem (i := 1935) (by decide +kernel) rfl
theorem weX12_beforeNow : Cond.selects (yX12_beforeNow).cls yX12_beforeNow yX12_beforeNow ∈ WD := WD_mem (i := 106) (by decide +kernel) rfl
theorem ykX12_lackOf : yok yX12_lackOf 1 := by unfold yok; decide +kernel
theorem wcX12_lackOf : Cond.code yX12_lackOf cX12_lackOf 6 (some .int) ∈ WD := WD_mem (i := 1948) rfl rfl
theorem wiX12_lackOf : Cond.initialized (yX12_lackOf).cls ∈ WD := WD_mem (i := 131) (by decide +kernel) rfl
theorem wnX12_lackOf : Cond.instanceMethod yX12_lackOf ∈ WD := WD_mem (i := 1947) (by decide +kernel) rfl
theorem weX12_lackOf : Cond.selects (yX12_lackOf).cls yX12_lackOf yX12_lackOf ∈ WD := WD_mem (i := 108) (by decide +kernel) rfl
theorem ykX12_guardOf : yok yX12_guardOf 1 := by unfold yok; decide +kernel
theorem wcX12_guardOf : Cond.code yX12_guardOf cX12_guardOf 7 (some .int) ∈ WD := WD_mem (i := 1956) rfl rfl
theorem wiX12_guardOf : Cond.initialized (yX12_guardOf).cls ∈ WD := WD_mem (i := 131) (by decide +kernel) rfl
theorem wnX12_guardOf : Cond.instanceMethod yX12_guardOf ∈ WD := WD_mem (i := 1955) (by decide +kernel) rfl
theorem weX12_guardOf : Cond.selects (yX12_guardOf).cls yX12_guardOf yX12_guardOf ∈ WD := WD_mem (i := 109) (by decide +kernel) rfl
theorem ykX12_comesBy : yok yX12_comesBy 2 := by unfold yok; decide +kernel
theorem wcX12_comesBy : Cond.code yX12_comesBy cX12_comesBy 5 (some .int) ∈ WD := WD_mem (i := 1964) rfl rfl
theorem wiX12_comesBy : Cond.initialized (yX12_comesBy).cls ∈ WD := WD_mem (i := 131) (by decide +kernel) rfl
theorem wnX12_comesBy : Cond.instanceMethod yX12_comesBy ∈ WD := WD_mem (i := 1963) (by decide +kernel) rfl
theorem weX12_comesBy : Cond.selects (yX12_comesBy).cls yX12_comesBy yX12_comesBy ∈ WD := WD_mem (i := 110) (by decide +kernel) rfl
theorem ykX12_sureOf : yok yX12_sureOf 1 := by unfold yok; decide +kernel
theorem wcX12_sureOf : Cond.code yX12_sureOf cX12_sureOf 4 (some .int) ∈ WD := WD_mem (i := 1980) rfl rfl
theorem wiX12_sureOf : Cond.initialized (yX12_sureOf).cls ∈ WD := WD_mem (i := 131) (by decide +kernel) rfl
theorem wnX12_sureOf : Cond.instanceMethod yX12_sureOf ∈ WD := WD_mem (i := 1979) (by decide +kernel) rfl
theorem weX12_sureOf : Cond.selects (yX12_sureOf).cls yX12_sureOf yX12_sureOf ∈ WD := WD_mem (i := 111) (by decide +kernel) rfl
theorem ykX12_isAsSeen : yok yX12_isAsSeen 0 := by unfold yok; decide +kernel
theorem wcX12_isAsSeen : Cond.code yX12_isAsSeen cX12_isAsSeen 4 (some .boolean) ∈ WD := WD_mem (i := 2017) rfl rfl
theorem wiX12_isAsSeen : Cond.initialized (yX12_isAsSeen).cls ∈ WD := WD_mem (i := 131) (by decide +kernel) rfl
theorem wnX12_isAsSeen : Cond.instanceMethod yX12_isAsSeen ∈ WD := WD_mem (i := 2016) (by decide +kernel) rfl
theorem weX12_isAsSeen : Cond.selects (yX12_isAsSeen).cls yX12_isAsSeen yX12_isAsSeen ∈ WD := WD_mem (i := 113) (by decide +kernel) rfl
theorem ykX12_talliesNow : yok yX12_talliesNow 0 := by unfold yok; decide +kernel
theorem wcX12_talliesNow : Cond.code yX12_talliesNow cX12_talliesNow 6 (some .int) ∈ WD := WD_mem (i := 2013) rfl rfl
theorem wiX12_talliesNow : Cond.initialized (yX12_talliesNow).cls ∈ WD := WD_mem (i := 131) (by decide +kernel) rfl
theorem wnX12_talliesNow : Cond.instanceMethod yX12_talliesNow ∈ WD := WD_mem (i := 2012) (by decide +kernel) rfl
theorem weX12_talliesNow : Cond.selects (yX12_talliesNow).cls yX12_talliesNow yX12_talliesNow ∈ WD := WD_mem (i := 112) (by decide +kernel) rfl
theorem ykX12_comesOdd : yok yX12_comesOdd 2 := by unfold yok; decide +kernel
theorem wcX12_comesOdd : Cond.code yX12_comesOdd cX12_comesOdd 8 (some .long) ∈ WD := WD_mem (i := 2029) rfl rfl
theorem wiX12_comesOdd : Cond.initialized (yX12_comesOdd).cls ∈ WD := WD_mem (i := 131) (by decide +kernel) rfl
theorem wnX12_comesOdd : Cond.instanceMethod yX12_comesOdd ∈ WD := WD_mem (i := 2028) (by decide +kernel) rfl
theorem weX12_comesOdd : Cond.selects (yX12_comesOdd).cls yX12_comesOdd yX12_comesOdd ∈ WD := WD_mem (i := 114) (by decide +kernel) rfl
theorem ykX12_draw : yok yX12_draw 1 := by unfold yok; decide +kernel
theorem wcX12_draw : Cond.code yX12_draw cX12_draw 2 (some .int) ∈ WD := WD_mem (i := 2049) rfl rfl
theorem wiX12_draw : Cond.initialized (yX12_draw).cls ∈ WD := WD_mem (i := 131) (by decide +kernel) rfl
theorem wnX12_draw : Cond.instanceMethod yX12_draw ∈ WD := WD_mem (i := 2048) (by decide +kernel) rfl
theorem weX12_draw : Cond.selects (yX12_draw).cls yX12_draw yX12_draw ∈ WD := WD_mem (i := 116) (by decide +kernel) rfl
theorem ykX12_drawsDeed : yok yX12_drawsDeed 0 := by unfold yok; decide +kernel
theorem wcX12_drawsDeed : Cond.code yX12_drawsDeed cX12_drawsDeed 4 (some .boolean) ∈ WD := WD_mem (i := 2045) rfl rfl
theorem wiX12_drawsDeed : Cond.initialized (yX12_drawsDeed).cls ∈ WD := WD_mem (i := 131) (by decide +kernel) rfl
theorem wnX12_drawsDeed : Cond.instanceMethod yX12_drawsDeed ∈ WD := WD_mem (i := 2044) (by decide +kernel) rfl
theorem weX12_drawsDeed : Cond.selects (yX12_drawsDeed).cls yX12_drawsDeed yX12_drawsDeed ∈ WD := WD_mem (i := 115) (by decide +kernel) rfl
theorem ykX12_comesNow : yok yX12_comesNow 0 := by unfold yok; decide +kernel
theorem wcX12_comesNow : Cond.code yX12_comesNow cX12_comesNow 1 (some .int) ∈ WD := WD_mem (i := 2065) rfl rfl
theorem wiX12_comesNow : Cond.initialized (yX12_comesNow).cls ∈ WD := WD_mem (i := 131) (by decide +kernel) rfl
theorem wnX12_comesNow : Cond.instanceMethod yX12_comesNow ∈ WD := WD_mem (i := 2064) (by decide +kernel) rfl
theorem weX12_comesNow : Cond.selects (yX12_comesNow).cls yX12_comesNow yX12_comesNow ∈ WD := WD_mem (i := 117) (by decide +kernel) rfl
theorem ykX2_addLowest : yok yX2_addLowest 3 := by unfold yok; decide +kernel
theorem wcX2_addLowest : Cond.code yX2_addLowest cX2_addLowest 8 (some .int) ∈ WD := WD_mem (i := 216) rfl rfl
theorem wiX2_addLowest : Cond.initialized (yX2_addLowest).cls ∈ WD := WD_mem (i := 123) (by decide +kernel) rfl
theorem wnX2_addLowest : Cond.instanceMethod yX2_addLowest ∈ WD := WD_mem (i := 215) (by decide +kernel) rfl
theorem weX2_addLowest : Cond.selects (yX2_addLowest).cls yX2_addLowest yX2_addLowest ∈ WD := WD_mem (i := 0) (by decide +kernel) rfl
theorem ykX2_fillEnds : yok yX2_fillEnds 0 := by unfold yok; decide +kernel
theorem wcX2_fillEnds : Cond.code yX2_fillEnds cX2_fillEnds 4 none ∈ WD := WD_mem (i := 220) rfl rfl
theorem wiX2_fillEnds : Cond.initialized (yX2_fillEnds).cls ∈ WD := WD_mem (i := 123) (by decide +kernel) rfl
theorem wnX2_fillEnds : Cond.instanceMethod yX2_fillEnds ∈ WD := WD_mem (i := 219) (by decide +kernel) rfl
theorem weX2_fillEnds : Cond.selects (yX2_fillEnds).cls yX2_fillEnds yX2_fillEnds ∈ WD := WD_mem (i := 1) (by decide +kernel) rfl
theorem ykX11_isSum : yok yX11_isSum 1 := by unfold yok; decide +kernel
theorem wcX11_isSum : Cond.code yX11_isSum cX11_isSum 1 (some .boolean) ∈ WD := WD_mem (i := 1069) rfl rfl
theorem wiX11_isSum : Cond.initialized (yX11_isSum).cls ∈ WD := WD_mem (i := 119) (by decide +kernel) rfl
theorem wsX11_isSum : Cond.static yX11_isSum ∈ WD := WD_mem (i := 1068) (by decide +kernel) rfl
theorem ykX11_gain : yok yX11_gain 5 := by unfold yok; decide +kernel
theorem wcX11_gain : Cond.code yX11_gain cX11_gain 5 (some .int) ∈ WD := WD_mem (i := 1448) rfl rfl
theorem wiX11_gain : Cond.initialized (yX11_gain).cls ∈ WD := WD_mem (i := 119) (by decide +kernel) rfl
theorem wsX11_gain : Cond.static yX11_gain ∈ WD := WD_mem (i := 1447) (by decide +kernel) rfl
theorem ykX8_isBlank : yok yX8_isBlank 1 := by unfold yok; decide +kernel
theorem wcX8_isBlank : Cond.code yX8_isBlank cX8_isBlank 1 (some .boolean) ∈ WD := WD_mem (i := 570) rfl rfl
theorem wiX8_isBlank : Cond.initialized (yX8_isBlank).cls ∈ WD := WD_mem (i := 122) (by decide +kernel) rfl
theorem wsX8_isBlank : Cond.static yX8_isBlank ∈ WD := WD_mem (i := 569) (by decide +kernel) rfl
theorem ykX8_isLetter : yok yX8_isLetter 1 := by unfold yok; decide +kernel
theorem wcX8_isLetter : Cond.code yX8_isLetter cX8_isLetter 1 (some .boolean) ∈ WD := WD_mem (i := 573) rfl rfl
theorem wiX8_isLetter : Cond.initialized (yX8_isLetter).cls ∈ WD := WD_mem (i := 122) (by decide +kernel) rfl
theorem wsX8_isLetter : Cond.static yX8_isLetter ∈ WD := WD_mem (i := 572) (by decide +kernel) rfl
theorem ykX8_isDigit : yok yX8_isDigit 1 := by unfold yok; decide +kernel
theorem wcX8_isDigit : Cond.code yX8_isDigit cX8_isDigit 1 (some .boolean) ∈ WD := WD_mem (i := 586) rfl rfl
theorem wiX8_isDigit : Cond.initialized (yX8_isDigit).cls ∈ WD := WD_mem (i := 122) (by decide +kernel) rfl
theorem wsX8_isDigit : Cond.static yX8_isDigit ∈ WD := WD_mem (i := 585) (by decide +kernel) rfl
theorem ykX8_isOwnSign : yok yX8_isOwnSign 1 := by unfold yok; decide +kernel
theorem wcX8_isOwnSign : Cond.code yX8_isOwnSign cX8_isOwnSign 1 (some .boolean) ∈ WD := WD_mem (i := 593) rfl rfl
theorem wiX8_isOwnSign : Cond.initialized (yX8_isOwnSign).cls ∈ WD := WD_mem (i := 122) (by decide +kernel) rfl
theorem wsX8_isOwnSign : Cond.static yX8_isOwnSign ∈ WD := WD_mem (i := 592) (by decide +kernel) rfl
theorem ykX1_factNamed : yok yX1_factNamed 1 := by unfold yok; decide +kernel
theorem wcX1_factNamed : Cond.code yX1_factNamed cX1_factNamed 2 (some .int) ∈ WD := WD_mem (i := 688) rfl rfl
theorem wiX1_factNamed : Cond.initialized (yX1_factNamed).cls ∈ WD := WD_mem (i := 126) (by decide +kernel) rfl
theorem wsX1_factNamed : Cond.static yX1_factNamed ∈ WD := WD_mem (i := 687) (by decide +kernel) rfl
theorem ykJ7_fill_d0a16 : yok yJ7_fill_d0a16 2 := by unfold yok; decide +kernel
theorem wcJ7_fill_d0a16 : Cond.code yJ7_fill_d0a16 cJ7_fill_d0a16 5 none ∈ WD := WD_mem (i := 555) rfl rfl
theorem wiJ7_fill_d0a16 : Cond.initialized (yJ7_fill_d0a16).cls ∈ WD := WD_mem (i := 132) (by decide +kernel) rfl
theorem wsJ7_fill_d0a16 : Cond.static yJ7_fill_d0a16 ∈ WD := WD_mem (i := 554) (by decide +kernel) rfl
theorem ykX1_joined : yok yX1_joined 3 := by unfold yok; decide +kernel
theorem wcX1_joined : Cond.code yX1_joined cX1_joined 3 (some .int) ∈ WD := WD_mem (i := 815) rfl rfl
theorem wiX1_joined : Cond.initialized (yX1_joined).cls ∈ WD := WD_mem (i := 126) (by decide +kernel) rfl
theorem wsX1_joined : Cond.static yX1_joined ∈ WD := WD_mem (i := 814) (by decide +kernel) rfl
theorem ykX5_stirred : yok yX5_stirred 1 := by unfold yok; decide +kernel
theorem wcX5_stirred : Cond.code yX5_stirred cX5_stirred 2 (some .long) ∈ WD := WD_mem (i := 1342) rfl rfl
theorem wiX5_stirred : Cond.initialized (yX5_stirred).cls ∈ WD := WD_mem (i := 124) (by decide +kernel) rfl
theorem wsX5_stirred : Cond.static yX5_stirred ∈ WD := WD_mem (i := 1341) (by decide +kernel) rfl
theorem ykX5_drawn : yok yX5_drawn 2 := by unfold yok; decide +kernel
theorem wcX5_drawn : Cond.code yX5_drawn cX5_drawn 3 (some .int) ∈ WD := WD_mem (i := 1348) rfl rfl
theorem wiX5_drawn : Cond.initialized (yX5_drawn).cls ∈ WD := WD_mem (i := 124) (by decide +kernel) rfl
theorem wsX5_drawn : Cond.static yX5_drawn ∈ WD := WD_mem (i := 1347) (by decide +kernel) rfl
theorem ykX3_isBetterPull : yok yX3_isBetterPull 2 := by unfold yok; decide +kernel
theorem wcX3_isBetterPull : Cond.code yX3_isBetterPull cX3_isBetterPull 4 (some .boolean) ∈ WD := WD_mem (i := 976) rfl rfl
theorem wiX3_isBetterPull : Cond.initialized (yX3_isBetterPull).cls ∈ WD := WD_mem (i := 128) (by decide +kernel) rfl
theorem wsX3_isBetterPull : Cond.static yX3_isBetterPull ∈ WD := WD_mem (i := 975) (by decide +kernel) rfl
theorem ykX3_fewest : yok yX3_fewest 2 := by unfold yok; decide +kernel
theorem wcX3_fewest : Cond.code yX3_fewest cX3_fewest 5 (some .int) ∈ WD := WD_mem (i := 990) rfl rfl
theorem wiX3_fewest : Cond.initialized (yX3_fewest).cls ∈ WD := WD_mem (i := 128) (by decide +kernel) rfl
theorem wsX3_fewest : Cond.static yX3_fewest ∈ WD := WD_mem (i := 989) (by decide +kernel) rfl
theorem ykX10_addRows : yok yX10_addRows 2 := by unfold yok; decide +kernel
theorem wcX10_addRows : Cond.code yX10_addRows cX10_addRows 2 (some .int) ∈ WD := WD_mem (i := 1036) rfl rfl
theorem wiX10_addRows : Cond.initialized (yX10_addRows).cls ∈ WD := WD_mem (i := 129) (by decide +kernel) rfl
theorem wsX10_addRows : Cond.static yX10_addRows ∈ WD := WD_mem (i := 1035) (by decide +kernel) rfl
theorem ykX12_isLetter : yok yX12_isLetter 1 := by unfold yok; decide +kernel
theorem wcX12_isLetter : Cond.code yX12_isLetter cX12_isLetter 1 (some .boolean) ∈ WD := WD_mem (i := 1598) rfl rfl
theorem wiX12_isLetter : Cond.initialized (yX12_isLetter).cls ∈ WD := WD_mem (i := 131) (by decide +kernel) rfl
theorem wsX12_isLetter : Cond.static yX12_isLetter ∈ WD := WD_mem (i := 1597) (by decide +kernel) rfl
theorem ykX12_rank : yok yX12_rank 1 := by unfold yok; decide +kernel
theorem wcX12_rank : Cond.code yX12_rank cX12_rank 1 (some .int) ∈ WD := WD_mem (i := 1602) rfl rfl
theorem wiX12_rank : Cond.initialized (yX12_rank).cls ∈ WD := WD_mem (i := 131) (by decide +kernel) rfl
theorem wsX12_rank : Cond.static yX12_rank ∈ WD := WD_mem (i := 1601) (by decide +kernel) rfl
theorem ykX12_isDigit : yok yX12_isDigit 1 := by unfold yok; decide +kernel
theorem wcX12_isDigit : Cond.code yX12_isDigit cX12_isDigit 1 (some .boolean) ∈ WD := WD_mem (i := 1605) rfl rfl
theorem wiX12_isDigit : Cond.initialized (yX12_isDigit).cls ∈ WD := WD_mem (i := 131) (by decide +kernel) rfl
theorem wsX12_isDigit : Cond.static yX12_isDigit ∈ WD := WD_mem (i := 1604) (by decide +kernel) rfl
theorem ykX12_isSignOf : yok yX12_isSignOf 1 := by unfold yok; decide +kernel
theorem wcX12_isSignOf : Cond.code yX12_isSignOf cX12_isSignOf 1 (some .boolean) ∈ WD := WD_mem (i := 1610) rfl rfl
theorem wiX12_isSignOf : Cond.initialized (yX12_isSignOf).cls ∈ WD := WD_mem (i := 131) (by decide +kernel) rfl
theorem wsX12_isSignOf : Cond.static yX12_isSignOf ∈ WD := WD_mem (i := 1609) (by decide +kernel) rfl
theorem ykX12_worked : yok yX12_worked 3 := by unfold yok; decide +kernel
theorem wcX12_worked : Cond.code yX12_worked cX12_worked 3 (some .int) ∈ WD := WD_mem (i := 1756) rfl rfl
theorem wiX12_worked : Cond.initialized (yX12_worked).cls ∈ WD := WD_mem (i := 131) (by decide +kernel) rfl
theorem wsX12_worked : Cond.static yX12_worked ∈ WD := WD_mem (i := 1755) (by decide +kernel) rfl
theorem ykX12_within : yok yX12_within 3 := by unfold yok; decide +kernel
theorem wcX12_within : Cond.code yX12_within cX12_within 3 (some .boolean) ∈ WD := WD_mem (i := 1717) rfl rfl
theorem wiX12_within : Cond.initialized (yX12_within).cls ∈ WD := WD_mem (i := 131) (by decide +kernel) rfl
theorem wsX12_within : Cond.static yX12_within ∈ WD := WD_mem (i := 1716) (by decide +kernel) rfl
theorem ykX12_waysOf : yok yX12_waysOf 2 := by unfold yok; decide +kernel
theorem wcX12_waysOf : Cond.code yX12_waysOf cX12_waysOf 4 (some .int) ∈ WD := WD_mem (i := 1815) rfl rfl
theorem wiX12_waysOf : Cond.initialized (yX12_waysOf).cls ∈ WD := WD_mem (i := 131) (by decide +kernel) rfl
theorem wsX12_waysOf : Cond.static yX12_waysOf ∈ WD := WD_mem (i := 1814) (by decide +kernel) rfl
theorem ykX12_joined : yok yX12_joined 3 := by unfold yok; decide +kernel
theorem wcX12_joined : Cond.code yX12_joined cX12_joined 5 (some .long) ∈ WD := WD_mem (i := 1835) rfl rfl
theorem wiX12_joined : Cond.initialized (yX12_joined).cls ∈ WD := WD_mem (i := 131) (by decide +kernel) rfl
theorem wsX12_joined : Cond.static yX12_joined ∈ WD := WD_mem (i := 1834) (by decide +kernel) rfl
theorem ykX12_joinedWays : yok yX12_joinedWays 2 := by unfold yok; decide +kernel
theorem wcX12_joinedWays : Cond.code yX12_joinedWays cX12_joinedWays 8 (some .long) ∈ WD := WD_mem (i := 1838) rfl rfl
theorem wiX12_joinedWays : Cond.initialized (yX12_joinedWays).cls ∈ WD := WD_mem (i := 131) (by decide +kernel) rfl
theorem wsX12_joinedWays : Cond.static yX12_joinedWays ∈ WD := WD_mem (i := 1837) (by decide +kernel) rfl
theorem ykX12_joinedPull : yok yX12_joinedPull 2 := by unfold yok; decide +kernel
theorem wcX12_joinedPull : Cond.code yX12_joinedPull cX12_joinedPull 7 (some .long) ∈ WD := WD_mem (i := 1843) rfl rfl
theorem wiX12_joinedPull : Cond.initialized (yX12_joinedPull).cls ∈ WD := WD_mem (i := 131) (by decide +kernel) rfl
theorem wsX12_joinedPull : Cond.static yX12_joinedPull ∈ WD := WD_mem (i := 1842) (by decide +kernel) rfl
theorem ykX12_getsBy : yok yX12_getsBy 5 := by unfold yok; decide +kernel
theorem wcX12_getsBy : Cond.code yX12_getsBy cX12_getsBy 5 (some .int) ∈ WD := WD_mem (i := 2037) rfl rfl
theorem wiX12_getsBy : Cond.initialized (yX12_getsBy).cls ∈ WD := WD_mem (i := 131) (by decide +kernel) rfl
theorem wsX12_getsBy : Cond.static yX12_getsBy ∈ WD := WD_mem (i := 2036) (by decide +kernel) rfl
theorem vkX11_84 : vok RX11 84 yX7_append cX7_append 6 none := vok_of (WD_mem (i := 533) (by decide +kernel) rfl) wnX7_append weX7_append wiX7_append wcX7_append
theorem vkX11_92 : vok RX11 92 yX4_readHills cX4_readHills 3 (some .int) := vok_of (WD_mem (i := 541) (by decide +kernel) rfl) wnX4_readHills weX4_readHills wiX4_readHills wcX4_readHills
theorem vkX11_96 : vok RX11 96 yX9_clear cX9_clear 1 none := vok_of (WD_mem (i := 717) (by decide +kernel) rfl) wnX9_clear weX9_clear wiX9_clear wcX9_clear
theorem vkX11_99 : vok RX11 99 yX0_toldLying cX0_toldLying 3 (some .int) := vok_of (WD_mem (i := 721) (by decide +kernel) rfl) wnX0_toldLying weX0_toldLying wiX0_toldLying wcX0_toldLying
theorem vkX11_103 : vok RX11 103 yX5_restart cX5_restart 3 none := vok_of (WD_mem (i := 725) (by decide +kernel) rfl) wnX5_restart weX5_restart wiX5_restart wcX5_restart
theorem vkX11_107 : vok RX11 107 yX3_moveTo cX3_moveTo 2 none := vok_of (WD_mem (i := 729) (by decide +kernel) rfl) wnX3_moveTo weX3_moveTo wiX3_moveTo wcX3_moveTo
theorem vkX11_111 : vok RX11 111 yX10_moveTo cX10_moveTo 2 none := vok_of (WD_mem (i := 733) (by decide +kernel) rfl) wnX10_moveTo weX10_moveTo wiX10_moveTo wcX10_moveTo
theorem vkX11_112 : vok RX11 112 yX6_moveTo cX6_moveTo 2 none := vok_of (WD_mem (i := 737) (by decide +kernel) rfl) wnX6_moveTo weX6_moveTo wiX6_moveTo wcX6_moveTo
theorem vkX11_113 : vok RX11 113 yX4_readTrip cX4_readTrip 4 (some .int) := vok_of (WD_mem (i := 745) (by decide +kernel) rfl) wnX4_readTrip weX4_readTrip wiX4_readTrip wcX4_readTrip
theorem vkX11_117 : vok RX11 117 yX0_isHut cX0_isHut 2 (some .boolean) := vok_of (WD_mem (i := 762) (by decide +kernel) rfl) wnX0_isHut weX0_isHut wiX0_isHut wcX0_isHut
theorem vkX11_128 : vok RX11 128 yX0_loadsIn cX0_loadsIn 3 (some .int) := vok_of (WD_mem (i := 763) (by decide +kernel) rfl) wnX0_loadsIn weX0_loadsIn wiX0_loadsIn wcX0_loadsIn
theorem vkX11_132 : vok RX11 132 yX0_neighbours cX0_neighbours 4 (some .int) := vok_of (WD_mem (i := 767) (by decide +kernel) rfl) wnX0_neighbours weX0_neighbours wiX0_neighbours wcX0_neighbours
theorem vkX11_136 : vok RX11 136 yX0_isFull cX0_isFull 3 (some .boolean) := vok_of (WD_mem (i := 771) (by decide +kernel) rfl) wnX0_isFull weX0_isFull wiX0_isFull wcX0_isFull
theorem vkX11_140 : vok RX11 140 yX0_wayBetween cX0_wayBetween 3 (some .int) := vok_of (WD_mem (i := 780) (by decide +kernel) rfl) wnX0_wayBetween weX0_wayBetween wiX0_wayBetween wcX0_wayBetween
theorem vkX11_143 : vok RX11 143 yX0_priceOver cX0_priceOver 2 (some .int) := vok_of (WD_mem (i := 784) (by decide +kernel) rfl) wnX0_priceOver weX0_priceOver wiX0_priceOver wcX0_priceOver
theorem vkX11_146 : vok RX11 146 yX0_afterCarrying cX0_afterCarrying 4 (some .int) := vok_of (WD_mem (i := 792) (by decide +kernel) rfl) wnX0_afterCarrying weX0_afterCarrying wiX0_afterCarrying wcX0_afterCarrying
theorem vkX11_150 : vok RX11 150 yX5_turnTo cX5_turnTo 3 none := vok_of (WD_mem (i := 820) (by decide +kernel) rfl) wnX5_turnTo weX5_turnTo wiX5_turnTo wcX5_turnTo
theorem vkX11_154 : vok RX11 154 yX0_afterLaying cX0_afterLaying 3 (some .int) := vok_of (WD_mem (i := 829) (by decide +kernel) rfl) wnX0_afterLaying weX0_afterLaying wiX0_afterLaying wcX0_afterLaying
theorem vkX11_157 : vok RX11 157 yX11_turnAndTell cX11_turnAndTell 3 (some .int) := vok_of (WD_mem (i := 834) (by decide +kernel) rfl) wnX11_turnAndTell weX11_turnAndTell wiX11_turnAndTell wcX11_turnAndTell
theorem vkX11_160 : vok RX11 160 yX0_afterEating cX0_afterEating 3 (some .int) := vok_of (WD_mem (i := 842) (by decide +kernel) rfl) wnX0_afterEating weX0_afterEating wiX0_afterEating wcX0_afterEating
theorem vkX11_163 : vok RX11 163 yX5_stepBack cX5_stepBack 1 (some .boolean) := vok_of (WD_mem (i := 850) (by decide +kernel) rfl) wnX5_stepBack weX5_stepBack wiX5_stepBack wcX5_stepBack
theorem vkX11_167 : vok RX11 167 yX9_runOver cX9_runOver 5 none := vok_of (WD_mem (i := 858) (by decide +kernel) rfl) wnX9_runOver weX9_runOver wiX9_runOver wcX9_runOver
theorem vkX11_179 : vok RX11 179 yX10_startAt cX10_startAt 6 none := vok_of (WD_mem (i := 883) (by decide +kernel) rfl) wnX10_startAt weX10_startAt wiX10_startAt wcX10_startAt
theorem vkX11_182 : vok RX11 182 yX10_mostLoads cX10_mostLoads 4 (some .int) := vok_of (WD_mem (i := 941) (by decide +kernel) rfl) wnX10_mostLoads weX10_mostLoads wiX10_mostLoads wcX10_mostLoads
theorem vkX11_185 : vok RX11 185 yX3_prepare cX3_prepare 4 none := vok_of (WD_mem (i := 950) (by decide +kernel) rfl) wnX3_prepare weX3_prepare wiX3_prepare wcX3_prepare
theorem vkX11_188 : vok RX11 188 yX3_fewestTo cX3_fewestTo 3 (some .int) := vok_of (WD_mem (i := 978) (by decide +kernel) rfl) wnX3_fewestTo weX3_fewestTo wiX3_fewestTo wcX3_fewestTo
theorem vkX11_191 : vok RX11 191 yX3_stepOfRow cX3_stepOfRow 8 (some .int) := vok_of (WD_mem (i := 996) (by decide +kernel) rfl) wnX3_stepOfRow weX3_stepOfRow wiX3_stepOfRow wcX3_stepOfRow
theorem vkX11_194 : vok RX11 194 yX10_countRows cX10_countRows 6 (some .int) := vok_of (WD_mem (i := 1014) (by decide +kernel) rfl) wnX10_countRows weX10_countRows wiX10_countRows wcX10_countRows
theorem vkX11_197 : vok RX11 197 yX10_mostTogether cX10_mostTogether 4 (some .int) := vok_of (WD_mem (i := 1045) (by decide +kernel) rfl) wnX10_mostTogether weX10_mostTogether wiX10_mostTogether wcX10_mostTogether
theorem vkX11_200 : vok RX11 200 yX0_allHuts cX0_allHuts 1 (some .int) := vok_of (WD_mem (i := 1053) (by decide +kernel) rfl) wnX0_allHuts weX0_allHuts wiX0_allHuts wcX0_allHuts
theorem vkX11_203 : vok RX11 203 yX10_fewestToHave cX10_fewestToHave 5 (some .int) := vok_of (WD_mem (i := 1054) (by decide +kernel) rfl) wnX10_fewestToHave weX10_fewestToHave wiX10_fewestToHave wcX10_fewestToHave
theorem vkX11_209 : vok RX11 209 yX10_fewestToSum cX10_fewestToSum 5 (some .int) := vok_of (WD_mem (i := 1070) (by decide +kernel) rfl) wnX10_fewestToSum weX10_fewestToSum wiX10_fewestToSum wcX10_fewestToSum
theorem vkX11_212 : vok RX11 212 yX0_isStuck cX0_isStuck 4 (some .boolean) := vok_of (WD_mem (i := 1078) (by decide +kernel) rfl) wnX0_isStuck weX0_isStuck wiX0_isStuck wcX0_isStuck
theorem vkX11_215 : vok RX11 215 yX10_longestRow cX10_longestRow 3 (some .int) := vok_of (WD_mem (i := 1086) (by decide +kernel) rfl) wnX10_longestRow weX10_longestRow wiX10_longestRow wcX10_longestRow
theorem vkX11_218 : vok RX11 218 yX10_countEnds cX10_countEnds 3 (some .int) := vok_of (WD_mem (i := 1094) (by decide +kernel) rfl) wnX10_countEnds weX10_countEnds wiX10_countEnds wcX10_countEnds
theorem vkX11_221 : vok RX11 221 yX0_onlyIn cX0_onlyIn 3 (some .int) := vok_of (WD_mem (i := 1102) (by decide +kernel) rfl) wnX0_onlyIn weX0_onlyIn wiX0_onlyIn wcX0_onlyIn
theorem vkX11_224 : vok RX11 224 yX3_comesTo cX3_comesTo 3 (some .boolean) := vok_of (WD_mem (i := 1110) (by decide +kernel) rfl) wnX3_comesTo weX3_comesTo wiX3_comesTo wcX3_comesTo
theorem vkX11_230 : vok RX11 230 yX3_hutsFrom cX3_hutsFrom 2 (some .int) := vok_of (WD_mem (i := 1118) (by decide +kernel) rfl) wnX3_hutsFrom weX3_hutsFrom wiX3_hutsFrom wcX3_hutsFrom
theorem vkX11_233 : vok RX11 233 yX6_firstToLayIn cX6_firstToLayIn 5 (some .int) := vok_of (WD_mem (i := 1130) (by decide +kernel) rfl) wnX6_firstToLayIn weX6_firstToLayIn wiX6_firstToLayIn wcX6_firstToLayIn
theorem vkX11_236 : vok RX11 236 yX6_firstGuarded cX6_firstGuarded 7 (some .int) := vok_of (WD_mem (i := 1140) (by decide +kernel) rfl) wnX6_firstGuarded weX6_firstGuarded wiX6_firstGuarded wcX6_firstGuarded
theorem vkX11_239 : vok RX11 239 yX0_sumOf cX0_sumOf 4 (some .int) := vok_of (WD_mem (i := 1157) (by decide +kernel) rfl) wnX0_sumOf weX0_sumOf wiX0_sumOf wcX0_sumOf
theorem vkX11_242 : vok RX11 242 yX0_countBefore cX0_countBefore 8 (some .int) := vok_of (WD_mem (i := 1162) (by decide +kernel) rfl) wnX0_countBefore weX0_countBefore wiX0_countBefore wcX0_countBefore
theorem vkX11_245 : vok RX11 245 yX0_joinedTo cX0_joinedTo 4 (some .int) := vok_of (WD_mem (i := 1171) (by decide +kernel) rfl) wnX0_joinedTo weX0_joinedTo wiX0_joinedTo wcX0_joinedTo
theorem vkX11_248 : vok RX11 248 yX0_pathsBetween cX0_pathsBetween 5 (some .int) := vok_of (WD_mem (i := 1184) (by decide +kernel) rfl) wnX0_pathsBetween weX0_pathsBetween wiX0_pathsBetween wcX0_pathsBetween
theorem vkX11_251 : vok RX11 251 yX0_leastProduct cX0_leastProduct 5 (some .int) := vok_of (WD_mem (i := 1196) (by decide +kernel) rfl) wnX0_leastProduct weX0_leastProduct wiX0_leastProduct wcX0_leastProduct
theorem vkX11_254 : vok RX11 254 yX6_countLayings cX6_countLayings 5 (some .int) := vok_of (WD_mem (i := 1211) (by decide +kernel) rfl) wnX6_countLayings weX6_countLayings wiX6_countLayings wcX6_countLayings
theorem vkX11_257 : vok RX11 257 yX6_countComing cX6_countComing 7 (some .int) := vok_of (WD_mem (i := 1220) (by decide +kernel) rfl) wnX6_countComing weX6_countComing wiX6_countComing wcX6_countComing
theorem vkX11_260 : vok RX11 260 yX6_countEdens cX6_countEdens 6 (some .int) := vok_of (WD_mem (i := 1228) (by decide +kernel) rfl) wnX6_countEdens weX6_countEdens wiX6_countEdens wcX6_countEdens
theorem vkX11_263 : vok RX11 263 yX6_sureFrom cX6_sureFrom 4 (some .int) := vok_of (WD_mem (i := 1237) (by decide +kernel) rfl) wnX6_sureFrom weX6_sureFrom wiX6_sureFrom wcX6_sureFrom
theorem vkX11_266 : vok RX11 266 yX6_firstWithout cX6_firstWithout 3 (some .int) := vok_of (WD_mem (i := 1253) (by decide +kernel) rfl) wnX6_firstWithout weX6_firstWithout wiX6_firstWithout wcX6_firstWithout
theorem vkX11_269 : vok RX11 269 yX6_firstForAll cX6_firstForAll 5 (some .int) := vok_of (WD_mem (i := 1261) (by decide +kernel) rfl) wnX6_firstForAll weX6_firstForAll wiX6_firstForAll wcX6_firstForAll
theorem vkX11_272 : vok RX11 272 yX3_pullLength cX3_pullLength 2 (some .int) := vok_of (WD_mem (i := 1270) (by decide +kernel) rfl) wnX3_pullLength weX3_pullLength wiX3_pullLength wcX3_pullLength
theorem vkX11_275 : vok RX11 275 yX3_bestPull cX3_bestPull 7 (some .int) := vok_of (WD_mem (i := 1278) (by decide +kernel) rfl) wnX3_bestPull weX3_bestPull wiX3_bestPull wcX3_bestPull
theorem vkX11_278 : vok RX11 278 yX0_codeOf cX0_codeOf 2 (some .int) := vok_of (WD_mem (i := 1282) (by decide +kernel) rfl) wnX0_codeOf weX0_codeOf wiX0_codeOf wcX0_codeOf
theorem vkX11_281 : vok RX11 281 yX5_addSeen cX5_addSeen 4 (some .boolean) := vok_of (WD_mem (i := 1287) (by decide +kernel) rfl) wnX5_addSeen weX5_addSeen wiX5_addSeen wcX5_addSeen
theorem vkX11_285 : vok RX11 285 yX6_countFitting cX6_countFitting 7 (some .int) := vok_of (WD_mem (i := 1295) (by decide +kernel) rfl) wnX6_countFitting weX6_countFitting wiX6_countFitting wcX6_countFitting
theorem vkX11_289 : vok RX11 289 yX6_bestLook cX6_bestLook 9 (some .int) := vok_of (WD_mem (i := 1308) (by decide +kernel) rfl) wnX6_bestLook weX6_bestLook wiX6_bestLook wcX6_bestLook
theorem vkX11_295 : vok RX11 295 yX10_millionths cX10_millionths 8 (some .int) := vok_of (WD_mem (i := 1323) (by decide +kernel) rfl) wnX10_millionths weX10_millionths wiX10_millionths wcX10_millionths
theorem vkX11_312 : vok RX11 312 yX5_drawSeasons cX5_drawSeasons 14 (some .int) := vok_of (WD_mem (i := 1336) (by decide +kernel) rfl) wnX5_drawSeasons weX5_drawSeasons wiX5_drawSeasons wcX5_drawSeasons
theorem vkX11_316 : vok RX11 316 yX5_backToMark cX5_backToMark 3 (some .boolean) := vok_of (WD_mem (i := 1358) (by decide +kernel) rfl) wnX5_backToMark weX5_backToMark wiX5_backToMark wcX5_backToMark
theorem vkX11_319 : vok RX11 319 yX5_layMark cX5_layMark 3 (some .boolean) := vok_of (WD_mem (i := 1362) (by decide +kernel) rfl) wnX5_layMark weX5_layMark wiX5_layMark wcX5_layMark
theorem vkX11_325 : vok RX11 325 yX0_occupied cX0_occupied 4 (some .int) := vok_of (WD_mem (i := 1370) (by decide +kernel) rfl) wnX0_occupied weX0_occupied wiX0_occupied wcX0_occupied
theorem vkX0_59 : vok RX0 59 yX0_fillNone cX0_fillNone 2 none := vok_of (WD_mem (i := 323) (by decide +kernel) rfl) wnX0_fillNone weX0_fillNone wiX0_fillNone wcX0_fillNone
theorem vkX0_72 : vok RX0 72 yX1_clear cX1_clear 1 none := vok_of (WD_mem (i := 549) (by decide +kernel) rfl) wnX1_clear weX1_clear wiX1_clear wcX1_clear
theorem vkX0_75 : vok RX0 75 yX0_isHut cX0_isHut 2 (some .boolean) := vok_of (WD_mem (i := 654) (by decide +kernel) rfl) wnX0_isHut weX0_isHut wiX0_isHut wcX0_isHut
theorem vkX0_79 : vok RX0 79 yX0_takesBetween cX0_takesBetween 3 (some .int) := vok_of (WD_mem (i := 705) (by decide +kernel) rfl) wnX0_takesBetween weX0_takesBetween wiX0_takesBetween wcX0_takesBetween
theorem vkX0_83 : vok RX0 83 yX0_addWay cX0_addWay 4 none := vok_of (WD_mem (i := 706) (by decide +kernel) rfl) wnX0_addWay weX0_addWay wiX0_addWay wcX0_addWay
theorem vkX0_87 : vok RX0 87 yX0_shiftOf cX0_shiftOf 2 (some .int) := vok_of (WD_mem (i := 713) (by decide +kernel) rfl) wnX0_shiftOf weX0_shiftOf wiX0_shiftOf wcX0_shiftOf
theorem vkX0_96 : vok RX0 96 yX0_loadsIn cX0_loadsIn 3 (some .int) := vok_of (WD_mem (i := 775) (by decide +kernel) rfl) wnX0_loadsIn weX0_loadsIn wiX0_loadsIn wcX0_loadsIn
theorem vkX0_99 : vok RX0 99 yX1_bars cX1_bars 9 (some .boolean) := vok_of (WD_mem (i := 805) (by decide +kernel) rfl) wnX1_bars weX1_bars wiX1_bars wcX1_bars
theorem vkX0_103 : vok RX0 103 yX0_sumOf cX0_sumOf 4 (some .int) := vok_of (WD_mem (i := 796) (by decide +kernel) rfl) wnX0_sumOf weX0_sumOf wiX0_sumOf wcX0_sumOf
theorem vkX0_106 : vok RX0 106 yX0_wayBetween cX0_wayBetween 3 (some .int) := vok_of (WD_mem (i := 800) (by decide +kernel) rfl) wnX0_wayBetween weX0_wayBetween wiX0_wayBetween wcX0_wayBetween
theorem vkX0_109 : vok RX0 109 yX0_afterWay cX0_afterWay 7 (some .int) := vok_of (WD_mem (i := 801) (by decide +kernel) rfl) wnX0_afterWay weX0_afterWay wiX0_afterWay wcX0_afterWay
theorem vkX0_113 : vok RX0 113 yX0_isFull cX0_isFull 3 (some .boolean) := vok_of (WD_mem (i := 833) (by decide +kernel) rfl) wnX0_isFull weX0_isFull wiX0_isFull wcX0_isFull
theorem vkX0_117 : vok RX0 117 yX0_isWayToLie cX0_isWayToLie 2 (some .boolean) := vok_of (WD_mem (i := 1166) (by decide +kernel) rfl) wnX0_isWayToLie weX0_isWayToLie wiX0_isWayToLie wcX0_isWayToLie
theorem vkX0_120 : vok RX0 120 yX0_neighbours cX0_neighbours 4 (some .int) := vok_of (WD_mem (i := 1179) (by decide +kernel) rfl) wnX0_neighbours weX0_neighbours wiX0_neighbours wcX0_neighbours
theorem vkX0_123 : vok RX0 123 yX0_withNeighbours cX0_withNeighbours 4 (some .int) := vok_of (WD_mem (i := 1175) (by decide +kernel) rfl) wnX0_withNeighbours weX0_withNeighbours wiX0_withNeighbours wcX0_withNeighbours
theorem vkX0_127 : vok RX0 127 yX0_passProductOn cX0_passProductOn 5 none := vok_of (WD_mem (i := 1201) (by decide +kernel) rfl) wnX0_passProductOn weX0_passProductOn wiX0_passProductOn wcX0_passProductOn
theorem vkX0_130 : vok RX0 130 yX0_priceOver cX0_priceOver 2 (some .int) := vok_of (WD_mem (i := 1205) (by decide +kernel) rfl) wnX0_priceOver weX0_priceOver wiX0_priceOver wcX0_priceOver
theorem vkX1_46 : vok RX1 46 yX1_reckon cX1_reckon 8 (some .int) := vok_of (WD_mem (i := 809) (by decide +kernel) rfl) wnX1_reckon weX1_reckon wiX1_reckon wcX1_reckon
theorem vkX2_27 : vok RX2 27 yX2_addLowest cX2_addLowest 8 (some .int) := vok_of (WD_mem (i := 213) (by decide +kernel) rfl) wnX2_addLowest weX2_addLowest wiX2_addLowest wcX2_addLowest
theorem vkX2_31 : vok RX2 31 yX2_fillEnds cX2_fillEnds 4 none := vok_of (WD_mem (i := 217) (by decide +kernel) rfl) wnX2_fillEnds weX2_fillEnds wiX2_fillEnds wcX2_fillEnds
theorem vkX2_34 : vok RX2 34 yX0_afterWay cX0_afterWay 7 (some .int) := vok_of (WD_mem (i := 938) (by decide +kernel) rfl) wnX0_afterWay weX0_afterWay wiX0_afterWay wcX0_afterWay
theorem vkX2_39 : vok RX2 39 yX0_priceOver cX0_priceOver 2 (some .int) := vok_of (WD_mem (i := 939) (by decide +kernel) rfl) wnX0_priceOver weX0_priceOver wiX0_priceOver wcX0_priceOver
theorem vkX2_43 : vok RX2 43 yX2_numberOf cX2_numberOf 6 (some .int) := vok_of (WD_mem (i := 940) (by decide +kernel) rfl) wnX2_numberOf weX2_numberOf wiX2_numberOf wcX2_numberOf
theorem vkX3_37 : vok RX3 37 yX2_endOf cX2_endOf 4 (some .int) := vok_of (WD_mem (i := 954) (by decide +kernel) rfl) wnX2_endOf weX2_endOf wiX2_endOf wcX2_endOf
theorem vkX3_43 : vok RX3 43 yX2_firstOf cX2_firstOf 2 (some .int) := vok_of (WD_mem (i := 955) (by decide +kernel) rfl) wnX2_firstOf weX2_firstOf wiX2_firstOf wcX2_firstOf
theorem vkX3_47 : vok RX3 47 yX2_lyingAt cX2_lyingAt 2 (some .int) := vok_of (WD_mem (i := 956) (by decide +kernel) rfl) wnX2_lyingAt weX2_lyingAt wiX2_lyingAt wcX2_lyingAt
theorem vkX3_50 : vok RX3 50 yX0_isWayToLie cX0_isWayToLie 2 (some .boolean) := vok_of (WD_mem (i := 957) (by decide +kernel) rfl) wnX0_isWayToLie weX0_isWayToLie wiX0_isWayToLie wcX0_isWayToLie
theorem vkX3_54 : vok RX3 54 yX3_reckonOne cX3_reckonOne 10 none := vok_of (WD_mem (i := 961) (by decide +kernel) rfl) wnX3_reckonOne weX3_reckonOne wiX3_reckonOne wcX3_reckonOne
theorem vkX3_61 : vok RX3 61 yX2_numberBehind cX2_numberBehind 6 (some .int) := vok_of (WD_mem (i := 965) (by decide +kernel) rfl) wnX2_numberBehind weX2_numberBehind wiX2_numberBehind wcX2_numberBehind
theorem vkX3_65 : vok RX3 65 yX3_pullAt cX3_pullAt 2 (some .int) := vok_of (WD_mem (i := 966) (by decide +kernel) rfl) wnX3_pullAt weX3_pullAt wiX3_pullAt wcX3_pullAt
theorem vkX3_68 : vok RX3 68 yX3_comingsAt cX3_comingsAt 2 (some .long) := vok_of (WD_mem (i := 970) (by decide +kernel) rfl) wnX3_comingsAt weX3_comingsAt wiX3_comingsAt wcX3_comingsAt
theorem vkX3_76 : vok RX3 76 yX0_loadsIn cX0_loadsIn 3 (some .int) := vok_of (WD_mem (i := 977) (by decide +kernel) rfl) wnX0_loadsIn weX0_loadsIn wiX0_loadsIn wcX0_loadsIn
theorem vkX3_79 : vok RX3 79 yX0_sumOf cX0_sumOf 4 (some .int) := vok_of (WD_mem (i := 986) (by decide +kernel) rfl) wnX0_sumOf weX0_sumOf wiX0_sumOf wcX0_sumOf
theorem vkX3_82 : vok RX3 82 yX2_numberOf cX2_numberOf 6 (some .int) := vok_of (WD_mem (i := 987) (by decide +kernel) rfl) wnX2_numberOf weX2_numberOf wiX2_numberOf wcX2_numberOf
theorem vkX3_87 : vok RX3 87 yX3_comingsOf cX3_comingsOf 2 (some .long) := vok_of (WD_mem (i := 982) (by decide +kernel) rfl) wnX3_comingsOf weX3_comingsOf wiX3_comingsOf wcX3_comingsOf
theorem vkX3_94 : vok RX3 94 yX3_hutsOf cX3_hutsOf 5 (some .int) := vok_of (WD_mem (i := 1122) (by decide +kernel) rfl) wnX3_hutsOf weX3_hutsOf wiX3_hutsOf wcX3_hutsOf
theorem vkX3_98 : vok RX3 98 yX3_fewestTo cX3_fewestTo 3 (some .int) := vok_of (WD_mem (i := 1000) (by decide +kernel) rfl) wnX3_fewestTo weX3_fewestTo wiX3_fewestTo wcX3_fewestTo
theorem vkX3_101 : vok RX3 101 yX3_firstWayTowards cX3_firstWayTowards 7 (some .int) := vok_of (WD_mem (i := 1001) (by decide +kernel) rfl) wnX3_firstWayTowards weX3_firstWayTowards wiX3_firstWayTowards wcX3_firstWayTowards
theorem vkX3_105 : vok RX3 105 yX0_codeOf cX0_codeOf 2 (some .int) := vok_of (WD_mem (i := 1006) (by decide +kernel) rfl) wnX0_codeOf weX0_codeOf wiX0_codeOf wcX0_codeOf
theorem vkX3_108 : vok RX3 108 yX0_afterWay cX0_afterWay 7 (some .int) := vok_of (WD_mem (i := 1005) (by decide +kernel) rfl) wnX0_afterWay weX0_afterWay wiX0_afterWay wcX0_afterWay
theorem vkX4_24 : vok RX4 24 yX0_clear cX0_clear 2 none := vok_of (WD_mem (i := 545) (by decide +kernel) rfl) wnX0_clear weX0_clear wiX0_clear wcX0_clear
theorem vkX4_33 : vok RX4 33 yX8_start cX8_start 1 none := vok_of (WD_mem (i := 556) (by decide +kernel) rfl) wnX8_start weX8_start wiX8_start wcX8_start
theorem vkX4_39 : vok RX4 39 yX4_readHut cX4_readHut 7 none := vok_of (WD_mem (i := 594) (by decide +kernel) rfl) wnX4_readHut weX4_readHut wiX4_readHut wcX4_readHut
theorem vkX4_43 : vok RX4 43 yX4_readPath cX4_readPath 5 none := vok_of (WD_mem (i := 634) (by decide +kernel) rfl) wnX4_readPath weX4_readPath wiX4_readPath wcX4_readPath
theorem vkX4_46 : vok RX4 46 yX4_readBars cX4_readBars 2 none := vok_of (WD_mem (i := 662) (by decide +kernel) rfl) wnX4_readBars weX4_readBars wiX4_readBars wcX4_readBars
theorem vkX4_49 : vok RX4 49 yX4_wrong cX4_wrong 2 none := vok_of (WD_mem (i := 598) (by decide +kernel) rfl) wnX4_wrong weX4_wrong wiX4_wrong wcX4_wrong
theorem vkX4_53 : vok RX4 53 yX7_clear cX7_clear 1 none := vok_of (WD_mem (i := 697) (by decide +kernel) rfl) wnX7_clear weX7_clear wiX7_clear wcX7_clear
theorem vkX4_56 : vok RX4 56 yX0_finish cX0_finish 3 none := vok_of (WD_mem (i := 701) (by decide +kernel) rfl) wnX0_finish weX0_finish wiX0_finish wcX0_finish
theorem vkX4_59 : vok RX4 59 yX9_clear cX9_clear 1 none := vok_of (WD_mem (i := 749) (by decide +kernel) rfl) wnX9_clear weX9_clear wiX9_clear wcX9_clear
theorem vkX4_62 : vok RX4 62 yX4_readTripLine cX4_readTripLine 6 none := vok_of (WD_mem (i := 750) (by decide +kernel) rfl) wnX4_readTripLine weX4_readTripLine wiX4_readTripLine wcX4_readTripLine
theorem vkX4_69 : vok RX4 69 yX8_next cX8_next 2 none := vok_of (WD_mem (i := 602) (by decide +kernel) rfl) wnX8_next weX8_next wiX8_next wcX8_next
theorem vkX4_75 : vok RX4 75 yX4_readNewName cX4_readNewName 4 (some .long) := vok_of (WD_mem (i := 603) (by decide +kernel) rfl) wnX4_readNewName weX4_readNewName wiX4_readNewName wcX4_readNewName
theorem vkX4_79 : vok RX4 79 yX4_readHutKind cX4_readHutKind 2 (some .int) := vok_of (WD_mem (i := 615) (by decide +kernel) rfl) wnX4_readHutKind weX4_readHutKind wiX4_readHutKind wcX4_readHutKind
theorem vkX4_83 : vok RX4 83 yX4_expect cX4_expect 2 none := vok_of (WD_mem (i := 611) (by decide +kernel) rfl) wnX4_expect weX4_expect wiX4_expect wcX4_expect
theorem vkX4_86 : vok RX4 86 yX0_toldLoads cX0_toldLoads 3 (some .int) := vok_of (WD_mem (i := 619) (by decide +kernel) rfl) wnX0_toldLoads weX0_toldLoads wiX0_toldLoads wcX0_toldLoads
theorem vkX4_95 : vok RX4 95 yX4_readNumber cX4_readNumber 4 (some .int) := vok_of (WD_mem (i := 626) (by decide +kernel) rfl) wnX4_readNumber weX4_readNumber wiX4_readNumber wcX4_readNumber
theorem vkX4_98 : vok RX4 98 yX0_addHut cX0_addHut 5 none := vok_of (WD_mem (i := 630) (by decide +kernel) rfl) wnX0_addHut weX0_addHut wiX0_addHut wcX0_addHut
theorem vkX4_106 : vok RX4 106 yX0_hutNamed cX0_hutNamed 4 (some .int) := vok_of (WD_mem (i := 607) (by decide +kernel) rfl) wnX0_hutNamed weX0_hutNamed wiX0_hutNamed wcX0_hutNamed
theorem vkX4_113 : vok RX4 113 yX4_readToldName cX4_readToldName 3 (some .int) := vok_of (WD_mem (i := 638) (by decide +kernel) rfl) wnX4_readToldName weX4_readToldName wiX4_readToldName wcX4_readToldName
theorem vkX4_117 : vok RX4 117 yX4_readOtherName cX4_readOtherName 5 (some .int) := vok_of (WD_mem (i := 646) (by decide +kernel) rfl) wnX4_readOtherName weX4_readOtherName wiX4_readOtherName wcX4_readOtherName
theorem vkX4_121 : vok RX4 121 yX0_addPath cX0_addPath 4 none := vok_of (WD_mem (i := 658) (by decide +kernel) rfl) wnX0_addPath weX0_addPath wiX0_addPath wcX0_addPath
theorem vkX4_125 : vok RX4 125 yX4_tokenHut cX4_tokenHut 3 (some .int) := vok_of (WD_mem (i := 642) (by decide +kernel) rfl) wnX4_tokenHut weX4_tokenHut wiX4_tokenHut wcX4_tokenHut
theorem vkX4_128 : vok RX4 128 yX0_takesBetween cX0_takesBetween 3 (some .int) := vok_of (WD_mem (i := 650) (by decide +kernel) rfl) wnX0_takesBetween weX0_takesBetween wiX0_takesBetween wcX0_takesBetween
theorem vkX4_140 : vok RX4 140 yX4_readTests cX4_readTests 5 none := vok_of (WD_mem (i := 666) (by decide +kernel) rfl) wnX4_readTests weX4_readTests wiX4_readTests wcX4_readTests
theorem vkX4_144 : vok RX4 144 yX4_readTest cX4_readTest 4 none := vok_of (WD_mem (i := 670) (by decide +kernel) rfl) wnX4_readTest weX4_readTest wiX4_readTest wcX4_readTest
theorem vkX4_147 : vok RX4 147 yX1_add cX1_add 2 none := vok_of (WD_mem (i := 693) (by decide +kernel) rfl) wnX1_add weX1_add wiX1_add wcX1_add
theorem vkX4_150 : vok RX4 150 yX4_readSum cX4_readSum 5 none := vok_of (WD_mem (i := 674) (by decide +kernel) rfl) wnX4_readSum weX4_readSum wiX4_readSum wcX4_readSum
theorem vkX4_153 : vok RX4 153 yX4_readProduct cX4_readProduct 4 none := vok_of (WD_mem (i := 678) (by decide +kernel) rfl) wnX4_readProduct weX4_readProduct wiX4_readProduct wcX4_readProduct
theorem vkX4_156 : vok RX4 156 yX4_readPart cX4_readPart 6 none := vok_of (WD_mem (i := 682) (by decide +kernel) rfl) wnX4_readPart weX4_readPart wiX4_readPart wcX4_readPart
theorem vkX4_165 : vok RX4 165 yX9_addLine cX9_addLine 4 none := vok_of (WD_mem (i := 754) (by decide +kernel) rfl) wnX9_addLine weX9_addLine wiX9_addLine wcX9_addLine
theorem vkX5_59 : vok RX5 59 yX0_loadsIn cX0_loadsIn 3 (some .int) := vok_of (WD_mem (i := 1303) (by decide +kernel) rfl) wnX0_loadsIn weX0_loadsIn wiX0_loadsIn wcX0_loadsIn
theorem vkX5_75 : vok RX5 75 yX0_afterCarrying cX0_afterCarrying 4 (some .int) := vok_of (WD_mem (i := 1350) (by decide +kernel) rfl) wnX0_afterCarrying weX0_afterCarrying wiX0_afterCarrying wcX0_afterCarrying
theorem vkX5_79 : vok RX5 79 yX0_afterLaying cX0_afterLaying 3 (some .int) := vok_of (WD_mem (i := 1351) (by decide +kernel) rfl) wnX0_afterLaying weX0_afterLaying wiX0_afterLaying wcX0_afterLaying
theorem vkX5_82 : vok RX5 82 yX0_sumOf cX0_sumOf 4 (some .int) := vok_of (WD_mem (i := 1352) (by decide +kernel) rfl) wnX0_sumOf weX0_sumOf wiX0_sumOf wcX0_sumOf
theorem vkX5_86 : vok RX5 86 yX0_occupied cX0_occupied 4 (some .int) := vok_of (WD_mem (i := 1353) (by decide +kernel) rfl) wnX0_occupied weX0_occupied wiX0_occupied wcX0_occupied
theorem vkX6_33 : vok RX6 33 yX2_endOf cX2_endOf 4 (some .int) := vok_of (WD_mem (i := 1145) (by decide +kernel) rfl) wnX2_endOf weX2_endOf wiX2_endOf wcX2_endOf
theorem vkX6_39 : vok RX6 39 yX2_firstOf cX2_firstOf 2 (some .int) := vok_of (WD_mem (i := 1146) (by decide +kernel) rfl) wnX2_firstOf weX2_firstOf wiX2_firstOf wcX2_firstOf
theorem vkX6_43 : vok RX6 43 yX2_lyingAt cX2_lyingAt 2 (some .int) := vok_of (WD_mem (i := 1147) (by decide +kernel) rfl) wnX2_lyingAt weX2_lyingAt wiX2_lyingAt wcX2_lyingAt
theorem vkX6_46 : vok RX6 46 yX0_isWayToLie cX0_isWayToLie 2 (some .boolean) := vok_of (WD_mem (i := 1215) (by decide +kernel) rfl) wnX0_isWayToLie weX0_isWayToLie wiX0_isWayToLie wcX0_isWayToLie
theorem vkX6_50 : vok RX6 50 yX3_hutsFromNumber cX3_hutsFromNumber 2 (some .int) := vok_of (WD_mem (i := 1153) (by decide +kernel) rfl) wnX3_hutsFromNumber weX3_hutsFromNumber wiX3_hutsFromNumber wcX3_hutsFromNumber
theorem vkX6_55 : vok RX6 55 yX0_countBefore cX0_countBefore 8 (some .int) := vok_of (WD_mem (i := 1232) (by decide +kernel) rfl) wnX0_countBefore weX0_countBefore wiX0_countBefore wcX0_countBefore
theorem vkX6_58 : vok RX6 58 yX6_firstFailing cX6_firstFailing 6 (some .int) := vok_of (WD_mem (i := 1241) (by decide +kernel) rfl) wnX6_firstFailing weX6_firstFailing wiX6_firstFailing wcX6_firstFailing
theorem vkX6_61 : vok RX6 61 yX0_allHuts cX0_allHuts 1 (some .int) := vok_of (WD_mem (i := 1265) (by decide +kernel) rfl) wnX0_allHuts weX0_allHuts wiX0_allHuts wcX0_allHuts
theorem vkX6_65 : vok RX6 65 yX0_afterLaying cX0_afterLaying 3 (some .int) := vok_of (WD_mem (i := 1134) (by decide +kernel) rfl) wnX0_afterLaying weX0_afterLaying wiX0_afterLaying wcX0_afterLaying
theorem vkX6_68 : vok RX6 68 yX3_comesTo cX3_comesTo 3 (some .boolean) := vok_of (WD_mem (i := 1135) (by decide +kernel) rfl) wnX3_comesTo weX3_comesTo wiX3_comesTo wcX3_comesTo
theorem vkX6_72 : vok RX6 72 yX0_sumOf cX0_sumOf 4 (some .int) := vok_of (WD_mem (i := 1144) (by decide +kernel) rfl) wnX0_sumOf weX0_sumOf wiX0_sumOf wcX0_sumOf
theorem vkX6_75 : vok RX6 75 yX6_isWithin cX6_isWithin 4 (some .boolean) := vok_of (WD_mem (i := 1148) (by decide +kernel) rfl) wnX6_isWithin weX6_isWithin wiX6_isWithin wcX6_isWithin
theorem vkX6_78 : vok RX6 78 yX0_loadsIn cX0_loadsIn 3 (some .int) := vok_of (WD_mem (i := 1152) (by decide +kernel) rfl) wnX0_loadsIn weX0_loadsIn wiX0_loadsIn wcX0_loadsIn
theorem vkX6_86 : vok RX6 86 yX5_agrees cX5_agrees 5 (some .boolean) := vok_of (WD_mem (i := 1299) (by decide +kernel) rfl) wnX5_agrees weX5_agrees wiX5_agrees wcX5_agrees
theorem vkX6_95 : vok RX6 95 yX6_tallyFitting cX6_tallyFitting 7 none := vok_of (WD_mem (i := 1312) (by decide +kernel) rfl) wnX6_tallyFitting weX6_tallyFitting wiX6_tallyFitting wcX6_tallyFitting
theorem vkX6_99 : vok RX6 99 yX6_countFitting cX6_countFitting 7 (some .int) := vok_of (WD_mem (i := 1317) (by decide +kernel) rfl) wnX6_countFitting weX6_countFitting wiX6_countFitting wcX6_countFitting
theorem vkX8_17 : vok RX8 17 yX8_next cX8_next 2 none := vok_of (WD_mem (i := 560) (by decide +kernel) rfl) wnX8_next weX8_next wiX8_next wcX8_next
theorem vkX8_28 : vok RX8 28 yX7_signAt cX7_signAt 2 (some .int) := vok_of (WD_mem (i := 564) (by decide +kernel) rfl) wnX7_signAt weX7_signAt wiX7_signAt wcX7_signAt
theorem vkX8_42 : vok RX8 42 yX8_takeWord cX8_takeWord 1 none := vok_of (WD_mem (i := 574) (by decide +kernel) rfl) wnX8_takeWord weX8_takeWord wiX8_takeWord wcX8_takeWord
theorem vkX8_48 : vok RX8 48 yX8_takeNumber cX8_takeNumber 1 none := vok_of (WD_mem (i := 587) (by decide +kernel) rfl) wnX8_takeNumber weX8_takeNumber wiX8_takeNumber wcX8_takeNumber
theorem vkX8_58 : vok RX8 58 yX8_kindOfWord cX8_kindOfWord 2 (some .int) := vok_of (WD_mem (i := 578) (by decide +kernel) rfl) wnX8_kindOfWord weX8_kindOfWord wiX8_kindOfWord wcX8_kindOfWord
theorem vkX9_25 : vok RX9 25 yX0_toldLying cX0_toldLying 3 (some .int) := vok_of (WD_mem (i := 862) (by decide +kernel) rfl) wnX0_toldLying weX0_toldLying wiX0_toldLying wcX0_toldLying
theorem vkX9_37 : vok RX9 37 yX9_afterLine cX9_afterLine 4 (some .int) := vok_of (WD_mem (i := 863) (by decide +kernel) rfl) wnX9_afterLine weX9_afterLine wiX9_afterLine wcX9_afterLine
theorem vkX9_41 : vok RX9 41 yX0_occupied cX0_occupied 4 (some .int) := vok_of (WD_mem (i := 870) (by decide +kernel) rfl) wnX0_occupied weX0_occupied wiX0_occupied wcX0_occupied
theorem vkX9_45 : vok RX9 45 yX0_allHuts cX0_allHuts 1 (some .int) := vok_of (WD_mem (i := 874) (by decide +kernel) rfl) wnX0_allHuts weX0_allHuts wiX0_allHuts wcX0_allHuts
theorem vkX9_48 : vok RX9 48 yX0_sumOf cX0_sumOf 4 (some .int) := vok_of (WD_mem (i := 878) (by decide +kernel) rfl) wnX0_sumOf weX0_sumOf wiX0_sumOf wcX0_sumOf
theorem vkX9_54 : vok RX9 54 yX0_afterCarrying cX0_afterCarrying 4 (some .int) := vok_of (WD_mem (i := 867) (by decide +kernel) rfl) wnX0_afterCarrying weX0_afterCarrying wiX0_afterCarrying wcX0_afterCarrying
theorem vkX9_58 : vok RX9 58 yX0_afterLaying cX0_afterLaying 3 (some .int) := vok_of (WD_mem (i := 868) (by decide +kernel) rfl) wnX0_afterLaying weX0_afterLaying wiX0_afterLaying wcX0_afterLaying
theorem vkX9_62 : vok RX9 62 yX0_afterEating cX0_afterEating 3 (some .int) := vok_of (WD_mem (i := 869) (by decide +kernel) rfl) wnX0_afterEating weX0_afterEating wiX0_afterEating wcX0_afterEating
theorem vkX10_40 : vok RX10 40 yX10_numberAt cX10_numberAt 2 (some .int) := vok_of (WD_mem (i := 887) (by decide +kernel) rfl) wnX10_numberAt weX10_numberAt wiX10_numberAt wcX10_numberAt
theorem vkX10_44 : vok RX10 44 yX10_setInfo cX10_setInfo 3 none := vok_of (WD_mem (i := 891) (by decide +kernel) rfl) wnX10_setInfo weX10_setInfo wiX10_setInfo wcX10_setInfo
theorem vkX10_48 : vok RX10 48 yX0_sumOf cX0_sumOf 4 (some .int) := vok_of (WD_mem (i := 895) (by decide +kernel) rfl) wnX0_sumOf weX0_sumOf wiX0_sumOf wcX0_sumOf
theorem vkX10_53 : vok RX10 53 yX2_numberOf cX2_numberOf 6 (some .int) := vok_of (WD_mem (i := 896) (by decide +kernel) rfl) wnX2_numberOf weX2_numberOf wiX2_numberOf wcX2_numberOf
theorem vkX10_59 : vok RX10 59 yX10_merge cX10_merge 6 none := vok_of (WD_mem (i := 900) (by decide +kernel) rfl) wnX10_merge weX10_merge wiX10_merge wcX10_merge
theorem vkX10_63 : vok RX10 63 yX2_firstOf cX2_firstOf 2 (some .int) := vok_of (WD_mem (i := 918) (by decide +kernel) rfl) wnX2_firstOf weX2_firstOf wiX2_firstOf wcX2_firstOf
theorem vkX10_69 : vok RX10 69 yX2_endOf cX2_endOf 4 (some .int) := vok_of (WD_mem (i := 922) (by decide +kernel) rfl) wnX2_endOf weX2_endOf wiX2_endOf wcX2_endOf
theorem vkX10_72 : vok RX10 72 yX10_infoOf cX10_infoOf 2 (some .int) := vok_of (WD_mem (i := 904) (by decide +kernel) rfl) wnX10_infoOf weX10_infoOf wiX10_infoOf wcX10_infoOf
theorem vkX10_75 : vok RX10 75 yX10_spread cX10_spread 8 none := vok_of (WD_mem (i := 926) (by decide +kernel) rfl) wnX10_spread weX10_spread wiX10_spread wcX10_spread
theorem vkX10_78 : vok RX10 78 yX2_lyingAt cX2_lyingAt 2 (some .int) := vok_of (WD_mem (i := 930) (by decide +kernel) rfl) wnX2_lyingAt weX2_lyingAt wiX2_lyingAt wcX2_lyingAt
theorem vkX10_81 : vok RX10 81 yX10_fewestOf cX10_fewestOf 2 (some .int) := vok_of (WD_mem (i := 908) (by decide +kernel) rfl) wnX10_fewestOf weX10_fewestOf wiX10_fewestOf wcX10_fewestOf
theorem vkX10_84 : vok RX10 84 yX10_longestOf cX10_longestOf 2 (some .int) := vok_of (WD_mem (i := 913) (by decide +kernel) rfl) wnX10_longestOf weX10_longestOf wiX10_longestOf wcX10_longestOf
theorem vkX10_90 : vok RX10 90 yX2_numberBehind cX2_numberBehind 6 (some .int) := vok_of (WD_mem (i := 934) (by decide +kernel) rfl) wnX2_numberBehind weX2_numberBehind wiX2_numberBehind wcX2_numberBehind
theorem vkX10_102 : vok RX10 102 yX0_loadsIn cX0_loadsIn 3 (some .int) := vok_of (WD_mem (i := 945) (by decide +kernel) rfl) wnX0_loadsIn weX0_loadsIn wiX0_loadsIn wcX0_loadsIn
theorem vkX10_105 : vok RX10 105 yX0_occupied cX0_occupied 4 (some .int) := vok_of (WD_mem (i := 1058) (by decide +kernel) rfl) wnX0_occupied weX0_occupied wiX0_occupied wcX0_occupied
theorem vkX10_108 : vok RX10 108 yX10_setTally cX10_setTally 3 none := vok_of (WD_mem (i := 1022) (by decide +kernel) rfl) wnX10_setTally weX10_setTally wiX10_setTally wcX10_setTally
theorem vkX10_111 : vok RX10 111 yX10_clearTally cX10_clearTally 2 none := vok_of (WD_mem (i := 1018) (by decide +kernel) rfl) wnX10_clearTally weX10_clearTally wiX10_clearTally wcX10_clearTally
theorem vkX10_114 : vok RX10 114 yX10_passRowsOn cX10_passRowsOn 6 none := vok_of (WD_mem (i := 1026) (by decide +kernel) rfl) wnX10_passRowsOn weX10_passRowsOn wiX10_passRowsOn wcX10_passRowsOn
theorem vkX10_118 : vok RX10 118 yX10_tallyOf cX10_tallyOf 2 (some .int) := vok_of (WD_mem (i := 1030) (by decide +kernel) rfl) wnX10_tallyOf weX10_tallyOf wiX10_tallyOf wcX10_tallyOf
theorem vkX10_129 : vok RX10 129 yX10_drawFrom cX10_drawFrom 8 none := vok_of (WD_mem (i := 1327) (by decide +kernel) rfl) wnX10_drawFrom weX10_drawFrom wiX10_drawFrom wcX10_drawFrom
theorem vkX12_7 : vok RX12 7 yX12_lay cX12_lay 5 none := vok_of (WD_mem (i := 1457) (by decide +kernel) rfl) wnX12_lay weX12_lay wiX12_lay wcX12_lay
theorem vkX12_115 : vok RX12 115 yX12_standsAsAlways cX12_standsAsAlways 3 none := vok_of (WD_mem (i := 1486) (by decide +kernel) rfl) wnX12_standsAsAlways weX12_standsAsAlways wiX12_standsAsAlways wcX12_standsAsAlways
theorem vkX12_119 : vok RX12 119 yX12_begins cX12_begins 2 none := vok_of (WD_mem (i := 1490) (by decide +kernel) rfl) wnX12_begins weX12_begins wiX12_begins wcX12_begins
theorem vkX12_151 : vok RX12 151 yX12_isSign cX12_isSign 2 (some .boolean) := vok_of (WD_mem (i := 1687) (by decide +kernel) rfl) wnX12_isSign weX12_isSign wiX12_isSign wcX12_isSign
theorem vkX12_154 : vok RX12 154 yX12_wrong cX12_wrong 2 none := vok_of (WD_mem (i := 1619) (by decide +kernel) rfl) wnX12_wrong weX12_wrong wiX12_wrong wcX12_wrong
theorem vkX12_157 : vok RX12 157 yX12_isWord cX12_isWord 2 (some .boolean) := vok_of (WD_mem (i := 1611) (by decide +kernel) rfl) wnX12_isWord weX12_isWord wiX12_isWord wcX12_isWord
theorem vkX12_160 : vok RX12 160 yX12_hasWord cX12_hasWord 3 (some .boolean) := vok_of (WD_mem (i := 1647) (by decide +kernel) rfl) wnX12_hasWord weX12_hasWord wiX12_hasWord wcX12_hasWord
theorem vkX12_163 : vok RX12 163 yX12_takeWord cX12_takeWord 2 none := vok_of (WD_mem (i := 1643) (by decide +kernel) rfl) wnX12_takeWord weX12_takeWord wiX12_takeWord wcX12_takeWord
theorem vkX12_166 : vok RX12 166 yX12_takeNumber cX12_takeNumber 3 (some .int) := vok_of (WD_mem (i := 1651) (by decide +kernel) rfl) wnX12_takeNumber weX12_takeNumber wiX12_takeNumber wcX12_takeNumber
theorem vkX12_170 : vok RX12 170 yX12_wordHere cX12_wordHere 5 (some .int) := vok_of (WD_mem (i := 1627) (by decide +kernel) rfl) wnX12_wordHere weX12_wordHere wiX12_wordHere wcX12_wordHere
theorem vkX12_173 : vok RX12 173 yX12_isName cX12_isName 1 (some .boolean) := vok_of (WD_mem (i := 1623) (by decide +kernel) rfl) wnX12_isName weX12_isName wiX12_isName wcX12_isName
theorem vkX12_177 : vok RX12 177 yX12_nameAt cX12_nameAt 5 (some .int) := vok_of (WD_mem (i := 1631) (by decide +kernel) rfl) wnX12_nameAt weX12_nameAt wiX12_nameAt wcX12_nameAt
theorem vkX12_180 : vok RX12 180 yX12_cutAll cX12_cutAll 7 none := vok_of (WD_mem (i := 1592) (by decide +kernel) rfl) wnX12_cutAll weX12_cutAll wiX12_cutAll wcX12_cutAll
theorem vkX12_186 : vok RX12 186 yX12_readHut cX12_readHut 5 none := vok_of (WD_mem (i := 1615) (by decide +kernel) rfl) wnX12_readHut weX12_readHut wiX12_readHut wcX12_readHut
theorem vkX12_189 : vok RX12 189 yX12_readPath cX12_readPath 6 none := vok_of (WD_mem (i := 1655) (by decide +kernel) rfl) wnX12_readPath weX12_readPath wiX12_readPath wcX12_readPath
theorem vkX12_192 : vok RX12 192 yX12_readBars cX12_readBars 1 none := vok_of (WD_mem (i := 1663) (by decide +kernel) rfl) wnX12_readBars weX12_readBars wiX12_readBars wcX12_readBars
theorem vkX12_195 : vok RX12 195 yX12_takeSign cX12_takeSign 2 none := vok_of (WD_mem (i := 1699) (by decide +kernel) rfl) wnX12_takeSign weX12_takeSign wiX12_takeSign wcX12_takeSign
theorem vkX12_198 : vok RX12 198 yX12_takeOne cX12_takeOne 4 (some .int) := vok_of (WD_mem (i := 1635) (by decide +kernel) rfl) wnX12_takeOne weX12_takeOne wiX12_takeOne wcX12_takeOne
theorem vkX12_201 : vok RX12 201 yX12_takeAfter cX12_takeAfter 4 (some .int) := vok_of (WD_mem (i := 1639) (by decide +kernel) rfl) wnX12_takeAfter weX12_takeAfter wiX12_takeAfter wcX12_takeAfter
theorem vkX12_205 : vok RX12 205 yX12_takeTold cX12_takeTold 5 (some .int) := vok_of (WD_mem (i := 1659) (by decide +kernel) rfl) wnX12_takeTold weX12_takeTold wiX12_takeTold wcX12_takeTold
theorem vkX12_208 : vok RX12 208 yX12_whole cX12_whole 3 none := vok_of (WD_mem (i := 1667) (by decide +kernel) rfl) wnX12_whole weX12_whole wiX12_whole wcX12_whole
theorem vkX12_211 : vok RX12 211 yX12_emit cX12_emit 3 none := vok_of (WD_mem (i := 1691) (by decide +kernel) rfl) wnX12_emit weX12_emit wiX12_emit wcX12_emit
theorem vkX12_215 : vok RX12 215 yX12_huts cX12_huts 1 (some .int) := vok_of (WD_mem (i := 1498) (by decide +kernel) rfl) wnX12_huts weX12_huts wiX12_huts wcX12_huts
theorem vkX12_219 : vok RX12 219 yX12_test cX12_test 3 none := vok_of (WD_mem (i := 1671) (by decide +kernel) rfl) wnX12_test weX12_test wiX12_test wcX12_test
theorem vkX12_222 : vok RX12 222 yX12_sums cX12_sums 3 none := vok_of (WD_mem (i := 1675) (by decide +kernel) rfl) wnX12_sums weX12_sums wiX12_sums wcX12_sums
theorem vkX12_225 : vok RX12 225 yX12_hasSign cX12_hasSign 3 (some .boolean) := vok_of (WD_mem (i := 1695) (by decide +kernel) rfl) wnX12_hasSign weX12_hasSign wiX12_hasSign wcX12_hasSign
theorem vkX12_228 : vok RX12 228 yX12_products cX12_products 2 none := vok_of (WD_mem (i := 1679) (by decide +kernel) rfl) wnX12_products weX12_products wiX12_products wcX12_products
theorem vkX12_230 : vok RX12 230 yX12_takePart cX12_takePart 4 none := vok_of (WD_mem (i := 1683) (by decide +kernel) rfl) wnX12_takePart weX12_takePart wiX12_takePart wcX12_takePart
theorem vkX12_236 : vok RX12 236 yX12_hutOf cX12_hutOf 3 (some .int) := vok_of (WD_mem (i := 1502) (by decide +kernel) rfl) wnX12_hutOf weX12_hutOf wiX12_hutOf wcX12_hutOf
theorem vkX12_239 : vok RX12 239 yX12_laysTold cX12_laysTold 2 none := vok_of (WD_mem (i := 1494) (by decide +kernel) rfl) wnX12_laysTold weX12_laysTold wiX12_laysTold wcX12_laysTold
theorem vkX12_248 : vok RX12 248 yX12_copies cX12_copies 5 none := vok_of (WD_mem (i := 1765) (by decide +kernel) rfl) wnX12_copies weX12_copies wiX12_copies wcX12_copies
theorem vkX12_252 : vok RX12 252 yX12_priceOf cX12_priceOf 4 (some .int) := vok_of (WD_mem (i := 1734) (by decide +kernel) rfl) wnX12_priceOf weX12_priceOf wiX12_priceOf wcX12_priceOf
theorem vkX12_255 : vok RX12 255 yX12_isFull cX12_isFull 2 (some .boolean) := vok_of (WD_mem (i := 1726) (by decide +kernel) rfl) wnX12_isFull weX12_isFull wiX12_isFull wcX12_isFull
theorem vkX12_258 : vok RX12 258 yX12_allLoads cX12_allLoads 3 (some .int) := vok_of (WD_mem (i := 1746) (by decide +kernel) rfl) wnX12_allLoads weX12_allLoads wiX12_allLoads wcX12_allLoads
theorem vkX12_261 : vok RX12 261 yX12_worthAt cX12_worthAt 5 (some .int) := vok_of (WD_mem (i := 1750) (by decide +kernel) rfl) wnX12_worthAt weX12_worthAt wiX12_worthAt wcX12_worthAt
theorem vkX12_264 : vok RX12 264 yX12_isHut cX12_isHut 2 (some .boolean) := vok_of (WD_mem (i := 1711) (by decide +kernel) rfl) wnX12_isHut weX12_isHut wiX12_isHut wcX12_isHut
theorem vkX12_271 : vok RX12 271 yX12_laysNow cX12_laysNow 2 none := vok_of (WD_mem (i := 1718) (by decide +kernel) rfl) wnX12_laysNow weX12_laysNow wiX12_laysNow wcX12_laysNow
theorem vkX12_274 : vok RX12 274 yX12_pathsFrom cX12_pathsFrom 4 (some .int) := vok_of (WD_mem (i := 1722) (by decide +kernel) rfl) wnX12_pathsFrom weX12_pathsFrom wiX12_pathsFrom wcX12_pathsFrom
theorem vkX12_277 : vok RX12 277 yX12_mayCarry cX12_mayCarry 4 (some .boolean) := vok_of (WD_mem (i := 1742) (by decide +kernel) rfl) wnX12_mayCarry weX12_mayCarry wiX12_mayCarry wcX12_mayCarry
theorem vkX12_281 : vok RX12 281 yX12_keeps cX12_keeps 2 none := vok_of (WD_mem (i := 1761) (by decide +kernel) rfl) wnX12_keeps weX12_keeps wiX12_keeps wcX12_keeps
theorem vkX12_284 : vok RX12 284 yX12_carries cX12_carries 4 none := vok_of (WD_mem (i := 1769) (by decide +kernel) rfl) wnX12_carries weX12_carries wiX12_carries wcX12_carries
theorem vkX12_287 : vok RX12 287 yX12_keepsLoads cX12_keepsLoads 2 none := vok_of (WD_mem (i := 1773) (by decide +kernel) rfl) wnX12_keepsLoads weX12_keepsLoads wiX12_keepsLoads wcX12_keepsLoads
theorem vkX12_290 : vok RX12 290 yX12_loadedNow cX12_loadedNow 3 (some .int) := vok_of (WD_mem (i := 1793) (by decide +kernel) rfl) wnX12_loadedNow weX12_loadedNow wiX12_loadedNow wcX12_loadedNow
theorem vkX12_296 : vok RX12 296 yX12_allWays cX12_allWays 1 (some .int) := vok_of (WD_mem (i := 1809) (by decide +kernel) rfl) wnX12_allWays weX12_allWays wiX12_allWays wcX12_allWays
theorem vkX12_299 : vok RX12 299 yX12_lays cX12_lays 5 none := vok_of (WD_mem (i := 1816) (by decide +kernel) rfl) wnX12_lays weX12_lays wiX12_lays wcX12_lays
theorem vkX12_302 : vok RX12 302 yX12_worthOf cX12_worthOf 8 (some .long) := vok_of (WD_mem (i := 1820) (by decide +kernel) rfl) wnX12_worthOf weX12_worthOf wiX12_worthOf wcX12_worthOf
theorem vkX12_306 : vok RX12 306 yX12_beginOf cX12_beginOf 3 (some .long) := vok_of (WD_mem (i := 1824) (by decide +kernel) rfl) wnX12_beginOf weX12_beginOf wiX12_beginOf wcX12_beginOf
theorem vkX12_309 : vok RX12 309 yX12_numberNow cX12_numberNow 5 (some .int) := vok_of (WD_mem (i := 1829) (by decide +kernel) rfl) wnX12_numberNow weX12_numberNow wiX12_numberNow wcX12_numberNow
theorem vkX12_331 : vok RX12 331 yX12_fills cX12_fills 5 none := vok_of (WD_mem (i := 1805) (by decide +kernel) rfl) wnX12_fills weX12_fills wiX12_fills wcX12_fills
theorem vkX12_334 : vok RX12 334 yX12_asked cX12_asked 3 (some .long) := vok_of (WD_mem (i := 1801) (by decide +kernel) rfl) wnX12_asked weX12_asked wiX12_asked wcX12_asked
theorem vkX12_337 : vok RX12 337 yX12_marksOn cX12_marksOn 4 (some .boolean) := vok_of (WD_mem (i := 1885) (by decide +kernel) rfl) wnX12_marksOn weX12_marksOn wiX12_marksOn wcX12_marksOn
theorem vkX12_340 : vok RX12 340 yX12_laysAlone cX12_laysAlone 3 none := vok_of (WD_mem (i := 1893) (by decide +kernel) rfl) wnX12_laysAlone weX12_laysAlone wiX12_laysAlone wcX12_laysAlone
theorem vkX12_343 : vok RX12 343 yX12_comesTo cX12_comesTo 1 (some .int) := vok_of (WD_mem (i := 1901) (by decide +kernel) rfl) wnX12_comesTo weX12_comesTo wiX12_comesTo wcX12_comesTo
theorem vkX12_346 : vok RX12 346 yX12_reachOf cX12_reachOf 5 (some .int) := vok_of (WD_mem (i := 1913) (by decide +kernel) rfl) wnX12_reachOf weX12_reachOf wiX12_reachOf wcX12_reachOf
theorem vkX12_349 : vok RX12 349 yX12_isWay cX12_isWay 3 (some .boolean) := vok_of (WD_mem (i := 1937) (by decide +kernel) rfl) wnX12_isWay weX12_isWay wiX12_isWay wcX12_isWay
theorem vkX12_352 : vok RX12 352 yX12_beforeNow cX12_beforeNow 4 (some .int) := vok_of (WD_mem (i := 1933) (by decide +kernel) rfl) wnX12_beforeNow weX12_beforeNow wiX12_beforeNow wcX12_beforeNow
theorem vkX12_355 : vok RX12 355 yX12_lackOf cX12_lackOf 6 (some .int) := vok_of (WD_mem (i := 1945) (by decide +kernel) rfl) wnX12_lackOf weX12_lackOf wiX12_lackOf wcX12_lackOf
theorem vkX12_358 : vok RX12 358 yX12_guardOf cX12_guardOf 7 (some .int) := vok_of (WD_mem (i := 1953) (by decide +kernel) rfl) wnX12_guardOf weX12_guardOf wiX12_guardOf wcX12_guardOf
theorem vkX12_361 : vok RX12 361 yX12_comesBy cX12_comesBy 5 (some .int) := vok_of (WD_mem (i := 1961) (by decide +kernel) rfl) wnX12_comesBy weX12_comesBy wiX12_comesBy wcX12_comesBy
theorem vkX12_364 : vok RX12 364 yX12_sureOf cX12_sureOf 4 (some .int) := vok_of (WD_mem (i := 1977) (by decide +kernel) rfl) wnX12_sureOf weX12_sureOf wiX12_sureOf wcX12_sureOf
theorem vkX12_369 : vok RX12 369 yX12_isAsSeen cX12_isAsSeen 4 (some .boolean) := vok_of (WD_mem (i := 2014) (by decide +kernel) rfl) wnX12_isAsSeen weX12_isAsSeen wiX12_isAsSeen wcX12_isAsSeen
theorem vkX12_372 : vok RX12 372 yX12_talliesNow cX12_talliesNow 6 (some .int) := vok_of (WD_mem (i := 2010) (by decide +kernel) rfl) wnX12_talliesNow weX12_talliesNow wiX12_talliesNow wcX12_talliesNow
theorem vkX12_375 : vok RX12 375 yX12_comesOdd cX12_comesOdd 8 (some .long) := vok_of (WD_mem (i := 2026) (by decide +kernel) rfl) wnX12_comesOdd weX12_comesOdd wiX12_comesOdd wcX12_comesOdd
theorem vkX12_396 : vok RX12 396 yX12_draw cX12_draw 2 (some .int) := vok_of (WD_mem (i := 2046) (by decide +kernel) rfl) wnX12_draw weX12_draw wiX12_draw wcX12_draw
theorem vkX12_399 : vok RX12 399 yX12_drawsDeed cX12_drawsDeed 4 (some .boolean) := vok_of (WD_mem (i := 2042) (by decide +kernel) rfl) wnX12_drawsDeed weX12_drawsDeed wiX12_drawsDeed wcX12_drawsDeed
theorem vkX12_402 : vok RX12 402 yX12_comesNow cX12_comesNow 1 (some .int) := vok_of (WD_mem (i := 2062) (by decide +kernel) rfl) wnX12_comesNow weX12_comesNow wiX12_comesNow wcX12_comesNow
theorem skX11_206 : sok RX11 206 yX11_isSum cX11_isSum 1 (some .boolean) := sok_of (WD_mem (i := 1067) (by decide +kernel) rfl) wsX11_isSum wiX11_isSum wcX11_isSum
theorem skX11_308 : sok RX11 308 yX11_gain cX11_gain 5 (some .int) := sok_of (WD_mem (i := 1446) (by decide +kernel) rfl) wsX11_gain wiX11_gain wcX11_gain
theorem skX1_40 : sok RX1 40 yJ7_fill_d0a16 cJ7_fill_d0a16 5 none := sok_of (WD_mem (i := 553) (by decide +kernel) rfl) wsJ7_fill_d0a16 wiJ7_fill_d0a16 wcJ7_fill_d0a16
theorem skX1_50 : sok RX1 50 yX1_joined cX1_joined 3 (some .int) := sok_of (WD_mem (i := 813) (by decide +kernel) rfl) wsX1_joined wiX1_joined wcX1_joined
theorem skX3_72 : sok RX3 72 yX3_isBetterPull cX3_isBetterPull 4 (some .boolean) := sok_of (WD_mem (i := 974) (by decide +kernel) rfl) wsX3_isBetterPull wiX3_isBetterPull wcX3_isBetterPull
theorem skX3_90 : sok RX3 90 yX3_fewest cX3_fewest 5 (some .int) := sok_of (WD_mem (i := 988) (by decide +kernel) rfl) wsX3_fewest wiX3_fewest wcX3_fewest
theorem skX4_159 : sok RX4 159 yX1_factNamed cX1_factNamed 2 (some .int) := sok_of (WD_mem (i := 686) (by decide +kernel) rfl) wsX1_factNamed wiX1_factNamed wcX1_factNamed
theorem skX5_67 : sok RX5 67 yX5_stirred cX5_stirred 2 (some .long) := sok_of (WD_mem (i := 1340) (by decide +kernel) rfl) wsX5_stirred wiX5_stirred wcX5_stirred
theorem skX5_71 : sok RX5 71 yX5_drawn cX5_drawn 3 (some .int) := sok_of (WD_mem (i := 1346) (by decide +kernel) rfl) wsX5_drawn wiX5_drawn wcX5_drawn
theorem skX8_32 : sok RX8 32 yX8_isBlank cX8_isBlank 1 (some .boolean) := sok_of (WD_mem (i := 568) (by decide +kernel) rfl) wsX8_isBlank wiX8_isBlank wcX8_isBlank
theorem skX8_39 : sok RX8 39 yX8_isLetter cX8_isLetter 1 (some .boolean) := sok_of (WD_mem (i := 571) (by decide +kernel) rfl) wsX8_isLetter wiX8_isLetter wcX8_isLetter
theorem skX8_45 : sok RX8 45 yX8_isDigit cX8_isDigit 1 (some .boolean) := sok_of (WD_mem (i := 584) (by decide +kernel) rfl) wsX8_isDigit wiX8_isDigit wcX8_isDigit
theorem skX8_51 : sok RX8 51 yX8_isOwnSign cX8_isOwnSign 1 (some .boolean) := sok_of (WD_mem (i := 591) (by decide +kernel) rfl) wsX8_isOwnSign wiX8_isOwnSign wcX8_isOwnSign
theorem skX10_121 : sok RX10 121 yX10_addRows cX10_addRows 2 (some .int) := sok_of (WD_mem (i := 1034) (by decide +kernel) rfl) wsX10_addRows wiX10_addRows wcX10_addRows
theorem skX12_122 : sok RX12 122 yX12_isLetter cX12_isLetter 1 (some .boolean) := sok_of (WD_mem (i := 1596) (by decide +kernel) rfl) wsX12_isLetter wiX12_isLetter wcX12_isLetter
theorem skX12_131 : sok RX12 131 yX12_rank cX12_rank 1 (some .int) := sok_of (WD_mem (i := 1600) (by decide +kernel) rfl) wsX12_rank wiX12_rank wcX12_rank
theorem skX12_135 : sok RX12 135 yX12_isDigit cX12_isDigit 1 (some .boolean) := sok_of (WD_mem (i := 1603) (by decide +kernel) rfl) wsX12_isDigit wiX12_isDigit wcX12_isDigit
theorem skX12_142 : sok RX12 142 yX12_isSignOf cX12_isSignOf 1 (some .boolean) := sok_of (WD_mem (i := 1608) (by decide +kernel) rfl) wsX12_isSignOf wiX12_isSignOf wcX12_isSignOf
theorem skX12_233 : sok RX12 233 yX12_worked cX12_worked 3 (some .int) := sok_of (WD_mem (i := 1754) (by decide +kernel) rfl) wsX12_worked wiX12_worked wcX12_worked
theorem skX12_267 : sok RX12 267 yX12_within cX12_within 3 (some .boolean) := sok_of (WD_mem (i := 1715) (by decide +kernel) rfl) wsX12_within wiX12_within wcX12_within
theorem skX12_293 : sok RX12 293 yX12_waysOf cX12_waysOf 4 (some .int) := sok_of (WD_mem (i := 1813) (by decide +kernel) rfl) wsX12_waysOf wiX12_waysOf wcX12_waysOf
theorem skX12_312 : sok RX12 312 yX12_joined cX12_joined 5 (some .long) := sok_of (WD_mem (i := 1833) (by decide +kernel) rfl) wsX12_joined wiX12_joined wcX12_joined
theorem skX12_318 : sok RX12 318 yX12_joinedWays cX12_joinedWays 8 (some .long) := sok_of (WD_mem (i := 1836) (by decide +kernel) rfl) wsX12_joinedWays wiX12_joinedWays wcX12_joinedWays
theorem skX12_322 : sok RX12 322 yX12_joinedPull cX12_joinedPull 7 (some .long) := sok_of (WD_mem (i := 1841) (by decide +kernel) rfl) wsX12_joinedPull wiX12_joinedPull wcX12_joinedPull
theorem skX12_380 : sok RX12 380 yX12_getsBy cX12_getsBy 5 (some .int) := sok_of (WD_mem (i := 2035) (by decide +kernel) rfl) wsX12_getsBy wiX12_getsBy wcX12_getsBy
