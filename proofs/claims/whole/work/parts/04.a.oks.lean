def lm_virt : List Nat := [2, 3, 4, 5, 6, 7, 10, 11, 12, 13, 14, 20, 21, 22, 23, 24, 25, 26, 27, 37, 38, 39, 41, 42, 43, 44, 45, 46, 47, 48, 49, 50, 51, 53, 54, 55, 56, 57, 58, 59, 60, 61, 62, 63, 64, 65, 67, 68, 69, 70, 72, 73, 78, 79, 80, 81, 82, 83, 84, 85, 86, 87, 88, 89, 90, 91, 92, 93, 94, 95, 96, 97, 98, 99, 100, 101, 102, 103, 104, 105, 106, 107, 108, 109, 110, 111, 112, 113, 114, 115, 116, 117, 118, 119, 120, 121, 122, 123, 124, 125, 126, 127, 128, 129, 130, 132, 134, 137, 139, 140, 141, 142, 143, 144, 145, 146, 148, 149, 150, 151, 152, 153, 154, 155, 156, 159, 160, 161, 162, 163, 164, 165, 166, 167, 168, 169, 170, 171, 172, 173, 174, 175, 176, 177, 178, 179, 180, 181, 182, 183, 184, 185, 186, 187, 188, 189, 190, 191, 192, 193, 194, 195, 196, 197, 199, 200, 201, 202, 203, 204, 205, 206, 207, 208, 209, 210, 211, 212, 213, 214, 215, 216, 217, 218, 219, 220, 222, 223, 224, 225, 227, 228, 229, 230]
def lm_stat : List Nat := [9, 15, 16, 17, 18, 28, 29, 30, 31, 32, 33, 34, 35, 40, 74, 75, 76, 77, 133, 135, 136, 138, 147, 157, 158, 198, 221, 226, 231, 232, 233]
theorem lm_tk1 {w : Jvm.Cond} (h : w ∈ tables_1_1) : w ∈ lw_tbl := List.mem_append_right _ (show w ∈ tables_1 from List.mem_append_left _ h)
theorem lm_tk2 {w : Jvm.Cond} (h : w ∈ tables_1_2) : w ∈ lw_tbl := List.mem_append_right _ (show w ∈ tables_1 from List.mem_append_right _ (List.mem_append_left _ h))
theorem lm_tk3 {w : Jvm.Cond} (h : w ∈ tables_1_3) : w ∈ lw_tbl := List.mem_append_right _ (show w ∈ tables_1 from List.mem_append_right _ (List.mem_append_right _ (List.mem_append_left _ h)))
theorem lm_tk4 {w : Jvm.Cond} (h : w ∈ tables_1_4) : w ∈ lw_tbl := List.mem_append_right _ (show w ∈ tables_1 from List.mem_append_right _ (List.mem_append_right _ (List.mem_append_right _ (List.mem_append_left _ h))))
theorem lm_tk5 {w : Jvm.Cond} (h : w ∈ tables_1_5) : w ∈ lw_tbl := List.mem_append_right _ (show w ∈ tables_1 from List.mem_append_right _ (List.mem_append_right _ (List.mem_append_right _ (List.mem_append_right _ (List.mem_append_left _ h)))))
theorem lm_tk6 {w : Jvm.Cond} (h : w ∈ tables_1_6) : w ∈ lw_tbl := List.mem_append_right _ (show w ∈ tables_1 from List.mem_append_right _ (List.mem_append_right _ (List.mem_append_right _ (List.mem_append_right _ (List.mem_append_right _ (h))))))
set_option maxRecDepth 100000 in
theorem lm_cw1 : Cond.code yX0_init cX0_init 2 none ∈ lw_tbl := lm_tk1 (List.mem_of_getElem? (i := 140) rfl)
set_option maxRecDepth 100000 in
theorem lm_cw2 : Cond.code yX0_firstAct cX0_firstAct 3 (some .int) ∈ lw_tbl := lm_tk2 (List.mem_of_getElem? (i := 155) rfl)
set_option maxRecDepth 100000 in
theorem lm_cw3 : Cond.code yX0_gainOf cX0_gainOf 4 (some .int) ∈ lw_tbl := lm_tk4 (List.mem_of_getElem? (i := 24) rfl)
set_option maxRecDepth 100000 in
theorem lm_cw4 : Cond.code yX0_forgetIfChanged cX0_forgetIfChanged 1 none ∈ lw_tbl := lm_tk2 (List.mem_of_getElem? (i := 159) rfl)
set_option maxRecDepth 100000 in
theorem lm_cw5 : Cond.code yX0_gainAt cX0_gainAt 3 (some .int) ∈ lw_tbl := lm_tk2 (List.mem_of_getElem? (i := 184) rfl)
set_option maxRecDepth 100000 in
theorem lm_cw6 : Cond.code yX0_placeOf cX0_placeOf 5 (some .int) ∈ lw_tbl := lm_tk2 (List.mem_of_getElem? (i := 166) rfl)
set_option maxRecDepth 100000 in
theorem lm_cw7 : Cond.code yX0_workOut cX0_workOut 13 none ∈ lw_tbl := lm_tk2 (List.mem_of_getElem? (i := 171) rfl)
set_option maxRecDepth 100000 in
theorem lm_cw8 : Cond.code yX1_init cX1_init 3 none ∈ lw_tbl := lm_tk1 (List.mem_of_getElem? (i := 165) rfl)
set_option maxRecDepth 100000 in
theorem lm_cw9 : Cond.code yX1_isUnder cX1_isUnder 4 (some .boolean) ∈ lw_tbl := lm_tk2 (List.mem_of_getElem? (i := 105) rfl)
set_option maxRecDepth 100000 in
theorem lm_cw10 : Cond.code yX1_choose cX1_choose 3 (some .int) ∈ lw_tbl := lm_tk2 (List.mem_of_getElem? (i := 111) rfl)
set_option maxRecDepth 100000 in
theorem lm_cw11 : Cond.code yX1_mostToday cX1_mostToday 9 (some .int) ∈ lw_tbl := lm_tk2 (List.mem_of_getElem? (i := 116) rfl)
set_option maxRecDepth 100000 in
theorem lm_cw12 : Cond.code yX1_isContent cX1_isContent 3 (some .boolean) ∈ lw_tbl := lm_tk2 (List.mem_of_getElem? (i := 188) rfl)
set_option maxRecDepth 100000 in
theorem lm_cw13 : Cond.code yX1_ownUnlessIdle cX1_ownUnlessIdle 6 (some .int) ∈ lw_tbl := lm_tk2 (List.mem_of_getElem? (i := 192) rfl)
set_option maxRecDepth 100000 in
theorem lm_cw14 : Cond.code yX1_firstAllowed cX1_firstAllowed 3 (some .int) ∈ lw_tbl := lm_tk2 (List.mem_of_getElem? (i := 196) rfl)
set_option maxRecDepth 100000 in
theorem lm_cw15 : Cond.code yX2_mostAgainst cX2_mostAgainst 12 (some .int) ∈ lw_tbl := lm_tk4 (List.mem_of_getElem? (i := 32) rfl)
set_option maxRecDepth 100000 in
theorem lm_cw16 : Cond.code yX2_mostOfBoth cX2_mostOfBoth 8 (some .int) ∈ lw_tbl := lm_tk4 (List.mem_of_getElem? (i := 50) rfl)
set_option maxRecDepth 100000 in
theorem lm_cw17 : Cond.code yX2_canStand cX2_canStand 8 (some .boolean) ∈ lw_tbl := lm_tk4 (List.mem_of_getElem? (i := 62) rfl)
set_option maxRecDepth 100000 in
theorem lm_cw18 : Cond.code yX2_marksWithin cX2_marksWithin 6 (some .int) ∈ lw_tbl := lm_tk4 (List.mem_of_getElem? (i := 70) rfl)
set_option maxRecDepth 100000 in
theorem lm_cw19 : Cond.code yX3_init cX3_init 1 none ∈ lw_tbl := lm_tk1 (List.mem_of_getElem? (i := 206) rfl)
set_option maxRecDepth 100000 in
theorem lm_cw20 : Cond.code yX3_isRow cX3_isRow 1 (some .boolean) ∈ lw_tbl := lm_tk2 (List.mem_of_getElem? (i := 55) rfl)
set_option maxRecDepth 100000 in
theorem lm_cw21 : Cond.code yX3_isRule cX3_isRule 1 (some .boolean) ∈ lw_tbl := lm_tk2 (List.mem_of_getElem? (i := 51) rfl)
set_option maxRecDepth 100000 in
theorem lm_cw22 : Cond.code yX3_ruleKind cX3_ruleKind 1 (some .int) ∈ lw_tbl := lm_tk2 (List.mem_of_getElem? (i := 102) rfl)
set_option maxRecDepth 100000 in
theorem lm_cw23 : Cond.code yX3_takeRow cX3_takeRow 3 none ∈ lw_tbl := lm_tk2 (List.mem_of_getElem? (i := 36) rfl)
set_option maxRecDepth 100000 in
theorem lm_cw24 : Cond.code yX3_takeRule cX3_takeRule 3 none ∈ lw_tbl := lm_tk2 (List.mem_of_getElem? (i := 90) rfl)
set_option maxRecDepth 100000 in
theorem lm_cw25 : Cond.code yX3_hasCell cX3_hasCell 2 (some .boolean) ∈ lw_tbl := lm_tk2 (List.mem_of_getElem? (i := 59) rfl)
set_option maxRecDepth 100000 in
theorem lm_cw26 : Cond.code yX3_hasCells cX3_hasCells 3 (some .boolean) ∈ lw_tbl := lm_tk2 (List.mem_of_getElem? (i := 71) rfl)
set_option maxRecDepth 100000 in
theorem lm_cw27 : Cond.code yX3_put cX3_put 4 none ∈ lw_tbl := lm_tk2 (List.mem_of_getElem? (i := 63) rfl)
set_option maxRecDepth 100000 in
theorem lm_cw28 : Cond.code yX4_marksIn cX4_marksIn 1 (some .int) ∈ lw_tbl := lm_tk3 (List.mem_of_getElem? (i := 169) rfl)
set_option maxRecDepth 100000 in
theorem lm_cw29 : Cond.code yX4_isStanding cX4_isStanding 2 (some .boolean) ∈ lw_tbl := lm_tk2 (List.mem_of_getElem? (i := 131) rfl)
set_option maxRecDepth 100000 in
theorem lm_cw30 : Cond.code yX4_turned cX4_turned 2 (some .int) ∈ lw_tbl := lm_tk2 (List.mem_of_getElem? (i := 141) rfl)
set_option maxRecDepth 100000 in
theorem lm_cw31 : Cond.code yX4_countIn cX4_countIn 2 (some .int) ∈ lw_tbl := lm_tk2 (List.mem_of_getElem? (i := 134) rfl)
set_option maxRecDepth 100000 in
theorem lm_cw32 : Cond.code yX4_withCount cX4_withCount 4 (some .int) ∈ lw_tbl := lm_tk2 (List.mem_of_getElem? (i := 144) rfl)
set_option maxRecDepth 100000 in
theorem lm_cw33 : Cond.code yX4_allCountsIn cX4_allCountsIn 3 (some .int) ∈ lw_tbl := lm_tk4 (List.mem_of_getElem? (i := 142) rfl)
set_option maxRecDepth 100000 in
theorem lm_cw34 : Cond.code yX4_awakeIn cX4_awakeIn 1 (some .int) ∈ lw_tbl := lm_tk2 (List.mem_of_getElem? (i := 119) rfl)
set_option maxRecDepth 100000 in
theorem lm_cw35 : Cond.code yX4_nextDay cX4_nextDay 1 (some .int) ∈ lw_tbl := lm_tk2 (List.mem_of_getElem? (i := 179) rfl)
set_option maxRecDepth 100000 in
theorem lm_cw36 : Cond.code yX5_init cX5_init 1 none ∈ lw_tbl := lm_tk1 (List.mem_of_getElem? (i := 114) rfl)
set_option maxRecDepth 100000 in
theorem lm_cw37 : Cond.code yX5_add cX5_add 2 none ∈ lw_tbl := lm_tk3 (List.mem_of_getElem? (i := 16) rfl)
set_option maxRecDepth 100000 in
theorem lm_cw38 : Cond.code yX5_readInto cX5_readInto 3 (some .int) ∈ lw_tbl := lm_tk3 (List.mem_of_getElem? (i := 33) rfl)
set_option maxRecDepth 100000 in
theorem lm_cw39 : Cond.code yX5_advance cX5_advance 2 none ∈ lw_tbl := lm_tk3 (List.mem_of_getElem? (i := 37) rfl)
set_option maxRecDepth 100000 in
theorem lm_cw40 : Cond.code yX5_sortOf cX5_sortOf 1 (some .int) ∈ lw_tbl := lm_tk3 (List.mem_of_getElem? (i := 40) rfl)
set_option maxRecDepth 100000 in
theorem lm_cw41 : Cond.code yX5_isWord cX5_isWord 3 (some .boolean) ∈ lw_tbl := lm_tk3 (List.mem_of_getElem? (i := 49) rfl)
set_option maxRecDepth 100000 in
theorem lm_cw42 : Cond.code yX5_takeNumber cX5_takeNumber 5 (some .int) ∈ lw_tbl := lm_tk3 (List.mem_of_getElem? (i := 106) rfl)
set_option maxRecDepth 100000 in
theorem lm_cw43 : Cond.code yX5_readStatement cX5_readStatement 2 (some .boolean) ∈ lw_tbl := lm_tk3 (List.mem_of_getElem? (i := 44) rfl)
set_option maxRecDepth 100000 in
theorem lm_cw44 : Cond.code yX5_readAct cX5_readAct 8 (some .boolean) ∈ lw_tbl := lm_tk3 (List.mem_of_getElem? (i := 101) rfl)
set_option maxRecDepth 100000 in
theorem lm_cw45 : Cond.code yX5_takeMarksBehind cX5_takeMarksBehind 5 (some .int) ∈ lw_tbl := lm_tk3 (List.mem_of_getElem? (i := 111) rfl)
set_option maxRecDepth 100000 in
theorem lm_cw46 : Cond.code yX5_readMark cX5_readMark 3 (some .boolean) ∈ lw_tbl := lm_tk3 (List.mem_of_getElem? (i := 118) rfl)
set_option maxRecDepth 100000 in
theorem lm_cw47 : Cond.code yX5_readCount cX5_readCount 4 (some .boolean) ∈ lw_tbl := lm_tk3 (List.mem_of_getElem? (i := 123) rfl)
set_option maxRecDepth 100000 in
theorem lm_cw48 : Cond.code yX5_readMarkWorth cX5_readMarkWorth 6 (some .boolean) ∈ lw_tbl := lm_tk3 (List.mem_of_getElem? (i := 129) rfl)
set_option maxRecDepth 100000 in
theorem lm_cw49 : Cond.code yX5_readCountWorth cX5_readCountWorth 6 (some .boolean) ∈ lw_tbl := lm_tk3 (List.mem_of_getElem? (i := 136) rfl)
set_option maxRecDepth 100000 in
theorem lm_cw50 : Cond.code yX5_readHidden cX5_readHidden 3 (some .boolean) ∈ lw_tbl := lm_tk3 (List.mem_of_getElem? (i := 142) rfl)
set_option maxRecDepth 100000 in
theorem lm_cw51 : Cond.code yX5_readLock cX5_readLock 4 (some .boolean) ∈ lw_tbl := lm_tk3 (List.mem_of_getElem? (i := 147) rfl)
set_option maxRecDepth 100000 in
theorem lm_cw52 : Cond.code yX6_init cX6_init 1 none ∈ lw_tbl := lm_tk1 (List.mem_of_getElem? (i := 31) rfl)
set_option maxRecDepth 100000 in
theorem lm_cw53 : Cond.code yX6_become cX6_become 2 none ∈ lw_tbl := lm_tk3 (List.mem_of_getElem? (i := 28) rfl)
set_option maxRecDepth 100000 in
theorem lm_cw54 : Cond.code yX6_isFull cX6_isFull 1 (some .boolean) ∈ lw_tbl := lm_tk2 (List.mem_of_getElem? (i := 204) rfl)
set_option maxRecDepth 100000 in
theorem lm_cw55 : Cond.code yX6_addAct cX6_addAct 8 (some .int) ∈ lw_tbl := lm_tk2 (List.mem_of_getElem? (i := 208) rfl)
set_option maxRecDepth 100000 in
theorem lm_cw56 : Cond.code yX6_setWorth cX6_setWorth 4 none ∈ lw_tbl := lm_tk2 (List.mem_of_getElem? (i := 231) rfl)
set_option maxRecDepth 100000 in
theorem lm_cw57 : Cond.code yX6_isLocked cX6_isLocked 3 (some .boolean) ∈ lw_tbl := lm_tk2 (List.mem_of_getElem? (i := 128) rfl)
set_option maxRecDepth 100000 in
theorem lm_cw58 : Cond.code yX6_setLocked cX6_setLocked 5 none ∈ lw_tbl := lm_tk3 (List.mem_of_getElem? (i := 4) rfl)
set_option maxRecDepth 100000 in
theorem lm_cw59 : Cond.code yX6_lockedActs cX6_lockedActs 3 (some .int) ∈ lw_tbl := lm_tk4 (List.mem_of_getElem? (i := 147) rfl)
set_option maxRecDepth 100000 in
theorem lm_cw60 : Cond.code yX6_allows cX6_allows 6 (some .boolean) ∈ lw_tbl := lm_tk2 (List.mem_of_getElem? (i := 124) rfl)
set_option maxRecDepth 100000 in
theorem lm_cw61 : Cond.code yX6_after cX6_after 5 (some .int) ∈ lw_tbl := lm_tk2 (List.mem_of_getElem? (i := 138) rfl)
set_option maxRecDepth 100000 in
theorem lm_cw62 : Cond.code yX6_valueTo cX6_valueTo 6 (some .int) ∈ lw_tbl := lm_tk2 (List.mem_of_getElem? (i := 151) rfl)
set_option maxRecDepth 100000 in
theorem lm_cw63 : Cond.code yX6_live cX6_live 3 none ∈ lw_tbl := lm_tk3 (List.mem_of_getElem? (i := 197) rfl)
set_option maxRecDepth 100000 in
theorem lm_cw64 : Cond.code yX6_likelyActs cX6_likelyActs 7 (some .int) ∈ lw_tbl := lm_tk4 (List.mem_of_getElem? (i := 80) rfl)
set_option maxRecDepth 100000 in
theorem lm_cw65 : Cond.code yX6_drawMark cX6_drawMark 1 (some .int) ∈ lw_tbl := lm_tk4 (List.mem_of_getElem? (i := 122) rfl)
set_option maxRecDepth 100000 in
theorem lm_cw66 : Cond.code yX7_init cX7_init 3 none ∈ lw_tbl := lm_tk1 (List.mem_of_getElem? (i := 178) rfl)
set_option maxRecDepth 100000 in
theorem lm_cw67 : Cond.code yX7_goByRules cX7_goByRules 6 none ∈ lw_tbl := lm_tk3 (List.mem_of_getElem? (i := 213) rfl)
set_option maxRecDepth 100000 in
theorem lm_cw68 : Cond.code yX7_goByRow cX7_goByRow 7 (some .int) ∈ lw_tbl := lm_tk4 (List.mem_of_getElem? (i := 8) rfl)
set_option maxRecDepth 100000 in
theorem lm_cw69 : Cond.code yX7_begin cX7_begin 1 none ∈ lw_tbl := lm_tk3 (List.mem_of_getElem? (i := 217) rfl)
set_option maxRecDepth 100000 in
theorem lm_cw70 : Cond.code yX7_go cX7_go 3 none ∈ lw_tbl := lm_tk3 (List.mem_of_getElem? (i := 224) rfl)
set_option maxRecDepth 100000 in
theorem lm_cw71 : Cond.code yX8_init cX8_init 2 none ∈ lw_tbl := lm_tk1 (List.mem_of_getElem? (i := 23) rfl)
set_option maxRecDepth 100000 in
theorem lm_cw72 : Cond.code yX8_refuse cX8_refuse 2 (some .int) ∈ lw_tbl := lm_tk2 (List.mem_of_getElem? (i := 32) rfl)
set_option maxRecDepth 100000 in
theorem lm_cw73 : Cond.code yX8_refuseGain cX8_refuseGain 2 (some .int) ∈ lw_tbl := lm_tk3 (List.mem_of_getElem? (i := 161) rfl)
set_option maxRecDepth 100000 in
theorem lm_cw74 : Cond.code yX8_isWithin cX8_isWithin 3 (some .boolean) ∈ lw_tbl := lm_tk2 (List.mem_of_getElem? (i := 28) rfl)
set_option maxRecDepth 100000 in
theorem lm_cw75 : Cond.code yX8_isShelf cX8_isShelf 1 (some .boolean) ∈ lw_tbl := lm_tk2 (List.mem_of_getElem? (i := 25) rfl)
set_option maxRecDepth 100000 in
theorem lm_cw76 : Cond.code yX8_isHalf cX8_isHalf 1 (some .boolean) ∈ lw_tbl := lm_tk2 (List.mem_of_getElem? (i := 227) rfl)
set_option maxRecDepth 100000 in
theorem lm_cw77 : Cond.code yX8_isAhead cX8_isAhead 1 (some .boolean) ∈ lw_tbl := lm_tk4 (List.mem_of_getElem? (i := 20) rfl)
set_option maxRecDepth 100000 in
theorem lm_cw78 : Cond.code yX8_isAct cX8_isAct 2 (some .boolean) ∈ lw_tbl := lm_tk2 (List.mem_of_getElem? (i := 239) rfl)
set_option maxRecDepth 100000 in
theorem lm_cw79 : Cond.code yX8_isActOrNone cX8_isActOrNone 2 (some .boolean) ∈ lw_tbl := lm_tk3 (List.mem_of_getElem? (i := 188) rfl)
set_option maxRecDepth 100000 in
theorem lm_cw80 : Cond.code yX8_lackOfRules cX8_lackOfRules 3 (some .int) ∈ lw_tbl := lm_tk2 (List.mem_of_getElem? (i := 98) rfl)
set_option maxRecDepth 100000 in
theorem lm_cw81 : Cond.code yX8_lackOfRow cX8_lackOfRow 3 (some .int) ∈ lw_tbl := lm_tk2 (List.mem_of_getElem? (i := 47) rfl)
set_option maxRecDepth 100000 in
theorem lm_cw82 : Cond.code yX8_row cX8_row 4 (some .int) ∈ lw_tbl := lm_tk2 (List.mem_of_getElem? (i := 22) rfl)
set_option maxRecDepth 100000 in
theorem lm_cw83 : Cond.code yX8_set cX8_set 6 (some .int) ∈ lw_tbl := lm_tk2 (List.mem_of_getElem? (i := 43) rfl)
set_option maxRecDepth 100000 in
theorem lm_cw84 : Cond.code yX8_copy cX8_copy 9 (some .int) ∈ lw_tbl := lm_tk2 (List.mem_of_getElem? (i := 67) rfl)
set_option maxRecDepth 100000 in
theorem lm_cw85 : Cond.code yX8_element cX8_element 3 (some .long) ∈ lw_tbl := lm_tk2 (List.mem_of_getElem? (i := 78) rfl)
set_option maxRecDepth 100000 in
theorem lm_cw86 : Cond.code yX8_holds cX8_holds 2 (some .int) ∈ lw_tbl := lm_tk2 (List.mem_of_getElem? (i := 82) rfl)
set_option maxRecDepth 100000 in
theorem lm_cw87 : Cond.code yX8_rule cX8_rule 4 (some .int) ∈ lw_tbl := lm_tk2 (List.mem_of_getElem? (i := 86) rfl)
set_option maxRecDepth 100000 in
theorem lm_cw88 : Cond.code yX8_says cX8_says 5 (some .int) ∈ lw_tbl := lm_tk2 (List.mem_of_getElem? (i := 94) rfl)
set_option maxRecDepth 100000 in
theorem lm_cw89 : Cond.code yX8_act cX8_act 9 (some .int) ∈ lw_tbl := lm_tk2 (List.mem_of_getElem? (i := 200) rfl)
set_option maxRecDepth 100000 in
theorem lm_cw90 : Cond.code yX8_mark cX8_mark 3 (some .int) ∈ lw_tbl := lm_tk2 (List.mem_of_getElem? (i := 212) rfl)
set_option maxRecDepth 100000 in
theorem lm_cw91 : Cond.code yX8_count cX8_count 4 (some .int) ∈ lw_tbl := lm_tk2 (List.mem_of_getElem? (i := 218) rfl)
set_option maxRecDepth 100000 in
theorem lm_cw92 : Cond.code yX8_likes cX8_likes 5 (some .int) ∈ lw_tbl := lm_tk2 (List.mem_of_getElem? (i := 224) rfl)
set_option maxRecDepth 100000 in
theorem lm_cw93 : Cond.code yX8_lock cX8_lock 4 (some .int) ∈ lw_tbl := lm_tk2 (List.mem_of_getElem? (i := 235) rfl)
set_option maxRecDepth 100000 in
theorem lm_cw94 : Cond.code yX8_hide cX8_hide 3 (some .int) ∈ lw_tbl := lm_tk3 (List.mem_of_getElem? (i := 8) rfl)
set_option maxRecDepth 100000 in
theorem lm_cw95 : Cond.code yX8_feed cX8_feed 2 (some .int) ∈ lw_tbl := lm_tk3 (List.mem_of_getElem? (i := 12) rfl)
set_option maxRecDepth 100000 in
theorem lm_cw96 : Cond.code yX8_wipe cX8_wipe 2 (some .int) ∈ lw_tbl := lm_tk3 (List.mem_of_getElem? (i := 20) rfl)
set_option maxRecDepth 100000 in
theorem lm_cw97 : Cond.code yX8_town cX8_town 3 (some .int) ∈ lw_tbl := lm_tk3 (List.mem_of_getElem? (i := 24) rfl)
set_option maxRecDepth 100000 in
theorem lm_cw98 : Cond.code yX8_actOf cX8_actOf 3 (some .int) ∈ lw_tbl := lm_tk3 (List.mem_of_getElem? (i := 153) rfl)
set_option maxRecDepth 100000 in
theorem lm_cw99 : Cond.code yX8_worthOf cX8_worthOf 3 (some .int) ∈ lw_tbl := lm_tk3 (List.mem_of_getElem? (i := 157) rfl)
set_option maxRecDepth 100000 in
theorem lm_cw100 : Cond.code yX8_stands cX8_stands 2 (some .int) ∈ lw_tbl := lm_tk3 (List.mem_of_getElem? (i := 166) rfl)
set_option maxRecDepth 100000 in
theorem lm_cw101 : Cond.code yX8_can cX8_can 4 (some .int) ∈ lw_tbl := lm_tk3 (List.mem_of_getElem? (i := 174) rfl)
set_option maxRecDepth 100000 in
theorem lm_cw102 : Cond.code yX8_value cX8_value 2 (some .int) ∈ lw_tbl := lm_tk3 (List.mem_of_getElem? (i := 179) rfl)
set_option maxRecDepth 100000 in
theorem lm_cw103 : Cond.code yX8_gain cX8_gain 3 (some .int) ∈ lw_tbl := lm_tk3 (List.mem_of_getElem? (i := 184) rfl)
set_option maxRecDepth 100000 in
theorem lm_cw104 : Cond.code yX8_does cX8_does 2 (some .int) ∈ lw_tbl := lm_tk3 (List.mem_of_getElem? (i := 193) rfl)
set_option maxRecDepth 100000 in
theorem lm_cw105 : Cond.code yX8_next cX8_next 3 (some .int) ∈ lw_tbl := lm_tk3 (List.mem_of_getElem? (i := 205) rfl)
set_option maxRecDepth 100000 in
theorem lm_cw106 : Cond.code yX8_run cX8_run 7 (some .int) ∈ lw_tbl := lm_tk3 (List.mem_of_getElem? (i := 209) rfl)
set_option maxRecDepth 100000 in
theorem lm_cw107 : Cond.code yX8_head cX8_head 8 (some .int) ∈ lw_tbl := lm_tk3 (List.mem_of_getElem? (i := 231) rfl)
set_option maxRecDepth 100000 in
theorem lm_cw108 : Cond.code yX8_days cX8_days 7 (some .int) ∈ lw_tbl := lm_tk3 (List.mem_of_getElem? (i := 236) rfl)
set_option maxRecDepth 100000 in
theorem lm_cw109 : Cond.code yX8_gained cX8_gained 2 (some .int) ∈ lw_tbl := lm_tk4 (List.mem_of_getElem? (i := 0) rfl)
set_option maxRecDepth 100000 in
theorem lm_cw110 : Cond.code yX8_judge cX8_judge 4 (some .int) ∈ lw_tbl := lm_tk4 (List.mem_of_getElem? (i := 4) rfl)
set_option maxRecDepth 100000 in
theorem lm_cw111 : Cond.code yX8_told cX8_told 5 (some .int) ∈ lw_tbl := lm_tk4 (List.mem_of_getElem? (i := 13) rfl)
set_option maxRecDepth 100000 in
theorem lm_cw112 : Cond.code yX8_best cX8_best 3 (some .int) ∈ lw_tbl := lm_tk4 (List.mem_of_getElem? (i := 17) rfl)
set_option maxRecDepth 100000 in
theorem lm_cw113 : Cond.code yX8_against cX8_against 4 (some .int) ∈ lw_tbl := lm_tk4 (List.mem_of_getElem? (i := 29) rfl)
set_option maxRecDepth 100000 in
theorem lm_cw114 : Cond.code yX8_together cX8_together 2 (some .int) ∈ lw_tbl := lm_tk4 (List.mem_of_getElem? (i := 47) rfl)
set_option maxRecDepth 100000 in
theorem lm_cw115 : Cond.code yX8_harm cX8_harm 3 (some .int) ∈ lw_tbl := lm_tk4 (List.mem_of_getElem? (i := 55) rfl)
set_option maxRecDepth 100000 in
theorem lm_cw116 : Cond.code yX8_work cX8_work 5 (some .int) ∈ lw_tbl := lm_tk4 (List.mem_of_getElem? (i := 59) rfl)
set_option maxRecDepth 100000 in
theorem lm_cw117 : Cond.code yX8_reach cX8_reach 2 (some .int) ∈ lw_tbl := lm_tk4 (List.mem_of_getElem? (i := 67) rfl)
set_option maxRecDepth 100000 in
theorem lm_cw118 : Cond.code yX8_found cX8_found 1 (some .int) ∈ lw_tbl := lm_tk4 (List.mem_of_getElem? (i := 76) rfl)
set_option maxRecDepth 100000 in
theorem lm_cw119 : Cond.code yX8_say cX8_say 9 (some .int) ∈ lw_tbl := lm_tk4 (List.mem_of_getElem? (i := 85) rfl)
set_option maxRecDepth 100000 in
theorem lm_cw120 : Cond.code yX8_locking cX8_locking 4 (some .int) ∈ lw_tbl := lm_tk4 (List.mem_of_getElem? (i := 97) rfl)
set_option maxRecDepth 100000 in
theorem lm_cw121 : Cond.code yX8_gainsWithLock cX8_gainsWithLock 5 (some .int) ∈ lw_tbl := lm_tk4 (List.mem_of_getElem? (i := 101) rfl)
set_option maxRecDepth 100000 in
theorem lm_cw122 : Cond.code yX8_which cX8_which 7 (some .int) ∈ lw_tbl := lm_tk4 (List.mem_of_getElem? (i := 105) rfl)
set_option maxRecDepth 100000 in
theorem lm_cw123 : Cond.code yX8_up cX8_up 6 (some .int) ∈ lw_tbl := lm_tk4 (List.mem_of_getElem? (i := 109) rfl)
set_option maxRecDepth 100000 in
theorem lm_cw124 : Cond.code yX8_pact cX8_pact 8 (some .int) ∈ lw_tbl := lm_tk4 (List.mem_of_getElem? (i := 114) rfl)
set_option maxRecDepth 100000 in
theorem lm_cw125 : Cond.code yX8_leap cX8_leap 2 (some .int) ∈ lw_tbl := lm_tk4 (List.mem_of_getElem? (i := 118) rfl)
set_option maxRecDepth 100000 in
theorem lm_cw126 : Cond.code yX8_seed cX8_seed 3 (some .int) ∈ lw_tbl := lm_tk4 (List.mem_of_getElem? (i := 127) rfl)
set_option maxRecDepth 100000 in
theorem lm_cw127 : Cond.code yX8_image cX8_image 1 (some .int) ∈ lw_tbl := lm_tk4 (List.mem_of_getElem? (i := 131) rfl)
set_option maxRecDepth 100000 in
theorem lm_cw128 : Cond.code yX8_back cX8_back 1 (some .int) ∈ lw_tbl := lm_tk4 (List.mem_of_getElem? (i := 135) rfl)
set_option maxRecDepth 100000 in
theorem lm_cw129 : Cond.code yX8_status cX8_status 2 (some .int) ∈ lw_tbl := lm_tk4 (List.mem_of_getElem? (i := 139) rfl)
set_option maxRecDepth 100000 in
theorem lm_cw130 : Cond.code yX8_filledShelves cX8_filledShelves 3 (some .int) ∈ lw_tbl := lm_tk4 (List.mem_of_getElem? (i := 151) rfl)
set_option maxRecDepth 100000 in
theorem lm_cw131 : Cond.code yX9_init cX9_init 1 none ∈ lw_tbl := lm_tk4 (List.mem_of_getElem? (i := 156) rfl)
set_option maxRecDepth 100000 in
theorem lm_cw132 : Cond.code yX9_refuse cX9_refuse 2 (some .int) ∈ lw_tbl := lm_tk5 (List.mem_of_getElem? (i := 44) rfl)
set_option maxRecDepth 100000 in
theorem lm_cw133 : Cond.code yX9_in cX9_in 6 (some .boolean) ∈ lw_tbl := lm_tk5 (List.mem_of_getElem? (i := 38) rfl)
set_option maxRecDepth 100000 in
theorem lm_cw134 : Cond.code yX9_isAct cX9_isAct 3 (some .boolean) ∈ lw_tbl := lm_tk5 (List.mem_of_getElem? (i := 152) rfl)
set_option maxRecDepth 100000 in
theorem lm_cw135 : Cond.code yX9_has cX9_has 2 (some .boolean) ∈ lw_tbl := lm_tk5 (List.mem_of_getElem? (i := 108) rfl)
set_option maxRecDepth 100000 in
theorem lm_cw136 : Cond.code yX9_bits cX9_bits 3 (some .int) ∈ lw_tbl := lm_tk6 (List.mem_of_getElem? (i := 146) rfl)
set_option maxRecDepth 100000 in
theorem lm_cw137 : Cond.code yX9_row cX9_row 5 (some .int) ∈ lw_tbl := lm_tk5 (List.mem_of_getElem? (i := 34) rfl)
set_option maxRecDepth 100000 in
theorem lm_cw138 : Cond.code yX9_fit cX9_fit 3 (some .long) ∈ lw_tbl := lm_tk5 (List.mem_of_getElem? (i := 55) rfl)
set_option maxRecDepth 100000 in
theorem lm_cw139 : Cond.code yX9_noRow cX9_noRow 2 (some .int) ∈ lw_tbl := lm_tk5 (List.mem_of_getElem? (i := 52) rfl)
set_option maxRecDepth 100000 in
theorem lm_cw140 : Cond.code yX9_noRule cX9_noRule 2 (some .int) ∈ lw_tbl := lm_tk6 (List.mem_of_getElem? (i := 39) rfl)
set_option maxRecDepth 100000 in
theorem lm_cw141 : Cond.code yX9_noRules cX9_noRules 3 (some .int) ∈ lw_tbl := lm_tk6 (List.mem_of_getElem? (i := 48) rfl)
set_option maxRecDepth 100000 in
theorem lm_cw142 : Cond.code yX9_set cX9_set 6 (some .int) ∈ lw_tbl := lm_tk5 (List.mem_of_getElem? (i := 48) rfl)
set_option maxRecDepth 100000 in
theorem lm_cw143 : Cond.code yX9_copy cX9_copy 7 (some .int) ∈ lw_tbl := lm_tk5 (List.mem_of_getElem? (i := 59) rfl)
set_option maxRecDepth 100000 in
theorem lm_cw144 : Cond.code yX9_element cX9_element 3 (some .long) ∈ lw_tbl := lm_tk5 (List.mem_of_getElem? (i := 63) rfl)
set_option maxRecDepth 100000 in
theorem lm_cw145 : Cond.code yX9_holds cX9_holds 2 (some .int) ∈ lw_tbl := lm_tk5 (List.mem_of_getElem? (i := 67) rfl)
set_option maxRecDepth 100000 in
theorem lm_cw146 : Cond.code yX9_rule cX9_rule 4 (some .int) ∈ lw_tbl := lm_tk5 (List.mem_of_getElem? (i := 71) rfl)
set_option maxRecDepth 100000 in
theorem lm_cw147 : Cond.code yX9_isUnder cX9_isUnder 2 (some .boolean) ∈ lw_tbl := lm_tk5 (List.mem_of_getElem? (i := 80) rfl)
set_option maxRecDepth 100000 in
theorem lm_cw148 : Cond.code yX9_says cX9_says 3 (some .int) ∈ lw_tbl := lm_tk5 (List.mem_of_getElem? (i := 77) rfl)
set_option maxRecDepth 100000 in
theorem lm_cw149 : Cond.code yX9_act cX9_act 9 (some .int) ∈ lw_tbl := lm_tk5 (List.mem_of_getElem? (i := 124) rfl)
set_option maxRecDepth 100000 in
theorem lm_cw150 : Cond.code yX9_mark cX9_mark 4 (some .int) ∈ lw_tbl := lm_tk5 (List.mem_of_getElem? (i := 132) rfl)
set_option maxRecDepth 100000 in
theorem lm_cw151 : Cond.code yX9_count cX9_count 4 (some .int) ∈ lw_tbl := lm_tk5 (List.mem_of_getElem? (i := 136) rfl)
set_option maxRecDepth 100000 in
theorem lm_cw152 : Cond.code yX9_likes cX9_likes 4 (some .int) ∈ lw_tbl := lm_tk5 (List.mem_of_getElem? (i := 141) rfl)
set_option maxRecDepth 100000 in
theorem lm_cw153 : Cond.code yX9_lock cX9_lock 5 (some .int) ∈ lw_tbl := lm_tk5 (List.mem_of_getElem? (i := 148) rfl)
set_option maxRecDepth 100000 in
theorem lm_cw154 : Cond.code yX9_hide cX9_hide 3 (some .int) ∈ lw_tbl := lm_tk5 (List.mem_of_getElem? (i := 156) rfl)
set_option maxRecDepth 100000 in
theorem lm_cw155 : Cond.code yX9_feed cX9_feed 2 (some .int) ∈ lw_tbl := lm_tk5 (List.mem_of_getElem? (i := 160) rfl)
set_option maxRecDepth 100000 in
theorem lm_cw156 : Cond.code yX9_wipe cX9_wipe 2 (some .int) ∈ lw_tbl := lm_tk5 (List.mem_of_getElem? (i := 164) rfl)
set_option maxRecDepth 100000 in
theorem lm_cw157 : Cond.code yX9_isLetter cX9_isLetter 1 (some .boolean) ∈ lw_tbl := lm_tk5 (List.mem_of_getElem? (i := 192) rfl)
set_option maxRecDepth 100000 in
theorem lm_cw158 : Cond.code yX9_isDigit cX9_isDigit 1 (some .boolean) ∈ lw_tbl := lm_tk5 (List.mem_of_getElem? (i := 195) rfl)
set_option maxRecDepth 100000 in
theorem lm_cw159 : Cond.code yX9_look cX9_look 1 none ∈ lw_tbl := lm_tk5 (List.mem_of_getElem? (i := 189) rfl)
set_option maxRecDepth 100000 in
theorem lm_cw160 : Cond.code yX9_wrong cX9_wrong 1 (some .boolean) ∈ lw_tbl := lm_tk5 (List.mem_of_getElem? (i := 219) rfl)
set_option maxRecDepth 100000 in
theorem lm_cw161 : Cond.code yX9_isWord cX9_isWord 3 (some .boolean) ∈ lw_tbl := lm_tk5 (List.mem_of_getElem? (i := 205) rfl)
set_option maxRecDepth 100000 in
theorem lm_cw162 : Cond.code yX9_number cX9_number 4 (some .boolean) ∈ lw_tbl := lm_tk5 (List.mem_of_getElem? (i := 223) rfl)
set_option maxRecDepth 100000 in
theorem lm_cw163 : Cond.code yX9_tells cX9_tells 5 (some .boolean) ∈ lw_tbl := lm_tk5 (List.mem_of_getElem? (i := 215) rfl)
set_option maxRecDepth 100000 in
theorem lm_cw164 : Cond.code yX9_actTold cX9_actTold 2 (some .boolean) ∈ lw_tbl := lm_tk5 (List.mem_of_getElem? (i := 211) rfl)
set_option maxRecDepth 100000 in
theorem lm_cw165 : Cond.code yX9_worthTold cX9_worthTold 4 (some .boolean) ∈ lw_tbl := lm_tk5 (List.mem_of_getElem? (i := 233) rfl)
set_option maxRecDepth 100000 in
theorem lm_cw166 : Cond.code yX9_statement cX9_statement 2 (some .boolean) ∈ lw_tbl := lm_tk5 (List.mem_of_getElem? (i := 200) rfl)
set_option maxRecDepth 100000 in
theorem lm_cw167 : Cond.code yX9_readAll cX9_readAll 1 (some .boolean) ∈ lw_tbl := lm_tk5 (List.mem_of_getElem? (i := 185) rfl)
set_option maxRecDepth 100000 in
theorem lm_cw168 : Cond.code yX9_town cX9_town 5 (some .int) ∈ lw_tbl := lm_tk5 (List.mem_of_getElem? (i := 168) rfl)
set_option maxRecDepth 100000 in
theorem lm_cw169 : Cond.code yX9_actOf cX9_actOf 3 (some .int) ∈ lw_tbl := lm_tk6 (List.mem_of_getElem? (i := 2) rfl)
set_option maxRecDepth 100000 in
theorem lm_cw170 : Cond.code yX9_worthOf cX9_worthOf 3 (some .int) ∈ lw_tbl := lm_tk6 (List.mem_of_getElem? (i := 6) rfl)
set_option maxRecDepth 100000 in
theorem lm_cw171 : Cond.code yX9_stands cX9_stands 2 (some .int) ∈ lw_tbl := lm_tk6 (List.mem_of_getElem? (i := 11) rfl)
set_option maxRecDepth 100000 in
theorem lm_cw172 : Cond.code yX9_canBe cX9_canBe 5 (some .boolean) ∈ lw_tbl := lm_tk5 (List.mem_of_getElem? (i := 116) rfl)
set_option maxRecDepth 100000 in
theorem lm_cw173 : Cond.code yX9_doIt cX9_doIt 3 none ∈ lw_tbl := lm_tk5 (List.mem_of_getElem? (i := 101) rfl)
set_option maxRecDepth 100000 in
theorem lm_cw174 : Cond.code yX9_valueOf cX9_valueOf 4 (some .int) ∈ lw_tbl := lm_tk5 (List.mem_of_getElem? (i := 105) rfl)
set_option maxRecDepth 100000 in
theorem lm_cw175 : Cond.code yX9_standing cX9_standing 4 (some .long) ∈ lw_tbl := lm_tk5 (List.mem_of_getElem? (i := 96) rfl)
set_option maxRecDepth 100000 in
theorem lm_cw176 : Cond.code yX9_putBack cX9_putBack 6 none ∈ lw_tbl := lm_tk5 (List.mem_of_getElem? (i := 112) rfl)
set_option maxRecDepth 100000 in
theorem lm_cw177 : Cond.code yX9_can cX9_can 4 (some .int) ∈ lw_tbl := lm_tk6 (List.mem_of_getElem? (i := 15) rfl)
set_option maxRecDepth 100000 in
theorem lm_cw178 : Cond.code yX9_value cX9_value 2 (some .int) ∈ lw_tbl := lm_tk6 (List.mem_of_getElem? (i := 19) rfl)
set_option maxRecDepth 100000 in
theorem lm_cw179 : Cond.code yX9_gainBy cX9_gainBy 6 (some .int) ∈ lw_tbl := lm_tk5 (List.mem_of_getElem? (i := 92) rfl)
set_option maxRecDepth 100000 in
theorem lm_cw180 : Cond.code yX9_gain cX9_gain 2 (some .int) ∈ lw_tbl := lm_tk6 (List.mem_of_getElem? (i := 23) rfl)
set_option maxRecDepth 100000 in
theorem lm_cw181 : Cond.code yX9_goes cX9_goes 2 none ∈ lw_tbl := lm_tk6 (List.mem_of_getElem? (i := 31) rfl)
set_option maxRecDepth 100000 in
theorem lm_cw182 : Cond.code yX9_does cX9_does 2 (some .int) ∈ lw_tbl := lm_tk6 (List.mem_of_getElem? (i := 27) rfl)
set_option maxRecDepth 100000 in
theorem lm_cw183 : Cond.code yX9_greatest cX9_greatest 6 (some .int) ∈ lw_tbl := lm_tk5 (List.mem_of_getElem? (i := 88) rfl)
set_option maxRecDepth 100000 in
theorem lm_cw184 : Cond.code yX9_chosen cX9_chosen 6 (some .int) ∈ lw_tbl := lm_tk5 (List.mem_of_getElem? (i := 84) rfl)
set_option maxRecDepth 100000 in
theorem lm_cw185 : Cond.code yX9_next cX9_next 3 (some .int) ∈ lw_tbl := lm_tk6 (List.mem_of_getElem? (i := 35) rfl)
set_option maxRecDepth 100000 in
theorem lm_cw186 : Cond.code yX9_fresh cX9_fresh 1 (some (.object "AwakeByHalvesModel")) ∈ lw_tbl := lm_tk5 (List.mem_of_getElem? (i := 172) rfl)
set_option maxRecDepth 100000 in
theorem lm_cw187 : Cond.code yX9_runs cX9_runs 7 none ∈ lw_tbl := lm_tk6 (List.mem_of_getElem? (i := 52) rfl)
set_option maxRecDepth 100000 in
theorem lm_cw188 : Cond.code yX9_run cX9_run 6 (some .int) ∈ lw_tbl := lm_tk6 (List.mem_of_getElem? (i := 43) rfl)
set_option maxRecDepth 100000 in
theorem lm_cw189 : Cond.code yX9_gainsBy cX9_gainsBy 6 (some .int) ∈ lw_tbl := lm_tk6 (List.mem_of_getElem? (i := 60) rfl)
set_option maxRecDepth 100000 in
theorem lm_cw190 : Cond.code yX9_head cX9_head 8 (some .int) ∈ lw_tbl := lm_tk6 (List.mem_of_getElem? (i := 56) rfl)
set_option maxRecDepth 100000 in
theorem lm_cw191 : Cond.code yX9_days cX9_days 5 (some .int) ∈ lw_tbl := lm_tk6 (List.mem_of_getElem? (i := 64) rfl)
set_option maxRecDepth 100000 in
theorem lm_cw192 : Cond.code yX9_gained cX9_gained 2 (some .int) ∈ lw_tbl := lm_tk6 (List.mem_of_getElem? (i := 69) rfl)
set_option maxRecDepth 100000 in
theorem lm_cw193 : Cond.code yX9_noTold cX9_noTold 4 (some .int) ∈ lw_tbl := lm_tk6 (List.mem_of_getElem? (i := 78) rfl)
set_option maxRecDepth 100000 in
theorem lm_cw194 : Cond.code yX9_goThrough cX9_goThrough 6 (some .int) ∈ lw_tbl := lm_tk6 (List.mem_of_getElem? (i := 82) rfl)
set_option maxRecDepth 100000 in
theorem lm_cw195 : Cond.code yX9_judge cX9_judge 4 (some .int) ∈ lw_tbl := lm_tk6 (List.mem_of_getElem? (i := 74) rfl)
set_option maxRecDepth 100000 in
theorem lm_cw196 : Cond.code yX9_told cX9_told 5 (some .int) ∈ lw_tbl := lm_tk6 (List.mem_of_getElem? (i := 86) rfl)
set_option maxRecDepth 100000 in
theorem lm_cw197 : Cond.code yX9_findBest cX9_findBest 11 none ∈ lw_tbl := lm_tk5 (List.mem_of_getElem? (i := 120) rfl)
set_option maxRecDepth 100000 in
theorem lm_cw198 : Cond.code yX9_areDays cX9_areDays 1 (some .boolean) ∈ lw_tbl := lm_tk6 (List.mem_of_getElem? (i := 93) rfl)
set_option maxRecDepth 100000 in
theorem lm_cw199 : Cond.code yX9_best cX9_best 3 (some .int) ∈ lw_tbl := lm_tk6 (List.mem_of_getElem? (i := 90) rfl)
set_option maxRecDepth 100000 in
theorem lm_cw200 : Cond.code yX9_mostAgainst cX9_mostAgainst 11 (some .int) ∈ lw_tbl := lm_tk6 (List.mem_of_getElem? (i := 101) rfl)
set_option maxRecDepth 100000 in
theorem lm_cw201 : Cond.code yX9_against cX9_against 4 (some .int) ∈ lw_tbl := lm_tk6 (List.mem_of_getElem? (i := 97) rfl)
set_option maxRecDepth 100000 in
theorem lm_cw202 : Cond.code yX9_mostTogether cX9_mostTogether 8 (some .int) ∈ lw_tbl := lm_tk6 (List.mem_of_getElem? (i := 109) rfl)
set_option maxRecDepth 100000 in
theorem lm_cw203 : Cond.code yX9_together cX9_together 2 (some .int) ∈ lw_tbl := lm_tk6 (List.mem_of_getElem? (i := 105) rfl)
set_option maxRecDepth 100000 in
theorem lm_cw204 : Cond.code yX9_harm cX9_harm 2 (some .int) ∈ lw_tbl := lm_tk6 (List.mem_of_getElem? (i := 113) rfl)
set_option maxRecDepth 100000 in
theorem lm_cw205 : Cond.code yX9_isDone cX9_isDone 11 (some .boolean) ∈ lw_tbl := lm_tk6 (List.mem_of_getElem? (i := 125) rfl)
set_option maxRecDepth 100000 in
theorem lm_cw206 : Cond.code yX9_workOf cX9_workOf 4 (some .int) ∈ lw_tbl := lm_tk6 (List.mem_of_getElem? (i := 121) rfl)
set_option maxRecDepth 100000 in
theorem lm_cw207 : Cond.code yX9_work cX9_work 3 (some .int) ∈ lw_tbl := lm_tk6 (List.mem_of_getElem? (i := 117) rfl)
set_option maxRecDepth 100000 in
theorem lm_cw208 : Cond.code yX9_reach cX9_reach 4 (some .int) ∈ lw_tbl := lm_tk6 (List.mem_of_getElem? (i := 129) rfl)
set_option maxRecDepth 100000 in
theorem lm_cw209 : Cond.code yX9_foundBy cX9_foundBy 11 (some .int) ∈ lw_tbl := lm_tk6 (List.mem_of_getElem? (i := 137) rfl)
set_option maxRecDepth 100000 in
theorem lm_cw210 : Cond.code yX9_found cX9_found 1 (some .int) ∈ lw_tbl := lm_tk6 (List.mem_of_getElem? (i := 133) rfl)
set_option maxRecDepth 100000 in
theorem lm_cw211 : Cond.code yX9_say cX9_say 8 (some .int) ∈ lw_tbl := lm_tk6 (List.mem_of_getElem? (i := 142) rfl)
set_option maxRecDepth 100000 in
theorem lm_cw212 : Cond.code yX9_lockingOf cX9_lockingOf 5 (some .int) ∈ lw_tbl := lm_tk6 (List.mem_of_getElem? (i := 158) rfl)
set_option maxRecDepth 100000 in
theorem lm_cw213 : Cond.code yX9_isLocked cX9_isLocked 2 (some .boolean) ∈ lw_tbl := lm_tk6 (List.mem_of_getElem? (i := 154) rfl)
set_option maxRecDepth 100000 in
theorem lm_cw214 : Cond.code yX9_locking cX9_locking 3 (some .int) ∈ lw_tbl := lm_tk6 (List.mem_of_getElem? (i := 150) rfl)
set_option maxRecDepth 100000 in
theorem lm_cw215 : Cond.code yX9_which cX9_which 6 (some .int) ∈ lw_tbl := lm_tk6 (List.mem_of_getElem? (i := 162) rfl)
set_option maxRecDepth 100000 in
theorem lm_cw216 : Cond.code yX9_up cX9_up 8 (some .int) ∈ lw_tbl := lm_tk6 (List.mem_of_getElem? (i := 166) rfl)
set_option maxRecDepth 100000 in
theorem lm_cw217 : Cond.code yX9_pact cX9_pact 8 (some .int) ∈ lw_tbl := lm_tk6 (List.mem_of_getElem? (i := 170) rfl)
set_option maxRecDepth 100000 in
theorem lm_cw218 : Cond.code yX9_draw cX9_draw 2 (some .int) ∈ lw_tbl := lm_tk6 (List.mem_of_getElem? (i := 178) rfl)
set_option maxRecDepth 100000 in
theorem lm_cw219 : Cond.code yX9_leap cX9_leap 2 (some .int) ∈ lw_tbl := lm_tk6 (List.mem_of_getElem? (i := 174) rfl)
set_option maxRecDepth 100000 in
theorem lm_cw220 : Cond.code yX9_seed cX9_seed 3 (some .int) ∈ lw_tbl := lm_tk6 (List.mem_of_getElem? (i := 183) rfl)
set_option maxRecDepth 100000 in
theorem lm_cw221 : Cond.code yX9_over cX9_over 3 none ∈ lw_tbl := lm_tk5 (List.mem_of_getElem? (i := 181) rfl)
set_option maxRecDepth 100000 in
theorem lm_cw222 : Cond.code yX9_takeFrom cX9_takeFrom 3 none ∈ lw_tbl := lm_tk5 (List.mem_of_getElem? (i := 178) rfl)
set_option maxRecDepth 100000 in
theorem lm_cw223 : Cond.code yX9_image cX9_image 1 (some .int) ∈ lw_tbl := lm_tk6 (List.mem_of_getElem? (i := 187) rfl)
set_option maxRecDepth 100000 in
theorem lm_cw224 : Cond.code yX9_back cX9_back 1 (some .int) ∈ lw_tbl := lm_tk6 (List.mem_of_getElem? (i := 191) rfl)
set_option maxRecDepth 100000 in
theorem lm_cw225 : Cond.code yX9_status cX9_status 4 (some .int) ∈ lw_tbl := lm_tk6 (List.mem_of_getElem? (i := 195) rfl)
set_option maxRecDepth 100000 in
theorem lm_cw226 : Cond.code yJ6_bitCount_0f7a4 cJ6_bitCount_0f7a4 1 (some .int) ∈ lw_tbl := lm_tk4 (List.mem_of_getElem? (i := 88) rfl)
set_option maxRecDepth 100000 in
theorem lm_cw227 : Cond.code yJ0_length_8abf5 cJ0_length_8abf5 1 (some .int) ∈ lw_tbl := lm_tk3 (List.mem_of_getElem? (i := 53) rfl)
set_option maxRecDepth 100000 in
theorem lm_cw228 : Cond.code yJ0_charAt_5068e cJ0_charAt_5068e 2 (some .char) ∈ lw_tbl := lm_tk3 (List.mem_of_getElem? (i := 63) rfl)
set_option maxRecDepth 100000 in
theorem lm_cw229 : Cond.code yJ0_coder_7d493 cJ0_coder_7d493 1 (some .byte) ∈ lw_tbl := lm_tk3 (List.mem_of_getElem? (i := 57) rfl)
set_option maxRecDepth 100000 in
theorem lm_cw230 : Cond.code yJ0_isLatin1_aae02 cJ0_isLatin1_aae02 1 (some .boolean) ∈ lw_tbl := lm_tk3 (List.mem_of_getElem? (i := 67) rfl)
set_option maxRecDepth 100000 in
theorem lm_cw231 : Cond.code yJ1_charAt_3b067 cJ1_charAt_3b067 2 (some .char) ∈ lw_tbl := lm_tk3 (List.mem_of_getElem? (i := 70) rfl)
set_option maxRecDepth 100000 in
theorem lm_cw232 : Cond.code yJ7_fill_d0a16 cJ7_fill_d0a16 5 none ∈ lw_tbl := lm_tk2 (List.mem_of_getElem? (i := 39) rfl)
set_option maxRecDepth 100000 in
theorem lm_cw233 : Cond.code yJ7_fill_53178 cJ7_fill_53178 4 none ∈ lw_tbl := lm_tk2 (List.mem_of_getElem? (i := 162) rfl)
set_option maxRecDepth 100000 in
theorem lm_cws0 : ∀ x ∈ lm_mt0.drop 1, Cond.code x.2.1 x.2.2.1 x.2.2.2.1 x.2.2.2.2.1 ∈ lw_tbl := List.forall_mem_cons.mpr ⟨lm_cw1, List.forall_mem_cons.mpr ⟨lm_cw2, List.forall_mem_cons.mpr ⟨lm_cw3, List.forall_mem_cons.mpr ⟨lm_cw4, List.forall_mem_cons.mpr ⟨lm_cw5, List.forall_mem_cons.mpr ⟨lm_cw6, List.forall_mem_cons.mpr ⟨lm_cw7, List.forall_mem_cons.mpr ⟨lm_cw8, List.forall_mem_cons.mpr ⟨lm_cw9, List.forall_mem_cons.mpr ⟨lm_cw10, List.forall_mem_cons.mpr ⟨lm_cw11, List.forall_mem_cons.mpr ⟨lm_cw12, List.forall_mem_cons.mpr ⟨lm_cw13, List.forall_mem_cons.mpr ⟨lm_cw14, List.forall_mem_cons.mpr ⟨lm_cw15, List.forall_mem_cons.mpr ⟨lm_cw16, List.forall_mem_cons.mpr ⟨lm_cw17, List.forall_mem_cons.mpr ⟨lm_cw18, List.forall_mem_cons.mpr ⟨lm_cw19, List.forall_mem_cons.mpr ⟨lm_cw20, List.forall_mem_cons.mpr ⟨lm_cw21, List.forall_mem_cons.mpr ⟨lm_cw22, List.forall_mem_cons.mpr ⟨lm_cw23, List.forall_mem_cons.mpr ⟨lm_cw24, List.forall_mem_cons.mpr ⟨lm_cw25, List.forall_mem_cons.mpr ⟨lm_cw26, List.forall_mem_cons.mpr ⟨lm_cw27, List.forall_mem_cons.mpr ⟨lm_cw28, List.forall_mem_cons.mpr ⟨lm_cw29, List.forall_mem_cons.mpr ⟨lm_cw30, List.forall_mem_cons.mpr ⟨lm_cw31, List.forall_mem_cons.mpr ⟨lm_cw32, List.forall_mem_cons.mpr ⟨lm_cw33, List.forall_mem_cons.mpr ⟨lm_cw34, List.forall_mem_cons.mpr ⟨lm_cw35, List.forall_mem_cons.mpr ⟨lm_cw36, List.forall_mem_cons.mpr ⟨lm_cw37, List.forall_mem_cons.mpr ⟨lm_cw38, List.forall_mem_cons.mpr ⟨lm_cw39, fun _ h => absurd h List.not_mem_nil⟩⟩⟩⟩⟩⟩⟩⟩⟩⟩⟩⟩⟩⟩⟩⟩⟩⟩⟩⟩⟩⟩⟩⟩⟩⟩⟩⟩⟩⟩⟩⟩⟩⟩⟩⟩⟩⟩⟩
set_option maxRecDepth 100000 in
theorem lm_cws1 : ∀ x ∈ lm_mt1, Cond.code x.2.1 x.2.2.1 x.2.2.2.1 x.2.2.2.2.1 ∈ lw_tbl := List.forall_mem_cons.mpr ⟨lm_cw40, List.forall_mem_cons.mpr ⟨lm_cw41, List.forall_mem_cons.mpr ⟨lm_cw42, List.forall_mem_cons.mpr ⟨lm_cw43, List.forall_mem_cons.mpr ⟨lm_cw44, List.forall_mem_cons.mpr ⟨lm_cw45, List.forall_mem_cons.mpr ⟨lm_cw46, List.forall_mem_cons.mpr ⟨lm_cw47, List.forall_mem_cons.mpr ⟨lm_cw48, List.forall_mem_cons.mpr ⟨lm_cw49, List.forall_mem_cons.mpr ⟨lm_cw50, List.forall_mem_cons.mpr ⟨lm_cw51, List.forall_mem_cons.mpr ⟨lm_cw52, List.forall_mem_cons.mpr ⟨lm_cw53, List.forall_mem_cons.mpr ⟨lm_cw54, List.forall_mem_cons.mpr ⟨lm_cw55, List.forall_mem_cons.mpr ⟨lm_cw56, List.forall_mem_cons.mpr ⟨lm_cw57, List.forall_mem_cons.mpr ⟨lm_cw58, List.forall_mem_cons.mpr ⟨lm_cw59, List.forall_mem_cons.mpr ⟨lm_cw60, List.forall_mem_cons.mpr ⟨lm_cw61, List.forall_mem_cons.mpr ⟨lm_cw62, List.forall_mem_cons.mpr ⟨lm_cw63, List.forall_mem_cons.mpr ⟨lm_cw64, List.forall_mem_cons.mpr ⟨lm_cw65, List.forall_mem_cons.mpr ⟨lm_cw66, List.forall_mem_cons.mpr ⟨lm_cw67, List.forall_mem_cons.mpr ⟨lm_cw68, List.forall_mem_cons.mpr ⟨lm_cw69, List.forall_mem_cons.mpr ⟨lm_cw70, List.forall_mem_cons.mpr ⟨lm_cw71, List.forall_mem_cons.mpr ⟨lm_cw72, List.forall_mem_cons.mpr ⟨lm_cw73, List.forall_mem_cons.mpr ⟨lm_cw74, List.forall_mem_cons.mpr ⟨lm_cw75, List.forall_mem_cons.mpr ⟨lm_cw76, List.forall_mem_cons.mpr ⟨lm_cw77, List.forall_mem_cons.mpr ⟨lm_cw78, List.forall_mem_cons.mpr ⟨lm_cw79, fun _ h => absurd h List.not_mem_nil⟩⟩⟩⟩⟩⟩⟩⟩⟩⟩⟩⟩⟩⟩⟩⟩⟩⟩⟩⟩⟩⟩⟩⟩⟩⟩⟩⟩⟩⟩⟩⟩⟩⟩⟩⟩⟩⟩⟩⟩
set_option maxRecDepth 100000 in
theorem lm_cws2 : ∀ x ∈ lm_mt2, Cond.code x.2.1 x.2.2.1 x.2.2.2.1 x.2.2.2.2.1 ∈ lw_tbl := List.forall_mem_cons.mpr ⟨lm_cw80, List.forall_mem_cons.mpr ⟨lm_cw81, List.forall_mem_cons.mpr ⟨lm_cw82, List.forall_mem_cons.mpr ⟨lm_cw83, List.forall_mem_cons.mpr ⟨lm_cw84, List.forall_mem_cons.mpr ⟨lm_cw85, List.forall_mem_cons.mpr ⟨lm_cw86, List.forall_mem_cons.mpr ⟨lm_cw87, List.forall_mem_cons.mpr ⟨lm_cw88, List.forall_mem_cons.mpr ⟨lm_cw89, List.forall_mem_cons.mpr ⟨lm_cw90, List.forall_mem_cons.mpr ⟨lm_cw91, List.forall_mem_cons.mpr ⟨lm_cw92, List.forall_mem_cons.mpr ⟨lm_cw93, List.forall_mem_cons.mpr ⟨lm_cw94, List.forall_mem_cons.mpr ⟨lm_cw95, List.forall_mem_cons.mpr ⟨lm_cw96, List.forall_mem_cons.mpr ⟨lm_cw97, List.forall_mem_cons.mpr ⟨lm_cw98, List.forall_mem_cons.mpr ⟨lm_cw99, List.forall_mem_cons.mpr ⟨lm_cw100, List.forall_mem_cons.mpr ⟨lm_cw101, List.forall_mem_cons.mpr ⟨lm_cw102, List.forall_mem_cons.mpr ⟨lm_cw103, List.forall_mem_cons.mpr ⟨lm_cw104, List.forall_mem_cons.mpr ⟨lm_cw105, List.forall_mem_cons.mpr ⟨lm_cw106, List.forall_mem_cons.mpr ⟨lm_cw107, List.forall_mem_cons.mpr ⟨lm_cw108, List.forall_mem_cons.mpr ⟨lm_cw109, List.forall_mem_cons.mpr ⟨lm_cw110, List.forall_mem_cons.mpr ⟨lm_cw111, List.forall_mem_cons.mpr ⟨lm_cw112, List.forall_mem_cons.mpr ⟨lm_cw113, List.forall_mem_cons.mpr ⟨lm_cw114, List.forall_mem_cons.mpr ⟨lm_cw115, List.forall_mem_cons.mpr ⟨lm_cw116, List.forall_mem_cons.mpr ⟨lm_cw117, List.forall_mem_cons.mpr ⟨lm_cw118, List.forall_mem_cons.mpr ⟨lm_cw119, fun _ h => absurd h List.not_mem_nil⟩⟩⟩⟩⟩⟩⟩⟩⟩⟩⟩⟩⟩⟩⟩⟩⟩⟩⟩⟩⟩⟩⟩⟩⟩⟩⟩⟩⟩⟩⟩⟩⟩⟩⟩⟩⟩⟩⟩⟩
set_option maxRecDepth 100000 in
theorem lm_cws3 : ∀ x ∈ lm_mt3, Cond.code x.2.1 x.2.2.1 x.2.2.2.1 x.2.2.2.2.1 ∈ lw_tbl := List.forall_mem_cons.mpr ⟨lm_cw120, List.forall_mem_cons.mpr ⟨lm_cw121, List.forall_mem_cons.mpr ⟨lm_cw122, List.forall_mem_cons.mpr ⟨lm_cw123, List.forall_mem_cons.mpr ⟨lm_cw124, List.forall_mem_cons.mpr ⟨lm_cw125, List.forall_mem_cons.mpr ⟨lm_cw126, List.forall_mem_cons.mpr ⟨lm_cw127, List.forall_mem_cons.mpr ⟨lm_cw128, List.forall_mem_cons.mpr ⟨lm_cw129, List.forall_mem_cons.mpr ⟨lm_cw130, List.forall_mem_cons.mpr ⟨lm_cw131, List.forall_mem_cons.mpr ⟨lm_cw132, List.forall_mem_cons.mpr ⟨lm_cw133, List.forall_mem_cons.mpr ⟨lm_cw134, List.forall_mem_cons.mpr ⟨lm_cw135, List.forall_mem_cons.mpr ⟨lm_cw136, List.forall_mem_cons.mpr ⟨lm_cw137, List.forall_mem_cons.mpr ⟨lm_cw138, List.forall_mem_cons.mpr ⟨lm_cw139, List.forall_mem_cons.mpr ⟨lm_cw140, List.forall_mem_cons.mpr ⟨lm_cw141, List.forall_mem_cons.mpr ⟨lm_cw142, List.forall_mem_cons.mpr ⟨lm_cw143, List.forall_mem_cons.mpr ⟨lm_cw144, List.forall_mem_cons.mpr ⟨lm_cw145, List.forall_mem_cons.mpr ⟨lm_cw146, List.forall_mem_cons.mpr ⟨lm_cw147, List.forall_mem_cons.mpr ⟨lm_cw148, List.forall_mem_cons.mpr ⟨lm_cw149, List.forall_mem_cons.mpr ⟨lm_cw150, List.forall_mem_cons.mpr ⟨lm_cw151, List.forall_mem_cons.mpr ⟨lm_cw152, List.forall_mem_cons.mpr ⟨lm_cw153, List.forall_mem_cons.mpr ⟨lm_cw154, List.forall_mem_cons.mpr ⟨lm_cw155, List.forall_mem_cons.mpr ⟨lm_cw156, List.forall_mem_cons.mpr ⟨lm_cw157, List.forall_mem_cons.mpr ⟨lm_cw158, List.forall_mem_cons.mpr ⟨lm_cw159, fun _ h => absurd h List.not_mem_nil⟩⟩⟩⟩⟩⟩⟩⟩⟩⟩⟩⟩⟩⟩⟩⟩⟩⟩⟩⟩⟩⟩⟩⟩⟩⟩⟩⟩⟩⟩⟩⟩⟩⟩⟩⟩⟩⟩⟩⟩
set_option maxRecDepth 100000 in
theorem lm_cws4 : ∀ x ∈ lm_mt4, Cond.code x.2.1 x.2.2.1 x.2.2.2.1 x.2.2.2.2.1 ∈ lw_tbl := List.forall_mem_cons.mpr ⟨lm_cw160, List.forall_mem_cons.mpr ⟨lm_cw161, List.forall_mem_cons.mpr ⟨lm_cw162, List.forall_mem_cons.mpr ⟨lm_cw163, List.forall_mem_cons.mpr ⟨lm_cw164, List.forall_mem_cons.mpr ⟨lm_cw165, List.forall_mem_cons.mpr ⟨lm_cw166, List.forall_mem_cons.mpr ⟨lm_cw167, List.forall_mem_cons.mpr ⟨lm_cw168, List.forall_mem_cons.mpr ⟨lm_cw169, List.forall_mem_cons.mpr ⟨lm_cw170, List.forall_mem_cons.mpr ⟨lm_cw171, List.forall_mem_cons.mpr ⟨lm_cw172, List.forall_mem_cons.mpr ⟨lm_cw173, List.forall_mem_cons.mpr ⟨lm_cw174, List.forall_mem_cons.mpr ⟨lm_cw175, List.forall_mem_cons.mpr ⟨lm_cw176, List.forall_mem_cons.mpr ⟨lm_cw177, List.forall_mem_cons.mpr ⟨lm_cw178, List.forall_mem_cons.mpr ⟨lm_cw179, List.forall_mem_cons.mpr ⟨lm_cw180, List.forall_mem_cons.mpr ⟨lm_cw181, List.forall_mem_cons.mpr ⟨lm_cw182, List.forall_mem_cons.mpr ⟨lm_cw183, List.forall_mem_cons.mpr ⟨lm_cw184, List.forall_mem_cons.mpr ⟨lm_cw185, List.forall_mem_cons.mpr ⟨lm_cw186, List.forall_mem_cons.mpr ⟨lm_cw187, List.forall_mem_cons.mpr ⟨lm_cw188, List.forall_mem_cons.mpr ⟨lm_cw189, List.forall_mem_cons.mpr ⟨lm_cw190, List.forall_mem_cons.mpr ⟨lm_cw191, List.forall_mem_cons.mpr ⟨lm_cw192, List.forall_mem_cons.mpr ⟨lm_cw193, List.forall_mem_cons.mpr ⟨lm_cw194, List.forall_mem_cons.mpr ⟨lm_cw195, List.forall_mem_cons.mpr ⟨lm_cw196, List.forall_mem_cons.mpr ⟨lm_cw197, List.forall_mem_cons.mpr ⟨lm_cw198, List.forall_mem_cons.mpr ⟨lm_cw199, fun _ h => absurd h List.not_mem_nil⟩⟩⟩⟩⟩⟩⟩⟩⟩⟩⟩⟩⟩⟩⟩⟩⟩⟩⟩⟩⟩⟩⟩⟩⟩⟩⟩⟩⟩⟩⟩⟩⟩⟩⟩⟩⟩⟩⟩⟩
set_option maxRecDepth 100000 in
theorem lm_cws5 : ∀ x ∈ lm_mt5, Cond.code x.2.1 x.2.2.1 x.2.2.2.1 x.2.2.2.2.1 ∈ lw_tbl := List.forall_mem_cons.mpr ⟨lm_cw200, List.forall_mem_cons.mpr ⟨lm_cw201, List.forall_mem_cons.mpr ⟨lm_cw202, List.forall_mem_cons.mpr ⟨lm_cw203, List.forall_mem_cons.mpr ⟨lm_cw204, List.forall_mem_cons.mpr ⟨lm_cw205, List.forall_mem_cons.mpr ⟨lm_cw206, List.forall_mem_cons.mpr ⟨lm_cw207, List.forall_mem_cons.mpr ⟨lm_cw208, List.forall_mem_cons.mpr ⟨lm_cw209, List.forall_mem_cons.mpr ⟨lm_cw210, List.forall_mem_cons.mpr ⟨lm_cw211, List.forall_mem_cons.mpr ⟨lm_cw212, List.forall_mem_cons.mpr ⟨lm_cw213, List.forall_mem_cons.mpr ⟨lm_cw214, List.forall_mem_cons.mpr ⟨lm_cw215, List.forall_mem_cons.mpr ⟨lm_cw216, List.forall_mem_cons.mpr ⟨lm_cw217, List.forall_mem_cons.mpr ⟨lm_cw218, List.forall_mem_cons.mpr ⟨lm_cw219, List.forall_mem_cons.mpr ⟨lm_cw220, List.forall_mem_cons.mpr ⟨lm_cw221, List.forall_mem_cons.mpr ⟨lm_cw222, List.forall_mem_cons.mpr ⟨lm_cw223, List.forall_mem_cons.mpr ⟨lm_cw224, List.forall_mem_cons.mpr ⟨lm_cw225, List.forall_mem_cons.mpr ⟨lm_cw226, List.forall_mem_cons.mpr ⟨lm_cw227, List.forall_mem_cons.mpr ⟨lm_cw228, List.forall_mem_cons.mpr ⟨lm_cw229, List.forall_mem_cons.mpr ⟨lm_cw230, List.forall_mem_cons.mpr ⟨lm_cw231, List.forall_mem_cons.mpr ⟨lm_cw232, List.forall_mem_cons.mpr ⟨lm_cw233, fun _ h => absurd h List.not_mem_nil⟩⟩⟩⟩⟩⟩⟩⟩⟩⟩⟩⟩⟩⟩⟩⟩⟩⟩⟩⟩⟩⟩⟩⟩⟩⟩⟩⟩⟩⟩⟩⟩⟩⟩
theorem lm_cws : ∀ x ∈ lm_mt.drop 1, Cond.code x.2.1 x.2.2.1 x.2.2.2.1 x.2.2.2.2.1 ∈ lw_tbl := (show ∀ x ∈ lm_mt0.drop 1 ++ (lm_mt1 ++ (lm_mt2 ++ (lm_mt3 ++ (lm_mt4 ++ (lm_mt5))))), Cond.code x.2.1 x.2.2.1 x.2.2.2.1 x.2.2.2.2.1 ∈ lw_tbl from List.forall_mem_append.mpr ⟨lm_cws0, List.forall_mem_append.mpr ⟨lm_cws1, List.forall_mem_append.mpr ⟨lm_cws2, List.forall_mem_append.mpr ⟨lm_cws3, List.forall_mem_append.mpr ⟨lm_cws4, lm_cws5⟩⟩⟩⟩⟩)
