/-! What the tables hold at a key. -/
set_option maxRecDepth 100000 in
theorem u_mT_2015 : xlk mT 2 15 = some m_X1_isAllThere := rfl
set_option maxRecDepth 100000 in
theorem u_mT_2019 : xlk mT 2 19 = some m_X1_isTaken := rfl
set_option maxRecDepth 100000 in
theorem u_mT_2028 : xlk mT 2 28 = some m_X5_get := rfl
set_option maxRecDepth 100000 in
theorem u_mT_2034 : xlk mT 2 34 = some m_X4_kindOf := rfl
set_option maxRecDepth 100000 in
theorem u_mT_2038 : xlk mT 2 38 = some m_X4_freeRoomOn := rfl
set_option maxRecDepth 100000 in
theorem u_mT_2041 : xlk mT 2 41 = some m_X1_isAreaPossible := rfl
set_option maxRecDepth 100000 in
theorem u_mT_2044 : xlk mT 2 44 = some m_X1_isTooMany := rfl
set_option maxRecDepth 100000 in
theorem u_mT_2047 : xlk mT 2 47 = some m_X4_hasFloor := rfl
set_option maxRecDepth 100000 in
theorem u_mT_2054 : xlk mT 2 54 = some m_X5_has := rfl
set_option maxRecDepth 100000 in
theorem u_mT_2057 : xlk mT 2 57 = some m_X4_isPresent := rfl
set_option maxRecDepth 100000 in
theorem u_mT_2060 : xlk mT 2 60 = some m_X1_isOneFloor := rfl
set_option maxRecDepth 100000 in
theorem u_mT_2066 : xlk mT 2 66 = some m_X1_isOfUnits := rfl
set_option maxRecDepth 100000 in
theorem u_mT_2069 : xlk mT 2 69 = some m_X5_size := rfl
set_option maxRecDepth 100000 in
theorem u_mT_2073 : xlk mT 2 73 = some m_X4_isOpen := rfl
set_option maxRecDepth 100000 in
theorem u_mT_2076 : xlk mT 2 76 = some m_X1_tells := rfl
set_option maxRecDepth 100000 in
theorem u_mT_2079 : xlk mT 2 79 = some m_X4_areaOf := rfl
set_option maxRecDepth 100000 in
theorem u_mT_2082 : xlk mT 2 82 = some m_X1_unitsWith := rfl
set_option maxRecDepth 100000 in
theorem u_mT_2085 : xlk mT 2 85 = some m_X1_floorsWith := rfl
set_option maxRecDepth 100000 in
theorem u_mT_2088 : xlk mT 2 88 = some m_X1_newUnits := rfl
set_option maxRecDepth 100000 in
theorem u_mT_2091 : xlk mT 2 91 = some m_X4_floorsOf := rfl
set_option maxRecDepth 100000 in
theorem u_mT_3017 : xlk mT 3 17 = some m_X4_init := rfl
set_option maxRecDepth 100000 in
theorem u_mT_3025 : xlk mT 3 25 = some m_X2_placeAt := rfl
set_option maxRecDepth 100000 in
theorem u_mT_3029 : xlk mT 3 29 = some m_X4_copyFrom := rfl
set_option maxRecDepth 100000 in
theorem u_mT_4019 : xlk mT 4 19 = some m_X5_clear := rfl
set_option maxRecDepth 100000 in
theorem u_mT_4027 : xlk mT 4 27 = some m_X3_sign := rfl
set_option maxRecDepth 100000 in
theorem u_mT_4031 : xlk mT 4 31 = some m_X0_kindOf := rfl
set_option maxRecDepth 100000 in
theorem u_mT_4037 : xlk mT 4 37 = some m_X3_readForm := rfl
set_option maxRecDepth 100000 in
theorem u_mT_4041 : xlk mT 4 41 = some m_X5_append := rfl
set_option maxRecDepth 100000 in
theorem u_mT_4044 : xlk mT 4 44 = some m_X5_put := rfl
set_option maxRecDepth 100000 in
theorem u_mT_4048 : xlk mT 4 48 = some m_X0_formOf := rfl
set_option maxRecDepth 100000 in
theorem u_mT_4060 : xlk mT 4 60 = some m_X3_readPart := rfl
set_option maxRecDepth 100000 in
theorem u_mT_4064 : xlk mT 4 64 = some m_X0_isNumber := rfl
set_option maxRecDepth 100000 in
theorem u_mT_4068 : xlk mT 4 68 = some m_X3_readSign := rfl
set_option maxRecDepth 100000 in
theorem u_mT_4072 : xlk mT 4 72 = some m_X3_readNumber := rfl
set_option maxRecDepth 100000 in
theorem u_mT_5011 : xlk mT 5 11 = some m_X5_init := rfl
set_option maxRecDepth 100000 in
theorem u_mT_5033 : xlk mT 5 33 = some m_X5_copyFrom := rfl
set_option maxRecDepth 100000 in
theorem u_mT_5037 : xlk mT 5 37 = some m_X5_get := rfl
set_option maxRecDepth 100000 in
theorem u_mT_5041 : xlk mT 5 41 = some m_X4_floorsOf := rfl
set_option maxRecDepth 100000 in
theorem u_mT_5045 : xlk mT 5 45 = some m_X4_floorArea := rfl
set_option maxRecDepth 100000 in
theorem u_mT_5048 : xlk mT 5 48 = some m_X5_put := rfl
set_option maxRecDepth 100000 in
theorem u_mT_5052 : xlk mT 5 52 = some m_X4_tally := rfl
set_option maxRecDepth 100000 in
theorem u_mT_5056 : xlk mT 5 56 = some m_X4_roomOn := rfl
set_option maxRecDepth 100000 in
theorem u_mT_5059 : xlk mT 5 59 = some m_X5_size := rfl
set_option maxRecDepth 100000 in
theorem u_mT_5063 : xlk mT 5 63 = some m_X4_isOpen := rfl
set_option maxRecDepth 100000 in
theorem u_mT_5067 : xlk mT 5 67 = some m_X4_kindOf := rfl
set_option maxRecDepth 100000 in
theorem u_mT_5070 : xlk mT 5 70 = some m_X4_isThere := rfl
set_option maxRecDepth 100000 in
theorem u_mT_5074 : xlk mT 5 74 = some m_X4_isOn := rfl
set_option maxRecDepth 100000 in
theorem u_mT_5078 : xlk mT 5 78 = some m_X4_areaOf := rfl
set_option maxRecDepth 100000 in
theorem u_mT_5081 : xlk mT 5 81 = some m_X5_has := rfl
set_option maxRecDepth 100000 in
theorem u_mT_5092 : xlk mT 5 92 = some m_X4_lineOf := rfl
set_option maxRecDepth 100000 in
theorem u_mT_5096 : xlk mT 5 96 = some m_X4_parentBits := rfl
set_option maxRecDepth 100000 in
theorem u_mT_5099 : xlk mT 5 99 = some m_X4_parentsOf := rfl
set_option maxRecDepth 100000 in
theorem u_mT_5102 : xlk mT 5 102 = some m_X4_parentAt := rfl
set_option maxRecDepth 100000 in
theorem u_mT_5105 : xlk mT 5 105 = some m_X4_isPresent := rfl
set_option maxRecDepth 100000 in
theorem u_mT_5108 : xlk mT 5 108 = some m_X4_stageOf := rfl
set_option maxRecDepth 100000 in
theorem u_mT_5111 : xlk mT 5 111 = some m_X5_append := rfl
set_option maxRecDepth 100000 in
theorem u_mT_5114 : xlk mT 5 114 = some m_X4_setStage := rfl
set_option maxRecDepth 100000 in
theorem u_mT_6022 : xlk mT 6 22 = some m_X5_put := rfl
set_option maxRecDepth 100000 in
theorem u_mT_7021 : xlk mT 7 21 = some m_X5_clear := rfl
set_option maxRecDepth 100000 in
theorem u_mT_7029 : xlk mT 7 29 = some m_X5_size := rfl
set_option maxRecDepth 100000 in
theorem u_mT_7033 : xlk mT 7 33 = some m_X5_put := rfl
set_option maxRecDepth 100000 in
theorem u_mT_7040 : xlk mT 7 40 = some m_X5_get := rfl
set_option maxRecDepth 100000 in
theorem u_mT_7047 : xlk mT 7 47 = some m_X6_carryOut := rfl
set_option maxRecDepth 100000 in
theorem u_mT_7051 : xlk mT 7 51 = some m_X4_kindOf := rfl
set_option maxRecDepth 100000 in
theorem u_mT_7054 : xlk mT 7 54 = some m_X6_addUnit := rfl
set_option maxRecDepth 100000 in
theorem u_mT_7058 : xlk mT 7 58 = some m_X6_splitUnit := rfl
set_option maxRecDepth 100000 in
theorem u_mT_7061 : xlk mT 7 61 = some m_X6_joinUnits := rfl
set_option maxRecDepth 100000 in
theorem u_mT_7064 : xlk mT 7 64 = some m_X6_changeUnit := rfl
set_option maxRecDepth 100000 in
theorem u_mT_7067 : xlk mT 7 67 = some m_X6_endUnit := rfl
set_option maxRecDepth 100000 in
theorem u_mT_7071 : xlk mT 7 71 = some m_X4_raiseFloor := rfl
set_option maxRecDepth 100000 in
theorem u_mT_7074 : xlk mT 7 74 = some m_X6_bringUnit := rfl
set_option maxRecDepth 100000 in
theorem u_mT_7077 : xlk mT 7 77 = some m_X6_addArea := rfl
set_option maxRecDepth 100000 in
theorem u_mT_7080 : xlk mT 7 80 = some m_X6_bringChild := rfl
set_option maxRecDepth 100000 in
theorem u_mT_7083 : xlk mT 7 83 = some m_X6_shareAreas := rfl
set_option maxRecDepth 100000 in
theorem u_mT_7086 : xlk mT 7 86 = some m_X4_areaOf := rfl
set_option maxRecDepth 100000 in
theorem u_mT_7089 : xlk mT 7 89 = some m_X6_generationOf := rfl
set_option maxRecDepth 100000 in
theorem u_mT_7092 : xlk mT 7 92 = some m_X5_append := rfl
set_option maxRecDepth 100000 in
theorem u_mT_7095 : xlk mT 7 95 = some m_X6_useOfGreatestRest := rfl
set_option maxRecDepth 100000 in
theorem u_mT_8011 : xlk mT 8 11 = some m_X4_init := rfl
set_option maxRecDepth 100000 in
theorem u_mT_8018 : xlk mT 8 18 = some m_X6_init := rfl
set_option maxRecDepth 100000 in
theorem u_mT_8027 : xlk mT 8 27 = some m_X1_init := rfl
set_option maxRecDepth 100000 in
theorem u_mT_8034 : xlk mT 8 34 = some m_X2_init := rfl
set_option maxRecDepth 100000 in
theorem u_mT_8050 : xlk mT 8 50 = some m_X3_init := rfl
set_option maxRecDepth 100000 in
theorem u_mT_8057 : xlk mT 8 57 = some m_X5_init := rfl
set_option maxRecDepth 100000 in
theorem u_mT_8081 : xlk mT 8 81 = some m_X5_size := rfl
set_option maxRecDepth 100000 in
theorem u_mT_8090 : xlk mT 8 90 = some m_X2_keep := rfl
set_option maxRecDepth 100000 in
theorem u_mT_8093 : xlk mT 8 93 = some m_X5_append := rfl
set_option maxRecDepth 100000 in
theorem u_mT_8096 : xlk mT 8 96 = some m_X4_raiseFloor := rfl
set_option maxRecDepth 100000 in
theorem u_mT_8100 : xlk mT 8 100 = some m_X7_requireBuilding := rfl
set_option maxRecDepth 100000 in
theorem u_mT_8104 : xlk mT 8 104 = some m_X4_floorsOf := rfl
set_option maxRecDepth 100000 in
theorem u_mT_8108 : xlk mT 8 108 = some m_X4_floorAreasOf := rfl
set_option maxRecDepth 100000 in
theorem u_mT_8114 : xlk mT 8 114 = some m_X4_tally := rfl
set_option maxRecDepth 100000 in
theorem u_mT_8120 : xlk mT 8 120 = some m_X4_hasFloor := rfl
set_option maxRecDepth 100000 in
theorem u_mT_8129 : xlk mT 8 129 = some m_X4_floorArea := rfl
set_option maxRecDepth 100000 in
theorem u_mT_8132 : xlk mT 8 132 = some m_X4_roomOn := rfl
set_option maxRecDepth 100000 in
theorem u_mT_8135 : xlk mT 8 135 = some m_X4_freeRoomOn := rfl
set_option maxRecDepth 100000 in
theorem u_mT_8140 : xlk mT 8 140 = some m_X7_requireUnit := rfl
set_option maxRecDepth 100000 in
theorem u_mT_8143 : xlk mT 8 143 = some m_X4_areaOf := rfl
set_option maxRecDepth 100000 in
theorem u_mT_8149 : xlk mT 8 149 = some m_X5_get := rfl
set_option maxRecDepth 100000 in
theorem u_mT_8152 : xlk mT 8 152 = some m_X4_parentsOf := rfl
set_option maxRecDepth 100000 in
theorem u_mT_8162 : xlk mT 8 162 = some m_X4_parentAt := rfl
set_option maxRecDepth 100000 in
theorem u_mT_8165 : xlk mT 8 165 = some m_X4_isAncestorOf := rfl
set_option maxRecDepth 100000 in
theorem u_mT_8168 : xlk mT 8 168 = some m_X4_heirAt := rfl
set_option maxRecDepth 100000 in
theorem u_mT_8173 : xlk mT 8 173 = some m_X5_clear := rfl
set_option maxRecDepth 100000 in
theorem u_mT_8176 : xlk mT 8 176 = some m_X5_put := rfl
set_option maxRecDepth 100000 in
theorem u_mT_8180 : xlk mT 8 180 = some m_X7_requireRequestsInRange := rfl
set_option maxRecDepth 100000 in
theorem u_mT_8183 : xlk mT 8 183 = some m_X7_requireRoomForRequests := rfl
set_option maxRecDepth 100000 in
theorem u_mT_8186 : xlk mT 8 186 = some m_X4_addPermit := rfl
set_option maxRecDepth 100000 in
theorem u_mT_8190 : xlk mT 8 190 = some m_X3_readForms := rfl
set_option maxRecDepth 100000 in
theorem u_mT_8194 : xlk mT 8 194 = some m_X3_clear := rfl
set_option maxRecDepth 100000 in
theorem u_mT_8195 : xlk mT 8 195 = some m_X7_requireNoError := rfl
set_option maxRecDepth 100000 in
theorem u_mT_8198 : xlk mT 8 198 = some m_X7_requireStage := rfl
set_option maxRecDepth 100000 in
theorem u_mT_8201 : xlk mT 8 201 = some m_X1_reasonAgainst := rfl
set_option maxRecDepth 100000 in
theorem u_mT_8206 : xlk mT 8 206 = some m_X4_setStage := rfl
set_option maxRecDepth 100000 in
theorem u_mT_8209 : xlk mT 8 209 = some m_X4_openPermits := rfl
set_option maxRecDepth 100000 in
theorem u_mT_8218 : xlk mT 8 218 = some m_X6_carryOut := rfl
set_option maxRecDepth 100000 in
theorem u_mT_8221 : xlk mT 8 221 = some m_X4_stageOf := rfl
set_option maxRecDepth 100000 in
theorem u_mT_8224 : xlk mT 8 224 = some m_X7_requirePermit := rfl
set_option maxRecDepth 100000 in
theorem u_mT_8235 : xlk mT 8 235 = some m_X4_lapsePermits := rfl
set_option maxRecDepth 100000 in
theorem u_mT_8238 : xlk mT 8 238 = some m_X7_requireBuildingAndUseOrAll := rfl
set_option maxRecDepth 100000 in
theorem u_mT_8241 : xlk mT 8 241 = some m_X7_requireDay := rfl
set_option maxRecDepth 100000 in
theorem u_mT_8244 : xlk mT 8 244 = some m_X4_copyFrom := rfl
set_option maxRecDepth 100000 in
theorem u_mT_8247 : xlk mT 8 247 = some m_X6_carryOutAgain := rfl
set_option maxRecDepth 100000 in
theorem u_mT_8255 : xlk mT 8 255 = some m_X4_isDay := rfl
set_option maxRecDepth 100000 in
theorem u_mT_8259 : xlk mT 8 259 = some m_X7_isToldRight := rfl
set_option maxRecDepth 100000 in
theorem u_mT_8262 : xlk mT 8 262 = some m_X3_length := rfl
set_option maxRecDepth 100000 in
theorem u_mT_8267 : xlk mT 8 267 = some m_X3_append := rfl
set_option maxRecDepth 100000 in
theorem u_mT_8272 : xlk mT 8 272 = some m_X4_presentUnits := rfl
set_option maxRecDepth 100000 in
theorem u_mT_8275 : xlk mT 8 275 = some m_X2_size := rfl
set_option maxRecDepth 100000 in
theorem u_mT_8280 : xlk mT 8 280 = some m_X2_takeBack := rfl
set_option maxRecDepth 100000 in
theorem u_mT_8289 : xlk mT 8 289 = some m_X2_clear := rfl
set_option maxRecDepth 100000 in
theorem u_mT_8290 : xlk mT 8 290 = some m_X5_has := rfl
set_option maxRecDepth 100000 in
theorem u_mT_8308 : xlk mT 8 308 = some m_X0_isInRange := rfl
set_option maxRecDepth 100000 in
theorem u_mT_9043 : xlk mT 9 43 = some m_X8_isIn := rfl
set_option maxRecDepth 100000 in
theorem u_mT_9047 : xlk mT 9 47 = some m_X8_isBuilding := rfl
set_option maxRecDepth 100000 in
theorem u_mT_9051 : xlk mT 9 51 = some m_X8_floors := rfl
set_option maxRecDepth 100000 in
theorem u_mT_9055 : xlk mT 9 55 = some m_X8_isUnit := rfl
set_option maxRecDepth 100000 in
theorem u_mT_9058 : xlk mT 9 58 = some m_X8_u := rfl
set_option maxRecDepth 100000 in
theorem u_mT_9062 : xlk mT 9 62 = some m_X8_fail := rfl
set_option maxRecDepth 100000 in
theorem u_mT_9065 : xlk mT 9 65 = some m_X8_remember := rfl
set_option maxRecDepth 100000 in
theorem u_mT_9068 : xlk mT 9 68 = some m_X8_isPresent := rfl
set_option maxRecDepth 100000 in
theorem u_mT_9071 : xlk mT 9 71 = some m_X8_area := rfl
set_option maxRecDepth 100000 in
theorem u_mT_9074 : xlk mT 9 74 = some m_X8_floorArea := rfl
set_option maxRecDepth 100000 in
theorem u_mT_9077 : xlk mT 9 77 = some m_X8_floorAreas := rfl
set_option maxRecDepth 100000 in
theorem u_mT_9080 : xlk mT 9 80 = some m_X8_present := rfl
set_option maxRecDepth 100000 in
theorem u_mT_9084 : xlk mT 9 84 = some m_X8_p := rfl
set_option maxRecDepth 100000 in
theorem u_mT_9087 : xlk mT 9 87 = some m_X8_isOpen := rfl
set_option maxRecDepth 100000 in
theorem u_mT_9090 : xlk mT 9 90 = some m_X8_isFloor := rfl
set_option maxRecDepth 100000 in
theorem u_mT_9094 : xlk mT 9 94 = some m_X8_room := rfl
set_option maxRecDepth 100000 in
theorem u_mT_9097 : xlk mT 9 97 = some m_X8_taken := rfl
set_option maxRecDepth 100000 in
theorem u_mT_9100 : xlk mT 9 100 = some m_X8_parents := rfl
set_option maxRecDepth 100000 in
theorem u_mT_9103 : xlk mT 9 103 = some m_X8_findAbove := rfl
set_option maxRecDepth 100000 in
theorem u_mT_9107 : xlk mT 9 107 = some m_X8_becomes := rfl
set_option maxRecDepth 100000 in
theorem u_mT_9111 : xlk mT 9 111 = some m_X8_areNumbers := rfl
set_option maxRecDepth 100000 in
theorem u_mT_9115 : xlk mT 9 115 = some m_X8_comesPermit := rfl
set_option maxRecDepth 100000 in
theorem u_mT_9119 : xlk mT 9 119 = some m_X8_tells := rfl
set_option maxRecDepth 100000 in
theorem u_mT_9122 : xlk mT 9 122 = some m_X8_unitsBy := rfl
set_option maxRecDepth 100000 in
theorem u_mT_9125 : xlk mT 9 125 = some m_X8_isThere := rfl
set_option maxRecDepth 100000 in
theorem u_mT_9128 : xlk mT 9 128 = some m_X8_isTold := rfl
set_option maxRecDepth 100000 in
theorem u_mT_9131 : xlk mT 9 131 = some m_X8_isTooMuch := rfl
set_option maxRecDepth 100000 in
theorem u_mT_9134 : xlk mT 9 134 = some m_X8_isPermit := rfl
set_option maxRecDepth 100000 in
theorem u_mT_9137 : xlk mT 9 137 = some m_X8_stageProblem := rfl
set_option maxRecDepth 100000 in
theorem u_mT_9140 : xlk mT 9 140 = some m_X8_whyNot := rfl
set_option maxRecDepth 100000 in
theorem u_mT_9146 : xlk mT 9 146 = some m_X8_openPermits := rfl
set_option maxRecDepth 100000 in
theorem u_mT_9150 : xlk mT 9 150 = some m_X8_setU := rfl
set_option maxRecDepth 100000 in
theorem u_mT_9154 : xlk mT 9 154 = some m_X8_findsFirst := rfl
set_option maxRecDepth 100000 in
theorem u_mT_9157 : xlk mT 9 157 = some m_X8_comesUnit := rfl
set_option maxRecDepth 100000 in
theorem u_mT_9160 : xlk mT 9 160 = some m_X8_takesParts := rfl
set_option maxRecDepth 100000 in
theorem u_mT_9163 : xlk mT 9 163 = some m_X8_comesFirst := rfl
set_option maxRecDepth 100000 in
theorem u_mT_9166 : xlk mT 9 166 = some m_X8_splits := rfl
set_option maxRecDepth 100000 in
theorem u_mT_9169 : xlk mT 9 169 = some m_X8_joins := rfl
set_option maxRecDepth 100000 in
theorem u_mT_9173 : xlk mT 9 173 = some m_X8_converts := rfl
set_option maxRecDepth 100000 in
theorem u_mT_9176 : xlk mT 9 176 = some m_X8_comesFloor := rfl
set_option maxRecDepth 100000 in
theorem u_mT_9179 : xlk mT 9 179 = some m_X8_does := rfl
set_option maxRecDepth 100000 in
theorem u_mT_9182 : xlk mT 9 182 = some m_X8_isThereAt := rfl
set_option maxRecDepth 100000 in
theorem u_mT_9185 : xlk mT 9 185 = some m_X8_counted := rfl
set_option maxRecDepth 100000 in
theorem u_mT_9189 : xlk mT 9 189 = some m_X8_count := rfl
set_option maxRecDepth 100000 in
theorem u_mT_9202 : xlk mT 9 202 = some m_X8_isAt := rfl
set_option maxRecDepth 100000 in
theorem u_mT_9206 : xlk mT 9 206 = some m_X8_digit := rfl
set_option maxRecDepth 100000 in
theorem u_mT_9209 : xlk mT 9 209 = some m_X8_kindOf := rfl
set_option maxRecDepth 100000 in
theorem u_mT_9228 : xlk mT 9 228 = some m_X8_expects := rfl
set_option maxRecDepth 100000 in
theorem u_mT_9232 : xlk mT 9 232 = some m_X8_number := rfl
set_option maxRecDepth 100000 in
theorem u_mT_9235 : xlk mT 9 235 = some m_X8_use := rfl
set_option maxRecDepth 100000 in
theorem u_mT_9241 : xlk mT 9 241 = some m_X8_readsApplication := rfl
set_option maxRecDepth 100000 in
theorem u_mT_9247 : xlk mT 9 247 = some m_X8_readsAll := rfl
set_option maxRecDepth 100000 in
theorem u_mT_9251 : xlk mT 9 251 = some m_X8_presentUnits := rfl
set_option maxRecDepth 100000 in
theorem u_mT_9254 : xlk mT 9 254 = some m_X8_finishedPermits := rfl
set_option maxRecDepth 100000 in
theorem u_mT_10007 : xlk mT 10 7 = some m_X7_addBuilding := rfl
set_option maxRecDepth 100000 in
theorem u_mT_10017 : xlk mT 10 17 = some m_X7_building := rfl
set_option maxRecDepth 100000 in
theorem u_mT_10023 : xlk mT 10 23 = some m_X7_floor := rfl
set_option maxRecDepth 100000 in
theorem u_mT_10027 : xlk mT 10 27 = some m_X7_unit := rfl
set_option maxRecDepth 100000 in
theorem u_mT_10030 : xlk mT 10 30 = some m_X7_parent := rfl
set_option maxRecDepth 100000 in
theorem u_mT_10035 : xlk mT 10 35 = some m_X7_isAncestor := rfl
set_option maxRecDepth 100000 in
theorem u_mT_10039 : xlk mT 10 39 = some m_X7_became := rfl
set_option maxRecDepth 100000 in
theorem u_mT_10042 : xlk mT 10 42 = some m_X7_apply := rfl
set_option maxRecDepth 100000 in
theorem u_mT_10046 : xlk mT 10 46 = some m_X7_applyAll := rfl
set_option maxRecDepth 100000 in
theorem u_mT_10050 : xlk mT 10 50 = some m_X7_grant := rfl
set_option maxRecDepth 100000 in
theorem u_mT_10055 : xlk mT 10 55 = some m_X7_refuse := rfl
set_option maxRecDepth 100000 in
theorem u_mT_10058 : xlk mT 10 58 = some m_X7_begin := rfl
set_option maxRecDepth 100000 in
theorem u_mT_10061 : xlk mT 10 61 = some m_X7_finish := rfl
set_option maxRecDepth 100000 in
theorem u_mT_10064 : xlk mT 10 64 = some m_X7_withdraw := rfl
set_option maxRecDepth 100000 in
theorem u_mT_10067 : xlk mT 10 67 = some m_X7_permit := rfl
set_option maxRecDepth 100000 in
theorem u_mT_10070 : xlk mT 10 70 = some m_X7_reason := rfl
set_option maxRecDepth 100000 in
theorem u_mT_10073 : xlk mT 10 73 = some m_X7_pass := rfl
set_option maxRecDepth 100000 in
theorem u_mT_10076 : xlk mT 10 76 = some m_X7_count := rfl
set_option maxRecDepth 100000 in
theorem u_mT_10080 : xlk mT 10 80 = some m_X7_replayed := rfl
set_option maxRecDepth 100000 in
theorem u_mT_10083 : xlk mT 10 83 = some m_X7_meanArea := rfl
set_option maxRecDepth 100000 in
theorem u_mT_10089 : xlk mT 10 89 = some m_X7_check := rfl
set_option maxRecDepth 100000 in
theorem u_mT_10092 : xlk mT 10 92 = some m_X7_feed := rfl
set_option maxRecDepth 100000 in
theorem u_mT_10096 : xlk mT 10 96 = some m_X7_errorPosition := rfl
set_option maxRecDepth 100000 in
theorem u_mT_10099 : xlk mT 10 99 = some m_X7_total := rfl
set_option maxRecDepth 100000 in
theorem u_mT_10102 : xlk mT 10 102 = some m_X7_undo := rfl
set_option maxRecDepth 100000 in
theorem u_mT_10105 : xlk mT 10 105 = some m_X7_restore := rfl
set_option maxRecDepth 100000 in
theorem u_mT_10108 : xlk mT 10 108 = some m_X7_init := rfl
set_option maxRecDepth 100000 in
theorem u_mT_10111 : xlk mT 10 111 = some m_X8_init := rfl
set_option maxRecDepth 100000 in
theorem u_mT_10112 : xlk mT 10 112 = some m_L_addBuilding := rfl
set_option maxRecDepth 100000 in
theorem u_mT_10117 : xlk mT 10 117 = some m_X8_addBuilding := rfl
set_option maxRecDepth 100000 in
theorem u_mT_10118 : xlk mT 10 118 = some m_X8_thrown := rfl
set_option maxRecDepth 100000 in
theorem u_mT_10121 : xlk mT 10 121 = some m_L_building := rfl
set_option maxRecDepth 100000 in
theorem u_mT_10124 : xlk mT 10 124 = some m_X8_building := rfl
set_option maxRecDepth 100000 in
theorem u_mT_10125 : xlk mT 10 125 = some m_L_floor := rfl
set_option maxRecDepth 100000 in
theorem u_mT_10128 : xlk mT 10 128 = some m_X8_floor := rfl
set_option maxRecDepth 100000 in
theorem u_mT_10129 : xlk mT 10 129 = some m_L_unit := rfl
set_option maxRecDepth 100000 in
theorem u_mT_10131 : xlk mT 10 131 = some m_X8_unit := rfl
set_option maxRecDepth 100000 in
theorem u_mT_10132 : xlk mT 10 132 = some m_L_parent := rfl
set_option maxRecDepth 100000 in
theorem u_mT_10134 : xlk mT 10 134 = some m_X8_parent := rfl
set_option maxRecDepth 100000 in
theorem u_mT_10135 : xlk mT 10 135 = some m_L_isAncestor := rfl
set_option maxRecDepth 100000 in
theorem u_mT_10137 : xlk mT 10 137 = some m_X8_isAncestor := rfl
set_option maxRecDepth 100000 in
theorem u_mT_10138 : xlk mT 10 138 = some m_L_became := rfl
set_option maxRecDepth 100000 in
theorem u_mT_10140 : xlk mT 10 140 = some m_X8_became := rfl
set_option maxRecDepth 100000 in
theorem u_mT_10141 : xlk mT 10 141 = some m_L_apply := rfl
set_option maxRecDepth 100000 in
theorem u_mT_10144 : xlk mT 10 144 = some m_X8_apply := rfl
set_option maxRecDepth 100000 in
theorem u_mT_10145 : xlk mT 10 145 = some m_L_applyAll := rfl
set_option maxRecDepth 100000 in
theorem u_mT_10148 : xlk mT 10 148 = some m_X8_applyAll := rfl
set_option maxRecDepth 100000 in
theorem u_mT_10149 : xlk mT 10 149 = some m_L_grant := rfl
set_option maxRecDepth 100000 in
theorem u_mT_10151 : xlk mT 10 151 = some m_X8_grant := rfl
set_option maxRecDepth 100000 in
theorem u_mT_10152 : xlk mT 10 152 = some m_L_refuse := rfl
set_option maxRecDepth 100000 in
theorem u_mT_10154 : xlk mT 10 154 = some m_X8_refuse := rfl
set_option maxRecDepth 100000 in
theorem u_mT_10155 : xlk mT 10 155 = some m_L_begin := rfl
set_option maxRecDepth 100000 in
theorem u_mT_10157 : xlk mT 10 157 = some m_X8_begin := rfl
set_option maxRecDepth 100000 in
theorem u_mT_10158 : xlk mT 10 158 = some m_L_finish := rfl
set_option maxRecDepth 100000 in
theorem u_mT_10160 : xlk mT 10 160 = some m_X8_finish := rfl
set_option maxRecDepth 100000 in
theorem u_mT_10161 : xlk mT 10 161 = some m_L_withdraw := rfl
set_option maxRecDepth 100000 in
theorem u_mT_10163 : xlk mT 10 163 = some m_X8_withdraw := rfl
set_option maxRecDepth 100000 in
theorem u_mT_10164 : xlk mT 10 164 = some m_L_permit := rfl
set_option maxRecDepth 100000 in
theorem u_mT_10166 : xlk mT 10 166 = some m_X8_permit := rfl
set_option maxRecDepth 100000 in
theorem u_mT_10167 : xlk mT 10 167 = some m_L_reason := rfl
set_option maxRecDepth 100000 in
theorem u_mT_10169 : xlk mT 10 169 = some m_X8_reason := rfl
set_option maxRecDepth 100000 in
theorem u_mT_10170 : xlk mT 10 170 = some m_L_pass := rfl
set_option maxRecDepth 100000 in
theorem u_mT_10172 : xlk mT 10 172 = some m_X8_pass := rfl
set_option maxRecDepth 100000 in
theorem u_mT_10173 : xlk mT 10 173 = some m_L_count := rfl
set_option maxRecDepth 100000 in
theorem u_mT_10176 : xlk mT 10 176 = some m_X8_count := rfl
set_option maxRecDepth 100000 in
theorem u_mT_10177 : xlk mT 10 177 = some m_L_replayed := rfl
set_option maxRecDepth 100000 in
theorem u_mT_10179 : xlk mT 10 179 = some m_X8_replayed := rfl
set_option maxRecDepth 100000 in
theorem u_mT_10180 : xlk mT 10 180 = some m_L_meanArea := rfl
set_option maxRecDepth 100000 in
theorem u_mT_10183 : xlk mT 10 183 = some m_X8_meanArea := rfl
set_option maxRecDepth 100000 in
theorem u_mT_10184 : xlk mT 10 184 = some m_X7_fullestDay := rfl
set_option maxRecDepth 100000 in
theorem u_mT_10187 : xlk mT 10 187 = some m_X8_fullestDay := rfl
set_option maxRecDepth 100000 in
theorem u_mT_10188 : xlk mT 10 188 = some m_L_check := rfl
set_option maxRecDepth 100000 in
theorem u_mT_10190 : xlk mT 10 190 = some m_X8_check := rfl
set_option maxRecDepth 100000 in
theorem u_mT_10191 : xlk mT 10 191 = some m_L_feed := rfl
set_option maxRecDepth 100000 in
theorem u_mT_10194 : xlk mT 10 194 = some m_X8_feed := rfl
set_option maxRecDepth 100000 in
theorem u_mT_10195 : xlk mT 10 195 = some m_L_errorPosition := rfl
set_option maxRecDepth 100000 in
theorem u_mT_10197 : xlk mT 10 197 = some m_X8_errorPosition := rfl
set_option maxRecDepth 100000 in
theorem u_mT_10198 : xlk mT 10 198 = some m_L_total := rfl
set_option maxRecDepth 100000 in
theorem u_mT_10200 : xlk mT 10 200 = some m_X8_total := rfl
set_option maxRecDepth 100000 in
theorem u_mT_10201 : xlk mT 10 201 = some m_L_undo := rfl
set_option maxRecDepth 100000 in
theorem u_mT_10203 : xlk mT 10 203 = some m_X8_undo := rfl
set_option maxRecDepth 100000 in
theorem u_mT_10204 : xlk mT 10 204 = some m_X7_save := rfl
set_option maxRecDepth 100000 in
theorem u_mT_10207 : xlk mT 10 207 = some m_X8_save := rfl
set_option maxRecDepth 100000 in
theorem u_mT_10208 : xlk mT 10 208 = some m_L_restore := rfl
set_option maxRecDepth 100000 in
theorem u_mT_10210 : xlk mT 10 210 = some m_X8_restore := rfl
set_option maxRecDepth 100000 in
theorem u_mT_11007 : xlk mT 11 7 = some m_X7_addBuilding := rfl
set_option maxRecDepth 100000 in
theorem u_mT_11017 : xlk mT 11 17 = some m_X7_building := rfl
set_option maxRecDepth 100000 in
theorem u_mT_11023 : xlk mT 11 23 = some m_X7_floor := rfl
set_option maxRecDepth 100000 in
theorem u_mT_11027 : xlk mT 11 27 = some m_X7_unit := rfl
set_option maxRecDepth 100000 in
theorem u_mT_11030 : xlk mT 11 30 = some m_X7_parent := rfl
set_option maxRecDepth 100000 in
theorem u_mT_11035 : xlk mT 11 35 = some m_X7_isAncestor := rfl
set_option maxRecDepth 100000 in
theorem u_mT_11039 : xlk mT 11 39 = some m_X7_became := rfl
set_option maxRecDepth 100000 in
theorem u_mT_11042 : xlk mT 11 42 = some m_X7_apply := rfl
set_option maxRecDepth 100000 in
theorem u_mT_11046 : xlk mT 11 46 = some m_X7_applyAll := rfl
set_option maxRecDepth 100000 in
theorem u_mT_11050 : xlk mT 11 50 = some m_X7_grant := rfl
set_option maxRecDepth 100000 in
theorem u_mT_11055 : xlk mT 11 55 = some m_X7_refuse := rfl
set_option maxRecDepth 100000 in
theorem u_mT_11058 : xlk mT 11 58 = some m_X7_begin := rfl
set_option maxRecDepth 100000 in
theorem u_mT_11061 : xlk mT 11 61 = some m_X7_finish := rfl
set_option maxRecDepth 100000 in
theorem u_mT_11064 : xlk mT 11 64 = some m_X7_withdraw := rfl
set_option maxRecDepth 100000 in
theorem u_mT_11067 : xlk mT 11 67 = some m_X7_permit := rfl
set_option maxRecDepth 100000 in
theorem u_mT_11070 : xlk mT 11 70 = some m_X7_reason := rfl
set_option maxRecDepth 100000 in
theorem u_mT_11073 : xlk mT 11 73 = some m_X7_pass := rfl
set_option maxRecDepth 100000 in
theorem u_mT_11076 : xlk mT 11 76 = some m_X7_count := rfl
set_option maxRecDepth 100000 in
theorem u_mT_11080 : xlk mT 11 80 = some m_X7_replayed := rfl
set_option maxRecDepth 100000 in
theorem u_mT_11083 : xlk mT 11 83 = some m_X7_meanArea := rfl
set_option maxRecDepth 100000 in
theorem u_mT_11089 : xlk mT 11 89 = some m_X7_check := rfl
set_option maxRecDepth 100000 in
theorem u_mT_11092 : xlk mT 11 92 = some m_X7_feed := rfl
set_option maxRecDepth 100000 in
theorem u_mT_11096 : xlk mT 11 96 = some m_X7_errorPosition := rfl
set_option maxRecDepth 100000 in
theorem u_mT_11099 : xlk mT 11 99 = some m_X7_total := rfl
set_option maxRecDepth 100000 in
theorem u_mT_11102 : xlk mT 11 102 = some m_X7_undo := rfl
set_option maxRecDepth 100000 in
theorem u_mT_11105 : xlk mT 11 105 = some m_X7_restore := rfl
set_option maxRecDepth 100000 in
theorem u_mT_11108 : xlk mT 11 108 = some m_X7_init := rfl
set_option maxRecDepth 100000 in
theorem u_mT_11111 : xlk mT 11 111 = some m_X8_init := rfl
set_option maxRecDepth 100000 in
theorem u_mT_11112 : xlk mT 11 112 = some m_L_addBuilding := rfl
set_option maxRecDepth 100000 in
theorem u_mT_11117 : xlk mT 11 117 = some m_X8_addBuilding := rfl
set_option maxRecDepth 100000 in
theorem u_mT_11118 : xlk mT 11 118 = some m_X8_thrown := rfl
set_option maxRecDepth 100000 in
theorem u_mT_11121 : xlk mT 11 121 = some m_L_building := rfl
set_option maxRecDepth 100000 in
theorem u_mT_11124 : xlk mT 11 124 = some m_X8_building := rfl
set_option maxRecDepth 100000 in
theorem u_mT_11125 : xlk mT 11 125 = some m_L_floor := rfl
set_option maxRecDepth 100000 in
theorem u_mT_11128 : xlk mT 11 128 = some m_X8_floor := rfl
set_option maxRecDepth 100000 in
theorem u_mT_11129 : xlk mT 11 129 = some m_L_unit := rfl
set_option maxRecDepth 100000 in
theorem u_mT_11131 : xlk mT 11 131 = some m_X8_unit := rfl
set_option maxRecDepth 100000 in
theorem u_mT_11132 : xlk mT 11 132 = some m_L_parent := rfl
set_option maxRecDepth 100000 in
theorem u_mT_11134 : xlk mT 11 134 = some m_X8_parent := rfl
set_option maxRecDepth 100000 in
theorem u_mT_11135 : xlk mT 11 135 = some m_L_isAncestor := rfl
set_option maxRecDepth 100000 in
theorem u_mT_11137 : xlk mT 11 137 = some m_X8_isAncestor := rfl
set_option maxRecDepth 100000 in
theorem u_mT_11138 : xlk mT 11 138 = some m_L_became := rfl
set_option maxRecDepth 100000 in
theorem u_mT_11140 : xlk mT 11 140 = some m_X8_became := rfl
set_option maxRecDepth 100000 in
theorem u_mT_11141 : xlk mT 11 141 = some m_L_apply := rfl
set_option maxRecDepth 100000 in
theorem u_mT_11144 : xlk mT 11 144 = some m_X8_apply := rfl
set_option maxRecDepth 100000 in
theorem u_mT_11145 : xlk mT 11 145 = some m_L_applyAll := rfl
set_option maxRecDepth 100000 in
theorem u_mT_11148 : xlk mT 11 148 = some m_X8_applyAll := rfl
set_option maxRecDepth 100000 in
theorem u_mT_11149 : xlk mT 11 149 = some m_L_grant := rfl
set_option maxRecDepth 100000 in
theorem u_mT_11151 : xlk mT 11 151 = some m_X8_grant := rfl
set_option maxRecDepth 100000 in
theorem u_mT_11152 : xlk mT 11 152 = some m_L_refuse := rfl
set_option maxRecDepth 100000 in
theorem u_mT_11154 : xlk mT 11 154 = some m_X8_refuse := rfl
set_option maxRecDepth 100000 in
theorem u_mT_11155 : xlk mT 11 155 = some m_L_begin := rfl
set_option maxRecDepth 100000 in
theorem u_mT_11157 : xlk mT 11 157 = some m_X8_begin := rfl
set_option maxRecDepth 100000 in
theorem u_mT_11158 : xlk mT 11 158 = some m_L_finish := rfl
set_option maxRecDepth 100000 in
theorem u_mT_11160 : xlk mT 11 160 = some m_X8_finish := rfl
set_option maxRecDepth 100000 in
theorem u_mT_11161 : xlk mT 11 161 = some m_L_withdraw := rfl
set_option maxRecDepth 100000 in
theorem u_mT_11163 : xlk mT 11 163 = some m_X8_withdraw := rfl
set_option maxRecDepth 100000 in
theorem u_mT_11164 : xlk mT 11 164 = some m_L_permit := rfl
set_option maxRecDepth 100000 in
theorem u_mT_11166 : xlk mT 11 166 = some m_X8_permit := rfl
set_option maxRecDepth 100000 in
theorem u_mT_11167 : xlk mT 11 167 = some m_L_reason := rfl
set_option maxRecDepth 100000 in
theorem u_mT_11169 : xlk mT 11 169 = some m_X8_reason := rfl
set_option maxRecDepth 100000 in
theorem u_mT_11170 : xlk mT 11 170 = some m_L_pass := rfl
set_option maxRecDepth 100000 in
theorem u_mT_11172 : xlk mT 11 172 = some m_X8_pass := rfl
set_option maxRecDepth 100000 in
theorem u_mT_11173 : xlk mT 11 173 = some m_L_count := rfl
set_option maxRecDepth 100000 in
theorem u_mT_11176 : xlk mT 11 176 = some m_X8_count := rfl
set_option maxRecDepth 100000 in
theorem u_mT_11177 : xlk mT 11 177 = some m_L_replayed := rfl
set_option maxRecDepth 100000 in
theorem u_mT_11179 : xlk mT 11 179 = some m_X8_replayed := rfl
set_option maxRecDepth 100000 in
theorem u_mT_11180 : xlk mT 11 180 = some m_L_meanArea := rfl
set_option maxRecDepth 100000 in
theorem u_mT_11183 : xlk mT 11 183 = some m_X8_meanArea := rfl
set_option maxRecDepth 100000 in
theorem u_mT_11184 : xlk mT 11 184 = some m_X7_fullestDay := rfl
set_option maxRecDepth 100000 in
theorem u_mT_11187 : xlk mT 11 187 = some m_X8_fullestDay := rfl
set_option maxRecDepth 100000 in
theorem u_mT_11188 : xlk mT 11 188 = some m_L_check := rfl
set_option maxRecDepth 100000 in
theorem u_mT_11190 : xlk mT 11 190 = some m_X8_check := rfl
set_option maxRecDepth 100000 in
theorem u_mT_11191 : xlk mT 11 191 = some m_L_feed := rfl
set_option maxRecDepth 100000 in
theorem u_mT_11194 : xlk mT 11 194 = some m_X8_feed := rfl
set_option maxRecDepth 100000 in
theorem u_mT_11195 : xlk mT 11 195 = some m_L_errorPosition := rfl
set_option maxRecDepth 100000 in
theorem u_mT_11197 : xlk mT 11 197 = some m_X8_errorPosition := rfl
set_option maxRecDepth 100000 in
theorem u_mT_11198 : xlk mT 11 198 = some m_L_total := rfl
set_option maxRecDepth 100000 in
theorem u_mT_11200 : xlk mT 11 200 = some m_X8_total := rfl
set_option maxRecDepth 100000 in
theorem u_mT_11201 : xlk mT 11 201 = some m_L_undo := rfl
set_option maxRecDepth 100000 in
theorem u_mT_11203 : xlk mT 11 203 = some m_X8_undo := rfl
set_option maxRecDepth 100000 in
theorem u_mT_11204 : xlk mT 11 204 = some m_X7_save := rfl
set_option maxRecDepth 100000 in
theorem u_mT_11207 : xlk mT 11 207 = some m_X8_save := rfl
set_option maxRecDepth 100000 in
theorem u_mT_11208 : xlk mT 11 208 = some m_L_restore := rfl
set_option maxRecDepth 100000 in
theorem u_mT_11210 : xlk mT 11 210 = some m_X8_restore := rfl
set_option maxRecDepth 100000 in
theorem u_mT_12023 : xlk mT 12 23 = some m_X0_formOf := rfl
set_option maxRecDepth 100000 in
theorem u_mT_12039 : xlk mT 12 39 = some m_X5_get := rfl
set_option maxRecDepth 100000 in
theorem u_mT_12049 : xlk mT 12 49 = some m_X0_isNumber := rfl
set_option maxRecDepth 100000 in
theorem u_mT_12053 : xlk mT 12 53 = some m_X0_lowest := rfl
set_option maxRecDepth 100000 in
theorem u_mT_12057 : xlk mT 12 57 = some m_X0_highest := rfl
set_option maxRecDepth 100000 in
theorem u_pT_2003 : xlk pT 2 3 = some 7 := rfl
set_option maxRecDepth 100000 in
theorem u_pT_3003 : xlk pT 3 3 = some 7 := rfl
set_option maxRecDepth 100000 in
theorem u_pT_3033 : xlk pT 3 33 = some 2 := rfl
set_option maxRecDepth 100000 in
theorem u_pT_4003 : xlk pT 4 3 = some 7 := rfl
set_option maxRecDepth 100000 in
theorem u_pT_4052 : xlk pT 4 52 = some 5 := rfl
set_option maxRecDepth 100000 in
theorem u_pT_4056 : xlk pT 4 56 = some 4 := rfl
set_option maxRecDepth 100000 in
theorem u_pT_5003 : xlk pT 5 3 = some 7 := rfl
set_option maxRecDepth 100000 in
theorem u_pT_5084 : xlk pT 5 84 = some 2 := rfl
set_option maxRecDepth 100000 in
theorem u_pT_5089 : xlk pT 5 89 = some 1 := rfl
set_option maxRecDepth 100000 in
theorem u_pT_6003 : xlk pT 6 3 = some 7 := rfl
set_option maxRecDepth 100000 in
theorem u_pT_6026 : xlk pT 6 26 = some 3 := rfl
set_option maxRecDepth 100000 in
theorem u_pT_7003 : xlk pT 7 3 = some 7 := rfl
set_option maxRecDepth 100000 in
theorem u_pT_8003 : xlk pT 8 3 = some 7 := rfl
set_option maxRecDepth 100000 in
theorem u_pT_9001 : xlk pT 9 1 = some 7 := rfl
set_option maxRecDepth 100000 in
theorem u_pT_12029 : xlk pT 12 29 = some 6 := rfl
set_option maxRecDepth 100000 in
theorem u_pT_12035 : xlk pT 12 35 = some 4 := rfl
set_option maxRecDepth 100000 in
theorem u_pT_12045 : xlk pT 12 45 = some 5 := rfl
set_option maxRecDepth 100000 in
theorem u_fT_2009 : xlk fT 2 9 = some (2, 0, false) := rfl
set_option maxRecDepth 100000 in
theorem u_fT_2022 : xlk fT 2 22 = some (5, 3, true) := rfl
set_option maxRecDepth 100000 in
theorem u_fT_2051 : xlk fT 2 51 = some (5, 1, true) := rfl
set_option maxRecDepth 100000 in
theorem u_fT_2063 : xlk fT 2 63 = some (5, 2, true) := rfl
set_option maxRecDepth 100000 in
theorem u_fT_3011 : xlk fT 3 11 = some (3, 0, false) := rfl
set_option maxRecDepth 100000 in
theorem u_fT_3018 : xlk fT 3 18 = some (3, 2, false) := rfl
set_option maxRecDepth 100000 in
theorem u_fT_3022 : xlk fT 3 22 = some (3, 1, false) := rfl
set_option maxRecDepth 100000 in
theorem u_fT_4009 : xlk fT 4 9 = some (4, 0, false) := rfl
set_option maxRecDepth 100000 in
theorem u_fT_4015 : xlk fT 4 15 = some (4, 1, false) := rfl
set_option maxRecDepth 100000 in
theorem u_fT_4024 : xlk fT 4 24 = some (4, 2, false) := rfl
set_option maxRecDepth 100000 in
theorem u_fT_5014 : xlk fT 5 14 = some (5, 1, false) := rfl
set_option maxRecDepth 100000 in
theorem u_fT_5020 : xlk fT 5 20 = some (5, 2, false) := rfl
set_option maxRecDepth 100000 in
theorem u_fT_5023 : xlk fT 5 23 = some (5, 3, false) := rfl
set_option maxRecDepth 100000 in
theorem u_fT_5026 : xlk fT 5 26 = some (5, 4, false) := rfl
set_option maxRecDepth 100000 in
theorem u_fT_5029 : xlk fT 5 29 = some (5, 0, false) := rfl
set_option maxRecDepth 100000 in
theorem u_fT_6009 : xlk fT 6 9 = some (6, 0, false) := rfl
set_option maxRecDepth 100000 in
theorem u_fT_6015 : xlk fT 6 15 = some (6, 1, false) := rfl
set_option maxRecDepth 100000 in
theorem u_fT_6019 : xlk fT 6 19 = some (6, 2, false) := rfl
set_option maxRecDepth 100000 in
theorem u_fT_7009 : xlk fT 7 9 = some (7, 0, false) := rfl
set_option maxRecDepth 100000 in
theorem u_fT_7015 : xlk fT 7 15 = some (5, 2, true) := rfl
set_option maxRecDepth 100000 in
theorem u_fT_7026 : xlk fT 7 26 = some (5, 1, true) := rfl
set_option maxRecDepth 100000 in
theorem u_fT_7037 : xlk fT 7 37 = some (5, 4, true) := rfl
set_option maxRecDepth 100000 in
theorem u_fT_7044 : xlk fT 7 44 = some (5, 3, true) := rfl
set_option maxRecDepth 100000 in
theorem u_fT_8012 : xlk fT 8 12 = some (8, 0, false) := rfl
set_option maxRecDepth 100000 in
theorem u_fT_8021 : xlk fT 8 21 = some (8, 1, false) := rfl
set_option maxRecDepth 100000 in
theorem u_fT_8028 : xlk fT 8 28 = some (8, 2, false) := rfl
set_option maxRecDepth 100000 in
theorem u_fT_8035 : xlk fT 8 35 = some (8, 3, false) := rfl
set_option maxRecDepth 100000 in
theorem u_fT_8039 : xlk fT 8 39 = some (8, 4, false) := rfl
set_option maxRecDepth 100000 in
theorem u_fT_8042 : xlk fT 8 42 = some (8, 5, false) := rfl
set_option maxRecDepth 100000 in
theorem u_fT_8045 : xlk fT 8 45 = some (8, 6, false) := rfl
set_option maxRecDepth 100000 in
theorem u_fT_8051 : xlk fT 8 51 = some (8, 7, false) := rfl
set_option maxRecDepth 100000 in
theorem u_fT_8060 : xlk fT 8 60 = some (8, 8, false) := rfl
set_option maxRecDepth 100000 in
theorem u_fT_8064 : xlk fT 8 64 = some (8, 10, false) := rfl
set_option maxRecDepth 100000 in
theorem u_fT_8068 : xlk fT 8 68 = some (8, 11, false) := rfl
set_option maxRecDepth 100000 in
theorem u_fT_8078 : xlk fT 8 78 = some (5, 1, true) := rfl
set_option maxRecDepth 100000 in
theorem u_fT_8111 : xlk fT 8 111 = some (5, 0, true) := rfl
set_option maxRecDepth 100000 in
theorem u_fT_8146 : xlk fT 8 146 = some (5, 2, true) := rfl
set_option maxRecDepth 100000 in
theorem u_fT_8212 : xlk fT 8 212 = some (5, 3, true) := rfl
set_option maxRecDepth 100000 in
theorem u_fT_8215 : xlk fT 8 215 = some (5, 4, true) := rfl
set_option maxRecDepth 100000 in
theorem u_fT_8283 : xlk fT 8 283 = some (8, 9, false) := rfl
set_option maxRecDepth 100000 in
theorem u_fT_9009 : xlk fT 9 9 = some (9, 0, false) := rfl
set_option maxRecDepth 100000 in
theorem u_fT_9013 : xlk fT 9 13 = some (9, 1, false) := rfl
set_option maxRecDepth 100000 in
theorem u_fT_9016 : xlk fT 9 16 = some (9, 3, false) := rfl
set_option maxRecDepth 100000 in
theorem u_fT_9019 : xlk fT 9 19 = some (9, 7, false) := rfl
set_option maxRecDepth 100000 in
theorem u_fT_9023 : xlk fT 9 23 = some (9, 8, false) := rfl
set_option maxRecDepth 100000 in
theorem u_fT_9027 : xlk fT 9 27 = some (9, 10, false) := rfl
set_option maxRecDepth 100000 in
theorem u_fT_9031 : xlk fT 9 31 = some (9, 11, false) := rfl
set_option maxRecDepth 100000 in
theorem u_fT_9034 : xlk fT 9 34 = some (9, 12, false) := rfl
set_option maxRecDepth 100000 in
theorem u_fT_9037 : xlk fT 9 37 = some (9, 5, false) := rfl
set_option maxRecDepth 100000 in
theorem u_fT_9040 : xlk fT 9 40 = some (9, 2, false) := rfl
set_option maxRecDepth 100000 in
theorem u_fT_9143 : xlk fT 9 143 = some (9, 6, false) := rfl
set_option maxRecDepth 100000 in
theorem u_fT_9192 : xlk fT 9 192 = some (9, 15, false) := rfl
set_option maxRecDepth 100000 in
theorem u_fT_9196 : xlk fT 9 196 = some (9, 14, false) := rfl
set_option maxRecDepth 100000 in
theorem u_fT_9199 : xlk fT 9 199 = some (9, 13, false) := rfl
set_option maxRecDepth 100000 in
theorem u_fT_9213 : xlk fT 9 213 = some (9, 16, false) := rfl
set_option maxRecDepth 100000 in
theorem u_fT_9216 : xlk fT 9 216 = some (9, 18, false) := rfl
set_option maxRecDepth 100000 in
theorem u_fT_9219 : xlk fT 9 219 = some (9, 19, false) := rfl
set_option maxRecDepth 100000 in
theorem u_fT_9222 : xlk fT 9 222 = some (9, 20, false) := rfl
set_option maxRecDepth 100000 in
theorem u_fT_9225 : xlk fT 9 225 = some (9, 17, false) := rfl
set_option maxRecDepth 100000 in
theorem u_fT_9238 : xlk fT 9 238 = some (9, 21, false) := rfl
set_option maxRecDepth 100000 in
theorem u_fT_9244 : xlk fT 9 244 = some (9, 9, false) := rfl
set_option maxRecDepth 100000 in
theorem u_fT_9257 : xlk fT 9 257 = some (9, 4, false) := rfl
set_option maxRecDepth 100000 in
theorem u_sT_8073 : xlk sT 8 73 = some "the area of a floor is from 10 to 999" := rfl
set_option maxRecDepth 100000 in
theorem u_sT_8087 : xlk sT 8 87 = some "there are 4 buildings" := rfl
set_option maxRecDepth 100000 in
theorem u_sT_8118 : xlk sT 8 118 = some "a building has the numbers 0 to 3" := rfl
set_option maxRecDepth 100000 in
theorem u_sT_8126 : xlk sT 8 126 = some "there is no such floor" := rfl
set_option maxRecDepth 100000 in
theorem u_sT_8138 : xlk sT 8 138 = some "a floor has the numbers 0 to 3" := rfl
set_option maxRecDepth 100000 in
theorem u_sT_8155 : xlk sT 8 155 = some "a unit has the numbers 0 to 7 and 10 to 14" := rfl
set_option maxRecDepth 100000 in
theorem u_sT_8159 : xlk sT 8 159 = some "there is no such parent" := rfl
set_option maxRecDepth 100000 in
theorem u_sT_8171 : xlk sT 8 171 = some "there is no such unit" := rfl
set_option maxRecDepth 100000 in
theorem u_sT_8204 : xlk sT 8 204 = some "the permit cannot be granted" := rfl
set_option maxRecDepth 100000 in
theorem u_sT_8227 : xlk sT 8 227 = some "a permit has the numbers 0 to 7" := rfl
set_option maxRecDepth 100000 in
theorem u_sT_8229 : xlk sT 8 229 = some "every permit was granted so far" := rfl
set_option maxRecDepth 100000 in
theorem u_sT_8231 : xlk sT 8 231 = some "1 to 99 days can pass" := rfl
set_option maxRecDepth 100000 in
theorem u_sT_8233 : xlk sT 8 233 = some "the last day is 9999" := rfl
set_option maxRecDepth 100000 in
theorem u_sT_8252 : xlk sT 8 252 = some "there are no units at this day" := rfl
set_option maxRecDepth 100000 in
theorem u_sT_8265 : xlk sT 8 265 = some "the input has 60 characters" := rfl
set_option maxRecDepth 100000 in
theorem u_sT_8270 : xlk sT 8 270 = some "no text had an error" := rfl
set_option maxRecDepth 100000 in
theorem u_sT_8276 : xlk sT 8 276 = some "the census has the numbers 0 to 8" := rfl
set_option maxRecDepth 100000 in
theorem u_sT_8278 : xlk sT 8 278 = some "there is no change to undo" := rfl
set_option maxRecDepth 100000 in
theorem u_sT_8287 : xlk sT 8 287 = some "nothing was saved" := rfl
set_option maxRecDepth 100000 in
theorem u_sT_8293 : xlk sT 8 293 = some "there is no such building" := rfl
set_option maxRecDepth 100000 in
theorem u_sT_8295 : xlk sT 8 295 = some "there is no such use" := rfl
set_option maxRecDepth 100000 in
theorem u_sT_8297 : xlk sT 8 297 = some "there is no such permit" := rfl
set_option maxRecDepth 100000 in
theorem u_sT_8301 : xlk sT 8 301 = some "the stage of the permit does not allow this" := rfl
set_option maxRecDepth 100000 in
theorem u_sT_8304 : xlk sT 8 304 = some "the day is from 0 to the present one" := rfl
set_option maxRecDepth 100000 in
theorem u_sT_8306 : xlk sT 8 306 = some "the text has an error" := rfl
set_option maxRecDepth 100000 in
theorem u_sT_8314 : xlk sT 8 314 = some "a number of the application is out of range" := rfl
set_option maxRecDepth 100000 in
theorem u_sT_8316 : xlk sT 8 316 = some "there are 40 permits at most" := rfl
set_option maxRecDepth 100000 in
theorem u_sT_12009 : xlk sT 12 9 = some "u##=A@" := rfl
set_option maxRecDepth 100000 in
theorem u_sT_12011 : xlk sT 12 11 = some "sN:A" := rfl
set_option maxRecDepth 100000 in
theorem u_sT_12013 : xlk sT 12 13 = some "jN+N" := rfl
set_option maxRecDepth 100000 in
theorem u_sT_12015 : xlk sT 12 15 = some "cN:A@\x40" := rfl
set_option maxRecDepth 100000 in
theorem u_sT_12017 : xlk sT 12 17 = some "eN" := rfl
set_option maxRecDepth 100000 in
theorem u_sT_12019 : xlk sT 12 19 = some "f#=F" := rfl
set_option maxRecDepth 100000 in
theorem u_sT_12021 : xlk sT 12 21 = some "#:N,N" := rfl
set_option maxRecDepth 100000 in
theorem u_tT_8071 : xlk tT 8 71 = some (0, 75) := rfl
set_option maxRecDepth 100000 in
theorem u_tT_8085 : xlk tT 8 85 = some (1, 89) := rfl
set_option maxRecDepth 100000 in
theorem u_tT_8124 : xlk tT 8 124 = some (2, 128) := rfl
set_option maxRecDepth 100000 in
theorem u_tT_8157 : xlk tT 8 157 = some (3, 161) := rfl
set_option maxRecDepth 100000 in
theorem u_tT_8250 : xlk tT 8 250 = some (5, 254) := rfl
set_option maxRecDepth 100000 in
theorem u_tT_8299 : xlk tT 8 299 = some (4, 303) := rfl
theorem u_pn_2015 : xlk pT 2 15 = none := rfl
theorem u_pn_2019 : xlk pT 2 19 = none := rfl
theorem u_pn_2028 : xlk pT 2 28 = none := rfl
theorem u_pn_2034 : xlk pT 2 34 = none := rfl
theorem u_pn_2038 : xlk pT 2 38 = none := rfl
theorem u_pn_2041 : xlk pT 2 41 = none := rfl
theorem u_pn_2044 : xlk pT 2 44 = none := rfl
theorem u_pn_2047 : xlk pT 2 47 = none := rfl
theorem u_pn_2054 : xlk pT 2 54 = none := rfl
theorem u_pn_2057 : xlk pT 2 57 = none := rfl
theorem u_pn_2060 : xlk pT 2 60 = none := rfl
theorem u_pn_2066 : xlk pT 2 66 = none := rfl
theorem u_pn_2069 : xlk pT 2 69 = none := rfl
theorem u_pn_2073 : xlk pT 2 73 = none := rfl
theorem u_pn_2076 : xlk pT 2 76 = none := rfl
theorem u_pn_2079 : xlk pT 2 79 = none := rfl
theorem u_pn_2082 : xlk pT 2 82 = none := rfl
theorem u_pn_2085 : xlk pT 2 85 = none := rfl
theorem u_pn_2088 : xlk pT 2 88 = none := rfl
theorem u_pn_2091 : xlk pT 2 91 = none := rfl
theorem u_pn_3017 : xlk pT 3 17 = none := rfl
theorem u_pn_3025 : xlk pT 3 25 = none := rfl
theorem u_pn_3029 : xlk pT 3 29 = none := rfl
theorem u_pn_4019 : xlk pT 4 19 = none := rfl
theorem u_pn_4027 : xlk pT 4 27 = none := rfl
theorem u_pn_4031 : xlk pT 4 31 = none := rfl
theorem u_pn_4037 : xlk pT 4 37 = none := rfl
theorem u_pn_4041 : xlk pT 4 41 = none := rfl
theorem u_pn_4044 : xlk pT 4 44 = none := rfl
theorem u_pn_4048 : xlk pT 4 48 = none := rfl
theorem u_pn_4060 : xlk pT 4 60 = none := rfl
theorem u_pn_4064 : xlk pT 4 64 = none := rfl
theorem u_pn_4068 : xlk pT 4 68 = none := rfl
theorem u_pn_4072 : xlk pT 4 72 = none := rfl
theorem u_pn_5011 : xlk pT 5 11 = none := rfl
theorem u_pn_5033 : xlk pT 5 33 = none := rfl
theorem u_pn_5037 : xlk pT 5 37 = none := rfl
theorem u_pn_5041 : xlk pT 5 41 = none := rfl
theorem u_pn_5045 : xlk pT 5 45 = none := rfl
theorem u_pn_5048 : xlk pT 5 48 = none := rfl
theorem u_pn_5052 : xlk pT 5 52 = none := rfl
theorem u_pn_5056 : xlk pT 5 56 = none := rfl
theorem u_pn_5059 : xlk pT 5 59 = none := rfl
theorem u_pn_5063 : xlk pT 5 63 = none := rfl
theorem u_pn_5067 : xlk pT 5 67 = none := rfl
theorem u_pn_5070 : xlk pT 5 70 = none := rfl
theorem u_pn_5074 : xlk pT 5 74 = none := rfl
theorem u_pn_5078 : xlk pT 5 78 = none := rfl
theorem u_pn_5081 : xlk pT 5 81 = none := rfl
theorem u_pn_5092 : xlk pT 5 92 = none := rfl
theorem u_pn_5096 : xlk pT 5 96 = none := rfl
theorem u_pn_5099 : xlk pT 5 99 = none := rfl
theorem u_pn_5102 : xlk pT 5 102 = none := rfl
theorem u_pn_5105 : xlk pT 5 105 = none := rfl
theorem u_pn_5108 : xlk pT 5 108 = none := rfl
theorem u_pn_5111 : xlk pT 5 111 = none := rfl
theorem u_pn_5114 : xlk pT 5 114 = none := rfl
theorem u_pn_6022 : xlk pT 6 22 = none := rfl
theorem u_pn_7021 : xlk pT 7 21 = none := rfl
theorem u_pn_7029 : xlk pT 7 29 = none := rfl
theorem u_pn_7033 : xlk pT 7 33 = none := rfl
theorem u_pn_7040 : xlk pT 7 40 = none := rfl
theorem u_pn_7047 : xlk pT 7 47 = none := rfl
theorem u_pn_7051 : xlk pT 7 51 = none := rfl
theorem u_pn_7054 : xlk pT 7 54 = none := rfl
theorem u_pn_7058 : xlk pT 7 58 = none := rfl
theorem u_pn_7061 : xlk pT 7 61 = none := rfl
theorem u_pn_7064 : xlk pT 7 64 = none := rfl
theorem u_pn_7067 : xlk pT 7 67 = none := rfl
theorem u_pn_7071 : xlk pT 7 71 = none := rfl
theorem u_pn_7074 : xlk pT 7 74 = none := rfl
theorem u_pn_7077 : xlk pT 7 77 = none := rfl
theorem u_pn_7080 : xlk pT 7 80 = none := rfl
theorem u_pn_7083 : xlk pT 7 83 = none := rfl
theorem u_pn_7086 : xlk pT 7 86 = none := rfl
theorem u_pn_7089 : xlk pT 7 89 = none := rfl
theorem u_pn_7092 : xlk pT 7 92 = none := rfl
theorem u_pn_7095 : xlk pT 7 95 = none := rfl
theorem u_pn_8011 : xlk pT 8 11 = none := rfl
theorem u_pn_8018 : xlk pT 8 18 = none := rfl
theorem u_pn_8027 : xlk pT 8 27 = none := rfl
theorem u_pn_8034 : xlk pT 8 34 = none := rfl
theorem u_pn_8050 : xlk pT 8 50 = none := rfl
theorem u_pn_8057 : xlk pT 8 57 = none := rfl
theorem u_pn_8081 : xlk pT 8 81 = none := rfl
theorem u_pn_8090 : xlk pT 8 90 = none := rfl
theorem u_pn_8093 : xlk pT 8 93 = none := rfl
theorem u_pn_8096 : xlk pT 8 96 = none := rfl
theorem u_pn_8100 : xlk pT 8 100 = none := rfl
theorem u_pn_8104 : xlk pT 8 104 = none := rfl
theorem u_pn_8108 : xlk pT 8 108 = none := rfl
theorem u_pn_8114 : xlk pT 8 114 = none := rfl
theorem u_pn_8120 : xlk pT 8 120 = none := rfl
theorem u_pn_8129 : xlk pT 8 129 = none := rfl
theorem u_pn_8132 : xlk pT 8 132 = none := rfl
theorem u_pn_8135 : xlk pT 8 135 = none := rfl
theorem u_pn_8140 : xlk pT 8 140 = none := rfl
theorem u_pn_8143 : xlk pT 8 143 = none := rfl
theorem u_pn_8149 : xlk pT 8 149 = none := rfl
theorem u_pn_8152 : xlk pT 8 152 = none := rfl
theorem u_pn_8162 : xlk pT 8 162 = none := rfl
theorem u_pn_8165 : xlk pT 8 165 = none := rfl
theorem u_pn_8168 : xlk pT 8 168 = none := rfl
theorem u_pn_8173 : xlk pT 8 173 = none := rfl
theorem u_pn_8176 : xlk pT 8 176 = none := rfl
theorem u_pn_8180 : xlk pT 8 180 = none := rfl
theorem u_pn_8183 : xlk pT 8 183 = none := rfl
theorem u_pn_8186 : xlk pT 8 186 = none := rfl
theorem u_pn_8190 : xlk pT 8 190 = none := rfl
theorem u_pn_8194 : xlk pT 8 194 = none := rfl
theorem u_pn_8195 : xlk pT 8 195 = none := rfl
theorem u_pn_8198 : xlk pT 8 198 = none := rfl
theorem u_pn_8201 : xlk pT 8 201 = none := rfl
theorem u_pn_8206 : xlk pT 8 206 = none := rfl
theorem u_pn_8209 : xlk pT 8 209 = none := rfl
theorem u_pn_8218 : xlk pT 8 218 = none := rfl
theorem u_pn_8221 : xlk pT 8 221 = none := rfl
theorem u_pn_8224 : xlk pT 8 224 = none := rfl
theorem u_pn_8235 : xlk pT 8 235 = none := rfl
theorem u_pn_8238 : xlk pT 8 238 = none := rfl
theorem u_pn_8241 : xlk pT 8 241 = none := rfl
theorem u_pn_8244 : xlk pT 8 244 = none := rfl
theorem u_pn_8247 : xlk pT 8 247 = none := rfl
theorem u_pn_8255 : xlk pT 8 255 = none := rfl
theorem u_pn_8259 : xlk pT 8 259 = none := rfl
theorem u_pn_8262 : xlk pT 8 262 = none := rfl
theorem u_pn_8267 : xlk pT 8 267 = none := rfl
theorem u_pn_8272 : xlk pT 8 272 = none := rfl
theorem u_pn_8275 : xlk pT 8 275 = none := rfl
theorem u_pn_8280 : xlk pT 8 280 = none := rfl
theorem u_pn_8289 : xlk pT 8 289 = none := rfl
theorem u_pn_8290 : xlk pT 8 290 = none := rfl
theorem u_pn_8308 : xlk pT 8 308 = none := rfl
theorem u_pn_9043 : xlk pT 9 43 = none := rfl
theorem u_pn_9047 : xlk pT 9 47 = none := rfl
theorem u_pn_9051 : xlk pT 9 51 = none := rfl
theorem u_pn_9055 : xlk pT 9 55 = none := rfl
theorem u_pn_9058 : xlk pT 9 58 = none := rfl
theorem u_pn_9062 : xlk pT 9 62 = none := rfl
theorem u_pn_9065 : xlk pT 9 65 = none := rfl
theorem u_pn_9068 : xlk pT 9 68 = none := rfl
theorem u_pn_9071 : xlk pT 9 71 = none := rfl
theorem u_pn_9074 : xlk pT 9 74 = none := rfl
theorem u_pn_9077 : xlk pT 9 77 = none := rfl
theorem u_pn_9080 : xlk pT 9 80 = none := rfl
theorem u_pn_9084 : xlk pT 9 84 = none := rfl
theorem u_pn_9087 : xlk pT 9 87 = none := rfl
theorem u_pn_9090 : xlk pT 9 90 = none := rfl
theorem u_pn_9094 : xlk pT 9 94 = none := rfl
theorem u_pn_9097 : xlk pT 9 97 = none := rfl
theorem u_pn_9100 : xlk pT 9 100 = none := rfl
theorem u_pn_9103 : xlk pT 9 103 = none := rfl
theorem u_pn_9107 : xlk pT 9 107 = none := rfl
theorem u_pn_9111 : xlk pT 9 111 = none := rfl
theorem u_pn_9115 : xlk pT 9 115 = none := rfl
theorem u_pn_9119 : xlk pT 9 119 = none := rfl
theorem u_pn_9122 : xlk pT 9 122 = none := rfl
theorem u_pn_9125 : xlk pT 9 125 = none := rfl
theorem u_pn_9128 : xlk pT 9 128 = none := rfl
theorem u_pn_9131 : xlk pT 9 131 = none := rfl
theorem u_pn_9134 : xlk pT 9 134 = none := rfl
theorem u_pn_9137 : xlk pT 9 137 = none := rfl
theorem u_pn_9140 : xlk pT 9 140 = none := rfl
theorem u_pn_9146 : xlk pT 9 146 = none := rfl
theorem u_pn_9150 : xlk pT 9 150 = none := rfl
theorem u_pn_9154 : xlk pT 9 154 = none := rfl
theorem u_pn_9157 : xlk pT 9 157 = none := rfl
theorem u_pn_9160 : xlk pT 9 160 = none := rfl
theorem u_pn_9163 : xlk pT 9 163 = none := rfl
theorem u_pn_9166 : xlk pT 9 166 = none := rfl
theorem u_pn_9169 : xlk pT 9 169 = none := rfl
theorem u_pn_9173 : xlk pT 9 173 = none := rfl
theorem u_pn_9176 : xlk pT 9 176 = none := rfl
theorem u_pn_9179 : xlk pT 9 179 = none := rfl
theorem u_pn_9182 : xlk pT 9 182 = none := rfl
theorem u_pn_9185 : xlk pT 9 185 = none := rfl
theorem u_pn_9189 : xlk pT 9 189 = none := rfl
theorem u_pn_9202 : xlk pT 9 202 = none := rfl
theorem u_pn_9206 : xlk pT 9 206 = none := rfl
theorem u_pn_9209 : xlk pT 9 209 = none := rfl
theorem u_pn_9228 : xlk pT 9 228 = none := rfl
theorem u_pn_9232 : xlk pT 9 232 = none := rfl
theorem u_pn_9235 : xlk pT 9 235 = none := rfl
theorem u_pn_9241 : xlk pT 9 241 = none := rfl
theorem u_pn_9247 : xlk pT 9 247 = none := rfl
theorem u_pn_9251 : xlk pT 9 251 = none := rfl
theorem u_pn_9254 : xlk pT 9 254 = none := rfl
theorem u_pn_10007 : xlk pT 10 7 = none := rfl
theorem u_pn_10017 : xlk pT 10 17 = none := rfl
theorem u_pn_10023 : xlk pT 10 23 = none := rfl
theorem u_pn_10027 : xlk pT 10 27 = none := rfl
theorem u_pn_10030 : xlk pT 10 30 = none := rfl
theorem u_pn_10035 : xlk pT 10 35 = none := rfl
theorem u_pn_10039 : xlk pT 10 39 = none := rfl
theorem u_pn_10042 : xlk pT 10 42 = none := rfl
theorem u_pn_10046 : xlk pT 10 46 = none := rfl
theorem u_pn_10050 : xlk pT 10 50 = none := rfl
theorem u_pn_10055 : xlk pT 10 55 = none := rfl
theorem u_pn_10058 : xlk pT 10 58 = none := rfl
theorem u_pn_10061 : xlk pT 10 61 = none := rfl
theorem u_pn_10064 : xlk pT 10 64 = none := rfl
theorem u_pn_10067 : xlk pT 10 67 = none := rfl
theorem u_pn_10070 : xlk pT 10 70 = none := rfl
theorem u_pn_10073 : xlk pT 10 73 = none := rfl
theorem u_pn_10076 : xlk pT 10 76 = none := rfl
theorem u_pn_10080 : xlk pT 10 80 = none := rfl
theorem u_pn_10083 : xlk pT 10 83 = none := rfl
theorem u_pn_10089 : xlk pT 10 89 = none := rfl
theorem u_pn_10092 : xlk pT 10 92 = none := rfl
theorem u_pn_10096 : xlk pT 10 96 = none := rfl
theorem u_pn_10099 : xlk pT 10 99 = none := rfl
theorem u_pn_10102 : xlk pT 10 102 = none := rfl
theorem u_pn_10105 : xlk pT 10 105 = none := rfl
theorem u_pn_10108 : xlk pT 10 108 = none := rfl
theorem u_pn_10111 : xlk pT 10 111 = none := rfl
theorem u_pn_10112 : xlk pT 10 112 = none := rfl
theorem u_pn_10117 : xlk pT 10 117 = none := rfl
theorem u_pn_10118 : xlk pT 10 118 = none := rfl
theorem u_pn_10121 : xlk pT 10 121 = none := rfl
theorem u_pn_10124 : xlk pT 10 124 = none := rfl
theorem u_pn_10125 : xlk pT 10 125 = none := rfl
theorem u_pn_10128 : xlk pT 10 128 = none := rfl
theorem u_pn_10129 : xlk pT 10 129 = none := rfl
theorem u_pn_10131 : xlk pT 10 131 = none := rfl
theorem u_pn_10132 : xlk pT 10 132 = none := rfl
theorem u_pn_10134 : xlk pT 10 134 = none := rfl
theorem u_pn_10135 : xlk pT 10 135 = none := rfl
theorem u_pn_10137 : xlk pT 10 137 = none := rfl
theorem u_pn_10138 : xlk pT 10 138 = none := rfl
theorem u_pn_10140 : xlk pT 10 140 = none := rfl
theorem u_pn_10141 : xlk pT 10 141 = none := rfl
theorem u_pn_10144 : xlk pT 10 144 = none := rfl
theorem u_pn_10145 : xlk pT 10 145 = none := rfl
theorem u_pn_10148 : xlk pT 10 148 = none := rfl
theorem u_pn_10149 : xlk pT 10 149 = none := rfl
theorem u_pn_10151 : xlk pT 10 151 = none := rfl
theorem u_pn_10152 : xlk pT 10 152 = none := rfl
theorem u_pn_10154 : xlk pT 10 154 = none := rfl
theorem u_pn_10155 : xlk pT 10 155 = none := rfl
theorem u_pn_10157 : xlk pT 10 157 = none := rfl
theorem u_pn_10158 : xlk pT 10 158 = none := rfl
theorem u_pn_10160 : xlk pT 10 160 = none := rfl
theorem u_pn_10161 : xlk pT 10 161 = none := rfl
theorem u_pn_10163 : xlk pT 10 163 = none := rfl
theorem u_pn_10164 : xlk pT 10 164 = none := rfl
theorem u_pn_10166 : xlk pT 10 166 = none := rfl
theorem u_pn_10167 : xlk pT 10 167 = none := rfl
theorem u_pn_10169 : xlk pT 10 169 = none := rfl
theorem u_pn_10170 : xlk pT 10 170 = none := rfl
theorem u_pn_10172 : xlk pT 10 172 = none := rfl
theorem u_pn_10173 : xlk pT 10 173 = none := rfl
theorem u_pn_10176 : xlk pT 10 176 = none := rfl
theorem u_pn_10177 : xlk pT 10 177 = none := rfl
theorem u_pn_10179 : xlk pT 10 179 = none := rfl
theorem u_pn_10180 : xlk pT 10 180 = none := rfl
theorem u_pn_10183 : xlk pT 10 183 = none := rfl
theorem u_pn_10184 : xlk pT 10 184 = none := rfl
theorem u_pn_10187 : xlk pT 10 187 = none := rfl
theorem u_pn_10188 : xlk pT 10 188 = none := rfl
theorem u_pn_10190 : xlk pT 10 190 = none := rfl
theorem u_pn_10191 : xlk pT 10 191 = none := rfl
theorem u_pn_10194 : xlk pT 10 194 = none := rfl
theorem u_pn_10195 : xlk pT 10 195 = none := rfl
theorem u_pn_10197 : xlk pT 10 197 = none := rfl
theorem u_pn_10198 : xlk pT 10 198 = none := rfl
theorem u_pn_10200 : xlk pT 10 200 = none := rfl
theorem u_pn_10201 : xlk pT 10 201 = none := rfl
theorem u_pn_10203 : xlk pT 10 203 = none := rfl
theorem u_pn_10204 : xlk pT 10 204 = none := rfl
theorem u_pn_10207 : xlk pT 10 207 = none := rfl
theorem u_pn_10208 : xlk pT 10 208 = none := rfl
theorem u_pn_10210 : xlk pT 10 210 = none := rfl
theorem u_pn_11007 : xlk pT 11 7 = none := rfl
theorem u_pn_11017 : xlk pT 11 17 = none := rfl
theorem u_pn_11023 : xlk pT 11 23 = none := rfl
theorem u_pn_11027 : xlk pT 11 27 = none := rfl
theorem u_pn_11030 : xlk pT 11 30 = none := rfl
theorem u_pn_11035 : xlk pT 11 35 = none := rfl
theorem u_pn_11039 : xlk pT 11 39 = none := rfl
theorem u_pn_11042 : xlk pT 11 42 = none := rfl
theorem u_pn_11046 : xlk pT 11 46 = none := rfl
theorem u_pn_11050 : xlk pT 11 50 = none := rfl
theorem u_pn_11055 : xlk pT 11 55 = none := rfl
theorem u_pn_11058 : xlk pT 11 58 = none := rfl
theorem u_pn_11061 : xlk pT 11 61 = none := rfl
theorem u_pn_11064 : xlk pT 11 64 = none := rfl
theorem u_pn_11067 : xlk pT 11 67 = none := rfl
theorem u_pn_11070 : xlk pT 11 70 = none := rfl
theorem u_pn_11073 : xlk pT 11 73 = none := rfl
theorem u_pn_11076 : xlk pT 11 76 = none := rfl
theorem u_pn_11080 : xlk pT 11 80 = none := rfl
theorem u_pn_11083 : xlk pT 11 83 = none := rfl
theorem u_pn_11089 : xlk pT 11 89 = none := rfl
theorem u_pn_11092 : xlk pT 11 92 = none := rfl
theorem u_pn_11096 : xlk pT 11 96 = none := rfl
theorem u_pn_11099 : xlk pT 11 99 = none := rfl
theorem u_pn_11102 : xlk pT 11 102 = none := rfl
theorem u_pn_11105 : xlk pT 11 105 = none := rfl
theorem u_pn_11108 : xlk pT 11 108 = none := rfl
theorem u_pn_11111 : xlk pT 11 111 = none := rfl
theorem u_pn_11112 : xlk pT 11 112 = none := rfl
theorem u_pn_11117 : xlk pT 11 117 = none := rfl
theorem u_pn_11118 : xlk pT 11 118 = none := rfl
theorem u_pn_11121 : xlk pT 11 121 = none := rfl
theorem u_pn_11124 : xlk pT 11 124 = none := rfl
theorem u_pn_11125 : xlk pT 11 125 = none := rfl
theorem u_pn_11128 : xlk pT 11 128 = none := rfl
theorem u_pn_11129 : xlk pT 11 129 = none := rfl
theorem u_pn_11131 : xlk pT 11 131 = none := rfl
theorem u_pn_11132 : xlk pT 11 132 = none := rfl
theorem u_pn_11134 : xlk pT 11 134 = none := rfl
theorem u_pn_11135 : xlk pT 11 135 = none := rfl
theorem u_pn_11137 : xlk pT 11 137 = none := rfl
theorem u_pn_11138 : xlk pT 11 138 = none := rfl
theorem u_pn_11140 : xlk pT 11 140 = none := rfl
theorem u_pn_11141 : xlk pT 11 141 = none := rfl
theorem u_pn_11144 : xlk pT 11 144 = none := rfl
theorem u_pn_11145 : xlk pT 11 145 = none := rfl
theorem u_pn_11148 : xlk pT 11 148 = none := rfl
theorem u_pn_11149 : xlk pT 11 149 = none := rfl
theorem u_pn_11151 : xlk pT 11 151 = none := rfl
theorem u_pn_11152 : xlk pT 11 152 = none := rfl
theorem u_pn_11154 : xlk pT 11 154 = none := rfl
theorem u_pn_11155 : xlk pT 11 155 = none := rfl
theorem u_pn_11157 : xlk pT 11 157 = none := rfl
theorem u_pn_11158 : xlk pT 11 158 = none := rfl
theorem u_pn_11160 : xlk pT 11 160 = none := rfl
theorem u_pn_11161 : xlk pT 11 161 = none := rfl
theorem u_pn_11163 : xlk pT 11 163 = none := rfl
theorem u_pn_11164 : xlk pT 11 164 = none := rfl
theorem u_pn_11166 : xlk pT 11 166 = none := rfl
theorem u_pn_11167 : xlk pT 11 167 = none := rfl
theorem u_pn_11169 : xlk pT 11 169 = none := rfl
theorem u_pn_11170 : xlk pT 11 170 = none := rfl
theorem u_pn_11172 : xlk pT 11 172 = none := rfl
theorem u_pn_11173 : xlk pT 11 173 = none := rfl
theorem u_pn_11176 : xlk pT 11 176 = none := rfl
theorem u_pn_11177 : xlk pT 11 177 = none := rfl
theorem u_pn_11179 : xlk pT 11 179 = none := rfl
theorem u_pn_11180 : xlk pT 11 180 = none := rfl
theorem u_pn_11183 : xlk pT 11 183 = none := rfl
theorem u_pn_11184 : xlk pT 11 184 = none := rfl
theorem u_pn_11187 : xlk pT 11 187 = none := rfl
theorem u_pn_11188 : xlk pT 11 188 = none := rfl
theorem u_pn_11190 : xlk pT 11 190 = none := rfl
theorem u_pn_11191 : xlk pT 11 191 = none := rfl
theorem u_pn_11194 : xlk pT 11 194 = none := rfl
theorem u_pn_11195 : xlk pT 11 195 = none := rfl
theorem u_pn_11197 : xlk pT 11 197 = none := rfl
theorem u_pn_11198 : xlk pT 11 198 = none := rfl
theorem u_pn_11200 : xlk pT 11 200 = none := rfl
theorem u_pn_11201 : xlk pT 11 201 = none := rfl
theorem u_pn_11203 : xlk pT 11 203 = none := rfl
theorem u_pn_11204 : xlk pT 11 204 = none := rfl
theorem u_pn_11207 : xlk pT 11 207 = none := rfl
theorem u_pn_11208 : xlk pT 11 208 = none := rfl
theorem u_pn_11210 : xlk pT 11 210 = none := rfl
theorem u_pn_12023 : xlk pT 12 23 = none := rfl
theorem u_pn_12039 : xlk pT 12 39 = none := rfl
theorem u_pn_12049 : xlk pT 12 49 = none := rfl
theorem u_pn_12053 : xlk pT 12 53 = none := rfl
theorem u_pn_12057 : xlk pT 12 57 = none := rfl
theorem u_cn_8071 : xlk cT 8 71 = none := rfl
theorem u_cn_8085 : xlk cT 8 85 = none := rfl
theorem u_cn_8124 : xlk cT 8 124 = none := rfl
theorem u_cn_8157 : xlk cT 8 157 = none := rfl
theorem u_cn_8250 : xlk cT 8 250 = none := rfl
theorem u_cn_8299 : xlk cT 8 299 = none := rfl
theorem u_ldc_12009 : xldc (12 * 1000 + 9) = some 0 := by decide +kernel
theorem u_ldc_12011 : xldc (12 * 1000 + 11) = some 1 := by decide +kernel
theorem u_ldc_12013 : xldc (12 * 1000 + 13) = some 2 := by decide +kernel
theorem u_ldc_12015 : xldc (12 * 1000 + 15) = some 3 := by decide +kernel
theorem u_ldc_12017 : xldc (12 * 1000 + 17) = some 4 := by decide +kernel
theorem u_ldc_12019 : xldc (12 * 1000 + 19) = some 5 := by decide +kernel
theorem u_ldc_12021 : xldc (12 * 1000 + 21) = some 6 := by decide +kernel
