/-! 18: numbers of each method, as simp rows -/
theorem R_Actions_init : mR 0 = none := rfl
theorem C_Actions_init : mRc 0 = (0, 0) := rfl
theorem M_Actions_init : mMc 0 = (1, 6) := rfl
theorem R_Actions_buildRoom : mR 1 = (some (.int)) := rfl
theorem C_Actions_buildRoom : mRc 1 = (0, 0) := rfl
theorem M_Actions_buildRoom : mMc 1 = (1, 6) := rfl
theorem R_Actions_buildDoor : mR 2 = (some (.int)) := rfl
theorem C_Actions_buildDoor : mRc 2 = (0, 0) := rfl
theorem M_Actions_buildDoor : mMc 2 = (1, 6) := rfl
theorem R_Actions_turnDoor : mR 3 = (some (.int)) := rfl
theorem C_Actions_turnDoor : mRc 3 = (0, 0) := rfl
theorem M_Actions_turnDoor : mMc 3 = (1, 6) := rfl
theorem R_Actions_fitThermometer : mR 4 = (some (.int)) := rfl
theorem C_Actions_fitThermometer : mRc 4 = (0, 0) := rfl
theorem M_Actions_fitThermometer : mMc 4 = (1, 6) := rfl
theorem R_Actions_fitMicrophone : mR 5 = (some (.int)) := rfl
theorem C_Actions_fitMicrophone : mRc 5 = (0, 0) := rfl
theorem M_Actions_fitMicrophone : mMc 5 = (1, 6) := rfl
theorem R_Actions_switched : mR 6 = (some (.int)) := rfl
theorem C_Actions_switched : mRc 6 = (0, 0) := rfl
theorem M_Actions_switched : mMc 6 = (1, 6) := rfl
theorem R_Actions_heatRoom : mR 7 = (some (.int)) := rfl
theorem C_Actions_heatRoom : mRc 7 = (0, 0) := rfl
theorem M_Actions_heatRoom : mMc 7 = (1, 6) := rfl
theorem R_Actions_sleep : mR 8 = (some (.int)) := rfl
theorem C_Actions_sleep : mRc 8 = (0, 0) := rfl
theorem M_Actions_sleep : mMc 8 = (1, 6) := rfl
theorem R_Actions_ask : mR 9 = (some (.boolean)) := rfl
theorem C_Actions_ask : mRc 9 = (0, 0) := rfl
theorem M_Actions_ask : mMc 9 = (1, 6) := rfl
theorem R_Actions_earn : mR 10 = (some (.int)) := rfl
theorem C_Actions_earn : mRc 10 = (0, 0) := rfl
theorem M_Actions_earn : mMc 10 = (1, 6) := rfl
theorem R_Actions_change : mR 11 = (some (.int)) := rfl
theorem C_Actions_change : mRc 11 = (0, 0) := rfl
theorem M_Actions_change : mMc 11 = (1, 6) := rfl
theorem R_Description_init : mR 12 = none := rfl
theorem C_Description_init : mRc 12 = (0, 0) := rfl
theorem M_Description_init : mMc 12 = (1, 6) := rfl
theorem R_Description_read : mR 13 = none := rfl
theorem C_Description_read : mRc 13 = (0, 0) := rfl
theorem M_Description_read : mMc 13 = (1, 6) := rfl
theorem R_Description_readStatement : mR 14 = none := rfl
theorem C_Description_readStatement : mRc 14 = (0, 0) := rfl
theorem M_Description_readStatement : mMc 14 = (1, 6) := rfl
theorem R_Description_readRoom : mR 15 = none := rfl
theorem C_Description_readRoom : mRc 15 = (0, 0) := rfl
theorem M_Description_readRoom : mMc 15 = (1, 6) := rfl
theorem R_Description_readDoor : mR 16 = none := rfl
theorem C_Description_readDoor : mRc 16 = (0, 0) := rfl
theorem M_Description_readDoor : mMc 16 = (1, 6) := rfl
theorem R_Description_readGhost : mR 17 = none := rfl
theorem C_Description_readGhost : mRc 17 = (0, 0) := rfl
theorem M_Description_readGhost : mMc 17 = (1, 6) := rfl
theorem R_Description_readNights : mR 18 = none := rfl
theorem C_Description_readNights : mRc 18 = (0, 0) := rfl
theorem M_Description_readNights : mMc 18 = (1, 6) := rfl
theorem R_Description_readSetting : mR 19 = none := rfl
theorem C_Description_readSetting : mRc 19 = (0, 0) := rfl
theorem M_Description_readSetting : mMc 19 = (1, 6) := rfl
theorem R_History_init : mR 20 = none := rfl
theorem C_History_init : mRc 20 = (127, 33880) := rfl
theorem M_History_init : mMc 20 = (128, 33886) := rfl
theorem R_History_prepare : mR 21 = none := rfl
theorem C_History_prepare : mRc 21 = (0, 0) := rfl
theorem M_History_prepare : mMc 21 = (1, 6) := rfl
theorem R_History_remember : mR 22 = none := rfl
theorem C_History_remember : mRc 22 = (0, 0) := rfl
theorem M_History_remember : mMc 22 = (1, 6) := rfl
theorem R_History_forget : mR 23 = none := rfl
theorem C_History_forget : mRc 23 = (0, 0) := rfl
theorem M_History_forget : mMc 23 = (1, 6) := rfl
theorem R_History_slotAfter : mR 24 = (some (.object "GhostRooms$House")) := rfl
theorem C_History_slotAfter : mRc 24 = (0, 0) := rfl
theorem M_History_slotAfter : mMc 24 = (1, 6) := rfl
theorem R_House_init : mR 25 = none := rfl
theorem C_House_init : mRc 25 = (17, 4820) := rfl
theorem M_House_init : mMc 25 = (18, 4826) := rfl
theorem R_House_clear : mR 26 = none := rfl
theorem C_House_clear : mRc 26 = (0, 0) := rfl
theorem M_House_clear : mMc 26 = (1, 6) := rfl
theorem R_House_copyFrom : mR 27 = none := rfl
theorem C_House_copyFrom : mRc 27 = (0, 0) := rfl
theorem M_House_copyFrom : mMc 27 = (1, 6) := rfl
theorem R_House_requireRoom : mR 28 = none := rfl
theorem C_House_requireRoom : mRc 28 = (0, 0) := rfl
theorem M_House_requireRoom : mMc 28 = (1, 6) := rfl
theorem R_House_requireDoor : mR 29 = none := rfl
theorem C_House_requireDoor : mRc 29 = (0, 0) := rfl
theorem M_House_requireDoor : mMc 29 = (1, 6) := rfl
theorem R_House_nameOf : mR 30 = (some (.long)) := rfl
theorem C_House_nameOf : mRc 30 = (0, 0) := rfl
theorem M_House_nameOf : mMc 30 = (1, 6) := rfl
theorem R_House_roomNamed : mR 31 = (some (.int)) := rfl
theorem C_House_roomNamed : mRc 31 = (0, 0) := rfl
theorem M_House_roomNamed : mMc 31 = (1, 6) := rfl
theorem R_House_roomAtRank : mR 32 = (some (.int)) := rfl
theorem C_House_roomAtRank : mRc 32 = (0, 0) := rfl
theorem M_House_roomAtRank : mMc 32 = (1, 6) := rfl
theorem R_House_rankOf : mR 33 = (some (.int)) := rfl
theorem C_House_rankOf : mRc 33 = (0, 0) := rfl
theorem M_House_rankOf : mMc 33 = (1, 6) := rfl
theorem R_House_appendRoom : mR 34 = (some (.int)) := rfl
theorem C_House_appendRoom : mRc 34 = (0, 0) := rfl
theorem M_House_appendRoom : mMc 34 = (1, 6) := rfl
theorem R_House_appendDoor : mR 35 = (some (.int)) := rfl
theorem C_House_appendDoor : mRc 35 = (0, 0) := rfl
theorem M_House_appendDoor : mMc 35 = (1, 6) := rfl
theorem R_House_exclude : mR 36 = none := rfl
theorem C_House_exclude : mRc 36 = (0, 0) := rfl
theorem M_House_exclude : mMc 36 = (1, 6) := rfl
theorem R_House_doorOf : mR 37 = (some (.int)) := rfl
theorem C_House_doorOf : mRc 37 = (0, 0) := rfl
theorem M_House_doorOf : mMc 37 = (1, 6) := rfl
theorem R_House_neighborsOf : mR 38 = (some (.int)) := rfl
theorem C_House_neighborsOf : mRc 38 = (0, 0) := rfl
theorem M_House_neighborsOf : mMc 38 = (1, 6) := rfl
theorem R_House_monitoredDoors : mR 39 = (some (.int)) := rfl
theorem C_House_monitoredDoors : mRc 39 = (0, 0) := rfl
theorem M_House_monitoredDoors : mMc 39 = (1, 6) := rfl
theorem R_House_reportingThermometers : mR 40 = (some (.int)) := rfl
theorem C_House_reportingThermometers : mRc 40 = (0, 0) := rfl
theorem M_House_reportingThermometers : mMc 40 = (1, 6) := rfl
theorem R_Input_init : mR 41 = none := rfl
theorem C_Input_init : mRc 41 = (2, 601) := rfl
theorem M_Input_init : mMc 41 = (2, 601) := rfl
theorem R_Input_append : mR 42 = none := rfl
theorem C_Input_append : mRc 42 = (0, 0) := rfl
theorem M_Input_append : mMc 42 = (1, 6) := rfl
theorem R_Input_wholeName : mR 43 = (some (.long)) := rfl
theorem C_Input_wholeName : mRc 43 = (0, 0) := rfl
theorem M_Input_wholeName : mMc 43 = (1, 6) := rfl
theorem R_Night_init : mR 44 = none := rfl
theorem C_Night_init : mRc 44 = (0, 0) := rfl
theorem M_Night_init : mMc 44 = (1, 6) := rfl
theorem R_Night_pass : mR 45 = none := rfl
theorem C_Night_pass : mRc 45 = (0, 0) := rfl
theorem M_Night_pass : mMc 45 = (1, 6) := rfl
theorem R_Night_destination : mR 46 = (some (.int)) := rfl
theorem C_Night_destination : mRc 46 = (0, 0) := rfl
theorem M_Night_destination : mMc 46 = (1, 6) := rfl
theorem R_Night_warmestRoom : mR 47 = (some (.int)) := rfl
theorem C_Night_warmestRoom : mRc 47 = (0, 0) := rfl
theorem M_Night_warmestRoom : mMc 47 = (1, 6) := rfl
theorem R_Night_quietestRoom : mR 48 = (some (.int)) := rfl
theorem C_Night_quietestRoom : mRc 48 = (0, 0) := rfl
theorem M_Night_quietestRoom : mMc 48 = (1, 6) := rfl
theorem R_Night_randomRoom : mR 49 = (some (.int)) := rfl
theorem C_Night_randomRoom : mRc 49 = (0, 0) := rfl
theorem M_Night_randomRoom : mMc 49 = (1, 6) := rfl
theorem R_Night_roomsAfter : mR 50 = (some (.int)) := rfl
theorem C_Night_roomsAfter : mRc 50 = (0, 0) := rfl
theorem M_Night_roomsAfter : mMc 50 = (1, 6) := rfl
theorem R_Night_fits : mR 51 = (some (.boolean)) := rfl
theorem C_Night_fits : mRc 51 = (0, 0) := rfl
theorem M_Night_fits : mMc 51 = (1, 6) := rfl
theorem R_Night_wrongThermometers : mR 52 = (some (.int)) := rfl
theorem C_Night_wrongThermometers : mRc 52 = (0, 0) := rfl
theorem M_Night_wrongThermometers : mMc 52 = (1, 6) := rfl
theorem R_Night_wrongDoors : mR 53 = (some (.int)) := rfl
theorem C_Night_wrongDoors : mRc 53 = (0, 0) := rfl
theorem M_Night_wrongDoors : mMc 53 = (1, 6) := rfl
theorem R_Night_explain : mR 54 = none := rfl
theorem C_Night_explain : mRc 54 = (0, 0) := rfl
theorem M_Night_explain : mMc 54 = (1, 6) := rfl
theorem R_Paths_init : mR 55 = none := rfl
theorem C_Paths_init : mRc 55 = (2, 601) := rfl
theorem M_Paths_init : mMc 55 = (2, 601) := rfl
theorem R_Paths_measure : mR 56 = none := rfl
theorem C_Paths_measure : mRc 56 = (0, 0) := rfl
theorem M_Paths_measure : mMc 56 = (1, 6) := rfl
theorem R_Paths_shorten : mR 57 = none := rfl
theorem C_Paths_shorten : mRc 57 = (0, 0) := rfl
theorem M_Paths_shorten : mMc 57 = (1, 6) := rfl
theorem R_Paths_between : mR 58 = (some (.int)) := rfl
theorem C_Paths_between : mRc 58 = (0, 0) := rfl
theorem M_Paths_between : mMc 58 = (1, 6) := rfl
theorem R_Paths_place : mR 59 = (some (.int)) := rfl
theorem C_Paths_place : mRc 59 = (0, 0) := rfl
theorem M_Paths_place : mMc 59 = (1, 6) := rfl
theorem R_Row_init : mR 60 = none := rfl
theorem C_Row_init : mRc 60 = (1, 600) := rfl
theorem M_Row_init : mMc 60 = (1, 600) := rfl
theorem R_Row_get : mR 61 = (some (.int)) := rfl
theorem C_Row_get : mRc 61 = (0, 0) := rfl
theorem M_Row_get : mMc 61 = (1, 6) := rfl
theorem R_Row_set : mR 62 = none := rfl
theorem C_Row_set : mRc 62 = (0, 0) := rfl
theorem M_Row_set : mMc 62 = (1, 6) := rfl
theorem R_Row_fill : mR 63 = none := rfl
theorem C_Row_fill : mRc 63 = (0, 0) := rfl
theorem M_Row_fill : mMc 63 = (1, 6) := rfl
theorem R_Row_copyFrom : mR 64 = none := rfl
theorem C_Row_copyFrom : mRc 64 = (0, 0) := rfl
theorem M_Row_copyFrom : mMc 64 = (1, 6) := rfl
theorem R_Script_init : mR 65 = none := rfl
theorem C_Script_init : mRc 65 = (8, 2404) := rfl
theorem M_Script_init : mMc 65 = (8, 2404) := rfl
theorem R_Settings_least : mR 66 = (some (.int)) := rfl
theorem C_Settings_least : mRc 66 = (0, 0) := rfl
theorem M_Settings_least : mMc 66 = (1, 6) := rfl
theorem R_Settings_most : mR 67 = (some (.int)) := rfl
theorem C_Settings_most : mRc 67 = (0, 0) := rfl
theorem M_Settings_most : mMc 67 = (1, 6) := rfl
theorem R_Settings_initial : mR 68 = (some (.int)) := rfl
theorem C_Settings_initial : mRc 68 = (0, 0) := rfl
theorem M_Settings_initial : mMc 68 = (1, 6) := rfl
theorem R_Settings_named : mR 69 = (some (.int)) := rfl
theorem C_Settings_named : mRc 69 = (0, 0) := rfl
theorem M_Settings_named : mMc 69 = (1, 6) := rfl
theorem R_Tokens_init : mR 70 = none := rfl
theorem C_Tokens_init : mRc 70 = (0, 0) := rfl
theorem M_Tokens_init : mMc 70 = (1, 6) := rfl
theorem R_Tokens_begin : mR 71 = none := rfl
theorem C_Tokens_begin : mRc 71 = (0, 0) := rfl
theorem M_Tokens_begin : mMc 71 = (1, 6) := rfl
theorem R_Tokens_advance : mR 72 = none := rfl
theorem C_Tokens_advance : mRc 72 = (0, 0) := rfl
theorem M_Tokens_advance : mMc 72 = (1, 6) := rfl
theorem R_Tokens_skipBlanks : mR 73 = none := rfl
theorem C_Tokens_skipBlanks : mRc 73 = (0, 0) := rfl
theorem M_Tokens_skipBlanks : mMc 73 = (1, 6) := rfl
theorem R_Tokens_readWord : mR 74 = none := rfl
theorem C_Tokens_readWord : mRc 74 = (0, 0) := rfl
theorem M_Tokens_readWord : mMc 74 = (1, 6) := rfl
theorem R_Tokens_readNumber : mR 75 = none := rfl
theorem C_Tokens_readNumber : mRc 75 = (0, 0) := rfl
theorem M_Tokens_readNumber : mMc 75 = (1, 6) := rfl
theorem R_Tokens_is : mR 76 = (some (.boolean)) := rfl
theorem C_Tokens_is : mRc 76 = (0, 0) := rfl
theorem M_Tokens_is : mMc 76 = (1, 6) := rfl
theorem R_Tokens_isWord : mR 77 = (some (.boolean)) := rfl
theorem C_Tokens_isWord : mRc 77 = (0, 0) := rfl
theorem M_Tokens_isWord : mMc 77 = (1, 6) := rfl
theorem R_Tokens_refuseIf : mR 78 = none := rfl
theorem C_Tokens_refuseIf : mRc 78 = (0, 0) := rfl
theorem M_Tokens_refuseIf : mMc 78 = (1, 6) := rfl
theorem R_Tokens_take : mR 79 = none := rfl
theorem C_Tokens_take : mRc 79 = (0, 0) := rfl
theorem M_Tokens_take : mMc 79 = (1, 6) := rfl
theorem R_Tokens_takeIfWord : mR 80 = (some (.boolean)) := rfl
theorem C_Tokens_takeIfWord : mRc 80 = (0, 0) := rfl
theorem M_Tokens_takeIfWord : mMc 80 = (1, 6) := rfl
theorem R_Tokens_takeNumber : mR 81 = (some (.int)) := rfl
theorem C_Tokens_takeNumber : mRc 81 = (0, 0) := rfl
theorem M_Tokens_takeNumber : mMc 81 = (1, 6) := rfl
theorem R_Tokens_takeRoom : mR 82 = (some (.int)) := rfl
theorem C_Tokens_takeRoom : mRc 82 = (0, 0) := rfl
theorem M_Tokens_takeRoom : mMc 82 = (1, 6) := rfl
theorem R_G_init : mR 83 = none := rfl
theorem C_G_init : mRc 83 = (217, 53442) := rfl
theorem M_G_init : mMc 83 = (217, 53442) := rfl
theorem R_G_feed : mR 84 = (some (.int)) := rfl
theorem C_G_feed : mRc 84 = (0, 0) := rfl
theorem M_G_feed : mMc 84 = (1, 6) := rfl
theorem R_G_truncate : mR 85 = (some (.int)) := rfl
theorem C_G_truncate : mRc 85 = (0, 0) := rfl
theorem M_G_truncate : mMc 85 = (1, 6) := rfl
theorem R_G_readText : mR 86 = (some (.int)) := rfl
theorem C_G_readText : mRc 86 = (0, 0) := rfl
theorem M_G_readText : mMc 86 = (1, 6) := rfl
theorem R_G_mode : mR 87 = (some (.int)) := rfl
theorem C_G_mode : mRc 87 = (0, 0) := rfl
theorem M_G_mode : mMc 87 = (1, 6) := rfl
theorem R_G_chill : mR 88 = (some (.int)) := rfl
theorem C_G_chill : mRc 88 = (0, 0) := rfl
theorem M_G_chill : mMc 88 = (1, 6) := rfl
theorem R_G_hearingThreshold : mR 89 = (some (.int)) := rfl
theorem C_G_hearingThreshold : mRc 89 = (0, 0) := rfl
theorem M_G_hearingThreshold : mMc 89 = (1, 6) := rfl
theorem R_G_seancePrice : mR 90 = (some (.int)) := rfl
theorem C_G_seancePrice : mRc 90 = (0, 0) := rfl
theorem M_G_seancePrice : mMc 90 = (1, 6) := rfl
theorem R_G_randomState : mR 91 = (some (.int)) := rfl
theorem C_G_randomState : mRc 91 = (0, 0) := rfl
theorem M_G_randomState : mMc 91 = (1, 6) := rfl
theorem R_G_coins : mR 92 = (some (.int)) := rfl
theorem C_G_coins : mRc 92 = (0, 0) := rfl
theorem M_G_coins : mMc 92 = (1, 6) := rfl
theorem R_G_coinsSpent : mR 93 = (some (.int)) := rfl
theorem C_G_coinsSpent : mRc 93 = (0, 0) := rfl
theorem M_G_coinsSpent : mMc 93 = (1, 6) := rfl
theorem R_G_nightNumber : mR 94 = (some (.int)) := rfl
theorem C_G_nightNumber : mRc 94 = (0, 0) := rfl
theorem M_G_nightNumber : mMc 94 = (1, 6) := rfl
theorem R_G_ghostMoves : mR 95 = (some (.int)) := rfl
theorem C_G_ghostMoves : mRc 95 = (0, 0) := rfl
theorem M_G_ghostMoves : mMc 95 = (1, 6) := rfl
theorem R_G_roomCount : mR 96 = (some (.int)) := rfl
theorem C_G_roomCount : mRc 96 = (0, 0) := rfl
theorem M_G_roomCount : mMc 96 = (1, 6) := rfl
theorem R_G_doorCount : mR 97 = (some (.int)) := rfl
theorem C_G_doorCount : mRc 97 = (0, 0) := rfl
theorem M_G_doorCount : mMc 97 = (1, 6) := rfl
theorem R_G_ghostRoom : mR 98 = (some (.int)) := rfl
theorem C_G_ghostRoom : mRc 98 = (0, 0) := rfl
theorem M_G_ghostRoom : mMc 98 = (1, 6) := rfl
theorem R_G_possibleRooms : mR 99 = (some (.int)) := rfl
theorem C_G_possibleRooms : mRc 99 = (0, 0) := rfl
theorem M_G_possibleRooms : mMc 99 = (1, 6) := rfl
theorem R_G_coldness : mR 100 = (some (.int)) := rfl
theorem C_G_coldness : mRc 100 = (0, 0) := rfl
theorem M_G_coldness : mMc 100 = (1, 6) := rfl
theorem R_G_hasThermometer : mR 101 = (some (.boolean)) := rfl
theorem C_G_hasThermometer : mRc 101 = (0, 0) := rfl
theorem M_G_hasThermometer : mMc 101 = (1, 6) := rfl
theorem R_G_hasMicrophone : mR 102 = (some (.boolean)) := rfl
theorem C_G_hasMicrophone : mRc 102 = (0, 0) := rfl
theorem M_G_hasMicrophone : mMc 102 = (1, 6) := rfl
theorem R_G_neighbors : mR 103 = (some (.int)) := rfl
theorem C_G_neighbors : mRc 103 = (0, 0) := rfl
theorem M_G_neighbors : mMc 103 = (1, 6) := rfl
theorem R_G_roomByColdness : mR 104 = (some (.int)) := rfl
theorem C_G_roomByColdness : mRc 104 = (0, 0) := rfl
theorem M_G_roomByColdness : mMc 104 = (1, 6) := rfl
theorem R_G_lowRoom : mR 105 = (some (.int)) := rfl
theorem C_G_lowRoom : mRc 105 = (0, 0) := rfl
theorem M_G_lowRoom : mMc 105 = (1, 6) := rfl
theorem R_G_highRoom : mR 106 = (some (.int)) := rfl
theorem C_G_highRoom : mRc 106 = (0, 0) := rfl
theorem M_G_highRoom : mMc 106 = (1, 6) := rfl
theorem R_G_noise : mR 107 = (some (.int)) := rfl
theorem C_G_noise : mRc 107 = (0, 0) := rfl
theorem M_G_noise : mMc 107 = (1, 6) := rfl
theorem R_G_isOpen : mR 108 = (some (.boolean)) := rfl
theorem C_G_isOpen : mRc 108 = (0, 0) := rfl
theorem M_G_isOpen : mMc 108 = (1, 6) := rfl
theorem R_G_doorBetween : mR 109 = (some (.int)) := rfl
theorem C_G_doorBetween : mRc 109 = (0, 0) := rfl
theorem M_G_doorBetween : mMc 109 = (1, 6) := rfl
theorem R_G_quietestPath : mR 110 = (some (.int)) := rfl
theorem C_G_quietestPath : mRc 110 = (0, 0) := rfl
theorem M_G_quietestPath : mMc 110 = (1, 6) := rfl
theorem R_G_exclusionReason : mR 111 = (some (.int)) := rfl
theorem C_G_exclusionReason : mRc 111 = (0, 0) := rfl
theorem M_G_exclusionReason : mMc 111 = (1, 6) := rfl
theorem R_G_exclusionEvidence : mR 112 = (some (.int)) := rfl
theorem C_G_exclusionEvidence : mRc 112 = (0, 0) := rfl
theorem M_G_exclusionEvidence : mMc 112 = (1, 6) := rfl
theorem R_G_exclusionSource : mR 113 = (some (.int)) := rfl
theorem C_G_exclusionSource : mRc 113 = (0, 0) := rfl
theorem M_G_exclusionSource : mMc 113 = (1, 6) := rfl
theorem R_G_violations : mR 114 = (some (.int)) := rfl
theorem C_G_violations : mRc 114 = (0, 0) := rfl
theorem M_G_violations : mMc 114 = (1, 6) := rfl
theorem R_G_possibleFraction : mR 115 = (some (.float)) := rfl
theorem C_G_possibleFraction : mRc 115 = (0, 0) := rfl
theorem M_G_possibleFraction : mMc 115 = (1, 6) := rfl
theorem R_G_nightsUntilKnown : mR 116 = (some (.int)) := rfl
theorem C_G_nightsUntilKnown : mRc 116 = (0, 0) := rfl
theorem M_G_nightsUntilKnown : mMc 116 = (1, 6) := rfl
theorem R_G_addRoom : mR 117 = (some (.int)) := rfl
theorem C_G_addRoom : mRc 117 = (0, 0) := rfl
theorem M_G_addRoom : mMc 117 = (1, 6) := rfl
theorem R_G_addDoor : mR 118 = (some (.int)) := rfl
theorem C_G_addDoor : mRc 118 = (0, 0) := rfl
theorem M_G_addDoor : mMc 118 = (1, 6) := rfl
theorem R_G_setDoorOpen : mR 119 = (some (.int)) := rfl
theorem C_G_setDoorOpen : mRc 119 = (0, 0) := rfl
theorem M_G_setDoorOpen : mMc 119 = (1, 6) := rfl
theorem R_G_setThermometer : mR 120 = (some (.int)) := rfl
theorem C_G_setThermometer : mRc 120 = (0, 0) := rfl
theorem M_G_setThermometer : mMc 120 = (1, 6) := rfl
theorem R_G_setMicrophone : mR 121 = (some (.int)) := rfl
theorem C_G_setMicrophone : mRc 121 = (0, 0) := rfl
theorem M_G_setMicrophone : mMc 121 = (1, 6) := rfl
theorem R_G_warm : mR 122 = (some (.int)) := rfl
theorem C_G_warm : mRc 122 = (0, 0) := rfl
theorem M_G_warm : mMc 122 = (1, 6) := rfl
theorem R_G_passNights : mR 123 = (some (.int)) := rfl
theorem C_G_passNights : mRc 123 = (0, 0) := rfl
theorem M_G_passNights : mMc 123 = (1, 6) := rfl
theorem R_G_holdSeance : mR 124 = (some (.boolean)) := rfl
theorem C_G_holdSeance : mRc 124 = (0, 0) := rfl
theorem M_G_holdSeance : mMc 124 = (1, 6) := rfl
theorem R_G_earnCoins : mR 125 = (some (.int)) := rfl
theorem C_G_earnCoins : mRc 125 = (0, 0) := rfl
theorem M_G_earnCoins : mMc 125 = (1, 6) := rfl
theorem R_G_setMode : mR 126 = (some (.int)) := rfl
theorem C_G_setMode : mRc 126 = (0, 0) := rfl
theorem M_G_setMode : mMc 126 = (1, 6) := rfl
theorem R_G_setChill : mR 127 = (some (.int)) := rfl
theorem C_G_setChill : mRc 127 = (0, 0) := rfl
theorem M_G_setChill : mMc 127 = (1, 6) := rfl
theorem R_G_setHearingThreshold : mR 128 = (some (.int)) := rfl
theorem C_G_setHearingThreshold : mRc 128 = (0, 0) := rfl
theorem M_G_setHearingThreshold : mMc 128 = (1, 6) := rfl
theorem R_G_setSeancePrice : mR 129 = (some (.int)) := rfl
theorem C_G_setSeancePrice : mRc 129 = (0, 0) := rfl
theorem M_G_setSeancePrice : mMc 129 = (1, 6) := rfl
theorem R_G_setRandomState : mR 130 = (some (.int)) := rfl
theorem C_G_setRandomState : mRc 130 = (0, 0) := rfl
theorem M_G_setRandomState : mMc 130 = (1, 6) := rfl
theorem R_G_changeSetting : mR 131 = (some (.int)) := rfl
theorem C_G_changeSetting : mRc 131 = (0, 0) := rfl
theorem M_G_changeSetting : mMc 131 = (1, 6) := rfl
theorem R_G_requireRange : mR 132 = none := rfl
theorem C_G_requireRange : mRc 132 = (0, 0) := rfl
theorem M_G_requireRange : mMc 132 = (1, 6) := rfl
theorem R_G_bit : mR 133 = (some (.int)) := rfl
theorem C_G_bit : mRc 133 = (0, 0) := rfl
theorem M_G_bit : mMc 133 = (1, 6) := rfl
theorem R_G_contains : mR 134 = (some (.boolean)) := rfl
theorem C_G_contains : mRc 134 = (0, 0) := rfl
theorem M_G_contains : mMc 134 = (1, 6) := rfl
theorem R_G_lowest : mR 135 = (some (.int)) := rfl
theorem C_G_lowest : mRc 135 = (0, 0) := rfl
theorem M_G_lowest : mMc 135 = (1, 6) := rfl
theorem R_G_isLetter : mR 136 = (some (.boolean)) := rfl
theorem C_G_isLetter : mRc 136 = (0, 0) := rfl
theorem M_G_isLetter : mMc 136 = (1, 6) := rfl
theorem R_G_isDigit : mR 137 = (some (.boolean)) := rfl
theorem C_G_isDigit : mRc 137 = (0, 0) := rfl
theorem M_G_isDigit : mMc 137 = (1, 6) := rfl
theorem R_World_init : mR 138 = none := rfl
theorem C_World_init : mRc 138 = (41, 242) := rfl
theorem M_World_init : mMc 138 = (41, 242) := rfl
theorem R_World_grown : mR 139 = (some (.object "GhostRoomsLaw$World")) := rfl
theorem C_World_grown : mRc 139 = (1000, 4000000) := rfl
theorem M_World_grown : mMc 139 = (1000, 4000000) := rfl
theorem R_World_addRoom : mR 140 = (some (.int)) := rfl
theorem C_World_addRoom : mRc 140 = (1, 7) := rfl
theorem M_World_addRoom : mMc 140 = (1, 7) := rfl
theorem R_World_addDoor : mR 141 = (some (.int)) := rfl
theorem C_World_addDoor : mRc 141 = (1, 4) := rfl
theorem M_World_addDoor : mMc 141 = (1, 4) := rfl
theorem R_World_doorOf : mR 142 = (some (.int)) := rfl
theorem C_World_doorOf : mRc 142 = (0, 0) := rfl
theorem M_World_doorOf : mMc 142 = (0, 0) := rfl
theorem R_World_next : mR 143 = (some (.boolean)) := rfl
theorem C_World_next : mRc 143 = (0, 0) := rfl
theorem M_World_next : mMc 143 = (0, 0) := rfl
theorem R_World_possible : mR 144 = (some (.int)) := rfl
theorem C_World_possible : mRc 144 = (0, 0) := rfl
theorem M_World_possible : mMc 144 = (0, 0) := rfl
theorem R_World_goal : mR 145 = (some (.int)) := rfl
theorem C_World_goal : mRc 145 = (1, 13) := rfl
theorem M_World_goal : mMc 145 = (1, 13) := rfl
theorem R_World_heard : mR 146 = (some (.boolean)) := rfl
theorem C_World_heard : mRc 146 = (0, 0) := rfl
theorem M_World_heard : mMc 146 = (0, 0) := rfl
theorem R_World_night : mR 147 = (some (.int)) := rfl
theorem C_World_night : mRc 147 = (13, 49) := rfl
theorem M_World_night : mMc 147 = (13, 49) := rfl
theorem R_World_mayAsk : mR 148 = (some (.boolean)) := rfl
theorem C_World_mayAsk : mRc 148 = (0, 0) := rfl
theorem M_World_mayAsk : mMc 148 = (0, 0) := rfl
theorem R_World_ask : mR 149 = (some (.boolean)) := rfl
theorem C_World_ask : mRc 149 = (0, 0) := rfl
theorem M_World_ask : mMc 149 = (0, 0) := rfl
theorem R_AB_init : mR 150 = none := rfl
theorem C_AB_init : mRc 150 = (1, 16) := rfl
theorem M_AB_init : mMc 150 = (1, 16) := rfl
theorem R_AB_length : mR 151 = (some (.int)) := rfl
theorem C_AB_length : mRc 151 = (0, 0) := rfl
theorem M_AB_length : mMc 151 = (0, 0) := rfl
theorem R_AB_ensure : mR 152 = none := rfl
theorem C_AB_ensure : mRc 152 = (1, 4000) := rfl
theorem M_AB_ensure : mMc 152 = (1, 4000) := rfl
theorem R_AB_newCap : mR 153 = (some (.int)) := rfl
theorem C_AB_newCap : mRc 153 = (0, 0) := rfl
theorem M_AB_newCap : mMc 153 = (0, 0) := rfl
theorem R_AB_charAt : mR 154 = (some (.char)) := rfl
theorem C_AB_charAt : mRc 154 = (0, 0) := rfl
theorem M_AB_charAt : mMc 154 = (0, 0) := rfl
theorem R_AB_appendS : mR 155 = (some (.object "java/lang/AbstractStringBuilder")) := rfl
theorem C_AB_appendS : mRc 155 = (1, 4000) := rfl
theorem M_AB_appendS : mMc 155 = (1, 4000) := rfl
theorem R_AB_appendC : mR 156 = (some (.object "java/lang/AbstractStringBuilder")) := rfl
theorem C_AB_appendC : mRc 156 = (1, 4000) := rfl
theorem M_AB_appendC : mMc 156 = (1, 4000) := rfl
theorem R_AB_appendI : mR 157 = (some (.object "java/lang/AbstractStringBuilder")) := rfl
theorem C_AB_appendI : mRc 157 = (1, 4000) := rfl
theorem M_AB_appendI : mMc 157 = (1, 4000) := rfl
theorem R_AB_getValue : mR 158 = (some (.array .byte)) := rfl
theorem C_AB_getValue : mRc 158 = (0, 0) := rfl
theorem M_AB_getValue : mMc 158 = (0, 0) := rfl
theorem R_AB_isLatin1 : mR 159 = (some (.boolean)) := rfl
theorem C_AB_isLatin1 : mRc 159 = (0, 0) := rfl
theorem M_AB_isLatin1 : mMc 159 = (0, 0) := rfl
theorem R_AB_inflateIf : mR 160 = none := rfl
theorem C_AB_inflateIf : mRc 160 = (0, 0) := rfl
theorem M_AB_inflateIf : mMc 160 = (0, 0) := rfl
theorem R_AB_putStr : mR 161 = none := rfl
theorem C_AB_putStr : mRc 161 = (0, 0) := rfl
theorem M_AB_putStr : mMc 161 = (0, 0) := rfl
theorem R_Integer_getChars : mR 162 = (some (.int)) := rfl
theorem C_Integer_getChars : mRc 162 = (0, 0) := rfl
theorem M_Integer_getChars : mMc 162 = (0, 0) := rfl
theorem R_Integer_stringSize : mR 163 = (some (.int)) := rfl
theorem C_Integer_stringSize : mRc 163 = (0, 0) := rfl
theorem M_Integer_stringSize : mMc 163 = (0, 0) := rfl
theorem R_Integer_trailing : mR 164 = (some (.int)) := rfl
theorem C_Integer_trailing : mRc 164 = (0, 0) := rfl
theorem M_Integer_trailing : mMc 164 = (0, 0) := rfl
theorem R_Integer_bitCount : mR 165 = (some (.int)) := rfl
theorem C_Integer_bitCount : mRc 165 = (0, 0) := rfl
theorem M_Integer_bitCount : mMc 165 = (0, 0) := rfl
theorem R_Math_max : mR 166 = (some (.int)) := rfl
theorem C_Math_max : mRc 166 = (0, 0) := rfl
theorem M_Math_max : mMc 166 = (1, 6) := rfl
theorem R_Math_min : mR 167 = (some (.int)) := rfl
theorem C_Math_min : mRc 167 = (0, 0) := rfl
theorem M_Math_min : mMc 167 = (1, 6) := rfl
theorem R_St_init : mR 168 = none := rfl
theorem C_St_init : mRc 168 = (1, 4000) := rfl
theorem M_St_init : mMc 168 = (1, 4000) := rfl
theorem R_St_length : mR 169 = (some (.int)) := rfl
theorem C_St_length : mRc 169 = (0, 0) := rfl
theorem M_St_length : mMc 169 = (0, 0) := rfl
theorem R_St_charAt : mR 170 = (some (.char)) := rfl
theorem C_St_charAt : mRc 170 = (0, 0) := rfl
theorem M_St_charAt : mMc 170 = (0, 0) := rfl
theorem R_St_getBytes : mR 171 = none := rfl
theorem C_St_getBytes : mRc 171 = (0, 0) := rfl
theorem M_St_getBytes : mMc 171 = (0, 0) := rfl
theorem R_St_initV : mR 172 = none := rfl
theorem C_St_initV : mRc 172 = (1, 4000) := rfl
theorem M_St_initV : mMc 172 = (1, 4000) := rfl
theorem R_St_coder : mR 173 = (some (.byte)) := rfl
theorem C_St_coder : mRc 173 = (0, 0) := rfl
theorem M_St_coder : mMc 173 = (0, 0) := rfl
theorem R_St_isLatin1 : mR 174 = (some (.boolean)) := rfl
theorem C_St_isLatin1 : mRc 174 = (0, 0) := rfl
theorem M_St_isLatin1 : mMc 174 = (0, 0) := rfl
theorem R_St_checkIndex : mR 175 = none := rfl
theorem C_St_checkIndex : mRc 175 = (0, 0) := rfl
theorem M_St_checkIndex : mMc 175 = (0, 0) := rfl
theorem R_SB_init : mR 176 = none := rfl
theorem C_SB_init : mRc 176 = (1, 16) := rfl
theorem M_SB_init : mMc 176 = (1, 16) := rfl
theorem R_SB_appendS : mR 177 = (some (.object "java/lang/StringBuilder")) := rfl
theorem C_SB_appendS : mRc 177 = (1, 4000) := rfl
theorem M_SB_appendS : mMc 177 = (1, 4000) := rfl
theorem R_SB_appendC : mR 178 = (some (.object "java/lang/StringBuilder")) := rfl
theorem C_SB_appendC : mRc 178 = (1, 4000) := rfl
theorem M_SB_appendC : mMc 178 = (1, 4000) := rfl
theorem R_SB_appendI : mR 179 = (some (.object "java/lang/StringBuilder")) := rfl
theorem C_SB_appendI : mRc 179 = (1, 4000) := rfl
theorem M_SB_appendI : mMc 179 = (1, 4000) := rfl
theorem R_SB_toString : mR 180 = (some (.object "java/lang/String")) := rfl
theorem C_SB_toString : mRc 180 = (2, 4004) := rfl
theorem M_SB_toString : mMc 180 = (2, 4004) := rfl
theorem R_SB_charAt : mR 181 = (some (.char)) := rfl
theorem C_SB_charAt : mRc 181 = (0, 0) := rfl
theorem M_SB_charAt : mMc 181 = (0, 0) := rfl
theorem R_SB_length : mR 182 = (some (.int)) := rfl
theorem C_SB_length : mRc 182 = (0, 0) := rfl
theorem M_SB_length : mMc 182 = (0, 0) := rfl
theorem R_L1_charAt : mR 183 = (some (.char)) := rfl
theorem C_L1_charAt : mRc 183 = (0, 0) := rfl
theorem M_L1_charAt : mMc 183 = (0, 0) := rfl
theorem R_L1_canEncode : mR 184 = (some (.boolean)) := rfl
theorem C_L1_canEncode : mRc 184 = (0, 0) := rfl
theorem M_L1_canEncode : mMc 184 = (0, 0) := rfl
theorem R_Arr_copyOf : mR 185 = (some (.array .byte)) := rfl
theorem C_Arr_copyOf : mRc 185 = (1, 4000) := rfl
theorem M_Arr_copyOf : mMc 185 = (1, 4000) := rfl
theorem R_Arr_checkLength : mR 186 = none := rfl
theorem C_Arr_checkLength : mRc 186 = (0, 0) := rfl
theorem M_Arr_checkLength : mMc 186 = (0, 0) := rfl
theorem R_Arr_copyRange : mR 187 = (some (.array .byte)) := rfl
theorem C_Arr_copyRange : mRc 187 = (1, 4000) := rfl
theorem M_Arr_copyRange : mMc 187 = (1, 4000) := rfl
theorem R_Arr_copyRangeB : mR 188 = (some (.array .byte)) := rfl
theorem C_Arr_copyRangeB : mRc 188 = (1, 4000) := rfl
theorem M_Arr_copyRangeB : mMc 188 = (1, 4000) := rfl
theorem R_AS_newLength : mR 189 = (some (.int)) := rfl
theorem C_AS_newLength : mRc 189 = (0, 0) := rfl
theorem M_AS_newLength : mMc 189 = (0, 0) := rfl
theorem R_Pre_checkIndex : mR 190 = (some (.int)) := rfl
theorem C_Pre_checkIndex : mRc 190 = (0, 0) := rfl
theorem M_Pre_checkIndex : mMc 190 = (0, 0) := rfl
theorem R_L_cell : mR 191 = (some (.int)) := rfl
theorem C_L_cell : mRc 191 = (0, 0) := rfl
theorem M_L_cell : mMc 191 = (0, 0) := rfl
theorem R_L_pick : mR 192 = (some (.int)) := rfl
theorem C_L_pick : mRc 192 = (0, 0) := rfl
theorem M_L_pick : mMc 192 = (0, 0) := rfl
theorem R_L_feeds : mR 193 = (some (.boolean)) := rfl
theorem C_L_feeds : mRc 193 = (1, 5) := rfl
theorem M_L_feeds : mMc 193 = (2, 11) := rfl
theorem R_L_alike : mR 194 = (some (.boolean)) := rfl
theorem C_L_alike : mRc 194 = (0, 0) := rfl
theorem M_L_alike : mMc 194 = (1, 6) := rfl
theorem R_L_acts : mR 195 = (some (.boolean)) := rfl
theorem C_L_acts : mRc 195 = (200, 20000) := rfl
theorem M_L_acts : mMc 195 = (201, 20006) := rfl
theorem R_L_comes : mR 196 = (some (.boolean)) := rfl
theorem C_L_comes : mRc 196 = (10, 20000) := rfl
theorem M_L_comes : mMc 196 = (11, 20006) := rfl
theorem R_L_earns : mR 197 = (some (.boolean)) := rfl
theorem C_L_earns : mRc 197 = (0, 0) := rfl
theorem M_L_earns : mMc 197 = (1, 6) := rfl
theorem R_L_sensor : mR 198 = (some (.boolean)) := rfl
theorem C_L_sensor : mRc 198 = (0, 0) := rfl
theorem M_L_sensor : mMc 198 = (1, 6) := rfl
theorem R_L_sets : mR 199 = (some (.boolean)) := rfl
theorem C_L_sets : mRc 199 = (0, 0) := rfl
theorem M_L_sets : mMc 199 = (1, 6) := rfl
theorem R_L_holds : mR 200 = (some (.boolean)) := rfl
theorem C_L_holds : mRc 200 = (0, 0) := rfl
theorem M_L_holds : mMc 200 = (1, 6) := rfl
theorem R_L_law : mR 201 = (some (.boolean)) := rfl
theorem C_L_law : mRc 201 = (100000, 6500000) := rfl
theorem M_L_law : mMc 201 = (100000, 6500000) := rfl
