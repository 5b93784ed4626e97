theorem t_X1_init : MOK m_X1_init yX1_init cX1_init none 0 := ⟨chk_all 30 (by decide +kernel) (fun _ h => K_end h), by decide +kernel, by decide +kernel⟩
theorem t_X1_add : MOK m_X1_add yX1_add cX1_add none 0 := ⟨chk_all 50 (by decide +kernel) (fun _ h => K_end h), by decide +kernel, by decide +kernel⟩
theorem t_X1_judge : MOK m_X1_judge yX1_judge cX1_judge none 0 := ⟨chk_all 87 (by decide +kernel) (fun _ h => K_end h), by decide +kernel, by decide +kernel⟩
theorem t_X1_perform : MOK m_X1_perform yX1_perform cX1_perform (some .boolean) 0 := ⟨chk_all 137 (by decide +kernel) (fun _ h => K_end h), by decide +kernel, by decide +kernel⟩
theorem t_X2_init : MOK m_X2_init yX2_init cX2_init none 1 := ⟨chk_all 41 (by decide +kernel) (fun _ h => K_end h), by decide +kernel, by decide +kernel⟩
theorem t_X2_remember : MOK m_X2_remember yX2_remember cX2_remember none 1 := ⟨chk_all 42 (by decide +kernel) (fun _ h => K_end h), by decide +kernel, by decide +kernel⟩
theorem t_X2_giveBack : MOK m_X2_giveBack yX2_giveBack cX2_giveBack (some .boolean) 1 := ⟨chk_all 50 (by decide +kernel) (fun _ h => K_end h), by decide +kernel, by decide +kernel⟩
theorem t_X3_init : MOK m_X3_init yX3_init cX3_init none 2 := ⟨chk_all 22 (by decide +kernel) (fun _ h => K_end h), by decide +kernel, by decide +kernel⟩
theorem t_X3_clear : MOK m_X3_clear yX3_clear cX3_clear none 2 := ⟨chk_all 11 (by decide +kernel) (fun _ h => K_end h), by decide +kernel, by decide +kernel⟩
theorem t_X3_add : MOK m_X3_add yX3_add cX3_add none 2 := ⟨chk_all 31 (by decide +kernel) (fun _ h => K_end h), by decide +kernel, by decide +kernel⟩
theorem t_X3_worth : MOK m_X3_worth yX3_worth cX3_worth (some .int) 2 := ⟨chk_all 153 (by decide +kernel) (fun _ h => K_end h), by decide +kernel, by decide +kernel⟩
theorem t_X3_valueOf : MOK m_X3_valueOf yX3_valueOf cX3_valueOf (some .int) 2 := ⟨chk_all 36 (by decide +kernel) (fun _ h => K_end h), by decide +kernel, by decide +kernel⟩
theorem t_X3_joined : MOK m_X3_joined yX3_joined cX3_joined (some .int) 2 := ⟨chk_all 102 (by decide +kernel) (fun _ h => K_end h), by decide +kernel, by decide +kernel⟩
theorem t_X4_init : MOK m_X4_init yX4_init cX4_init none 3 := ⟨chk_all 36 (by decide +kernel) (fun _ h => K_end h), by decide +kernel, by decide +kernel⟩
theorem t_X4_addPairings : MOK m_X4_addPairings yX4_addPairings cX4_addPairings none 3 := ⟨chk_all 102 (by decide +kernel) (fun _ h => K_end h), by decide +kernel, by decide +kernel⟩
theorem t_X4_partnerIn : MOK m_X4_partnerIn yX4_partnerIn cX4_partnerIn (some .int) 3 := ⟨chk_all 33 (by decide +kernel) (fun _ h => K_end h), by decide +kernel, by decide +kernel⟩
theorem t_X4_countMatches : MOK m_X4_countMatches yX4_countMatches cX4_countMatches (some .int) 3 := ⟨chk_all 77 (by decide +kernel) (fun _ h => K_end h), by decide +kernel, by decide +kernel⟩
theorem t_X4_possiblePairs : MOK m_X4_possiblePairs yX4_possiblePairs cX4_possiblePairs (some .int) 3 := ⟨chk_all 60 (by decide +kernel) (fun _ h => K_end h), by decide +kernel, by decide +kernel⟩
theorem t_X4_isLasting : MOK m_X4_isLasting yX4_isLasting cX4_isLasting (some .boolean) 3 := ⟨chk_all 161 (by decide +kernel) (fun _ h => K_end h), by decide +kernel, by decide +kernel⟩
theorem t_X4_leastParted : MOK m_X4_leastParted yX4_leastParted cX4_leastParted (some .int) 3 := ⟨chk_all 75 (by decide +kernel) (fun _ h => K_end h), by decide +kernel, by decide +kernel⟩
theorem t_X4_setPrices : MOK m_X4_setPrices yX4_setPrices cX4_setPrices none 3 := ⟨chk_all 77 (by decide +kernel) (fun _ h => K_end h), by decide +kernel, by decide +kernel⟩
theorem t_X4_priceOf : MOK m_X4_priceOf yX4_priceOf cX4_priceOf (some .int) 3 := ⟨chk_all 39 (by decide +kernel) (fun _ h => K_end h), by decide +kernel, by decide +kernel⟩
theorem t_X4_isLess : MOK m_X4_isLess yX4_isLess cX4_isLess (some .boolean) 3 := ⟨chk_all 70 (by decide +kernel) (fun _ h => K_end h), by decide +kernel, by decide +kernel⟩
theorem t_X5_ofTwo : MOK m_X5_ofTwo yX5_ofTwo cX5_ofTwo (some .int) 11 := ⟨chk_all 88 (by decide +kernel) (fun _ h => K_end h), by decide +kernel, by decide +kernel⟩
theorem t_X5_afterSome : MOK m_X5_afterSome yX5_afterSome cX5_afterSome (some .int) 11 := ⟨chk_all 38 (by decide +kernel) (fun _ h => K_end h), by decide +kernel, by decide +kernel⟩
theorem t_X5_untilHalf : MOK m_X5_untilHalf yX5_untilHalf cX5_untilHalf (some .int) 11 := ⟨chk_all 47 (by decide +kernel) (fun _ h => K_end h), by decide +kernel, by decide +kernel⟩
theorem t_X5_safestSaying : MOK m_X5_safestSaying yX5_safestSaying cX5_safestSaying (some .int) 11 := ⟨chk_all 66 (by decide +kernel) (fun _ h => K_end h), by decide +kernel, by decide +kernel⟩
theorem t_X5_dangerOf : MOK m_X5_dangerOf yX5_dangerOf cX5_dangerOf (some .int) 11 := ⟨chk_all 74 (by decide +kernel) (fun _ h => K_end h), by decide +kernel, by decide +kernel⟩
theorem t_X5_safestPlace : MOK m_X5_safestPlace yX5_safestPlace cX5_safestPlace (some .int) 11 := ⟨chk_all 96 (by decide +kernel) (fun _ h => K_end h), by decide +kernel, by decide +kernel⟩
theorem t_X5_maySay : MOK m_X5_maySay yX5_maySay cX5_maySay (some .boolean) 11 := ⟨chk_all 45 (by decide +kernel) (fun _ h => K_end h), by decide +kernel, by decide +kernel⟩
theorem t_X5_suspects : MOK m_X5_suspects yX5_suspects cX5_suspects (some .int) 11 := ⟨chk_all 79 (by decide +kernel) (fun _ h => K_end h), by decide +kernel, by decide +kernel⟩
theorem t_X5_likeliest : MOK m_X5_likeliest yX5_likeliest cX5_likeliest (some .int) 11 := ⟨chk_all 132 (by decide +kernel) (fun _ h => K_end h), by decide +kernel, by decide +kernel⟩
theorem t_X5_shareOf : MOK m_X5_shareOf yX5_shareOf cX5_shareOf (some .int) 11 := ⟨chk_all 33 (by decide +kernel) (fun _ h => K_end h), by decide +kernel, by decide +kernel⟩
theorem t_X5_bestQuestion : MOK m_X5_bestQuestion yX5_bestQuestion cX5_bestQuestion (some .int) 11 := ⟨chk_all 132 (by decide +kernel) (fun _ h => K_end h), by decide +kernel, by decide +kernel⟩
theorem t_X6_init : MOK m_X6_init yX6_init cX6_init none 4 := ⟨chk_all 21 (by decide +kernel) (fun _ h => K_end h), by decide +kernel, by decide +kernel⟩
theorem t_X6_enter : MOK m_X6_enter yX6_enter cX6_enter none 4 := ⟨chk_all 70 (by decide +kernel) (fun _ h => K_end h), by decide +kernel, by decide +kernel⟩
theorem t_X6_clashesOf : MOK m_X6_clashesOf yX6_clashesOf cX6_clashesOf (some .int) 4 := ⟨chk_all 46 (by decide +kernel) (fun _ h => K_end h), by decide +kernel, by decide +kernel⟩
theorem t_X6_planTurns : MOK m_X6_planTurns yX6_planTurns cX6_planTurns none 4 := ⟨chk_all 56 (by decide +kernel) (fun _ h => K_end h), by decide +kernel, by decide +kernel⟩
theorem t_X6_giveTurns : MOK m_X6_giveTurns yX6_giveTurns cX6_giveTurns (some .boolean) 4 := ⟨chk_all 79 (by decide +kernel) (fun _ h => K_end h), by decide +kernel, by decide +kernel⟩
theorem t_X6_isFree : MOK m_X6_isFree yX6_isFree cX6_isFree (some .boolean) 4 := ⟨chk_all 40 (by decide +kernel) (fun _ h => K_end h), by decide +kernel, by decide +kernel⟩
theorem t_X6_largestSafe : MOK m_X6_largestSafe yX6_largestSafe cX6_largestSafe (some .int) 4 := ⟨chk_all 50 (by decide +kernel) (fun _ h => K_end h), by decide +kernel, by decide +kernel⟩
theorem t_X6_isSafe : MOK m_X6_isSafe yX6_isSafe cX6_isSafe (some .boolean) 4 := ⟨chk_all 37 (by decide +kernel) (fun _ h => K_end h), by decide +kernel, by decide +kernel⟩
theorem t_X7_init : MOK m_X7_init yX7_init cX7_init none 5 := ⟨chk_all 111 (by decide +kernel) (fun _ h => K_end h), by decide +kernel, by decide +kernel⟩
theorem t_X7_clear : MOK m_X7_clear yX7_clear cX7_clear none 5 := ⟨chk_all 71 (by decide +kernel) (fun _ h => K_end h), by decide +kernel, by decide +kernel⟩
theorem t_X7_setLaws : MOK m_X7_setLaws yX7_setLaws cX7_setLaws none 5 := ⟨chk_all 66 (by decide +kernel) (fun _ h => K_end h), by decide +kernel, by decide +kernel⟩
theorem t_X7_hasSaying : MOK m_X7_hasSaying yX7_hasSaying cX7_hasSaying (some .boolean) 5 := ⟨chk_all 18 (by decide +kernel) (fun _ h => K_end h), by decide +kernel, by decide +kernel⟩
theorem t_X7_hasPlace : MOK m_X7_hasPlace yX7_hasPlace cX7_hasPlace (some .boolean) 5 := ⟨chk_all 18 (by decide +kernel) (fun _ h => K_end h), by decide +kernel, by decide +kernel⟩
theorem t_X7_hasPerson : MOK m_X7_hasPerson yX7_hasPerson cX7_hasPerson (some .boolean) 5 := ⟨chk_all 18 (by decide +kernel) (fun _ h => K_end h), by decide +kernel, by decide +kernel⟩
theorem t_X7_areTwo : MOK m_X7_areTwo yX7_areTwo cX7_areTwo (some .boolean) 5 := ⟨chk_all 27 (by decide +kernel) (fun _ h => K_end h), by decide +kernel, by decide +kernel⟩
theorem t_X7_isDeaf : MOK m_X7_isDeaf yX7_isDeaf cX7_isDeaf (some .boolean) 5 := ⟨chk_all 16 (by decide +kernel) (fun _ h => K_end h), by decide +kernel, by decide +kernel⟩
theorem t_X7_oddsOfAll : MOK m_X7_oddsOfAll yX7_oddsOfAll cX7_oddsOfAll (some .int) 5 := ⟨chk_all 31 (by decide +kernel) (fun _ h => K_end h), by decide +kernel, by decide +kernel⟩
theorem t_X7_oddsAndShyness : MOK m_X7_oddsAndShyness yX7_oddsAndShyness cX7_oddsAndShyness (some .int) 5 := ⟨chk_all 13 (by decide +kernel) (fun _ h => K_end h), by decide +kernel, by decide +kernel⟩
theorem t_X7_find : MOK m_X7_find yX7_find cX7_find (some .int) 5 := ⟨chk_all 51 (by decide +kernel) (fun _ h => K_end h), by decide +kernel, by decide +kernel⟩
theorem t_X7_hasName : MOK m_X7_hasName yX7_hasName cX7_hasName (some .boolean) 5 := ⟨chk_all 31 (by decide +kernel) (fun _ h => K_end h), by decide +kernel, by decide +kernel⟩
theorem t_X7_isFull : MOK m_X7_isFull yX7_isFull cX7_isFull (some .boolean) 5 := ⟨chk_all 59 (by decide +kernel) (fun _ h => K_end h), by decide +kernel, by decide +kernel⟩
theorem t_X7_addName : MOK m_X7_addName yX7_addName cX7_addName (some .int) 5 := ⟨chk_all 108 (by decide +kernel) (fun _ h => K_end h), by decide +kernel, by decide +kernel⟩
theorem t_X8_init : MOK m_X8_init yX8_init cX8_init none 6 := ⟨chk_all 10 (by decide +kernel) (fun _ h => K_end h), by decide +kernel, by decide +kernel⟩
theorem t_X8_readProvince : MOK m_X8_readProvince yX8_readProvince cX8_readProvince (some .int) 6 := ⟨chk_all 61 (by decide +kernel) (fun _ h => K_end h), by decide +kernel, by decide +kernel⟩
theorem t_X8_readDay : MOK m_X8_readDay yX8_readDay cX8_readDay (some .int) 6 := ⟨chk_all 63 (by decide +kernel) (fun _ h => K_end h), by decide +kernel, by decide +kernel⟩
theorem t_X8_readProvinceLine : MOK m_X8_readProvinceLine yX8_readProvinceLine cX8_readProvinceLine none 6 := ⟨chk_all 136 (by decide +kernel) (fun _ h => K_end h), by decide +kernel, by decide +kernel⟩
theorem t_X8_readNewName : MOK m_X8_readNewName yX8_readNewName cX8_readNewName (some .int) 6 := ⟨chk_all 91 (by decide +kernel) (fun _ h => K_end h), by decide +kernel, by decide +kernel⟩
theorem t_X8_readNewPerson : MOK m_X8_readNewPerson yX8_readNewPerson cX8_readNewPerson none 6 := ⟨chk_all 107 (by decide +kernel) (fun _ h => K_end h), by decide +kernel, by decide +kernel⟩
theorem t_X8_readOdds : MOK m_X8_readOdds yX8_readOdds cX8_readOdds none 6 := ⟨chk_all 79 (by decide +kernel) (fun _ h => K_end h), by decide +kernel, by decide +kernel⟩
theorem t_X8_readLiking : MOK m_X8_readLiking yX8_readLiking cX8_readLiking none 6 := ⟨chk_all 98 (by decide +kernel) (fun _ h => K_end h), by decide +kernel, by decide +kernel⟩
theorem t_X8_readKept : MOK m_X8_readKept yX8_readKept cX8_readKept none 6 := ⟨chk_all 83 (by decide +kernel) (fun _ h => K_end h), by decide +kernel, by decide +kernel⟩
