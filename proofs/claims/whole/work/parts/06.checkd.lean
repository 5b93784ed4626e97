theorem t_X13_worthAt : MOK m_X13_worthAt yX13_worthAt cX13_worthAt (some .int) 10 := ⟨chk_all 147 (by decide +kernel) (fun _ h => K_end h), by decide +kernel, by decide +kernel⟩
theorem t_X13_both : MOK m_X13_both yX13_both cX13_both (some .int) 10 := ⟨chk_all 102 (by decide +kernel) (fun _ h => K_end h), by decide +kernel, by decide +kernel⟩
theorem t_X13_copies : MOK m_X13_copies yX13_copies cX13_copies none 10 := ⟨chk_all 34 (by decide +kernel) (fun _ h => K_end h), by decide +kernel, by decide +kernel⟩
theorem t_X13_starts : MOK m_X13_starts yX13_starts cX13_starts none 10 := ⟨chk_all 123 (by decide +kernel) (fun _ h => K_end h), by decide +kernel, by decide +kernel⟩
theorem t_X13_begins : MOK m_X13_begins yX13_begins cX13_begins none 10 := ⟨chk_all 46 (by decide +kernel) (fun _ h => K_end h), by decide +kernel, by decide +kernel⟩
theorem t_X13_keeps : MOK m_X13_keeps yX13_keeps cX13_keeps none 10 := ⟨chk_all 80 (by decide +kernel) (fun _ h => K_end h), by decide +kernel, by decide +kernel⟩
theorem t_X13_sayings : MOK m_X13_sayings yX13_sayings cX13_sayings (some .int) 10 := ⟨chk_all 7 (by decide +kernel) (fun _ h => K_end h), by decide +kernel, by decide +kernel⟩
theorem t_X13_places : MOK m_X13_places yX13_places cX13_places (some .int) 10 := ⟨chk_all 7 (by decide +kernel) (fun _ h => K_end h), by decide +kernel, by decide +kernel⟩
theorem t_X13_people : MOK m_X13_people yX13_people cX13_people (some .int) 10 := ⟨chk_all 7 (by decide +kernel) (fun _ h => K_end h), by decide +kernel, by decide +kernel⟩
theorem t_X13_kindOf : MOK m_X13_kindOf yX13_kindOf cX13_kindOf (some .int) 10 := ⟨chk_all 12 (by decide +kernel) (fun _ h => K_end h), by decide +kernel, by decide +kernel⟩
theorem t_X13_shyOf : MOK m_X13_shyOf yX13_shyOf cX13_shyOf (some .int) 10 := ⟨chk_all 14 (by decide +kernel) (fun _ h => K_end h), by decide +kernel, by decide +kernel⟩
theorem t_X13_saysOf : MOK m_X13_saysOf yX13_saysOf cX13_saysOf (some .int) 10 := ⟨chk_all 14 (by decide +kernel) (fun _ h => K_end h), by decide +kernel, by decide +kernel⟩
theorem t_X13_likingOf : MOK m_X13_likingOf yX13_likingOf cX13_likingOf (some .int) 10 := ⟨chk_all 27 (by decide +kernel) (fun _ h => K_end h), by decide +kernel, by decide +kernel⟩
theorem t_X13_isSaying : MOK m_X13_isSaying yX13_isSaying cX13_isSaying (some .boolean) 10 := ⟨chk_all 18 (by decide +kernel) (fun _ h => K_end h), by decide +kernel, by decide +kernel⟩
theorem t_X13_isPlace : MOK m_X13_isPlace yX13_isPlace cX13_isPlace (some .boolean) 10 := ⟨chk_all 18 (by decide +kernel) (fun _ h => K_end h), by decide +kernel, by decide +kernel⟩
theorem t_X13_isPerson : MOK m_X13_isPerson yX13_isPerson cX13_isPerson (some .boolean) 10 := ⟨chk_all 18 (by decide +kernel) (fun _ h => K_end h), by decide +kernel, by decide +kernel⟩
theorem t_X13_areTwo : MOK m_X13_areTwo yX13_areTwo cX13_areTwo (some .boolean) 10 := ⟨chk_all 27 (by decide +kernel) (fun _ h => K_end h), by decide +kernel, by decide +kernel⟩
theorem t_X13_isWed : MOK m_X13_isWed yX13_isWed cX13_isWed (some .boolean) 10 := ⟨chk_all 26 (by decide +kernel) (fun _ h => K_end h), by decide +kernel, by decide +kernel⟩
theorem t_X13_isKept : MOK m_X13_isKept yX13_isKept cX13_isKept (some .boolean) 10 := ⟨chk_all 26 (by decide +kernel) (fun _ h => K_end h), by decide +kernel, by decide +kernel⟩
theorem t_X13_wivesOf : MOK m_X13_wivesOf yX13_wivesOf cX13_wivesOf (some .int) 10 := ⟨chk_all 47 (by decide +kernel) (fun _ h => K_end h), by decide +kernel, by decide +kernel⟩
theorem t_X13_areFree : MOK m_X13_areFree yX13_areFree cX13_areFree (some .boolean) 10 := ⟨chk_all 34 (by decide +kernel) (fun _ h => K_end h), by decide +kernel, by decide +kernel⟩
theorem t_X13_couldSnap : MOK m_X13_couldSnap yX13_couldSnap cX13_couldSnap (some .boolean) 10 := ⟨chk_all 49 (by decide +kernel) (fun _ h => K_end h), by decide +kernel, by decide +kernel⟩
theorem t_X13_laysFacts : MOK m_X13_laysFacts yX13_laysFacts cX13_laysFacts none 10 := ⟨chk_all 72 (by decide +kernel) (fun _ h => K_end h), by decide +kernel, by decide +kernel⟩
theorem t_X13_itCounts : MOK m_X13_itCounts yX13_itCounts cX13_itCounts (some .boolean) 10 := ⟨chk_all 35 (by decide +kernel) (fun _ h => K_end h), by decide +kernel, by decide +kernel⟩
theorem t_X13_partingOf : MOK m_X13_partingOf yX13_partingOf cX13_partingOf (some .int) 10 := ⟨chk_all 72 (by decide +kernel) (fun _ h => K_end h), by decide +kernel, by decide +kernel⟩
theorem t_X13_echoAt : MOK m_X13_echoAt yX13_echoAt cX13_echoAt (some .int) 10 := ⟨chk_all 71 (by decide +kernel) (fun _ h => K_end h), by decide +kernel, by decide +kernel⟩
theorem t_X13_utters : MOK m_X13_utters yX13_utters cX13_utters (some .int) 10 := ⟨chk_all 68 (by decide +kernel) (fun _ h => K_end h), by decide +kernel, by decide +kernel⟩
theorem t_X13_passes : MOK m_X13_passes yX13_passes cX13_passes (some .int) 10 := ⟨chk_all 245 (by decide +kernel) (fun _ h => K_end h), by decide +kernel, by decide +kernel⟩
theorem t_X13_bigamistsOf : MOK m_X13_bigamistsOf yX13_bigamistsOf cX13_bigamistsOf (some .int) 10 := ⟨chk_all 40 (by decide +kernel) (fun _ h => K_end h), by decide +kernel, by decide +kernel⟩
theorem t_X13_person : MOK m_X13_person yX13_person cX13_person (some .int) 10 := ⟨chk_all 148 (by decide +kernel) (fun _ h => K_end h), by decide +kernel, by decide +kernel⟩
theorem t_X13_odds : MOK m_X13_odds yX13_odds cX13_odds (some .int) 10 := ⟨chk_all 32 (by decide +kernel) (fun _ h => K_end h), by decide +kernel, by decide +kernel⟩
theorem t_X13_likes : MOK m_X13_likes yX13_likes cX13_likes (some .int) 10 := ⟨chk_all 25 (by decide +kernel) (fun _ h => K_end h), by decide +kernel, by decide +kernel⟩
theorem t_X13_doClash : MOK m_X13_doClash yX13_doClash cX13_doClash (some .boolean) 10 := ⟨chk_all 70 (by decide +kernel) (fun _ h => K_end h), by decide +kernel, by decide +kernel⟩
theorem t_X13_two : MOK m_X13_two yX13_two cX13_two (some .boolean) 10 := ⟨chk_all 76 (by decide +kernel) (fun _ h => K_end h), by decide +kernel, by decide +kernel⟩
theorem t_X13_say : MOK m_X13_say yX13_say cX13_say (some .boolean) 10 := ⟨chk_all 39 (by decide +kernel) (fun _ h => K_end h), by decide +kernel, by decide +kernel⟩
theorem t_X13_hush : MOK m_X13_hush yX13_hush cX13_hush (some .boolean) 10 := ⟨chk_all 31 (by decide +kernel) (fun _ h => K_end h), by decide +kernel, by decide +kernel⟩
theorem t_X13_walk : MOK m_X13_walk yX13_walk cX13_walk (some .boolean) 10 := ⟨chk_all 50 (by decide +kernel) (fun _ h => K_end h), by decide +kernel, by decide +kernel⟩
theorem t_X13_moment : MOK m_X13_moment yX13_moment cX13_moment (some .int) 10 := ⟨chk_all 15 (by decide +kernel) (fun _ h => K_end h), by decide +kernel, by decide +kernel⟩
theorem t_X13_partsTwo : MOK m_X13_partsTwo yX13_partsTwo cX13_partsTwo (some .int) 10 := ⟨chk_all 45 (by decide +kernel) (fun _ h => K_end h), by decide +kernel, by decide +kernel⟩
theorem t_X13_part : MOK m_X13_part yX13_part cX13_part (some .int) 10 := ⟨chk_all 38 (by decide +kernel) (fun _ h => K_end h), by decide +kernel, by decide +kernel⟩
theorem t_X13_keep : MOK m_X13_keep yX13_keep cX13_keep (some .boolean) 10 := ⟨chk_all 48 (by decide +kernel) (fun _ h => K_end h), by decide +kernel, by decide +kernel⟩
theorem t_X13_undo : MOK m_X13_undo yX13_undo cX13_undo (some .boolean) 10 := ⟨chk_all 42 (by decide +kernel) (fun _ h => K_end h), by decide +kernel, by decide +kernel⟩
theorem t_X13_does : MOK m_X13_does yX13_does cX13_does (some .boolean) 10 := ⟨chk_all 178 (by decide +kernel) (fun _ h => K_end h), by decide +kernel, by decide +kernel⟩
theorem t_X13_bits : MOK m_X13_bits yX13_bits cX13_bits (some .int) 10 := ⟨chk_all 26 (by decide +kernel) (fun _ h => K_end h), by decide +kernel, by decide +kernel⟩
theorem t_X13_judged : MOK m_X13_judged yX13_judged cX13_judged (some .int) 10 := ⟨chk_all 174 (by decide +kernel) (fun _ h => K_end h), by decide +kernel, by decide +kernel⟩
theorem t_X13_bigamists : MOK m_X13_bigamists yX13_bigamists cX13_bigamists (some .int) 10 := ⟨chk_all 11 (by decide +kernel) (fun _ h => K_end h), by decide +kernel, by decide +kernel⟩
theorem t_X13_layPairs : MOK m_X13_layPairs yX13_layPairs cX13_layPairs none 10 := ⟨chk_all 82 (by decide +kernel) (fun _ h => K_end h), by decide +kernel, by decide +kernel⟩
theorem t_X13_isFair : MOK m_X13_isFair yX13_isFair cX13_isFair (some .boolean) 10 := ⟨chk_all 75 (by decide +kernel) (fun _ h => K_end h), by decide +kernel, by decide +kernel⟩
theorem t_X13_mend : MOK m_X13_mend yX13_mend cX13_mend (some .int) 10 := ⟨chk_all 191 (by decide +kernel) (fun _ h => K_end h), by decide +kernel, by decide +kernel⟩
theorem t_X13_allOf : MOK m_X13_allOf yX13_allOf cX13_allOf (some .int) 10 := ⟨chk_all 33 (by decide +kernel) (fun _ h => K_end h), by decide +kernel, by decide +kernel⟩
theorem t_X13_chanceOf : MOK m_X13_chanceOf yX13_chanceOf cX13_chanceOf (some .int) 10 := ⟨chk_all 70 (by decide +kernel) (fun _ h => K_end h), by decide +kernel, by decide +kernel⟩
theorem t_X13_chance : MOK m_X13_chance yX13_chance cX13_chance (some .int) 10 := ⟨chk_all 37 (by decide +kernel) (fun _ h => K_end h), by decide +kernel, by decide +kernel⟩
theorem t_X13_leftBy : MOK m_X13_leftBy yX13_leftBy cX13_leftBy (some .long) 10 := ⟨chk_all 13 (by decide +kernel) (fun _ h => K_end h), by decide +kernel, by decide +kernel⟩
theorem t_X13_within : MOK m_X13_within yX13_within cX13_within (some .int) 10 := ⟨chk_all 85 (by decide +kernel) (fun _ h => K_end h), by decide +kernel, by decide +kernel⟩
theorem t_X13_half : MOK m_X13_half yX13_half cX13_half (some .int) 10 := ⟨chk_all 85 (by decide +kernel) (fun _ h => K_end h), by decide +kernel, by decide +kernel⟩
theorem t_X13_safest : MOK m_X13_safest yX13_safest cX13_safest (some .int) 10 := ⟨chk_all 170 (by decide +kernel) (fun _ h => K_end h), by decide +kernel, by decide +kernel⟩
theorem t_X13_haven : MOK m_X13_haven yX13_haven cX13_haven (some .int) 10 := ⟨chk_all 159 (by decide +kernel) (fun _ h => K_end h), by decide +kernel, by decide +kernel⟩
theorem t_X13_likedBy : MOK m_X13_likedBy yX13_likedBy cX13_likedBy (some .int) 10 := ⟨chk_all 26 (by decide +kernel) (fun _ h => K_end h), by decide +kernel, by decide +kernel⟩
theorem t_X13_isKeptUp : MOK m_X13_isKeptUp yX13_isKeptUp cX13_isKeptUp (some .boolean) 10 := ⟨chk_all 98 (by decide +kernel) (fun _ h => K_end h), by decide +kernel, by decide +kernel⟩
theorem t_X13_matchesFrom : MOK m_X13_matchesFrom yX13_matchesFrom cX13_matchesFrom none 10 := ⟨chk_all 162 (by decide +kernel) (fun _ h => K_end h), by decide +kernel, by decide +kernel⟩
