theorem t_X8_readDayLine : MOK m_X8_readDayLine yX8_readDayLine cX8_readDayLine none 6 := ⟨chk_all 187 (by decide +kernel) (fun _ h => K_end h), by decide +kernel, by decide +kernel⟩
theorem t_X8_isVerb : MOK m_X8_isVerb yX8_isVerb cX8_isVerb (some .boolean) 6 := ⟨chk_all 48 (by decide +kernel) (fun _ h => K_end h), by decide +kernel, by decide +kernel⟩
theorem t_X8_readLaw : MOK m_X8_readLaw yX8_readLaw cX8_readLaw none 6 := ⟨chk_all 30 (by decide +kernel) (fun _ h => K_end h), by decide +kernel, by decide +kernel⟩
theorem t_X8_readJoined : MOK m_X8_readJoined yX8_readJoined cX8_readJoined none 6 := ⟨chk_all 104 (by decide +kernel) (fun _ h => K_end h), by decide +kernel, by decide +kernel⟩
theorem t_X8_readPart : MOK m_X8_readPart yX8_readPart cX8_readPart none 6 := ⟨chk_all 153 (by decide +kernel) (fun _ h => K_end h), by decide +kernel, by decide +kernel⟩
theorem t_X8_readKnown : MOK m_X8_readKnown yX8_readKnown cX8_readKnown (some .int) 6 := ⟨chk_all 13 (by decide +kernel) (fun _ h => K_end h), by decide +kernel, by decide +kernel⟩
theorem t_X8_lookUp : MOK m_X8_lookUp yX8_lookUp cX8_lookUp (some .int) 6 := ⟨chk_all 64 (by decide +kernel) (fun _ h => K_end h), by decide +kernel, by decide +kernel⟩
theorem t_X8_readNumber : MOK m_X8_readNumber yX8_readNumber cX8_readNumber (some .int) 6 := ⟨chk_all 59 (by decide +kernel) (fun _ h => K_end h), by decide +kernel, by decide +kernel⟩
theorem t_X8_expect : MOK m_X8_expect yX8_expect cX8_expect none 6 := ⟨chk_all 26 (by decide +kernel) (fun _ h => K_end h), by decide +kernel, by decide +kernel⟩
theorem t_X8_step : MOK m_X8_step yX8_step cX8_step none 6 := ⟨chk_all 15 (by decide +kernel) (fun _ h => K_end h), by decide +kernel, by decide +kernel⟩
theorem t_X8_blameIf : MOK m_X8_blameIf yX8_blameIf cX8_blameIf none 6 := ⟨chk_all 10 (by decide +kernel) (fun _ h => K_end h), by decide +kernel, by decide +kernel⟩
theorem t_X8_blame : MOK m_X8_blame yX8_blame cX8_blame none 6 := ⟨chk_all 24 (by decide +kernel) (fun _ h => K_end h), by decide +kernel, by decide +kernel⟩
theorem t_X9_init : MOK m_X9_init yX9_init cX9_init none 7 := ⟨chk_all 51 (by decide +kernel) (fun _ h => K_end h), by decide +kernel, by decide +kernel⟩
theorem t_X9_begin : MOK m_X9_begin yX9_begin cX9_begin none 7 := ⟨chk_all 68 (by decide +kernel) (fun _ h => K_end h), by decide +kernel, by decide +kernel⟩
theorem t_X9_copyAll : MOK m_X9_copyAll yX9_copyAll cX9_copyAll none 7 := ⟨chk_all 28 (by decide +kernel) (fun _ h => K_end h), by decide +kernel, by decide +kernel⟩
theorem t_X9_copyButHeard : MOK m_X9_copyButHeard yX9_copyButHeard cX9_copyButHeard none 7 := ⟨chk_all 92 (by decide +kernel) (fun _ h => K_end h), by decide +kernel, by decide +kernel⟩
theorem t_X9_areWed : MOK m_X9_areWed yX9_areWed cX9_areWed (some .boolean) 7 := ⟨chk_all 19 (by decide +kernel) (fun _ h => K_end h), by decide +kernel, by decide +kernel⟩
theorem t_X9_areKept : MOK m_X9_areKept yX9_areKept cX9_areKept (some .boolean) 7 := ⟨chk_all 19 (by decide +kernel) (fun _ h => K_end h), by decide +kernel, by decide +kernel⟩
theorem t_X9_mayPair : MOK m_X9_mayPair yX9_mayPair cX9_mayPair (some .boolean) 7 := ⟨chk_all 35 (by decide +kernel) (fun _ h => K_end h), by decide +kernel, by decide +kernel⟩
theorem t_X9_couldSnap : MOK m_X9_couldSnap yX9_couldSnap cX9_couldSnap (some .boolean) 7 := ⟨chk_all 40 (by decide +kernel) (fun _ h => K_end h), by decide +kernel, by decide +kernel⟩
theorem t_X9_clash : MOK m_X9_clash yX9_clash cX9_clash (some .boolean) 7 := ⟨chk_all 58 (by decide +kernel) (fun _ h => K_end h), by decide +kernel, by decide +kernel⟩
theorem t_X9_talkersAt : MOK m_X9_talkersAt yX9_talkersAt cX9_talkersAt (some .int) 7 := ⟨chk_all 56 (by decide +kernel) (fun _ h => K_end h), by decide +kernel, by decide +kernel⟩
theorem t_X9_spousesOf : MOK m_X9_spousesOf yX9_spousesOf cX9_spousesOf (some .int) 7 := ⟨chk_all 38 (by decide +kernel) (fun _ h => K_end h), by decide +kernel, by decide +kernel⟩
theorem t_X9_spouseCount : MOK m_X9_spouseCount yX9_spouseCount cX9_spouseCount (some .int) 7 := ⟨chk_all 14 (by decide +kernel) (fun _ h => K_end h), by decide +kernel, by decide +kernel⟩
theorem t_X9_bigamistBits : MOK m_X9_bigamistBits yX9_bigamistBits cX9_bigamistBits (some .int) 7 := ⟨chk_all 33 (by decide +kernel) (fun _ h => K_end h), by decide +kernel, by decide +kernel⟩
theorem t_X9_utteranceOf : MOK m_X9_utteranceOf yX9_utteranceOf cX9_utteranceOf (some .int) 7 := ⟨chk_all 56 (by decide +kernel) (fun _ h => K_end h), by decide +kernel, by decide +kernel⟩
theorem t_X9_passMoment : MOK m_X9_passMoment yX9_passMoment cX9_passMoment (some .int) 7 := ⟨chk_all 74 (by decide +kernel) (fun _ h => K_end h), by decide +kernel, by decide +kernel⟩
theorem t_X9_wedAlike : MOK m_X9_wedAlike yX9_wedAlike cX9_wedAlike (some .int) 7 := ⟨chk_all 128 (by decide +kernel) (fun _ h => K_end h), by decide +kernel, by decide +kernel⟩
theorem t_X9_keepUtterances : MOK m_X9_keepUtterances yX9_keepUtterances cX9_keepUtterances none 7 := ⟨chk_all 53 (by decide +kernel) (fun _ h => K_end h), by decide +kernel, by decide +kernel⟩
theorem t_X9_worthOf : MOK m_X9_worthOf yX9_worthOf cX9_worthOf (some .int) 7 := ⟨chk_all 57 (by decide +kernel) (fun _ h => K_end h), by decide +kernel, by decide +kernel⟩
theorem t_X9_partingPrice : MOK m_X9_partingPrice yX9_partingPrice cX9_partingPrice (some .int) 7 := ⟨chk_all 22 (by decide +kernel) (fun _ h => K_end h), by decide +kernel, by decide +kernel⟩
theorem t_X9_separate : MOK m_X9_separate yX9_separate cX9_separate (some .int) 7 := ⟨chk_all 50 (by decide +kernel) (fun _ h => K_end h), by decide +kernel, by decide +kernel⟩
theorem t_X9_walkTo : MOK m_X9_walkTo yX9_walkTo cX9_walkTo (some .boolean) 7 := ⟨chk_all 25 (by decide +kernel) (fun _ h => K_end h), by decide +kernel, by decide +kernel⟩
theorem t_X9_grant : MOK m_X9_grant yX9_grant cX9_grant (some .boolean) 7 := ⟨chk_all 31 (by decide +kernel) (fun _ h => K_end h), by decide +kernel, by decide +kernel⟩
theorem t_X9_drawSayings : MOK m_X9_drawSayings yX9_drawSayings cX9_drawSayings (some .long) 7 := ⟨chk_all 64 (by decide +kernel) (fun _ h => K_end h), by decide +kernel, by decide +kernel⟩
theorem t_X9_sayingAt : MOK m_X9_sayingAt yX9_sayingAt cX9_sayingAt (some .int) 7 := ⟨chk_all 42 (by decide +kernel) (fun _ h => K_end h), by decide +kernel, by decide +kernel⟩
theorem t_X9_drawWalk : MOK m_X9_drawWalk yX9_drawWalk cX9_drawWalk (some .long) 7 := ⟨chk_all 55 (by decide +kernel) (fun _ h => K_end h), by decide +kernel, by decide +kernel⟩
theorem t_X9_nextDraw : MOK m_X9_nextDraw yX9_nextDraw cX9_nextDraw (some .long) 7 := ⟨chk_all 14 (by decide +kernel) (fun _ h => K_end h), by decide +kernel, by decide +kernel⟩
theorem t_X9_drawn : MOK m_X9_drawn yX9_drawn cX9_drawn (some .int) 7 := ⟨chk_all 18 (by decide +kernel) (fun _ h => K_end h), by decide +kernel, by decide +kernel⟩
theorem t_X10_init : MOK m_X10_init yX10_init cX10_init none 8 := ⟨chk_all 49 (by decide +kernel) (fun _ h => K_end h), by decide +kernel, by decide +kernel⟩
theorem t_X10_addBytes : MOK m_X10_addBytes yX10_addBytes cX10_addBytes none 8 := ⟨chk_all 89 (by decide +kernel) (fun _ h => K_end h), by decide +kernel, by decide +kernel⟩
theorem t_X10_open : MOK m_X10_open yX10_open cX10_open none 8 := ⟨chk_all 86 (by decide +kernel) (fun _ h => K_end h), by decide +kernel, by decide +kernel⟩
theorem t_X10_advance : MOK m_X10_advance yX10_advance cX10_advance none 8 := ⟨chk_all 75 (by decide +kernel) (fun _ h => K_end h), by decide +kernel, by decide +kernel⟩
theorem t_X10_cut : MOK m_X10_cut yX10_cut cX10_cut (some .int) 8 := ⟨chk_all 59 (by decide +kernel) (fun _ h => K_end h), by decide +kernel, by decide +kernel⟩
theorem t_X10_cutWord : MOK m_X10_cutWord yX10_cutWord cX10_cutWord (some .int) 8 := ⟨chk_all 72 (by decide +kernel) (fun _ h => K_end h), by decide +kernel, by decide +kernel⟩
theorem t_X10_cutNumber : MOK m_X10_cutNumber yX10_cutNumber cX10_cutNumber (some .int) 8 := ⟨chk_all 72 (by decide +kernel) (fun _ h => K_end h), by decide +kernel, by decide +kernel⟩
theorem t_X10_addToken : MOK m_X10_addToken yX10_addToken cX10_addToken none 8 := ⟨chk_all 51 (by decide +kernel) (fun _ h => K_end h), by decide +kernel, by decide +kernel⟩
theorem t_X10_isLetter : MOK m_X10_isLetter yX10_isLetter cX10_isLetter (some .boolean) 8 := ⟨chk_all 18 (by decide +kernel) (fun _ h => K_end h), by decide +kernel, by decide +kernel⟩
theorem t_X10_isDigit : MOK m_X10_isDigit yX10_isDigit cX10_isDigit (some .boolean) 8 := ⟨chk_all 18 (by decide +kernel) (fun _ h => K_end h), by decide +kernel, by decide +kernel⟩
theorem t_X11_spelled : MOK m_X11_spelled yX11_spelled cX11_spelled (some (.object "SnapWed$Token")) 12 := ⟨chk_all 37 (by decide +kernel) (fun _ h => K_end h), by decide +kernel, by decide +kernel⟩
theorem t_X11_isName : MOK m_X11_isName yX11_isName cX11_isName (some .boolean) 12 := ⟨chk_all 21 (by decide +kernel) (fun _ h => K_end h), by decide +kernel, by decide +kernel⟩
theorem t_X11_startsPart : MOK m_X11_startsPart yX11_startsPart cX11_startsPart (some .boolean) 12 := ⟨chk_all 35 (by decide +kernel) (fun _ h => K_end h), by decide +kernel, by decide +kernel⟩
theorem t_X12_init : MOK m_X12_init yX12_init cX12_init none 9 := ⟨chk_all 175 (by decide +kernel) (fun _ h => K_end h), by decide +kernel, by decide +kernel⟩
theorem t_X12_feed : MOK m_X12_feed yX12_feed cX12_feed (some .int) 9 := ⟨chk_all 33 (by decide +kernel) (fun _ h => K_end h), by decide +kernel, by decide +kernel⟩
theorem t_X12_province : MOK m_X12_province yX12_province cX12_province (some .int) 9 := ⟨chk_all 76 (by decide +kernel) (fun _ h => K_end h), by decide +kernel, by decide +kernel⟩
theorem t_X12_day : MOK m_X12_day yX12_day cX12_day (some .int) 9 := ⟨chk_all 48 (by decide +kernel) (fun _ h => K_end h), by decide +kernel, by decide +kernel⟩
theorem t_X12_person : MOK m_X12_person yX12_person cX12_person (some .int) 9 := ⟨chk_all 117 (by decide +kernel) (fun _ h => K_end h), by decide +kernel, by decide +kernel⟩
theorem t_X12_odds : MOK m_X12_odds yX12_odds cX12_odds (some .int) 9 := ⟨chk_all 38 (by decide +kernel) (fun _ h => K_end h), by decide +kernel, by decide +kernel⟩
theorem t_X12_likes : MOK m_X12_likes yX12_likes cX12_likes (some .int) 9 := ⟨chk_all 28 (by decide +kernel) (fun _ h => K_end h), by decide +kernel, by decide +kernel⟩
theorem t_X12_two : MOK m_X12_two yX12_two cX12_two (some .boolean) 9 := ⟨chk_all 94 (by decide +kernel) (fun _ h => K_end h), by decide +kernel, by decide +kernel⟩
theorem t_X12_say : MOK m_X12_say yX12_say cX12_say (some .boolean) 9 := ⟨chk_all 47 (by decide +kernel) (fun _ h => K_end h), by decide +kernel, by decide +kernel⟩
theorem t_X12_hush : MOK m_X12_hush yX12_hush cX12_hush (some .boolean) 9 := ⟨chk_all 36 (by decide +kernel) (fun _ h => K_end h), by decide +kernel, by decide +kernel⟩
theorem t_X12_walk : MOK m_X12_walk yX12_walk cX12_walk (some .boolean) 9 := ⟨chk_all 60 (by decide +kernel) (fun _ h => K_end h), by decide +kernel, by decide +kernel⟩
theorem t_X12_moment : MOK m_X12_moment yX12_moment cX12_moment (some .int) 9 := ⟨chk_all 23 (by decide +kernel) (fun _ h => K_end h), by decide +kernel, by decide +kernel⟩
theorem t_X12_part : MOK m_X12_part yX12_part cX12_part (some .int) 9 := ⟨chk_all 51 (by decide +kernel) (fun _ h => K_end h), by decide +kernel, by decide +kernel⟩
theorem t_X12_keep : MOK m_X12_keep yX12_keep cX12_keep (some .boolean) 9 := ⟨chk_all 56 (by decide +kernel) (fun _ h => K_end h), by decide +kernel, by decide +kernel⟩
theorem t_X12_undo : MOK m_X12_undo yX12_undo cX12_undo (some .boolean) 9 := ⟨chk_all 12 (by decide +kernel) (fun _ h => K_end h), by decide +kernel, by decide +kernel⟩
theorem t_X12_judged : MOK m_X12_judged yX12_judged cX12_judged (some .int) 9 := ⟨chk_all 65 (by decide +kernel) (fun _ h => K_end h), by decide +kernel, by decide +kernel⟩
theorem t_X12_bigamists : MOK m_X12_bigamists yX12_bigamists cX12_bigamists (some .int) 9 := ⟨chk_all 8 (by decide +kernel) (fun _ h => K_end h), by decide +kernel, by decide +kernel⟩
theorem t_X12_mend : MOK m_X12_mend yX12_mend cX12_mend (some .int) 9 := ⟨chk_all 45 (by decide +kernel) (fun _ h => K_end h), by decide +kernel, by decide +kernel⟩
theorem t_X12_chance : MOK m_X12_chance yX12_chance cX12_chance (some .int) 9 := ⟨chk_all 30 (by decide +kernel) (fun _ h => K_end h), by decide +kernel, by decide +kernel⟩
theorem t_X12_within : MOK m_X12_within yX12_within cX12_within (some .int) 9 := ⟨chk_all 43 (by decide +kernel) (fun _ h => K_end h), by decide +kernel, by decide +kernel⟩
theorem t_X12_half : MOK m_X12_half yX12_half cX12_half (some .int) 9 := ⟨chk_all 33 (by decide +kernel) (fun _ h => K_end h), by decide +kernel, by decide +kernel⟩
theorem t_X12_safest : MOK m_X12_safest yX12_safest cX12_safest (some .int) 9 := ⟨chk_all 28 (by decide +kernel) (fun _ h => K_end h), by decide +kernel, by decide +kernel⟩
theorem t_X12_haven : MOK m_X12_haven yX12_haven cX12_haven (some .int) 9 := ⟨chk_all 37 (by decide +kernel) (fun _ h => K_end h), by decide +kernel, by decide +kernel⟩
theorem t_X12_matches : MOK m_X12_matches yX12_matches cX12_matches (some .int) 9 := ⟨chk_all 63 (by decide +kernel) (fun _ h => K_end h), by decide +kernel, by decide +kernel⟩
theorem t_X12_code : MOK m_X12_code yX12_code cX12_code (some .int) 9 := ⟨chk_all 119 (by decide +kernel) (fun _ h => K_end h), by decide +kernel, by decide +kernel⟩
theorem t_X12_may : MOK m_X12_may yX12_may cX12_may (some .int) 9 := ⟨chk_all 40 (by decide +kernel) (fun _ h => K_end h), by decide +kernel, by decide +kernel⟩
theorem t_X12_rota : MOK m_X12_rota yX12_rota cX12_rota (some .int) 9 := ⟨chk_all 78 (by decide +kernel) (fun _ h => K_end h), by decide +kernel, by decide +kernel⟩
