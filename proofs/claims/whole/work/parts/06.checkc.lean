theorem t_X12_company : MOK m_X12_company yX12_company cX12_company (some .int) 9 := ⟨chk_all 37 (by decide +kernel) (fun _ h => K_end h), by decide +kernel, by decide +kernel⟩
theorem t_X12_hear : MOK m_X12_hear yX12_hear cX12_hear (some .boolean) 9 := ⟨chk_all 60 (by decide +kernel) (fun _ h => K_end h), by decide +kernel, by decide +kernel⟩
theorem t_X12_who : MOK m_X12_who yX12_who cX12_who (some .int) 9 := ⟨chk_all 12 (by decide +kernel) (fun _ h => K_end h), by decide +kernel, by decide +kernel⟩
theorem t_X12_likely : MOK m_X12_likely yX12_likely cX12_likely (some .int) 9 := ⟨chk_all 12 (by decide +kernel) (fun _ h => K_end h), by decide +kernel, by decide +kernel⟩
theorem t_X12_ask : MOK m_X12_ask yX12_ask cX12_ask (some .int) 9 := ⟨chk_all 12 (by decide +kernel) (fun _ h => K_end h), by decide +kernel, by decide +kernel⟩
theorem t_X12_rests : MOK m_X12_rests yX12_rests cX12_rests (some .int) 9 := ⟨chk_all 102 (by decide +kernel) (fun _ h => K_end h), by decide +kernel, by decide +kernel⟩
theorem t_X12_generations : MOK m_X12_generations yX12_generations cX12_generations (some .int) 9 := ⟨chk_all 156 (by decide +kernel) (fun _ h => K_end h), by decide +kernel, by decide +kernel⟩
theorem t_X12_mark : MOK m_X12_mark yX12_mark cX12_mark (some .boolean) 9 := ⟨chk_all 78 (by decide +kernel) (fun _ h => K_end h), by decide +kernel, by decide +kernel⟩
theorem t_X12_count : MOK m_X12_count yX12_count cX12_count (some .int) 9 := ⟨chk_all 150 (by decide +kernel) (fun _ h => K_end h), by decide +kernel, by decide +kernel⟩
theorem t_X12_isAtRest : MOK m_X12_isAtRest yX12_isAtRest cX12_isAtRest (some .boolean) 9 := ⟨chk_all 26 (by decide +kernel) (fun _ h => K_end h), by decide +kernel, by decide +kernel⟩
theorem t_X12_isContent : MOK m_X12_isContent yX12_isContent cX12_isContent (some .boolean) 9 := ⟨chk_all 41 (by decide +kernel) (fun _ h => K_end h), by decide +kernel, by decide +kernel⟩
theorem t_X12_gain : MOK m_X12_gain yX12_gain cX12_gain (some .int) 9 := ⟨chk_all 19 (by decide +kernel) (fun _ h => K_end h), by decide +kernel, by decide +kernel⟩
theorem t_X12_pairBit : MOK m_X12_pairBit yX12_pairBit cX12_pairBit (some .int) 9 := ⟨chk_all 39 (by decide +kernel) (fun _ h => K_end h), by decide +kernel, by decide +kernel⟩
theorem t_X12_hasBit : MOK m_X12_hasBit yX12_hasBit cX12_hasBit (some .boolean) 9 := ⟨chk_all 14 (by decide +kernel) (fun _ h => K_end h), by decide +kernel, by decide +kernel⟩
theorem t_X13_thrown : MOK m_X13_thrown yX13_thrown cX13_thrown (some .int) 10 := ⟨chk_all 5 (by decide +kernel) (fun _ h => K_end h), by decide +kernel, by decide +kernel⟩
theorem t_X13_feed : MOK m_X13_feed yX13_feed cX13_feed (some .int) 10 := ⟨chk_all 26 (by decide +kernel) (fun _ h => K_end h), by decide +kernel, by decide +kernel⟩
theorem t_X13_lay : MOK m_X13_lay yX13_lay cX13_lay none 10 := ⟨chk_all 76 (by decide +kernel) (fun _ h => K_end h), by decide +kernel, by decide +kernel⟩
theorem t_X13_init : MOK m_X13_init yX13_init cX13_init none 10 := ⟨chk_all 398 (by decide +kernel) (fun _ h => K_end h), by decide +kernel, by decide +kernel⟩
theorem t_X13_isLetter : MOK m_X13_isLetter yX13_isLetter cX13_isLetter (some .boolean) 10 := ⟨chk_all 18 (by decide +kernel) (fun _ h => K_end h), by decide +kernel, by decide +kernel⟩
theorem t_X13_isDigit : MOK m_X13_isDigit yX13_isDigit cX13_isDigit (some .boolean) 10 := ⟨chk_all 18 (by decide +kernel) (fun _ h => K_end h), by decide +kernel, by decide +kernel⟩
theorem t_X13_rank : MOK m_X13_rank yX13_rank cX13_rank (some .int) 10 := ⟨chk_all 19 (by decide +kernel) (fun _ h => K_end h), by decide +kernel, by decide +kernel⟩
theorem t_X13_isSignOf : MOK m_X13_isSignOf yX13_isSignOf cX13_isSignOf (some .boolean) 10 := ⟨chk_all 54 (by decide +kernel) (fun _ h => K_end h), by decide +kernel, by decide +kernel⟩
theorem t_X13_cutAll : MOK m_X13_cutAll yX13_cutAll cX13_cutAll none 10 := ⟨chk_all 307 (by decide +kernel) (fun _ h => K_end h), by decide +kernel, by decide +kernel⟩
theorem t_X13_wrong : MOK m_X13_wrong yX13_wrong cX13_wrong none 10 := ⟨chk_all 26 (by decide +kernel) (fun _ h => K_end h), by decide +kernel, by decide +kernel⟩
theorem t_X13_isSign : MOK m_X13_isSign yX13_isSign cX13_isSign (some .boolean) 10 := ⟨chk_all 41 (by decide +kernel) (fun _ h => K_end h), by decide +kernel, by decide +kernel⟩
theorem t_X13_isWord : MOK m_X13_isWord yX13_isWord cX13_isWord (some .boolean) 10 := ⟨chk_all 45 (by decide +kernel) (fun _ h => K_end h), by decide +kernel, by decide +kernel⟩
theorem t_X13_takeSign : MOK m_X13_takeSign yX13_takeSign cX13_takeSign none 10 := ⟨chk_all 27 (by decide +kernel) (fun _ h => K_end h), by decide +kernel, by decide +kernel⟩
theorem t_X13_hasSign : MOK m_X13_hasSign yX13_hasSign cX13_hasSign (some .boolean) 10 := ⟨chk_all 26 (by decide +kernel) (fun _ h => K_end h), by decide +kernel, by decide +kernel⟩
theorem t_X13_hasWord : MOK m_X13_hasWord yX13_hasWord cX13_hasWord (some .boolean) 10 := ⟨chk_all 26 (by decide +kernel) (fun _ h => K_end h), by decide +kernel, by decide +kernel⟩
theorem t_X13_takeWord : MOK m_X13_takeWord yX13_takeWord cX13_takeWord none 10 := ⟨chk_all 14 (by decide +kernel) (fun _ h => K_end h), by decide +kernel, by decide +kernel⟩
theorem t_X13_isIn : MOK m_X13_isIn yX13_isIn cX13_isIn (some .boolean) 10 := ⟨chk_all 16 (by decide +kernel) (fun _ h => K_end h), by decide +kernel, by decide +kernel⟩
theorem t_X13_standsAsAlways : MOK m_X13_standsAsAlways yX13_standsAsAlways cX13_standsAsAlways none 10 := ⟨chk_all 44 (by decide +kernel) (fun _ h => K_end h), by decide +kernel, by decide +kernel⟩
theorem t_X13_takeNumber : MOK m_X13_takeNumber yX13_takeNumber cX13_takeNumber (some .int) 10 := ⟨chk_all 102 (by decide +kernel) (fun _ h => K_end h), by decide +kernel, by decide +kernel⟩
theorem t_X13_wordHere : MOK m_X13_wordHere yX13_wordHere cX13_wordHere (some .int) 10 := ⟨chk_all 37 (by decide +kernel) (fun _ h => K_end h), by decide +kernel, by decide +kernel⟩
theorem t_X13_takeOne : MOK m_X13_takeOne yX13_takeOne cX13_takeOne (some .int) 10 := ⟨chk_all 68 (by decide +kernel) (fun _ h => K_end h), by decide +kernel, by decide +kernel⟩
theorem t_X13_isName : MOK m_X13_isName yX13_isName cX13_isName (some .boolean) 10 := ⟨chk_all 36 (by decide +kernel) (fun _ h => K_end h), by decide +kernel, by decide +kernel⟩
theorem t_X13_find : MOK m_X13_find yX13_find cX13_find (some .int) 10 := ⟨chk_all 81 (by decide +kernel) (fun _ h => K_end h), by decide +kernel, by decide +kernel⟩
theorem t_X13_toldHere : MOK m_X13_toldHere yX13_toldHere cX13_toldHere (some .int) 10 := ⟨chk_all 72 (by decide +kernel) (fun _ h => K_end h), by decide +kernel, by decide +kernel⟩
theorem t_X13_takeTold : MOK m_X13_takeTold yX13_takeTold cX13_takeTold (some .int) 10 := ⟨chk_all 30 (by decide +kernel) (fun _ h => K_end h), by decide +kernel, by decide +kernel⟩
theorem t_X13_pairOf : MOK m_X13_pairOf yX13_pairOf cX13_pairOf (some .int) 10 := ⟨chk_all 37 (by decide +kernel) (fun _ h => K_end h), by decide +kernel, by decide +kernel⟩
theorem t_X13_province : MOK m_X13_province yX13_province cX13_province (some .int) 10 := ⟨chk_all 205 (by decide +kernel) (fun _ h => K_end h), by decide +kernel, by decide +kernel⟩
theorem t_X13_readLine : MOK m_X13_readLine yX13_readLine cX13_readLine none 10 := ⟨chk_all 104 (by decide +kernel) (fun _ h => K_end h), by decide +kernel, by decide +kernel⟩
theorem t_X13_readName : MOK m_X13_readName yX13_readName cX13_readName none 10 := ⟨chk_all 133 (by decide +kernel) (fun _ h => K_end h), by decide +kernel, by decide +kernel⟩
theorem t_X13_readPerson : MOK m_X13_readPerson yX13_readPerson cX13_readPerson none 10 := ⟨chk_all 91 (by decide +kernel) (fun _ h => K_end h), by decide +kernel, by decide +kernel⟩
theorem t_X13_readSays : MOK m_X13_readSays yX13_readSays cX13_readSays none 10 := ⟨chk_all 101 (by decide +kernel) (fun _ h => K_end h), by decide +kernel, by decide +kernel⟩
theorem t_X13_readLikes : MOK m_X13_readLikes yX13_readLikes cX13_readLikes none 10 := ⟨chk_all 111 (by decide +kernel) (fun _ h => K_end h), by decide +kernel, by decide +kernel⟩
theorem t_X13_readKept : MOK m_X13_readKept yX13_readKept cX13_readKept none 10 := ⟨chk_all 97 (by decide +kernel) (fun _ h => K_end h), by decide +kernel, by decide +kernel⟩
theorem t_X13_readOnce : MOK m_X13_readOnce yX13_readOnce cX13_readOnce none 10 := ⟨chk_all 92 (by decide +kernel) (fun _ h => K_end h), by decide +kernel, by decide +kernel⟩
theorem t_X13_day : MOK m_X13_day yX13_day cX13_day (some .int) 10 := ⟨chk_all 163 (by decide +kernel) (fun _ h => K_end h), by decide +kernel, by decide +kernel⟩
theorem t_X13_readDay : MOK m_X13_readDay yX13_readDay cX13_readDay none 10 := ⟨chk_all 142 (by decide +kernel) (fun _ h => K_end h), by decide +kernel, by decide +kernel⟩
theorem t_X13_emit : MOK m_X13_emit yX13_emit cX13_emit none 10 := ⟨chk_all 39 (by decide +kernel) (fun _ h => K_end h), by decide +kernel, by decide +kernel⟩
theorem t_X13_all : MOK m_X13_all yX13_all cX13_all none 10 := ⟨chk_all 65 (by decide +kernel) (fun _ h => K_end h), by decide +kernel, by decide +kernel⟩
theorem t_X13_test : MOK m_X13_test yX13_test cX13_test none 10 := ⟨chk_all 52 (by decide +kernel) (fun _ h => K_end h), by decide +kernel, by decide +kernel⟩
theorem t_X13_sums : MOK m_X13_sums yX13_sums cX13_sums none 10 := ⟨chk_all 63 (by decide +kernel) (fun _ h => K_end h), by decide +kernel, by decide +kernel⟩
theorem t_X13_products : MOK m_X13_products yX13_products cX13_products none 10 := ⟨chk_all 30 (by decide +kernel) (fun _ h => K_end h), by decide +kernel, by decide +kernel⟩
theorem t_X13_takePart : MOK m_X13_takePart yX13_takePart cX13_takePart none 10 := ⟨chk_all 179 (by decide +kernel) (fun _ h => K_end h), by decide +kernel, by decide +kernel⟩
