theorem t_X13_matches : MOK m_X13_matches yX13_matches cX13_matches (some .int) 10 := ⟨chk_all 62 (by decide +kernel) (fun _ h => K_end h), by decide +kernel, by decide +kernel⟩
theorem t_X13_may : MOK m_X13_may yX13_may cX13_may (some .int) 10 := ⟨chk_all 79 (by decide +kernel) (fun _ h => K_end h), by decide +kernel, by decide +kernel⟩
theorem t_X13_code : MOK m_X13_code yX13_code cX13_code (some .int) 10 := ⟨chk_all 151 (by decide +kernel) (fun _ h => K_end h), by decide +kernel, by decide +kernel⟩
theorem t_X13_rotas : MOK m_X13_rotas yX13_rotas cX13_rotas none 10 := ⟨chk_all 190 (by decide +kernel) (fun _ h => K_end h), by decide +kernel, by decide +kernel⟩
theorem t_X13_rota : MOK m_X13_rota yX13_rota cX13_rota (some .int) 10 := ⟨chk_all 60 (by decide +kernel) (fun _ h => K_end h), by decide +kernel, by decide +kernel⟩
theorem t_X13_company : MOK m_X13_company yX13_company cX13_company (some .int) 10 := ⟨chk_all 175 (by decide +kernel) (fun _ h => K_end h), by decide +kernel, by decide +kernel⟩
theorem t_X13_hear : MOK m_X13_hear yX13_hear cX13_hear (some .boolean) 10 := ⟨chk_all 60 (by decide +kernel) (fun _ h => K_end h), by decide +kernel, by decide +kernel⟩
theorem t_X13_partOf : MOK m_X13_partOf yX13_partOf cX13_partOf (some .int) 10 := ⟨chk_all 31 (by decide +kernel) (fun _ h => K_end h), by decide +kernel, by decide +kernel⟩
theorem t_X13_mayHear : MOK m_X13_mayHear yX13_mayHear cX13_mayHear (some .boolean) 10 := ⟨chk_all 43 (by decide +kernel) (fun _ h => K_end h), by decide +kernel, by decide +kernel⟩
theorem t_X13_whoNow : MOK m_X13_whoNow yX13_whoNow cX13_whoNow (some .int) 10 := ⟨chk_all 85 (by decide +kernel) (fun _ h => K_end h), by decide +kernel, by decide +kernel⟩
theorem t_X13_who : MOK m_X13_who yX13_who cX13_who (some .int) 10 := ⟨chk_all 10 (by decide +kernel) (fun _ h => K_end h), by decide +kernel, by decide +kernel⟩
theorem t_X13_likely : MOK m_X13_likely yX13_likely cX13_likely (some .int) 10 := ⟨chk_all 183 (by decide +kernel) (fun _ h => K_end h), by decide +kernel, by decide +kernel⟩
theorem t_X13_ask : MOK m_X13_ask yX13_ask cX13_ask (some .int) 10 := ⟨chk_all 142 (by decide +kernel) (fun _ h => K_end h), by decide +kernel, by decide +kernel⟩
theorem t_X13_getsBy : MOK m_X13_getsBy yX13_getsBy cX13_getsBy (some .int) 10 := ⟨chk_all 21 (by decide +kernel) (fun _ h => K_end h), by decide +kernel, by decide +kernel⟩
theorem t_X13_rests : MOK m_X13_rests yX13_rests cX13_rests (some .int) 10 := ⟨chk_all 224 (by decide +kernel) (fun _ h => K_end h), by decide +kernel, by decide +kernel⟩
theorem t_X13_draw : MOK m_X13_draw yX13_draw cX13_draw (some .int) 10 := ⟨chk_all 33 (by decide +kernel) (fun _ h => K_end h), by decide +kernel, by decide +kernel⟩
theorem t_X13_drawsSaying : MOK m_X13_drawsSaying yX13_drawsSaying cX13_drawsSaying (some .int) 10 := ⟨chk_all 49 (by decide +kernel) (fun _ h => K_end h), by decide +kernel, by decide +kernel⟩
theorem t_X13_drawsMoment : MOK m_X13_drawsMoment yX13_drawsMoment cX13_drawsMoment (some .int) 10 := ⟨chk_all 101 (by decide +kernel) (fun _ h => K_end h), by decide +kernel, by decide +kernel⟩
theorem t_X13_generations : MOK m_X13_generations yX13_generations cX13_generations (some .int) 10 := ⟨chk_all 135 (by decide +kernel) (fun _ h => K_end h), by decide +kernel, by decide +kernel⟩
theorem t_X13_mark : MOK m_X13_mark yX13_mark cX13_mark (some .boolean) 10 := ⟨chk_all 88 (by decide +kernel) (fun _ h => K_end h), by decide +kernel, by decide +kernel⟩
theorem t_X13_count : MOK m_X13_count yX13_count cX13_count (some .int) 10 := ⟨chk_all 126 (by decide +kernel) (fun _ h => K_end h), by decide +kernel, by decide +kernel⟩
theorem t_Jx29ce0_ordinal_8abf5 : MOK m_Jx29ce0_ordinal_8abf5 yJx29ce0_ordinal_8abf5 cJx29ce0_ordinal_8abf5 (some .int) 14 := ⟨chk_all 5 (by decide +kernel) (fun _ h => K_end h), by decide +kernel, by decide +kernel⟩
theorem t_J6_compare_7cf53 : MOK m_J6_compare_7cf53 yJ6_compare_7cf53 cJ6_compare_7cf53 (some .int) 15 := ⟨chk_all 20 (by decide +kernel) (fun _ h => K_end h), by decide +kernel, by decide +kernel⟩
theorem t_J6_bitCount_0f7a4 : MOK m_J6_bitCount_0f7a4 yJ6_bitCount_0f7a4 cJ6_bitCount_0f7a4 (some .int) 15 := ⟨chk_all 53 (by decide +kernel) (fun _ h => K_end h), by decide +kernel, by decide +kernel⟩
theorem t_J7_fill_53178 : MOK m_J7_fill_53178 yJ7_fill_53178 cJ7_fill_53178 none 17 := ⟨chk_all 21 (by decide +kernel) (fun _ h => K_end h), by decide +kernel, by decide +kernel⟩
theorem t_L_rests : MOK m_L_rests yL_rests cL_rests (some .int) 13 := ⟨chk_all 21 (by decide +kernel) (fun _ h => K_end h), by decide +kernel, by decide +kernel⟩
