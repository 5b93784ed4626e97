theorem tl_4 : (List.range' 280 (350 - 280)).all (chk m_L_law 13 cL_law (some .boolean)) = true := by decide +kernel
theorem tl_5 : (List.range' 350 (420 - 350)).all (chk m_L_law 13 cL_law (some .boolean)) = true := by decide +kernel
theorem tl_6 : (List.range' 420 (490 - 420)).all (chk m_L_law 13 cL_law (some .boolean)) = true := by decide +kernel
theorem tl_7 : (List.range' 490 (560 - 490)).all (chk m_L_law 13 cL_law (some .boolean)) = true := by decide +kernel
