theorem tl_0 : (List.range' 0 (70 - 0)).all (chk m_L_law 13 cL_law (some .boolean)) = true := by decide +kernel
theorem tl_1 : (List.range' 70 (140 - 70)).all (chk m_L_law 13 cL_law (some .boolean)) = true := by decide +kernel
theorem tl_2 : (List.range' 140 (210 - 140)).all (chk m_L_law 13 cL_law (some .boolean)) = true := by decide +kernel
theorem tl_3 : (List.range' 210 (280 - 210)).all (chk m_L_law 13 cL_law (some .boolean)) = true := by decide +kernel
