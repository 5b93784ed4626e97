theorem tl_16 : (List.range' 1120 (1190 - 1120)).all (chk m_L_law 13 cL_law (some .boolean)) = true := by decide +kernel
theorem tl_17 : (List.range' 1190 (1260 - 1190)).all (chk m_L_law 13 cL_law (some .boolean)) = true := by decide +kernel
theorem tl_18 : (List.range' 1260 (1330 - 1260)).all (chk m_L_law 13 cL_law (some .boolean)) = true := by decide +kernel
theorem tl_19 : (List.range' 1330 (1400 - 1330)).all (chk m_L_law 13 cL_law (some .boolean)) = true := by decide +kernel
