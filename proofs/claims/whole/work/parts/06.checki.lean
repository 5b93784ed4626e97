theorem tl_12 : (List.range' 840 (910 - 840)).all (chk m_L_law 13 cL_law (some .boolean)) = true := by decide +kernel
theorem tl_13 : (List.range' 910 (980 - 910)).all (chk m_L_law 13 cL_law (some .boolean)) = true := by decide +kernel
theorem tl_14 : (List.range' 980 (1050 - 980)).all (chk m_L_law 13 cL_law (some .boolean)) = true := by decide +kernel
theorem tl_15 : (List.range' 1050 (1120 - 1050)).all (chk m_L_law 13 cL_law (some .boolean)) = true := by decide +kernel
