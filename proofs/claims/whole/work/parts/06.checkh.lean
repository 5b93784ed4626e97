theorem tl_8 : (List.range' 560 (630 - 560)).all (chk m_L_law 13 cL_law (some .boolean)) = true := by decide +kernel
theorem tl_9 : (List.range' 630 (700 - 630)).all (chk m_L_law 13 cL_law (some .boolean)) = true := by decide +kernel
theorem tl_10 : (List.range' 700 (770 - 700)).all (chk m_L_law 13 cL_law (some .boolean)) = true := by decide +kernel
theorem tl_11 : (List.range' 770 (840 - 770)).all (chk m_L_law 13 cL_law (some .boolean)) = true := by decide +kernel
