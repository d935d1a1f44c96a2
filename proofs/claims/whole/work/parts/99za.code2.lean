theorem okL_law_360 : mm_all ML_law (((ML_law.2.2.1.drop 360).take 120)) 360 = true := by decide +kernel
theorem okL_law_480 : mm_all ML_law (((ML_law.2.2.1.drop 480).take 120)) 480 = true := by decide +kernel
theorem okL_law_600 : mm_all ML_law (((ML_law.2.2.1.drop 600).take 120)) 600 = true := by decide +kernel
