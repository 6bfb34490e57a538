/-! THE LAW'S LEVEL 16c: the table of holds -/
theorem qt_6a : (qm_43.take 150).all (qk_e RL "holds" cL_holds 14 (some .boolean) 2) = true := by decide +kernel
theorem qt_6b : ((qm_43.drop 150).take 100).all (qk_e RL "holds" cL_holds 14 (some .boolean) 2) = true := by decide +kernel
