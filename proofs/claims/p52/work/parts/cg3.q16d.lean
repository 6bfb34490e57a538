/-! THE LAW'S LEVEL 16d: the table of holds -/
theorem qt_6c : ((qm_43.drop 250).take 90).all (qk_e RL "holds" cL_holds 14 (some .boolean) 2) = true := by decide +kernel
theorem qt_6d : (qm_43.drop 340).all (qk_e RL "holds" cL_holds 14 (some .boolean) 2) = true := by decide +kernel
theorem qt_6e : qk_seq qm_43 = true := by decide +kernel
