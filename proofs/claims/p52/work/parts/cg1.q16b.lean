/-! THE LAW'S LEVEL 16b: more tables -/
theorem qt_t5 : qk_rng 40 3 = true := by decide +kernel
theorem qt_t7 : qk_rng 44 3 = true := by decide +kernel
theorem qt_law : (qm_47.all (qk_e "BathBoatsLaw" "law" code 9 (some .boolean) 2) && qk_seq qm_47) = true := by decide +kernel
