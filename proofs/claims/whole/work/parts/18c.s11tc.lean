/-! SOUNDNESS 11tc: the methods' tables, checked (slow: the kernel reads the code) -/
theorem zt_t6 : zk_tt zt_ms6 zt_mi6 = true := by decide +kernel
theorem zt_t7 : zk_tt zt_ms7 zt_mi7 = true := by decide +kernel
theorem zt_t8 : zk_tt zt_ms8 zt_mi8 = true := by decide +kernel
