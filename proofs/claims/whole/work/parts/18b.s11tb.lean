/-! SOUNDNESS 11tb: the methods' tables, checked (slow: the kernel reads the code) -/
theorem zt_t3 : zk_tt zt_ms3 zt_mi3 = true := by decide +kernel
theorem zt_t4 : zk_tt zt_ms4 zt_mi4 = true := by decide +kernel
theorem zt_t5 : zk_tt zt_ms5 zt_mi5 = true := by decide +kernel
