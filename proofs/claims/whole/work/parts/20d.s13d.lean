/-! THE LAW'S MAIN, checked: d (slow: the kernel decodes the code) -/
theorem zt_n1440 : ((zm_333.drop 1440).take 60).all zk_main = true := by decide +kernel
theorem zt_n1500 : ((zm_333.drop 1500).take 60).all zk_main = true := by decide +kernel
theorem zt_n1560 : ((zm_333.drop 1560).take 60).all zk_main = true := by decide +kernel
theorem zt_n1620 : ((zm_333.drop 1620).take 60).all zk_main = true := by decide +kernel
theorem zt_n1680 : ((zm_333.drop 1680).take 60).all zk_main = true := by decide +kernel
theorem zt_n1740 : ((zm_333.drop 1740).take 60).all zk_main = true := by decide +kernel
theorem zt_n1800 : ((zm_333.drop 1800).take 60).all zk_main = true := by decide +kernel
