/-! THE LAW'S MAIN, checked: c (slow: the kernel decodes the code) -/
theorem zt_n1020 : ((zm_333.drop 1020).take 60).all zk_main = true := by decide +kernel
theorem zt_n1080 : ((zm_333.drop 1080).take 60).all zk_main = true := by decide +kernel
theorem zt_n1140 : ((zm_333.drop 1140).take 60).all zk_main = true := by decide +kernel
theorem zt_n1200 : ((zm_333.drop 1200).take 60).all zk_main = true := by decide +kernel
theorem zt_n1260 : ((zm_333.drop 1260).take 60).all zk_main = true := by decide +kernel
theorem zt_n1320 : ((zm_333.drop 1320).take 60).all zk_main = true := by decide +kernel
theorem zt_n1380 : ((zm_333.drop 1380).take 60).all zk_main = true := by decide +kernel
