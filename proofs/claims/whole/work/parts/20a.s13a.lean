/-! THE LAW'S MAIN, checked: a (slow: the kernel decodes the code) -/
abbrev zk_main : zE → Bool := zk_e "BathBoatsLaw" code 10 ret [] 2
theorem zt_n0 : ((zm_333.drop 0).take 60).all zk_main = true := by decide +kernel
theorem zt_n60 : ((zm_333.drop 60).take 60).all zk_main = true := by decide +kernel
theorem zt_n120 : ((zm_333.drop 120).take 60).all zk_main = true := by decide +kernel
theorem zt_n180 : ((zm_333.drop 180).take 60).all zk_main = true := by decide +kernel
theorem zt_n240 : ((zm_333.drop 240).take 60).all zk_main = true := by decide +kernel
theorem zt_n300 : ((zm_333.drop 300).take 60).all zk_main = true := by decide +kernel
theorem zt_n360 : ((zm_333.drop 360).take 60).all zk_main = true := by decide +kernel
theorem zt_n420 : ((zm_333.drop 420).take 60).all zk_main = true := by decide +kernel
theorem zt_n480 : ((zm_333.drop 480).take 60).all zk_main = true := by decide +kernel
