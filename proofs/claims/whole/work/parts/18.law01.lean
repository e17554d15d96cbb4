/-! the law: what its blocks need is there -/
set_option maxRecDepth 100000 in
set_option maxHeartbeats 4000000 in
theorem kl_0 : BL0.all ckLaw = true := by decide +kernel
set_option maxRecDepth 100000 in
set_option maxHeartbeats 4000000 in
theorem kl_1 : BL1.all ckLaw = true := by decide +kernel
set_option maxRecDepth 100000 in
set_option maxHeartbeats 4000000 in
theorem kl_2 : BL2.all ckLaw = true := by decide +kernel
set_option maxRecDepth 100000 in
set_option maxHeartbeats 4000000 in
theorem kl_3 : BL3.all ckLaw = true := by decide +kernel
