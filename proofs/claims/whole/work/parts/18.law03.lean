/-! the law: what its blocks need is there -/
set_option maxRecDepth 100000 in
set_option maxHeartbeats 4000000 in
theorem kl_8 : BL8.all ckLaw = true := by decide +kernel
set_option maxRecDepth 100000 in
set_option maxHeartbeats 4000000 in
theorem kl_9 : BL9.all ckLaw = true := by decide +kernel
set_option maxRecDepth 100000 in
set_option maxHeartbeats 4000000 in
theorem kl_10 : BL10.all ckLaw = true := by decide +kernel
set_option maxRecDepth 100000 in
set_option maxHeartbeats 4000000 in
theorem kl_11 : BL11.all ckLaw = true := by decide +kernel
