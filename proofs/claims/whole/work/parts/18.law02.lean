/-! the law: what its blocks need is there -/
set_option maxRecDepth 100000 in
set_option maxHeartbeats 4000000 in
theorem kl_4 : BL4.all ckLaw = true := by decide +kernel
set_option maxRecDepth 100000 in
set_option maxHeartbeats 4000000 in
theorem kl_5 : BL5.all ckLaw = true := by decide +kernel
set_option maxRecDepth 100000 in
set_option maxHeartbeats 4000000 in
theorem kl_6 : BL6.all ckLaw = true := by decide +kernel
set_option maxRecDepth 100000 in
set_option maxHeartbeats 4000000 in
theorem kl_7 : BL7.all ckLaw = true := by decide +kernel
