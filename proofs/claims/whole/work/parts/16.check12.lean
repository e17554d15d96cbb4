/-! what each method needs of the tables is there -/
set_option maxRecDepth 100000 in
set_option maxHeartbeats 4000000 in
theorem k_Model_road : ckM MTX X_Model_road = true := by decide +kernel
set_option maxRecDepth 100000 in
set_option maxHeartbeats 4000000 in
theorem k_Model_takes : ckM MTX X_Model_takes = true := by decide +kernel
set_option maxRecDepth 100000 in
set_option maxHeartbeats 4000000 in
theorem k_Model_asTold : ckM MTX X_Model_asTold = true := by decide +kernel
set_option maxRecDepth 100000 in
set_option maxHeartbeats 4000000 in
theorem k_Model_wants : ckM MTX X_Model_wants = true := by decide +kernel
set_option maxRecDepth 100000 in
set_option maxHeartbeats 4000000 in
theorem k_Model_deed : ckM MTX X_Model_deed = true := by decide +kernel
set_option maxRecDepth 100000 in
set_option maxHeartbeats 4000000 in
theorem k_Model_isSeason : ckM MTX X_Model_isSeason = true := by decide +kernel
set_option maxRecDepth 100000 in
set_option maxHeartbeats 4000000 in
theorem k_Model_stop : ckM MTX X_Model_stop = true := by decide +kernel
set_option maxRecDepth 100000 in
set_option maxHeartbeats 4000000 in
theorem k_Model_runs : ckM MTX X_Model_runs = true := by decide +kernel
set_option maxRecDepth 100000 in
set_option maxHeartbeats 4000000 in
theorem k_Model_begins : ckM MTX X_Model_begins = true := by decide +kernel
set_option maxRecDepth 100000 in
set_option maxHeartbeats 4000000 in
theorem k_Model_does : ckM MTX X_Model_does = true := by decide +kernel
set_option maxRecDepth 100000 in
set_option maxHeartbeats 4000000 in
theorem k_Model_sells : ckM MTX X_Model_sells = true := by decide +kernel
set_option maxRecDepth 100000 in
set_option maxHeartbeats 4000000 in
theorem k_Model_isShut : ckM MTX X_Model_isShut = true := by decide +kernel
set_option maxRecDepth 100000 in
set_option maxHeartbeats 4000000 in
theorem k_Model_atMost : ckM MTX X_Model_atMost = true := by decide +kernel
set_option maxRecDepth 100000 in
set_option maxHeartbeats 4000000 in
theorem k_Model_goesTo : ckM MTX X_Model_goesTo = true := by decide +kernel
set_option maxRecDepth 100000 in
set_option maxHeartbeats 4000000 in
theorem k_Model_jubilee : ckM MTX X_Model_jubilee = true := by decide +kernel
set_option maxRecDepth 100000 in
set_option maxHeartbeats 4000000 in
theorem k_Model_state : ckM MTX X_Model_state = true := by decide +kernel
