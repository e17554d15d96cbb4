/-! what each method needs of the tables is there -/
set_option maxRecDepth 100000 in
set_option maxHeartbeats 4000000 in
theorem k_Main_even : ckM MTX X_Main_even = true := by decide +kernel
set_option maxRecDepth 100000 in
set_option maxHeartbeats 4000000 in
theorem k_Sharing_evenShare : ckM MTX X_Sharing_evenShare = true := by decide +kernel
set_option maxRecDepth 100000 in
set_option maxHeartbeats 4000000 in
theorem k_Math_floorMod : ckM MTX X_Math_floorMod = true := by decide +kernel
set_option maxRecDepth 100000 in
set_option maxHeartbeats 4000000 in
theorem k_Math_floorDiv : ckM MTX X_Math_floorDiv = true := by decide +kernel
set_option maxRecDepth 100000 in
set_option maxHeartbeats 4000000 in
theorem k_Main_count : ckM MTX X_Main_count = true := by decide +kernel
set_option maxRecDepth 100000 in
set_option maxHeartbeats 4000000 in
theorem k_Main_image : ckM MTX X_Main_image = true := by decide +kernel
set_option maxRecDepth 100000 in
set_option maxHeartbeats 4000000 in
theorem k_Told_become : ckM MTX X_Told_become = true := by decide +kernel
set_option maxRecDepth 100000 in
set_option maxHeartbeats 4000000 in
theorem k_Main_again : ckM MTX X_Main_again = true := by decide +kernel
set_option maxRecDepth 100000 in
set_option maxHeartbeats 4000000 in
theorem k_Model_init : ckM MTX X_Model_init = true := by decide +kernel
set_option maxRecDepth 100000 in
set_option maxHeartbeats 4000000 in
theorem k_Model_feed : ckM MTX X_Model_feed = true := by decide +kernel
set_option maxRecDepth 100000 in
set_option maxHeartbeats 4000000 in
theorem k_Model_end : ckM MTX X_Model_end = true := by decide +kernel
set_option maxRecDepth 100000 in
set_option maxHeartbeats 4000000 in
theorem k_Model_text : ckM MTX X_Model_text = true := by decide +kernel
set_option maxRecDepth 100000 in
set_option maxHeartbeats 4000000 in
theorem k_Model_isIn : ckM MTX X_Model_isIn = true := by decide +kernel
set_option maxRecDepth 100000 in
set_option maxHeartbeats 4000000 in
theorem k_Model_isOf : ckM MTX X_Model_isOf = true := by decide +kernel
