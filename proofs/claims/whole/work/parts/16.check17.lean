/-! what each method needs of the tables is there -/
set_option maxRecDepth 100000 in
set_option maxHeartbeats 4000000 in
theorem k_Model_power : ckM MTX X_Model_power = true := by decide +kernel
set_option maxRecDepth 100000 in
set_option maxHeartbeats 4000000 in
theorem k_Model_vetoes : ckM MTX X_Model_vetoes = true := by decide +kernel
set_option maxRecDepth 100000 in
set_option maxHeartbeats 4000000 in
theorem k_Model_swingsOf : ckM MTX X_Model_swingsOf = true := by decide +kernel
set_option maxRecDepth 100000 in
set_option maxHeartbeats 4000000 in
theorem k_Model_drawn : ckM MTX X_Model_drawn = true := by decide +kernel
set_option maxRecDepth 100000 in
set_option maxHeartbeats 4000000 in
theorem k_Model_draws : ckM MTX X_Model_draws = true := by decide +kernel
set_option maxRecDepth 100000 in
set_option maxHeartbeats 4000000 in
theorem k_Model_below : ckM MTX X_Model_below = true := by decide +kernel
set_option maxRecDepth 100000 in
set_option maxHeartbeats 4000000 in
theorem k_Model_count : ckM MTX X_Model_count = true := by decide +kernel
set_option maxRecDepth 100000 in
set_option maxHeartbeats 4000000 in
theorem k_Model_image : ckM MTX X_Model_image = true := by decide +kernel
set_option maxRecDepth 100000 in
set_option maxHeartbeats 4000000 in
theorem k_Model_again : ckM MTX X_Model_again = true := by decide +kernel
