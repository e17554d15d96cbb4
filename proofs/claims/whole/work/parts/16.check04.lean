/-! what each method needs of the tables is there -/
set_option maxRecDepth 100000 in
set_option maxHeartbeats 4000000 in
theorem k_Told_seasonAt : ckM MTX X_Told_seasonAt = true := by decide +kernel
set_option maxRecDepth 100000 in
set_option maxHeartbeats 4000000 in
theorem k_Season_hasDeed : ckM MTX X_Season_hasDeed = true := by decide +kernel
set_option maxRecDepth 100000 in
set_option maxHeartbeats 4000000 in
theorem k_Season_toldOf : ckM MTX X_Season_toldOf = true := by decide +kernel
set_option maxRecDepth 100000 in
set_option maxHeartbeats 4000000 in
theorem k_Main_stop : ckM MTX X_Main_stop = true := by decide +kernel
set_option maxRecDepth 100000 in
set_option maxHeartbeats 4000000 in
theorem k_Walk_run : ckM MTX X_Walk_run = true := by decide +kernel
set_option maxRecDepth 100000 in
set_option maxHeartbeats 4000000 in
theorem k_Walk_begin : ckM MTX X_Walk_begin = true := by decide +kernel
set_option maxRecDepth 100000 in
set_option maxHeartbeats 4000000 in
theorem k_Walk_done : ckM MTX X_Walk_done = true := by decide +kernel
set_option maxRecDepth 100000 in
set_option maxHeartbeats 4000000 in
theorem k_Walk_act : ckM MTX X_Walk_act = true := by decide +kernel
set_option maxRecDepth 100000 in
set_option maxHeartbeats 4000000 in
theorem k_Walk_sell : ckM MTX X_Walk_sell = true := by decide +kernel
set_option maxRecDepth 100000 in
set_option maxHeartbeats 4000000 in
theorem k_Walk_isShut : ckM MTX X_Walk_isShut = true := by decide +kernel
set_option maxRecDepth 100000 in
set_option maxHeartbeats 4000000 in
theorem k_Land_isWorthIt : ckM MTX X_Land_isWorthIt = true := by decide +kernel
set_option maxRecDepth 100000 in
set_option maxHeartbeats 4000000 in
theorem k_Walk_sin : ckM MTX X_Walk_sin = true := by decide +kernel
set_option maxRecDepth 100000 in
set_option maxHeartbeats 4000000 in
theorem k_Walk_go : ckM MTX X_Walk_go = true := by decide +kernel
set_option maxRecDepth 100000 in
set_option maxHeartbeats 4000000 in
theorem k_Walk_turn : ckM MTX X_Walk_turn = true := by decide +kernel
set_option maxRecDepth 100000 in
set_option maxHeartbeats 4000000 in
theorem k_Walk_doubt : ckM MTX X_Walk_doubt = true := by decide +kernel
set_option maxRecDepth 100000 in
set_option maxHeartbeats 4000000 in
theorem k_Walk_jubilee : ckM MTX X_Walk_jubilee = true := by decide +kernel
set_option maxRecDepth 100000 in
set_option maxHeartbeats 4000000 in
theorem k_Main_state : ckM MTX X_Main_state = true := by decide +kernel
set_option maxRecDepth 100000 in
set_option maxHeartbeats 4000000 in
theorem k_Walk_show : ckM MTX X_Walk_show = true := by decide +kernel
set_option maxRecDepth 100000 in
set_option maxHeartbeats 4000000 in
theorem k_Walk_showBuyer : ckM MTX X_Walk_showBuyer = true := by decide +kernel
set_option maxRecDepth 100000 in
set_option maxHeartbeats 4000000 in
theorem k_Main_takes : ckM MTX X_Main_takes = true := by decide +kernel
set_option maxRecDepth 100000 in
set_option maxHeartbeats 4000000 in
theorem k_Main_isOffer : ckM MTX X_Main_isOffer = true := by decide +kernel
