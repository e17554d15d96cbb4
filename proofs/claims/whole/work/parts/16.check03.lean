/-! what each method needs of the tables is there -/
set_option maxRecDepth 100000 in
set_option maxHeartbeats 4000000 in
theorem k_Season_addDeed : ckM MTX X_Season_addDeed = true := by decide +kernel
set_option maxRecDepth 100000 in
set_option maxHeartbeats 4000000 in
theorem k_Land_addBuyer : ckM MTX X_Land_addBuyer = true := by decide +kernel
set_option maxRecDepth 100000 in
set_option maxHeartbeats 4000000 in
theorem k_Reader_tellLand : ckM MTX X_Reader_tellLand = true := by decide +kernel
set_option maxRecDepth 100000 in
set_option maxHeartbeats 4000000 in
theorem k_Land_layRoad : ckM MTX X_Land_layRoad = true := by decide +kernel
set_option maxRecDepth 100000 in
set_option maxHeartbeats 4000000 in
theorem k_Land_addLetter : ckM MTX X_Land_addLetter = true := by decide +kernel
set_option maxRecDepth 100000 in
set_option maxHeartbeats 4000000 in
theorem k_Reader_keepAs : ckM MTX X_Reader_keepAs = true := by decide +kernel
set_option maxRecDepth 100000 in
set_option maxHeartbeats 4000000 in
theorem k_Land_become : ckM MTX X_Land_become = true := by decide +kernel
set_option maxRecDepth 100000 in
set_option maxHeartbeats 4000000 in
theorem k_Season_become : ckM MTX X_Season_become = true := by decide +kernel
set_option maxRecDepth 100000 in
set_option maxHeartbeats 4000000 in
theorem k_Ledger_become : ckM MTX X_Ledger_become = true := by decide +kernel
set_option maxRecDepth 100000 in
set_option maxHeartbeats 4000000 in
theorem k_Bargain_become : ckM MTX X_Bargain_become = true := by decide +kernel
set_option maxRecDepth 100000 in
set_option maxHeartbeats 4000000 in
theorem k_Main_fault : ckM MTX X_Main_fault = true := by decide +kernel
set_option maxRecDepth 100000 in
set_option maxHeartbeats 4000000 in
theorem k_Main_land : ckM MTX X_Main_land = true := by decide +kernel
set_option maxRecDepth 100000 in
set_option maxHeartbeats 4000000 in
theorem k_Told_landAt : ckM MTX X_Told_landAt = true := by decide +kernel
set_option maxRecDepth 100000 in
set_option maxHeartbeats 4000000 in
theorem k_Told_has : ckM MTX X_Told_has = true := by decide +kernel
set_option maxRecDepth 100000 in
set_option maxHeartbeats 4000000 in
theorem k_Land_toldOf : ckM MTX X_Land_toldOf = true := by decide +kernel
set_option maxRecDepth 100000 in
set_option maxHeartbeats 4000000 in
theorem k_Land_toldOfRoad : ckM MTX X_Land_toldOfRoad = true := by decide +kernel
set_option maxRecDepth 100000 in
set_option maxHeartbeats 4000000 in
theorem k_Land_hasTown : ckM MTX X_Land_hasTown = true := by decide +kernel
set_option maxRecDepth 100000 in
set_option maxHeartbeats 4000000 in
theorem k_Land_roadBetween : ckM MTX X_Land_roadBetween = true := by decide +kernel
set_option maxRecDepth 100000 in
set_option maxHeartbeats 4000000 in
theorem k_Land_toldOfLetter : ckM MTX X_Land_toldOfLetter = true := by decide +kernel
set_option maxRecDepth 100000 in
set_option maxHeartbeats 4000000 in
theorem k_Land_hasLetter : ckM MTX X_Land_hasLetter = true := by decide +kernel
set_option maxRecDepth 100000 in
set_option maxHeartbeats 4000000 in
theorem k_Land_toldOfBuyer : ckM MTX X_Land_toldOfBuyer = true := by decide +kernel
set_option maxRecDepth 100000 in
set_option maxHeartbeats 4000000 in
theorem k_Land_hasBuyer : ckM MTX X_Land_hasBuyer = true := by decide +kernel
set_option maxRecDepth 100000 in
set_option maxHeartbeats 4000000 in
theorem k_Main_deed : ckM MTX X_Main_deed = true := by decide +kernel
