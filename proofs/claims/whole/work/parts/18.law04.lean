/-! the law: what its blocks need is there -/
set_option maxRecDepth 100000 in
set_option maxHeartbeats 4000000 in
theorem kl_12 : BL12.all ckLaw = true := by decide +kernel
set_option maxRecDepth 100000 in
set_option maxHeartbeats 4000000 in
theorem kl_13 : BL13.all ckLaw = true := by decide +kernel
theorem BL_ok : BL.all (fun b => ckB MTX "YearsForCoinLaw" false code (some .boolean) b.1 b.2) = true := by
  show BL.all ckLaw = true
  unfold BL
  simp only [List.all_append, Bool.and_eq_true]
  exact ⟨kl_0, kl_1, kl_2, kl_3, kl_4, kl_5, kl_6, kl_7, kl_8, kl_9, kl_10, kl_11, kl_12, kl_13⟩
