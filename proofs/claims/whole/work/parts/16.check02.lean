/-! what each method needs of the tables is there -/
set_option maxRecDepth 100000 in
set_option maxHeartbeats 4000000 in
theorem k_Reader_goOn : ckM MTX X_Reader_goOn = true := by decide +kernel
set_option maxRecDepth 100000 in
set_option maxHeartbeats 4000000 in
theorem k_Reader_byteAt : ckM MTX X_Reader_byteAt = true := by decide +kernel
set_option maxRecDepth 100000 in
set_option maxHeartbeats 4000000 in
theorem k_Reader_isLetter : ckM MTX X_Reader_isLetter = true := by decide +kernel
set_option maxRecDepth 100000 in
set_option maxHeartbeats 4000000 in
theorem k_Reader_isDigit : ckM MTX X_Reader_isDigit = true := by decide +kernel
set_option maxRecDepth 100000 in
set_option maxHeartbeats 4000000 in
theorem k_Reader_readLine : ckM MTX X_Reader_readLine = true := by decide +kernel
set_option maxRecDepth 100000 in
set_option maxHeartbeats 4000000 in
theorem k_Reader_wordRead : ckM MTX X_Reader_wordRead = true := by decide +kernel
set_option maxRecDepth 100000 in
set_option maxHeartbeats 4000000 in
theorem k_Reader_wordOf : ckM MTX X_Reader_wordOf = true := by decide +kernel
set_option maxRecDepth 100000 in
set_option maxHeartbeats 4000000 in
theorem k_Reader_isOnTape : ckM MTX X_Reader_isOnTape = true := by decide +kernel
set_option maxRecDepth 100000 in
set_option maxHeartbeats 4000000 in
theorem k_String_length : ckM MTX X_String_length = true := by decide +kernel
set_option maxRecDepth 100000 in
set_option maxHeartbeats 4000000 in
theorem k_String_coder : ckM MTX X_String_coder = true := by decide +kernel
set_option maxRecDepth 100000 in
set_option maxHeartbeats 4000000 in
theorem k_String_charAt : ckM MTX X_String_charAt = true := by decide +kernel
set_option maxRecDepth 100000 in
set_option maxHeartbeats 4000000 in
theorem k_String_isLatin1 : ckM MTX X_String_isLatin1 = true := by decide +kernel
set_option maxRecDepth 100000 in
set_option maxHeartbeats 4000000 in
theorem k_StringLatin1_charAt : ckM MTX X_StringLatin1_charAt = true := by decide +kernel
set_option maxRecDepth 100000 in
set_option maxHeartbeats 4000000 in
theorem k_String_checkIndex : ckM MTX X_String_checkIndex = true := by decide +kernel
set_option maxRecDepth 100000 in
set_option maxHeartbeats 4000000 in
theorem k_Preconditions_checkIndex : ckM MTX X_Preconditions_checkIndex = true := by decide +kernel
set_option maxRecDepth 100000 in
set_option maxHeartbeats 4000000 in
theorem k_Reader_refuse : ckM MTX X_Reader_refuse = true := by decide +kernel
set_option maxRecDepth 100000 in
set_option maxHeartbeats 4000000 in
theorem k_Reader_isOneTooMany : ckM MTX X_Reader_isOneTooMany = true := by decide +kernel
set_option maxRecDepth 100000 in
set_option maxHeartbeats 4000000 in
theorem k_Reader_note : ckM MTX X_Reader_note = true := by decide +kernel
set_option maxRecDepth 100000 in
set_option maxHeartbeats 4000000 in
theorem k_Reader_takeNumber : ckM MTX X_Reader_takeNumber = true := by decide +kernel
set_option maxRecDepth 100000 in
set_option maxHeartbeats 4000000 in
theorem k_Reader_tell : ckM MTX X_Reader_tell = true := by decide +kernel
set_option maxRecDepth 100000 in
set_option maxHeartbeats 4000000 in
theorem k_Reader_tellBargain : ckM MTX X_Reader_tellBargain = true := by decide +kernel
set_option maxRecDepth 100000 in
set_option maxHeartbeats 4000000 in
theorem k_Bargain_setWorth : ckM MTX X_Bargain_setWorth = true := by decide +kernel
set_option maxRecDepth 100000 in
set_option maxHeartbeats 4000000 in
theorem k_Ledger_addEntry : ckM MTX X_Ledger_addEntry = true := by decide +kernel
