/-! the methods of the small machine, by program (wip/whole/tab.py, gentab2.py) out of the class files: blocks by their first place -/
def B_Main_init : MB := [(0, [(.aload_n 0, 1, 0, 0, 0, 0), (.invokespecial 1, 3, 0, 5, 0, 1027), (.aload_n 0, 1, 0, 0, 0, 0), (.new 7, 3, 9, 0, 8, 1030), (.dup, 1, 0, 0, 0, 0), (.invokespecial 9, 3, 1, 0, 0, 1032)]),
  (12, [(.putfield 10, 3, 0, 1, 11, 2180), (.aload_n 0, 1, 0, 0, 0, 0), (.iconst 3, 1, 0, 0, 0, 0), (.anewarray 7, 3, 0, 3, 0, 1030), (.putfield 16, 3, 1, 1, 11, 2181), (.aload_n 0, 1, 0, 0, 0, 0), (.new 20, 3, 13, 0, 5, 1216), (.dup, 1, 0, 0, 0, 0), (.aload_n 0, 1, 0, 0, 0, 0), (.getfield 10, 3, 0, 1, 11, 2180), (.invokespecial 22, 3, 6, 0, 1, 1218)]),
  (35, [(.putfield 25, 3, 2, 1, 11, 2182), (.aload_n 0, 1, 0, 0, 0, 0), (.new 29, 3, 12, 0, 9, 2032), (.dup, 1, 0, 0, 0, 0), (.invokespecial 31, 3, 7, 6, 0, 2034)]),
  (46, [(.putfield 32, 3, 3, 1, 11, 2183), (.aload_n 0, 1, 0, 0, 0, 0), (.new 36, 3, 8, 0, 10, 2075), (.dup, 1, 0, 0, 0, 0), (.invokespecial 38, 3, 8, 6, 0, 2077)]),
  (57, [(.putfield 39, 3, 4, 1, 11, 2184), (.aload_n 0, 1, 0, 0, 0, 0), (.new 43, 3, 4, 0, 4, 2107), (.dup, 1, 0, 0, 0, 0), (.invokespecial 45, 3, 9, 6, 0, 2109)]),
  (68, [(.putfield 46, 3, 5, 1, 11, 2185), (.aload_n 0, 1, 0, 0, 0, 0), (.new 50, 3, 4, 0, 7, 2129), (.dup, 1, 0, 0, 0, 0), (.invokespecial 52, 3, 10, 6, 0, 2131)]),
  (79, [(.putfield 53, 3, 6, 1, 11, 2186), (.aload_n 0, 1, 0, 0, 0, 0), (.new 57, 3, 1, 0, 3, 2150), (.dup, 1, 0, 0, 0, 0), (.invokespecial 59, 3, 11, 0, 0, 2152)]),
  (90, [(.putfield 60, 3, 7, 1, 11, 2187), (.return_, 1, 0, 0, 0, 0)])]
def X_Main_init : MX := (⟨"YearsForCoin", "<init>", "()V"⟩, prog_1_method_1_code, 1, none, 0, (1026, 1001, 1025, 0), B_Main_init)
def B_Told_init : MB := [(0, [(.aload_n 0, 1, 0, 0, 0, 0), (.invokespecial 3, 3, 0, 5, 0, 1035), (.aload_n 0, 1, 0, 0, 0, 0), (.sipush 600, 3, 0, 0, 0, 0), (.newarray .byte, 2, 0, 1, 0, 0), (.putfield 9, 3, 0, 1, 8, 1177), (.aload_n 0, 1, 0, 0, 0, 0), (.iconst (-1), 1, 0, 0, 0, 0), (.putfield 15, 3, 3, 0, 8, 1184), (.aload_n 0, 1, 0, 0, 0, 0), (.iconst 4, 1, 0, 0, 0, 0), (.newarray .int, 2, 0, 0, 0, 0), (.putfield 19, 3, 4, 1, 8, 1186), (.aload_n 0, 1, 0, 0, 0, 0), (.iconst 2, 1, 0, 0, 0, 0), (.anewarray 23, 3, 0, 4, 0, 1036), (.putfield 25, 3, 5, 1, 8, 1188), (.aload_n 0, 1, 0, 0, 0, 0), (.iconst 2, 1, 0, 0, 0, 0), (.anewarray 29, 3, 0, 5, 0, 1038), (.putfield 31, 3, 6, 1, 8, 1190), (.aload_n 0, 1, 0, 0, 0, 0), (.iconst 2, 1, 0, 0, 0, 0), (.anewarray 35, 3, 0, 6, 0, 1040), (.putfield 37, 3, 7, 1, 8, 1192), (.aload_n 0, 1, 0, 0, 0, 0), (.iconst 2, 1, 0, 0, 0, 0), (.anewarray 41, 3, 0, 7, 0, 1042), (.putfield 43, 3, 8, 1, 8, 1194), (.iconst 0, 1, 0, 0, 0, 0), (.istore_n 1, 1, 0, 0, 0, 0)]),
  (59, [(.iload_n 1, 1, 0, 0, 0, 0), (.iconst 2, 1, 0, 0, 0, 0), (.if_icmp .ge 61, 3, 122, 0, 0, 0)]),
  (64, [(.aload_n 0, 1, 0, 0, 0, 0), (.getfield 25, 3, 5, 1, 8, 1188), (.iload_n 1, 1, 0, 0, 0, 0), (.new 23, 3, 14, 0, 1, 1036), (.dup, 1, 0, 0, 0, 0), (.invokespecial 47, 3, 2, 6, 0, 1045)]),
  (76, [(.aastore, 1, 0, 4, 1, 0), (.aload_n 0, 1, 0, 0, 0, 0), (.getfield 31, 3, 6, 1, 8, 1190), (.iload_n 1, 1, 0, 0, 0, 0), (.new 29, 3, 4, 0, 6, 1038), (.dup, 1, 0, 0, 0, 0), (.invokespecial 48, 3, 3, 6, 0, 1122)]),
  (89, [(.aastore, 1, 0, 5, 6, 0), (.aload_n 0, 1, 0, 0, 0, 0), (.getfield 37, 3, 7, 1, 8, 1192), (.iload_n 1, 1, 0, 0, 0, 0), (.new 35, 3, 3, 0, 2, 1040), (.dup, 1, 0, 0, 0, 0), (.invokespecial 49, 3, 4, 6, 0, 1146)]),
  (102, [(.aastore, 1, 0, 6, 2, 0), (.aload_n 0, 1, 0, 0, 0, 0), (.getfield 43, 3, 8, 1, 8, 1194), (.iload_n 1, 1, 0, 0, 0, 0), (.new 41, 3, 2, 0, 0, 1042), (.dup, 1, 0, 0, 0, 0), (.invokespecial 50, 3, 5, 6, 0, 1163)]),
  (115, [(.aastore, 1, 0, 7, 0, 0), (.iinc 1 1, 3, 0, 0, 0, 0), (.goto (-60), 3, 59, 0, 0, 0)]),
  (122, [(.return_, 1, 0, 0, 0, 0)])]
def X_Told_init : MX := (⟨"YearsForCoin$Told", "<init>", "()V"⟩, prog_10_method_1_code, 2, none, 0, (1034, 1002, 1033, 0), B_Told_init)
def B_Land_init : MB := [(0, [(.aload_n 0, 1, 0, 0, 0, 0), (.invokespecial 3, 3, 0, 5, 0, 1048), (.aload_n 0, 1, 0, 0, 0, 0), (.iconst 3, 1, 0, 0, 0, 0), (.putfield 9, 3, 0, 0, 1, 1049), (.aload_n 0, 1, 0, 0, 0, 0), (.bipush 8, 2, 0, 0, 0, 0), (.newarray .int, 2, 0, 0, 0, 0), (.putfield 15, 3, 6, 1, 1, 1071), (.aload_n 0, 1, 0, 0, 0, 0), (.bipush 8, 2, 0, 0, 0, 0), (.newarray .int, 2, 0, 0, 0, 0), (.putfield 19, 3, 7, 1, 1, 1073), (.aload_n 0, 1, 0, 0, 0, 0), (.bipush 8, 2, 0, 0, 0, 0), (.newarray .int, 2, 0, 0, 0, 0), (.putfield 22, 3, 8, 1, 1, 1075), (.aload_n 0, 1, 0, 0, 0, 0), (.bipush 8, 2, 0, 0, 0, 0), (.newarray .int, 2, 0, 0, 0, 0), (.putfield 25, 3, 9, 1, 1, 1078), (.aload_n 0, 1, 0, 0, 0, 0), (.bipush 8, 2, 0, 0, 0, 0), (.newarray .int, 2, 0, 0, 0, 0), (.putfield 28, 3, 10, 1, 1, 1081), (.aload_n 0, 1, 0, 0, 0, 0), (.iconst 4, 1, 0, 0, 0, 0), (.newarray .int, 2, 0, 0, 0, 0), (.putfield 31, 3, 11, 1, 1, 1083), (.aload_n 0, 1, 0, 0, 0, 0), (.iconst 4, 1, 0, 0, 0, 0), (.newarray .int, 2, 0, 0, 0, 0), (.putfield 34, 3, 12, 1, 1, 1086), (.aload_n 0, 1, 0, 0, 0, 0), (.bipush 36, 2, 0, 0, 0, 0), (.newarray .int, 2, 0, 0, 0, 0), (.putfield 37, 3, 13, 1, 1, 1089), (.return_, 1, 0, 0, 0, 0)])]
def X_Land_init : MX := (⟨"YearsForCoin$Land", "<init>", "()V"⟩, prog_3_method_1_code, 1, none, 0, (1047, 1003, 1046, 0), B_Land_init)
def B_Season_init : MB := [(0, [(.aload_n 0, 1, 0, 0, 0, 0), (.invokespecial 3, 3, 0, 5, 0, 1125), (.aload_n 0, 1, 0, 0, 0, 0), (.bipush 40, 2, 0, 0, 0, 0), (.newarray .int, 2, 0, 0, 0, 0), (.putfield 9, 3, 1, 1, 6, 1130), (.aload_n 0, 1, 0, 0, 0, 0), (.bipush 40, 2, 0, 0, 0, 0), (.newarray .int, 2, 0, 0, 0, 0), (.putfield 15, 3, 2, 1, 6, 1132), (.aload_n 0, 1, 0, 0, 0, 0), (.bipush 40, 2, 0, 0, 0, 0), (.newarray .int, 2, 0, 0, 0, 0), (.putfield 18, 3, 3, 1, 6, 1134), (.return_, 1, 0, 0, 0, 0)])]
def X_Season_init : MX := (⟨"YearsForCoin$Season", "<init>", "()V"⟩, prog_8_method_1_code, 1, none, 0, (1124, 1004, 1123, 0), B_Season_init)
def B_Ledger_init : MB := [(0, [(.aload_n 0, 1, 0, 0, 0, 0), (.invokespecial 3, 3, 0, 5, 0, 1149), (.aload_n 0, 1, 0, 0, 0, 0), (.bipush 20, 2, 0, 0, 0, 0), (.newarray .int, 2, 0, 0, 0, 0), (.putfield 9, 3, 1, 1, 2, 1153), (.aload_n 0, 1, 0, 0, 0, 0), (.bipush 20, 2, 0, 0, 0, 0), (.newarray .int, 2, 0, 0, 0, 0), (.putfield 15, 3, 2, 1, 2, 1154), (.return_, 1, 0, 0, 0, 0)])]
def X_Ledger_init : MX := (⟨"YearsForCoin$Ledger", "<init>", "()V"⟩, prog_4_method_1_code, 1, none, 0, (1148, 1005, 1147, 0), B_Ledger_init)
def B_Bargain_init : MB := [(0, [(.aload_n 0, 1, 0, 0, 0, 0), (.invokespecial 3, 3, 0, 5, 0, 1166), (.aload_n 0, 1, 0, 0, 0, 0), (.iconst 2, 1, 0, 0, 0, 0), (.putfield 9, 3, 0, 0, 0, 1167), (.aload_n 0, 1, 0, 0, 0, 0), (.bipush 16, 2, 0, 0, 0, 0), (.newarray .int, 2, 0, 0, 0, 0), (.putfield 15, 3, 1, 1, 0, 1171), (.return_, 1, 0, 0, 0, 0)])]
def X_Bargain_init : MX := (⟨"YearsForCoin$Bargain", "<init>", "()V"⟩, prog_2_method_1_code, 1, none, 0, (1165, 1006, 1164, 0), B_Bargain_init)
def B_Reader_init : MB := [(0, [(.aload_n 0, 1, 0, 0, 0, 0), (.invokespecial 3, 3, 0, 5, 0, 1221), (.aload_n 0, 1, 0, 0, 0, 0), (.new 9, 3, 14, 0, 1, 1222), (.dup, 1, 0, 0, 0, 0), (.invokespecial 11, 3, 2, 6, 0, 1223)]),
  (12, [(.putfield 12, 3, 1, 1, 5, 1231), (.aload_n 0, 1, 0, 0, 0, 0), (.new 18, 3, 4, 0, 6, 1224), (.dup, 1, 0, 0, 0, 0), (.invokespecial 20, 3, 3, 6, 0, 1225)]),
  (23, [(.putfield 21, 3, 2, 1, 5, 1232), (.aload_n 0, 1, 0, 0, 0, 0), (.new 25, 3, 3, 0, 2, 1226), (.dup, 1, 0, 0, 0, 0), (.invokespecial 27, 3, 4, 6, 0, 1227)]),
  (34, [(.putfield 28, 3, 3, 1, 5, 1233), (.aload_n 0, 1, 0, 0, 0, 0), (.new 32, 3, 2, 0, 0, 1228), (.dup, 1, 0, 0, 0, 0), (.invokespecial 34, 3, 5, 6, 0, 1229)]),
  (45, [(.putfield 35, 3, 4, 1, 5, 1234), (.aload_n 0, 1, 0, 0, 0, 0), (.iconst 4, 1, 0, 0, 0, 0), (.newarray .int, 2, 0, 0, 0, 0), (.putfield 39, 3, 5, 1, 5, 1235), (.aload_n 0, 1, 0, 0, 0, 0), (.aload_n 1, 1, 0, 0, 0, 0), (.putfield 43, 3, 0, 1, 5, 1230), (.return_, 1, 0, 0, 0, 0)])]
def X_Reader_init : MX := (⟨"YearsForCoin$Reader", "<init>", "(LYearsForCoin$Told;)V"⟩, prog_7_method_1_code, 2, none, 1, (1220, 1007, 1219, 0), B_Reader_init)
def B_Walk_init : MB := [(0, [(.aload_n 0, 1, 0, 0, 0, 0), (.invokespecial 3, 3, 0, 5, 0, 2037), (.aload_n 0, 1, 0, 0, 0, 0), (.bipush 8, 2, 0, 0, 0, 0), (.newarray .int, 2, 0, 0, 0, 0), (.putfield 9, 3, 8, 1, 9, 2046), (.aload_n 0, 1, 0, 0, 0, 0), (.bipush 8, 2, 0, 0, 0, 0), (.newarray .int, 2, 0, 0, 0, 0), (.putfield 15, 3, 9, 1, 9, 2047), (.aload_n 0, 1, 0, 0, 0, 0), (.bipush 8, 2, 0, 0, 0, 0), (.newarray .int, 2, 0, 0, 0, 0), (.putfield 18, 3, 10, 1, 9, 2048), (.aload_n 0, 1, 0, 0, 0, 0), (.bipush 8, 2, 0, 0, 0, 0), (.newarray .int, 2, 0, 0, 0, 0), (.putfield 21, 3, 11, 1, 9, 2049), (.return_, 1, 0, 0, 0, 0)])]
def X_Walk_init : MX := (⟨"YearsForCoin$Walk", "<init>", "()V"⟩, prog_11_method_1_code, 1, none, 0, (2036, 1008, 2035, 0), B_Walk_init)
def B_Ways_init : MB := [(0, [(.aload_n 0, 1, 0, 0, 0, 0), (.invokespecial 3, 3, 0, 5, 0, 2080), (.aload_n 0, 1, 0, 0, 0, 0), (.bipush 36, 2, 0, 0, 0, 0), (.newarray .int, 2, 0, 0, 0, 0), (.putfield 9, 3, 1, 1, 10, 2082), (.aload_n 0, 1, 0, 0, 0, 0), (.bipush 6, 2, 0, 0, 0, 0), (.newarray .int, 2, 0, 0, 0, 0), (.putfield 15, 3, 2, 1, 10, 2083), (.aload_n 0, 1, 0, 0, 0, 0), (.bipush 6, 2, 0, 0, 0, 0), (.newarray .int, 2, 0, 0, 0, 0), (.putfield 18, 3, 3, 1, 10, 2084), (.aload_n 0, 1, 0, 0, 0, 0), (.bipush 6, 2, 0, 0, 0, 0), (.newarray .int, 2, 0, 0, 0, 0), (.putfield 21, 3, 4, 1, 10, 2085), (.return_, 1, 0, 0, 0, 0)])]
def X_Ways_init : MX := (⟨"YearsForCoin$Ways", "<init>", "()V"⟩, prog_12_method_1_code, 1, none, 0, (2079, 1009, 2078, 0), B_Ways_init)
def B_Purse_init : MB := [(0, [(.aload_n 0, 1, 0, 0, 0, 0), (.invokespecial 3, 3, 0, 5, 0, 2112), (.aload_n 0, 1, 0, 0, 0, 0), (.iconst 4, 1, 0, 0, 0, 0), (.newarray .int, 2, 0, 0, 0, 0), (.putfield 9, 3, 0, 1, 4, 2113), (.aload_n 0, 1, 0, 0, 0, 0), (.iconst 4, 1, 0, 0, 0, 0), (.newarray .int, 2, 0, 0, 0, 0), (.putfield 15, 3, 1, 1, 4, 2114), (.return_, 1, 0, 0, 0, 0)])]
def X_Purse_init : MX := (⟨"YearsForCoin$Purse", "<init>", "()V"⟩, prog_6_method_1_code, 1, none, 0, (2111, 1010, 2110, 0), B_Purse_init)
def B_Sharing_init : MB := [(0, [(.aload_n 0, 1, 0, 0, 0, 0), (.invokespecial 3, 3, 0, 5, 0, 2134), (.aload_n 0, 1, 0, 0, 0, 0), (.iconst 4, 1, 0, 0, 0, 0), (.newarray .int, 2, 0, 0, 0, 0), (.putfield 9, 3, 1, 1, 7, 2137), (.aload_n 0, 1, 0, 0, 0, 0), (.iconst 4, 1, 0, 0, 0, 0), (.newarray .int, 2, 0, 0, 0, 0), (.putfield 15, 3, 2, 1, 7, 2138), (.aload_n 0, 1, 0, 0, 0, 0), (.bipush 16, 2, 0, 0, 0, 0), (.newarray .int, 2, 0, 0, 0, 0), (.putfield 18, 3, 3, 1, 7, 2140), (.return_, 1, 0, 0, 0, 0)])]
def X_Sharing_init : MX := (⟨"YearsForCoin$Sharing", "<init>", "()V"⟩, prog_9_method_1_code, 1, none, 0, (2133, 1011, 2132, 0), B_Sharing_init)
def B_Months_init : MB := [(0, [(.aload_n 0, 1, 0, 0, 0, 0), (.invokespecial 3, 3, 0, 5, 0, 2155), (.aload_n 0, 1, 0, 0, 0, 0), (.sipush 210, 3, 0, 0, 0, 0), (.newarray .int, 2, 0, 0, 0, 0), (.putfield 9, 3, 0, 1, 3, 2176), (.iconst 1, 1, 0, 0, 0, 0), (.istore_n 1, 1, 0, 0, 0, 0)]),
  (15, [(.iload_n 1, 1, 0, 0, 0, 0), (.bipush 20, 2, 0, 0, 0, 0), (.if_icmp .gt 65, 3, 83, 0, 0, 0)]),
  (21, [(.iconst 0, 1, 0, 0, 0, 0), (.istore_n 2, 1, 0, 0, 0, 0)]),
  (23, [(.iload_n 2, 1, 0, 0, 0, 0), (.bipush 9, 2, 0, 0, 0, 0), (.if_icmp .gt 51, 3, 77, 0, 0, 0)]),
  (29, [(.iconst 0, 1, 0, 0, 0, 0), (.istore_n 3, 1, 0, 0, 0, 0), (.iconst 0, 1, 0, 0, 0, 0), (.istore 4, 2, 0, 0, 0, 0)]),
  (34, [(.iload 4, 2, 0, 0, 0, 0), (.iconst 2, 1, 0, 0, 0, 0), (.if_icmp .gt 22, 3, 59, 0, 0, 0)]),
  (40, [(.iload_n 3, 1, 0, 0, 0, 0), (.aload_n 0, 1, 0, 0, 0, 0), (.iload 4, 2, 0, 0, 0, 0), (.iload_n 1, 1, 0, 0, 0, 0), (.iload_n 2, 1, 0, 0, 0, 0), (.invokevirtual 15, 3, 12, 3, 3, 2156)]),
  (49, [(.invokestatic 19, 3, 0, 1, 0, 2163), (.istore_n 3, 1, 0, 0, 0, 0), (.iinc 4 1, 3, 0, 0, 0, 0), (.goto (-22), 3, 34, 0, 0, 0)]),
  (59, [(.aload_n 0, 1, 0, 0, 0, 0), (.getfield 9, 3, 0, 1, 3, 2176), (.iload_n 1, 1, 0, 0, 0, 0), (.bipush 10, 2, 0, 0, 0, 0), (.imul, 1, 0, 0, 0, 0), (.iload_n 2, 1, 0, 0, 0, 0), (.iadd, 1, 0, 0, 0, 0), (.iload_n 3, 1, 0, 0, 0, 0), (.iastore, 1, 0, 0, 0, 0), (.iinc 2 1, 3, 0, 0, 0, 0), (.goto (-51), 3, 23, 0, 0, 0)]),
  (77, [(.iinc 1 1, 3, 0, 0, 0, 0), (.goto (-65), 3, 15, 0, 0, 0)]),
  (83, [(.return_, 1, 0, 0, 0, 0)])]
def X_Months_init : MX := (⟨"YearsForCoin$Months", "<init>", "()V"⟩, prog_5_method_1_code, 5, none, 0, (2154, 1012, 2153, 0), B_Months_init)
def B_Months_mostBy : MB := [(0, [(.iload_n 1, 1, 0, 0, 0, 0), (.ifCond .ne 7, 3, 8, 0, 0, 0)]),
  (4, [(.iload_n 3, 1, 0, 0, 0, 0), (.goto 15, 3, 20, 0, 0, 0)]),
  (8, [(.iload_n 1, 1, 0, 0, 0, 0), (.iconst 2, 1, 0, 0, 0, 0), (.if_icmp .ne 9, 3, 19, 0, 0, 0)]),
  (13, [(.iconst 3, 1, 0, 0, 0, 0), (.iload_n 3, 1, 0, 0, 0, 0), (.imul, 1, 0, 0, 0, 0), (.goto 4, 3, 20, 0, 0, 0)]),
  (19, [(.iconst 0, 1, 0, 0, 0, 0)]),
  (20, [(.istore 4, 2, 0, 0, 0, 0), (.iload 4, 2, 0, 0, 0, 0), (.aload_n 0, 1, 0, 0, 0, 0), (.iload_n 2, 1, 0, 0, 0, 0), (.iconst 1, 1, 0, 0, 0, 0), (.isub, 1, 0, 0, 0, 0), (.iload_n 1, 1, 0, 0, 0, 0), (.iload_n 3, 1, 0, 0, 0, 0), (.invokestatic 32, 3, 13, 0, 2, 2160)]),
  (33, [(.invokevirtual 35, 3, 14, 2, 3, 2169)]),
  (36, [(.iadd, 1, 0, 0, 0, 0), (.ireturn, 1, 0, 0, 0, 0)])]
def X_Months_mostBy : MX := (⟨"YearsForCoin$Months", "mostBy", "(III)I"⟩, prog_5_method_5_code, 5, (some .int), 3, (2159, 1012, 2158, 0), B_Months_mostBy)
def B_Months_trustAfter : MB := [(0, [(.iload_n 0, 1, 0, 0, 0, 0), (.lookupswitch 44 #[(0, 27), (1, 35)], 27, 0, 0, 0, 0)]),
  (28, [(.iconst 0, 1, 0, 0, 0, 0), (.iload_n 1, 1, 0, 0, 0, 0), (.iconst 1, 1, 0, 0, 0, 0), (.isub, 1, 0, 0, 0, 0), (.invokestatic 19, 3, 0, 1, 0, 2163), (.ireturn, 1, 0, 0, 0, 0)]),
  (36, [(.bipush 9, 2, 0, 0, 0, 0), (.iload_n 1, 1, 0, 0, 0, 0), (.iconst 1, 1, 0, 0, 0, 0), (.iadd, 1, 0, 0, 0, 0), (.invokestatic 38, 3, 0, 2, 0, 2166), (.ireturn, 1, 0, 0, 0, 0)]),
  (45, [(.iload_n 1, 1, 0, 0, 0, 0), (.iconst 2, 1, 0, 0, 0, 0), (.idiv, 1, 0, 0, 0, 0), (.ireturn, 1, 0, 0, 0, 0)])]
def X_Months_trustAfter : MX := (⟨"YearsForCoin$Months", "trustAfter", "(II)I"⟩, prog_5_method_6_code, 2, (some .int), 2, (2162, 1012, 2161, 0), B_Months_trustAfter)
def B_Months_most : MB := [(0, [(.iload_n 1, 1, 0, 0, 0, 0), (.ifCond .lt 20, 3, 21, 0, 0, 0)]),
  (4, [(.iload_n 1, 1, 0, 0, 0, 0), (.bipush 20, 2, 0, 0, 0, 0), (.if_icmp .gt 14, 3, 21, 0, 0, 0)]),
  (10, [(.iload_n 2, 1, 0, 0, 0, 0), (.invokestatic 25, 3, 15, 7, 1, 2173)]),
  (14, [(.ifCond .eq 7, 3, 21, 0, 0, 0)]),
  (17, [(.iconst 1, 1, 0, 0, 0, 0), (.goto 4, 3, 22, 0, 0, 0)]),
  (21, [(.iconst 0, 1, 0, 0, 0, 0)]),
  (22, [(.istore_n 3, 1, 0, 0, 0, 0), (.iload_n 3, 1, 0, 0, 0, 0), (.ifCond .eq 17, 3, 41, 0, 0, 0)]),
  (27, [(.aload_n 0, 1, 0, 0, 0, 0), (.getfield 9, 3, 0, 1, 3, 2176), (.iload_n 1, 1, 0, 0, 0, 0), (.bipush 10, 2, 0, 0, 0, 0), (.imul, 1, 0, 0, 0, 0), (.iload_n 2, 1, 0, 0, 0, 0), (.iadd, 1, 0, 0, 0, 0), (.iaload, 1, 0, 0, 0, 0), (.goto 4, 3, 42, 0, 0, 0)]),
  (41, [(.iconst 0, 1, 0, 0, 0, 0)]),
  (42, [(.ireturn, 1, 0, 0, 0, 0)])]
def X_Months_most : MX := (⟨"YearsForCoin$Months", "most", "(II)I"⟩, prog_5_method_2_code, 4, (some .int), 2, (2172, 1012, 2170, 2171), B_Months_most)
def B_Main_isTrust : MB := [(0, [(.iload_n 0, 1, 0, 0, 0, 0), (.ifCond .lt 13, 3, 14, 0, 0, 0)]),
  (4, [(.iload_n 0, 1, 0, 0, 0, 0), (.bipush 9, 2, 0, 0, 0, 0), (.if_icmp .gt 7, 3, 14, 0, 0, 0)]),
  (10, [(.iconst 1, 1, 0, 0, 0, 0), (.goto 4, 3, 15, 0, 0, 0)]),
  (14, [(.iconst 0, 1, 0, 0, 0, 0)]),
  (15, [(.ireturn, 1, 0, 1, 0, 0)])]
def X_Main_isTrust : MX := (⟨"YearsForCoin", "isTrust", "(I)Z"⟩, prog_1_method_42_code, 1, (some .boolean), 1, (2175, 1001, 2174, 0), B_Main_isTrust)
def B_Main_feed : MB := [(0, [(.aload_n 0, 1, 0, 0, 0, 0), (.getfield 10, 3, 0, 1, 11, 2180), (.getfield 64, 3, 1, 0, 8, 1179), (.bipush 20, 2, 0, 0, 0, 0), (.iadd, 1, 0, 0, 0, 0), (.sipush 600, 3, 0, 0, 0, 0), (.if_icmp .le 5, 3, 18, 0, 0, 0)]),
  (16, [(.iconst (-1), 1, 0, 0, 0, 0), (.ireturn, 1, 0, 0, 0, 0)]),
  (18, [(.aload_n 0, 1, 0, 0, 0, 0), (.getfield 10, 3, 0, 1, 11, 2180), (.iload_n 1, 1, 0, 0, 0, 0), (.invokevirtual 68, 3, 17, 1, 8, 2209)]),
  (26, [(.aload_n 0, 1, 0, 0, 0, 0), (.getfield 10, 3, 0, 1, 11, 2180), (.iload_n 2, 1, 0, 0, 0, 0), (.invokevirtual 68, 3, 17, 1, 8, 2209)]),
  (34, [(.aload_n 0, 1, 0, 0, 0, 0), (.getfield 10, 3, 0, 1, 11, 2180), (.iload_n 3, 1, 0, 0, 0, 0), (.invokevirtual 68, 3, 17, 1, 8, 2209)]),
  (42, [(.aload_n 0, 1, 0, 0, 0, 0), (.getfield 10, 3, 0, 1, 11, 2180), (.iload 4, 2, 0, 0, 0, 0), (.invokevirtual 68, 3, 17, 1, 8, 2209)]),
  (51, [(.aload_n 0, 1, 0, 0, 0, 0), (.getfield 10, 3, 0, 1, 11, 2180), (.iload 5, 2, 0, 0, 0, 0), (.invokevirtual 68, 3, 17, 1, 8, 2209)]),
  (60, [(.aload_n 0, 1, 0, 0, 0, 0), (.getfield 10, 3, 0, 1, 11, 2180), (.getfield 64, 3, 1, 0, 8, 1179), (.ireturn, 1, 0, 0, 0, 0)])]
def X_Main_feed : MX := (⟨"YearsForCoin", "feed", "(IIIII)I"⟩, prog_1_method_2_code, 6, (some .int), 5, (2208, 1001, 2206, 2207), B_Main_feed)
def B_Told_append : MB := [(0, [(.bipush 24, 2, 0, 0, 0, 0), (.istore_n 2, 1, 0, 0, 0, 0)]),
  (3, [(.iload_n 2, 1, 0, 0, 0, 0), (.ifCond .lt 42, 3, 46, 0, 0, 0)]),
  (7, [(.aload_n 0, 1, 0, 0, 0, 0), (.getfield 57, 3, 1, 0, 8, 1180), (.sipush 600, 3, 0, 0, 0, 0), (.if_icmp .ge 32, 3, 46, 0, 0, 0)]),
  (17, [(.aload_n 0, 1, 0, 0, 0, 0), (.getfield 9, 3, 0, 1, 8, 1177), (.aload_n 0, 1, 0, 0, 0, 0), (.getfield 57, 3, 1, 0, 8, 1180), (.iload_n 1, 1, 0, 0, 0, 0), (.iload_n 2, 1, 0, 0, 0, 0), (.ishr, 1, 0, 0, 0, 0), (.i2b, 1, 0, 0, 0, 0), (.bastore, 1, 0, 1, 0, 0), (.aload_n 0, 1, 0, 0, 0, 0), (.dup, 1, 0, 0, 0, 0), (.getfield 57, 3, 1, 0, 8, 1180), (.iconst 1, 1, 0, 0, 0, 0), (.iadd, 1, 0, 0, 0, 0), (.putfield 57, 3, 1, 0, 8, 1180), (.iinc 2 (-8), 3, 0, 0, 0, 0), (.goto (-40), 3, 3, 0, 0, 0)]),
  (46, [(.return_, 1, 0, 0, 0, 0)])]
def X_Told_append : MX := (⟨"YearsForCoin$Told", "append", "(I)V"⟩, prog_10_method_3_code, 3, none, 1, (2212, 1002, 2210, 2211), B_Told_append)
def B_Main_end : MB := [(0, [(.iload_n 1, 1, 0, 0, 0, 0), (.ifCond .lt 14, 3, 15, 0, 0, 0)]),
  (4, [(.iload_n 1, 1, 0, 0, 0, 0), (.aload_n 0, 1, 0, 0, 0, 0), (.getfield 10, 3, 0, 1, 11, 2180), (.getfield 64, 3, 1, 0, 8, 1179), (.if_icmp .le 5, 3, 17, 0, 0, 0)]),
  (15, [(.iconst (-1), 1, 0, 0, 0, 0), (.ireturn, 1, 0, 0, 0, 0)]),
  (17, [(.aload_n 0, 1, 0, 0, 0, 0), (.getfield 10, 3, 0, 1, 11, 2180), (.iload_n 1, 1, 0, 0, 0, 0), (.putfield 64, 3, 1, 0, 8, 1179), (.iload_n 1, 1, 0, 0, 0, 0), (.ireturn, 1, 0, 0, 0, 0)])]
def X_Main_end : MX := (⟨"YearsForCoin", "end", "(I)I"⟩, prog_1_method_3_code, 2, (some .int), 1, (2216, 1001, 2214, 2215), B_Main_end)
def B_Main_text : MB := [(0, [(.aload_n 0, 1, 0, 0, 0, 0), (.getfield 10, 3, 0, 1, 11, 2180), (.iload_n 1, 1, 0, 0, 0, 0), (.iload_n 2, 1, 0, 0, 0, 0), (.invokevirtual 72, 3, 20, 2, 8, 2221)]),
  (9, [(.istore_n 3, 1, 0, 0, 0, 0), (.iload_n 3, 1, 0, 0, 0, 0), (.bipush (-2), 2, 0, 0, 0, 0), (.if_icmp .ne 15, 3, 28, 0, 0, 0)]),
  (16, [(.aload_n 0, 1, 0, 0, 0, 0), (.getfield 10, 3, 0, 1, 11, 2180), (.iconst 0, 1, 0, 0, 0, 0), (.iconst (-1), 1, 0, 0, 0, 0), (.invokevirtual 76, 3, 21, 2, 8, 2225)]),
  (25, [(.bipush (-2), 2, 0, 0, 0, 0), (.ireturn, 1, 0, 0, 0, 0)]),
  (28, [(.aload_n 0, 1, 0, 0, 0, 0), (.getfield 25, 3, 2, 1, 11, 2182), (.iload_n 1, 1, 0, 0, 0, 0), (.invokevirtual 80, 3, 22, 1, 5, 2229)]),
  (36, [(.aload_n 0, 1, 0, 0, 0, 0), (.getfield 10, 3, 0, 1, 11, 2180), (.aload_n 0, 1, 0, 0, 0, 0), (.getfield 25, 3, 2, 1, 11, 2182), (.getfield 83, 3, 11, 0, 5, 2002), (.aload_n 0, 1, 0, 0, 0, 0), (.getfield 25, 3, 2, 1, 11, 2182), (.getfield 86, 3, 12, 0, 5, 2004), (.invokevirtual 76, 3, 21, 2, 8, 2225)]),
  (57, [(.aload_n 0, 1, 0, 0, 0, 0), (.getfield 25, 3, 2, 1, 11, 2182), (.getfield 83, 3, 11, 0, 5, 2002), (.ifCond .eq 5, 3, 69, 0, 0, 0)]),
  (67, [(.iconst (-1), 1, 0, 0, 0, 0), (.ireturn, 1, 0, 0, 0, 0)]),
  (69, [(.aload_n 0, 1, 0, 0, 0, 0), (.getfield 25, 3, 2, 1, 11, 2182), (.iload_n 1, 1, 0, 0, 0, 0), (.iload_n 3, 1, 0, 0, 0, 0), (.invokevirtual 89, 3, 54, 2, 5, 3164)]),
  (78, [(.aload_n 0, 1, 0, 0, 0, 0), (.getfield 10, 3, 0, 1, 11, 2180), (.getfield 92, 3, 4, 1, 8, 1187), (.iload_n 1, 1, 0, 0, 0, 0), (.aload_n 0, 1, 0, 0, 0, 0), (.getfield 10, 3, 0, 1, 11, 2180), (.getfield 92, 3, 4, 1, 8, 1187), (.iload_n 1, 1, 0, 0, 0, 0), (.iaload, 1, 0, 0, 0, 0), (.iload_n 3, 1, 0, 0, 0, 0), (.iconst 1, 1, 0, 0, 0, 0), (.iadd, 1, 0, 0, 0, 0), (.invokestatic 96, 3, 0, 1, 0, 3190), (.iastore, 1, 0, 0, 0, 0), (.iload_n 3, 1, 0, 0, 0, 0), (.ireturn, 1, 0, 0, 0, 0)])]
def X_Main_text : MX := (⟨"YearsForCoin", "text", "(II)I"⟩, prog_1_method_4_code, 4, (some .int), 2, (2220, 1001, 2218, 2219), B_Main_text)
def B_Told_placeFor : MB := [(0, [(.iload_n 1, 1, 0, 0, 0, 0), (.ifCond .lt 8, 3, 9, 0, 0, 0)]),
  (4, [(.iload_n 1, 1, 0, 0, 0, 0), (.iconst 4, 1, 0, 0, 0, 0), (.if_icmp .lt 6, 3, 12, 0, 0, 0)]),
  (9, [(.bipush (-2), 2, 0, 0, 0, 0), (.ireturn, 1, 0, 0, 0, 0)]),
  (12, [(.iload_n 2, 1, 0, 0, 0, 0), (.iconst (-1), 1, 0, 0, 0, 0), (.if_icmp .ne 12, 3, 26, 0, 0, 0)]),
  (17, [(.aload_n 0, 1, 0, 0, 0, 0), (.getfield 19, 3, 4, 1, 8, 1186), (.iload_n 1, 1, 0, 0, 0, 0), (.iaload, 1, 0, 0, 0, 0), (.goto 4, 3, 27, 0, 0, 0)]),
  (26, [(.iload_n 2, 1, 0, 0, 0, 0)]),
  (27, [(.istore_n 3, 1, 0, 0, 0, 0), (.iload_n 2, 1, 0, 0, 0, 0), (.iconst (-1), 1, 0, 0, 0, 0), (.if_icmp .ne 7, 3, 37, 0, 0, 0)]),
  (33, [(.iconst 2, 1, 0, 0, 0, 0), (.goto 9, 3, 43, 0, 0, 0)]),
  (37, [(.aload_n 0, 1, 0, 0, 0, 0), (.getfield 19, 3, 4, 1, 8, 1186), (.iload_n 1, 1, 0, 0, 0, 0), (.iaload, 1, 0, 0, 0, 0)]),
  (43, [(.istore 4, 2, 0, 0, 0, 0), (.iload_n 3, 1, 0, 0, 0, 0), (.ifCond .lt 13, 3, 59, 0, 0, 0)]),
  (49, [(.iload_n 3, 1, 0, 0, 0, 0), (.iload 4, 2, 0, 0, 0, 0), (.if_icmp .ge 7, 3, 59, 0, 0, 0)]),
  (55, [(.iload_n 3, 1, 0, 0, 0, 0), (.goto 5, 3, 61, 0, 0, 0)]),
  (59, [(.bipush (-2), 2, 0, 0, 0, 0)]),
  (61, [(.ireturn, 1, 0, 0, 0, 0)])]
def X_Told_placeFor : MX := (⟨"YearsForCoin$Told", "placeFor", "(II)I"⟩, prog_10_method_5_code, 5, (some .int), 2, (2224, 1002, 2222, 2223), B_Told_placeFor)
def B_Told_takeTape : MB := [(0, [(.aload_n 0, 1, 0, 0, 0, 0), (.iconst 0, 1, 0, 0, 0, 0), (.putfield 57, 3, 1, 0, 8, 1180), (.aload_n 0, 1, 0, 0, 0, 0), (.iload_n 1, 1, 0, 0, 0, 0), (.putfield 60, 3, 2, 0, 8, 1182), (.aload_n 0, 1, 0, 0, 0, 0), (.iload_n 2, 1, 0, 0, 0, 0), (.putfield 15, 3, 3, 0, 8, 1184), (.return_, 1, 0, 0, 0, 0)])]
def X_Told_takeTape : MX := (⟨"YearsForCoin$Told", "takeTape", "(II)V"⟩, prog_10_method_4_code, 3, none, 2, (2228, 1002, 2226, 2227), B_Told_takeTape)
def B_Reader_readTape : MB := [(0, [(.aload_n 0, 1, 0, 0, 0, 0), (.getfield 12, 3, 1, 1, 5, 1231), (.invokevirtual 47, 3, 23, 0, 1, 2233)]),
  (7, [(.aload_n 0, 1, 0, 0, 0, 0), (.getfield 21, 3, 2, 1, 5, 1232), (.iconst 0, 1, 0, 0, 0, 0), (.putfield 50, 3, 0, 0, 6, 1127), (.aload_n 0, 1, 0, 0, 0, 0), (.getfield 28, 3, 3, 1, 5, 1233), (.iconst 0, 1, 0, 0, 0, 0), (.putfield 54, 3, 0, 0, 2, 1151), (.aload_n 0, 1, 0, 0, 0, 0), (.getfield 35, 3, 4, 1, 5, 1234), (.invokevirtual 57, 3, 25, 0, 0, 3000)]),
  (30, [(.aload_n 0, 1, 0, 0, 0, 0), (.iconst 0, 1, 0, 0, 0, 0), (.putfield 58, 3, 10, 0, 5, 2000), (.aload_n 0, 1, 0, 0, 0, 0), (.iconst 0, 1, 0, 0, 0, 0), (.putfield 61, 3, 11, 0, 5, 2001), (.aload_n 0, 1, 0, 0, 0, 0), (.iconst (-1), 1, 0, 0, 0, 0), (.putfield 64, 3, 12, 0, 5, 2003), (.aload_n 0, 1, 0, 0, 0, 0), (.iconst 0, 1, 0, 0, 0, 0), (.putfield 67, 3, 6, 0, 5, 1236), (.aload_n 0, 1, 0, 0, 0, 0), (.invokevirtual 70, 3, 26, 0, 5, 3005)]),
  (54, [(.iconst 0, 1, 0, 0, 0, 0), (.istore_n 2, 1, 0, 0, 0, 0)]),
  (56, [(.iload_n 2, 1, 0, 0, 0, 0), (.sipush 600, 3, 0, 0, 0, 0), (.if_icmp .gt 29, 3, 89, 0, 0, 0)]),
  (63, [(.aload_n 0, 1, 0, 0, 0, 0), (.getfield 73, 3, 7, 0, 5, 1237), (.ifCond .eq 22, 3, 89, 0, 0, 0)]),
  (70, [(.aload_n 0, 1, 0, 0, 0, 0), (.getfield 61, 3, 11, 0, 5, 2001), (.iconst 1, 1, 0, 0, 0, 0), (.if_icmp .eq 14, 3, 89, 0, 0, 0)]),
  (78, [(.aload_n 0, 1, 0, 0, 0, 0), (.iload_n 1, 1, 0, 0, 0, 0), (.invokevirtual 76, 3, 30, 1, 5, 3019)]),
  (83, [(.iinc 2 1, 3, 0, 0, 0, 0), (.goto (-30), 3, 56, 0, 0, 0)]),
  (89, [(.aload_n 0, 1, 0, 0, 0, 0), (.getfield 58, 3, 10, 0, 5, 2000), (.iload_n 1, 1, 0, 0, 0, 0), (.ifCond .ne 13, 3, 107, 0, 0, 0)]),
  (97, [(.aload_n 0, 1, 0, 0, 0, 0), (.getfield 12, 3, 1, 1, 5, 1231), (.getfield 80, 3, 0, 0, 1, 1051), (.goto 10, 3, 114, 0, 0, 0)]),
  (107, [(.aload_n 0, 1, 0, 0, 0, 0), (.getfield 35, 3, 4, 1, 5, 1234), (.getfield 83, 3, 0, 0, 0, 1169)]),
  (114, [(.ishr, 1, 0, 0, 0, 0), (.ifCond .eq 15, 3, 130, 0, 0, 0)]),
  (118, [(.aload_n 0, 1, 0, 0, 0, 0), (.iconst 4, 1, 0, 0, 0, 0), (.aload_n 0, 1, 0, 0, 0, 0), (.getfield 43, 3, 0, 1, 5, 1230), (.getfield 86, 3, 1, 0, 8, 1181), (.invokevirtual 91, 3, 43, 2, 5, 3116)]),
  (130, [(.return_, 1, 0, 0, 0, 0)])]
def X_Reader_readTape : MX := (⟨"YearsForCoin$Reader", "readTape", "(I)V"⟩, prog_7_method_2_code, 3, none, 1, (2232, 1007, 2230, 2231), B_Reader_readTape)
def B_Land_forget : MB := [(0, [(.aload_n 0, 1, 0, 0, 0, 0), (.iconst 3, 1, 0, 0, 0, 0), (.putfield 9, 3, 0, 0, 1, 1049), (.aload_n 0, 1, 0, 0, 0, 0), (.iconst 0, 1, 0, 0, 0, 0), (.putfield 40, 3, 1, 0, 1, 1054), (.aload_n 0, 1, 0, 0, 0, 0), (.iconst 0, 1, 0, 0, 0, 0), (.putfield 43, 3, 2, 0, 1, 1057), (.aload_n 0, 1, 0, 0, 0, 0), (.iconst 0, 1, 0, 0, 0, 0), (.putfield 46, 3, 3, 0, 1, 1060), (.aload_n 0, 1, 0, 0, 0, 0), (.iconst 0, 1, 0, 0, 0, 0), (.putfield 49, 3, 4, 0, 1, 1065), (.aload_n 0, 1, 0, 0, 0, 0), (.iconst 0, 1, 0, 0, 0, 0), (.putfield 52, 3, 5, 0, 1, 1068), (.aload_n 0, 1, 0, 0, 0, 0), (.getfield 37, 3, 13, 1, 1, 1089), (.iconst 0, 1, 0, 0, 0, 0), (.invokestatic 55, 3, 24, 0, 2, 2237)]),
  (38, [(.return_, 1, 0, 0, 0, 0)])]
def X_Land_forget : MX := (⟨"YearsForCoin$Land", "forget", "()V"⟩, prog_3_method_2_code, 1, none, 0, (2236, 1003, 2234, 2235), B_Land_forget)
def B_Arrays_fill : MB := [(0, [(.iconst 0, 1, 0, 0, 0, 0), (.istore_n 2, 1, 0, 0, 0, 0), (.aload_n 0, 1, 0, 0, 0, 0), (.arraylength, 1, 0, 0, 0, 0), (.istore_n 3, 1, 0, 0, 0, 0)]),
  (5, [(.iload_n 2, 1, 0, 0, 0, 0), (.iload_n 3, 1, 0, 0, 0, 0), (.if_icmp .ge 13, 3, 20, 0, 0, 0)]),
  (10, [(.aload_n 0, 1, 0, 0, 0, 0), (.iload_n 2, 1, 0, 0, 0, 0), (.iload_n 1, 1, 0, 0, 0, 0), (.iastore, 1, 0, 0, 0, 0), (.iinc 2 1, 3, 0, 0, 0, 0), (.goto (-12), 3, 5, 0, 0, 0)]),
  (20, [(.return_, 1, 0, 0, 0, 0)])]
def X_Arrays_fill : MX := (⟨"java/util/Arrays", "fill", "([II)V"⟩, prog_21_method_103_code, 4, none, 2, (2239, 1015, 2238, 0), B_Arrays_fill)
def B_Bargain_forget : MB := [(0, [(.aload_n 0, 1, 0, 0, 0, 0), (.iconst 2, 1, 0, 0, 0, 0), (.putfield 9, 3, 0, 0, 0, 1167), (.aload_n 0, 1, 0, 0, 0, 0), (.getfield 15, 3, 1, 1, 0, 1171), (.iconst 0, 1, 0, 0, 0, 0), (.invokestatic 19, 3, 24, 0, 2, 3004)]),
  (13, [(.return_, 1, 0, 0, 0, 0)])]
def X_Bargain_forget : MX := (⟨"YearsForCoin$Bargain", "forget", "()V"⟩, prog_2_method_2_code, 1, none, 0, (3003, 1006, 3001, 3002), B_Bargain_forget)
def B_Reader_goOn : MB := [(0, [(.aload_n 0, 1, 0, 0, 0, 0), (.getfield 67, 3, 6, 0, 5, 1236), (.aload_n 0, 1, 0, 0, 0, 0), (.getfield 43, 3, 0, 1, 5, 1230), (.getfield 86, 3, 1, 0, 8, 1181), (.if_icmp .ge 42, 3, 53, 0, 0, 0)]),
  (14, [(.aload_n 0, 1, 0, 0, 0, 0), (.aload_n 0, 1, 0, 0, 0, 0), (.getfield 67, 3, 6, 0, 5, 1236), (.invokevirtual 217, 3, 27, 1, 5, 3009)]),
  (22, [(.bipush 32, 2, 0, 0, 0, 0), (.if_icmp .eq 16, 3, 40, 0, 0, 0)]),
  (27, [(.aload_n 0, 1, 0, 0, 0, 0), (.aload_n 0, 1, 0, 0, 0, 0), (.getfield 67, 3, 6, 0, 5, 1236), (.invokevirtual 217, 3, 27, 1, 5, 3009)]),
  (35, [(.bipush 10, 2, 0, 0, 0, 0), (.if_icmp .ne 16, 3, 53, 0, 0, 0)]),
  (40, [(.aload_n 0, 1, 0, 0, 0, 0), (.dup, 1, 0, 0, 0, 0), (.getfield 67, 3, 6, 0, 5, 1236), (.iconst 1, 1, 0, 0, 0, 0), (.iadd, 1, 0, 0, 0, 0), (.putfield 67, 3, 6, 0, 5, 1236), (.goto (-50), 3, 0, 0, 0, 0)]),
  (53, [(.aload_n 0, 1, 0, 0, 0, 0), (.aload_n 0, 1, 0, 0, 0, 0), (.getfield 67, 3, 6, 0, 5, 1236), (.putfield 138, 3, 8, 0, 5, 1238), (.aload_n 0, 1, 0, 0, 0, 0), (.iconst 0, 1, 0, 0, 0, 0), (.putfield 147, 3, 9, 0, 5, 1239), (.aload_n 0, 1, 0, 0, 0, 0), (.aload_n 0, 1, 0, 0, 0, 0), (.getfield 67, 3, 6, 0, 5, 1236), (.invokevirtual 217, 3, 27, 1, 5, 3009)]),
  (74, [(.istore_n 1, 1, 0, 0, 0, 0), (.aload_n 0, 1, 0, 0, 0, 0), (.getfield 67, 3, 6, 0, 5, 1236), (.aload_n 0, 1, 0, 0, 0, 0), (.getfield 43, 3, 0, 1, 5, 1230), (.getfield 86, 3, 1, 0, 8, 1181), (.if_icmp .lt 11, 3, 97, 0, 0, 0)]),
  (89, [(.aload_n 0, 1, 0, 0, 0, 0), (.iconst 0, 1, 0, 0, 0, 0), (.putfield 73, 3, 7, 0, 5, 1237), (.goto 177, 3, 271, 0, 0, 0)]),
  (97, [(.iload_n 1, 1, 0, 0, 0, 0), (.invokestatic 259, 3, 28, 0, 1, 3013)]),
  (101, [(.ifCond .eq 49, 3, 150, 0, 0, 0)]),
  (104, [(.aload_n 0, 1, 0, 0, 0, 0), (.iconst 1, 1, 0, 0, 0, 0), (.putfield 73, 3, 7, 0, 5, 1237)]),
  (109, [(.aload_n 0, 1, 0, 0, 0, 0), (.getfield 67, 3, 6, 0, 5, 1236), (.aload_n 0, 1, 0, 0, 0, 0), (.getfield 43, 3, 0, 1, 5, 1230), (.getfield 86, 3, 1, 0, 8, 1181), (.if_icmp .ge 151, 3, 271, 0, 0, 0)]),
  (123, [(.aload_n 0, 1, 0, 0, 0, 0), (.aload_n 0, 1, 0, 0, 0, 0), (.getfield 67, 3, 6, 0, 5, 1236), (.invokevirtual 217, 3, 27, 1, 5, 3009)]),
  (131, [(.invokestatic 259, 3, 28, 0, 1, 3013)]),
  (134, [(.ifCond .eq 137, 3, 271, 0, 0, 0)]),
  (137, [(.aload_n 0, 1, 0, 0, 0, 0), (.dup, 1, 0, 0, 0, 0), (.getfield 67, 3, 6, 0, 5, 1236), (.iconst 1, 1, 0, 0, 0, 0), (.iadd, 1, 0, 0, 0, 0), (.putfield 67, 3, 6, 0, 5, 1236), (.goto (-38), 3, 109, 0, 0, 0)]),
  (150, [(.iload_n 1, 1, 0, 0, 0, 0), (.invokestatic 262, 3, 29, 0, 1, 3016)]),
  (154, [(.ifCond .eq 92, 3, 246, 0, 0, 0)]),
  (157, [(.aload_n 0, 1, 0, 0, 0, 0), (.getfield 67, 3, 6, 0, 5, 1236), (.aload_n 0, 1, 0, 0, 0, 0), (.getfield 43, 3, 0, 1, 5, 1230), (.getfield 86, 3, 1, 0, 8, 1181), (.if_icmp .ge 53, 3, 221, 0, 0, 0)]),
  (171, [(.aload_n 0, 1, 0, 0, 0, 0), (.aload_n 0, 1, 0, 0, 0, 0), (.getfield 67, 3, 6, 0, 5, 1236), (.invokevirtual 217, 3, 27, 1, 5, 3009)]),
  (179, [(.invokestatic 262, 3, 29, 0, 1, 3016)]),
  (182, [(.ifCond .eq 39, 3, 221, 0, 0, 0)]),
  (185, [(.aload_n 0, 1, 0, 0, 0, 0), (.aload_n 0, 1, 0, 0, 0, 0), (.getfield 147, 3, 9, 0, 5, 1239), (.bipush 10, 2, 0, 0, 0, 0), (.imul, 1, 0, 0, 0, 0), (.aload_n 0, 1, 0, 0, 0, 0), (.aload_n 0, 1, 0, 0, 0, 0), (.getfield 67, 3, 6, 0, 5, 1236), (.invokevirtual 217, 3, 27, 1, 5, 3009)]),
  (201, [(.iadd, 1, 0, 0, 0, 0), (.bipush 48, 2, 0, 0, 0, 0), (.isub, 1, 0, 0, 0, 0), (.putfield 147, 3, 9, 0, 5, 1239), (.aload_n 0, 1, 0, 0, 0, 0), (.dup, 1, 0, 0, 0, 0), (.getfield 67, 3, 6, 0, 5, 1236), (.iconst 1, 1, 0, 0, 0, 0), (.iadd, 1, 0, 0, 0, 0), (.putfield 67, 3, 6, 0, 5, 1236), (.goto (-61), 3, 157, 0, 0, 0)]),
  (221, [(.aload_n 0, 1, 0, 0, 0, 0), (.aload_n 0, 1, 0, 0, 0, 0), (.getfield 67, 3, 6, 0, 5, 1236), (.aload_n 0, 1, 0, 0, 0, 0), (.getfield 138, 3, 8, 0, 5, 1238), (.isub, 1, 0, 0, 0, 0), (.iconst 2, 1, 0, 0, 0, 0), (.if_icmp .gt 7, 3, 239, 0, 0, 0)]),
  (235, [(.iconst 2, 1, 0, 0, 0, 0), (.goto 4, 3, 240, 0, 0, 0)]),
  (239, [(.iconst 4, 1, 0, 0, 0, 0)]),
  (240, [(.putfield 73, 3, 7, 0, 5, 1237), (.goto 28, 3, 271, 0, 0, 0)]),
  (246, [(.aload_n 0, 1, 0, 0, 0, 0), (.iload_n 1, 1, 0, 0, 0, 0), (.bipush 59, 2, 0, 0, 0, 0), (.if_icmp .ne 7, 3, 257, 0, 0, 0)]),
  (253, [(.iconst 3, 1, 0, 0, 0, 0), (.goto 4, 3, 258, 0, 0, 0)]),
  (257, [(.iconst 4, 1, 0, 0, 0, 0)]),
  (258, [(.putfield 73, 3, 7, 0, 5, 1237), (.aload_n 0, 1, 0, 0, 0, 0), (.dup, 1, 0, 0, 0, 0), (.getfield 67, 3, 6, 0, 5, 1236), (.iconst 1, 1, 0, 0, 0, 0), (.iadd, 1, 0, 0, 0, 0), (.putfield 67, 3, 6, 0, 5, 1236)]),
  (271, [(.return_, 1, 0, 0, 0, 0)])]
def X_Reader_goOn : MX := (⟨"YearsForCoin$Reader", "goOn", "()V"⟩, prog_7_method_15_code, 2, none, 0, (3008, 1007, 3007, 1), B_Reader_goOn)
def B_Reader_byteAt : MB := [(0, [(.iload_n 1, 1, 0, 0, 0, 0), (.ifCond .lt 33, 3, 34, 0, 0, 0)]),
  (4, [(.iload_n 1, 1, 0, 0, 0, 0), (.aload_n 0, 1, 0, 0, 0, 0), (.getfield 43, 3, 0, 1, 5, 1230), (.getfield 86, 3, 1, 0, 8, 1181), (.if_icmp .ge 22, 3, 34, 0, 0, 0)]),
  (15, [(.iload_n 1, 1, 0, 0, 0, 0), (.sipush 600, 3, 0, 0, 0, 0), (.if_icmp .ge 15, 3, 34, 0, 0, 0)]),
  (22, [(.aload_n 0, 1, 0, 0, 0, 0), (.getfield 43, 3, 0, 1, 5, 1230), (.getfield 265, 3, 0, 1, 8, 1178), (.iload_n 1, 1, 0, 0, 0, 0), (.baload, 1, 0, 1, 0, 0), (.goto 4, 3, 35, 0, 0, 0)]),
  (34, [(.iconst 0, 1, 0, 0, 0, 0)]),
  (35, [(.ireturn, 1, 0, 0, 0, 0)])]
def X_Reader_byteAt : MX := (⟨"YearsForCoin$Reader", "byteAt", "(I)I"⟩, prog_7_method_16_code, 2, (some .int), 1, (3012, 1007, 3011, 2), B_Reader_byteAt)
def B_Reader_isLetter : MB := [(0, [(.iload_n 0, 1, 0, 0, 0, 0), (.bipush 97, 2, 0, 0, 0, 0), (.if_icmp .lt 13, 3, 16, 0, 0, 0)]),
  (6, [(.iload_n 0, 1, 0, 0, 0, 0), (.bipush 122, 2, 0, 0, 0, 0), (.if_icmp .gt 7, 3, 16, 0, 0, 0)]),
  (12, [(.iconst 1, 1, 0, 0, 0, 0), (.goto 4, 3, 17, 0, 0, 0)]),
  (16, [(.iconst 0, 1, 0, 0, 0, 0)]),
  (17, [(.ireturn, 1, 0, 1, 0, 0)])]
def X_Reader_isLetter : MX := (⟨"YearsForCoin$Reader", "isLetter", "(I)Z"⟩, prog_7_method_17_code, 1, (some .boolean), 1, (3015, 1007, 3014, 0), B_Reader_isLetter)
def B_Reader_isDigit : MB := [(0, [(.iload_n 0, 1, 0, 0, 0, 0), (.bipush 48, 2, 0, 0, 0, 0), (.if_icmp .lt 13, 3, 16, 0, 0, 0)]),
  (6, [(.iload_n 0, 1, 0, 0, 0, 0), (.bipush 57, 2, 0, 0, 0, 0), (.if_icmp .gt 7, 3, 16, 0, 0, 0)]),
  (12, [(.iconst 1, 1, 0, 0, 0, 0), (.goto 4, 3, 17, 0, 0, 0)]),
  (16, [(.iconst 0, 1, 0, 0, 0, 0)]),
  (17, [(.ireturn, 1, 0, 1, 0, 0)])]
def X_Reader_isDigit : MX := (⟨"YearsForCoin$Reader", "isDigit", "(I)Z"⟩, prog_7_method_18_code, 1, (some .boolean), 1, (3018, 1007, 3017, 0), B_Reader_isDigit)
def B_Reader_readLine : MB := [(0, [(.aload_n 0, 1, 0, 0, 0, 0), (.getfield 73, 3, 7, 0, 5, 1237), (.iconst 1, 1, 0, 0, 0, 0), (.if_icmp .ne 11, 3, 16, 0, 0, 0)]),
  (8, [(.aload_n 0, 1, 0, 0, 0, 0), (.iload_n 1, 1, 0, 0, 0, 0), (.invokevirtual 124, 3, 31, 1, 5, 3023)]),
  (13, [(.goto 4, 3, 17, 0, 0, 0)]),
  (16, [(.iconst (-1), 1, 0, 0, 0, 0)]),
  (17, [(.istore_n 2, 1, 0, 0, 0, 0), (.iload_n 2, 1, 0, 0, 0, 0), (.ifCond .lt 11, 3, 30, 0, 0, 0)]),
  (22, [(.iload_n 2, 1, 0, 0, 0, 0), (.getstatic 128, 3, 1, 0, 0, 3106), (.arraylength, 1, 0, 0, 0, 0), (.if_icmp .lt 8, 3, 35, 0, 0, 0)]),
  (30, [(.aload_n 0, 1, 0, 0, 0, 0), (.invokevirtual 131, 3, 41, 0, 5, 3108)]),
  (34, [(.return_, 1, 0, 0, 0, 0)]),
  (35, [(.aload_n 0, 1, 0, 0, 0, 0), (.iload_n 2, 1, 0, 0, 0, 0), (.invokevirtual 134, 3, 42, 1, 5, 3112)]),
  (40, [(.ifCond .eq 12, 3, 52, 0, 0, 0)]),
  (43, [(.aload_n 0, 1, 0, 0, 0, 0), (.iconst 3, 1, 0, 0, 0, 0), (.aload_n 0, 1, 0, 0, 0, 0), (.getfield 138, 3, 8, 0, 5, 1238), (.invokevirtual 91, 3, 43, 2, 5, 3116)]),
  (52, [(.aload_n 0, 1, 0, 0, 0, 0), (.invokevirtual 70, 3, 26, 0, 5, 3005)]),
  (56, [(.iconst 0, 1, 0, 0, 0, 0), (.istore_n 3, 1, 0, 0, 0, 0)]),
  (58, [(.iload_n 3, 1, 0, 0, 0, 0), (.getstatic 128, 3, 1, 0, 0, 3106), (.iload_n 2, 1, 0, 0, 0, 0), (.iaload, 1, 0, 0, 0, 0), (.if_icmp .ge 28, 3, 92, 0, 0, 0)]),
  (67, [(.aload_n 0, 1, 0, 0, 0, 0), (.getfield 73, 3, 7, 0, 5, 1237), (.iconst 2, 1, 0, 0, 0, 0), (.if_icmp .eq 8, 3, 80, 0, 0, 0)]),
  (75, [(.aload_n 0, 1, 0, 0, 0, 0), (.invokevirtual 131, 3, 41, 0, 5, 3108)]),
  (79, [(.return_, 1, 0, 0, 0, 0)]),
  (80, [(.aload_n 0, 1, 0, 0, 0, 0), (.iload_n 2, 1, 0, 0, 0, 0), (.iload_n 3, 1, 0, 0, 0, 0), (.invokevirtual 141, 3, 44, 2, 5, 3120)]),
  (86, [(.iinc 3 1, 3, 0, 0, 0, 0), (.goto (-31), 3, 58, 0, 0, 0)]),
  (92, [(.aload_n 0, 1, 0, 0, 0, 0), (.getfield 73, 3, 7, 0, 5, 1237), (.iconst 3, 1, 0, 0, 0, 0), (.if_icmp .eq 8, 3, 105, 0, 0, 0)]),
  (100, [(.aload_n 0, 1, 0, 0, 0, 0), (.invokevirtual 131, 3, 41, 0, 5, 3108)]),
  (104, [(.return_, 1, 0, 0, 0, 0)]),
  (105, [(.aload_n 0, 1, 0, 0, 0, 0), (.invokevirtual 70, 3, 26, 0, 5, 3005)]),
  (109, [(.aload_n 0, 1, 0, 0, 0, 0), (.getfield 61, 3, 11, 0, 5, 2001), (.ifCond .ne 8, 3, 121, 0, 0, 0)]),
  (116, [(.aload_n 0, 1, 0, 0, 0, 0), (.iload_n 2, 1, 0, 0, 0, 0), (.invokevirtual 144, 3, 45, 1, 5, 3128)]),
  (121, [(.return_, 1, 0, 0, 0, 0)])]
def X_Reader_readLine : MX := (⟨"YearsForCoin$Reader", "readLine", "(I)V"⟩, prog_7_method_4_code, 4, none, 1, (3022, 1007, 3021, 3), B_Reader_readLine)
def B_Reader_wordRead : MB := [(0, [(.iload_n 1, 1, 0, 0, 0, 0), (.ifCond .lt 8, 3, 9, 0, 0, 0)]),
  (4, [(.iload_n 1, 1, 0, 0, 0, 0), (.iconst 4, 1, 0, 0, 0, 0), (.if_icmp .lt 5, 3, 11, 0, 0, 0)]),
  (9, [(.iconst (-1), 1, 0, 0, 0, 0), (.ireturn, 1, 0, 0, 0, 0)]),
  (11, [(.getstatic 197, 3, 0, 0, 0, 3027), (.iload_n 1, 1, 0, 0, 0, 0), (.iaload, 1, 0, 0, 0, 0), (.istore_n 2, 1, 0, 0, 0, 0)]),
  (17, [(.iload_n 2, 1, 0, 0, 0, 0), (.getstatic 197, 3, 0, 0, 0, 3027), (.iload_n 1, 1, 0, 0, 0, 0), (.iconst 1, 1, 0, 0, 0, 0), (.iadd, 1, 0, 0, 0, 0), (.iaload, 1, 0, 0, 0, 0), (.if_icmp .ge 22, 3, 47, 0, 0, 0)]),
  (28, [(.aload_n 0, 1, 0, 0, 0, 0), (.iload_n 2, 1, 0, 0, 0, 0), (.invokestatic 200, 3, 32, 0, 1, 3029)]),
  (33, [(.invokevirtual 204, 3, 33, 1, 5, 3054)]),
  (36, [(.ifCond .eq 5, 3, 41, 0, 0, 0)]),
  (39, [(.iload_n 2, 1, 0, 0, 0, 0), (.ireturn, 1, 0, 0, 0, 0)]),
  (41, [(.iinc 2 1, 3, 0, 0, 0, 0), (.goto (-27), 3, 17, 0, 0, 0)]),
  (47, [(.iconst (-1), 1, 0, 0, 0, 0), (.ireturn, 1, 0, 0, 0, 0)])]
def X_Reader_wordRead : MX := (⟨"YearsForCoin$Reader", "wordRead", "(I)I"⟩, prog_7_method_12_code, 3, (some .int), 1, (3026, 1007, 3025, 4), B_Reader_wordRead)
def B_Reader_wordOf : MB := [(0, [(.iload_n 0, 1, 0, 0, 0, 0), (.tableswitch 170 0 21 #[103, 106, 109, 112, 115, 118, 121, 124, 127, 130, 133, 136, 139, 142, 145, 148, 151, 154, 157, 160, 163, 166], 103, 0, 0, 0, 0)]),
  (104, [(.ldc 220, 2, 10, 1, 0, 0), (.areturn, 1, 0, 0, 0, 0)]),
  (107, [(.ldc 222, 2, 11, 1, 0, 0), (.areturn, 1, 0, 0, 0, 0)]),
  (110, [(.ldc 224, 2, 12, 1, 0, 0), (.areturn, 1, 0, 0, 0, 0)]),
  (113, [(.ldc 226, 2, 13, 1, 0, 0), (.areturn, 1, 0, 0, 0, 0)]),
  (116, [(.ldc 228, 2, 14, 1, 0, 0), (.areturn, 1, 0, 0, 0, 0)]),
  (119, [(.ldc 230, 2, 15, 1, 0, 0), (.areturn, 1, 0, 0, 0, 0)]),
  (122, [(.ldc 232, 2, 16, 1, 0, 0), (.areturn, 1, 0, 0, 0, 0)]),
  (125, [(.ldc 233, 2, 17, 1, 0, 0), (.areturn, 1, 0, 0, 0, 0)]),
  (128, [(.ldc 234, 2, 18, 1, 0, 0), (.areturn, 1, 0, 0, 0, 0)]),
  (131, [(.ldc 235, 2, 19, 1, 0, 0), (.areturn, 1, 0, 0, 0, 0)]),
  (134, [(.ldc 236, 2, 20, 1, 0, 0), (.areturn, 1, 0, 0, 0, 0)]),
  (137, [(.ldc 238, 2, 21, 1, 0, 0), (.areturn, 1, 0, 0, 0, 0)]),
  (140, [(.ldc 240, 2, 22, 1, 0, 0), (.areturn, 1, 0, 0, 0, 0)]),
  (143, [(.ldc 233, 2, 17, 1, 0, 0), (.areturn, 1, 0, 0, 0, 0)]),
  (146, [(.ldc 242, 2, 23, 1, 0, 0), (.areturn, 1, 0, 0, 0, 0)]),
  (149, [(.ldc 244, 2, 24, 1, 0, 0), (.areturn, 1, 0, 0, 0, 0)]),
  (152, [(.ldc 246, 2, 25, 1, 0, 0), (.areturn, 1, 0, 0, 0, 0)]),
  (155, [(.ldc 248, 2, 26, 1, 0, 0), (.areturn, 1, 0, 0, 0, 0)]),
  (158, [(.ldc 250, 2, 27, 1, 0, 0), (.areturn, 1, 0, 0, 0, 0)]),
  (161, [(.ldc 252, 2, 28, 1, 0, 0), (.areturn, 1, 0, 0, 0, 0)]),
  (164, [(.ldc 254, 2, 29, 1, 0, 0), (.areturn, 1, 0, 0, 0, 0)]),
  (167, [(.ldc_w 256, 3, 30, 1, 0, 0), (.areturn, 1, 0, 0, 0, 0)]),
  (171, [(.ldc_w 257, 3, 31, 1, 0, 0), (.areturn, 1, 0, 0, 0, 0)])]
def X_Reader_wordOf : MX := (⟨"YearsForCoin$Reader", "wordOf", "(I)Ljava/lang/String;"⟩, prog_7_method_14_code, 1, (some (.object "java/lang/String")), 1, (3031, 1007, 3030, 0), B_Reader_wordOf)
def B_Reader_isOnTape : MB := [(0, [(.aload_n 1, 1, 0, 0, 0, 0), (.invokevirtual 208, 3, 34, 0, 60, 3058)]),
  (4, [(.aload_n 0, 1, 0, 0, 0, 0), (.getfield 67, 3, 6, 0, 5, 1236), (.aload_n 0, 1, 0, 0, 0, 0), (.getfield 138, 3, 8, 0, 5, 1238), (.isub, 1, 0, 0, 0, 0), (.if_icmp .eq 5, 3, 18, 0, 0, 0)]),
  (16, [(.iconst 0, 1, 0, 0, 0, 0), (.ireturn, 1, 0, 1, 0, 0)]),
  (18, [(.iconst 0, 1, 0, 0, 0, 0), (.istore_n 2, 1, 0, 0, 0, 0)]),
  (20, [(.iload_n 2, 1, 0, 0, 0, 0), (.aload_n 1, 1, 0, 0, 0, 0), (.invokevirtual 208, 3, 34, 0, 60, 3058)]),
  (25, [(.if_icmp .ge 29, 3, 54, 0, 0, 0)]),
  (28, [(.aload_n 1, 1, 0, 0, 0, 0), (.iload_n 2, 1, 0, 0, 0, 0), (.invokevirtual 213, 3, 36, 1, 60, 3068)]),
  (33, [(.aload_n 0, 1, 0, 0, 0, 0), (.aload_n 0, 1, 0, 0, 0, 0), (.getfield 138, 3, 8, 0, 5, 1238), (.iload_n 2, 1, 0, 0, 0, 0), (.iadd, 1, 0, 0, 0, 0), (.invokevirtual 217, 3, 27, 1, 5, 3009)]),
  (43, [(.if_icmp .eq 5, 3, 48, 0, 0, 0)]),
  (46, [(.iconst 0, 1, 0, 0, 0, 0), (.ireturn, 1, 0, 1, 0, 0)]),
  (48, [(.iinc 2 1, 3, 0, 0, 0, 0), (.goto (-31), 3, 20, 0, 0, 0)]),
  (54, [(.iconst 1, 1, 0, 0, 0, 0), (.ireturn, 1, 0, 1, 0, 0)])]
def X_Reader_isOnTape : MX := (⟨"YearsForCoin$Reader", "isOnTape", "(Ljava/lang/String;)Z"⟩, prog_7_method_13_code, 3, (some .boolean), 1, (3057, 1007, 3056, 5), B_Reader_isOnTape)
def B_String_length : MB := [(0, [(.aload_n 0, 1, 0, 0, 0, 0), (.getfield 9, 3, 0, 4, 0, 8151), (.arraylength, 1, 0, 0, 0, 0), (.aload_n 0, 1, 0, 0, 0, 0), (.invokevirtual 335, 3, 35, 0, 60, 3062)]),
  (9, [(.ishr, 1, 0, 0, 0, 0), (.ireturn, 1, 0, 0, 0, 0)])]
def X_String_length : MX := (⟨"java/lang/String", "length", "()I"⟩, prog_17_method_54_code, 1, (some .int), 0, (3061, 1016, 3059, 3060), B_String_length)
def B_String_coder : MB := [(0, [(.getstatic 38, 3, 1, 1, 0, 3066), (.ifCond .eq 10, 3, 13, 0, 0, 0)]),
  (6, [(.aload_n 0, 1, 0, 0, 0, 0), (.getfield 15, 3, 0, 3, 0, 8152), (.goto 4, 3, 14, 0, 0, 0)]),
  (13, [(.iconst 1, 1, 0, 0, 0, 0)]),
  (14, [(.ireturn, 1, 0, 2, 0, 0)])]
def X_String_coder : MX := (⟨"java/lang/String", "coder", "()B"⟩, prog_17_method_152_code, 1, (some .byte), 0, (3065, 1016, 3063, 3064), B_String_coder)
def B_String_charAt : MB := [(0, [(.aload_n 0, 1, 0, 0, 0, 0), (.invokevirtual 492, 3, 37, 0, 60, 3072)]),
  (4, [(.ifCond .eq 12, 3, 16, 0, 0, 0)]),
  (7, [(.aload_n 0, 1, 0, 0, 0, 0), (.getfield 9, 3, 0, 4, 0, 8151), (.iload_n 1, 1, 0, 0, 0, 0), (.invokestatic 495, 3, 38, 0, 2, 3076)]),
  (15, [(.ireturn, 1, 0, 3, 0, 0)])]
def X_String_charAt : MX := (⟨"java/lang/String", "charAt", "(I)C"⟩, prog_17_method_56_code, 2, (some .char), 1, (3071, 1016, 3069, 3070), B_String_charAt)
def B_String_isLatin1 : MB := [(0, [(.getstatic 38, 3, 1, 1, 0, 3066), (.ifCond .eq 14, 3, 17, 0, 0, 0)]),
  (6, [(.aload_n 0, 1, 0, 0, 0, 0), (.getfield 15, 3, 0, 3, 0, 8152), (.ifCond .ne 7, 3, 17, 0, 0, 0)]),
  (13, [(.iconst 1, 1, 0, 0, 0, 0), (.goto 4, 3, 18, 0, 0, 0)]),
  (17, [(.iconst 0, 1, 0, 0, 0, 0)]),
  (18, [(.ireturn, 1, 0, 1, 0, 0)])]
def X_String_isLatin1 : MX := (⟨"java/lang/String", "isLatin1", "()Z"⟩, prog_17_method_154_code, 1, (some .boolean), 0, (3075, 1016, 3073, 3074), B_String_isLatin1)
def B_StringLatin1_charAt : MB := [(0, [(.iload_n 1, 1, 0, 0, 0, 0), (.aload_n 0, 1, 0, 0, 0, 0), (.arraylength, 1, 0, 0, 0, 0), (.invokestatic 9, 3, 39, 0, 2, 3079)]),
  (6, [(.aload_n 0, 1, 0, 0, 0, 0), (.iload_n 1, 1, 0, 0, 0, 0), (.baload, 1, 0, 1, 0, 0), (.sipush 255, 3, 0, 0, 0, 0), (.iand, 1, 0, 0, 0, 0), (.i2c, 1, 0, 0, 0, 0), (.ireturn, 1, 0, 3, 0, 0)])]
def X_StringLatin1_charAt : MX := (⟨"java/lang/StringLatin1", "charAt", "([BI)C"⟩, prog_18_method_2_code, 2, (some .char), 2, (3078, 1017, 3077, 0), B_StringLatin1_charAt)
def B_String_checkIndex : MB := [(0, [(.iload_n 0, 1, 0, 0, 0, 0), (.iload_n 1, 1, 0, 0, 0, 0), (.getstatic 1053, 3, 0, 2, 0, 3082), (.invokestatic 1059, 3, 40, 0, 3, 3084)]),
  (8, [(.pop, 1, 0, 0, 0, 0), (.return_, 1, 0, 0, 0, 0)])]
def X_String_checkIndex : MX := (⟨"java/lang/String", "checkIndex", "(II)V"⟩, prog_17_method_155_code, 2, none, 2, (3081, 1016, 3080, 0), B_String_checkIndex)
def B_Preconditions_checkIndex : MB := [(0, [(.iload_n 0, 1, 0, 0, 0, 0), (.ifCond .lt 8, 3, 9, 0, 0, 0)]),
  (4, [(.iload_n 0, 1, 0, 0, 0, 0), (.iload_n 1, 1, 0, 0, 0, 0), (.if_icmp .lt 10, 3, 16, 0, 0, 0)]),
  (16, [(.iload_n 0, 1, 0, 0, 0, 0), (.ireturn, 1, 0, 0, 0, 0)])]
def X_Preconditions_checkIndex : MX := (⟨"jdk/internal/util/Preconditions", "checkIndex", "(IILjava/util/function/BiFunction;)I"⟩, prog_22_method_11_code, 3, (some .int), 3, (3086, 1018, 3085, 0), B_Preconditions_checkIndex)
def B_Reader_refuse : MB := [(0, [(.aload_n 0, 1, 0, 0, 0, 0), (.iconst 1, 1, 0, 0, 0, 0), (.putfield 61, 3, 11, 0, 5, 2001), (.aload_n 0, 1, 0, 0, 0, 0), (.aload_n 0, 1, 0, 0, 0, 0), (.getfield 138, 3, 8, 0, 5, 1238), (.putfield 64, 3, 12, 0, 5, 2003), (.return_, 1, 0, 0, 0, 0)])]
def X_Reader_refuse : MX := (⟨"YearsForCoin$Reader", "refuse", "()V"⟩, prog_7_method_6_code, 1, none, 0, (3111, 1007, 3110, 6), B_Reader_refuse)
def B_Reader_isOneTooMany : MB := [(0, [(.iload_n 1, 1, 0, 0, 0, 0), (.iconst 4, 1, 0, 0, 0, 0), (.if_icmp .ge 21, 3, 23, 0, 0, 0)]),
  (5, [(.aload_n 0, 1, 0, 0, 0, 0), (.getfield 12, 3, 1, 1, 5, 1231), (.getfield 156, 3, 4, 0, 1, 1067), (.bipush 8, 2, 0, 0, 0, 0), (.if_icmp .lt 7, 3, 21, 0, 0, 0)]),
  (17, [(.iconst 1, 1, 0, 0, 0, 0), (.goto 4, 3, 22, 0, 0, 0)]),
  (21, [(.iconst 0, 1, 0, 0, 0, 0)]),
  (22, [(.ireturn, 1, 0, 1, 0, 0)]),
  (23, [(.iload_n 1, 1, 0, 0, 0, 0), (.iconst 5, 1, 0, 0, 0, 0), (.if_icmp .ne 20, 3, 45, 0, 0, 0)]),
  (28, [(.aload_n 0, 1, 0, 0, 0, 0), (.getfield 12, 3, 1, 1, 5, 1231), (.getfield 159, 3, 5, 0, 1, 1069), (.iconst 4, 1, 0, 0, 0, 0), (.if_icmp .lt 7, 3, 43, 0, 0, 0)]),
  (39, [(.iconst 1, 1, 0, 0, 0, 0), (.goto 4, 3, 44, 0, 0, 0)]),
  (43, [(.iconst 0, 1, 0, 0, 0, 0)]),
  (44, [(.ireturn, 1, 0, 1, 0, 0)]),
  (45, [(.iload_n 1, 1, 0, 0, 0, 0), (.bipush 10, 2, 0, 0, 0, 0), (.if_icmp .lt 27, 3, 75, 0, 0, 0)]),
  (51, [(.iload_n 1, 1, 0, 0, 0, 0), (.bipush 17, 2, 0, 0, 0, 0), (.if_icmp .ge 21, 3, 75, 0, 0, 0)]),
  (57, [(.aload_n 0, 1, 0, 0, 0, 0), (.getfield 21, 3, 2, 1, 5, 1232), (.getfield 50, 3, 0, 0, 6, 1127), (.bipush 40, 2, 0, 0, 0, 0), (.if_icmp .lt 7, 3, 73, 0, 0, 0)]),
  (69, [(.iconst 1, 1, 0, 0, 0, 0), (.goto 4, 3, 74, 0, 0, 0)]),
  (73, [(.iconst 0, 1, 0, 0, 0, 0)]),
  (74, [(.ireturn, 1, 0, 1, 0, 0)]),
  (75, [(.iload_n 1, 1, 0, 0, 0, 0), (.bipush 17, 2, 0, 0, 0, 0), (.if_icmp .lt 25, 3, 103, 0, 0, 0)]),
  (81, [(.iload_n 1, 1, 0, 0, 0, 0), (.bipush 21, 2, 0, 0, 0, 0), (.if_icmp .ge 19, 3, 103, 0, 0, 0)]),
  (87, [(.aload_n 0, 1, 0, 0, 0, 0), (.getfield 28, 3, 3, 1, 5, 1233), (.getfield 54, 3, 0, 0, 2, 1151), (.bipush 20, 2, 0, 0, 0, 0), (.if_icmp .lt 7, 3, 103, 0, 0, 0)]),
  (99, [(.iconst 1, 1, 0, 0, 0, 0), (.goto 4, 3, 104, 0, 0, 0)]),
  (103, [(.iconst 0, 1, 0, 0, 0, 0)]),
  (104, [(.ireturn, 1, 0, 1, 0, 0)])]
def X_Reader_isOneTooMany : MX := (⟨"YearsForCoin$Reader", "isOneTooMany", "(I)Z"⟩, prog_7_method_8_code, 2, (some .boolean), 1, (3115, 1007, 3114, 7), B_Reader_isOneTooMany)
def B_Reader_note : MB := [(0, [(.aload_n 0, 1, 0, 0, 0, 0), (.getfield 61, 3, 11, 0, 5, 2001), (.ifCond .ne 13, 3, 17, 0, 0, 0)]),
  (7, [(.aload_n 0, 1, 0, 0, 0, 0), (.iload_n 1, 1, 0, 0, 0, 0), (.putfield 61, 3, 11, 0, 5, 2001), (.aload_n 0, 1, 0, 0, 0, 0), (.iload_n 2, 1, 0, 0, 0, 0), (.putfield 64, 3, 12, 0, 5, 2003)]),
  (17, [(.return_, 1, 0, 0, 0, 0)])]
def X_Reader_note : MX := (⟨"YearsForCoin$Reader", "note", "(II)V"⟩, prog_7_method_7_code, 3, none, 2, (3119, 1007, 3118, 8), B_Reader_note)
def B_Reader_takeNumber : MB := [(0, [(.iload_n 2, 1, 0, 0, 0, 0), (.ifCond .lt 8, 3, 9, 0, 0, 0)]),
  (4, [(.iload_n 2, 1, 0, 0, 0, 0), (.iconst 4, 1, 0, 0, 0, 0), (.if_icmp .lt 4, 3, 10, 0, 0, 0)]),
  (9, [(.return_, 1, 0, 0, 0, 0)]),
  (10, [(.iload_n 1, 1, 0, 0, 0, 0), (.iconst 4, 1, 0, 0, 0, 0), (.imul, 1, 0, 0, 0, 0), (.iload_n 2, 1, 0, 0, 0, 0), (.iadd, 1, 0, 0, 0, 0), (.istore_n 3, 1, 0, 0, 0, 0), (.iload_n 1, 1, 0, 0, 0, 0), (.iconst 4, 1, 0, 0, 0, 0), (.if_icmp .ne 25, 3, 43, 0, 0, 0)]),
  (21, [(.iload_n 2, 1, 0, 0, 0, 0), (.iconst 1, 1, 0, 0, 0, 0), (.if_icmp .ne 20, 3, 43, 0, 0, 0)]),
  (26, [(.aload_n 0, 1, 0, 0, 0, 0), (.getfield 147, 3, 9, 0, 5, 1239), (.aload_n 0, 1, 0, 0, 0, 0), (.getfield 39, 3, 5, 1, 5, 1235), (.iconst 0, 1, 0, 0, 0, 0), (.iaload, 1, 0, 0, 0, 0), (.if_icmp .ne 7, 3, 43, 0, 0, 0)]),
  (39, [(.iconst 1, 1, 0, 0, 0, 0), (.goto 4, 3, 44, 0, 0, 0)]),
  (43, [(.iconst 0, 1, 0, 0, 0, 0)]),
  (44, [(.istore 4, 2, 0, 0, 0, 0), (.aload_n 0, 1, 0, 0, 0, 0), (.getfield 147, 3, 9, 0, 5, 1239), (.getstatic 150, 3, 2, 0, 0, 3124), (.iload_n 3, 1, 0, 0, 0, 0), (.iaload, 1, 0, 0, 0, 0), (.if_icmp .lt 20, 3, 75, 0, 0, 0)]),
  (58, [(.aload_n 0, 1, 0, 0, 0, 0), (.getfield 147, 3, 9, 0, 5, 1239), (.getstatic 153, 3, 3, 0, 0, 3126), (.iload_n 3, 1, 0, 0, 0, 0), (.iaload, 1, 0, 0, 0, 0), (.if_icmp .gt 8, 3, 75, 0, 0, 0)]),
  (70, [(.iload 4, 2, 0, 0, 0, 0), (.ifCond .eq 12, 3, 84, 0, 0, 0)]),
  (75, [(.aload_n 0, 1, 0, 0, 0, 0), (.iconst 2, 1, 0, 0, 0, 0), (.aload_n 0, 1, 0, 0, 0, 0), (.getfield 138, 3, 8, 0, 5, 1238), (.invokevirtual 91, 3, 43, 2, 5, 3116)]),
  (84, [(.aload_n 0, 1, 0, 0, 0, 0), (.getfield 39, 3, 5, 1, 5, 1235), (.iload_n 2, 1, 0, 0, 0, 0), (.aload_n 0, 1, 0, 0, 0, 0), (.getfield 147, 3, 9, 0, 5, 1239), (.iastore, 1, 0, 0, 0, 0), (.aload_n 0, 1, 0, 0, 0, 0), (.invokevirtual 70, 3, 26, 0, 5, 3005)]),
  (98, [(.return_, 1, 0, 0, 0, 0)])]
def X_Reader_takeNumber : MX := (⟨"YearsForCoin$Reader", "takeNumber", "(II)V"⟩, prog_7_method_5_code, 5, none, 2, (3123, 1007, 3122, 9), B_Reader_takeNumber)
def B_Reader_tell : MB := [(0, [(.iload_n 1, 1, 0, 0, 0, 0), (.bipush 21, 2, 0, 0, 0, 0), (.if_icmp .lt 11, 3, 14, 0, 0, 0)]),
  (6, [(.aload_n 0, 1, 0, 0, 0, 0), (.iload_n 1, 1, 0, 0, 0, 0), (.invokevirtual 162, 3, 46, 1, 5, 3132)]),
  (11, [(.goto 126, 3, 137, 0, 0, 0)]),
  (14, [(.iload_n 1, 1, 0, 0, 0, 0), (.bipush 17, 2, 0, 0, 0, 0), (.if_icmp .lt 23, 3, 40, 0, 0, 0)]),
  (20, [(.aload_n 0, 1, 0, 0, 0, 0), (.getfield 28, 3, 3, 1, 5, 1233), (.iload_n 1, 1, 0, 0, 0, 0), (.bipush 17, 2, 0, 0, 0, 0), (.isub, 1, 0, 0, 0, 0), (.aload_n 0, 1, 0, 0, 0, 0), (.getfield 39, 3, 5, 1, 5, 1235), (.iconst 0, 1, 0, 0, 0, 0), (.iaload, 1, 0, 0, 0, 0), (.invokevirtual 165, 3, 48, 2, 2, 3140)]),
  (37, [(.goto 100, 3, 137, 0, 0, 0)]),
  (40, [(.iload_n 1, 1, 0, 0, 0, 0), (.bipush 10, 2, 0, 0, 0, 0), (.if_icmp .lt 52, 3, 95, 0, 0, 0)]),
  (46, [(.getstatic 128, 3, 1, 0, 0, 3106), (.iload_n 1, 1, 0, 0, 0, 0), (.iaload, 1, 0, 0, 0, 0), (.istore_n 2, 1, 0, 0, 0, 0), (.aload_n 0, 1, 0, 0, 0, 0), (.getfield 21, 3, 2, 1, 5, 1232), (.iload_n 1, 1, 0, 0, 0, 0), (.bipush 10, 2, 0, 0, 0, 0), (.isub, 1, 0, 0, 0, 0), (.iload_n 2, 1, 0, 0, 0, 0), (.ifCond .le 12, 3, 73, 0, 0, 0)]),
  (64, [(.aload_n 0, 1, 0, 0, 0, 0), (.getfield 39, 3, 5, 1, 5, 1235), (.iconst 0, 1, 0, 0, 0, 0), (.iaload, 1, 0, 0, 0, 0), (.goto 4, 3, 74, 0, 0, 0)]),
  (73, [(.iconst (-1), 1, 0, 0, 0, 0)]),
  (74, [(.iload_n 2, 1, 0, 0, 0, 0), (.iconst 1, 1, 0, 0, 0, 0), (.if_icmp .le 12, 3, 88, 0, 0, 0)]),
  (79, [(.aload_n 0, 1, 0, 0, 0, 0), (.getfield 39, 3, 5, 1, 5, 1235), (.iconst 1, 1, 0, 0, 0, 0), (.iaload, 1, 0, 0, 0, 0), (.goto 4, 3, 89, 0, 0, 0)]),
  (88, [(.iconst (-1), 1, 0, 0, 0, 0)]),
  (89, [(.invokevirtual 168, 3, 49, 3, 6, 3144)]),
  (92, [(.goto 45, 3, 137, 0, 0, 0)]),
  (95, [(.iload_n 1, 1, 0, 0, 0, 0), (.iconst 4, 1, 0, 0, 0, 0), (.if_icmp .ge 35, 3, 132, 0, 0, 0)]),
  (100, [(.aload_n 0, 1, 0, 0, 0, 0), (.getfield 12, 3, 1, 1, 5, 1231), (.iload_n 1, 1, 0, 0, 0, 0), (.aload_n 0, 1, 0, 0, 0, 0), (.getfield 39, 3, 5, 1, 5, 1235), (.invokevirtual 172, 3, 50, 2, 1, 3148)]),
  (112, [(.aload_n 0, 1, 0, 0, 0, 0), (.dup, 1, 0, 0, 0, 0), (.getfield 58, 3, 10, 0, 5, 2000), (.iconst 1, 1, 0, 0, 0, 0), (.aload_n 0, 1, 0, 0, 0, 0), (.getfield 39, 3, 5, 1, 5, 1235), (.iconst 0, 1, 0, 0, 0, 0), (.iaload, 1, 0, 0, 0, 0), (.ishl, 1, 0, 0, 0, 0), (.ior, 1, 0, 0, 0, 0), (.putfield 58, 3, 10, 0, 5, 2000), (.goto 8, 3, 137, 0, 0, 0)]),
  (132, [(.aload_n 0, 1, 0, 0, 0, 0), (.iload_n 1, 1, 0, 0, 0, 0), (.invokevirtual 176, 3, 51, 1, 5, 3152)]),
  (137, [(.return_, 1, 0, 0, 0, 0)])]
def X_Reader_tell : MX := (⟨"YearsForCoin$Reader", "tell", "(I)V"⟩, prog_7_method_9_code, 3, none, 1, (3131, 1007, 3130, 10), B_Reader_tell)
def B_Reader_tellBargain : MB := [(0, [(.iload_n 1, 1, 0, 0, 0, 0), (.bipush 21, 2, 0, 0, 0, 0), (.if_icmp .ne 19, 3, 22, 0, 0, 0)]),
  (6, [(.aload_n 0, 1, 0, 0, 0, 0), (.getfield 35, 3, 4, 1, 5, 1234), (.aload_n 0, 1, 0, 0, 0, 0), (.getfield 39, 3, 5, 1, 5, 1235), (.iconst 0, 1, 0, 0, 0, 0), (.iaload, 1, 0, 0, 0, 0), (.putfield 83, 3, 0, 0, 0, 1169), (.goto 37, 3, 56, 0, 0, 0)]),
  (22, [(.aload_n 0, 1, 0, 0, 0, 0), (.getfield 35, 3, 4, 1, 5, 1234), (.aload_n 0, 1, 0, 0, 0, 0), (.getfield 39, 3, 5, 1, 5, 1235), (.iconst 0, 1, 0, 0, 0, 0), (.iaload, 1, 0, 0, 0, 0), (.aload_n 0, 1, 0, 0, 0, 0), (.getfield 39, 3, 5, 1, 5, 1235), (.iconst 1, 1, 0, 0, 0, 0), (.iaload, 1, 0, 0, 0, 0), (.invokevirtual 194, 3, 47, 2, 0, 3136)]),
  (41, [(.aload_n 0, 1, 0, 0, 0, 0), (.dup, 1, 0, 0, 0, 0), (.getfield 58, 3, 10, 0, 5, 2000), (.aload_n 0, 1, 0, 0, 0, 0), (.getfield 39, 3, 5, 1, 5, 1235), (.iconst 0, 1, 0, 0, 0, 0), (.iaload, 1, 0, 0, 0, 0), (.ior, 1, 0, 0, 0, 0), (.putfield 58, 3, 10, 0, 5, 2000)]),
  (56, [(.return_, 1, 0, 0, 0, 0)])]
def X_Reader_tellBargain : MX := (⟨"YearsForCoin$Reader", "tellBargain", "(I)V"⟩, prog_7_method_11_code, 2, none, 1, (3135, 1007, 3134, 11), B_Reader_tellBargain)
def B_Bargain_setWorth : MB := [(0, [(.iload_n 1, 1, 0, 0, 0, 0), (.ifCond .lt 16, 3, 17, 0, 0, 0)]),
  (4, [(.iload_n 1, 1, 0, 0, 0, 0), (.bipush 16, 2, 0, 0, 0, 0), (.if_icmp .ge 10, 3, 17, 0, 0, 0)]),
  (10, [(.aload_n 0, 1, 0, 0, 0, 0), (.getfield 15, 3, 1, 1, 0, 1171), (.iload_n 1, 1, 0, 0, 0, 0), (.iload_n 2, 1, 0, 0, 0, 0), (.iastore, 1, 0, 0, 0, 0)]),
  (17, [(.return_, 1, 0, 0, 0, 0)])]
def X_Bargain_setWorth : MX := (⟨"YearsForCoin$Bargain", "setWorth", "(II)V"⟩, prog_2_method_4_code, 3, none, 2, (3139, 1006, 3137, 3138), B_Bargain_setWorth)
def B_Ledger_addEntry : MB := [(0, [(.aload_n 0, 1, 0, 0, 0, 0), (.getfield 18, 3, 0, 0, 2, 1150), (.bipush 20, 2, 0, 0, 0, 0), (.if_icmp .lt 4, 3, 10, 0, 0, 0)]),
  (9, [(.return_, 1, 0, 0, 0, 0)]),
  (10, [(.aload_n 0, 1, 0, 0, 0, 0), (.getfield 9, 3, 1, 1, 2, 1153), (.aload_n 0, 1, 0, 0, 0, 0), (.getfield 18, 3, 0, 0, 2, 1150), (.iload_n 1, 1, 0, 0, 0, 0), (.iastore, 1, 0, 0, 0, 0), (.aload_n 0, 1, 0, 0, 0, 0), (.getfield 15, 3, 2, 1, 2, 1154), (.aload_n 0, 1, 0, 0, 0, 0), (.getfield 18, 3, 0, 0, 2, 1150), (.iload_n 2, 1, 0, 0, 0, 0), (.iastore, 1, 0, 0, 0, 0), (.aload_n 0, 1, 0, 0, 0, 0), (.dup, 1, 0, 0, 0, 0), (.getfield 18, 3, 0, 0, 2, 1150), (.iconst 1, 1, 0, 0, 0, 0), (.iadd, 1, 0, 0, 0, 0), (.putfield 18, 3, 0, 0, 2, 1150), (.return_, 1, 0, 0, 0, 0)])]
def X_Ledger_addEntry : MX := (⟨"YearsForCoin$Ledger", "addEntry", "(II)V"⟩, prog_4_method_3_code, 3, none, 2, (3143, 1005, 3141, 3142), B_Ledger_addEntry)
def B_Season_addDeed : MB := [(0, [(.aload_n 0, 1, 0, 0, 0, 0), (.getfield 21, 3, 0, 0, 6, 1126), (.bipush 40, 2, 0, 0, 0, 0), (.if_icmp .lt 4, 3, 10, 0, 0, 0)]),
  (9, [(.return_, 1, 0, 0, 0, 0)]),
  (10, [(.aload_n 0, 1, 0, 0, 0, 0), (.getfield 9, 3, 1, 1, 6, 1130), (.aload_n 0, 1, 0, 0, 0, 0), (.getfield 21, 3, 0, 0, 6, 1126), (.iload_n 1, 1, 0, 0, 0, 0), (.iastore, 1, 0, 0, 0, 0), (.aload_n 0, 1, 0, 0, 0, 0), (.getfield 15, 3, 2, 1, 6, 1132), (.aload_n 0, 1, 0, 0, 0, 0), (.getfield 21, 3, 0, 0, 6, 1126), (.iload_n 2, 1, 0, 0, 0, 0), (.iastore, 1, 0, 0, 0, 0), (.aload_n 0, 1, 0, 0, 0, 0), (.getfield 18, 3, 3, 1, 6, 1134), (.aload_n 0, 1, 0, 0, 0, 0), (.getfield 21, 3, 0, 0, 6, 1126), (.iload_n 3, 1, 0, 0, 0, 0), (.iastore, 1, 0, 0, 0, 0), (.aload_n 0, 1, 0, 0, 0, 0), (.dup, 1, 0, 0, 0, 0), (.getfield 21, 3, 0, 0, 6, 1126), (.iconst 1, 1, 0, 0, 0, 0), (.iadd, 1, 0, 0, 0, 0), (.putfield 21, 3, 0, 0, 6, 1126), (.return_, 1, 0, 0, 0, 0)])]
def X_Season_addDeed : MX := (⟨"YearsForCoin$Season", "addDeed", "(III)V"⟩, prog_8_method_3_code, 4, none, 3, (3147, 1004, 3145, 3146), B_Season_addDeed)
def B_Land_addBuyer : MB := [(0, [(.aload_n 0, 1, 0, 0, 0, 0), (.getfield 49, 3, 4, 0, 1, 1065), (.bipush 8, 2, 0, 0, 0, 0), (.if_icmp .ge 9, 3, 15, 0, 0, 0)]),
  (9, [(.aload_n 2, 1, 0, 0, 0, 0), (.arraylength, 1, 0, 0, 0, 0), (.iconst 4, 1, 0, 0, 0, 0), (.if_icmp .ge 4, 3, 16, 0, 0, 0)]),
  (15, [(.return_, 1, 0, 0, 0, 0)]),
  (16, [(.aload_n 0, 1, 0, 0, 0, 0), (.getfield 15, 3, 6, 1, 1, 1071), (.aload_n 0, 1, 0, 0, 0, 0), (.getfield 49, 3, 4, 0, 1, 1065), (.iload_n 1, 1, 0, 0, 0, 0), (.iastore, 1, 0, 0, 0, 0), (.aload_n 0, 1, 0, 0, 0, 0), (.getfield 19, 3, 7, 1, 1, 1073), (.aload_n 0, 1, 0, 0, 0, 0), (.getfield 49, 3, 4, 0, 1, 1065), (.aload_n 2, 1, 0, 0, 0, 0), (.iconst 0, 1, 0, 0, 0, 0), (.iaload, 1, 0, 0, 0, 0), (.iastore, 1, 0, 0, 0, 0), (.aload_n 0, 1, 0, 0, 0, 0), (.getfield 22, 3, 8, 1, 1, 1075), (.aload_n 0, 1, 0, 0, 0, 0), (.getfield 49, 3, 4, 0, 1, 1065), (.aload_n 2, 1, 0, 0, 0, 0), (.iconst 1, 1, 0, 0, 0, 0), (.iaload, 1, 0, 0, 0, 0), (.iastore, 1, 0, 0, 0, 0), (.aload_n 0, 1, 0, 0, 0, 0), (.getfield 25, 3, 9, 1, 1, 1078), (.aload_n 0, 1, 0, 0, 0, 0), (.getfield 49, 3, 4, 0, 1, 1065), (.aload_n 2, 1, 0, 0, 0, 0), (.iconst 2, 1, 0, 0, 0, 0), (.iaload, 1, 0, 0, 0, 0), (.iastore, 1, 0, 0, 0, 0), (.aload_n 0, 1, 0, 0, 0, 0), (.getfield 28, 3, 10, 1, 1, 1081), (.aload_n 0, 1, 0, 0, 0, 0), (.getfield 49, 3, 4, 0, 1, 1065), (.aload_n 2, 1, 0, 0, 0, 0), (.iconst 3, 1, 0, 0, 0, 0), (.iaload, 1, 0, 0, 0, 0), (.iastore, 1, 0, 0, 0, 0), (.aload_n 0, 1, 0, 0, 0, 0), (.dup, 1, 0, 0, 0, 0), (.getfield 49, 3, 4, 0, 1, 1065), (.iconst 1, 1, 0, 0, 0, 0), (.iadd, 1, 0, 0, 0, 0), (.putfield 49, 3, 4, 0, 1, 1065), (.return_, 1, 0, 0, 0, 0)])]
def X_Land_addBuyer : MX := (⟨"YearsForCoin$Land", "addBuyer", "(I[I)V"⟩, prog_3_method_4_code, 3, none, 2, (3151, 1003, 3149, 3150), B_Land_addBuyer)
def B_Reader_tellLand : MB := [(0, [(.iload_n 1, 1, 0, 0, 0, 0), (.tableswitch 183 4 8 #[35, 89, 111, 127, 167], 35, 0, 0, 0, 0)]),
  (36, [(.aload_n 0, 1, 0, 0, 0, 0), (.getfield 12, 3, 1, 1, 5, 1231), (.aload_n 0, 1, 0, 0, 0, 0), (.getfield 39, 3, 5, 1, 5, 1235), (.iconst 0, 1, 0, 0, 0, 0), (.iaload, 1, 0, 0, 0, 0), (.aload_n 0, 1, 0, 0, 0, 0), (.getfield 39, 3, 5, 1, 5, 1235), (.iconst 1, 1, 0, 0, 0, 0), (.iaload, 1, 0, 0, 0, 0), (.aload_n 0, 1, 0, 0, 0, 0), (.getfield 39, 3, 5, 1, 5, 1235), (.iconst 2, 1, 0, 0, 0, 0), (.iaload, 1, 0, 0, 0, 0), (.invokevirtual 179, 3, 52, 3, 1, 3156)]),
  (61, [(.aload_n 0, 1, 0, 0, 0, 0), (.dup, 1, 0, 0, 0, 0), (.getfield 58, 3, 10, 0, 5, 2000), (.iconst 1, 1, 0, 0, 0, 0), (.aload_n 0, 1, 0, 0, 0, 0), (.getfield 39, 3, 5, 1, 5, 1235), (.iconst 0, 1, 0, 0, 0, 0), (.iaload, 1, 0, 0, 0, 0), (.ishl, 1, 0, 0, 0, 0), (.iconst 1, 1, 0, 0, 0, 0), (.aload_n 0, 1, 0, 0, 0, 0), (.getfield 39, 3, 5, 1, 5, 1235), (.iconst 1, 1, 0, 0, 0, 0), (.iaload, 1, 0, 0, 0, 0), (.ishl, 1, 0, 0, 0, 0), (.ior, 1, 0, 0, 0, 0), (.ior, 1, 0, 0, 0, 0), (.putfield 58, 3, 10, 0, 5, 2000), (.goto 110, 3, 197, 0, 0, 0)]),
  (90, [(.aload_n 0, 1, 0, 0, 0, 0), (.getfield 12, 3, 1, 1, 5, 1231), (.aload_n 0, 1, 0, 0, 0, 0), (.getfield 39, 3, 5, 1, 5, 1235), (.iconst 0, 1, 0, 0, 0, 0), (.iaload, 1, 0, 0, 0, 0), (.aload_n 0, 1, 0, 0, 0, 0), (.getfield 39, 3, 5, 1, 5, 1235), (.iconst 1, 1, 0, 0, 0, 0), (.iaload, 1, 0, 0, 0, 0), (.invokevirtual 182, 3, 53, 2, 1, 3160)]),
  (109, [(.goto 88, 3, 197, 0, 0, 0)]),
  (112, [(.aload_n 0, 1, 0, 0, 0, 0), (.getfield 12, 3, 1, 1, 5, 1231), (.aload_n 0, 1, 0, 0, 0, 0), (.getfield 39, 3, 5, 1, 5, 1235), (.iconst 0, 1, 0, 0, 0, 0), (.iaload, 1, 0, 0, 0, 0), (.putfield 80, 3, 0, 0, 1, 1051), (.goto 72, 3, 197, 0, 0, 0)]),
  (128, [(.aload_n 0, 1, 0, 0, 0, 0), (.getfield 12, 3, 1, 1, 5, 1231), (.dup, 1, 0, 0, 0, 0), (.getfield 185, 3, 3, 0, 1, 1063), (.iconst 1, 1, 0, 0, 0, 0), (.aload_n 0, 1, 0, 0, 0, 0), (.getfield 39, 3, 5, 1, 5, 1235), (.iconst 0, 1, 0, 0, 0, 0), (.iaload, 1, 0, 0, 0, 0), (.ishl, 1, 0, 0, 0, 0), (.ior, 1, 0, 0, 0, 0), (.putfield 185, 3, 3, 0, 1, 1063), (.aload_n 0, 1, 0, 0, 0, 0), (.dup, 1, 0, 0, 0, 0), (.getfield 58, 3, 10, 0, 5, 2000), (.iconst 1, 1, 0, 0, 0, 0), (.aload_n 0, 1, 0, 0, 0, 0), (.getfield 39, 3, 5, 1, 5, 1235), (.iconst 0, 1, 0, 0, 0, 0), (.iaload, 1, 0, 0, 0, 0), (.ishl, 1, 0, 0, 0, 0), (.ior, 1, 0, 0, 0, 0), (.putfield 58, 3, 10, 0, 5, 2000), (.goto 32, 3, 197, 0, 0, 0)]),
  (168, [(.aload_n 0, 1, 0, 0, 0, 0), (.getfield 12, 3, 1, 1, 5, 1231), (.aload_n 0, 1, 0, 0, 0, 0), (.getfield 39, 3, 5, 1, 5, 1235), (.iconst 0, 1, 0, 0, 0, 0), (.iaload, 1, 0, 0, 0, 0), (.putfield 188, 3, 1, 0, 1, 1055), (.goto 16, 3, 197, 0, 0, 0)]),
  (184, [(.aload_n 0, 1, 0, 0, 0, 0), (.getfield 12, 3, 1, 1, 5, 1231), (.aload_n 0, 1, 0, 0, 0, 0), (.getfield 39, 3, 5, 1, 5, 1235), (.iconst 0, 1, 0, 0, 0, 0), (.iaload, 1, 0, 0, 0, 0), (.putfield 191, 3, 2, 0, 1, 1058)]),
  (197, [(.return_, 1, 0, 0, 0, 0)])]
def X_Reader_tellLand : MX := (⟨"YearsForCoin$Reader", "tellLand", "(I)V"⟩, prog_7_method_10_code, 2, none, 1, (3155, 1007, 3154, 12), B_Reader_tellLand)
def B_Land_layRoad : MB := [(0, [(.iload_n 1, 1, 0, 0, 0, 0), (.ifCond .lt 19, 3, 20, 0, 0, 0)]),
  (4, [(.iload_n 1, 1, 0, 0, 0, 0), (.bipush 6, 2, 0, 0, 0, 0), (.if_icmp .ge 13, 3, 20, 0, 0, 0)]),
  (10, [(.iload_n 2, 1, 0, 0, 0, 0), (.ifCond .lt 9, 3, 20, 0, 0, 0)]),
  (14, [(.iload_n 2, 1, 0, 0, 0, 0), (.bipush 6, 2, 0, 0, 0, 0), (.if_icmp .lt 4, 3, 21, 0, 0, 0)]),
  (20, [(.return_, 1, 0, 0, 0, 0)]),
  (21, [(.aload_n 0, 1, 0, 0, 0, 0), (.getfield 37, 3, 13, 1, 1, 1089), (.iload_n 1, 1, 0, 0, 0, 0), (.bipush 6, 2, 0, 0, 0, 0), (.imul, 1, 0, 0, 0, 0), (.iload_n 2, 1, 0, 0, 0, 0), (.iadd, 1, 0, 0, 0, 0), (.iload_n 3, 1, 0, 0, 0, 0), (.iastore, 1, 0, 0, 0, 0), (.aload_n 0, 1, 0, 0, 0, 0), (.getfield 37, 3, 13, 1, 1, 1089), (.iload_n 2, 1, 0, 0, 0, 0), (.bipush 6, 2, 0, 0, 0, 0), (.imul, 1, 0, 0, 0, 0), (.iload_n 1, 1, 0, 0, 0, 0), (.iadd, 1, 0, 0, 0, 0), (.iload_n 3, 1, 0, 0, 0, 0), (.iastore, 1, 0, 0, 0, 0), (.return_, 1, 0, 0, 0, 0)])]
def X_Land_layRoad : MX := (⟨"YearsForCoin$Land", "layRoad", "(III)V"⟩, prog_3_method_6_code, 4, none, 3, (3159, 1003, 3157, 3158), B_Land_layRoad)
def B_Land_addLetter : MB := [(0, [(.aload_n 0, 1, 0, 0, 0, 0), (.getfield 52, 3, 5, 0, 1, 1068), (.iconst 4, 1, 0, 0, 0, 0), (.if_icmp .lt 4, 3, 9, 0, 0, 0)]),
  (8, [(.return_, 1, 0, 0, 0, 0)]),
  (9, [(.aload_n 0, 1, 0, 0, 0, 0), (.getfield 31, 3, 11, 1, 1, 1083), (.aload_n 0, 1, 0, 0, 0, 0), (.getfield 52, 3, 5, 0, 1, 1068), (.iload_n 1, 1, 0, 0, 0, 0), (.iastore, 1, 0, 0, 0, 0), (.aload_n 0, 1, 0, 0, 0, 0), (.getfield 34, 3, 12, 1, 1, 1086), (.aload_n 0, 1, 0, 0, 0, 0), (.getfield 52, 3, 5, 0, 1, 1068), (.iload_n 2, 1, 0, 0, 0, 0), (.iastore, 1, 0, 0, 0, 0), (.aload_n 0, 1, 0, 0, 0, 0), (.dup, 1, 0, 0, 0, 0), (.getfield 52, 3, 5, 0, 1, 1068), (.iconst 1, 1, 0, 0, 0, 0), (.iadd, 1, 0, 0, 0, 0), (.putfield 52, 3, 5, 0, 1, 1068), (.return_, 1, 0, 0, 0, 0)])]
def X_Land_addLetter : MX := (⟨"YearsForCoin$Land", "addLetter", "(II)V"⟩, prog_3_method_5_code, 3, none, 2, (3163, 1003, 3161, 3162), B_Land_addLetter)
def B_Reader_keepAs : MB := [(0, [(.iload_n 2, 1, 0, 0, 0, 0), (.ifCond .lt 8, 3, 9, 0, 0, 0)]),
  (4, [(.iload_n 2, 1, 0, 0, 0, 0), (.iconst 2, 1, 0, 0, 0, 0), (.if_icmp .lt 4, 3, 10, 0, 0, 0)]),
  (9, [(.return_, 1, 0, 0, 0, 0)]),
  (10, [(.iload_n 1, 1, 0, 0, 0, 0), (.tableswitch 82 0 2 #[25, 44, 63], 25, 0, 0, 0, 0)]),
  (36, [(.aload_n 0, 1, 0, 0, 0, 0), (.getfield 43, 3, 0, 1, 5, 1230), (.getfield 95, 3, 5, 1, 8, 1189), (.iload_n 2, 1, 0, 0, 0, 0), (.aaload, 1, 0, 4, 0, 0), (.aload_n 0, 1, 0, 0, 0, 0), (.getfield 12, 3, 1, 1, 5, 1231), (.invokevirtual 99, 3, 55, 1, 1, 3168)]),
  (52, [(.goto 57, 3, 109, 0, 0, 0)]),
  (55, [(.aload_n 0, 1, 0, 0, 0, 0), (.getfield 43, 3, 0, 1, 5, 1230), (.getfield 103, 3, 6, 1, 8, 1191), (.iload_n 2, 1, 0, 0, 0, 0), (.aaload, 1, 0, 5, 0, 0), (.aload_n 0, 1, 0, 0, 0, 0), (.getfield 21, 3, 2, 1, 5, 1232), (.invokevirtual 107, 3, 56, 1, 6, 3175)]),
  (71, [(.goto 38, 3, 109, 0, 0, 0)]),
  (74, [(.aload_n 0, 1, 0, 0, 0, 0), (.getfield 43, 3, 0, 1, 5, 1230), (.getfield 110, 3, 7, 1, 8, 1193), (.iload_n 2, 1, 0, 0, 0, 0), (.aaload, 1, 0, 6, 0, 0), (.aload_n 0, 1, 0, 0, 0, 0), (.getfield 28, 3, 3, 1, 5, 1233), (.invokevirtual 114, 3, 57, 1, 2, 3180)]),
  (90, [(.goto 19, 3, 109, 0, 0, 0)]),
  (93, [(.aload_n 0, 1, 0, 0, 0, 0), (.getfield 43, 3, 0, 1, 5, 1230), (.getfield 117, 3, 8, 1, 8, 1195), (.iload_n 2, 1, 0, 0, 0, 0), (.aaload, 1, 0, 7, 0, 0), (.aload_n 0, 1, 0, 0, 0, 0), (.getfield 35, 3, 4, 1, 5, 1234), (.invokevirtual 121, 3, 58, 1, 0, 3185)]),
  (109, [(.return_, 1, 0, 0, 0, 0)])]
def X_Reader_keepAs : MX := (⟨"YearsForCoin$Reader", "keepAs", "(II)V"⟩, prog_7_method_3_code, 3, none, 2, (3167, 1007, 3165, 3166), B_Reader_keepAs)
def B_Land_become : MB := [(0, [(.aload_n 0, 1, 0, 0, 0, 0), (.aload_n 1, 1, 0, 0, 0, 0), (.getfield 9, 3, 0, 0, 1, 1049), (.putfield 9, 3, 0, 0, 1, 1049), (.aload_n 0, 1, 0, 0, 0, 0), (.aload_n 1, 1, 0, 0, 0, 0), (.getfield 40, 3, 1, 0, 1, 1054), (.putfield 40, 3, 1, 0, 1, 1054), (.aload_n 0, 1, 0, 0, 0, 0), (.aload_n 1, 1, 0, 0, 0, 0), (.getfield 43, 3, 2, 0, 1, 1057), (.putfield 43, 3, 2, 0, 1, 1057), (.aload_n 0, 1, 0, 0, 0, 0), (.aload_n 1, 1, 0, 0, 0, 0), (.getfield 46, 3, 3, 0, 1, 1060), (.putfield 46, 3, 3, 0, 1, 1060), (.aload_n 0, 1, 0, 0, 0, 0), (.aload_n 1, 1, 0, 0, 0, 0), (.getfield 49, 3, 4, 0, 1, 1065), (.putfield 49, 3, 4, 0, 1, 1065), (.aload_n 0, 1, 0, 0, 0, 0), (.aload_n 1, 1, 0, 0, 0, 0), (.getfield 52, 3, 5, 0, 1, 1068), (.putfield 52, 3, 5, 0, 1, 1068), (.aload_n 1, 1, 0, 0, 0, 0), (.getfield 15, 3, 6, 1, 1, 1071), (.iconst 0, 1, 0, 0, 0, 0), (.aload_n 0, 1, 0, 0, 0, 0), (.getfield 15, 3, 6, 1, 1, 1071), (.iconst 0, 1, 0, 0, 0, 0), (.bipush 8, 2, 0, 0, 0, 0), (.invokestatic 61, 3, 0, 4, 0, 3172), (.aload_n 1, 1, 0, 0, 0, 0), (.getfield 19, 3, 7, 1, 1, 1073), (.iconst 0, 1, 0, 0, 0, 0), (.aload_n 0, 1, 0, 0, 0, 0), (.getfield 19, 3, 7, 1, 1, 1073), (.iconst 0, 1, 0, 0, 0, 0), (.bipush 8, 2, 0, 0, 0, 0), (.invokestatic 61, 3, 0, 4, 0, 3172), (.aload_n 1, 1, 0, 0, 0, 0), (.getfield 22, 3, 8, 1, 1, 1075), (.iconst 0, 1, 0, 0, 0, 0), (.aload_n 0, 1, 0, 0, 0, 0), (.getfield 22, 3, 8, 1, 1, 1075), (.iconst 0, 1, 0, 0, 0, 0), (.bipush 8, 2, 0, 0, 0, 0), (.invokestatic 61, 3, 0, 4, 0, 3172), (.aload_n 1, 1, 0, 0, 0, 0), (.getfield 25, 3, 9, 1, 1, 1078), (.iconst 0, 1, 0, 0, 0, 0), (.aload_n 0, 1, 0, 0, 0, 0), (.getfield 25, 3, 9, 1, 1, 1078), (.iconst 0, 1, 0, 0, 0, 0), (.bipush 8, 2, 0, 0, 0, 0), (.invokestatic 61, 3, 0, 4, 0, 3172), (.aload_n 1, 1, 0, 0, 0, 0), (.getfield 28, 3, 10, 1, 1, 1081), (.iconst 0, 1, 0, 0, 0, 0), (.aload_n 0, 1, 0, 0, 0, 0), (.getfield 28, 3, 10, 1, 1, 1081), (.iconst 0, 1, 0, 0, 0, 0), (.bipush 8, 2, 0, 0, 0, 0), (.invokestatic 61, 3, 0, 4, 0, 3172), (.aload_n 1, 1, 0, 0, 0, 0), (.getfield 31, 3, 11, 1, 1, 1083), (.iconst 0, 1, 0, 0, 0, 0), (.aload_n 0, 1, 0, 0, 0, 0), (.getfield 31, 3, 11, 1, 1, 1083), (.iconst 0, 1, 0, 0, 0, 0), (.iconst 4, 1, 0, 0, 0, 0), (.invokestatic 61, 3, 0, 4, 0, 3172), (.aload_n 1, 1, 0, 0, 0, 0), (.getfield 34, 3, 12, 1, 1, 1086), (.iconst 0, 1, 0, 0, 0, 0), (.aload_n 0, 1, 0, 0, 0, 0), (.getfield 34, 3, 12, 1, 1, 1086), (.iconst 0, 1, 0, 0, 0, 0), (.iconst 4, 1, 0, 0, 0, 0), (.invokestatic 61, 3, 0, 4, 0, 3172), (.aload_n 1, 1, 0, 0, 0, 0), (.getfield 37, 3, 13, 1, 1, 1089), (.iconst 0, 1, 0, 0, 0, 0), (.aload_n 0, 1, 0, 0, 0, 0), (.getfield 37, 3, 13, 1, 1, 1089), (.iconst 0, 1, 0, 0, 0, 0), (.bipush 36, 2, 0, 0, 0, 0), (.invokestatic 61, 3, 0, 4, 0, 3172), (.return_, 1, 0, 0, 0, 0)])]
def X_Land_become : MX := (⟨"YearsForCoin$Land", "become", "(LYearsForCoin$Land;)V"⟩, prog_3_method_3_code, 2, none, 1, (3171, 1003, 3169, 3170), B_Land_become)
def B_Season_become : MB := [(0, [(.aload_n 0, 1, 0, 0, 0, 0), (.aload_n 1, 1, 0, 0, 0, 0), (.getfield 21, 3, 0, 0, 6, 1126), (.putfield 21, 3, 0, 0, 6, 1126), (.aload_n 1, 1, 0, 0, 0, 0), (.getfield 9, 3, 1, 1, 6, 1130), (.iconst 0, 1, 0, 0, 0, 0), (.aload_n 0, 1, 0, 0, 0, 0), (.getfield 9, 3, 1, 1, 6, 1130), (.iconst 0, 1, 0, 0, 0, 0), (.bipush 40, 2, 0, 0, 0, 0), (.invokestatic 25, 3, 0, 4, 0, 3179), (.aload_n 1, 1, 0, 0, 0, 0), (.getfield 15, 3, 2, 1, 6, 1132), (.iconst 0, 1, 0, 0, 0, 0), (.aload_n 0, 1, 0, 0, 0, 0), (.getfield 15, 3, 2, 1, 6, 1132), (.iconst 0, 1, 0, 0, 0, 0), (.bipush 40, 2, 0, 0, 0, 0), (.invokestatic 25, 3, 0, 4, 0, 3179), (.aload_n 1, 1, 0, 0, 0, 0), (.getfield 18, 3, 3, 1, 6, 1134), (.iconst 0, 1, 0, 0, 0, 0), (.aload_n 0, 1, 0, 0, 0, 0), (.getfield 18, 3, 3, 1, 6, 1134), (.iconst 0, 1, 0, 0, 0, 0), (.bipush 40, 2, 0, 0, 0, 0), (.invokestatic 25, 3, 0, 4, 0, 3179), (.return_, 1, 0, 0, 0, 0)])]
def X_Season_become : MX := (⟨"YearsForCoin$Season", "become", "(LYearsForCoin$Season;)V"⟩, prog_8_method_2_code, 2, none, 1, (3178, 1004, 3176, 3177), B_Season_become)
def B_Ledger_become : MB := [(0, [(.aload_n 0, 1, 0, 0, 0, 0), (.aload_n 1, 1, 0, 0, 0, 0), (.getfield 18, 3, 0, 0, 2, 1150), (.putfield 18, 3, 0, 0, 2, 1150), (.aload_n 1, 1, 0, 0, 0, 0), (.getfield 9, 3, 1, 1, 2, 1153), (.iconst 0, 1, 0, 0, 0, 0), (.aload_n 0, 1, 0, 0, 0, 0), (.getfield 9, 3, 1, 1, 2, 1153), (.iconst 0, 1, 0, 0, 0, 0), (.bipush 20, 2, 0, 0, 0, 0), (.invokestatic 22, 3, 0, 4, 0, 3184), (.aload_n 1, 1, 0, 0, 0, 0), (.getfield 15, 3, 2, 1, 2, 1154), (.iconst 0, 1, 0, 0, 0, 0), (.aload_n 0, 1, 0, 0, 0, 0), (.getfield 15, 3, 2, 1, 2, 1154), (.iconst 0, 1, 0, 0, 0, 0), (.bipush 20, 2, 0, 0, 0, 0), (.invokestatic 22, 3, 0, 4, 0, 3184), (.return_, 1, 0, 0, 0, 0)])]
def X_Ledger_become : MX := (⟨"YearsForCoin$Ledger", "become", "(LYearsForCoin$Ledger;)V"⟩, prog_4_method_2_code, 2, none, 1, (3183, 1005, 3181, 3182), B_Ledger_become)
def B_Bargain_become : MB := [(0, [(.aload_n 0, 1, 0, 0, 0, 0), (.aload_n 1, 1, 0, 0, 0, 0), (.getfield 9, 3, 0, 0, 0, 1167), (.putfield 9, 3, 0, 0, 0, 1167), (.aload_n 1, 1, 0, 0, 0, 0), (.getfield 15, 3, 1, 1, 0, 1171), (.iconst 0, 1, 0, 0, 0, 0), (.aload_n 0, 1, 0, 0, 0, 0), (.getfield 15, 3, 1, 1, 0, 1171), (.iconst 0, 1, 0, 0, 0, 0), (.bipush 16, 2, 0, 0, 0, 0), (.invokestatic 25, 3, 0, 4, 0, 3189), (.return_, 1, 0, 0, 0, 0)])]
def X_Bargain_become : MX := (⟨"YearsForCoin$Bargain", "become", "(LYearsForCoin$Bargain;)V"⟩, prog_2_method_3_code, 2, none, 1, (3188, 1006, 3186, 3187), B_Bargain_become)
def B_Main_fault : MB := [(0, [(.iload_n 1, 1, 0, 0, 0, 0), (.lookupswitch 43 #[(0, 27), (1, 35)], 27, 0, 0, 0, 0)]),
  (28, [(.aload_n 0, 1, 0, 0, 0, 0), (.getfield 10, 3, 0, 1, 11, 2180), (.getfield 101, 3, 2, 0, 8, 1183), (.ireturn, 1, 0, 0, 0, 0)]),
  (36, [(.aload_n 0, 1, 0, 0, 0, 0), (.getfield 10, 3, 0, 1, 11, 2180), (.getfield 102, 3, 3, 0, 8, 1185), (.ireturn, 1, 0, 0, 0, 0)]),
  (44, [(.iconst (-1), 1, 0, 0, 0, 0), (.ireturn, 1, 0, 0, 0, 0)])]
def X_Main_fault : MX := (⟨"YearsForCoin", "fault", "(I)I"⟩, prog_1_method_5_code, 2, (some .int), 1, (3194, 1001, 3192, 3193), B_Main_fault)
def B_Main_land : MB := [(0, [(.aload_n 0, 1, 0, 0, 0, 0), (.getfield 10, 3, 0, 1, 11, 2180), (.iload_n 1, 1, 0, 0, 0, 0), (.invokevirtual 103, 3, 61, 1, 8, 3199)]),
  (8, [(.astore_n 3, 1, 0, 0, 0, 0), (.aload_n 3, 1, 0, 0, 0, 0), (.ifnonnull 7, 3, 17, 0, 0, 0)]),
  (13, [(.iconst (-1), 1, 0, 0, 0, 0), (.goto 8, 3, 22, 0, 0, 0)]),
  (17, [(.aload_n 3, 1, 0, 0, 0, 0), (.iload_n 2, 1, 0, 0, 0, 0), (.invokevirtual 107, 3, 63, 1, 1, 3207)]),
  (22, [(.ireturn, 1, 0, 0, 0, 0)])]
def X_Main_land : MX := (⟨"YearsForCoin", "land", "(II)I"⟩, prog_1_method_6_code, 4, (some .int), 2, (3198, 1001, 3196, 3197), B_Main_land)
def B_Told_landAt : MB := [(0, [(.aload_n 0, 1, 0, 0, 0, 0), (.iconst 0, 1, 0, 0, 0, 0), (.iload_n 1, 1, 0, 0, 0, 0), (.invokevirtual 76, 3, 62, 2, 8, 3203)]),
  (6, [(.ifCond .eq 12, 3, 18, 0, 0, 0)]),
  (9, [(.aload_n 0, 1, 0, 0, 0, 0), (.getfield 25, 3, 5, 1, 8, 1188), (.iload_n 1, 1, 0, 0, 0, 0), (.aaload, 1, 0, 4, 0, 0), (.goto 4, 3, 19, 0, 0, 0)]),
  (18, [(.aconst_null, 1, 0, 0, 0, 0)]),
  (19, [(.areturn, 1, 0, 0, 0, 0)])]
def X_Told_landAt : MX := (⟨"YearsForCoin$Told", "landAt", "(I)LYearsForCoin$Land;"⟩, prog_10_method_7_code, 2, (some (.object "YearsForCoin$Land")), 1, (3202, 1002, 3200, 3201), B_Told_landAt)
def B_Told_has : MB := [(0, [(.iload_n 2, 1, 0, 0, 0, 0), (.ifCond .lt 22, 3, 23, 0, 0, 0)]),
  (4, [(.iload_n 2, 1, 0, 0, 0, 0), (.aload_n 0, 1, 0, 0, 0, 0), (.getfield 19, 3, 4, 1, 8, 1186), (.iload_n 1, 1, 0, 0, 0, 0), (.iaload, 1, 0, 0, 0, 0), (.if_icmp .ge 12, 3, 23, 0, 0, 0)]),
  (14, [(.iload_n 2, 1, 0, 0, 0, 0), (.iconst 2, 1, 0, 0, 0, 0), (.if_icmp .ge 7, 3, 23, 0, 0, 0)]),
  (19, [(.iconst 1, 1, 0, 0, 0, 0), (.goto 4, 3, 24, 0, 0, 0)]),
  (23, [(.iconst 0, 1, 0, 0, 0, 0)]),
  (24, [(.ireturn, 1, 0, 1, 0, 0)])]
def X_Told_has : MX := (⟨"YearsForCoin$Told", "has", "(II)Z"⟩, prog_10_method_6_code, 3, (some .boolean), 2, (3206, 1002, 3205, 13), B_Told_has)
def B_Land_toldOf : MB := [(0, [(.iload_n 1, 1, 0, 0, 0, 0), (.bipush 100, 2, 0, 0, 0, 0), (.if_icmp .lt 12, 3, 15, 0, 0, 0)]),
  (6, [(.aload_n 0, 1, 0, 0, 0, 0), (.iload_n 1, 1, 0, 0, 0, 0), (.bipush 100, 2, 0, 0, 0, 0), (.isub, 1, 0, 0, 0, 0), (.invokevirtual 71, 3, 64, 1, 1, 3211)]),
  (14, [(.ireturn, 1, 0, 0, 0, 0)]),
  (15, [(.iload_n 1, 1, 0, 0, 0, 0), (.bipush 60, 2, 0, 0, 0, 0), (.if_icmp .lt 16, 3, 34, 0, 0, 0)]),
  (21, [(.aload_n 0, 1, 0, 0, 0, 0), (.iload_n 1, 1, 0, 0, 0, 0), (.bipush 10, 2, 0, 0, 0, 0), (.idiv, 1, 0, 0, 0, 0), (.iload_n 1, 1, 0, 0, 0, 0), (.bipush 10, 2, 0, 0, 0, 0), (.irem, 1, 0, 0, 0, 0), (.invokevirtual 75, 3, 67, 2, 1, 3223)]),
  (33, [(.ireturn, 1, 0, 0, 0, 0)]),
  (34, [(.iload_n 1, 1, 0, 0, 0, 0), (.bipush 10, 2, 0, 0, 0, 0), (.if_icmp .lt 16, 3, 53, 0, 0, 0)]),
  (40, [(.aload_n 0, 1, 0, 0, 0, 0), (.iload_n 1, 1, 0, 0, 0, 0), (.bipush 10, 2, 0, 0, 0, 0), (.idiv, 1, 0, 0, 0, 0), (.iload_n 1, 1, 0, 0, 0, 0), (.bipush 10, 2, 0, 0, 0, 0), (.irem, 1, 0, 0, 0, 0), (.invokevirtual 79, 3, 69, 2, 1, 3231)]),
  (52, [(.ireturn, 1, 0, 0, 0, 0)]),
  (53, [(.iload_n 1, 1, 0, 0, 0, 0), (.tableswitch 68 0 5 #[38, 43, 48, 53, 58, 63], 38, 0, 0, 0, 0)]),
  (92, [(.aload_n 0, 1, 0, 0, 0, 0), (.getfield 9, 3, 0, 0, 1, 1049), (.ireturn, 1, 0, 0, 0, 0)]),
  (97, [(.aload_n 0, 1, 0, 0, 0, 0), (.getfield 49, 3, 4, 0, 1, 1065), (.ireturn, 1, 0, 0, 0, 0)]),
  (102, [(.aload_n 0, 1, 0, 0, 0, 0), (.getfield 52, 3, 5, 0, 1, 1068), (.ireturn, 1, 0, 0, 0, 0)]),
  (107, [(.aload_n 0, 1, 0, 0, 0, 0), (.getfield 40, 3, 1, 0, 1, 1054), (.ireturn, 1, 0, 0, 0, 0)]),
  (112, [(.aload_n 0, 1, 0, 0, 0, 0), (.getfield 43, 3, 2, 0, 1, 1057), (.ireturn, 1, 0, 0, 0, 0)]),
  (117, [(.aload_n 0, 1, 0, 0, 0, 0), (.getfield 46, 3, 3, 0, 1, 1060), (.ireturn, 1, 0, 0, 0, 0)]),
  (122, [(.iconst (-1), 1, 0, 0, 0, 0), (.ireturn, 1, 0, 0, 0, 0)])]
def X_Land_toldOf : MX := (⟨"YearsForCoin$Land", "toldOf", "(I)I"⟩, prog_3_method_11_code, 2, (some .int), 1, (3210, 1003, 3208, 3209), B_Land_toldOf)
def B_Land_toldOfRoad : MB := [(0, [(.iload_n 1, 1, 0, 0, 0, 0), (.bipush 6, 2, 0, 0, 0, 0), (.idiv, 1, 0, 0, 0, 0), (.istore_n 2, 1, 0, 0, 0, 0), (.iload_n 1, 1, 0, 0, 0, 0), (.bipush 6, 2, 0, 0, 0, 0), (.irem, 1, 0, 0, 0, 0), (.istore_n 3, 1, 0, 0, 0, 0), (.aload_n 0, 1, 0, 0, 0, 0), (.iload_n 2, 1, 0, 0, 0, 0), (.invokevirtual 67, 3, 65, 1, 1, 3215)]),
  (15, [(.ifCond .eq 20, 3, 35, 0, 0, 0)]),
  (18, [(.aload_n 0, 1, 0, 0, 0, 0), (.iload_n 3, 1, 0, 0, 0, 0), (.invokevirtual 67, 3, 65, 1, 1, 3215)]),
  (23, [(.ifCond .eq 12, 3, 35, 0, 0, 0)]),
  (26, [(.aload_n 0, 1, 0, 0, 0, 0), (.iload_n 2, 1, 0, 0, 0, 0), (.iload_n 3, 1, 0, 0, 0, 0), (.invokevirtual 82, 3, 66, 2, 1, 3219)]),
  (32, [(.goto 4, 3, 36, 0, 0, 0)]),
  (35, [(.iconst (-1), 1, 0, 0, 0, 0)]),
  (36, [(.ireturn, 1, 0, 0, 0, 0)])]
def X_Land_toldOfRoad : MX := (⟨"YearsForCoin$Land", "toldOfRoad", "(I)I"⟩, prog_3_method_12_code, 4, (some .int), 1, (3214, 1003, 3213, 14), B_Land_toldOfRoad)
def B_Land_hasTown : MB := [(0, [(.iload_n 1, 1, 0, 0, 0, 0), (.ifCond .lt 15, 3, 16, 0, 0, 0)]),
  (4, [(.iload_n 1, 1, 0, 0, 0, 0), (.aload_n 0, 1, 0, 0, 0, 0), (.getfield 9, 3, 0, 0, 1, 1049), (.if_icmp .ge 7, 3, 16, 0, 0, 0)]),
  (12, [(.iconst 1, 1, 0, 0, 0, 0), (.goto 4, 3, 17, 0, 0, 0)]),
  (16, [(.iconst 0, 1, 0, 0, 0, 0)]),
  (17, [(.ireturn, 1, 0, 1, 0, 0)])]
def X_Land_hasTown : MX := (⟨"YearsForCoin$Land", "hasTown", "(I)Z"⟩, prog_3_method_7_code, 2, (some .boolean), 1, (3218, 1003, 3216, 3217), B_Land_hasTown)
def B_Land_roadBetween : MB := [(0, [(.aload_n 0, 1, 0, 0, 0, 0), (.iload_n 1, 1, 0, 0, 0, 0), (.invokevirtual 67, 3, 65, 1, 1, 3215)]),
  (5, [(.ifCond .eq 25, 3, 30, 0, 0, 0)]),
  (8, [(.aload_n 0, 1, 0, 0, 0, 0), (.iload_n 2, 1, 0, 0, 0, 0), (.invokevirtual 67, 3, 65, 1, 1, 3215)]),
  (13, [(.ifCond .eq 17, 3, 30, 0, 0, 0)]),
  (16, [(.aload_n 0, 1, 0, 0, 0, 0), (.getfield 37, 3, 13, 1, 1, 1089), (.iload_n 1, 1, 0, 0, 0, 0), (.bipush 6, 2, 0, 0, 0, 0), (.imul, 1, 0, 0, 0, 0), (.iload_n 2, 1, 0, 0, 0, 0), (.iadd, 1, 0, 0, 0, 0), (.iaload, 1, 0, 0, 0, 0), (.goto 4, 3, 31, 0, 0, 0)]),
  (30, [(.iconst 0, 1, 0, 0, 0, 0)]),
  (31, [(.ireturn, 1, 0, 0, 0, 0)])]
def X_Land_roadBetween : MX := (⟨"YearsForCoin$Land", "roadBetween", "(II)I"⟩, prog_3_method_10_code, 3, (some .int), 2, (3222, 1003, 3220, 3221), B_Land_roadBetween)
def B_Land_toldOfLetter : MB := [(0, [(.aload_n 0, 1, 0, 0, 0, 0), (.iload_n 2, 1, 0, 0, 0, 0), (.invokevirtual 85, 3, 68, 1, 1, 3227)]),
  (5, [(.ifCond .ne 5, 3, 10, 0, 0, 0)]),
  (8, [(.iconst (-1), 1, 0, 0, 0, 0), (.ireturn, 1, 0, 0, 0, 0)]),
  (10, [(.iload_n 1, 1, 0, 0, 0, 0), (.lookupswitch 39 #[(6, 25), (7, 32)], 25, 0, 0, 0, 0)]),
  (36, [(.aload_n 0, 1, 0, 0, 0, 0), (.getfield 31, 3, 11, 1, 1, 1083), (.iload_n 2, 1, 0, 0, 0, 0), (.iaload, 1, 0, 0, 0, 0), (.ireturn, 1, 0, 0, 0, 0)]),
  (43, [(.aload_n 0, 1, 0, 0, 0, 0), (.getfield 34, 3, 12, 1, 1, 1086), (.iload_n 2, 1, 0, 0, 0, 0), (.iaload, 1, 0, 0, 0, 0), (.ireturn, 1, 0, 0, 0, 0)]),
  (50, [(.iconst (-1), 1, 0, 0, 0, 0), (.ireturn, 1, 0, 0, 0, 0)])]
def X_Land_toldOfLetter : MX := (⟨"YearsForCoin$Land", "toldOfLetter", "(II)I"⟩, prog_3_method_13_code, 3, (some .int), 2, (3226, 1003, 3225, 15), B_Land_toldOfLetter)
def B_Land_hasLetter : MB := [(0, [(.iload_n 1, 1, 0, 0, 0, 0), (.ifCond .lt 15, 3, 16, 0, 0, 0)]),
  (4, [(.iload_n 1, 1, 0, 0, 0, 0), (.aload_n 0, 1, 0, 0, 0, 0), (.getfield 52, 3, 5, 0, 1, 1068), (.if_icmp .ge 7, 3, 16, 0, 0, 0)]),
  (12, [(.iconst 1, 1, 0, 0, 0, 0), (.goto 4, 3, 17, 0, 0, 0)]),
  (16, [(.iconst 0, 1, 0, 0, 0, 0)]),
  (17, [(.ireturn, 1, 0, 1, 0, 0)])]
def X_Land_hasLetter : MX := (⟨"YearsForCoin$Land", "hasLetter", "(I)Z"⟩, prog_3_method_9_code, 2, (some .boolean), 1, (3230, 1003, 3228, 3229), B_Land_hasLetter)
def B_Land_toldOfBuyer : MB := [(0, [(.aload_n 0, 1, 0, 0, 0, 0), (.iload_n 2, 1, 0, 0, 0, 0), (.invokevirtual 88, 3, 70, 1, 1, 3235)]),
  (5, [(.ifCond .ne 5, 3, 10, 0, 0, 0)]),
  (8, [(.iconst (-1), 1, 0, 0, 0, 0), (.ireturn, 1, 0, 0, 0, 0)]),
  (10, [(.iload_n 1, 1, 0, 0, 0, 0), (.tableswitch 68 1 5 #[33, 40, 47, 54, 61], 33, 0, 0, 0, 0)]),
  (44, [(.aload_n 0, 1, 0, 0, 0, 0), (.getfield 15, 3, 6, 1, 1, 1071), (.iload_n 2, 1, 0, 0, 0, 0), (.iaload, 1, 0, 0, 0, 0), (.ireturn, 1, 0, 0, 0, 0)]),
  (51, [(.aload_n 0, 1, 0, 0, 0, 0), (.getfield 19, 3, 7, 1, 1, 1073), (.iload_n 2, 1, 0, 0, 0, 0), (.iaload, 1, 0, 0, 0, 0), (.ireturn, 1, 0, 0, 0, 0)]),
  (58, [(.aload_n 0, 1, 0, 0, 0, 0), (.getfield 22, 3, 8, 1, 1, 1075), (.iload_n 2, 1, 0, 0, 0, 0), (.iaload, 1, 0, 0, 0, 0), (.ireturn, 1, 0, 0, 0, 0)]),
  (65, [(.aload_n 0, 1, 0, 0, 0, 0), (.getfield 25, 3, 9, 1, 1, 1078), (.iload_n 2, 1, 0, 0, 0, 0), (.iaload, 1, 0, 0, 0, 0), (.ireturn, 1, 0, 0, 0, 0)]),
  (72, [(.aload_n 0, 1, 0, 0, 0, 0), (.getfield 28, 3, 10, 1, 1, 1081), (.iload_n 2, 1, 0, 0, 0, 0), (.iaload, 1, 0, 0, 0, 0), (.ireturn, 1, 0, 0, 0, 0)]),
  (79, [(.iconst (-1), 1, 0, 0, 0, 0), (.ireturn, 1, 0, 0, 0, 0)])]
def X_Land_toldOfBuyer : MX := (⟨"YearsForCoin$Land", "toldOfBuyer", "(II)I"⟩, prog_3_method_14_code, 3, (some .int), 2, (3234, 1003, 3233, 16), B_Land_toldOfBuyer)
def B_Land_hasBuyer : MB := [(0, [(.iload_n 1, 1, 0, 0, 0, 0), (.ifCond .lt 15, 3, 16, 0, 0, 0)]),
  (4, [(.iload_n 1, 1, 0, 0, 0, 0), (.aload_n 0, 1, 0, 0, 0, 0), (.getfield 49, 3, 4, 0, 1, 1065), (.if_icmp .ge 7, 3, 16, 0, 0, 0)]),
  (12, [(.iconst 1, 1, 0, 0, 0, 0), (.goto 4, 3, 17, 0, 0, 0)]),
  (16, [(.iconst 0, 1, 0, 0, 0, 0)]),
  (17, [(.ireturn, 1, 0, 1, 0, 0)])]
def X_Land_hasBuyer : MX := (⟨"YearsForCoin$Land", "hasBuyer", "(I)Z"⟩, prog_3_method_8_code, 2, (some .boolean), 1, (3238, 1003, 3236, 3237), B_Land_hasBuyer)
def B_Main_deed : MB := [(0, [(.aload_n 0, 1, 0, 0, 0, 0), (.getfield 10, 3, 0, 1, 11, 2180), (.iload_n 1, 1, 0, 0, 0, 0), (.invokevirtual 113, 3, 72, 1, 8, 4003)]),
  (8, [(.astore 4, 2, 0, 0, 0, 0), (.aload 4, 2, 0, 0, 0, 0), (.ifnonnull 6, 3, 18, 0, 0, 0)]),
  (15, [(.bipush (-2), 2, 0, 0, 0, 0), (.ireturn, 1, 0, 0, 0, 0)]),
  (18, [(.iload_n 2, 1, 0, 0, 0, 0), (.iconst (-1), 1, 0, 0, 0, 0), (.if_icmp .ne 18, 3, 38, 0, 0, 0)]),
  (23, [(.iload_n 3, 1, 0, 0, 0, 0), (.ifCond .ne 11, 3, 35, 0, 0, 0)]),
  (27, [(.aload 4, 2, 0, 0, 0, 0), (.getfield 117, 3, 0, 0, 6, 1129), (.goto 5, 3, 37, 0, 0, 0)]),
  (35, [(.bipush (-2), 2, 0, 0, 0, 0)]),
  (37, [(.ireturn, 1, 0, 0, 0, 0)]),
  (38, [(.aload 4, 2, 0, 0, 0, 0), (.iload_n 2, 1, 0, 0, 0, 0), (.invokevirtual 122, 3, 73, 1, 6, 4007)]),
  (44, [(.ifCond .eq 13, 3, 57, 0, 0, 0)]),
  (47, [(.aload 4, 2, 0, 0, 0, 0), (.iload_n 2, 1, 0, 0, 0, 0), (.iload_n 3, 1, 0, 0, 0, 0), (.invokevirtual 126, 3, 74, 2, 6, 4011)]),
  (54, [(.goto 5, 3, 59, 0, 0, 0)]),
  (57, [(.bipush (-2), 2, 0, 0, 0, 0)]),
  (59, [(.ireturn, 1, 0, 0, 0, 0)])]
def X_Main_deed : MX := (⟨"YearsForCoin", "deed", "(III)I"⟩, prog_1_method_7_code, 5, (some .int), 3, (4002, 1001, 4000, 4001), B_Main_deed)
def B_Told_seasonAt : MB := [(0, [(.aload_n 0, 1, 0, 0, 0, 0), (.iconst 1, 1, 0, 0, 0, 0), (.iload_n 1, 1, 0, 0, 0, 0), (.invokevirtual 76, 3, 62, 2, 8, 3203)]),
  (6, [(.ifCond .eq 12, 3, 18, 0, 0, 0)]),
  (9, [(.aload_n 0, 1, 0, 0, 0, 0), (.getfield 31, 3, 6, 1, 8, 1190), (.iload_n 1, 1, 0, 0, 0, 0), (.aaload, 1, 0, 5, 0, 0), (.goto 4, 3, 19, 0, 0, 0)]),
  (18, [(.aconst_null, 1, 0, 0, 0, 0)]),
  (19, [(.areturn, 1, 0, 0, 0, 0)])]
def X_Told_seasonAt : MX := (⟨"YearsForCoin$Told", "seasonAt", "(I)LYearsForCoin$Season;"⟩, prog_10_method_8_code, 2, (some (.object "YearsForCoin$Season")), 1, (4006, 1002, 4004, 4005), B_Told_seasonAt)
def B_Season_hasDeed : MB := [(0, [(.iload_n 1, 1, 0, 0, 0, 0), (.ifCond .lt 15, 3, 16, 0, 0, 0)]),
  (4, [(.iload_n 1, 1, 0, 0, 0, 0), (.aload_n 0, 1, 0, 0, 0, 0), (.getfield 21, 3, 0, 0, 6, 1126), (.if_icmp .ge 7, 3, 16, 0, 0, 0)]),
  (12, [(.iconst 1, 1, 0, 0, 0, 0), (.goto 4, 3, 17, 0, 0, 0)]),
  (16, [(.iconst 0, 1, 0, 0, 0, 0)]),
  (17, [(.ireturn, 1, 0, 1, 0, 0)])]
def X_Season_hasDeed : MX := (⟨"YearsForCoin$Season", "hasDeed", "(I)Z"⟩, prog_8_method_4_code, 2, (some .boolean), 1, (4010, 1004, 4008, 4009), B_Season_hasDeed)
def B_Season_toldOf : MB := [(0, [(.aload_n 0, 1, 0, 0, 0, 0), (.iload_n 1, 1, 0, 0, 0, 0), (.invokevirtual 31, 3, 73, 1, 6, 4015)]),
  (5, [(.ifCond .ne 6, 3, 11, 0, 0, 0)]),
  (8, [(.bipush (-2), 2, 0, 0, 0, 0), (.ireturn, 1, 0, 0, 0, 0)]),
  (11, [(.iload_n 2, 1, 0, 0, 0, 0), (.tableswitch 49 0 2 #[28, 35, 42], 28, 0, 0, 0, 0)]),
  (40, [(.aload_n 0, 1, 0, 0, 0, 0), (.getfield 9, 3, 1, 1, 6, 1130), (.iload_n 1, 1, 0, 0, 0, 0), (.iaload, 1, 0, 0, 0, 0), (.ireturn, 1, 0, 0, 0, 0)]),
  (47, [(.aload_n 0, 1, 0, 0, 0, 0), (.getfield 15, 3, 2, 1, 6, 1132), (.iload_n 1, 1, 0, 0, 0, 0), (.iaload, 1, 0, 0, 0, 0), (.ireturn, 1, 0, 0, 0, 0)]),
  (54, [(.aload_n 0, 1, 0, 0, 0, 0), (.getfield 18, 3, 3, 1, 6, 1134), (.iload_n 1, 1, 0, 0, 0, 0), (.iaload, 1, 0, 0, 0, 0), (.ireturn, 1, 0, 0, 0, 0)]),
  (61, [(.bipush (-2), 2, 0, 0, 0, 0), (.ireturn, 1, 0, 0, 0, 0)])]
def X_Season_toldOf : MX := (⟨"YearsForCoin$Season", "toldOf", "(II)I"⟩, prog_8_method_5_code, 3, (some .int), 2, (4014, 1004, 4012, 4013), B_Season_toldOf)
def B_Main_stop : MB := [(0, [(.aload_n 0, 1, 0, 0, 0, 0), (.getfield 10, 3, 0, 1, 11, 2180), (.iload_n 1, 1, 0, 0, 0, 0), (.invokevirtual 103, 3, 61, 1, 8, 3199)]),
  (8, [(.astore_n 3, 1, 0, 0, 0, 0), (.aload_n 0, 1, 0, 0, 0, 0), (.getfield 10, 3, 0, 1, 11, 2180), (.iload_n 2, 1, 0, 0, 0, 0), (.invokevirtual 113, 3, 72, 1, 8, 4003)]),
  (17, [(.astore 4, 2, 0, 0, 0, 0), (.aload_n 3, 1, 0, 0, 0, 0), (.ifnull 8, 3, 28, 0, 0, 0)]),
  (23, [(.aload 4, 2, 0, 0, 0, 0), (.ifnonnull 7, 3, 32, 0, 0, 0)]),
  (28, [(.iconst (-1), 1, 0, 0, 0, 0), (.goto 15, 3, 44, 0, 0, 0)]),
  (32, [(.aload_n 0, 1, 0, 0, 0, 0), (.getfield 32, 3, 3, 1, 11, 2183), (.aload_n 3, 1, 0, 0, 0, 0), (.aload 4, 2, 0, 0, 0, 0), (.bipush 40, 2, 0, 0, 0, 0), (.invokevirtual 128, 3, 76, 3, 9, 4020)]),
  (44, [(.ireturn, 1, 0, 0, 0, 0)])]
def X_Main_stop : MX := (⟨"YearsForCoin", "stop", "(II)I"⟩, prog_1_method_8_code, 5, (some .int), 2, (4019, 1001, 4017, 4018), B_Main_stop)
def B_Walk_run : MB := [(0, [(.aload_n 0, 1, 0, 0, 0, 0), (.aload_n 1, 1, 0, 0, 0, 0), (.invokevirtual 24, 3, 77, 1, 9, 4024)]),
  (5, [(.iconst 0, 1, 0, 0, 0, 0), (.istore 4, 2, 0, 0, 0, 0)]),
  (8, [(.iload 4, 2, 0, 0, 0, 0), (.iload_n 3, 1, 0, 0, 0, 0), (.if_icmp .ge 32, 3, 43, 0, 0, 0)]),
  (14, [(.iload 4, 2, 0, 0, 0, 0), (.aload_n 2, 1, 0, 0, 0, 0), (.getfield 28, 3, 0, 0, 6, 1128), (.if_icmp .ge 23, 3, 43, 0, 0, 0)]),
  (23, [(.aload_n 0, 1, 0, 0, 0, 0), (.aload_n 1, 1, 0, 0, 0, 0), (.aload_n 2, 1, 0, 0, 0, 0), (.iload 4, 2, 0, 0, 0, 0), (.invokevirtual 34, 3, 78, 3, 9, 4030)]),
  (31, [(.ifCond .ne 6, 3, 37, 0, 0, 0)]),
  (34, [(.iload 4, 2, 0, 0, 0, 0), (.ireturn, 1, 0, 0, 0, 0)]),
  (37, [(.iinc 4 1, 3, 0, 0, 0, 0), (.goto (-32), 3, 8, 0, 0, 0)]),
  (43, [(.iload_n 3, 1, 0, 0, 0, 0), (.iconst 0, 1, 0, 0, 0, 0), (.invokestatic 38, 3, 0, 1, 0, 4053), (.aload_n 2, 1, 0, 0, 0, 0), (.getfield 28, 3, 0, 0, 6, 1128), (.invokestatic 44, 3, 0, 2, 0, 4058), (.ireturn, 1, 0, 0, 0, 0)])]
def X_Walk_run : MX := (⟨"YearsForCoin$Walk", "run", "(LYearsForCoin$Land;LYearsForCoin$Season;I)I"⟩, prog_11_method_2_code, 5, (some .int), 3, (4023, 1008, 4021, 4022), B_Walk_run)
def B_Walk_begin : MB := [(0, [(.aload_n 0, 1, 0, 0, 0, 0), (.iconst 0, 1, 0, 0, 0, 0), (.putfield 57, 3, 0, 0, 9, 2038), (.aload_n 0, 1, 0, 0, 0, 0), (.iconst 0, 1, 0, 0, 0, 0), (.putfield 60, 3, 1, 0, 9, 2039), (.aload_n 0, 1, 0, 0, 0, 0), (.aload_n 1, 1, 0, 0, 0, 0), (.getfield 88, 3, 3, 0, 1, 1062), (.putfield 63, 3, 2, 0, 9, 2040), (.aload_n 0, 1, 0, 0, 0, 0), (.iconst 0, 1, 0, 0, 0, 0), (.putfield 66, 3, 3, 0, 9, 2041), (.aload_n 0, 1, 0, 0, 0, 0), (.iconst 0, 1, 0, 0, 0, 0), (.putfield 69, 3, 4, 0, 9, 2042), (.aload_n 0, 1, 0, 0, 0, 0), (.iconst 0, 1, 0, 0, 0, 0), (.putfield 72, 3, 5, 0, 9, 2043), (.aload_n 0, 1, 0, 0, 0, 0), (.iconst 0, 1, 0, 0, 0, 0), (.putfield 75, 3, 6, 0, 9, 2044), (.aload_n 1, 1, 0, 0, 0, 0), (.getfield 89, 3, 8, 1, 1, 1076), (.iconst 0, 1, 0, 0, 0, 0), (.aload_n 0, 1, 0, 0, 0, 0), (.getfield 9, 3, 8, 1, 9, 2046), (.iconst 0, 1, 0, 0, 0, 0), (.bipush 8, 2, 0, 0, 0, 0), (.invokestatic 90, 3, 0, 4, 0, 4028), (.aload_n 1, 1, 0, 0, 0, 0), (.getfield 87, 3, 9, 1, 1, 1079), (.iconst 0, 1, 0, 0, 0, 0), (.aload_n 0, 1, 0, 0, 0, 0), (.getfield 15, 3, 9, 1, 9, 2047), (.iconst 0, 1, 0, 0, 0, 0), (.bipush 8, 2, 0, 0, 0, 0), (.invokestatic 90, 3, 0, 4, 0, 4028), (.aload_n 1, 1, 0, 0, 0, 0), (.getfield 96, 3, 10, 1, 1, 1082), (.iconst 0, 1, 0, 0, 0, 0), (.aload_n 0, 1, 0, 0, 0, 0), (.getfield 18, 3, 10, 1, 9, 2048), (.iconst 0, 1, 0, 0, 0, 0), (.bipush 8, 2, 0, 0, 0, 0), (.invokestatic 90, 3, 0, 4, 0, 4028), (.aload_n 0, 1, 0, 0, 0, 0), (.getfield 21, 3, 11, 1, 9, 2049), (.iconst 0, 1, 0, 0, 0, 0), (.invokestatic 97, 3, 24, 0, 2, 4029)]),
  (91, [(.return_, 1, 0, 0, 0, 0)])]
def X_Walk_begin : MX := (⟨"YearsForCoin$Walk", "begin", "(LYearsForCoin$Land;)V"⟩, prog_11_method_9_code, 2, none, 1, (4027, 1008, 4026, 17), B_Walk_begin)
def B_Walk_done : MB := [(0, [(.aload_n 2, 1, 0, 0, 0, 0), (.iload_n 3, 1, 0, 0, 0, 0), (.invokevirtual 103, 3, 73, 1, 6, 4034)]),
  (5, [(.ifCond .eq 33, 3, 38, 0, 0, 0)]),
  (8, [(.aload_n 0, 1, 0, 0, 0, 0), (.aload_n 1, 1, 0, 0, 0, 0), (.aload_n 2, 1, 0, 0, 0, 0), (.getfield 106, 3, 1, 1, 6, 1131), (.iload_n 3, 1, 0, 0, 0, 0), (.iaload, 1, 0, 0, 0, 0), (.aload_n 2, 1, 0, 0, 0, 0), (.getfield 109, 3, 2, 1, 6, 1133), (.iload_n 3, 1, 0, 0, 0, 0), (.iaload, 1, 0, 0, 0, 0), (.aload_n 2, 1, 0, 0, 0, 0), (.getfield 112, 3, 3, 1, 6, 1135), (.iload_n 3, 1, 0, 0, 0, 0), (.iaload, 1, 0, 0, 0, 0), (.invokevirtual 115, 3, 79, 4, 9, 4035)]),
  (31, [(.ifCond .eq 7, 3, 38, 0, 0, 0)]),
  (34, [(.iconst 1, 1, 0, 0, 0, 0), (.goto 4, 3, 39, 0, 0, 0)]),
  (38, [(.iconst 0, 1, 0, 0, 0, 0)]),
  (39, [(.ireturn, 1, 0, 1, 0, 0)])]
def X_Walk_done : MX := (⟨"YearsForCoin$Walk", "done", "(LYearsForCoin$Land;LYearsForCoin$Season;I)Z"⟩, prog_11_method_10_code, 4, (some .boolean), 3, (4033, 1008, 4032, 18), B_Walk_done)
def B_Walk_act : MB := [(0, [(.iload_n 2, 1, 0, 0, 0, 0), (.tableswitch 96 0 6 #[43, 52, 61, 68, 76, 84, 90], 43, 0, 0, 0, 0)]),
  (44, [(.aload_n 0, 1, 0, 0, 0, 0), (.aload_n 1, 1, 0, 0, 0, 0), (.iload_n 3, 1, 0, 0, 0, 0), (.iload 4, 2, 0, 0, 0, 0), (.invokevirtual 119, 3, 80, 3, 9, 4039)]),
  (52, [(.ireturn, 1, 0, 1, 0, 0)]),
  (53, [(.aload_n 0, 1, 0, 0, 0, 0), (.aload_n 1, 1, 0, 0, 0, 0), (.iload_n 3, 1, 0, 0, 0, 0), (.iload 4, 2, 0, 0, 0, 0), (.invokevirtual 123, 3, 83, 3, 9, 4054)]),
  (61, [(.ireturn, 1, 0, 1, 0, 0)]),
  (62, [(.aload_n 0, 1, 0, 0, 0, 0), (.aload_n 1, 1, 0, 0, 0, 0), (.iload_n 3, 1, 0, 0, 0, 0), (.invokevirtual 126, 3, 84, 2, 9, 4059)]),
  (68, [(.ireturn, 1, 0, 1, 0, 0)]),
  (69, [(.aload_n 0, 1, 0, 0, 0, 0), (.aload_n 1, 1, 0, 0, 0, 0), (.iload_n 3, 1, 0, 0, 0, 0), (.iconst 0, 1, 0, 0, 0, 0), (.invokevirtual 130, 3, 85, 3, 9, 4064)]),
  (76, [(.ireturn, 1, 0, 1, 0, 0)]),
  (77, [(.aload_n 0, 1, 0, 0, 0, 0), (.aload_n 1, 1, 0, 0, 0, 0), (.iload_n 3, 1, 0, 0, 0, 0), (.iconst 1, 1, 0, 0, 0, 0), (.invokevirtual 130, 3, 85, 3, 9, 4064)]),
  (84, [(.ireturn, 1, 0, 1, 0, 0)]),
  (85, [(.aload_n 0, 1, 0, 0, 0, 0), (.aload_n 1, 1, 0, 0, 0, 0), (.invokevirtual 134, 3, 86, 1, 9, 4069)]),
  (90, [(.ireturn, 1, 0, 1, 0, 0)]),
  (91, [(.aload_n 0, 1, 0, 0, 0, 0), (.aload_n 1, 1, 0, 0, 0, 0), (.invokevirtual 138, 3, 87, 1, 9, 4073)]),
  (96, [(.ireturn, 1, 0, 1, 0, 0)]),
  (97, [(.iconst 0, 1, 0, 0, 0, 0), (.ireturn, 1, 0, 1, 0, 0)])]
def X_Walk_act : MX := (⟨"YearsForCoin$Walk", "act", "(LYearsForCoin$Land;III)Z"⟩, prog_11_method_11_code, 5, (some .boolean), 4, (4038, 1008, 4037, 19), B_Walk_act)
def B_Walk_sell : MB := [(0, [(.aload_n 1, 1, 0, 0, 0, 0), (.iload_n 2, 1, 0, 0, 0, 0), (.invokevirtual 78, 3, 70, 1, 1, 4043)]),
  (5, [(.ifCond .eq 35, 3, 40, 0, 0, 0)]),
  (8, [(.aload_n 1, 1, 0, 0, 0, 0), (.iload_n 3, 1, 0, 0, 0, 0), (.invokevirtual 141, 3, 68, 1, 1, 4044)]),
  (13, [(.ifCond .eq 27, 3, 40, 0, 0, 0)]),
  (16, [(.aload_n 1, 1, 0, 0, 0, 0), (.getfield 144, 3, 7, 1, 1, 1074), (.iload_n 2, 1, 0, 0, 0, 0), (.iaload, 1, 0, 0, 0, 0), (.aload_n 0, 1, 0, 0, 0, 0), (.getfield 60, 3, 1, 0, 9, 2039), (.if_icmp .ne 14, 3, 40, 0, 0, 0)]),
  (29, [(.aload_n 0, 1, 0, 0, 0, 0), (.aload_n 0, 1, 0, 0, 0, 0), (.getfield 60, 3, 1, 0, 9, 2039), (.invokevirtual 146, 3, 81, 1, 9, 4045)]),
  (37, [(.ifCond .eq 5, 3, 42, 0, 0, 0)]),
  (40, [(.iconst 0, 1, 0, 0, 0, 0), (.ireturn, 1, 0, 1, 0, 0)]),
  (42, [(.aload_n 1, 1, 0, 0, 0, 0), (.getfield 149, 3, 12, 1, 1, 1088), (.iload_n 3, 1, 0, 0, 0, 0), (.iaload, 1, 0, 0, 0, 0), (.istore 4, 2, 0, 0, 0, 0), (.aload_n 1, 1, 0, 0, 0, 0), (.getfield 152, 3, 11, 1, 1, 1085), (.iload_n 3, 1, 0, 0, 0, 0), (.iaload, 1, 0, 0, 0, 0), (.istore 5, 2, 0, 0, 0, 0), (.iload 4, 2, 0, 0, 0, 0), (.aload_n 0, 1, 0, 0, 0, 0), (.getfield 15, 3, 9, 1, 9, 2047), (.iload_n 2, 1, 0, 0, 0, 0), (.iaload, 1, 0, 0, 0, 0), (.if_icmp .gt 31, 3, 97, 0, 0, 0)]),
  (69, [(.aload_n 1, 1, 0, 0, 0, 0), (.getfield 155, 3, 6, 1, 1, 1072), (.iload_n 2, 1, 0, 0, 0, 0), (.iaload, 1, 0, 0, 0, 0), (.aload_n 0, 1, 0, 0, 0, 0), (.getfield 9, 3, 8, 1, 9, 2046), (.iload_n 2, 1, 0, 0, 0, 0), (.iaload, 1, 0, 0, 0, 0), (.aload_n 0, 1, 0, 0, 0, 0), (.getfield 18, 3, 10, 1, 9, 2048), (.iload_n 2, 1, 0, 0, 0, 0), (.iaload, 1, 0, 0, 0, 0), (.iload 5, 2, 0, 0, 0, 0), (.iload 4, 2, 0, 0, 0, 0), (.invokestatic 158, 3, 82, 0, 5, 4049)]),
  (94, [(.ifCond .ne 5, 3, 99, 0, 0, 0)]),
  (97, [(.iconst 0, 1, 0, 0, 0, 0), (.ireturn, 1, 0, 1, 0, 0)]),
  (99, [(.aload_n 0, 1, 0, 0, 0, 0), (.getfield 15, 3, 9, 1, 9, 2047), (.iload_n 2, 1, 0, 0, 0, 0), (.dup2, 1, 0, 0, 0, 0), (.iaload, 1, 0, 0, 0, 0), (.iload 4, 2, 0, 0, 0, 0), (.isub, 1, 0, 0, 0, 0), (.iastore, 1, 0, 0, 0, 0), (.aload_n 0, 1, 0, 0, 0, 0), (.getfield 9, 3, 8, 1, 9, 2046), (.iload_n 2, 1, 0, 0, 0, 0), (.dup2, 1, 0, 0, 0, 0), (.iaload, 1, 0, 0, 0, 0), (.iload 5, 2, 0, 0, 0, 0), (.isub, 1, 0, 0, 0, 0), (.iastore, 1, 0, 0, 0, 0), (.aload_n 1, 1, 0, 0, 0, 0), (.getfield 155, 3, 6, 1, 1, 1072), (.iload_n 2, 1, 0, 0, 0, 0), (.iaload, 1, 0, 0, 0, 0), (.iconst 1, 1, 0, 0, 0, 0), (.if_icmp .eq 19, 3, 147, 0, 0, 0)]),
  (131, [(.aload_n 0, 1, 0, 0, 0, 0), (.getfield 9, 3, 8, 1, 9, 2046), (.iload_n 2, 1, 0, 0, 0, 0), (.iconst 0, 1, 0, 0, 0, 0), (.aload_n 0, 1, 0, 0, 0, 0), (.getfield 9, 3, 8, 1, 9, 2046), (.iload_n 2, 1, 0, 0, 0, 0), (.iaload, 1, 0, 0, 0, 0), (.invokestatic 38, 3, 0, 1, 0, 4053), (.iastore, 1, 0, 0, 0, 0)]),
  (147, [(.aload_n 0, 1, 0, 0, 0, 0), (.getfield 21, 3, 11, 1, 9, 2049), (.iload_n 2, 1, 0, 0, 0, 0), (.dup2, 1, 0, 0, 0, 0), (.iaload, 1, 0, 0, 0, 0), (.iload 5, 2, 0, 0, 0, 0), (.iadd, 1, 0, 0, 0, 0), (.iastore, 1, 0, 0, 0, 0), (.aload_n 0, 1, 0, 0, 0, 0), (.dup, 1, 0, 0, 0, 0), (.getfield 66, 3, 3, 0, 9, 2041), (.iconst 1, 1, 0, 0, 0, 0), (.iadd, 1, 0, 0, 0, 0), (.putfield 66, 3, 3, 0, 9, 2041), (.iload 4, 2, 0, 0, 0, 0), (.aload_n 1, 1, 0, 0, 0, 0), (.getfield 162, 3, 1, 0, 1, 1056), (.imul, 1, 0, 0, 0, 0), (.bipush 10, 2, 0, 0, 0, 0), (.idiv, 1, 0, 0, 0, 0), (.istore 6, 2, 0, 0, 0, 0), (.iload 4, 2, 0, 0, 0, 0), (.aload_n 1, 1, 0, 0, 0, 0), (.getfield 163, 3, 2, 0, 1, 1059), (.imul, 1, 0, 0, 0, 0), (.bipush 10, 2, 0, 0, 0, 0), (.idiv, 1, 0, 0, 0, 0), (.istore 7, 2, 0, 0, 0, 0), (.aload_n 0, 1, 0, 0, 0, 0), (.dup, 1, 0, 0, 0, 0), (.getfield 69, 3, 4, 0, 9, 2042), (.iload 6, 2, 0, 0, 0, 0), (.iadd, 1, 0, 0, 0, 0), (.putfield 69, 3, 4, 0, 9, 2042), (.aload_n 0, 1, 0, 0, 0, 0), (.dup, 1, 0, 0, 0, 0), (.getfield 72, 3, 5, 0, 9, 2043), (.iload 7, 2, 0, 0, 0, 0), (.iadd, 1, 0, 0, 0, 0), (.putfield 72, 3, 5, 0, 9, 2043), (.aload_n 0, 1, 0, 0, 0, 0), (.dup, 1, 0, 0, 0, 0), (.getfield 75, 3, 6, 0, 9, 2044), (.iload 4, 2, 0, 0, 0, 0), (.iload 6, 2, 0, 0, 0, 0), (.isub, 1, 0, 0, 0, 0), (.iload 7, 2, 0, 0, 0, 0), (.isub, 1, 0, 0, 0, 0), (.iadd, 1, 0, 0, 0, 0), (.putfield 75, 3, 6, 0, 9, 2044), (.iconst 1, 1, 0, 0, 0, 0), (.ireturn, 1, 0, 1, 0, 0)])]
def X_Walk_sell : MX := (⟨"YearsForCoin$Walk", "sell", "(LYearsForCoin$Land;II)Z"⟩, prog_11_method_13_code, 8, (some .boolean), 3, (4042, 1008, 4041, 20), B_Walk_sell)
def B_Walk_isShut : MB := [(0, [(.aload_n 0, 1, 0, 0, 0, 0), (.getfield 63, 3, 2, 0, 9, 2040), (.iload_n 1, 1, 0, 0, 0, 0), (.ishr, 1, 0, 0, 0, 0), (.iconst 1, 1, 0, 0, 0, 0), (.iand, 1, 0, 0, 0, 0), (.ifCond .eq 7, 3, 15, 0, 0, 0)]),
  (11, [(.iconst 1, 1, 0, 0, 0, 0), (.goto 4, 3, 16, 0, 0, 0)]),
  (15, [(.iconst 0, 1, 0, 0, 0, 0)]),
  (16, [(.ireturn, 1, 0, 1, 0, 0)])]
def X_Walk_isShut : MX := (⟨"YearsForCoin$Walk", "isShut", "(I)Z"⟩, prog_11_method_12_code, 2, (some .boolean), 1, (4048, 1008, 4047, 21), B_Walk_isShut)
def B_Land_isWorthIt : MB := [(0, [(.iload_n 0, 1, 0, 0, 0, 0), (.iconst 1, 1, 0, 0, 0, 0), (.if_icmp .ne 17, 3, 19, 0, 0, 0)]),
  (5, [(.iload 4, 2, 0, 0, 0, 0), (.iload_n 2, 1, 0, 0, 0, 0), (.iload_n 3, 1, 0, 0, 0, 0), (.imul, 1, 0, 0, 0, 0), (.if_icmp .gt 7, 3, 17, 0, 0, 0)]),
  (13, [(.iconst 1, 1, 0, 0, 0, 0), (.goto 4, 3, 18, 0, 0, 0)]),
  (17, [(.iconst 0, 1, 0, 0, 0, 0)]),
  (18, [(.ireturn, 1, 0, 1, 0, 0)]),
  (19, [(.iload_n 0, 1, 0, 0, 0, 0), (.iconst 3, 1, 0, 0, 0, 0), (.if_icmp .ne 10, 3, 31, 0, 0, 0)]),
  (24, [(.iconst 2, 1, 0, 0, 0, 0), (.iload 4, 2, 0, 0, 0, 0), (.imul, 1, 0, 0, 0, 0), (.goto 5, 3, 33, 0, 0, 0)]),
  (31, [(.iload 4, 2, 0, 0, 0, 0)]),
  (33, [(.istore 5, 2, 0, 0, 0, 0), (.iload_n 0, 1, 0, 0, 0, 0), (.iconst 2, 1, 0, 0, 0, 0), (.if_icmp .ne 9, 3, 46, 0, 0, 0)]),
  (40, [(.iconst 2, 1, 0, 0, 0, 0), (.iload_n 2, 1, 0, 0, 0, 0), (.imul, 1, 0, 0, 0, 0), (.goto 4, 3, 47, 0, 0, 0)]),
  (46, [(.iload_n 2, 1, 0, 0, 0, 0)]),
  (47, [(.istore 6, 2, 0, 0, 0, 0), (.iload_n 1, 1, 0, 0, 0, 0), (.ifCond .le 20, 3, 70, 0, 0, 0)]),
  (53, [(.iload 5, 2, 0, 0, 0, 0), (.iload 6, 2, 0, 0, 0, 0), (.iload_n 3, 1, 0, 0, 0, 0), (.iload_n 1, 1, 0, 0, 0, 0), (.invokestatic 91, 3, 0, 2, 0, 4052), (.imul, 1, 0, 0, 0, 0), (.if_icmp .gt 7, 3, 70, 0, 0, 0)]),
  (66, [(.iconst 1, 1, 0, 0, 0, 0), (.goto 4, 3, 71, 0, 0, 0)]),
  (70, [(.iconst 0, 1, 0, 0, 0, 0)]),
  (71, [(.ireturn, 1, 0, 1, 0, 0)])]
def X_Land_isWorthIt : MX := (⟨"YearsForCoin$Land", "isWorthIt", "(IIIII)Z"⟩, prog_3_method_15_code, 7, (some .boolean), 5, (4051, 1003, 4050, 0), B_Land_isWorthIt)
def B_Walk_sin : MB := [(0, [(.aload_n 1, 1, 0, 0, 0, 0), (.iload_n 2, 1, 0, 0, 0, 0), (.invokevirtual 78, 3, 70, 1, 1, 4043)]),
  (5, [(.ifCond .ne 5, 3, 10, 0, 0, 0)]),
  (8, [(.iconst 0, 1, 0, 0, 0, 0), (.ireturn, 1, 0, 1, 0, 0)]),
  (10, [(.aload_n 0, 1, 0, 0, 0, 0), (.getfield 9, 3, 8, 1, 9, 2046), (.iload_n 2, 1, 0, 0, 0, 0), (.bipush 99, 2, 0, 0, 0, 0), (.aload_n 0, 1, 0, 0, 0, 0), (.getfield 9, 3, 8, 1, 9, 2046), (.iload_n 2, 1, 0, 0, 0, 0), (.iaload, 1, 0, 0, 0, 0), (.iload_n 3, 1, 0, 0, 0, 0), (.iadd, 1, 0, 0, 0, 0), (.invokestatic 44, 3, 0, 2, 0, 4058), (.iastore, 1, 0, 0, 0, 0), (.iconst 1, 1, 0, 0, 0, 0), (.ireturn, 1, 0, 1, 0, 0)])]
def X_Walk_sin : MX := (⟨"YearsForCoin$Walk", "sin", "(LYearsForCoin$Land;II)Z"⟩, prog_11_method_14_code, 4, (some .boolean), 3, (4057, 1008, 4056, 22), B_Walk_sin)
def B_Walk_go : MB := [(0, [(.aload_n 1, 1, 0, 0, 0, 0), (.aload_n 0, 1, 0, 0, 0, 0), (.getfield 60, 3, 1, 0, 9, 2039), (.iload_n 2, 1, 0, 0, 0, 0), (.invokevirtual 164, 3, 66, 2, 1, 4063)]),
  (9, [(.istore_n 3, 1, 0, 0, 0, 0), (.iload_n 3, 1, 0, 0, 0, 0), (.ifCond .eq 22, 3, 33, 0, 0, 0)]),
  (14, [(.aload_n 0, 1, 0, 0, 0, 0), (.iload_n 2, 1, 0, 0, 0, 0), (.invokevirtual 146, 3, 81, 1, 9, 4045)]),
  (19, [(.ifCond .ne 14, 3, 33, 0, 0, 0)]),
  (22, [(.aload_n 0, 1, 0, 0, 0, 0), (.getfield 57, 3, 0, 0, 9, 2038), (.iload_n 3, 1, 0, 0, 0, 0), (.iadd, 1, 0, 0, 0, 0), (.bipush 99, 2, 0, 0, 0, 0), (.if_icmp .le 5, 3, 35, 0, 0, 0)]),
  (33, [(.iconst 0, 1, 0, 0, 0, 0), (.ireturn, 1, 0, 1, 0, 0)]),
  (35, [(.aload_n 0, 1, 0, 0, 0, 0), (.dup, 1, 0, 0, 0, 0), (.getfield 57, 3, 0, 0, 9, 2038), (.iload_n 3, 1, 0, 0, 0, 0), (.iadd, 1, 0, 0, 0, 0), (.putfield 57, 3, 0, 0, 9, 2038), (.aload_n 0, 1, 0, 0, 0, 0), (.iload_n 2, 1, 0, 0, 0, 0), (.putfield 60, 3, 1, 0, 9, 2039), (.iconst 1, 1, 0, 0, 0, 0), (.ireturn, 1, 0, 1, 0, 0)])]
def X_Walk_go : MX := (⟨"YearsForCoin$Walk", "go", "(LYearsForCoin$Land;I)Z"⟩, prog_11_method_15_code, 4, (some .boolean), 2, (4062, 1008, 4061, 23), B_Walk_go)
def B_Walk_turn : MB := [(0, [(.aload_n 1, 1, 0, 0, 0, 0), (.iload_n 2, 1, 0, 0, 0, 0), (.invokevirtual 167, 3, 65, 1, 1, 4068)]),
  (5, [(.ifCond .eq 12, 3, 17, 0, 0, 0)]),
  (8, [(.aload_n 0, 1, 0, 0, 0, 0), (.iload_n 2, 1, 0, 0, 0, 0), (.invokevirtual 146, 3, 81, 1, 9, 4045)]),
  (13, [(.iload_n 3, 1, 0, 0, 0, 0), (.if_icmp .eq 5, 3, 19, 0, 0, 0)]),
  (17, [(.iconst 0, 1, 0, 0, 0, 0), (.ireturn, 1, 0, 1, 0, 0)]),
  (19, [(.aload_n 0, 1, 0, 0, 0, 0), (.dup, 1, 0, 0, 0, 0), (.getfield 63, 3, 2, 0, 9, 2040), (.iconst 1, 1, 0, 0, 0, 0), (.iload_n 2, 1, 0, 0, 0, 0), (.ishl, 1, 0, 0, 0, 0), (.ixor, 1, 0, 0, 0, 0), (.putfield 63, 3, 2, 0, 9, 2040), (.iconst 1, 1, 0, 0, 0, 0), (.ireturn, 1, 0, 1, 0, 0)])]
def X_Walk_turn : MX := (⟨"YearsForCoin$Walk", "turn", "(LYearsForCoin$Land;IZ)Z"⟩, prog_11_method_16_code, 4, (some .boolean), 3, (4067, 1008, 4066, 24), B_Walk_turn)
def B_Walk_doubt : MB := [(0, [(.iconst 0, 1, 0, 0, 0, 0), (.istore_n 2, 1, 0, 0, 0, 0)]),
  (2, [(.iload_n 2, 1, 0, 0, 0, 0), (.aload_n 1, 1, 0, 0, 0, 0), (.getfield 84, 3, 4, 0, 1, 1066), (.if_icmp .ge 27, 3, 34, 0, 0, 0)]),
  (10, [(.aload_n 0, 1, 0, 0, 0, 0), (.getfield 18, 3, 10, 1, 9, 2048), (.iload_n 2, 1, 0, 0, 0, 0), (.iconst 0, 1, 0, 0, 0, 0), (.aload_n 0, 1, 0, 0, 0, 0), (.getfield 18, 3, 10, 1, 9, 2048), (.iload_n 2, 1, 0, 0, 0, 0), (.iaload, 1, 0, 0, 0, 0), (.iconst 1, 1, 0, 0, 0, 0), (.isub, 1, 0, 0, 0, 0), (.invokestatic 38, 3, 0, 1, 0, 4053), (.iastore, 1, 0, 0, 0, 0), (.iinc 2 1, 3, 0, 0, 0, 0), (.goto (-29), 3, 2, 0, 0, 0)]),
  (34, [(.iconst 1, 1, 0, 0, 0, 0), (.ireturn, 1, 0, 1, 0, 0)])]
def X_Walk_doubt : MX := (⟨"YearsForCoin$Walk", "doubt", "(LYearsForCoin$Land;)Z"⟩, prog_11_method_17_code, 3, (some .boolean), 1, (4072, 1008, 4071, 25), B_Walk_doubt)
def B_Walk_jubilee : MB := [(0, [(.iconst 0, 1, 0, 0, 0, 0), (.istore_n 2, 1, 0, 0, 0, 0)]),
  (2, [(.iload_n 2, 1, 0, 0, 0, 0), (.aload_n 1, 1, 0, 0, 0, 0), (.getfield 84, 3, 4, 0, 1, 1066), (.if_icmp .ge 67, 3, 74, 0, 0, 0)]),
  (10, [(.aload_n 0, 1, 0, 0, 0, 0), (.getfield 21, 3, 11, 1, 9, 2049), (.iload_n 2, 1, 0, 0, 0, 0), (.iaload, 1, 0, 0, 0, 0), (.ifCond .le 52, 3, 68, 0, 0, 0)]),
  (19, [(.aload_n 0, 1, 0, 0, 0, 0), (.getfield 9, 3, 8, 1, 9, 2046), (.iload_n 2, 1, 0, 0, 0, 0), (.bipush 99, 2, 0, 0, 0, 0), (.aload_n 0, 1, 0, 0, 0, 0), (.getfield 9, 3, 8, 1, 9, 2046), (.iload_n 2, 1, 0, 0, 0, 0), (.iaload, 1, 0, 0, 0, 0), (.aload_n 0, 1, 0, 0, 0, 0), (.getfield 21, 3, 11, 1, 9, 2049), (.iload_n 2, 1, 0, 0, 0, 0), (.iaload, 1, 0, 0, 0, 0), (.iadd, 1, 0, 0, 0, 0), (.invokestatic 44, 3, 0, 2, 0, 4058), (.iastore, 1, 0, 0, 0, 0), (.aload_n 0, 1, 0, 0, 0, 0), (.getfield 21, 3, 11, 1, 9, 2049), (.iload_n 2, 1, 0, 0, 0, 0), (.iconst 0, 1, 0, 0, 0, 0), (.iastore, 1, 0, 0, 0, 0), (.aload_n 0, 1, 0, 0, 0, 0), (.getfield 18, 3, 10, 1, 9, 2048), (.iload_n 2, 1, 0, 0, 0, 0), (.iconst 0, 1, 0, 0, 0, 0), (.aload_n 0, 1, 0, 0, 0, 0), (.getfield 18, 3, 10, 1, 9, 2048), (.iload_n 2, 1, 0, 0, 0, 0), (.iaload, 1, 0, 0, 0, 0), (.iconst 1, 1, 0, 0, 0, 0), (.isub, 1, 0, 0, 0, 0), (.invokestatic 38, 3, 0, 1, 0, 4053), (.iastore, 1, 0, 0, 0, 0)]),
  (68, [(.iinc 2 1, 3, 0, 0, 0, 0), (.goto (-69), 3, 2, 0, 0, 0)]),
  (74, [(.iconst 1, 1, 0, 0, 0, 0), (.ireturn, 1, 0, 1, 0, 0)])]
def X_Walk_jubilee : MX := (⟨"YearsForCoin$Walk", "jubilee", "(LYearsForCoin$Land;)Z"⟩, prog_11_method_18_code, 3, (some .boolean), 1, (4076, 1008, 4075, 26), B_Walk_jubilee)
def B_Main_state : MB := [(0, [(.aload_n 0, 1, 0, 0, 0, 0), (.getfield 10, 3, 0, 1, 11, 2180), (.iload_n 1, 1, 0, 0, 0, 0), (.invokevirtual 103, 3, 61, 1, 8, 3199)]),
  (8, [(.astore 5, 2, 0, 0, 0, 0), (.aload_n 0, 1, 0, 0, 0, 0), (.getfield 10, 3, 0, 1, 11, 2180), (.iload_n 2, 1, 0, 0, 0, 0), (.invokevirtual 113, 3, 72, 1, 8, 4003)]),
  (18, [(.astore 6, 2, 0, 0, 0, 0), (.aload 5, 2, 0, 0, 0, 0), (.ifnull 28, 3, 50, 0, 0, 0)]),
  (25, [(.aload 6, 2, 0, 0, 0, 0), (.ifnull 23, 3, 50, 0, 0, 0)]),
  (30, [(.iload_n 3, 1, 0, 0, 0, 0), (.ifCond .lt 19, 3, 50, 0, 0, 0)]),
  (34, [(.aload_n 0, 1, 0, 0, 0, 0), (.getfield 32, 3, 3, 1, 11, 2183), (.aload 5, 2, 0, 0, 0, 0), (.aload 6, 2, 0, 0, 0, 0), (.iload_n 3, 1, 0, 0, 0, 0), (.invokevirtual 128, 3, 76, 3, 9, 4020)]),
  (46, [(.iload_n 3, 1, 0, 0, 0, 0), (.if_icmp .ge 7, 3, 54, 0, 0, 0)]),
  (50, [(.sipush (-1000), 3, 0, 0, 0, 0), (.ireturn, 1, 0, 0, 0, 0)]),
  (54, [(.aload_n 0, 1, 0, 0, 0, 0), (.getfield 32, 3, 3, 1, 11, 2183), (.aload 5, 2, 0, 0, 0, 0), (.iload 4, 2, 0, 0, 0, 0), (.invokevirtual 132, 3, 89, 2, 9, 4081)]),
  (65, [(.ireturn, 1, 0, 0, 0, 0)])]
def X_Main_state : MX := (⟨"YearsForCoin", "state", "(IIII)I"⟩, prog_1_method_9_code, 7, (some .int), 4, (4080, 1001, 4078, 4079), B_Main_state)
def B_Walk_show : MB := [(0, [(.iload_n 2, 1, 0, 0, 0, 0), (.bipush 10, 2, 0, 0, 0, 0), (.if_icmp .lt 17, 3, 20, 0, 0, 0)]),
  (6, [(.aload_n 0, 1, 0, 0, 0, 0), (.aload_n 1, 1, 0, 0, 0, 0), (.iload_n 2, 1, 0, 0, 0, 0), (.bipush 10, 2, 0, 0, 0, 0), (.idiv, 1, 0, 0, 0, 0), (.iload_n 2, 1, 0, 0, 0, 0), (.bipush 10, 2, 0, 0, 0, 0), (.irem, 1, 0, 0, 0, 0), (.invokevirtual 53, 3, 90, 3, 9, 4085)]),
  (19, [(.ireturn, 1, 0, 0, 0, 0)]),
  (20, [(.iload_n 2, 1, 0, 0, 0, 0), (.tableswitch 78 0 6 #[43, 48, 53, 58, 63, 68, 73], 43, 0, 0, 0, 0)]),
  (64, [(.aload_n 0, 1, 0, 0, 0, 0), (.getfield 57, 3, 0, 0, 9, 2038), (.ireturn, 1, 0, 0, 0, 0)]),
  (69, [(.aload_n 0, 1, 0, 0, 0, 0), (.getfield 60, 3, 1, 0, 9, 2039), (.ireturn, 1, 0, 0, 0, 0)]),
  (74, [(.aload_n 0, 1, 0, 0, 0, 0), (.getfield 63, 3, 2, 0, 9, 2040), (.ireturn, 1, 0, 0, 0, 0)]),
  (79, [(.aload_n 0, 1, 0, 0, 0, 0), (.getfield 66, 3, 3, 0, 9, 2041), (.ireturn, 1, 0, 0, 0, 0)]),
  (84, [(.aload_n 0, 1, 0, 0, 0, 0), (.getfield 69, 3, 4, 0, 9, 2042), (.ireturn, 1, 0, 0, 0, 0)]),
  (89, [(.aload_n 0, 1, 0, 0, 0, 0), (.getfield 72, 3, 5, 0, 9, 2043), (.ireturn, 1, 0, 0, 0, 0)]),
  (94, [(.aload_n 0, 1, 0, 0, 0, 0), (.getfield 75, 3, 6, 0, 9, 2044), (.ireturn, 1, 0, 0, 0, 0)]),
  (99, [(.sipush (-1000), 3, 0, 0, 0, 0), (.ireturn, 1, 0, 0, 0, 0)])]
def X_Walk_show : MX := (⟨"YearsForCoin$Walk", "show", "(LYearsForCoin$Land;I)I"⟩, prog_11_method_4_code, 3, (some .int), 2, (4084, 1008, 4082, 4083), B_Walk_show)
def B_Walk_showBuyer : MB := [(0, [(.aload_n 1, 1, 0, 0, 0, 0), (.iload_n 3, 1, 0, 0, 0, 0), (.invokevirtual 78, 3, 70, 1, 1, 4043)]),
  (5, [(.ifCond .ne 7, 3, 12, 0, 0, 0)]),
  (8, [(.sipush (-1000), 3, 0, 0, 0, 0), (.ireturn, 1, 0, 0, 0, 0)]),
  (12, [(.iload_n 2, 1, 0, 0, 0, 0), (.tableswitch 59 1 4 #[31, 38, 45, 52], 31, 0, 0, 0, 0)]),
  (44, [(.aload_n 0, 1, 0, 0, 0, 0), (.getfield 9, 3, 8, 1, 9, 2046), (.iload_n 3, 1, 0, 0, 0, 0), (.iaload, 1, 0, 0, 0, 0), (.ireturn, 1, 0, 0, 0, 0)]),
  (51, [(.aload_n 0, 1, 0, 0, 0, 0), (.getfield 15, 3, 9, 1, 9, 2047), (.iload_n 3, 1, 0, 0, 0, 0), (.iaload, 1, 0, 0, 0, 0), (.ireturn, 1, 0, 0, 0, 0)]),
  (58, [(.aload_n 0, 1, 0, 0, 0, 0), (.getfield 18, 3, 10, 1, 9, 2048), (.iload_n 3, 1, 0, 0, 0, 0), (.iaload, 1, 0, 0, 0, 0), (.ireturn, 1, 0, 0, 0, 0)]),
  (65, [(.aload_n 0, 1, 0, 0, 0, 0), (.getfield 21, 3, 11, 1, 9, 2049), (.iload_n 3, 1, 0, 0, 0, 0), (.iaload, 1, 0, 0, 0, 0), (.ireturn, 1, 0, 0, 0, 0)]),
  (72, [(.sipush (-1000), 3, 0, 0, 0, 0), (.ireturn, 1, 0, 0, 0, 0)])]
def X_Walk_showBuyer : MX := (⟨"YearsForCoin$Walk", "showBuyer", "(LYearsForCoin$Land;II)I"⟩, prog_11_method_5_code, 4, (some .int), 3, (4088, 1008, 4087, 27), B_Walk_showBuyer)
def B_Main_takes : MB := [(0, [(.aload_n 0, 1, 0, 0, 0, 0), (.getfield 10, 3, 0, 1, 11, 2180), (.iload_n 1, 1, 0, 0, 0, 0), (.invokevirtual 103, 3, 61, 1, 8, 3199)]),
  (8, [(.astore 5, 2, 0, 0, 0, 0), (.aload 5, 2, 0, 0, 0, 0), (.ifnull 21, 3, 33, 0, 0, 0)]),
  (15, [(.aload 5, 2, 0, 0, 0, 0), (.iload_n 2, 1, 0, 0, 0, 0), (.invokevirtual 136, 3, 70, 1, 1, 4093)]),
  (21, [(.ifCond .eq 12, 3, 33, 0, 0, 0)]),
  (24, [(.iload_n 3, 1, 0, 0, 0, 0), (.iload 4, 2, 0, 0, 0, 0), (.invokestatic 139, 3, 92, 0, 2, 4094)]),
  (30, [(.ifCond .ne 5, 3, 35, 0, 0, 0)]),
  (33, [(.iconst (-1), 1, 0, 0, 0, 0), (.ireturn, 1, 0, 0, 0, 0)]),
  (35, [(.aload 5, 2, 0, 0, 0, 0), (.iload_n 2, 1, 0, 0, 0, 0), (.iload_n 3, 1, 0, 0, 0, 0), (.iload 4, 2, 0, 0, 0, 0), (.invokevirtual 143, 3, 93, 3, 1, 4097)]),
  (44, [(.ifCond .eq 7, 3, 51, 0, 0, 0)]),
  (47, [(.iconst 1, 1, 0, 0, 0, 0), (.goto 4, 3, 52, 0, 0, 0)]),
  (51, [(.iconst 0, 1, 0, 0, 0, 0)]),
  (52, [(.ireturn, 1, 0, 0, 0, 0)])]
def X_Main_takes : MX := (⟨"YearsForCoin", "takes", "(IIII)I"⟩, prog_1_method_10_code, 6, (some .int), 4, (4092, 1001, 4090, 4091), B_Main_takes)
def B_Main_isOffer : MB := [(0, [(.iload_n 0, 1, 0, 0, 0, 0), (.iconst 1, 1, 0, 0, 0, 0), (.if_icmp .lt 23, 3, 25, 0, 0, 0)]),
  (5, [(.iload_n 0, 1, 0, 0, 0, 0), (.bipush 60, 2, 0, 0, 0, 0), (.if_icmp .gt 17, 3, 25, 0, 0, 0)]),
  (11, [(.iload_n 1, 1, 0, 0, 0, 0), (.ifCond .lt 13, 3, 25, 0, 0, 0)]),
  (15, [(.iload_n 1, 1, 0, 0, 0, 0), (.bipush 99, 2, 0, 0, 0, 0), (.if_icmp .gt 7, 3, 25, 0, 0, 0)]),
  (21, [(.iconst 1, 1, 0, 0, 0, 0), (.goto 4, 3, 26, 0, 0, 0)]),
  (25, [(.iconst 0, 1, 0, 0, 0, 0)]),
  (26, [(.ireturn, 1, 0, 1, 0, 0)])]
def X_Main_isOffer : MX := (⟨"YearsForCoin", "isOffer", "(II)Z"⟩, prog_1_method_40_code, 2, (some .boolean), 2, (4096, 1001, 4095, 0), B_Main_isOffer)
def B_Land_wants : MB := [(0, [(.aload_n 0, 1, 0, 0, 0, 0), (.iload_n 1, 1, 0, 0, 0, 0), (.invokevirtual 88, 3, 70, 1, 1, 3235)]),
  (5, [(.ifCond .eq 43, 3, 48, 0, 0, 0)]),
  (8, [(.iload_n 3, 1, 0, 0, 0, 0), (.aload_n 0, 1, 0, 0, 0, 0), (.getfield 25, 3, 9, 1, 1, 1078), (.iload_n 1, 1, 0, 0, 0, 0), (.iaload, 1, 0, 0, 0, 0), (.if_icmp .gt 33, 3, 48, 0, 0, 0)]),
  (18, [(.aload_n 0, 1, 0, 0, 0, 0), (.getfield 15, 3, 6, 1, 1, 1071), (.iload_n 1, 1, 0, 0, 0, 0), (.iaload, 1, 0, 0, 0, 0), (.aload_n 0, 1, 0, 0, 0, 0), (.getfield 22, 3, 8, 1, 1, 1075), (.iload_n 1, 1, 0, 0, 0, 0), (.iaload, 1, 0, 0, 0, 0), (.aload_n 0, 1, 0, 0, 0, 0), (.getfield 28, 3, 10, 1, 1, 1081), (.iload_n 1, 1, 0, 0, 0, 0), (.iaload, 1, 0, 0, 0, 0), (.iload_n 2, 1, 0, 0, 0, 0), (.iload_n 3, 1, 0, 0, 0, 0), (.invokestatic 96, 3, 82, 0, 5, 4101)]),
  (41, [(.ifCond .eq 7, 3, 48, 0, 0, 0)]),
  (44, [(.iconst 1, 1, 0, 0, 0, 0), (.goto 4, 3, 49, 0, 0, 0)]),
  (48, [(.iconst 0, 1, 0, 0, 0, 0)]),
  (49, [(.ireturn, 1, 0, 1, 0, 0)])]
def X_Land_wants : MX := (⟨"YearsForCoin$Land", "wants", "(III)Z"⟩, prog_3_method_16_code, 4, (some .boolean), 3, (4100, 1003, 4098, 4099), B_Land_wants)
def B_Main_priced : MB := [(0, [(.aload_n 0, 1, 0, 0, 0, 0), (.getfield 10, 3, 0, 1, 11, 2180), (.iload_n 1, 1, 0, 0, 0, 0), (.invokevirtual 103, 3, 61, 1, 8, 3199)]),
  (8, [(.astore 5, 2, 0, 0, 0, 0), (.aload 5, 2, 0, 0, 0, 0), (.ifnull 21, 3, 33, 0, 0, 0)]),
  (15, [(.iload_n 2, 1, 0, 0, 0, 0), (.iconst 0, 1, 0, 0, 0, 0), (.invokestatic 139, 3, 92, 0, 2, 4094)]),
  (20, [(.ifCond .eq 13, 3, 33, 0, 0, 0)]),
  (23, [(.iload_n 3, 1, 0, 0, 0, 0), (.iconst (-1), 1, 0, 0, 0, 0), (.if_icmp .lt 8, 3, 33, 0, 0, 0)]),
  (28, [(.iload_n 3, 1, 0, 0, 0, 0), (.iconst 4, 1, 0, 0, 0, 0), (.if_icmp .lt 5, 3, 35, 0, 0, 0)]),
  (33, [(.iconst (-1), 1, 0, 0, 0, 0), (.ireturn, 1, 0, 0, 0, 0)]),
  (35, [(.aload 5, 2, 0, 0, 0, 0), (.iload_n 2, 1, 0, 0, 0, 0), (.iload_n 3, 1, 0, 0, 0, 0), (.invokevirtual 147, 3, 95, 2, 1, 4106)]),
  (42, [(.istore 6, 2, 0, 0, 0, 0), (.iload 4, 2, 0, 0, 0, 0), (.ifCond .eq 15, 3, 61, 0, 0, 0)]),
  (49, [(.aload 5, 2, 0, 0, 0, 0), (.iload_n 2, 1, 0, 0, 0, 0), (.iload_n 3, 1, 0, 0, 0, 0), (.iload 6, 2, 0, 0, 0, 0), (.invokevirtual 150, 3, 96, 3, 1, 4119)]),
  (58, [(.goto 5, 3, 63, 0, 0, 0)]),
  (61, [(.iload 6, 2, 0, 0, 0, 0)]),
  (63, [(.ireturn, 1, 0, 0, 0, 0)])]
def X_Main_priced : MX := (⟨"YearsForCoin", "priced", "(IIIZ)I"⟩, prog_1_method_11_code, 7, (some .int), 4, (4105, 1001, 4103, 4104), B_Main_priced)
def B_Land_bestPrice : MB := [(0, [(.iconst 0, 1, 0, 0, 0, 0), (.istore_n 3, 1, 0, 0, 0, 0), (.iconst 0, 1, 0, 0, 0, 0), (.istore 4, 2, 0, 0, 0, 0), (.iconst 1, 1, 0, 0, 0, 0), (.istore 5, 2, 0, 0, 0, 0)]),
  (8, [(.iload 5, 2, 0, 0, 0, 0), (.bipush 99, 2, 0, 0, 0, 0), (.if_icmp .gt 33, 3, 45, 0, 0, 0)]),
  (15, [(.aload_n 0, 1, 0, 0, 0, 0), (.iload_n 1, 1, 0, 0, 0, 0), (.iload_n 2, 1, 0, 0, 0, 0), (.iload 5, 2, 0, 0, 0, 0), (.invokevirtual 108, 3, 96, 3, 1, 4110)]),
  (23, [(.istore 6, 2, 0, 0, 0, 0), (.iload 6, 2, 0, 0, 0, 0), (.iload 4, 2, 0, 0, 0, 0), (.if_icmp .le 10, 3, 39, 0, 0, 0)]),
  (32, [(.iload 6, 2, 0, 0, 0, 0), (.istore 4, 2, 0, 0, 0, 0), (.iload 5, 2, 0, 0, 0, 0), (.istore_n 3, 1, 0, 0, 0, 0)]),
  (39, [(.iinc 5 1, 3, 0, 0, 0, 0), (.goto (-34), 3, 8, 0, 0, 0)]),
  (45, [(.iload_n 3, 1, 0, 0, 0, 0), (.ireturn, 1, 0, 0, 0, 0)])]
def X_Land_bestPrice : MX := (⟨"YearsForCoin$Land", "bestPrice", "(II)I"⟩, prog_3_method_19_code, 7, (some .int), 2, (4109, 1003, 4107, 4108), B_Land_bestPrice)
def B_Land_brings : MB := [(0, [(.iload_n 3, 1, 0, 0, 0, 0), (.aload_n 0, 1, 0, 0, 0, 0), (.iload_n 1, 1, 0, 0, 0, 0), (.iload_n 2, 1, 0, 0, 0, 0), (.iload_n 3, 1, 0, 0, 0, 0), (.invokevirtual 104, 3, 97, 3, 1, 4114)]),
  (8, [(.imul, 1, 0, 0, 0, 0), (.ireturn, 1, 0, 0, 0, 0)])]
def X_Land_brings : MX := (⟨"YearsForCoin$Land", "brings", "(III)I"⟩, prog_3_method_18_code, 4, (some .int), 3, (4113, 1003, 4111, 4112), B_Land_brings)
def B_Land_howManyWant : MB := [(0, [(.iconst 0, 1, 0, 0, 0, 0), (.istore 4, 2, 0, 0, 0, 0), (.iconst 0, 1, 0, 0, 0, 0), (.istore 5, 2, 0, 0, 0, 0)]),
  (6, [(.iload 5, 2, 0, 0, 0, 0), (.aload_n 0, 1, 0, 0, 0, 0), (.getfield 49, 3, 4, 0, 1, 1065), (.if_icmp .ge 39, 3, 51, 0, 0, 0)]),
  (15, [(.iload_n 2, 1, 0, 0, 0, 0), (.iconst (-1), 1, 0, 0, 0, 0), (.if_icmp .eq 14, 3, 31, 0, 0, 0)]),
  (20, [(.aload_n 0, 1, 0, 0, 0, 0), (.getfield 15, 3, 6, 1, 1, 1071), (.iload 5, 2, 0, 0, 0, 0), (.iaload, 1, 0, 0, 0, 0), (.iload_n 2, 1, 0, 0, 0, 0), (.if_icmp .ne 17, 3, 45, 0, 0, 0)]),
  (31, [(.aload_n 0, 1, 0, 0, 0, 0), (.iload 5, 2, 0, 0, 0, 0), (.iload_n 1, 1, 0, 0, 0, 0), (.iload_n 3, 1, 0, 0, 0, 0), (.invokevirtual 100, 3, 93, 3, 1, 4118)]),
  (39, [(.ifCond .eq 6, 3, 45, 0, 0, 0)]),
  (42, [(.iinc 4 1, 3, 0, 0, 0, 0)]),
  (45, [(.iinc 5 1, 3, 0, 0, 0, 0), (.goto (-42), 3, 6, 0, 0, 0)]),
  (51, [(.iload 4, 2, 0, 0, 0, 0), (.ireturn, 1, 0, 0, 0, 0)])]
def X_Land_howManyWant : MX := (⟨"YearsForCoin$Land", "howManyWant", "(III)I"⟩, prog_3_method_17_code, 6, (some .int), 3, (4117, 1003, 4115, 4116), B_Land_howManyWant)
def B_Main_days : MB := [(0, [(.aload_n 0, 1, 0, 0, 0, 0), (.getfield 10, 3, 0, 1, 11, 2180), (.iload_n 1, 1, 0, 0, 0, 0), (.invokevirtual 103, 3, 61, 1, 8, 3199)]),
  (8, [(.astore 4, 2, 0, 0, 0, 0), (.aload 4, 2, 0, 0, 0, 0), (.ifnull 21, 3, 33, 0, 0, 0)]),
  (15, [(.aload 4, 2, 0, 0, 0, 0), (.iload_n 2, 1, 0, 0, 0, 0), (.invokevirtual 154, 3, 65, 1, 1, 4124)]),
  (21, [(.ifCond .eq 12, 3, 33, 0, 0, 0)]),
  (24, [(.aload 4, 2, 0, 0, 0, 0), (.iload_n 3, 1, 0, 0, 0, 0), (.invokevirtual 154, 3, 65, 1, 1, 4124)]),
  (30, [(.ifCond .ne 5, 3, 35, 0, 0, 0)]),
  (33, [(.iconst (-1), 1, 0, 0, 0, 0), (.ireturn, 1, 0, 0, 0, 0)]),
  (35, [(.aload_n 0, 1, 0, 0, 0, 0), (.getfield 39, 3, 4, 1, 11, 2184), (.aload 4, 2, 0, 0, 0, 0), (.aload 4, 2, 0, 0, 0, 0), (.getfield 157, 3, 3, 0, 1, 1064), (.invokevirtual 160, 3, 99, 2, 10, 4125)]),
  (49, [(.aload_n 0, 1, 0, 0, 0, 0), (.getfield 39, 3, 4, 1, 11, 2184), (.iload_n 2, 1, 0, 0, 0, 0), (.iload_n 3, 1, 0, 0, 0, 0), (.invokevirtual 164, 3, 100, 2, 10, 4134)]),
  (58, [(.istore 5, 2, 0, 0, 0, 0), (.iload 5, 2, 0, 0, 0, 0), (.sipush 1000, 3, 0, 0, 0, 0), (.if_icmp .lt 7, 3, 72, 0, 0, 0)]),
  (68, [(.iconst (-1), 1, 0, 0, 0, 0), (.goto 5, 3, 74, 0, 0, 0)]),
  (72, [(.iload 5, 2, 0, 0, 0, 0)]),
  (74, [(.ireturn, 1, 0, 0, 0, 0)])]
def X_Main_days : MX := (⟨"YearsForCoin", "days", "(III)I"⟩, prog_1_method_12_code, 6, (some .int), 3, (4123, 1001, 4121, 4122), B_Main_days)
def B_Ways_measure : MB := [(0, [(.aload_n 0, 1, 0, 0, 0, 0), (.aload_n 1, 1, 0, 0, 0, 0), (.getfield 24, 3, 0, 0, 1, 1050), (.putfield 30, 3, 0, 0, 10, 2081), (.iconst 0, 1, 0, 0, 0, 0), (.istore_n 3, 1, 0, 0, 0, 0)]),
  (10, [(.iload_n 3, 1, 0, 0, 0, 0), (.aload_n 0, 1, 0, 0, 0, 0), (.getfield 30, 3, 0, 0, 10, 2081), (.if_icmp .ge 84, 3, 99, 0, 0, 0)]),
  (18, [(.iconst 0, 1, 0, 0, 0, 0), (.istore 4, 2, 0, 0, 0, 0)]),
  (21, [(.iload 4, 2, 0, 0, 0, 0), (.aload_n 0, 1, 0, 0, 0, 0), (.getfield 30, 3, 0, 0, 10, 2081), (.if_icmp .ge 66, 3, 93, 0, 0, 0)]),
  (30, [(.iload_n 2, 1, 0, 0, 0, 0), (.iload 4, 2, 0, 0, 0, 0), (.ishr, 1, 0, 0, 0, 0), (.iconst 1, 1, 0, 0, 0, 0), (.iand, 1, 0, 0, 0, 0), (.ifCond .eq 7, 3, 43, 0, 0, 0)]),
  (39, [(.iconst 0, 1, 0, 0, 0, 0), (.goto 10, 3, 50, 0, 0, 0)]),
  (43, [(.aload_n 1, 1, 0, 0, 0, 0), (.iload_n 3, 1, 0, 0, 0, 0), (.iload 4, 2, 0, 0, 0, 0), (.invokevirtual 31, 3, 66, 2, 1, 4129)]),
  (50, [(.istore 5, 2, 0, 0, 0, 0), (.aload_n 0, 1, 0, 0, 0, 0), (.getfield 9, 3, 1, 1, 10, 2082), (.iload_n 3, 1, 0, 0, 0, 0), (.bipush 6, 2, 0, 0, 0, 0), (.imul, 1, 0, 0, 0, 0), (.iload 4, 2, 0, 0, 0, 0), (.iadd, 1, 0, 0, 0, 0), (.iload_n 3, 1, 0, 0, 0, 0), (.iload 4, 2, 0, 0, 0, 0), (.if_icmp .ne 7, 3, 73, 0, 0, 0)]),
  (69, [(.iconst 0, 1, 0, 0, 0, 0), (.goto 16, 3, 86, 0, 0, 0)]),
  (73, [(.iload 5, 2, 0, 0, 0, 0), (.ifCond .ne 9, 3, 84, 0, 0, 0)]),
  (78, [(.sipush 1000, 3, 0, 0, 0, 0), (.goto 5, 3, 86, 0, 0, 0)]),
  (84, [(.iload 5, 2, 0, 0, 0, 0)]),
  (86, [(.iastore, 1, 0, 0, 0, 0), (.iinc 4 1, 3, 0, 0, 0, 0), (.goto (-69), 3, 21, 0, 0, 0)]),
  (93, [(.iinc 3 1, 3, 0, 0, 0, 0), (.goto (-86), 3, 10, 0, 0, 0)]),
  (99, [(.iconst 0, 1, 0, 0, 0, 0), (.istore_n 3, 1, 0, 0, 0, 0)]),
  (101, [(.iload_n 3, 1, 0, 0, 0, 0), (.aload_n 0, 1, 0, 0, 0, 0), (.getfield 30, 3, 0, 0, 10, 2081), (.if_icmp .ge 90, 3, 196, 0, 0, 0)]),
  (109, [(.iconst 0, 1, 0, 0, 0, 0), (.istore 4, 2, 0, 0, 0, 0)]),
  (112, [(.iload 4, 2, 0, 0, 0, 0), (.aload_n 0, 1, 0, 0, 0, 0), (.getfield 30, 3, 0, 0, 10, 2081), (.if_icmp .ge 72, 3, 190, 0, 0, 0)]),
  (121, [(.iconst 0, 1, 0, 0, 0, 0), (.istore 5, 2, 0, 0, 0, 0)]),
  (124, [(.iload 5, 2, 0, 0, 0, 0), (.aload_n 0, 1, 0, 0, 0, 0), (.getfield 30, 3, 0, 0, 10, 2081), (.if_icmp .ge 54, 3, 184, 0, 0, 0)]),
  (133, [(.aload_n 0, 1, 0, 0, 0, 0), (.iload 4, 2, 0, 0, 0, 0), (.iload_n 3, 1, 0, 0, 0, 0), (.invokevirtual 35, 3, 100, 2, 10, 4130)]),
  (140, [(.aload_n 0, 1, 0, 0, 0, 0), (.iload_n 3, 1, 0, 0, 0, 0), (.iload 5, 2, 0, 0, 0, 0), (.invokevirtual 35, 3, 100, 2, 10, 4130)]),
  (147, [(.iadd, 1, 0, 0, 0, 0), (.istore 6, 2, 0, 0, 0, 0), (.iload 6, 2, 0, 0, 0, 0), (.aload_n 0, 1, 0, 0, 0, 0), (.iload 4, 2, 0, 0, 0, 0), (.iload 5, 2, 0, 0, 0, 0), (.invokevirtual 35, 3, 100, 2, 10, 4130)]),
  (160, [(.if_icmp .ge 18, 3, 178, 0, 0, 0)]),
  (163, [(.aload_n 0, 1, 0, 0, 0, 0), (.getfield 9, 3, 1, 1, 10, 2082), (.iload 4, 2, 0, 0, 0, 0), (.bipush 6, 2, 0, 0, 0, 0), (.imul, 1, 0, 0, 0, 0), (.iload 5, 2, 0, 0, 0, 0), (.iadd, 1, 0, 0, 0, 0), (.iload 6, 2, 0, 0, 0, 0), (.iastore, 1, 0, 0, 0, 0)]),
  (178, [(.iinc 5 1, 3, 0, 0, 0, 0), (.goto (-57), 3, 124, 0, 0, 0)]),
  (184, [(.iinc 4 1, 3, 0, 0, 0, 0), (.goto (-75), 3, 112, 0, 0, 0)]),
  (190, [(.iinc 3 1, 3, 0, 0, 0, 0), (.goto (-92), 3, 101, 0, 0, 0)]),
  (196, [(.return_, 1, 0, 0, 0, 0)])]
def X_Ways_measure : MX := (⟨"YearsForCoin$Ways", "measure", "(LYearsForCoin$Land;I)V"⟩, prog_12_method_2_code, 7, none, 2, (4128, 1009, 4126, 4127), B_Ways_measure)
def B_Ways_between : MB := [(0, [(.iload_n 1, 1, 0, 0, 0, 0), (.ifCond .lt 27, 3, 28, 0, 0, 0)]),
  (4, [(.iload_n 1, 1, 0, 0, 0, 0), (.aload_n 0, 1, 0, 0, 0, 0), (.getfield 30, 3, 0, 0, 10, 2081), (.if_icmp .ge 19, 3, 28, 0, 0, 0)]),
  (12, [(.iload_n 2, 1, 0, 0, 0, 0), (.ifCond .lt 15, 3, 28, 0, 0, 0)]),
  (16, [(.iload_n 2, 1, 0, 0, 0, 0), (.aload_n 0, 1, 0, 0, 0, 0), (.getfield 30, 3, 0, 0, 10, 2081), (.if_icmp .ge 7, 3, 28, 0, 0, 0)]),
  (24, [(.iconst 1, 1, 0, 0, 0, 0), (.goto 4, 3, 29, 0, 0, 0)]),
  (28, [(.iconst 0, 1, 0, 0, 0, 0)]),
  (29, [(.istore_n 3, 1, 0, 0, 0, 0), (.iload_n 3, 1, 0, 0, 0, 0), (.ifCond .eq 17, 3, 48, 0, 0, 0)]),
  (34, [(.aload_n 0, 1, 0, 0, 0, 0), (.getfield 9, 3, 1, 1, 10, 2082), (.iload_n 1, 1, 0, 0, 0, 0), (.bipush 6, 2, 0, 0, 0, 0), (.imul, 1, 0, 0, 0, 0), (.iload_n 2, 1, 0, 0, 0, 0), (.iadd, 1, 0, 0, 0, 0), (.iaload, 1, 0, 0, 0, 0), (.goto 6, 3, 51, 0, 0, 0)]),
  (48, [(.sipush 1000, 3, 0, 0, 0, 0)]),
  (51, [(.ireturn, 1, 0, 0, 0, 0)])]
def X_Ways_between : MX := (⟨"YearsForCoin$Ways", "between", "(II)I"⟩, prog_12_method_3_code, 4, (some .int), 2, (4133, 1009, 4131, 4132), B_Ways_between)
def B_Main_tour : MB := [(0, [(.aload_n 0, 1, 0, 0, 0, 0), (.getfield 10, 3, 0, 1, 11, 2180), (.iload_n 1, 1, 0, 0, 0, 0), (.invokevirtual 103, 3, 61, 1, 8, 3199)]),
  (8, [(.astore 5, 2, 0, 0, 0, 0), (.aload 5, 2, 0, 0, 0, 0), (.ifnull 13, 3, 25, 0, 0, 0)]),
  (15, [(.aload 5, 2, 0, 0, 0, 0), (.iload_n 2, 1, 0, 0, 0, 0), (.iload_n 3, 1, 0, 0, 0, 0), (.invokestatic 167, 3, 102, 0, 3, 4139)]),
  (22, [(.ifCond .ne 5, 3, 27, 0, 0, 0)]),
  (25, [(.iconst (-1), 1, 0, 0, 0, 0), (.ireturn, 1, 0, 0, 0, 0)]),
  (27, [(.aload_n 0, 1, 0, 0, 0, 0), (.getfield 39, 3, 4, 1, 11, 2184), (.aload 5, 2, 0, 0, 0, 0), (.aload 5, 2, 0, 0, 0, 0), (.getfield 157, 3, 3, 0, 1, 1064), (.iload_n 2, 1, 0, 0, 0, 0), (.iload_n 3, 1, 0, 0, 0, 0), (.invokevirtual 171, 3, 103, 4, 10, 4143)]),
  (43, [(.istore 6, 2, 0, 0, 0, 0), (.iload 4, 2, 0, 0, 0, 0), (.iconst (-1), 1, 0, 0, 0, 0), (.if_icmp .ne 6, 3, 54, 0, 0, 0)]),
  (51, [(.iload 6, 2, 0, 0, 0, 0), (.ireturn, 1, 0, 0, 0, 0)]),
  (54, [(.iload 4, 2, 0, 0, 0, 0), (.bipush (-2), 2, 0, 0, 0, 0), (.if_icmp .ne 13, 3, 71, 0, 0, 0)]),
  (61, [(.aload_n 0, 1, 0, 0, 0, 0), (.getfield 39, 3, 4, 1, 11, 2184), (.getfield 175, 3, 7, 0, 10, 2089), (.goto 12, 3, 80, 0, 0, 0)]),
  (71, [(.aload_n 0, 1, 0, 0, 0, 0), (.getfield 39, 3, 4, 1, 11, 2184), (.iload 4, 2, 0, 0, 0, 0), (.invokevirtual 178, 3, 107, 1, 10, 4162)]),
  (80, [(.ireturn, 1, 0, 0, 0, 0)])]
def X_Main_tour : MX := (⟨"YearsForCoin", "tour", "(IIII)I"⟩, prog_1_method_13_code, 7, (some .int), 4, (4138, 1001, 4136, 4137), B_Main_tour)
def B_Main_isTour : MB := [(0, [(.iload_n 1, 1, 0, 0, 0, 0), (.ifCond .lt 21, 3, 22, 0, 0, 0)]),
  (4, [(.iload_n 1, 1, 0, 0, 0, 0), (.bipush 40, 2, 0, 0, 0, 0), (.if_icmp .gt 15, 3, 22, 0, 0, 0)]),
  (10, [(.aload_n 0, 1, 0, 0, 0, 0), (.iload_n 2, 1, 0, 0, 0, 0), (.invokevirtual 197, 3, 68, 1, 1, 4142)]),
  (15, [(.ifCond .eq 7, 3, 22, 0, 0, 0)]),
  (18, [(.iconst 1, 1, 0, 0, 0, 0), (.goto 4, 3, 23, 0, 0, 0)]),
  (22, [(.iconst 0, 1, 0, 0, 0, 0)]),
  (23, [(.ireturn, 1, 0, 1, 0, 0)])]
def X_Main_isTour : MX := (⟨"YearsForCoin", "isTour", "(LYearsForCoin$Land;II)Z"⟩, prog_1_method_41_code, 3, (some .boolean), 3, (4141, 1001, 4140, 0), B_Main_isTour)
def B_Ways_earn : MB := [(0, [(.aload_n 0, 1, 0, 0, 0, 0), (.aload_n 1, 1, 0, 0, 0, 0), (.iload_n 2, 1, 0, 0, 0, 0), (.invokevirtual 53, 3, 99, 2, 10, 4147)]),
  (6, [(.iconst 0, 1, 0, 0, 0, 0), (.istore 5, 2, 0, 0, 0, 0)]),
  (9, [(.iload 5, 2, 0, 0, 0, 0), (.aload_n 0, 1, 0, 0, 0, 0), (.getfield 30, 3, 0, 0, 10, 2081), (.if_icmp .ge 37, 3, 52, 0, 0, 0)]),
  (18, [(.aload_n 0, 1, 0, 0, 0, 0), (.getfield 15, 3, 2, 1, 10, 2083), (.iload 5, 2, 0, 0, 0, 0), (.iload_n 2, 1, 0, 0, 0, 0), (.iload 5, 2, 0, 0, 0, 0), (.ishr, 1, 0, 0, 0, 0), (.iconst 1, 1, 0, 0, 0, 0), (.iand, 1, 0, 0, 0, 0), (.ifCond .eq 7, 3, 37, 0, 0, 0)]),
  (33, [(.iconst 0, 1, 0, 0, 0, 0), (.goto 11, 3, 45, 0, 0, 0)]),
  (37, [(.aload_n 1, 1, 0, 0, 0, 0), (.iload 5, 2, 0, 0, 0, 0), (.iload 4, 2, 0, 0, 0, 0), (.invokevirtual 57, 3, 104, 2, 1, 4148)]),
  (45, [(.iastore, 1, 0, 0, 0, 0), (.iinc 5 1, 3, 0, 0, 0, 0), (.goto (-40), 3, 9, 0, 0, 0)]),
  (52, [(.aload_n 0, 1, 0, 0, 0, 0), (.iconst (-1), 1, 0, 0, 0, 0), (.putfield 60, 3, 6, 0, 10, 2087), (.aload_n 0, 1, 0, 0, 0, 0), (.iconst 0, 1, 0, 0, 0, 0), (.putfield 38, 3, 7, 0, 10, 2088), (.aload_n 0, 1, 0, 0, 0, 0), (.iconst 0, 1, 0, 0, 0, 0), (.iconst 0, 1, 0, 0, 0, 0), (.iconst 1, 1, 0, 0, 0, 0), (.iload_n 3, 1, 0, 0, 0, 0), (.aload_n 0, 1, 0, 0, 0, 0), (.getfield 15, 3, 2, 1, 10, 2083), (.iconst 0, 1, 0, 0, 0, 0), (.iaload, 1, 0, 0, 0, 0), (.invokevirtual 63, 3, 105, 5, 10, 4152)]),
  (76, [(.aload_n 0, 1, 0, 0, 0, 0), (.getfield 60, 3, 6, 0, 10, 2087), (.ireturn, 1, 0, 0, 0, 0)])]
def X_Ways_earn : MX := (⟨"YearsForCoin$Ways", "earn", "(LYearsForCoin$Land;III)I"⟩, prog_12_method_8_code, 6, (some .int), 4, (4146, 1009, 4144, 4145), B_Ways_earn)
def B_Land_salesIn : MB := [(0, [(.aload_n 0, 1, 0, 0, 0, 0), (.iload_n 2, 1, 0, 0, 0, 0), (.invokevirtual 85, 3, 68, 1, 1, 3227)]),
  (5, [(.ifCond .ne 5, 3, 10, 0, 0, 0)]),
  (8, [(.iconst 0, 1, 0, 0, 0, 0), (.ireturn, 1, 0, 0, 0, 0)]),
  (10, [(.iconst 0, 1, 0, 0, 0, 0), (.istore_n 3, 1, 0, 0, 0, 0), (.iconst 0, 1, 0, 0, 0, 0), (.istore 4, 2, 0, 0, 0, 0)]),
  (15, [(.iload 4, 2, 0, 0, 0, 0), (.aload_n 0, 1, 0, 0, 0, 0), (.getfield 49, 3, 4, 0, 1, 1065), (.if_icmp .ge 50, 3, 71, 0, 0, 0)]),
  (24, [(.aload_n 0, 1, 0, 0, 0, 0), (.getfield 19, 3, 7, 1, 1, 1073), (.iload 4, 2, 0, 0, 0, 0), (.iaload, 1, 0, 0, 0, 0), (.iload_n 1, 1, 0, 0, 0, 0), (.if_icmp .ne 33, 3, 65, 0, 0, 0)]),
  (35, [(.aload_n 0, 1, 0, 0, 0, 0), (.iload 4, 2, 0, 0, 0, 0), (.aload_n 0, 1, 0, 0, 0, 0), (.getfield 31, 3, 11, 1, 1, 1083), (.iload_n 2, 1, 0, 0, 0, 0), (.iaload, 1, 0, 0, 0, 0), (.aload_n 0, 1, 0, 0, 0, 0), (.getfield 34, 3, 12, 1, 1, 1086), (.iload_n 2, 1, 0, 0, 0, 0), (.iaload, 1, 0, 0, 0, 0), (.invokevirtual 100, 3, 93, 3, 1, 4118)]),
  (53, [(.ifCond .eq 12, 3, 65, 0, 0, 0)]),
  (56, [(.iload_n 3, 1, 0, 0, 0, 0), (.aload_n 0, 1, 0, 0, 0, 0), (.getfield 34, 3, 12, 1, 1, 1086), (.iload_n 2, 1, 0, 0, 0, 0), (.iaload, 1, 0, 0, 0, 0), (.iadd, 1, 0, 0, 0, 0), (.istore_n 3, 1, 0, 0, 0, 0)]),
  (65, [(.iinc 4 1, 3, 0, 0, 0, 0), (.goto (-53), 3, 15, 0, 0, 0)]),
  (71, [(.iload_n 3, 1, 0, 0, 0, 0), (.ireturn, 1, 0, 0, 0, 0)])]
def X_Land_salesIn : MX := (⟨"YearsForCoin$Land", "salesIn", "(II)I"⟩, prog_3_method_20_code, 5, (some .int), 2, (4151, 1003, 4149, 4150), B_Land_salesIn)
def B_Ways_earnOn : MB := [(0, [(.iload 5, 2, 0, 0, 0, 0), (.aload_n 0, 1, 0, 0, 0, 0), (.getfield 60, 3, 6, 0, 10, 2087), (.if_icmp .gt 20, 3, 26, 0, 0, 0)]),
  (9, [(.iload 5, 2, 0, 0, 0, 0), (.aload_n 0, 1, 0, 0, 0, 0), (.getfield 60, 3, 6, 0, 10, 2087), (.if_icmp .ne 22, 3, 37, 0, 0, 0)]),
  (18, [(.iload_n 1, 1, 0, 0, 0, 0), (.aload_n 0, 1, 0, 0, 0, 0), (.getfield 38, 3, 7, 0, 10, 2088), (.if_icmp .ge 14, 3, 37, 0, 0, 0)]),
  (26, [(.aload_n 0, 1, 0, 0, 0, 0), (.iload 5, 2, 0, 0, 0, 0), (.putfield 60, 3, 6, 0, 10, 2087), (.aload_n 0, 1, 0, 0, 0, 0), (.iload_n 1, 1, 0, 0, 0, 0), (.invokevirtual 67, 3, 106, 1, 10, 4156)]),
  (37, [(.iload_n 1, 1, 0, 0, 0, 0), (.iconst 5, 1, 0, 0, 0, 0), (.if_icmp .lt 4, 3, 43, 0, 0, 0)]),
  (42, [(.return_, 1, 0, 0, 0, 0)]),
  (43, [(.iconst 1, 1, 0, 0, 0, 0), (.istore 6, 2, 0, 0, 0, 0)]),
  (46, [(.iload 6, 2, 0, 0, 0, 0), (.aload_n 0, 1, 0, 0, 0, 0), (.getfield 30, 3, 0, 0, 10, 2081), (.if_icmp .ge 72, 3, 124, 0, 0, 0)]),
  (55, [(.aload_n 0, 1, 0, 0, 0, 0), (.iload_n 2, 1, 0, 0, 0, 0), (.iload 6, 2, 0, 0, 0, 0), (.invokevirtual 35, 3, 100, 2, 10, 4130)]),
  (62, [(.istore 7, 2, 0, 0, 0, 0), (.iload_n 3, 1, 0, 0, 0, 0), (.iload 6, 2, 0, 0, 0, 0), (.ishr, 1, 0, 0, 0, 0), (.iconst 1, 1, 0, 0, 0, 0), (.iand, 1, 0, 0, 0, 0), (.ifCond .ne 48, 3, 118, 0, 0, 0)]),
  (73, [(.iload 7, 2, 0, 0, 0, 0), (.iload 4, 2, 0, 0, 0, 0), (.if_icmp .gt 41, 3, 118, 0, 0, 0)]),
  (80, [(.aload_n 0, 1, 0, 0, 0, 0), (.getfield 18, 3, 3, 1, 10, 2084), (.iload_n 1, 1, 0, 0, 0, 0), (.iload 6, 2, 0, 0, 0, 0), (.iastore, 1, 0, 0, 0, 0), (.aload_n 0, 1, 0, 0, 0, 0), (.iload_n 1, 1, 0, 0, 0, 0), (.iconst 1, 1, 0, 0, 0, 0), (.iadd, 1, 0, 0, 0, 0), (.iload 6, 2, 0, 0, 0, 0), (.iload_n 3, 1, 0, 0, 0, 0), (.iconst 1, 1, 0, 0, 0, 0), (.iload 6, 2, 0, 0, 0, 0), (.ishl, 1, 0, 0, 0, 0), (.ior, 1, 0, 0, 0, 0), (.iload 4, 2, 0, 0, 0, 0), (.iload 7, 2, 0, 0, 0, 0), (.isub, 1, 0, 0, 0, 0), (.iload 5, 2, 0, 0, 0, 0), (.aload_n 0, 1, 0, 0, 0, 0), (.getfield 15, 3, 2, 1, 10, 2083), (.iload 6, 2, 0, 0, 0, 0), (.iaload, 1, 0, 0, 0, 0), (.iadd, 1, 0, 0, 0, 0), (.invokevirtual 63, 3, 105, 5, 10, 4152)]),
  (118, [(.iinc 6 1, 3, 0, 0, 0, 0), (.goto (-75), 3, 46, 0, 0, 0)]),
  (124, [(.return_, 1, 0, 0, 0, 0)])]
def X_Ways_earnOn : MX := (⟨"YearsForCoin$Ways", "earnOn", "(IIIII)V"⟩, prog_12_method_9_code, 8, none, 5, (4155, 1009, 4154, 28), B_Ways_earnOn)
def B_Ways_keepRow : MB := [(0, [(.aload_n 0, 1, 0, 0, 0, 0), (.iload_n 1, 1, 0, 0, 0, 0), (.bipush 6, 2, 0, 0, 0, 0), (.invokestatic 78, 3, 0, 2, 0, 4160), (.putfield 38, 3, 7, 0, 10, 2088), (.aload_n 0, 1, 0, 0, 0, 0), (.getfield 18, 3, 3, 1, 10, 2084), (.iconst 0, 1, 0, 0, 0, 0), (.aload_n 0, 1, 0, 0, 0, 0), (.getfield 21, 3, 4, 1, 10, 2085), (.iconst 0, 1, 0, 0, 0, 0), (.aload_n 0, 1, 0, 0, 0, 0), (.getfield 38, 3, 7, 0, 10, 2088), (.invokestatic 81, 3, 0, 4, 0, 4161), (.return_, 1, 0, 0, 0, 0)])]
def X_Ways_keepRow : MX := (⟨"YearsForCoin$Ways", "keepRow", "(I)V"⟩, prog_12_method_12_code, 2, none, 1, (4159, 1009, 4158, 29), B_Ways_keepRow)
def B_Ways_townOfRow : MB := [(0, [(.iload_n 1, 1, 0, 0, 0, 0), (.ifCond .lt 26, 3, 27, 0, 0, 0)]),
  (4, [(.iload_n 1, 1, 0, 0, 0, 0), (.aload_n 0, 1, 0, 0, 0, 0), (.getfield 38, 3, 7, 0, 10, 2088), (.if_icmp .ge 18, 3, 27, 0, 0, 0)]),
  (12, [(.iload_n 1, 1, 0, 0, 0, 0), (.bipush 6, 2, 0, 0, 0, 0), (.if_icmp .ge 12, 3, 27, 0, 0, 0)]),
  (18, [(.aload_n 0, 1, 0, 0, 0, 0), (.getfield 21, 3, 4, 1, 10, 2085), (.iload_n 1, 1, 0, 0, 0, 0), (.iaload, 1, 0, 0, 0, 0), (.goto 4, 3, 28, 0, 0, 0)]),
  (27, [(.iconst (-1), 1, 0, 0, 0, 0)]),
  (28, [(.ireturn, 1, 0, 0, 0, 0)])]
def X_Ways_townOfRow : MX := (⟨"YearsForCoin$Ways", "townOfRow", "(I)I"⟩, prog_12_method_4_code, 2, (some .int), 1, (4165, 1009, 4163, 4164), B_Ways_townOfRow)
def B_Main_hold : MB := [(0, [(.aload_n 0, 1, 0, 0, 0, 0), (.getfield 10, 3, 0, 1, 11, 2180), (.iload_n 1, 1, 0, 0, 0, 0), (.invokevirtual 103, 3, 61, 1, 8, 3199)]),
  (8, [(.astore 4, 2, 0, 0, 0, 0), (.aload 4, 2, 0, 0, 0, 0), (.ifnull 12, 3, 24, 0, 0, 0)]),
  (15, [(.aload 4, 2, 0, 0, 0, 0), (.iload_n 2, 1, 0, 0, 0, 0), (.invokevirtual 136, 3, 70, 1, 1, 4093)]),
  (21, [(.ifCond .ne 5, 3, 26, 0, 0, 0)]),
  (24, [(.iconst (-1), 1, 0, 0, 0, 0), (.ireturn, 1, 0, 0, 0, 0)]),
  (26, [(.aload_n 0, 1, 0, 0, 0, 0), (.getfield 46, 3, 5, 1, 11, 2185), (.aload 4, 2, 0, 0, 0, 0), (.aload 4, 2, 0, 0, 0, 0), (.getfield 181, 3, 8, 1, 1, 1077), (.iload_n 2, 1, 0, 0, 0, 0), (.iaload, 1, 0, 0, 0, 0), (.aload 4, 2, 0, 0, 0, 0), (.getfield 184, 3, 9, 1, 1, 1080), (.iload_n 2, 1, 0, 0, 0, 0), (.iaload, 1, 0, 0, 0, 0), (.invokevirtual 187, 3, 109, 3, 4, 4170)]),
  (49, [(.iload_n 3, 1, 0, 0, 0, 0), (.iconst (-1), 1, 0, 0, 0, 0), (.if_icmp .ne 11, 3, 62, 0, 0, 0)]),
  (54, [(.aload_n 0, 1, 0, 0, 0, 0), (.getfield 46, 3, 5, 1, 11, 2185), (.getfield 191, 3, 2, 0, 4, 2117), (.ireturn, 1, 0, 0, 0, 0)]),
  (62, [(.iload_n 3, 1, 0, 0, 0, 0), (.bipush (-2), 2, 0, 0, 0, 0), (.if_icmp .ne 11, 3, 76, 0, 0, 0)]),
  (68, [(.aload_n 0, 1, 0, 0, 0, 0), (.getfield 46, 3, 5, 1, 11, 2185), (.getfield 194, 3, 3, 0, 4, 2119), (.ireturn, 1, 0, 0, 0, 0)]),
  (76, [(.aload 4, 2, 0, 0, 0, 0), (.iload_n 3, 1, 0, 0, 0, 0), (.invokevirtual 197, 3, 68, 1, 1, 4142)]),
  (82, [(.ifCond .eq 15, 3, 97, 0, 0, 0)]),
  (85, [(.aload_n 0, 1, 0, 0, 0, 0), (.getfield 46, 3, 5, 1, 11, 2185), (.getfield 200, 3, 1, 1, 4, 2115), (.iload_n 3, 1, 0, 0, 0, 0), (.iaload, 1, 0, 0, 0, 0), (.goto 4, 3, 98, 0, 0, 0)]),
  (97, [(.iconst (-1), 1, 0, 0, 0, 0)]),
  (98, [(.ireturn, 1, 0, 0, 0, 0)])]
def X_Main_hold : MX := (⟨"YearsForCoin", "hold", "(III)I"⟩, prog_1_method_14_code, 5, (some .int), 3, (4169, 1001, 4167, 4168), B_Main_hold)
def B_Purse_choose : MB := [(0, [(.aload_n 0, 1, 0, 0, 0, 0), (.iconst (-1), 1, 0, 0, 0, 0), (.putfield 18, 3, 2, 0, 4, 2116), (.aload_n 0, 1, 0, 0, 0, 0), (.iconst 0, 1, 0, 0, 0, 0), (.putfield 22, 3, 3, 0, 4, 2118), (.aload_n 0, 1, 0, 0, 0, 0), (.getfield 9, 3, 0, 1, 4, 2113), (.iconst 0, 1, 0, 0, 0, 0), (.invokestatic 25, 3, 24, 0, 2, 4174)]),
  (18, [(.aload_n 0, 1, 0, 0, 0, 0), (.aload_n 1, 1, 0, 0, 0, 0), (.iconst 0, 1, 0, 0, 0, 0), (.iload_n 2, 1, 0, 0, 0, 0), (.iload_n 3, 1, 0, 0, 0, 0), (.iconst 0, 1, 0, 0, 0, 0), (.iconst 0, 1, 0, 0, 0, 0), (.invokevirtual 31, 3, 110, 6, 4, 4175)]),
  (28, [(.return_, 1, 0, 0, 0, 0)])]
def X_Purse_choose : MX := (⟨"YearsForCoin$Purse", "choose", "(LYearsForCoin$Land;II)V"⟩, prog_6_method_2_code, 4, none, 3, (4173, 1010, 4171, 4172), B_Purse_choose)
def B_Purse_chooseOn : MB := [(0, [(.aload_n 0, 1, 0, 0, 0, 0), (.getfield 18, 3, 2, 0, 4, 2116), (.iload_n 3, 1, 0, 0, 0, 0), (.if_icmp .ne 13, 3, 18, 0, 0, 0)]),
  (8, [(.iload 6, 2, 0, 0, 0, 0), (.aload_n 0, 1, 0, 0, 0, 0), (.getfield 22, 3, 3, 0, 4, 2118), (.if_icmp .lt 4, 3, 18, 0, 0, 0)]),
  (17, [(.return_, 1, 0, 0, 0, 0)]),
  (18, [(.iload 5, 2, 0, 0, 0, 0), (.iload_n 3, 1, 0, 0, 0, 0), (.if_icmp .ge 11, 3, 32, 0, 0, 0)]),
  (24, [(.aload_n 1, 1, 0, 0, 0, 0), (.iload_n 2, 1, 0, 0, 0, 0), (.invokevirtual 35, 3, 68, 1, 1, 4179)]),
  (29, [(.ifCond .ne 16, 3, 45, 0, 0, 0)]),
  (32, [(.aload_n 0, 1, 0, 0, 0, 0), (.iload 5, 2, 0, 0, 0, 0), (.iload_n 3, 1, 0, 0, 0, 0), (.invokestatic 41, 3, 0, 2, 0, 4180), (.iload 6, 2, 0, 0, 0, 0), (.invokevirtual 47, 3, 111, 2, 4, 4181)]),
  (44, [(.return_, 1, 0, 0, 0, 0)]),
  (45, [(.iconst 0, 1, 0, 0, 0, 0), (.istore 7, 2, 0, 0, 0, 0)]),
  (48, [(.iload 7, 2, 0, 0, 0, 0), (.bipush 9, 2, 0, 0, 0, 0), (.if_icmp .gt 79, 3, 131, 0, 0, 0)]),
  (55, [(.iload 5, 2, 0, 0, 0, 0), (.iload 7, 2, 0, 0, 0, 0), (.aload_n 1, 1, 0, 0, 0, 0), (.getfield 51, 3, 11, 1, 1, 1084), (.iload_n 2, 1, 0, 0, 0, 0), (.iaload, 1, 0, 0, 0, 0), (.imul, 1, 0, 0, 0, 0), (.iadd, 1, 0, 0, 0, 0), (.istore 8, 2, 0, 0, 0, 0), (.iload 6, 2, 0, 0, 0, 0), (.iload 7, 2, 0, 0, 0, 0), (.aload_n 1, 1, 0, 0, 0, 0), (.getfield 54, 3, 12, 1, 1, 1087), (.iload_n 2, 1, 0, 0, 0, 0), (.iaload, 1, 0, 0, 0, 0), (.imul, 1, 0, 0, 0, 0), (.iadd, 1, 0, 0, 0, 0), (.istore 9, 2, 0, 0, 0, 0), (.iload 9, 2, 0, 0, 0, 0), (.iload 4, 2, 0, 0, 0, 0), (.if_icmp .le 6, 3, 93, 0, 0, 0)]),
  (90, [(.goto 41, 3, 131, 0, 0, 0)]),
  (93, [(.aload_n 0, 1, 0, 0, 0, 0), (.getfield 9, 3, 0, 1, 4, 2113), (.iload_n 2, 1, 0, 0, 0, 0), (.iload 7, 2, 0, 0, 0, 0), (.iastore, 1, 0, 0, 0, 0), (.aload_n 0, 1, 0, 0, 0, 0), (.aload_n 1, 1, 0, 0, 0, 0), (.iload_n 2, 1, 0, 0, 0, 0), (.iconst 1, 1, 0, 0, 0, 0), (.iadd, 1, 0, 0, 0, 0), (.iload_n 3, 1, 0, 0, 0, 0), (.iload 4, 2, 0, 0, 0, 0), (.iload 8, 2, 0, 0, 0, 0), (.iload 9, 2, 0, 0, 0, 0), (.invokevirtual 31, 3, 110, 6, 4, 4175)]),
  (116, [(.iload 8, 2, 0, 0, 0, 0), (.iload_n 3, 1, 0, 0, 0, 0), (.if_icmp .lt 6, 3, 125, 0, 0, 0)]),
  (122, [(.goto 9, 3, 131, 0, 0, 0)]),
  (125, [(.iinc 7 1, 3, 0, 0, 0, 0), (.goto (-80), 3, 48, 0, 0, 0)]),
  (131, [(.aload_n 0, 1, 0, 0, 0, 0), (.getfield 9, 3, 0, 1, 4, 2113), (.iload_n 2, 1, 0, 0, 0, 0), (.iconst 0, 1, 0, 0, 0, 0), (.iastore, 1, 0, 0, 0, 0), (.return_, 1, 0, 0, 0, 0)])]
def X_Purse_chooseOn : MX := (⟨"YearsForCoin$Purse", "chooseOn", "(LYearsForCoin$Land;IIIII)V"⟩, prog_6_method_3_code, 10, none, 6, (4178, 1010, 4177, 30), B_Purse_chooseOn)
def B_Purse_keepIfBetter : MB := [(0, [(.iload_n 1, 1, 0, 0, 0, 0), (.aload_n 0, 1, 0, 0, 0, 0), (.getfield 18, 3, 2, 0, 4, 2116), (.if_icmp .gt 19, 3, 24, 0, 0, 0)]),
  (8, [(.iload_n 1, 1, 0, 0, 0, 0), (.aload_n 0, 1, 0, 0, 0, 0), (.getfield 18, 3, 2, 0, 4, 2116), (.if_icmp .ne 35, 3, 48, 0, 0, 0)]),
  (16, [(.iload_n 2, 1, 0, 0, 0, 0), (.aload_n 0, 1, 0, 0, 0, 0), (.getfield 22, 3, 3, 0, 4, 2118), (.if_icmp .ge 27, 3, 48, 0, 0, 0)]),
  (24, [(.aload_n 0, 1, 0, 0, 0, 0), (.iload_n 1, 1, 0, 0, 0, 0), (.putfield 18, 3, 2, 0, 4, 2116), (.aload_n 0, 1, 0, 0, 0, 0), (.iload_n 2, 1, 0, 0, 0, 0), (.putfield 22, 3, 3, 0, 4, 2118), (.aload_n 0, 1, 0, 0, 0, 0), (.getfield 9, 3, 0, 1, 4, 2113), (.iconst 0, 1, 0, 0, 0, 0), (.aload_n 0, 1, 0, 0, 0, 0), (.getfield 15, 3, 1, 1, 4, 2114), (.iconst 0, 1, 0, 0, 0, 0), (.iconst 4, 1, 0, 0, 0, 0), (.invokestatic 57, 3, 0, 4, 0, 4185)]),
  (48, [(.return_, 1, 0, 0, 0, 0)])]
def X_Purse_keepIfBetter : MX := (⟨"YearsForCoin$Purse", "keepIfBetter", "(II)V"⟩, prog_6_method_4_code, 3, none, 2, (4184, 1010, 4183, 31), B_Purse_keepIfBetter)
def B_Main_plan : MB := [(0, [(.iload_n 1, 1, 0, 0, 0, 0), (.invokestatic 203, 3, 15, 0, 1, 4190)]),
  (4, [(.ifCond .eq 13, 3, 17, 0, 0, 0)]),
  (7, [(.iload_n 2, 1, 0, 0, 0, 0), (.ifCond .lt 9, 3, 17, 0, 0, 0)]),
  (11, [(.iload_n 2, 1, 0, 0, 0, 0), (.bipush 20, 2, 0, 0, 0, 0), (.if_icmp .le 5, 3, 19, 0, 0, 0)]),
  (17, [(.iconst (-1), 1, 0, 0, 0, 0), (.ireturn, 1, 0, 0, 0, 0)]),
  (19, [(.iload_n 3, 1, 0, 0, 0, 0), (.iconst (-1), 1, 0, 0, 0, 0), (.if_icmp .ne 15, 3, 36, 0, 0, 0)]),
  (24, [(.aload_n 0, 1, 0, 0, 0, 0), (.getfield 60, 3, 7, 1, 11, 2187), (.iload_n 2, 1, 0, 0, 0, 0), (.iload_n 1, 1, 0, 0, 0, 0), (.invokevirtual 206, 3, 14, 2, 3, 4191)]),
  (33, [(.goto 13, 3, 46, 0, 0, 0)]),
  (36, [(.aload_n 0, 1, 0, 0, 0, 0), (.getfield 60, 3, 7, 1, 11, 2187), (.iload_n 1, 1, 0, 0, 0, 0), (.iload_n 2, 1, 0, 0, 0, 0), (.iload_n 3, 1, 0, 0, 0, 0), (.invokevirtual 209, 3, 113, 3, 3, 4192)]),
  (46, [(.ireturn, 1, 0, 0, 0, 0)])]
def X_Main_plan : MX := (⟨"YearsForCoin", "plan", "(III)I"⟩, prog_1_method_15_code, 4, (some .int), 3, (4189, 1001, 4187, 4188), B_Main_plan)
def B_Months_deedOf : MB := [(0, [(.iload_n 3, 1, 0, 0, 0, 0), (.ifCond .lt 8, 3, 9, 0, 0, 0)]),
  (4, [(.iload_n 3, 1, 0, 0, 0, 0), (.iload_n 2, 1, 0, 0, 0, 0), (.if_icmp .lt 5, 3, 11, 0, 0, 0)]),
  (9, [(.iconst (-1), 1, 0, 0, 0, 0), (.ireturn, 1, 0, 0, 0, 0)]),
  (11, [(.iload_n 1, 1, 0, 0, 0, 0), (.istore 4, 2, 0, 0, 0, 0), (.iconst (-1), 1, 0, 0, 0, 0), (.istore 5, 2, 0, 0, 0, 0), (.iconst 0, 1, 0, 0, 0, 0), (.istore 6, 2, 0, 0, 0, 0)]),
  (20, [(.iload 6, 2, 0, 0, 0, 0), (.iload_n 3, 1, 0, 0, 0, 0), (.if_icmp .gt 30, 3, 53, 0, 0, 0)]),
  (26, [(.aload_n 0, 1, 0, 0, 0, 0), (.iload_n 2, 1, 0, 0, 0, 0), (.iload 6, 2, 0, 0, 0, 0), (.isub, 1, 0, 0, 0, 0), (.iload 4, 2, 0, 0, 0, 0), (.invokevirtual 29, 3, 114, 2, 3, 4196)]),
  (36, [(.istore 5, 2, 0, 0, 0, 0), (.iload 5, 2, 0, 0, 0, 0), (.iload 4, 2, 0, 0, 0, 0), (.invokestatic 32, 3, 13, 0, 2, 2160)]),
  (45, [(.istore 4, 2, 0, 0, 0, 0), (.iinc 6 1, 3, 0, 0, 0, 0), (.goto (-30), 3, 20, 0, 0, 0)]),
  (53, [(.iload 5, 2, 0, 0, 0, 0), (.ireturn, 1, 0, 0, 0, 0)])]
def X_Months_deedOf : MX := (⟨"YearsForCoin$Months", "deedOf", "(III)I"⟩, prog_5_method_3_code, 7, (some .int), 3, (4195, 1012, 4193, 4194), B_Months_deedOf)
def B_Months_firstBest : MB := [(0, [(.iconst 0, 1, 0, 0, 0, 0), (.istore_n 3, 1, 0, 0, 0, 0)]),
  (2, [(.iload_n 3, 1, 0, 0, 0, 0), (.iconst 2, 1, 0, 0, 0, 0), (.if_icmp .ge 27, 3, 31, 0, 0, 0)]),
  (7, [(.aload_n 0, 1, 0, 0, 0, 0), (.iload_n 3, 1, 0, 0, 0, 0), (.iload_n 1, 1, 0, 0, 0, 0), (.iload_n 2, 1, 0, 0, 0, 0), (.invokevirtual 15, 3, 12, 3, 3, 2156)]),
  (14, [(.aload_n 0, 1, 0, 0, 0, 0), (.iload_n 1, 1, 0, 0, 0, 0), (.iload_n 2, 1, 0, 0, 0, 0), (.invokevirtual 35, 3, 14, 2, 3, 2169)]),
  (20, [(.if_icmp .ne 5, 3, 25, 0, 0, 0)]),
  (23, [(.iload_n 3, 1, 0, 0, 0, 0), (.ireturn, 1, 0, 0, 0, 0)]),
  (25, [(.iinc 3 1, 3, 0, 0, 0, 0), (.goto (-26), 3, 2, 0, 0, 0)]),
  (31, [(.iconst 2, 1, 0, 0, 0, 0), (.ireturn, 1, 0, 0, 0, 0)])]
def X_Months_firstBest : MX := (⟨"YearsForCoin$Months", "firstBest", "(II)I"⟩, prog_5_method_4_code, 4, (some .int), 2, (4199, 1012, 4198, 32), B_Months_firstBest)
def B_Main_entry : MB := [(0, [(.aload_n 0, 1, 0, 0, 0, 0), (.getfield 10, 3, 0, 1, 11, 2180), (.iload_n 1, 1, 0, 0, 0, 0), (.invokevirtual 212, 3, 116, 1, 8, 4204)]),
  (8, [(.astore 4, 2, 0, 0, 0, 0), (.aload 4, 2, 0, 0, 0, 0), (.ifnonnull 6, 3, 18, 0, 0, 0)]),
  (15, [(.bipush (-2), 2, 0, 0, 0, 0), (.ireturn, 1, 0, 0, 0, 0)]),
  (18, [(.iload_n 2, 1, 0, 0, 0, 0), (.iconst (-1), 1, 0, 0, 0, 0), (.if_icmp .ne 18, 3, 38, 0, 0, 0)]),
  (23, [(.iload_n 3, 1, 0, 0, 0, 0), (.ifCond .ne 11, 3, 35, 0, 0, 0)]),
  (27, [(.aload 4, 2, 0, 0, 0, 0), (.getfield 216, 3, 0, 0, 2, 1152), (.goto 5, 3, 37, 0, 0, 0)]),
  (35, [(.bipush (-2), 2, 0, 0, 0, 0)]),
  (37, [(.ireturn, 1, 0, 0, 0, 0)]),
  (38, [(.aload 4, 2, 0, 0, 0, 0), (.iload_n 2, 1, 0, 0, 0, 0), (.invokevirtual 221, 3, 117, 1, 2, 4208)]),
  (44, [(.ifCond .eq 13, 3, 57, 0, 0, 0)]),
  (47, [(.aload 4, 2, 0, 0, 0, 0), (.iload_n 2, 1, 0, 0, 0, 0), (.iload_n 3, 1, 0, 0, 0, 0), (.invokevirtual 224, 3, 118, 2, 2, 4212)]),
  (54, [(.goto 5, 3, 59, 0, 0, 0)]),
  (57, [(.bipush (-2), 2, 0, 0, 0, 0)]),
  (59, [(.ireturn, 1, 0, 0, 0, 0)])]
def X_Main_entry : MX := (⟨"YearsForCoin", "entry", "(III)I"⟩, prog_1_method_16_code, 5, (some .int), 3, (4203, 1001, 4201, 4202), B_Main_entry)
def B_Told_ledgerAt : MB := [(0, [(.aload_n 0, 1, 0, 0, 0, 0), (.iconst 2, 1, 0, 0, 0, 0), (.iload_n 1, 1, 0, 0, 0, 0), (.invokevirtual 76, 3, 62, 2, 8, 3203)]),
  (6, [(.ifCond .eq 12, 3, 18, 0, 0, 0)]),
  (9, [(.aload_n 0, 1, 0, 0, 0, 0), (.getfield 37, 3, 7, 1, 8, 1192), (.iload_n 1, 1, 0, 0, 0, 0), (.aaload, 1, 0, 6, 0, 0), (.goto 4, 3, 19, 0, 0, 0)]),
  (18, [(.aconst_null, 1, 0, 0, 0, 0)]),
  (19, [(.areturn, 1, 0, 0, 0, 0)])]
def X_Told_ledgerAt : MX := (⟨"YearsForCoin$Told", "ledgerAt", "(I)LYearsForCoin$Ledger;"⟩, prog_10_method_9_code, 2, (some (.object "YearsForCoin$Ledger")), 1, (4207, 1002, 4205, 4206), B_Told_ledgerAt)
def B_Ledger_hasEntry : MB := [(0, [(.iload_n 1, 1, 0, 0, 0, 0), (.ifCond .lt 15, 3, 16, 0, 0, 0)]),
  (4, [(.iload_n 1, 1, 0, 0, 0, 0), (.aload_n 0, 1, 0, 0, 0, 0), (.getfield 18, 3, 0, 0, 2, 1150), (.if_icmp .ge 7, 3, 16, 0, 0, 0)]),
  (12, [(.iconst 1, 1, 0, 0, 0, 0), (.goto 4, 3, 17, 0, 0, 0)]),
  (16, [(.iconst 0, 1, 0, 0, 0, 0)]),
  (17, [(.ireturn, 1, 0, 1, 0, 0)])]
def X_Ledger_hasEntry : MX := (⟨"YearsForCoin$Ledger", "hasEntry", "(I)Z"⟩, prog_4_method_4_code, 2, (some .boolean), 1, (4211, 1005, 4209, 4210), B_Ledger_hasEntry)
def B_Ledger_toldOf : MB := [(0, [(.aload_n 0, 1, 0, 0, 0, 0), (.iload_n 1, 1, 0, 0, 0, 0), (.invokevirtual 28, 3, 117, 1, 2, 4216)]),
  (5, [(.ifCond .eq 12, 3, 17, 0, 0, 0)]),
  (8, [(.iload_n 2, 1, 0, 0, 0, 0), (.ifCond .lt 8, 3, 17, 0, 0, 0)]),
  (12, [(.iload_n 2, 1, 0, 0, 0, 0), (.iconst 3, 1, 0, 0, 0, 0), (.if_icmp .le 6, 3, 20, 0, 0, 0)]),
  (17, [(.bipush (-2), 2, 0, 0, 0, 0), (.ireturn, 1, 0, 0, 0, 0)]),
  (20, [(.iload_n 2, 1, 0, 0, 0, 0), (.ifCond .ne 10, 3, 31, 0, 0, 0)]),
  (24, [(.aload_n 0, 1, 0, 0, 0, 0), (.getfield 9, 3, 1, 1, 2, 1153), (.iload_n 1, 1, 0, 0, 0, 0), (.iaload, 1, 0, 0, 0, 0), (.ireturn, 1, 0, 0, 0, 0)]),
  (31, [(.iload_n 2, 1, 0, 0, 0, 0), (.iconst 1, 1, 0, 0, 0, 0), (.if_icmp .ne 10, 3, 43, 0, 0, 0)]),
  (36, [(.aload_n 0, 1, 0, 0, 0, 0), (.getfield 15, 3, 2, 1, 2, 1154), (.iload_n 1, 1, 0, 0, 0, 0), (.iaload, 1, 0, 0, 0, 0), (.ireturn, 1, 0, 0, 0, 0)]),
  (43, [(.aload_n 0, 1, 0, 0, 0, 0), (.getfield 9, 3, 1, 1, 2, 1153), (.iload_n 1, 1, 0, 0, 0, 0), (.iaload, 1, 0, 0, 0, 0), (.iconst 2, 1, 0, 0, 0, 0), (.if_icmp .eq 5, 3, 55, 0, 0, 0)]),
  (53, [(.iconst (-1), 1, 0, 0, 0, 0), (.ireturn, 1, 0, 0, 0, 0)]),
  (55, [(.aload_n 0, 1, 0, 0, 0, 0), (.iload_n 1, 1, 0, 0, 0, 0), (.invokevirtual 32, 3, 119, 1, 2, 4217)]),
  (60, [(.istore_n 3, 1, 0, 0, 0, 0), (.iconst 0, 1, 0, 0, 0, 0), (.iload_n 2, 1, 0, 0, 0, 0), (.iconst 2, 1, 0, 0, 0, 0), (.if_icmp .ne 7, 3, 71, 0, 0, 0)]),
  (67, [(.iload_n 3, 1, 0, 0, 0, 0), (.goto 5, 3, 73, 0, 0, 0)]),
  (71, [(.iload_n 3, 1, 0, 0, 0, 0), (.ineg, 1, 0, 0, 0, 0)]),
  (73, [(.invokestatic 36, 3, 0, 1, 0, 4221), (.ireturn, 1, 0, 0, 0, 0)])]
def X_Ledger_toldOf : MX := (⟨"YearsForCoin$Ledger", "toldOf", "(II)I"⟩, prog_4_method_5_code, 4, (some .int), 2, (4215, 1005, 4213, 4214), B_Ledger_toldOf)
def B_Ledger_missingAt : MB := [(0, [(.iconst 0, 1, 0, 0, 0, 0), (.istore_n 2, 1, 0, 0, 0, 0), (.iconst 0, 1, 0, 0, 0, 0), (.istore_n 3, 1, 0, 0, 0, 0)]),
  (4, [(.iload_n 3, 1, 0, 0, 0, 0), (.iload_n 1, 1, 0, 0, 0, 0), (.if_icmp .ge 82, 3, 88, 0, 0, 0)]),
  (9, [(.iload_n 3, 1, 0, 0, 0, 0), (.aload_n 0, 1, 0, 0, 0, 0), (.getfield 18, 3, 0, 0, 2, 1150), (.if_icmp .ge 74, 3, 88, 0, 0, 0)]),
  (17, [(.aload_n 0, 1, 0, 0, 0, 0), (.getfield 9, 3, 1, 1, 2, 1153), (.iload_n 3, 1, 0, 0, 0, 0), (.iaload, 1, 0, 0, 0, 0), (.tableswitch 59 0 2 #[25, 37, 49], 25, 0, 0, 0, 0)]),
  (48, [(.iload_n 2, 1, 0, 0, 0, 0), (.aload_n 0, 1, 0, 0, 0, 0), (.getfield 15, 3, 2, 1, 2, 1154), (.iload_n 3, 1, 0, 0, 0, 0), (.iaload, 1, 0, 0, 0, 0), (.iadd, 1, 0, 0, 0, 0), (.istore_n 2, 1, 0, 0, 0, 0), (.goto 25, 3, 82, 0, 0, 0)]),
  (60, [(.iload_n 2, 1, 0, 0, 0, 0), (.aload_n 0, 1, 0, 0, 0, 0), (.getfield 15, 3, 2, 1, 2, 1154), (.iload_n 3, 1, 0, 0, 0, 0), (.iaload, 1, 0, 0, 0, 0), (.isub, 1, 0, 0, 0, 0), (.istore_n 2, 1, 0, 0, 0, 0), (.goto 13, 3, 82, 0, 0, 0)]),
  (72, [(.aload_n 0, 1, 0, 0, 0, 0), (.getfield 15, 3, 2, 1, 2, 1154), (.iload_n 3, 1, 0, 0, 0, 0), (.iaload, 1, 0, 0, 0, 0), (.istore_n 2, 1, 0, 0, 0, 0), (.goto 3, 3, 82, 0, 0, 0)]),
  (82, [(.iinc 3 1, 3, 0, 0, 0, 0), (.goto (-81), 3, 4, 0, 0, 0)]),
  (88, [(.aload_n 0, 1, 0, 0, 0, 0), (.iload_n 1, 1, 0, 0, 0, 0), (.invokevirtual 28, 3, 117, 1, 2, 4216)]),
  (93, [(.ifCond .eq 14, 3, 107, 0, 0, 0)]),
  (96, [(.iload_n 2, 1, 0, 0, 0, 0), (.aload_n 0, 1, 0, 0, 0, 0), (.getfield 15, 3, 2, 1, 2, 1154), (.iload_n 1, 1, 0, 0, 0, 0), (.iaload, 1, 0, 0, 0, 0), (.isub, 1, 0, 0, 0, 0), (.goto 4, 3, 108, 0, 0, 0)]),
  (107, [(.iconst 0, 1, 0, 0, 0, 0)]),
  (108, [(.ireturn, 1, 0, 0, 0, 0)])]
def X_Ledger_missingAt : MX := (⟨"YearsForCoin$Ledger", "missingAt", "(I)I"⟩, prog_4_method_6_code, 4, (some .int), 1, (4220, 1005, 4219, 33), B_Ledger_missingAt)
def B_Main_thieves : MB := [(0, [(.aload_n 0, 1, 0, 0, 0, 0), (.getfield 10, 3, 0, 1, 11, 2180), (.iload_n 1, 1, 0, 0, 0, 0), (.invokevirtual 212, 3, 116, 1, 8, 4204)]),
  (8, [(.astore_n 3, 1, 0, 0, 0, 0), (.aload_n 3, 1, 0, 0, 0, 0), (.ifnonnull 6, 3, 16, 0, 0, 0)]),
  (13, [(.bipush (-2), 2, 0, 0, 0, 0), (.ireturn, 1, 0, 0, 0, 0)]),
  (16, [(.iload_n 2, 1, 0, 0, 0, 0), (.tableswitch 42 0 2 #[27, 32, 37], 27, 0, 0, 0, 0)]),
  (44, [(.aload_n 3, 1, 0, 0, 0, 0), (.invokevirtual 225, 3, 121, 0, 2, 4226)]),
  (48, [(.ireturn, 1, 0, 0, 0, 0)]),
  (49, [(.aload_n 3, 1, 0, 0, 0, 0), (.invokevirtual 229, 3, 123, 0, 2, 4234)]),
  (53, [(.ireturn, 1, 0, 0, 0, 0)]),
  (54, [(.aload_n 3, 1, 0, 0, 0, 0), (.invokevirtual 232, 3, 124, 0, 2, 4238)]),
  (58, [(.ireturn, 1, 0, 0, 0, 0)]),
  (59, [(.iload_n 2, 1, 0, 0, 0, 0), (.bipush 10, 2, 0, 0, 0, 0), (.if_icmp .ge 8, 3, 70, 0, 0, 0)]),
  (65, [(.bipush (-2), 2, 0, 0, 0, 0), (.goto 11, 3, 78, 0, 0, 0)]),
  (70, [(.aload_n 3, 1, 0, 0, 0, 0), (.iload_n 2, 1, 0, 0, 0, 0), (.bipush 10, 2, 0, 0, 0, 0), (.isub, 1, 0, 0, 0, 0), (.invokevirtual 235, 3, 125, 1, 2, 5002)]),
  (78, [(.ireturn, 1, 0, 0, 0, 0)])]
def X_Main_thieves : MX := (⟨"YearsForCoin", "thieves", "(II)I"⟩, prog_1_method_17_code, 4, (some .int), 2, (4225, 1001, 4223, 4224), B_Main_thieves)
def B_Ledger_howManyFit : MB := [(0, [(.iconst 0, 1, 0, 0, 0, 0), (.istore_n 1, 1, 0, 0, 0, 0), (.iconst 0, 1, 0, 0, 0, 0), (.istore_n 2, 1, 0, 0, 0, 0)]),
  (4, [(.iload_n 2, 1, 0, 0, 0, 0), (.bipush 64, 2, 0, 0, 0, 0), (.if_icmp .ge 20, 3, 27, 0, 0, 0)]),
  (10, [(.aload_n 0, 1, 0, 0, 0, 0), (.iload_n 2, 1, 0, 0, 0, 0), (.invokevirtual 42, 3, 122, 1, 2, 4230)]),
  (15, [(.ifCond .eq 6, 3, 21, 0, 0, 0)]),
  (18, [(.iinc 1 1, 3, 0, 0, 0, 0)]),
  (21, [(.iinc 2 1, 3, 0, 0, 0, 0), (.goto (-20), 3, 4, 0, 0, 0)]),
  (27, [(.iload_n 1, 1, 0, 0, 0, 0), (.ireturn, 1, 0, 0, 0, 0)])]
def X_Ledger_howManyFit : MX := (⟨"YearsForCoin$Ledger", "howManyFit", "()I"⟩, prog_4_method_8_code, 3, (some .int), 0, (4229, 1005, 4227, 4228), B_Ledger_howManyFit)
def B_Ledger_fits : MB := [(0, [(.iconst 0, 1, 0, 0, 0, 0), (.istore_n 2, 1, 0, 0, 0, 0), (.iconst 0, 1, 0, 0, 0, 0), (.istore_n 3, 1, 0, 0, 0, 0), (.iconst 0, 1, 0, 0, 0, 0), (.istore 4, 2, 0, 0, 0, 0)]),
  (7, [(.iload 4, 2, 0, 0, 0, 0), (.aload_n 0, 1, 0, 0, 0, 0), (.getfield 18, 3, 0, 0, 2, 1150), (.if_icmp .ge 136, 3, 149, 0, 0, 0)]),
  (16, [(.aload_n 0, 1, 0, 0, 0, 0), (.getfield 9, 3, 1, 1, 2, 1153), (.iload 4, 2, 0, 0, 0, 0), (.iaload, 1, 0, 0, 0, 0), (.tableswitch 70 0 3 #[29, 42, 70, 55], 29, 0, 0, 0, 0)]),
  (52, [(.iload_n 2, 1, 0, 0, 0, 0), (.aload_n 0, 1, 0, 0, 0, 0), (.getfield 15, 3, 2, 1, 2, 1154), (.iload 4, 2, 0, 0, 0, 0), (.iaload, 1, 0, 0, 0, 0), (.iadd, 1, 0, 0, 0, 0), (.istore_n 2, 1, 0, 0, 0, 0), (.goto 81, 3, 143, 0, 0, 0)]),
  (65, [(.iload_n 2, 1, 0, 0, 0, 0), (.aload_n 0, 1, 0, 0, 0, 0), (.getfield 15, 3, 2, 1, 2, 1154), (.iload 4, 2, 0, 0, 0, 0), (.iaload, 1, 0, 0, 0, 0), (.isub, 1, 0, 0, 0, 0), (.istore_n 2, 1, 0, 0, 0, 0), (.goto 68, 3, 143, 0, 0, 0)]),
  (78, [(.iload_n 3, 1, 0, 0, 0, 0), (.iconst 1, 1, 0, 0, 0, 0), (.aload_n 0, 1, 0, 0, 0, 0), (.getfield 15, 3, 2, 1, 2, 1154), (.iload 4, 2, 0, 0, 0, 0), (.iaload, 1, 0, 0, 0, 0), (.ishl, 1, 0, 0, 0, 0), (.ior, 1, 0, 0, 0, 0), (.istore_n 3, 1, 0, 0, 0, 0), (.goto 53, 3, 143, 0, 0, 0)]),
  (93, [(.iload_n 2, 1, 0, 0, 0, 0), (.aload_n 0, 1, 0, 0, 0, 0), (.getfield 15, 3, 2, 1, 2, 1154), (.iload 4, 2, 0, 0, 0, 0), (.iaload, 1, 0, 0, 0, 0), (.if_icmp .le 7, 3, 108, 0, 0, 0)]),
  (104, [(.iconst 1, 1, 0, 0, 0, 0), (.goto 4, 3, 109, 0, 0, 0)]),
  (108, [(.iconst 0, 1, 0, 0, 0, 0)]),
  (109, [(.istore 5, 2, 0, 0, 0, 0), (.iload_n 1, 1, 0, 0, 0, 0), (.iload_n 3, 1, 0, 0, 0, 0), (.iand, 1, 0, 0, 0, 0), (.ifCond .eq 7, 3, 121, 0, 0, 0)]),
  (117, [(.iconst 1, 1, 0, 0, 0, 0), (.goto 4, 3, 122, 0, 0, 0)]),
  (121, [(.iconst 0, 1, 0, 0, 0, 0)]),
  (122, [(.istore 6, 2, 0, 0, 0, 0), (.iload 5, 2, 0, 0, 0, 0), (.iload 6, 2, 0, 0, 0, 0), (.if_icmp .eq 5, 3, 133, 0, 0, 0)]),
  (131, [(.iconst 0, 1, 0, 0, 0, 0), (.ireturn, 1, 0, 1, 0, 0)]),
  (133, [(.aload_n 0, 1, 0, 0, 0, 0), (.getfield 15, 3, 2, 1, 2, 1154), (.iload 4, 2, 0, 0, 0, 0), (.iaload, 1, 0, 0, 0, 0), (.istore_n 2, 1, 0, 0, 0, 0), (.iconst 0, 1, 0, 0, 0, 0), (.istore_n 3, 1, 0, 0, 0, 0)]),
  (143, [(.iinc 4 1, 3, 0, 0, 0, 0), (.goto (-139), 3, 7, 0, 0, 0)]),
  (149, [(.iconst 1, 1, 0, 0, 0, 0), (.ireturn, 1, 0, 1, 0, 0)])]
def X_Ledger_fits : MX := (⟨"YearsForCoin$Ledger", "fits", "(I)Z"⟩, prog_4_method_7_code, 7, (some .boolean), 1, (4233, 1005, 4232, 34), B_Ledger_fits)
def B_Ledger_sure : MB := [(0, [(.iconst (-1), 1, 0, 0, 0, 0), (.istore_n 1, 1, 0, 0, 0, 0), (.iconst 0, 1, 0, 0, 0, 0), (.istore_n 2, 1, 0, 0, 0, 0)]),
  (4, [(.iload_n 2, 1, 0, 0, 0, 0), (.bipush 64, 2, 0, 0, 0, 0), (.if_icmp .ge 30, 3, 37, 0, 0, 0)]),
  (10, [(.aload_n 0, 1, 0, 0, 0, 0), (.iload_n 2, 1, 0, 0, 0, 0), (.invokevirtual 42, 3, 122, 1, 2, 4230)]),
  (15, [(.ifCond .eq 16, 3, 31, 0, 0, 0)]),
  (18, [(.iload_n 1, 1, 0, 0, 0, 0), (.iconst (-1), 1, 0, 0, 0, 0), (.if_icmp .ne 7, 3, 27, 0, 0, 0)]),
  (23, [(.iload_n 2, 1, 0, 0, 0, 0), (.goto 6, 3, 30, 0, 0, 0)]),
  (27, [(.iload_n 1, 1, 0, 0, 0, 0), (.iload_n 2, 1, 0, 0, 0, 0), (.iand, 1, 0, 0, 0, 0)]),
  (30, [(.istore_n 1, 1, 0, 0, 0, 0)]),
  (31, [(.iinc 2 1, 3, 0, 0, 0, 0), (.goto (-30), 3, 4, 0, 0, 0)]),
  (37, [(.iload_n 1, 1, 0, 0, 0, 0), (.ireturn, 1, 0, 0, 0, 0)])]
def X_Ledger_sure : MX := (⟨"YearsForCoin$Ledger", "sure", "()I"⟩, prog_4_method_10_code, 3, (some .int), 0, (4237, 1005, 4235, 4236), B_Ledger_sure)
def B_Ledger_clear : MB := [(0, [(.iconst (-1), 1, 0, 0, 0, 0), (.istore_n 1, 1, 0, 0, 0, 0), (.iconst 0, 1, 0, 0, 0, 0), (.istore_n 2, 1, 0, 0, 0, 0)]),
  (4, [(.iload_n 2, 1, 0, 0, 0, 0), (.bipush 64, 2, 0, 0, 0, 0), (.if_icmp .ge 30, 3, 37, 0, 0, 0)]),
  (10, [(.aload_n 0, 1, 0, 0, 0, 0), (.iload_n 2, 1, 0, 0, 0, 0), (.invokevirtual 42, 3, 122, 1, 2, 4230)]),
  (15, [(.ifCond .eq 16, 3, 31, 0, 0, 0)]),
  (18, [(.iload_n 1, 1, 0, 0, 0, 0), (.iconst (-1), 1, 0, 0, 0, 0), (.if_icmp .ne 7, 3, 27, 0, 0, 0)]),
  (23, [(.iload_n 2, 1, 0, 0, 0, 0), (.goto 6, 3, 30, 0, 0, 0)]),
  (27, [(.iload_n 1, 1, 0, 0, 0, 0), (.iload_n 2, 1, 0, 0, 0, 0), (.ior, 1, 0, 0, 0, 0)]),
  (30, [(.istore_n 1, 1, 0, 0, 0, 0)]),
  (31, [(.iinc 2 1, 3, 0, 0, 0, 0), (.goto (-30), 3, 4, 0, 0, 0)]),
  (37, [(.iload_n 1, 1, 0, 0, 0, 0), (.iconst (-1), 1, 0, 0, 0, 0), (.if_icmp .ne 7, 3, 46, 0, 0, 0)]),
  (42, [(.iconst (-1), 1, 0, 0, 0, 0), (.goto 7, 3, 50, 0, 0, 0)]),
  (46, [(.bipush 63, 2, 0, 0, 0, 0), (.iload_n 1, 1, 0, 0, 0, 0), (.isub, 1, 0, 0, 0, 0)]),
  (50, [(.ireturn, 1, 0, 0, 0, 0)])]
def X_Ledger_clear : MX := (⟨"YearsForCoin$Ledger", "clear", "()I"⟩, prog_4_method_11_code, 3, (some .int), 0, (5001, 1005, 4239, 5000), B_Ledger_clear)
def B_Ledger_fittingSet : MB := [(0, [(.iconst 0, 1, 0, 0, 0, 0), (.istore_n 2, 1, 0, 0, 0, 0), (.iconst 0, 1, 0, 0, 0, 0), (.istore_n 3, 1, 0, 0, 0, 0)]),
  (4, [(.iload_n 3, 1, 0, 0, 0, 0), (.bipush 64, 2, 0, 0, 0, 0), (.if_icmp .ge 27, 3, 34, 0, 0, 0)]),
  (10, [(.aload_n 0, 1, 0, 0, 0, 0), (.iload_n 3, 1, 0, 0, 0, 0), (.invokevirtual 42, 3, 122, 1, 2, 4230)]),
  (15, [(.ifCond .eq 13, 3, 28, 0, 0, 0)]),
  (18, [(.iload_n 2, 1, 0, 0, 0, 0), (.iload_n 1, 1, 0, 0, 0, 0), (.if_icmp .ne 5, 3, 25, 0, 0, 0)]),
  (23, [(.iload_n 3, 1, 0, 0, 0, 0), (.ireturn, 1, 0, 0, 0, 0)]),
  (25, [(.iinc 2 1, 3, 0, 0, 0, 0)]),
  (28, [(.iinc 3 1, 3, 0, 0, 0, 0), (.goto (-27), 3, 4, 0, 0, 0)]),
  (34, [(.bipush (-2), 2, 0, 0, 0, 0), (.ireturn, 1, 0, 0, 0, 0)])]
def X_Ledger_fittingSet : MX := (⟨"YearsForCoin$Ledger", "fittingSet", "(I)I"⟩, prog_4_method_9_code, 4, (some .int), 1, (5005, 1005, 5003, 5004), B_Ledger_fittingSet)
def B_Main_bargain : MB := [(0, [(.aload_n 0, 1, 0, 0, 0, 0), (.getfield 10, 3, 0, 1, 11, 2180), (.iload_n 1, 1, 0, 0, 0, 0), (.invokevirtual 238, 3, 127, 1, 8, 5010)]),
  (8, [(.astore_n 3, 1, 0, 0, 0, 0), (.aload_n 3, 1, 0, 0, 0, 0), (.ifnonnull 5, 3, 15, 0, 0, 0)]),
  (13, [(.iconst (-1), 1, 0, 0, 0, 0), (.ireturn, 1, 0, 0, 0, 0)]),
  (15, [(.iload_n 2, 1, 0, 0, 0, 0), (.ifCond .ne 8, 3, 24, 0, 0, 0)]),
  (19, [(.aload_n 3, 1, 0, 0, 0, 0), (.getfield 242, 3, 0, 0, 0, 1170), (.ireturn, 1, 0, 0, 0, 0)]),
  (24, [(.iload_n 2, 1, 0, 0, 0, 0), (.ifCond .le 19, 3, 44, 0, 0, 0)]),
  (28, [(.iload_n 2, 1, 0, 0, 0, 0), (.aload_n 3, 1, 0, 0, 0, 0), (.invokevirtual 247, 3, 128, 0, 0, 5014)]),
  (33, [(.if_icmp .gt 11, 3, 44, 0, 0, 0)]),
  (36, [(.aload_n 3, 1, 0, 0, 0, 0), (.iload_n 2, 1, 0, 0, 0, 0), (.invokevirtual 250, 3, 129, 1, 0, 5018)]),
  (41, [(.goto 4, 3, 45, 0, 0, 0)]),
  (44, [(.iconst (-1), 1, 0, 0, 0, 0)]),
  (45, [(.ireturn, 1, 0, 0, 0, 0)])]
def X_Main_bargain : MX := (⟨"YearsForCoin", "bargain", "(II)I"⟩, prog_1_method_18_code, 4, (some .int), 2, (5009, 1001, 5007, 5008), B_Main_bargain)
def B_Told_bargainAt : MB := [(0, [(.aload_n 0, 1, 0, 0, 0, 0), (.iconst 3, 1, 0, 0, 0, 0), (.iload_n 1, 1, 0, 0, 0, 0), (.invokevirtual 76, 3, 62, 2, 8, 3203)]),
  (6, [(.ifCond .eq 12, 3, 18, 0, 0, 0)]),
  (9, [(.aload_n 0, 1, 0, 0, 0, 0), (.getfield 43, 3, 8, 1, 8, 1194), (.iload_n 1, 1, 0, 0, 0, 0), (.aaload, 1, 0, 7, 0, 0), (.goto 4, 3, 19, 0, 0, 0)]),
  (18, [(.aconst_null, 1, 0, 0, 0, 0)]),
  (19, [(.areturn, 1, 0, 0, 0, 0)])]
def X_Told_bargainAt : MX := (⟨"YearsForCoin$Told", "bargainAt", "(I)LYearsForCoin$Bargain;"⟩, prog_10_method_10_code, 2, (some (.object "YearsForCoin$Bargain")), 1, (5013, 1002, 5011, 5012), B_Told_bargainAt)
def B_Bargain_everybody : MB := [(0, [(.iconst 1, 1, 0, 0, 0, 0), (.aload_n 0, 1, 0, 0, 0, 0), (.getfield 9, 3, 0, 0, 0, 1167), (.ishl, 1, 0, 0, 0, 0), (.iconst 1, 1, 0, 0, 0, 0), (.isub, 1, 0, 0, 0, 0), (.ireturn, 1, 0, 0, 0, 0)])]
def X_Bargain_everybody : MX := (⟨"YearsForCoin$Bargain", "everybody", "()I"⟩, prog_2_method_6_code, 1, (some .int), 0, (5017, 1006, 5015, 5016), B_Bargain_everybody)
def B_Bargain_worthOf : MB := [(0, [(.iload_n 1, 1, 0, 0, 0, 0), (.ifCond .lt 18, 3, 19, 0, 0, 0)]),
  (4, [(.iload_n 1, 1, 0, 0, 0, 0), (.bipush 16, 2, 0, 0, 0, 0), (.if_icmp .ge 12, 3, 19, 0, 0, 0)]),
  (10, [(.aload_n 0, 1, 0, 0, 0, 0), (.getfield 15, 3, 1, 1, 0, 1171), (.iload_n 1, 1, 0, 0, 0, 0), (.iaload, 1, 0, 0, 0, 0), (.goto 4, 3, 20, 0, 0, 0)]),
  (19, [(.iconst 0, 1, 0, 0, 0, 0)]),
  (20, [(.ireturn, 1, 0, 0, 0, 0)])]
def X_Bargain_worthOf : MX := (⟨"YearsForCoin$Bargain", "worthOf", "(I)I"⟩, prog_2_method_5_code, 2, (some .int), 1, (5021, 1006, 5019, 5020), B_Bargain_worthOf)
def B_Main_rows : MB := [(0, [(.aload_n 0, 1, 0, 0, 0, 0), (.getfield 10, 3, 0, 1, 11, 2180), (.iload_n 1, 1, 0, 0, 0, 0), (.invokevirtual 238, 3, 127, 1, 8, 5010)]),
  (8, [(.astore_n 3, 1, 0, 0, 0, 0), (.aload_n 3, 1, 0, 0, 0, 0), (.ifnonnull 5, 3, 15, 0, 0, 0)]),
  (13, [(.iconst (-1), 1, 0, 0, 0, 0), (.ireturn, 1, 0, 0, 0, 0)]),
  (15, [(.aload_n 0, 1, 0, 0, 0, 0), (.getfield 53, 3, 6, 1, 11, 2186), (.aload_n 3, 1, 0, 0, 0, 0), (.invokevirtual 253, 3, 131, 1, 7, 5026)]),
  (23, [(.iload_n 2, 1, 0, 0, 0, 0), (.iconst (-1), 1, 0, 0, 0, 0), (.if_icmp .ne 11, 3, 36, 0, 0, 0)]),
  (28, [(.aload_n 0, 1, 0, 0, 0, 0), (.getfield 53, 3, 6, 1, 11, 2186), (.getfield 257, 3, 0, 0, 7, 2136), (.ireturn, 1, 0, 0, 0, 0)]),
  (36, [(.aload_n 3, 1, 0, 0, 0, 0), (.iload_n 2, 1, 0, 0, 0, 0), (.invokevirtual 260, 3, 134, 1, 0, 5058)]),
  (41, [(.ifCond .eq 25, 3, 66, 0, 0, 0)]),
  (44, [(.aload_n 0, 1, 0, 0, 0, 0), (.getfield 53, 3, 6, 1, 11, 2186), (.getfield 257, 3, 0, 0, 7, 2136), (.ifCond .le 15, 3, 66, 0, 0, 0)]),
  (54, [(.aload_n 0, 1, 0, 0, 0, 0), (.getfield 53, 3, 6, 1, 11, 2186), (.getfield 263, 3, 2, 1, 7, 2139), (.iload_n 2, 1, 0, 0, 0, 0), (.iaload, 1, 0, 0, 0, 0), (.goto 4, 3, 67, 0, 0, 0)]),
  (66, [(.iconst (-1), 1, 0, 0, 0, 0)]),
  (67, [(.ireturn, 1, 0, 0, 0, 0)])]
def X_Main_rows : MX := (⟨"YearsForCoin", "rows", "(II)I"⟩, prog_1_method_19_code, 4, (some .int), 2, (5025, 1001, 5023, 5024), B_Main_rows)
def B_Sharing_standing : MB := [(0, [(.aload_n 0, 1, 0, 0, 0, 0), (.iconst 0, 1, 0, 0, 0, 0), (.putfield 21, 3, 0, 0, 7, 2135), (.aload_n 0, 1, 0, 0, 0, 0), (.getfield 18, 3, 3, 1, 7, 2140), (.iconst 0, 1, 0, 0, 0, 0), (.iconst 0, 1, 0, 0, 0, 0), (.iastore, 1, 0, 0, 0, 0), (.aload_n 1, 1, 0, 0, 0, 0), (.aload_n 1, 1, 0, 0, 0, 0), (.invokevirtual 25, 3, 128, 0, 0, 5030)]),
  (17, [(.invokevirtual 31, 3, 129, 1, 0, 5031)]),
  (20, [(.istore_n 2, 1, 0, 0, 0, 0), (.aload_n 1, 1, 0, 0, 0, 0), (.getfield 35, 3, 0, 0, 0, 1168), (.iconst 1, 1, 0, 0, 0, 0), (.if_icmp .ne 18, 3, 44, 0, 0, 0)]),
  (29, [(.aload_n 0, 1, 0, 0, 0, 0), (.getfield 9, 3, 1, 1, 7, 2137), (.iconst 0, 1, 0, 0, 0, 0), (.iload_n 2, 1, 0, 0, 0, 0), (.iastore, 1, 0, 0, 0, 0), (.aload_n 0, 1, 0, 0, 0, 0), (.iconst 1, 1, 0, 0, 0, 0), (.invokevirtual 38, 3, 132, 1, 7, 5032)]),
  (41, [(.goto 10, 3, 51, 0, 0, 0)]),
  (44, [(.aload_n 0, 1, 0, 0, 0, 0), (.aload_n 1, 1, 0, 0, 0, 0), (.iconst 0, 1, 0, 0, 0, 0), (.iload_n 2, 1, 0, 0, 0, 0), (.invokevirtual 42, 3, 133, 3, 7, 5037)]),
  (51, [(.return_, 1, 0, 0, 0, 0)])]
def X_Sharing_standing : MX := (⟨"YearsForCoin$Sharing", "standing", "(LYearsForCoin$Bargain;)V"⟩, prog_9_method_2_code, 3, none, 1, (5029, 1011, 5027, 5028), B_Sharing_standing)
def B_Sharing_countRows : MB := [(0, [(.aload_n 0, 1, 0, 0, 0, 0), (.getfield 21, 3, 0, 0, 7, 2135), (.ifCond .ne 17, 3, 21, 0, 0, 0)]),
  (7, [(.aload_n 0, 1, 0, 0, 0, 0), (.getfield 9, 3, 1, 1, 7, 2137), (.iconst 0, 1, 0, 0, 0, 0), (.aload_n 0, 1, 0, 0, 0, 0), (.getfield 15, 3, 2, 1, 7, 2138), (.iconst 0, 1, 0, 0, 0, 0), (.iconst 4, 1, 0, 0, 0, 0), (.invokestatic 68, 3, 0, 4, 0, 5036)]),
  (21, [(.aload_n 0, 1, 0, 0, 0, 0), (.dup, 1, 0, 0, 0, 0), (.getfield 21, 3, 0, 0, 7, 2135), (.iload_n 1, 1, 0, 0, 0, 0), (.iadd, 1, 0, 0, 0, 0), (.putfield 21, 3, 0, 0, 7, 2135), (.return_, 1, 0, 0, 0, 0)])]
def X_Sharing_countRows : MX := (⟨"YearsForCoin$Sharing", "countRows", "(I)V"⟩, prog_9_method_7_code, 2, none, 1, (5035, 1011, 5034, 35), B_Sharing_countRows)
def B_Sharing_deal : MB := [(0, [(.aload_n 1, 1, 0, 0, 0, 0), (.iload_n 2, 1, 0, 0, 0, 0), (.iconst 1, 1, 0, 0, 0, 0), (.iadd, 1, 0, 0, 0, 0), (.invokevirtual 46, 3, 134, 1, 0, 5041)]),
  (7, [(.ifCond .ne 4, 3, 11, 0, 0, 0)]),
  (10, [(.return_, 1, 0, 0, 0, 0)]),
  (11, [(.aload_n 0, 1, 0, 0, 0, 0), (.aload_n 1, 1, 0, 0, 0, 0), (.iload_n 2, 1, 0, 0, 0, 0), (.iconst 1, 1, 0, 0, 0, 0), (.iload_n 2, 1, 0, 0, 0, 0), (.ishl, 1, 0, 0, 0, 0), (.invokevirtual 50, 3, 135, 3, 7, 5045)]),
  (20, [(.istore 4, 2, 0, 0, 0, 0), (.iload_n 2, 1, 0, 0, 0, 0), (.iconst 2, 1, 0, 0, 0, 0), (.iadd, 1, 0, 0, 0, 0), (.aload_n 1, 1, 0, 0, 0, 0), (.getfield 35, 3, 0, 0, 0, 1168), (.if_icmp .ne 13, 3, 42, 0, 0, 0)]),
  (32, [(.aload_n 0, 1, 0, 0, 0, 0), (.aload_n 1, 1, 0, 0, 0, 0), (.iload_n 2, 1, 0, 0, 0, 0), (.iload 4, 2, 0, 0, 0, 0), (.iload_n 3, 1, 0, 0, 0, 0), (.invokevirtual 54, 3, 136, 4, 7, 5050)]),
  (41, [(.return_, 1, 0, 0, 0, 0)]),
  (42, [(.iload 4, 2, 0, 0, 0, 0), (.istore 5, 2, 0, 0, 0, 0)]),
  (46, [(.iload 5, 2, 0, 0, 0, 0), (.iload_n 3, 1, 0, 0, 0, 0), (.if_icmp .gt 36, 3, 85, 0, 0, 0)]),
  (52, [(.aload_n 0, 1, 0, 0, 0, 0), (.getfield 9, 3, 1, 1, 7, 2137), (.iload_n 2, 1, 0, 0, 0, 0), (.iload 5, 2, 0, 0, 0, 0), (.iastore, 1, 0, 0, 0, 0), (.aload_n 0, 1, 0, 0, 0, 0), (.iload_n 2, 1, 0, 0, 0, 0), (.iload 5, 2, 0, 0, 0, 0), (.invokevirtual 58, 3, 137, 2, 7, 5054)]),
  (67, [(.aload_n 0, 1, 0, 0, 0, 0), (.aload_n 1, 1, 0, 0, 0, 0), (.iload_n 2, 1, 0, 0, 0, 0), (.iconst 1, 1, 0, 0, 0, 0), (.iadd, 1, 0, 0, 0, 0), (.iload_n 3, 1, 0, 0, 0, 0), (.iload 5, 2, 0, 0, 0, 0), (.isub, 1, 0, 0, 0, 0), (.invokevirtual 42, 3, 133, 3, 7, 5037)]),
  (79, [(.iinc 5 1, 3, 0, 0, 0, 0), (.goto (-36), 3, 46, 0, 0, 0)]),
  (85, [(.return_, 1, 0, 0, 0, 0)])]
def X_Sharing_deal : MX := (⟨"YearsForCoin$Sharing", "deal", "(LYearsForCoin$Bargain;II)V"⟩, prog_9_method_3_code, 6, none, 3, (5040, 1011, 5039, 36), B_Sharing_deal)
def B_Bargain_hasParty : MB := [(0, [(.iload_n 1, 1, 0, 0, 0, 0), (.ifCond .lt 15, 3, 16, 0, 0, 0)]),
  (4, [(.iload_n 1, 1, 0, 0, 0, 0), (.aload_n 0, 1, 0, 0, 0, 0), (.getfield 9, 3, 0, 0, 0, 1167), (.if_icmp .ge 7, 3, 16, 0, 0, 0)]),
  (12, [(.iconst 1, 1, 0, 0, 0, 0), (.goto 4, 3, 17, 0, 0, 0)]),
  (16, [(.iconst 0, 1, 0, 0, 0, 0)]),
  (17, [(.ireturn, 1, 0, 1, 0, 0)])]
def X_Bargain_hasParty : MX := (⟨"YearsForCoin$Bargain", "hasParty", "(I)Z"⟩, prog_2_method_7_code, 2, (some .boolean), 1, (5044, 1006, 5042, 5043), B_Bargain_hasParty)
def B_Sharing_leastShare : MB := [(0, [(.iconst 0, 1, 0, 0, 0, 0), (.istore 4, 2, 0, 0, 0, 0), (.iconst 0, 1, 0, 0, 0, 0), (.istore 5, 2, 0, 0, 0, 0)]),
  (6, [(.iload 5, 2, 0, 0, 0, 0), (.iconst 1, 1, 0, 0, 0, 0), (.iload_n 2, 1, 0, 0, 0, 0), (.ishl, 1, 0, 0, 0, 0), (.if_icmp .ge 39, 3, 50, 0, 0, 0)]),
  (14, [(.iload 5, 2, 0, 0, 0, 0), (.bipush 16, 2, 0, 0, 0, 0), (.if_icmp .ge 32, 3, 50, 0, 0, 0)]),
  (21, [(.iload 4, 2, 0, 0, 0, 0), (.aload_n 1, 1, 0, 0, 0, 0), (.iload 5, 2, 0, 0, 0, 0), (.iload_n 3, 1, 0, 0, 0, 0), (.ior, 1, 0, 0, 0, 0), (.invokevirtual 31, 3, 129, 1, 0, 5031)]),
  (31, [(.aload_n 0, 1, 0, 0, 0, 0), (.getfield 18, 3, 3, 1, 7, 2140), (.iload 5, 2, 0, 0, 0, 0), (.iaload, 1, 0, 0, 0, 0), (.isub, 1, 0, 0, 0, 0), (.invokestatic 62, 3, 0, 1, 0, 5049), (.istore 4, 2, 0, 0, 0, 0), (.iinc 5 1, 3, 0, 0, 0, 0), (.goto (-41), 3, 6, 0, 0, 0)]),
  (50, [(.iload 4, 2, 0, 0, 0, 0), (.ireturn, 1, 0, 0, 0, 0)])]
def X_Sharing_leastShare : MX := (⟨"YearsForCoin$Sharing", "leastShare", "(LYearsForCoin$Bargain;II)I"⟩, prog_9_method_5_code, 6, (some .int), 3, (5048, 1011, 5047, 37), B_Sharing_leastShare)
def B_Sharing_dealToLastTwo : MB := [(0, [(.iload_n 2, 1, 0, 0, 0, 0), (.iconst 1, 1, 0, 0, 0, 0), (.iadd, 1, 0, 0, 0, 0), (.istore 5, 2, 0, 0, 0, 0), (.iload 4, 2, 0, 0, 0, 0), (.aload_n 0, 1, 0, 0, 0, 0), (.aload_n 1, 1, 0, 0, 0, 0), (.iload_n 2, 1, 0, 0, 0, 0), (.iconst 1, 1, 0, 0, 0, 0), (.iload 5, 2, 0, 0, 0, 0), (.ishl, 1, 0, 0, 0, 0), (.invokevirtual 50, 3, 135, 3, 7, 5045)]),
  (17, [(.isub, 1, 0, 0, 0, 0), (.istore 6, 2, 0, 0, 0, 0), (.aload_n 0, 1, 0, 0, 0, 0), (.aload_n 1, 1, 0, 0, 0, 0), (.iload_n 2, 1, 0, 0, 0, 0), (.iconst 1, 1, 0, 0, 0, 0), (.iload_n 2, 1, 0, 0, 0, 0), (.ishl, 1, 0, 0, 0, 0), (.iconst 1, 1, 0, 0, 0, 0), (.iload 5, 2, 0, 0, 0, 0), (.ishl, 1, 0, 0, 0, 0), (.ior, 1, 0, 0, 0, 0), (.invokevirtual 50, 3, 135, 3, 7, 5045)]),
  (34, [(.iload 4, 2, 0, 0, 0, 0), (.if_icmp .gt 7, 3, 43, 0, 0, 0)]),
  (39, [(.iconst 1, 1, 0, 0, 0, 0), (.goto 4, 3, 44, 0, 0, 0)]),
  (43, [(.iconst 0, 1, 0, 0, 0, 0)]),
  (44, [(.istore 7, 2, 0, 0, 0, 0), (.iload 7, 2, 0, 0, 0, 0), (.ifCond .eq 37, 3, 85, 0, 0, 0)]),
  (51, [(.iload_n 3, 1, 0, 0, 0, 0), (.iload 6, 2, 0, 0, 0, 0), (.if_icmp .gt 31, 3, 85, 0, 0, 0)]),
  (57, [(.aload_n 0, 1, 0, 0, 0, 0), (.getfield 9, 3, 1, 1, 7, 2137), (.iload_n 2, 1, 0, 0, 0, 0), (.iload_n 3, 1, 0, 0, 0, 0), (.iastore, 1, 0, 0, 0, 0), (.aload_n 0, 1, 0, 0, 0, 0), (.getfield 9, 3, 1, 1, 7, 2137), (.iload 5, 2, 0, 0, 0, 0), (.iload 4, 2, 0, 0, 0, 0), (.iload_n 3, 1, 0, 0, 0, 0), (.isub, 1, 0, 0, 0, 0), (.iastore, 1, 0, 0, 0, 0), (.aload_n 0, 1, 0, 0, 0, 0), (.iload 6, 2, 0, 0, 0, 0), (.iload_n 3, 1, 0, 0, 0, 0), (.isub, 1, 0, 0, 0, 0), (.iconst 1, 1, 0, 0, 0, 0), (.iadd, 1, 0, 0, 0, 0), (.invokevirtual 38, 3, 132, 1, 7, 5032)]),
  (85, [(.return_, 1, 0, 0, 0, 0)])]
def X_Sharing_dealToLastTwo : MX := (⟨"YearsForCoin$Sharing", "dealToLastTwo", "(LYearsForCoin$Bargain;III)V"⟩, prog_9_method_4_code, 8, none, 4, (5053, 1011, 5052, 38), B_Sharing_dealToLastTwo)
def B_Sharing_giveShare : MB := [(0, [(.iconst 1, 1, 0, 0, 0, 0), (.iload_n 1, 1, 0, 0, 0, 0), (.ishl, 1, 0, 0, 0, 0), (.istore_n 3, 1, 0, 0, 0, 0), (.iconst 0, 1, 0, 0, 0, 0), (.istore 4, 2, 0, 0, 0, 0)]),
  (7, [(.iload 4, 2, 0, 0, 0, 0), (.iload_n 3, 1, 0, 0, 0, 0), (.if_icmp .ge 36, 3, 46, 0, 0, 0)]),
  (13, [(.iload_n 3, 1, 0, 0, 0, 0), (.iload 4, 2, 0, 0, 0, 0), (.iadd, 1, 0, 0, 0, 0), (.bipush 16, 2, 0, 0, 0, 0), (.if_icmp .ge 27, 3, 46, 0, 0, 0)]),
  (22, [(.aload_n 0, 1, 0, 0, 0, 0), (.getfield 18, 3, 3, 1, 7, 2140), (.iload_n 3, 1, 0, 0, 0, 0), (.iload 4, 2, 0, 0, 0, 0), (.iadd, 1, 0, 0, 0, 0), (.aload_n 0, 1, 0, 0, 0, 0), (.getfield 18, 3, 3, 1, 7, 2140), (.iload 4, 2, 0, 0, 0, 0), (.iaload, 1, 0, 0, 0, 0), (.iload_n 2, 1, 0, 0, 0, 0), (.iadd, 1, 0, 0, 0, 0), (.iastore, 1, 0, 0, 0, 0), (.iinc 4 1, 3, 0, 0, 0, 0), (.goto (-36), 3, 7, 0, 0, 0)]),
  (46, [(.return_, 1, 0, 0, 0, 0)])]
def X_Sharing_giveShare : MX := (⟨"YearsForCoin$Sharing", "giveShare", "(II)V"⟩, prog_9_method_6_code, 5, none, 2, (5057, 1011, 5056, 39), B_Sharing_giveShare)
def B_Main_fair : MB := [(0, [(.aload_n 0, 1, 0, 0, 0, 0), (.getfield 10, 3, 0, 1, 11, 2180), (.iload_n 1, 1, 0, 0, 0, 0), (.invokevirtual 238, 3, 127, 1, 8, 5010)]),
  (8, [(.astore 4, 2, 0, 0, 0, 0), (.aload 4, 2, 0, 0, 0, 0), (.ifnull 12, 3, 24, 0, 0, 0)]),
  (15, [(.aload 4, 2, 0, 0, 0, 0), (.iload_n 2, 1, 0, 0, 0, 0), (.invokevirtual 260, 3, 134, 1, 0, 5058)]),
  (21, [(.ifCond .ne 7, 3, 28, 0, 0, 0)]),
  (24, [(.ldc2_w 266, 3, 18446744073709550616, 0, 0, 5063), (.lreturn, 1, 0, 0, 0, 0)]),
  (28, [(.aload_n 0, 1, 0, 0, 0, 0), (.getfield 53, 3, 6, 1, 11, 2186), (.aload 4, 2, 0, 0, 0, 0), (.iload_n 2, 1, 0, 0, 0, 0), (.invokevirtual 268, 3, 139, 2, 7, 5064)]),
  (38, [(.istore 5, 2, 0, 0, 0, 0), (.aload_n 0, 1, 0, 0, 0, 0), (.getfield 53, 3, 6, 1, 11, 2186), (.aload 4, 2, 0, 0, 0, 0), (.invokevirtual 272, 3, 143, 1, 7, 5084)]),
  (49, [(.istore 6, 2, 0, 0, 0, 0), (.iload 5, 2, 0, 0, 0, 0), (.iload 6, 2, 0, 0, 0, 0), (.invokestatic 276, 3, 144, 0, 2, 5088)]),
  (58, [(.istore 7, 2, 0, 0, 0, 0), (.iload_n 3, 1, 0, 0, 0, 0), (.ifCond .eq 12, 3, 73, 0, 0, 0)]),
  (64, [(.iload 6, 2, 0, 0, 0, 0), (.iload 7, 2, 0, 0, 0, 0), (.idiv, 1, 0, 0, 0, 0), (.i2l, 1, 0, 0, 0, 0), (.goto 9, 3, 79, 0, 0, 0)]),
  (73, [(.iload 5, 2, 0, 0, 0, 0), (.iload 7, 2, 0, 0, 0, 0), (.idiv, 1, 0, 0, 0, 0), (.i2l, 1, 0, 0, 0, 0)]),
  (79, [(.lreturn, 1, 0, 0, 0, 0)])]
def X_Main_fair : MX := (⟨"YearsForCoin", "fair", "(IIZ)J"⟩, prog_1_method_20_code, 8, (some .long), 3, (5062, 1001, 5060, 5061), B_Main_fair)
def B_Sharing_sumOfGains : MB := [(0, [(.iconst 0, 1, 0, 0, 0, 0), (.istore_n 3, 1, 0, 0, 0, 0), (.iconst 0, 1, 0, 0, 0, 0), (.istore 4, 2, 0, 0, 0, 0)]),
  (5, [(.iload 4, 2, 0, 0, 0, 0), (.aload_n 1, 1, 0, 0, 0, 0), (.invokevirtual 25, 3, 128, 0, 0, 5030)]),
  (11, [(.if_icmp .gt 54, 3, 65, 0, 0, 0)]),
  (14, [(.iload 4, 2, 0, 0, 0, 0), (.iload_n 2, 1, 0, 0, 0, 0), (.ishr, 1, 0, 0, 0, 0), (.iconst 1, 1, 0, 0, 0, 0), (.iand, 1, 0, 0, 0, 0), (.ifCond .ne 39, 3, 59, 0, 0, 0)]),
  (23, [(.iload 4, 2, 0, 0, 0, 0), (.invokestatic 77, 3, 140, 0, 1, 5068)]),
  (28, [(.istore 5, 2, 0, 0, 0, 0), (.iload_n 3, 1, 0, 0, 0, 0), (.iload 5, 2, 0, 0, 0, 0), (.invokestatic 74, 3, 141, 0, 1, 5074)]),
  (36, [(.aload_n 1, 1, 0, 0, 0, 0), (.getfield 35, 3, 0, 0, 0, 1168), (.iconst 1, 1, 0, 0, 0, 0), (.isub, 1, 0, 0, 0, 0), (.iload 5, 2, 0, 0, 0, 0), (.isub, 1, 0, 0, 0, 0), (.invokestatic 74, 3, 141, 0, 1, 5074)]),
  (48, [(.imul, 1, 0, 0, 0, 0), (.aload_n 1, 1, 0, 0, 0, 0), (.iload 4, 2, 0, 0, 0, 0), (.iload_n 2, 1, 0, 0, 0, 0), (.invokevirtual 82, 3, 142, 2, 0, 5079)]),
  (56, [(.imul, 1, 0, 0, 0, 0), (.iadd, 1, 0, 0, 0, 0), (.istore_n 3, 1, 0, 0, 0, 0)]),
  (59, [(.iinc 4 1, 3, 0, 0, 0, 0), (.goto (-57), 3, 5, 0, 0, 0)]),
  (65, [(.iload_n 3, 1, 0, 0, 0, 0), (.ireturn, 1, 0, 0, 0, 0)])]
def X_Sharing_sumOfGains : MX := (⟨"YearsForCoin$Sharing", "sumOfGains", "(LYearsForCoin$Bargain;I)I"⟩, prog_9_method_9_code, 6, (some .int), 2, (5067, 1011, 5065, 5066), B_Sharing_sumOfGains)
def B_Integer_bitCount : MB := [(0, [(.iload_n 0, 1, 0, 0, 0, 0), (.iload_n 0, 1, 0, 0, 0, 0), (.iconst 1, 1, 0, 0, 0, 0), (.iushr, 1, 0, 0, 0, 0), (.ldc_w 265, 3, 1431655765, 0, 0, 5071), (.iand, 1, 0, 0, 0, 0), (.isub, 1, 0, 0, 0, 0), (.istore_n 0, 1, 0, 0, 0, 0), (.iload_n 0, 1, 0, 0, 0, 0), (.ldc_w 266, 3, 858993459, 0, 0, 5072), (.iand, 1, 0, 0, 0, 0), (.iload_n 0, 1, 0, 0, 0, 0), (.iconst 2, 1, 0, 0, 0, 0), (.iushr, 1, 0, 0, 0, 0), (.ldc_w 266, 3, 858993459, 0, 0, 5072), (.iand, 1, 0, 0, 0, 0), (.iadd, 1, 0, 0, 0, 0), (.istore_n 0, 1, 0, 0, 0, 0), (.iload_n 0, 1, 0, 0, 0, 0), (.iload_n 0, 1, 0, 0, 0, 0), (.iconst 4, 1, 0, 0, 0, 0), (.iushr, 1, 0, 0, 0, 0), (.iadd, 1, 0, 0, 0, 0), (.ldc_w 267, 3, 252645135, 0, 0, 5073), (.iand, 1, 0, 0, 0, 0), (.istore_n 0, 1, 0, 0, 0, 0), (.iload_n 0, 1, 0, 0, 0, 0), (.iload_n 0, 1, 0, 0, 0, 0), (.bipush 8, 2, 0, 0, 0, 0), (.iushr, 1, 0, 0, 0, 0), (.iadd, 1, 0, 0, 0, 0), (.istore_n 0, 1, 0, 0, 0, 0), (.iload_n 0, 1, 0, 0, 0, 0), (.iload_n 0, 1, 0, 0, 0, 0), (.bipush 16, 2, 0, 0, 0, 0), (.iushr, 1, 0, 0, 0, 0), (.iadd, 1, 0, 0, 0, 0), (.istore_n 0, 1, 0, 0, 0, 0), (.iload_n 0, 1, 0, 0, 0, 0), (.bipush 63, 2, 0, 0, 0, 0), (.iand, 1, 0, 0, 0, 0), (.ireturn, 1, 0, 0, 0, 0)])]
def X_Integer_bitCount : MX := (⟨"java/lang/Integer", "bitCount", "(I)I"⟩, prog_15_method_49_code, 1, (some .int), 1, (5070, 1021, 5069, 0), B_Integer_bitCount)
def B_Sharing_factorial : MB := [(0, [(.iload_n 0, 1, 0, 0, 0, 0), (.ifCond .lt 19, 3, 20, 0, 0, 0)]),
  (4, [(.iload_n 0, 1, 0, 0, 0, 0), (.getstatic 85, 3, 4, 0, 0, 5077), (.arraylength, 1, 0, 0, 0, 0), (.if_icmp .ge 11, 3, 20, 0, 0, 0)]),
  (12, [(.getstatic 85, 3, 4, 0, 0, 5077), (.iload_n 0, 1, 0, 0, 0, 0), (.iaload, 1, 0, 0, 0, 0), (.goto 4, 3, 21, 0, 0, 0)]),
  (20, [(.iconst 1, 1, 0, 0, 0, 0)]),
  (21, [(.ireturn, 1, 0, 0, 0, 0)])]
def X_Sharing_factorial : MX := (⟨"YearsForCoin$Sharing", "factorial", "(I)I"⟩, prog_9_method_10_code, 1, (some .int), 1, (5076, 1011, 5075, 0), B_Sharing_factorial)
def B_Bargain_gain : MB := [(0, [(.aload_n 0, 1, 0, 0, 0, 0), (.iload_n 1, 1, 0, 0, 0, 0), (.iconst 1, 1, 0, 0, 0, 0), (.iload_n 2, 1, 0, 0, 0, 0), (.ishl, 1, 0, 0, 0, 0), (.ior, 1, 0, 0, 0, 0), (.invokevirtual 31, 3, 129, 1, 0, 5083)]),
  (9, [(.aload_n 0, 1, 0, 0, 0, 0), (.iload_n 1, 1, 0, 0, 0, 0), (.invokevirtual 31, 3, 129, 1, 0, 5083)]),
  (14, [(.isub, 1, 0, 0, 0, 0), (.ireturn, 1, 0, 0, 0, 0)])]
def X_Bargain_gain : MX := (⟨"YearsForCoin$Bargain", "gain", "(II)I"⟩, prog_2_method_8_code, 3, (some .int), 2, (5082, 1006, 5080, 5081), B_Bargain_gain)
def B_Sharing_orders : MB := [(0, [(.aload_n 1, 1, 0, 0, 0, 0), (.getfield 35, 3, 0, 0, 0, 1168), (.invokestatic 74, 3, 141, 0, 1, 5074)]),
  (7, [(.ireturn, 1, 0, 0, 0, 0)])]
def X_Sharing_orders : MX := (⟨"YearsForCoin$Sharing", "orders", "(LYearsForCoin$Bargain;)I"⟩, prog_9_method_8_code, 2, (some .int), 1, (5087, 1011, 5085, 5086), B_Sharing_orders)
def B_Sharing_commonDivisor : MB := [(0, [(.iload_n 0, 1, 0, 0, 0, 0), (.invokestatic 88, 3, 0, 3, 0, 5091), (.istore_n 2, 1, 0, 0, 0, 0), (.iload_n 1, 1, 0, 0, 0, 0), (.invokestatic 88, 3, 0, 3, 0, 5091), (.istore_n 3, 1, 0, 0, 0, 0), (.iconst 0, 1, 0, 0, 0, 0), (.istore 4, 2, 0, 0, 0, 0)]),
  (13, [(.iload 4, 2, 0, 0, 0, 0), (.bipush 64, 2, 0, 0, 0, 0), (.if_icmp .ge 23, 3, 40, 0, 0, 0)]),
  (20, [(.iload_n 3, 1, 0, 0, 0, 0), (.ifCond .eq 19, 3, 40, 0, 0, 0)]),
  (24, [(.iload_n 2, 1, 0, 0, 0, 0), (.iload_n 3, 1, 0, 0, 0, 0), (.irem, 1, 0, 0, 0, 0), (.istore 5, 2, 0, 0, 0, 0), (.iload_n 3, 1, 0, 0, 0, 0), (.istore_n 2, 1, 0, 0, 0, 0), (.iload 5, 2, 0, 0, 0, 0), (.istore_n 3, 1, 0, 0, 0, 0), (.iinc 4 1, 3, 0, 0, 0, 0), (.goto (-24), 3, 13, 0, 0, 0)]),
  (40, [(.iconst 1, 1, 0, 0, 0, 0), (.iload_n 2, 1, 0, 0, 0, 0), (.invokestatic 62, 3, 0, 1, 0, 5049), (.ireturn, 1, 0, 0, 0, 0)])]
def X_Sharing_commonDivisor : MX := (⟨"YearsForCoin$Sharing", "commonDivisor", "(II)I"⟩, prog_9_method_11_code, 6, (some .int), 2, (5090, 1011, 5089, 0), B_Sharing_commonDivisor)
def B_Main_drawn : MB := [(0, [(.aload_n 0, 1, 0, 0, 0, 0), (.getfield 10, 3, 0, 1, 11, 2180), (.iload_n 1, 1, 0, 0, 0, 0), (.invokevirtual 103, 3, 61, 1, 8, 3199)]),
  (8, [(.astore 5, 2, 0, 0, 0, 0), (.aload 5, 2, 0, 0, 0, 0), (.ifnull 13, 3, 25, 0, 0, 0)]),
  (15, [(.iload_n 3, 1, 0, 0, 0, 0), (.ifCond .lt 9, 3, 25, 0, 0, 0)]),
  (19, [(.iload_n 3, 1, 0, 0, 0, 0), (.bipush 60, 2, 0, 0, 0, 0), (.if_icmp .le 7, 3, 29, 0, 0, 0)]),
  (25, [(.sipush (-1000), 3, 0, 0, 0, 0), (.ireturn, 1, 0, 0, 0, 0)]),
  (29, [(.aload_n 0, 1, 0, 0, 0, 0), (.getfield 32, 3, 3, 1, 11, 2183), (.aload 5, 2, 0, 0, 0, 0), (.iload_n 2, 1, 0, 0, 0, 0), (.iload_n 3, 1, 0, 0, 0, 0), (.invokevirtual 279, 3, 146, 3, 9, 5098)]),
  (40, [(.aload_n 0, 1, 0, 0, 0, 0), (.getfield 32, 3, 3, 1, 11, 2183), (.aload 5, 2, 0, 0, 0, 0), (.iload 4, 2, 0, 0, 0, 0), (.invokevirtual 132, 3, 89, 2, 9, 4081)]),
  (51, [(.ireturn, 1, 0, 0, 0, 0)])]
def X_Main_drawn : MX := (⟨"YearsForCoin", "drawn", "(IIII)I"⟩, prog_1_method_21_code, 6, (some .int), 4, (5097, 1001, 5095, 5096), B_Main_drawn)
def B_Walk_drawDeeds : MB := [(0, [(.aload_n 0, 1, 0, 0, 0, 0), (.aload_n 1, 1, 0, 0, 0, 0), (.invokevirtual 24, 3, 77, 1, 9, 4024)]),
  (5, [(.aload_n 0, 1, 0, 0, 0, 0), (.iload_n 2, 1, 0, 0, 0, 0), (.putfield 47, 3, 7, 0, 9, 2045), (.iconst 0, 1, 0, 0, 0, 0), (.istore 4, 2, 0, 0, 0, 0)]),
  (13, [(.iload 4, 2, 0, 0, 0, 0), (.iload_n 3, 1, 0, 0, 0, 0), (.if_icmp .ge 14, 3, 30, 0, 0, 0)]),
  (19, [(.aload_n 0, 1, 0, 0, 0, 0), (.aload_n 1, 1, 0, 0, 0, 0), (.invokevirtual 50, 3, 147, 1, 9, 5102)]),
  (24, [(.iinc 4 1, 3, 0, 0, 0, 0), (.goto (-14), 3, 13, 0, 0, 0)]),
  (30, [(.return_, 1, 0, 0, 0, 0)])]
def X_Walk_drawDeeds : MX := (⟨"YearsForCoin$Walk", "drawDeeds", "(LYearsForCoin$Land;II)V"⟩, prog_11_method_3_code, 5, none, 3, (5101, 1008, 5099, 5100), B_Walk_drawDeeds)
def B_Walk_drawDeed : MB := [(0, [(.aload_n 0, 1, 0, 0, 0, 0), (.bipush 8, 2, 0, 0, 0, 0), (.invokevirtual 170, 3, 148, 1, 9, 5106)]),
  (6, [(.istore_n 2, 1, 0, 0, 0, 0), (.iload_n 2, 1, 0, 0, 0, 0), (.tableswitch 91 0 7 #[48, 91, 91, 91, 91, 65, 73, 82], 48, 0, 0, 0, 0)]),
  (56, [(.aload_n 0, 1, 0, 0, 0, 0), (.aload_n 1, 1, 0, 0, 0, 0), (.aload_n 0, 1, 0, 0, 0, 0), (.aload_n 1, 1, 0, 0, 0, 0), (.getfield 174, 3, 0, 0, 1, 1052), (.invokevirtual 170, 3, 148, 1, 9, 5106)]),
  (66, [(.invokevirtual 126, 3, 84, 2, 9, 4059)]),
  (69, [(.pop, 1, 0, 0, 0, 0), (.goto 34, 3, 104, 0, 0, 0)]),
  (73, [(.aload_n 0, 1, 0, 0, 0, 0), (.aload_n 1, 1, 0, 0, 0, 0), (.invokevirtual 177, 3, 149, 1, 9, 5111)]),
  (78, [(.goto 26, 3, 104, 0, 0, 0)]),
  (81, [(.aload_n 0, 1, 0, 0, 0, 0), (.aload_n 1, 1, 0, 0, 0, 0), (.invokevirtual 134, 3, 86, 1, 9, 4069)]),
  (86, [(.pop, 1, 0, 0, 0, 0), (.goto 17, 3, 104, 0, 0, 0)]),
  (90, [(.aload_n 0, 1, 0, 0, 0, 0), (.aload_n 1, 1, 0, 0, 0, 0), (.invokevirtual 138, 3, 87, 1, 9, 4073)]),
  (95, [(.pop, 1, 0, 0, 0, 0), (.goto 8, 3, 104, 0, 0, 0)]),
  (99, [(.aload_n 0, 1, 0, 0, 0, 0), (.aload_n 1, 1, 0, 0, 0, 0), (.invokevirtual 180, 3, 150, 1, 9, 5115)]),
  (104, [(.return_, 1, 0, 0, 0, 0)])]
def X_Walk_drawDeed : MX := (⟨"YearsForCoin$Walk", "drawDeed", "(LYearsForCoin$Land;)V"⟩, prog_11_method_19_code, 3, none, 1, (5105, 1008, 5104, 40), B_Walk_drawDeed)
def B_Walk_draw : MB := [(0, [(.aload_n 0, 1, 0, 0, 0, 0), (.aload_n 0, 1, 0, 0, 0, 0), (.getfield 47, 3, 7, 0, 9, 2045), (.ldc 186, 2, 1103515245, 0, 0, 5110), (.imul, 1, 0, 0, 0, 0), (.sipush 12345, 3, 0, 0, 0, 0), (.iadd, 1, 0, 0, 0, 0), (.putfield 47, 3, 7, 0, 9, 2045), (.iload_n 1, 1, 0, 0, 0, 0), (.ifCond .le 15, 3, 31, 0, 0, 0)]),
  (19, [(.aload_n 0, 1, 0, 0, 0, 0), (.getfield 47, 3, 7, 0, 9, 2045), (.bipush 16, 2, 0, 0, 0, 0), (.iushr, 1, 0, 0, 0, 0), (.iload_n 1, 1, 0, 0, 0, 0), (.irem, 1, 0, 0, 0, 0), (.goto 4, 3, 32, 0, 0, 0)]),
  (31, [(.iconst 0, 1, 0, 0, 0, 0)]),
  (32, [(.ireturn, 1, 0, 0, 0, 0)])]
def X_Walk_draw : MX := (⟨"YearsForCoin$Walk", "draw", "(I)I"⟩, prog_11_method_22_code, 2, (some .int), 1, (5109, 1008, 5108, 41), B_Walk_draw)
def B_Walk_drawSin : MB := [(0, [(.aload_n 1, 1, 0, 0, 0, 0), (.getfield 84, 3, 4, 0, 1, 1066), (.ifCond .ne 4, 3, 8, 0, 0, 0)]),
  (7, [(.return_, 1, 0, 0, 0, 0)]),
  (8, [(.aload_n 0, 1, 0, 0, 0, 0), (.aload_n 1, 1, 0, 0, 0, 0), (.getfield 84, 3, 4, 0, 1, 1066), (.invokevirtual 170, 3, 148, 1, 9, 5106)]),
  (16, [(.istore_n 2, 1, 0, 0, 0, 0), (.aload_n 0, 1, 0, 0, 0, 0), (.aload_n 1, 1, 0, 0, 0, 0), (.iload_n 2, 1, 0, 0, 0, 0), (.iconst 1, 1, 0, 0, 0, 0), (.aload_n 0, 1, 0, 0, 0, 0), (.bipush 9, 2, 0, 0, 0, 0), (.invokevirtual 170, 3, 148, 1, 9, 5106)]),
  (27, [(.iadd, 1, 0, 0, 0, 0), (.invokevirtual 123, 3, 83, 3, 9, 4054)]),
  (31, [(.pop, 1, 0, 0, 0, 0), (.return_, 1, 0, 0, 0, 0)])]
def X_Walk_drawSin : MX := (⟨"YearsForCoin$Walk", "drawSin", "(LYearsForCoin$Land;)V"⟩, prog_11_method_21_code, 3, none, 1, (5114, 1008, 5113, 42), B_Walk_drawSin)
def B_Walk_drawSale : MB := [(0, [(.aload_n 1, 1, 0, 0, 0, 0), (.getfield 84, 3, 4, 0, 1, 1066), (.ifCond .ne 4, 3, 8, 0, 0, 0)]),
  (7, [(.return_, 1, 0, 0, 0, 0)]),
  (8, [(.aload_n 0, 1, 0, 0, 0, 0), (.aload_n 1, 1, 0, 0, 0, 0), (.getfield 84, 3, 4, 0, 1, 1066), (.invokevirtual 170, 3, 148, 1, 9, 5106)]),
  (16, [(.istore_n 2, 1, 0, 0, 0, 0), (.aload_n 1, 1, 0, 0, 0, 0), (.getfield 183, 3, 5, 0, 1, 1070), (.ifCond .ne 4, 3, 25, 0, 0, 0)]),
  (24, [(.return_, 1, 0, 0, 0, 0)]),
  (25, [(.aload_n 0, 1, 0, 0, 0, 0), (.aload_n 1, 1, 0, 0, 0, 0), (.iload_n 2, 1, 0, 0, 0, 0), (.aload_n 0, 1, 0, 0, 0, 0), (.aload_n 1, 1, 0, 0, 0, 0), (.getfield 183, 3, 5, 0, 1, 1070), (.invokevirtual 170, 3, 148, 1, 9, 5106)]),
  (36, [(.invokevirtual 119, 3, 80, 3, 9, 4039)]),
  (39, [(.pop, 1, 0, 0, 0, 0), (.return_, 1, 0, 0, 0, 0)])]
def X_Walk_drawSale : MX := (⟨"YearsForCoin$Walk", "drawSale", "(LYearsForCoin$Land;)V"⟩, prog_11_method_20_code, 3, none, 1, (5118, 1008, 5117, 43), B_Walk_drawSale)
def B_Main_border : MB := [(0, [(.aload_n 0, 1, 0, 0, 0, 0), (.getfield 10, 3, 0, 1, 11, 2180), (.iload_n 1, 1, 0, 0, 0, 0), (.invokevirtual 103, 3, 61, 1, 8, 3199)]),
  (8, [(.astore 5, 2, 0, 0, 0, 0), (.aload 5, 2, 0, 0, 0, 0), (.ifnull 22, 3, 34, 0, 0, 0)]),
  (15, [(.aload 5, 2, 0, 0, 0, 0), (.iload_n 2, 1, 0, 0, 0, 0), (.iload_n 3, 1, 0, 0, 0, 0), (.invokestatic 167, 3, 102, 0, 3, 4139)]),
  (22, [(.ifCond .eq 12, 3, 34, 0, 0, 0)]),
  (25, [(.aload 5, 2, 0, 0, 0, 0), (.getfield 282, 3, 0, 0, 1, 1053), (.iconst 2, 1, 0, 0, 0, 0), (.if_icmp .ge 5, 3, 36, 0, 0, 0)]),
  (34, [(.iconst (-1), 1, 0, 0, 0, 0), (.ireturn, 1, 0, 0, 0, 0)]),
  (36, [(.aload_n 0, 1, 0, 0, 0, 0), (.getfield 39, 3, 4, 1, 11, 2184), (.aload 5, 2, 0, 0, 0, 0), (.aload 5, 2, 0, 0, 0, 0), (.getfield 157, 3, 3, 0, 1, 1064), (.iload_n 2, 1, 0, 0, 0, 0), (.iload_n 3, 1, 0, 0, 0, 0), (.invokevirtual 171, 3, 103, 4, 10, 4143)]),
  (52, [(.istore 6, 2, 0, 0, 0, 0), (.iload 6, 2, 0, 0, 0, 0), (.iconst 1, 1, 0, 0, 0, 0), (.iadd, 1, 0, 0, 0, 0), (.istore 7, 2, 0, 0, 0, 0), (.iconst (-1), 1, 0, 0, 0, 0), (.istore 8, 2, 0, 0, 0, 0), (.iconst 1, 1, 0, 0, 0, 0), (.istore 9, 2, 0, 0, 0, 0)]),
  (66, [(.iload 9, 2, 0, 0, 0, 0), (.aload 5, 2, 0, 0, 0, 0), (.getfield 282, 3, 0, 0, 1, 1053), (.if_icmp .ge 47, 3, 120, 0, 0, 0)]),
  (76, [(.aload_n 0, 1, 0, 0, 0, 0), (.getfield 39, 3, 4, 1, 11, 2184), (.aload 5, 2, 0, 0, 0, 0), (.aload 5, 2, 0, 0, 0, 0), (.getfield 157, 3, 3, 0, 1, 1064), (.iconst 1, 1, 0, 0, 0, 0), (.iload 9, 2, 0, 0, 0, 0), (.ishl, 1, 0, 0, 0, 0), (.ior, 1, 0, 0, 0, 0), (.iload_n 2, 1, 0, 0, 0, 0), (.iload_n 3, 1, 0, 0, 0, 0), (.invokevirtual 171, 3, 103, 4, 10, 4143)]),
  (97, [(.istore 10, 2, 0, 0, 0, 0), (.iload 10, 2, 0, 0, 0, 0), (.iload 7, 2, 0, 0, 0, 0), (.if_icmp .ge 11, 3, 114, 0, 0, 0)]),
  (106, [(.iload 10, 2, 0, 0, 0, 0), (.istore 7, 2, 0, 0, 0, 0), (.iload 9, 2, 0, 0, 0, 0), (.istore 8, 2, 0, 0, 0, 0)]),
  (114, [(.iinc 9 1, 3, 0, 0, 0, 0), (.goto (-51), 3, 66, 0, 0, 0)]),
  (120, [(.iload 4, 2, 0, 0, 0, 0), (.ifCond .eq 11, 3, 133, 0, 0, 0)]),
  (125, [(.iload 6, 2, 0, 0, 0, 0), (.iload 7, 2, 0, 0, 0, 0), (.isub, 1, 0, 0, 0, 0), (.goto 5, 3, 135, 0, 0, 0)]),
  (133, [(.iload 8, 2, 0, 0, 0, 0)]),
  (135, [(.ireturn, 1, 0, 0, 0, 0)])]
def X_Main_border : MX := (⟨"YearsForCoin", "border", "(IIIZ)I"⟩, prog_1_method_22_code, 11, (some .int), 4, (5122, 1001, 5120, 5121), B_Main_border)
def B_Main_ranked : MB := [(0, [(.aload_n 0, 1, 0, 0, 0, 0), (.getfield 10, 3, 0, 1, 11, 2180), (.iload_n 1, 1, 0, 0, 0, 0), (.invokevirtual 103, 3, 61, 1, 8, 3199)]),
  (8, [(.astore_n 3, 1, 0, 0, 0, 0), (.aload_n 3, 1, 0, 0, 0, 0), (.ifnull 11, 3, 21, 0, 0, 0)]),
  (13, [(.iload_n 2, 1, 0, 0, 0, 0), (.iconst 0, 1, 0, 0, 0, 0), (.invokestatic 139, 3, 92, 0, 2, 4094)]),
  (18, [(.ifCond .ne 5, 3, 23, 0, 0, 0)]),
  (21, [(.iconst (-1), 1, 0, 0, 0, 0), (.ireturn, 1, 0, 0, 0, 0)]),
  (23, [(.iconst 0, 1, 0, 0, 0, 0), (.istore 4, 2, 0, 0, 0, 0), (.iconst 0, 1, 0, 0, 0, 0), (.istore 5, 2, 0, 0, 0, 0)]),
  (29, [(.iload 5, 2, 0, 0, 0, 0), (.iconst 4, 1, 0, 0, 0, 0), (.if_icmp .ge 28, 3, 60, 0, 0, 0)]),
  (35, [(.iload 4, 2, 0, 0, 0, 0), (.aload_n 3, 1, 0, 0, 0, 0), (.iload_n 2, 1, 0, 0, 0, 0), (.iload 5, 2, 0, 0, 0, 0), (.aload_n 3, 1, 0, 0, 0, 0), (.iload_n 2, 1, 0, 0, 0, 0), (.iload 5, 2, 0, 0, 0, 0), (.invokevirtual 147, 3, 95, 2, 1, 4106)]),
  (48, [(.invokevirtual 150, 3, 96, 3, 1, 4119)]),
  (51, [(.iadd, 1, 0, 0, 0, 0), (.istore 4, 2, 0, 0, 0, 0), (.iinc 5 1, 3, 0, 0, 0, 0), (.goto (-28), 3, 29, 0, 0, 0)]),
  (60, [(.iload 4, 2, 0, 0, 0, 0), (.ireturn, 1, 0, 0, 0, 0)])]
def X_Main_ranked : MX := (⟨"YearsForCoin", "ranked", "(II)I"⟩, prog_1_method_23_code, 6, (some .int), 2, (5126, 1001, 5124, 5125), B_Main_ranked)
def B_Main_sold : MB := [(0, [(.aload_n 0, 1, 0, 0, 0, 0), (.getfield 10, 3, 0, 1, 11, 2180), (.iload_n 1, 1, 0, 0, 0, 0), (.invokevirtual 103, 3, 61, 1, 8, 3199)]),
  (8, [(.astore 4, 2, 0, 0, 0, 0), (.aload 4, 2, 0, 0, 0, 0), (.ifnull 11, 3, 23, 0, 0, 0)]),
  (15, [(.iload_n 2, 1, 0, 0, 0, 0), (.iload_n 3, 1, 0, 0, 0, 0), (.invokestatic 139, 3, 92, 0, 2, 4094)]),
  (20, [(.ifCond .ne 7, 3, 27, 0, 0, 0)]),
  (23, [(.iconst (-1), 1, 0, 0, 0, 0), (.goto 11, 3, 35, 0, 0, 0)]),
  (27, [(.aload 4, 2, 0, 0, 0, 0), (.iload_n 2, 1, 0, 0, 0, 0), (.iconst (-1), 1, 0, 0, 0, 0), (.iload_n 3, 1, 0, 0, 0, 0), (.invokevirtual 285, 3, 97, 3, 1, 5131)]),
  (35, [(.ireturn, 1, 0, 0, 0, 0)])]
def X_Main_sold : MX := (⟨"YearsForCoin", "sold", "(III)I"⟩, prog_1_method_24_code, 5, (some .int), 3, (5130, 1001, 5128, 5129), B_Main_sold)
def B_Main_round : MB := [(0, [(.aload_n 0, 1, 0, 0, 0, 0), (.getfield 10, 3, 0, 1, 11, 2180), (.iload_n 1, 1, 0, 0, 0, 0), (.invokevirtual 103, 3, 61, 1, 8, 3199)]),
  (8, [(.astore_n 3, 1, 0, 0, 0, 0), (.aload_n 3, 1, 0, 0, 0, 0), (.ifnonnull 5, 3, 15, 0, 0, 0)]),
  (13, [(.iconst (-1), 1, 0, 0, 0, 0), (.ireturn, 1, 0, 0, 0, 0)]),
  (15, [(.aload_n 0, 1, 0, 0, 0, 0), (.getfield 39, 3, 4, 1, 11, 2184), (.aload_n 3, 1, 0, 0, 0, 0), (.invokevirtual 288, 3, 155, 1, 10, 5136)]),
  (23, [(.istore 4, 2, 0, 0, 0, 0), (.iload 4, 2, 0, 0, 0, 0), (.sipush 1000, 3, 0, 0, 0, 0), (.if_icmp .lt 5, 3, 35, 0, 0, 0)]),
  (33, [(.iconst (-1), 1, 0, 0, 0, 0), (.ireturn, 1, 0, 0, 0, 0)]),
  (35, [(.iload_n 2, 1, 0, 0, 0, 0), (.iconst (-1), 1, 0, 0, 0, 0), (.if_icmp .ne 8, 3, 45, 0, 0, 0)]),
  (40, [(.iload 4, 2, 0, 0, 0, 0), (.goto 11, 3, 53, 0, 0, 0)]),
  (45, [(.aload_n 0, 1, 0, 0, 0, 0), (.getfield 39, 3, 4, 1, 11, 2184), (.iload_n 2, 1, 0, 0, 0, 0), (.invokevirtual 178, 3, 107, 1, 10, 4162)]),
  (53, [(.ireturn, 1, 0, 0, 0, 0)])]
def X_Main_round : MX := (⟨"YearsForCoin", "round", "(II)I"⟩, prog_1_method_25_code, 5, (some .int), 2, (5135, 1001, 5133, 5134), B_Main_round)
def B_Ways_goRound : MB := [(0, [(.aload_n 0, 1, 0, 0, 0, 0), (.aload_n 1, 1, 0, 0, 0, 0), (.aload_n 1, 1, 0, 0, 0, 0), (.getfield 41, 3, 3, 0, 1, 1061), (.invokevirtual 53, 3, 99, 2, 10, 4147)]),
  (9, [(.iconst 0, 1, 0, 0, 0, 0), (.istore_n 2, 1, 0, 0, 0, 0), (.iconst 1, 1, 0, 0, 0, 0), (.istore_n 3, 1, 0, 0, 0, 0)]),
  (13, [(.iload_n 3, 1, 0, 0, 0, 0), (.aload_n 0, 1, 0, 0, 0, 0), (.getfield 30, 3, 0, 0, 10, 2081), (.if_icmp .ge 27, 3, 45, 0, 0, 0)]),
  (21, [(.aload_n 0, 1, 0, 0, 0, 0), (.iconst 0, 1, 0, 0, 0, 0), (.iload_n 3, 1, 0, 0, 0, 0), (.invokevirtual 35, 3, 100, 2, 10, 4130)]),
  (27, [(.sipush 1000, 3, 0, 0, 0, 0), (.if_icmp .ge 9, 3, 39, 0, 0, 0)]),
  (33, [(.iload_n 2, 1, 0, 0, 0, 0), (.iconst 1, 1, 0, 0, 0, 0), (.iload_n 3, 1, 0, 0, 0, 0), (.ishl, 1, 0, 0, 0, 0), (.ior, 1, 0, 0, 0, 0), (.istore_n 2, 1, 0, 0, 0, 0)]),
  (39, [(.iinc 3 1, 3, 0, 0, 0, 0), (.goto (-29), 3, 13, 0, 0, 0)]),
  (45, [(.aload_n 0, 1, 0, 0, 0, 0), (.sipush 1000, 3, 0, 0, 0, 0), (.putfield 71, 3, 5, 0, 10, 2086), (.aload_n 0, 1, 0, 0, 0, 0), (.iconst 0, 1, 0, 0, 0, 0), (.putfield 38, 3, 7, 0, 10, 2088), (.aload_n 0, 1, 0, 0, 0, 0), (.iconst 0, 1, 0, 0, 0, 0), (.iconst 0, 1, 0, 0, 0, 0), (.iload_n 2, 1, 0, 0, 0, 0), (.iconst 0, 1, 0, 0, 0, 0), (.invokevirtual 74, 3, 156, 4, 10, 5140)]),
  (65, [(.aload_n 0, 1, 0, 0, 0, 0), (.getfield 71, 3, 5, 0, 10, 2086), (.ireturn, 1, 0, 0, 0, 0)])]
def X_Ways_goRound : MX := (⟨"YearsForCoin$Ways", "goRound", "(LYearsForCoin$Land;)I"⟩, prog_12_method_10_code, 4, (some .int), 1, (5139, 1009, 5137, 5138), B_Ways_goRound)
def B_Ways_goRoundOn : MB := [(0, [(.iload 4, 2, 0, 0, 0, 0), (.aload_n 0, 1, 0, 0, 0, 0), (.getfield 71, 3, 5, 0, 10, 2086), (.if_icmp .lt 4, 3, 10, 0, 0, 0)]),
  (9, [(.return_, 1, 0, 0, 0, 0)]),
  (10, [(.iload_n 3, 1, 0, 0, 0, 0), (.ifCond .ne 14, 3, 25, 0, 0, 0)]),
  (14, [(.aload_n 0, 1, 0, 0, 0, 0), (.iload 4, 2, 0, 0, 0, 0), (.putfield 71, 3, 5, 0, 10, 2086), (.aload_n 0, 1, 0, 0, 0, 0), (.iload_n 1, 1, 0, 0, 0, 0), (.invokevirtual 67, 3, 106, 1, 10, 4156)]),
  (25, [(.iload_n 1, 1, 0, 0, 0, 0), (.iconst 5, 1, 0, 0, 0, 0), (.if_icmp .lt 4, 3, 31, 0, 0, 0)]),
  (30, [(.return_, 1, 0, 0, 0, 0)]),
  (31, [(.iconst 1, 1, 0, 0, 0, 0), (.istore 5, 2, 0, 0, 0, 0)]),
  (34, [(.iload 5, 2, 0, 0, 0, 0), (.aload_n 0, 1, 0, 0, 0, 0), (.getfield 30, 3, 0, 0, 10, 2081), (.if_icmp .ge 53, 3, 93, 0, 0, 0)]),
  (43, [(.iload_n 3, 1, 0, 0, 0, 0), (.iload 5, 2, 0, 0, 0, 0), (.ishr, 1, 0, 0, 0, 0), (.iconst 1, 1, 0, 0, 0, 0), (.iand, 1, 0, 0, 0, 0), (.ifCond .eq 38, 3, 87, 0, 0, 0)]),
  (52, [(.aload_n 0, 1, 0, 0, 0, 0), (.getfield 18, 3, 3, 1, 10, 2084), (.iload_n 1, 1, 0, 0, 0, 0), (.iload 5, 2, 0, 0, 0, 0), (.iastore, 1, 0, 0, 0, 0), (.aload_n 0, 1, 0, 0, 0, 0), (.iload_n 1, 1, 0, 0, 0, 0), (.iconst 1, 1, 0, 0, 0, 0), (.iadd, 1, 0, 0, 0, 0), (.iload 5, 2, 0, 0, 0, 0), (.iload_n 3, 1, 0, 0, 0, 0), (.iconst 1, 1, 0, 0, 0, 0), (.iload 5, 2, 0, 0, 0, 0), (.ishl, 1, 0, 0, 0, 0), (.iconst (-1), 1, 0, 0, 0, 0), (.ixor, 1, 0, 0, 0, 0), (.iand, 1, 0, 0, 0, 0), (.iload 4, 2, 0, 0, 0, 0), (.aload_n 0, 1, 0, 0, 0, 0), (.iload_n 2, 1, 0, 0, 0, 0), (.iload 5, 2, 0, 0, 0, 0), (.invokevirtual 35, 3, 100, 2, 10, 4130)]),
  (83, [(.iadd, 1, 0, 0, 0, 0), (.invokevirtual 74, 3, 156, 4, 10, 5140)]),
  (87, [(.iinc 5 1, 3, 0, 0, 0, 0), (.goto (-56), 3, 34, 0, 0, 0)]),
  (93, [(.return_, 1, 0, 0, 0, 0)])]
def X_Ways_goRoundOn : MX := (⟨"YearsForCoin$Ways", "goRoundOn", "(IIII)V"⟩, prog_12_method_11_code, 6, none, 4, (5143, 1009, 5142, 44), B_Ways_goRoundOn)
def B_Main_reach : MB := [(0, [(.aload_n 0, 1, 0, 0, 0, 0), (.getfield 10, 3, 0, 1, 11, 2180), (.iload_n 1, 1, 0, 0, 0, 0), (.invokevirtual 103, 3, 61, 1, 8, 3199)]),
  (8, [(.astore_n 3, 1, 0, 0, 0, 0), (.aload_n 3, 1, 0, 0, 0, 0), (.ifnull 13, 3, 23, 0, 0, 0)]),
  (13, [(.iload_n 2, 1, 0, 0, 0, 0), (.ifCond .lt 9, 3, 23, 0, 0, 0)]),
  (17, [(.iload_n 2, 1, 0, 0, 0, 0), (.bipush 99, 2, 0, 0, 0, 0), (.if_icmp .le 5, 3, 25, 0, 0, 0)]),
  (23, [(.iconst (-1), 1, 0, 0, 0, 0), (.ireturn, 1, 0, 0, 0, 0)]),
  (25, [(.aload_n 0, 1, 0, 0, 0, 0), (.getfield 39, 3, 4, 1, 11, 2184), (.aload_n 3, 1, 0, 0, 0, 0), (.aload_n 3, 1, 0, 0, 0, 0), (.getfield 157, 3, 3, 0, 1, 1064), (.invokevirtual 160, 3, 99, 2, 10, 4125)]),
  (37, [(.aload_n 0, 1, 0, 0, 0, 0), (.getfield 39, 3, 4, 1, 11, 2184), (.iload_n 2, 1, 0, 0, 0, 0), (.invokevirtual 292, 3, 158, 1, 10, 5148)]),
  (45, [(.ireturn, 1, 0, 0, 0, 0)])]
def X_Main_reach : MX := (⟨"YearsForCoin", "reach", "(II)I"⟩, prog_1_method_26_code, 4, (some .int), 2, (5147, 1001, 5145, 5146), B_Main_reach)
def B_Ways_townsWithin : MB := [(0, [(.iconst 0, 1, 0, 0, 0, 0), (.istore_n 2, 1, 0, 0, 0, 0), (.iconst 0, 1, 0, 0, 0, 0), (.istore_n 3, 1, 0, 0, 0, 0)]),
  (4, [(.iload_n 3, 1, 0, 0, 0, 0), (.aload_n 0, 1, 0, 0, 0, 0), (.getfield 30, 3, 0, 0, 10, 2081), (.if_icmp .ge 25, 3, 34, 0, 0, 0)]),
  (12, [(.aload_n 0, 1, 0, 0, 0, 0), (.iconst 0, 1, 0, 0, 0, 0), (.iload_n 3, 1, 0, 0, 0, 0), (.invokevirtual 35, 3, 100, 2, 10, 4130)]),
  (18, [(.iload_n 1, 1, 0, 0, 0, 0), (.if_icmp .gt 9, 3, 28, 0, 0, 0)]),
  (22, [(.iload_n 2, 1, 0, 0, 0, 0), (.iconst 1, 1, 0, 0, 0, 0), (.iload_n 3, 1, 0, 0, 0, 0), (.ishl, 1, 0, 0, 0, 0), (.ior, 1, 0, 0, 0, 0), (.istore_n 2, 1, 0, 0, 0, 0)]),
  (28, [(.iinc 3 1, 3, 0, 0, 0, 0), (.goto (-27), 3, 4, 0, 0, 0)]),
  (34, [(.iload_n 2, 1, 0, 0, 0, 0), (.ireturn, 1, 0, 0, 0, 0)])]
def X_Ways_townsWithin : MX := (⟨"YearsForCoin$Ways", "townsWithin", "(I)I"⟩, prog_12_method_5_code, 4, (some .int), 1, (5151, 1009, 5149, 5150), B_Ways_townsWithin)
def B_Main_centre : MB := [(0, [(.aload_n 0, 1, 0, 0, 0, 0), (.getfield 10, 3, 0, 1, 11, 2180), (.iload_n 1, 1, 0, 0, 0, 0), (.invokevirtual 103, 3, 61, 1, 8, 3199)]),
  (8, [(.astore_n 3, 1, 0, 0, 0, 0), (.aload_n 3, 1, 0, 0, 0, 0), (.ifnonnull 5, 3, 15, 0, 0, 0)]),
  (13, [(.iconst (-1), 1, 0, 0, 0, 0), (.ireturn, 1, 0, 0, 0, 0)]),
  (15, [(.aload_n 0, 1, 0, 0, 0, 0), (.getfield 39, 3, 4, 1, 11, 2184), (.aload_n 3, 1, 0, 0, 0, 0), (.aload_n 3, 1, 0, 0, 0, 0), (.getfield 157, 3, 3, 0, 1, 1064), (.invokevirtual 160, 3, 99, 2, 10, 4125)]),
  (27, [(.aload_n 0, 1, 0, 0, 0, 0), (.getfield 39, 3, 4, 1, 11, 2184), (.aload_n 3, 1, 0, 0, 0, 0), (.invokevirtual 295, 3, 160, 1, 10, 5156)]),
  (35, [(.istore 4, 2, 0, 0, 0, 0), (.iload_n 2, 1, 0, 0, 0, 0), (.ifCond .eq 22, 3, 60, 0, 0, 0)]),
  (41, [(.iload 4, 2, 0, 0, 0, 0), (.iconst (-1), 1, 0, 0, 0, 0), (.if_icmp .eq 16, 3, 60, 0, 0, 0)]),
  (47, [(.aload_n 0, 1, 0, 0, 0, 0), (.getfield 39, 3, 4, 1, 11, 2184), (.aload_n 3, 1, 0, 0, 0, 0), (.iload 4, 2, 0, 0, 0, 0), (.invokevirtual 298, 3, 161, 2, 10, 5165)]),
  (57, [(.goto 5, 3, 62, 0, 0, 0)]),
  (60, [(.iload 4, 2, 0, 0, 0, 0)]),
  (62, [(.ireturn, 1, 0, 0, 0, 0)])]
def X_Main_centre : MX := (⟨"YearsForCoin", "centre", "(IZ)I"⟩, prog_1_method_27_code, 5, (some .int), 2, (5155, 1001, 5153, 5154), B_Main_centre)
def B_Ways_middle : MB := [(0, [(.iconst (-1), 1, 0, 0, 0, 0), (.istore_n 2, 1, 0, 0, 0, 0), (.sipush 1000, 3, 0, 0, 0, 0), (.istore_n 3, 1, 0, 0, 0, 0), (.iconst 0, 1, 0, 0, 0, 0), (.istore 4, 2, 0, 0, 0, 0)]),
  (9, [(.iload 4, 2, 0, 0, 0, 0), (.aload_n 0, 1, 0, 0, 0, 0), (.getfield 30, 3, 0, 0, 10, 2081), (.if_icmp .ge 42, 3, 57, 0, 0, 0)]),
  (18, [(.aload_n 0, 1, 0, 0, 0, 0), (.aload_n 1, 1, 0, 0, 0, 0), (.iload 4, 2, 0, 0, 0, 0), (.invokevirtual 49, 3, 161, 2, 10, 5160)]),
  (25, [(.istore 5, 2, 0, 0, 0, 0), (.aload_n 1, 1, 0, 0, 0, 0), (.getfield 41, 3, 3, 0, 1, 1061), (.iload 4, 2, 0, 0, 0, 0), (.ishr, 1, 0, 0, 0, 0), (.iconst 1, 1, 0, 0, 0, 0), (.iand, 1, 0, 0, 0, 0), (.ifCond .ne 15, 3, 51, 0, 0, 0)]),
  (39, [(.iload 5, 2, 0, 0, 0, 0), (.iload_n 3, 1, 0, 0, 0, 0), (.if_icmp .ge 9, 3, 51, 0, 0, 0)]),
  (45, [(.iload 5, 2, 0, 0, 0, 0), (.istore_n 3, 1, 0, 0, 0, 0), (.iload 4, 2, 0, 0, 0, 0), (.istore_n 2, 1, 0, 0, 0, 0)]),
  (51, [(.iinc 4 1, 3, 0, 0, 0, 0), (.goto (-45), 3, 9, 0, 0, 0)]),
  (57, [(.iload_n 2, 1, 0, 0, 0, 0), (.ireturn, 1, 0, 0, 0, 0)])]
def X_Ways_middle : MX := (⟨"YearsForCoin$Ways", "middle", "(LYearsForCoin$Land;)I"⟩, prog_12_method_7_code, 6, (some .int), 1, (5159, 1009, 5157, 5158), B_Ways_middle)
def B_Ways_furthestFrom : MB := [(0, [(.iconst 0, 1, 0, 0, 0, 0), (.istore_n 3, 1, 0, 0, 0, 0), (.iconst 0, 1, 0, 0, 0, 0), (.istore 4, 2, 0, 0, 0, 0)]),
  (5, [(.iload 4, 2, 0, 0, 0, 0), (.aload_n 0, 1, 0, 0, 0, 0), (.getfield 30, 3, 0, 0, 10, 2081), (.if_icmp .ge 33, 3, 44, 0, 0, 0)]),
  (14, [(.aload_n 1, 1, 0, 0, 0, 0), (.getfield 41, 3, 3, 0, 1, 1061), (.iload 4, 2, 0, 0, 0, 0), (.ishr, 1, 0, 0, 0, 0), (.iconst 1, 1, 0, 0, 0, 0), (.iand, 1, 0, 0, 0, 0), (.ifCond .ne 15, 3, 38, 0, 0, 0)]),
  (26, [(.iload_n 3, 1, 0, 0, 0, 0), (.aload_n 0, 1, 0, 0, 0, 0), (.iload_n 2, 1, 0, 0, 0, 0), (.iload 4, 2, 0, 0, 0, 0), (.invokevirtual 35, 3, 100, 2, 10, 4130)]),
  (34, [(.invokestatic 44, 3, 0, 1, 0, 5164), (.istore_n 3, 1, 0, 0, 0, 0)]),
  (38, [(.iinc 4 1, 3, 0, 0, 0, 0), (.goto (-36), 3, 5, 0, 0, 0)]),
  (44, [(.iload_n 3, 1, 0, 0, 0, 0), (.ireturn, 1, 0, 0, 0, 0)])]
def X_Ways_furthestFrom : MX := (⟨"YearsForCoin$Ways", "furthestFrom", "(LYearsForCoin$Land;I)I"⟩, prog_12_method_6_code, 5, (some .int), 2, (5163, 1009, 5161, 5162), B_Ways_furthestFrom)
def B_Main_until : MB := [(0, [(.aload_n 0, 1, 0, 0, 0, 0), (.getfield 10, 3, 0, 1, 11, 2180), (.iload_n 1, 1, 0, 0, 0, 0), (.invokevirtual 103, 3, 61, 1, 8, 3199)]),
  (8, [(.astore 4, 2, 0, 0, 0, 0), (.aload 4, 2, 0, 0, 0, 0), (.ifnull 21, 3, 33, 0, 0, 0)]),
  (15, [(.aload 4, 2, 0, 0, 0, 0), (.iload_n 2, 1, 0, 0, 0, 0), (.invokevirtual 136, 3, 70, 1, 1, 4093)]),
  (21, [(.ifCond .eq 12, 3, 33, 0, 0, 0)]),
  (24, [(.aload 4, 2, 0, 0, 0, 0), (.iload_n 3, 1, 0, 0, 0, 0), (.invokevirtual 197, 3, 68, 1, 1, 4142)]),
  (30, [(.ifCond .ne 5, 3, 35, 0, 0, 0)]),
  (33, [(.iconst (-1), 1, 0, 0, 0, 0), (.ireturn, 1, 0, 0, 0, 0)]),
  (35, [(.aload 4, 2, 0, 0, 0, 0), (.iload_n 2, 1, 0, 0, 0, 0), (.iload_n 3, 1, 0, 0, 0, 0), (.invokevirtual 301, 3, 163, 2, 1, 5170)]),
  (42, [(.ireturn, 1, 0, 0, 0, 0)])]
def X_Main_until : MX := (⟨"YearsForCoin", "until", "(III)I"⟩, prog_1_method_28_code, 5, (some .int), 3, (5169, 1001, 5167, 5168), B_Main_until)
def B_Land_doubtsUntil : MB := [(0, [(.aload_n 0, 1, 0, 0, 0, 0), (.iload_n 1, 1, 0, 0, 0, 0), (.invokevirtual 88, 3, 70, 1, 1, 3235)]),
  (5, [(.ifCond .eq 11, 3, 16, 0, 0, 0)]),
  (8, [(.aload_n 0, 1, 0, 0, 0, 0), (.iload_n 2, 1, 0, 0, 0, 0), (.invokevirtual 85, 3, 68, 1, 1, 3227)]),
  (13, [(.ifCond .ne 5, 3, 18, 0, 0, 0)]),
  (16, [(.iconst (-1), 1, 0, 0, 0, 0), (.ireturn, 1, 0, 0, 0, 0)]),
  (18, [(.iconst 0, 1, 0, 0, 0, 0), (.istore_n 3, 1, 0, 0, 0, 0)]),
  (20, [(.iload_n 3, 1, 0, 0, 0, 0), (.bipush 9, 2, 0, 0, 0, 0), (.if_icmp .gt 72, 3, 95, 0, 0, 0)]),
  (26, [(.iconst 0, 1, 0, 0, 0, 0), (.aload_n 0, 1, 0, 0, 0, 0), (.getfield 28, 3, 10, 1, 1, 1081), (.iload_n 1, 1, 0, 0, 0, 0), (.iaload, 1, 0, 0, 0, 0), (.iload_n 3, 1, 0, 0, 0, 0), (.isub, 1, 0, 0, 0, 0), (.invokestatic 111, 3, 0, 1, 0, 5174), (.istore 4, 2, 0, 0, 0, 0), (.aload_n 0, 1, 0, 0, 0, 0), (.getfield 34, 3, 12, 1, 1, 1086), (.iload_n 2, 1, 0, 0, 0, 0), (.iaload, 1, 0, 0, 0, 0), (.aload_n 0, 1, 0, 0, 0, 0), (.getfield 25, 3, 9, 1, 1, 1078), (.iload_n 1, 1, 0, 0, 0, 0), (.iaload, 1, 0, 0, 0, 0), (.if_icmp .gt 35, 3, 87, 0, 0, 0)]),
  (55, [(.aload_n 0, 1, 0, 0, 0, 0), (.getfield 15, 3, 6, 1, 1, 1071), (.iload_n 1, 1, 0, 0, 0, 0), (.iaload, 1, 0, 0, 0, 0), (.aload_n 0, 1, 0, 0, 0, 0), (.getfield 22, 3, 8, 1, 1, 1075), (.iload_n 1, 1, 0, 0, 0, 0), (.iaload, 1, 0, 0, 0, 0), (.iload 4, 2, 0, 0, 0, 0), (.aload_n 0, 1, 0, 0, 0, 0), (.getfield 31, 3, 11, 1, 1, 1083), (.iload_n 2, 1, 0, 0, 0, 0), (.iaload, 1, 0, 0, 0, 0), (.aload_n 0, 1, 0, 0, 0, 0), (.getfield 34, 3, 12, 1, 1, 1086), (.iload_n 2, 1, 0, 0, 0, 0), (.iaload, 1, 0, 0, 0, 0), (.invokestatic 96, 3, 82, 0, 5, 4101)]),
  (84, [(.ifCond .ne 5, 3, 89, 0, 0, 0)]),
  (87, [(.iload_n 3, 1, 0, 0, 0, 0), (.ireturn, 1, 0, 0, 0, 0)]),
  (89, [(.iinc 3 1, 3, 0, 0, 0, 0), (.goto (-72), 3, 20, 0, 0, 0)]),
  (95, [(.iconst (-1), 1, 0, 0, 0, 0), (.ireturn, 1, 0, 0, 0, 0)])]
def X_Land_doubtsUntil : MX := (⟨"YearsForCoin$Land", "doubtsUntil", "(II)I"⟩, prog_3_method_21_code, 5, (some .int), 2, (5173, 1003, 5171, 5172), B_Land_doubtsUntil)
def B_Main_enough : MB := [(0, [(.aload_n 0, 1, 0, 0, 0, 0), (.getfield 10, 3, 0, 1, 11, 2180), (.iload_n 1, 1, 0, 0, 0, 0), (.invokevirtual 103, 3, 61, 1, 8, 3199)]),
  (8, [(.astore_n 3, 1, 0, 0, 0, 0), (.aload_n 3, 1, 0, 0, 0, 0), (.ifnull 11, 3, 21, 0, 0, 0)]),
  (13, [(.aload_n 3, 1, 0, 0, 0, 0), (.iload_n 2, 1, 0, 0, 0, 0), (.invokevirtual 136, 3, 70, 1, 1, 4093)]),
  (18, [(.ifCond .ne 5, 3, 23, 0, 0, 0)]),
  (21, [(.iconst (-1), 1, 0, 0, 0, 0), (.ireturn, 1, 0, 0, 0, 0)]),
  (23, [(.aload_n 0, 1, 0, 0, 0, 0), (.getfield 46, 3, 5, 1, 11, 2185), (.aload_n 3, 1, 0, 0, 0, 0), (.aload_n 3, 1, 0, 0, 0, 0), (.getfield 181, 3, 8, 1, 1, 1077), (.iload_n 2, 1, 0, 0, 0, 0), (.iaload, 1, 0, 0, 0, 0), (.ldc_w 304, 3, 1000000, 0, 0, 5179), (.invokevirtual 187, 3, 109, 3, 4, 4170)]),
  (40, [(.aload_n 0, 1, 0, 0, 0, 0), (.getfield 46, 3, 5, 1, 11, 2185), (.getfield 191, 3, 2, 0, 4, 2117), (.aload_n 3, 1, 0, 0, 0, 0), (.getfield 181, 3, 8, 1, 1, 1077), (.iload_n 2, 1, 0, 0, 0, 0), (.iaload, 1, 0, 0, 0, 0), (.if_icmp .ge 7, 3, 60, 0, 0, 0)]),
  (56, [(.iconst (-1), 1, 0, 0, 0, 0), (.goto 10, 3, 67, 0, 0, 0)]),
  (60, [(.aload_n 0, 1, 0, 0, 0, 0), (.getfield 46, 3, 5, 1, 11, 2185), (.getfield 194, 3, 3, 0, 4, 2119)]),
  (67, [(.ireturn, 1, 0, 0, 0, 0)])]
def X_Main_enough : MX := (⟨"YearsForCoin", "enough", "(II)I"⟩, prog_1_method_29_code, 4, (some .int), 2, (5178, 1001, 5176, 5177), B_Main_enough)
def B_Main_loan : MB := [(0, [(.iload_n 1, 1, 0, 0, 0, 0), (.ifCond .lt 30, 3, 31, 0, 0, 0)]),
  (4, [(.iload_n 1, 1, 0, 0, 0, 0), (.sipush 999, 3, 0, 0, 0, 0), (.if_icmp .gt 23, 3, 31, 0, 0, 0)]),
  (11, [(.iload_n 2, 1, 0, 0, 0, 0), (.ifCond .lt 19, 3, 31, 0, 0, 0)]),
  (15, [(.iload_n 2, 1, 0, 0, 0, 0), (.bipush 50, 2, 0, 0, 0, 0), (.if_icmp .gt 13, 3, 31, 0, 0, 0)]),
  (21, [(.iload_n 3, 1, 0, 0, 0, 0), (.ifCond .lt 9, 3, 31, 0, 0, 0)]),
  (25, [(.iload_n 3, 1, 0, 0, 0, 0), (.bipush 99, 2, 0, 0, 0, 0), (.if_icmp .le 5, 3, 33, 0, 0, 0)]),
  (31, [(.iconst (-1), 1, 0, 0, 0, 0), (.ireturn, 1, 0, 0, 0, 0)]),
  (33, [(.iload_n 1, 1, 0, 0, 0, 0), (.istore 5, 2, 0, 0, 0, 0), (.iconst 0, 1, 0, 0, 0, 0), (.istore 6, 2, 0, 0, 0, 0), (.iconst 0, 1, 0, 0, 0, 0), (.istore 7, 2, 0, 0, 0, 0)]),
  (42, [(.iload 5, 2, 0, 0, 0, 0), (.ifCond .le 61, 3, 105, 0, 0, 0)]),
  (47, [(.iload 7, 2, 0, 0, 0, 0), (.bipush 99, 2, 0, 0, 0, 0), (.if_icmp .ge 54, 3, 105, 0, 0, 0)]),
  (54, [(.iload 5, 2, 0, 0, 0, 0), (.iload_n 2, 1, 0, 0, 0, 0), (.imul, 1, 0, 0, 0, 0), (.bipush 100, 2, 0, 0, 0, 0), (.idiv, 1, 0, 0, 0, 0), (.istore 8, 2, 0, 0, 0, 0), (.iload 8, 2, 0, 0, 0, 0), (.iload_n 3, 1, 0, 0, 0, 0), (.if_icmp .lt 5, 3, 71, 0, 0, 0)]),
  (69, [(.iconst (-1), 1, 0, 0, 0, 0), (.ireturn, 1, 0, 0, 0, 0)]),
  (71, [(.iload_n 3, 1, 0, 0, 0, 0), (.iload 5, 2, 0, 0, 0, 0), (.iload 8, 2, 0, 0, 0, 0), (.iadd, 1, 0, 0, 0, 0), (.invokestatic 305, 3, 0, 2, 0, 5184), (.istore 9, 2, 0, 0, 0, 0), (.iload 5, 2, 0, 0, 0, 0), (.iload 8, 2, 0, 0, 0, 0), (.iload 9, 2, 0, 0, 0, 0), (.isub, 1, 0, 0, 0, 0), (.iadd, 1, 0, 0, 0, 0), (.istore 5, 2, 0, 0, 0, 0), (.iload 6, 2, 0, 0, 0, 0), (.iload 9, 2, 0, 0, 0, 0), (.iadd, 1, 0, 0, 0, 0), (.istore 6, 2, 0, 0, 0, 0), (.iinc 7 1, 3, 0, 0, 0, 0), (.goto (-60), 3, 42, 0, 0, 0)]),
  (105, [(.iload 5, 2, 0, 0, 0, 0), (.ifCond .le 5, 3, 112, 0, 0, 0)]),
  (110, [(.iconst (-1), 1, 0, 0, 0, 0), (.ireturn, 1, 0, 0, 0, 0)]),
  (112, [(.iload 4, 2, 0, 0, 0, 0), (.ifCond .eq 8, 3, 122, 0, 0, 0)]),
  (117, [(.iload 6, 2, 0, 0, 0, 0), (.goto 5, 3, 124, 0, 0, 0)]),
  (122, [(.iload 7, 2, 0, 0, 0, 0)]),
  (124, [(.ireturn, 1, 0, 0, 0, 0)])]
def X_Main_loan : MX := (⟨"YearsForCoin", "loan", "(IIIZ)I"⟩, prog_1_method_30_code, 10, (some .int), 4, (5183, 1001, 5181, 5182), B_Main_loan)
def B_Main_power : MB := [(0, [(.aload_n 0, 1, 0, 0, 0, 0), (.getfield 10, 3, 0, 1, 11, 2180), (.iload_n 1, 1, 0, 0, 0, 0), (.invokevirtual 238, 3, 127, 1, 8, 5010)]),
  (8, [(.astore_n 3, 1, 0, 0, 0, 0), (.aload_n 3, 1, 0, 0, 0, 0), (.ifnonnull 5, 3, 15, 0, 0, 0)]),
  (13, [(.iconst (-1), 1, 0, 0, 0, 0), (.ireturn, 1, 0, 0, 0, 0)]),
  (15, [(.iload_n 2, 1, 0, 0, 0, 0), (.lookupswitch 46 #[(0, 28), (1, 37)], 28, 0, 0, 0, 0)]),
  (44, [(.aload_n 0, 1, 0, 0, 0, 0), (.getfield 53, 3, 6, 1, 11, 2186), (.aload_n 3, 1, 0, 0, 0, 0), (.invokevirtual 308, 3, 167, 1, 7, 5189)]),
  (52, [(.ireturn, 1, 0, 0, 0, 0)]),
  (53, [(.aload_n 0, 1, 0, 0, 0, 0), (.getfield 53, 3, 6, 1, 11, 2186), (.aload_n 3, 1, 0, 0, 0, 0), (.invokevirtual 311, 3, 169, 1, 7, 5196)]),
  (61, [(.ireturn, 1, 0, 0, 0, 0)]),
  (62, [(.iload_n 2, 1, 0, 0, 0, 0), (.bipush 10, 2, 0, 0, 0, 0), (.if_icmp .lt 29, 3, 94, 0, 0, 0)]),
  (68, [(.aload_n 3, 1, 0, 0, 0, 0), (.iload_n 2, 1, 0, 0, 0, 0), (.bipush 10, 2, 0, 0, 0, 0), (.isub, 1, 0, 0, 0, 0), (.invokevirtual 260, 3, 134, 1, 0, 5058)]),
  (76, [(.ifCond .eq 18, 3, 94, 0, 0, 0)]),
  (79, [(.aload_n 0, 1, 0, 0, 0, 0), (.getfield 53, 3, 6, 1, 11, 2186), (.aload_n 3, 1, 0, 0, 0, 0), (.iload_n 2, 1, 0, 0, 0, 0), (.bipush 10, 2, 0, 0, 0, 0), (.isub, 1, 0, 0, 0, 0), (.invokevirtual 314, 3, 171, 2, 7, 5203)]),
  (91, [(.goto 4, 3, 95, 0, 0, 0)]),
  (94, [(.iconst (-1), 1, 0, 0, 0, 0)]),
  (95, [(.ireturn, 1, 0, 0, 0, 0)])]
def X_Main_power : MX := (⟨"YearsForCoin", "power", "(II)I"⟩, prog_1_method_31_code, 4, (some .int), 2, (5188, 1001, 5186, 5187), B_Main_power)
def B_Sharing_needed : MB := [(0, [(.iconst 0, 1, 0, 0, 0, 0), (.istore_n 2, 1, 0, 0, 0, 0), (.iconst 0, 1, 0, 0, 0, 0), (.istore_n 3, 1, 0, 0, 0, 0)]),
  (4, [(.iload_n 3, 1, 0, 0, 0, 0), (.aload_n 1, 1, 0, 0, 0, 0), (.getfield 35, 3, 0, 0, 0, 1168), (.if_icmp .ge 23, 3, 32, 0, 0, 0)]),
  (12, [(.aload_n 1, 1, 0, 0, 0, 0), (.iload_n 3, 1, 0, 0, 0, 0), (.invokestatic 105, 3, 168, 0, 2, 5193)]),
  (17, [(.ifCond .eq 9, 3, 26, 0, 0, 0)]),
  (20, [(.iload_n 2, 1, 0, 0, 0, 0), (.iconst 1, 1, 0, 0, 0, 0), (.iload_n 3, 1, 0, 0, 0, 0), (.ishl, 1, 0, 0, 0, 0), (.ior, 1, 0, 0, 0, 0), (.istore_n 2, 1, 0, 0, 0, 0)]),
  (26, [(.iinc 3 1, 3, 0, 0, 0, 0), (.goto (-25), 3, 4, 0, 0, 0)]),
  (32, [(.iload_n 2, 1, 0, 0, 0, 0), (.ireturn, 1, 0, 0, 0, 0)])]
def X_Sharing_needed : MX := (⟨"YearsForCoin$Sharing", "needed", "(LYearsForCoin$Bargain;)I"⟩, prog_9_method_13_code, 4, (some .int), 1, (5192, 1011, 5190, 5191), B_Sharing_needed)
def B_Sharing_isNeeded : MB := [(0, [(.iconst 1, 1, 0, 0, 0, 0), (.istore_n 2, 1, 0, 0, 0, 0)]),
  (2, [(.iload_n 2, 1, 0, 0, 0, 0), (.aload_n 0, 1, 0, 0, 0, 0), (.invokevirtual 25, 3, 128, 0, 0, 5030)]),
  (7, [(.if_icmp .gt 27, 3, 34, 0, 0, 0)]),
  (10, [(.iload_n 2, 1, 0, 0, 0, 0), (.iload_n 1, 1, 0, 0, 0, 0), (.ishr, 1, 0, 0, 0, 0), (.iconst 1, 1, 0, 0, 0, 0), (.iand, 1, 0, 0, 0, 0), (.ifCond .ne 13, 3, 28, 0, 0, 0)]),
  (18, [(.aload_n 0, 1, 0, 0, 0, 0), (.iload_n 2, 1, 0, 0, 0, 0), (.invokevirtual 31, 3, 129, 1, 0, 5031)]),
  (23, [(.ifCond .eq 5, 3, 28, 0, 0, 0)]),
  (26, [(.iconst 0, 1, 0, 0, 0, 0), (.ireturn, 1, 0, 1, 0, 0)]),
  (28, [(.iinc 2 1, 3, 0, 0, 0, 0), (.goto (-29), 3, 2, 0, 0, 0)]),
  (34, [(.iconst 1, 1, 0, 0, 0, 0), (.ireturn, 1, 0, 1, 0, 0)])]
def X_Sharing_isNeeded : MX := (⟨"YearsForCoin$Sharing", "isNeeded", "(LYearsForCoin$Bargain;I)Z"⟩, prog_9_method_14_code, 3, (some .boolean), 2, (5195, 1011, 5194, 0), B_Sharing_isNeeded)
def B_Sharing_idle : MB := [(0, [(.iconst 0, 1, 0, 0, 0, 0), (.istore_n 2, 1, 0, 0, 0, 0), (.iconst 0, 1, 0, 0, 0, 0), (.istore_n 3, 1, 0, 0, 0, 0)]),
  (4, [(.iload_n 3, 1, 0, 0, 0, 0), (.aload_n 1, 1, 0, 0, 0, 0), (.getfield 35, 3, 0, 0, 0, 1168), (.if_icmp .ge 23, 3, 32, 0, 0, 0)]),
  (12, [(.aload_n 1, 1, 0, 0, 0, 0), (.iload_n 3, 1, 0, 0, 0, 0), (.invokestatic 109, 3, 170, 0, 2, 5200)]),
  (17, [(.ifCond .eq 9, 3, 26, 0, 0, 0)]),
  (20, [(.iload_n 2, 1, 0, 0, 0, 0), (.iconst 1, 1, 0, 0, 0, 0), (.iload_n 3, 1, 0, 0, 0, 0), (.ishl, 1, 0, 0, 0, 0), (.ior, 1, 0, 0, 0, 0), (.istore_n 2, 1, 0, 0, 0, 0)]),
  (26, [(.iinc 3 1, 3, 0, 0, 0, 0), (.goto (-25), 3, 4, 0, 0, 0)]),
  (32, [(.iload_n 2, 1, 0, 0, 0, 0), (.ireturn, 1, 0, 0, 0, 0)])]
def X_Sharing_idle : MX := (⟨"YearsForCoin$Sharing", "idle", "(LYearsForCoin$Bargain;)I"⟩, prog_9_method_15_code, 4, (some .int), 1, (5199, 1011, 5197, 5198), B_Sharing_idle)
def B_Sharing_isIdle : MB := [(0, [(.iconst 0, 1, 0, 0, 0, 0), (.istore_n 2, 1, 0, 0, 0, 0)]),
  (2, [(.iload_n 2, 1, 0, 0, 0, 0), (.aload_n 0, 1, 0, 0, 0, 0), (.invokevirtual 25, 3, 128, 0, 0, 5030)]),
  (7, [(.if_icmp .gt 20, 3, 27, 0, 0, 0)]),
  (10, [(.aload_n 0, 1, 0, 0, 0, 0), (.iload_n 2, 1, 0, 0, 0, 0), (.iload_n 1, 1, 0, 0, 0, 0), (.invokevirtual 82, 3, 142, 2, 0, 5079)]),
  (16, [(.ifCond .eq 5, 3, 21, 0, 0, 0)]),
  (19, [(.iconst 0, 1, 0, 0, 0, 0), (.ireturn, 1, 0, 1, 0, 0)]),
  (21, [(.iinc 2 1, 3, 0, 0, 0, 0), (.goto (-22), 3, 2, 0, 0, 0)]),
  (27, [(.iconst 1, 1, 0, 0, 0, 0), (.ireturn, 1, 0, 1, 0, 0)])]
def X_Sharing_isIdle : MX := (⟨"YearsForCoin$Sharing", "isIdle", "(LYearsForCoin$Bargain;I)Z"⟩, prog_9_method_16_code, 3, (some .boolean), 2, (5202, 1011, 5201, 0), B_Sharing_isIdle)
def B_Sharing_swings : MB := [(0, [(.iconst 0, 1, 0, 0, 0, 0), (.istore_n 3, 1, 0, 0, 0, 0), (.iconst 0, 1, 0, 0, 0, 0), (.istore 4, 2, 0, 0, 0, 0)]),
  (5, [(.iload 4, 2, 0, 0, 0, 0), (.aload_n 1, 1, 0, 0, 0, 0), (.invokevirtual 25, 3, 128, 0, 0, 5030)]),
  (11, [(.if_icmp .gt 22, 3, 33, 0, 0, 0)]),
  (14, [(.aload_n 1, 1, 0, 0, 0, 0), (.iload 4, 2, 0, 0, 0, 0), (.iload_n 2, 1, 0, 0, 0, 0), (.invokevirtual 82, 3, 142, 2, 0, 5079)]),
  (21, [(.ifCond .le 6, 3, 27, 0, 0, 0)]),
  (24, [(.iinc 3 1, 3, 0, 0, 0, 0)]),
  (27, [(.iinc 4 1, 3, 0, 0, 0, 0), (.goto (-25), 3, 5, 0, 0, 0)]),
  (33, [(.iload_n 3, 1, 0, 0, 0, 0), (.ireturn, 1, 0, 0, 0, 0)])]
def X_Sharing_swings : MX := (⟨"YearsForCoin$Sharing", "swings", "(LYearsForCoin$Bargain;I)I"⟩, prog_9_method_17_code, 5, (some .int), 2, (5206, 1011, 5204, 5205), B_Sharing_swings)
def B_Main_after : MB := [(0, [(.aload_n 0, 1, 0, 0, 0, 0), (.getfield 10, 3, 0, 1, 11, 2180), (.iload_n 1, 1, 0, 0, 0, 0), (.invokevirtual 103, 3, 61, 1, 8, 3199)]),
  (8, [(.astore 4, 2, 0, 0, 0, 0), (.aload_n 0, 1, 0, 0, 0, 0), (.getfield 10, 3, 0, 1, 11, 2180), (.iload_n 2, 1, 0, 0, 0, 0), (.invokevirtual 113, 3, 72, 1, 8, 4003)]),
  (18, [(.astore 5, 2, 0, 0, 0, 0), (.aload 4, 2, 0, 0, 0, 0), (.ifnull 8, 3, 30, 0, 0, 0)]),
  (25, [(.aload 5, 2, 0, 0, 0, 0), (.ifnonnull 6, 3, 33, 0, 0, 0)]),
  (30, [(.bipush (-2), 2, 0, 0, 0, 0), (.ireturn, 1, 0, 0, 0, 0)]),
  (33, [(.aload_n 0, 1, 0, 0, 0, 0), (.getfield 32, 3, 3, 1, 11, 2183), (.aload 4, 2, 0, 0, 0, 0), (.aload 5, 2, 0, 0, 0, 0), (.bipush 40, 2, 0, 0, 0, 0), (.invokevirtual 128, 3, 76, 3, 9, 4020)]),
  (46, [(.istore 6, 2, 0, 0, 0, 0), (.iload_n 3, 1, 0, 0, 0, 0), (.tableswitch 61 0 2 #[27, 37, 51], 27, 0, 0, 0, 0)]),
  (76, [(.aload_n 0, 1, 0, 0, 0, 0), (.getfield 32, 3, 3, 1, 11, 2183), (.aload 4, 2, 0, 0, 0, 0), (.invokevirtual 317, 3, 173, 1, 9, 5211)]),
  (85, [(.ireturn, 1, 0, 0, 0, 0)]),
  (86, [(.aload_n 0, 1, 0, 0, 0, 0), (.getfield 32, 3, 3, 1, 11, 2183), (.aload 4, 2, 0, 0, 0, 0), (.aload 5, 2, 0, 0, 0, 0), (.iload 6, 2, 0, 0, 0, 0), (.invokevirtual 320, 3, 174, 3, 9, 5215)]),
  (99, [(.ireturn, 1, 0, 0, 0, 0)]),
  (100, [(.aload_n 0, 1, 0, 0, 0, 0), (.getfield 32, 3, 3, 1, 11, 2183), (.aload 4, 2, 0, 0, 0, 0), (.invokevirtual 323, 3, 175, 1, 9, 5219)]),
  (109, [(.ireturn, 1, 0, 0, 0, 0)]),
  (110, [(.bipush (-2), 2, 0, 0, 0, 0), (.ireturn, 1, 0, 0, 0, 0)])]
def X_Main_after : MX := (⟨"YearsForCoin", "after", "(III)I"⟩, prog_1_method_32_code, 7, (some .int), 3, (5210, 1001, 5208, 5209), B_Main_after)
def B_Walk_payer : MB := [(0, [(.iconst 0, 1, 0, 0, 0, 0), (.istore_n 2, 1, 0, 0, 0, 0), (.iconst (-1), 1, 0, 0, 0, 0), (.istore_n 3, 1, 0, 0, 0, 0), (.iconst 0, 1, 0, 0, 0, 0), (.istore 4, 2, 0, 0, 0, 0)]),
  (7, [(.iload 4, 2, 0, 0, 0, 0), (.aload_n 1, 1, 0, 0, 0, 0), (.getfield 84, 3, 4, 0, 1, 1066), (.if_icmp .ge 38, 3, 51, 0, 0, 0)]),
  (16, [(.aload_n 1, 1, 0, 0, 0, 0), (.getfield 87, 3, 9, 1, 1, 1079), (.iload 4, 2, 0, 0, 0, 0), (.iaload, 1, 0, 0, 0, 0), (.aload_n 0, 1, 0, 0, 0, 0), (.getfield 15, 3, 9, 1, 9, 2047), (.iload 4, 2, 0, 0, 0, 0), (.iaload, 1, 0, 0, 0, 0), (.isub, 1, 0, 0, 0, 0), (.istore 5, 2, 0, 0, 0, 0), (.iload 5, 2, 0, 0, 0, 0), (.iload_n 2, 1, 0, 0, 0, 0), (.if_icmp .le 9, 3, 45, 0, 0, 0)]),
  (39, [(.iload 5, 2, 0, 0, 0, 0), (.istore_n 2, 1, 0, 0, 0, 0), (.iload 4, 2, 0, 0, 0, 0), (.istore_n 3, 1, 0, 0, 0, 0)]),
  (45, [(.iinc 4 1, 3, 0, 0, 0, 0), (.goto (-41), 3, 7, 0, 0, 0)]),
  (51, [(.iload_n 3, 1, 0, 0, 0, 0), (.ireturn, 1, 0, 0, 0, 0)])]
def X_Walk_payer : MX := (⟨"YearsForCoin$Walk", "payer", "(LYearsForCoin$Land;)I"⟩, prog_11_method_6_code, 6, (some .int), 1, (5214, 1008, 5212, 5213), B_Walk_payer)
def B_Walk_halfWay : MB := [(0, [(.aload_n 0, 1, 0, 0, 0, 0), (.getfield 75, 3, 6, 0, 9, 2044), (.istore 4, 2, 0, 0, 0, 0), (.aload_n 0, 1, 0, 0, 0, 0), (.aload_n 1, 1, 0, 0, 0, 0), (.invokevirtual 24, 3, 77, 1, 9, 4024)]),
  (11, [(.iconst 0, 1, 0, 0, 0, 0), (.istore 5, 2, 0, 0, 0, 0)]),
  (14, [(.iload 5, 2, 0, 0, 0, 0), (.iload_n 3, 1, 0, 0, 0, 0), (.if_icmp .ge 29, 3, 46, 0, 0, 0)]),
  (20, [(.iconst 2, 1, 0, 0, 0, 0), (.aload_n 0, 1, 0, 0, 0, 0), (.getfield 75, 3, 6, 0, 9, 2044), (.imul, 1, 0, 0, 0, 0), (.iload 4, 2, 0, 0, 0, 0), (.if_icmp .ge 18, 3, 46, 0, 0, 0)]),
  (31, [(.aload_n 0, 1, 0, 0, 0, 0), (.aload_n 1, 1, 0, 0, 0, 0), (.aload_n 2, 1, 0, 0, 0, 0), (.iload 5, 2, 0, 0, 0, 0), (.invokevirtual 34, 3, 78, 3, 9, 4030)]),
  (39, [(.pop, 1, 0, 0, 0, 0), (.iinc 5 1, 3, 0, 0, 0, 0), (.goto (-29), 3, 14, 0, 0, 0)]),
  (46, [(.iload 5, 2, 0, 0, 0, 0), (.ireturn, 1, 0, 0, 0, 0)])]
def X_Walk_halfWay : MX := (⟨"YearsForCoin$Walk", "halfWay", "(LYearsForCoin$Land;LYearsForCoin$Season;I)I"⟩, prog_11_method_8_code, 6, (some .int), 3, (5218, 1008, 5216, 5217), B_Walk_halfWay)
def B_Walk_buyersAhead : MB := [(0, [(.iconst 0, 1, 0, 0, 0, 0), (.istore_n 2, 1, 0, 0, 0, 0), (.iconst 0, 1, 0, 0, 0, 0), (.istore_n 3, 1, 0, 0, 0, 0)]),
  (4, [(.iload_n 3, 1, 0, 0, 0, 0), (.aload_n 1, 1, 0, 0, 0, 0), (.getfield 84, 3, 4, 0, 1, 1066), (.if_icmp .ge 24, 3, 33, 0, 0, 0)]),
  (12, [(.aload_n 0, 1, 0, 0, 0, 0), (.getfield 9, 3, 8, 1, 9, 2046), (.iload_n 3, 1, 0, 0, 0, 0), (.iaload, 1, 0, 0, 0, 0), (.ifCond .ge 9, 3, 27, 0, 0, 0)]),
  (21, [(.iload_n 2, 1, 0, 0, 0, 0), (.iconst 1, 1, 0, 0, 0, 0), (.iload_n 3, 1, 0, 0, 0, 0), (.ishl, 1, 0, 0, 0, 0), (.ior, 1, 0, 0, 0, 0), (.istore_n 2, 1, 0, 0, 0, 0)]),
  (27, [(.iinc 3 1, 3, 0, 0, 0, 0), (.goto (-26), 3, 4, 0, 0, 0)]),
  (33, [(.iload_n 2, 1, 0, 0, 0, 0), (.ireturn, 1, 0, 0, 0, 0)])]
def X_Walk_buyersAhead : MX := (⟨"YearsForCoin$Walk", "buyersAhead", "(LYearsForCoin$Land;)I"⟩, prog_11_method_7_code, 4, (some .int), 1, (5222, 1008, 5220, 5221), B_Walk_buyersAhead)
def B_Main_opened : MB := [(0, [(.aload_n 0, 1, 0, 0, 0, 0), (.getfield 10, 3, 0, 1, 11, 2180), (.iload_n 1, 1, 0, 0, 0, 0), (.invokevirtual 212, 3, 116, 1, 8, 4204)]),
  (8, [(.astore_n 3, 1, 0, 0, 0, 0), (.aload_n 3, 1, 0, 0, 0, 0), (.ifnonnull 7, 3, 17, 0, 0, 0)]),
  (13, [(.iconst (-1), 1, 0, 0, 0, 0), (.goto 8, 3, 22, 0, 0, 0)]),
  (17, [(.aload_n 3, 1, 0, 0, 0, 0), (.iload_n 2, 1, 0, 0, 0, 0), (.invokevirtual 326, 3, 177, 1, 2, 5227)]),
  (22, [(.ireturn, 1, 0, 0, 0, 0)])]
def X_Main_opened : MX := (⟨"YearsForCoin", "opened", "(IZ)I"⟩, prog_1_method_33_code, 4, (some .int), 2, (5226, 1001, 5224, 5225), B_Main_opened)
def B_Ledger_losses : MB := [(0, [(.iconst 0, 1, 0, 0, 0, 0), (.istore_n 2, 1, 0, 0, 0, 0), (.iconst 0, 1, 0, 0, 0, 0), (.istore_n 3, 1, 0, 0, 0, 0)]),
  (4, [(.iload_n 3, 1, 0, 0, 0, 0), (.aload_n 0, 1, 0, 0, 0, 0), (.getfield 18, 3, 0, 0, 2, 1150), (.if_icmp .ge 48, 3, 57, 0, 0, 0)]),
  (12, [(.aload_n 0, 1, 0, 0, 0, 0), (.getfield 9, 3, 1, 1, 2, 1153), (.iload_n 3, 1, 0, 0, 0, 0), (.iaload, 1, 0, 0, 0, 0), (.iconst 2, 1, 0, 0, 0, 0), (.if_icmp .ne 11, 3, 30, 0, 0, 0)]),
  (22, [(.aload_n 0, 1, 0, 0, 0, 0), (.iload_n 3, 1, 0, 0, 0, 0), (.invokevirtual 32, 3, 119, 1, 2, 4217)]),
  (27, [(.goto 4, 3, 31, 0, 0, 0)]),
  (30, [(.iconst 0, 1, 0, 0, 0, 0)]),
  (31, [(.istore 4, 2, 0, 0, 0, 0), (.iload 4, 2, 0, 0, 0, 0), (.ifCond .le 16, 3, 51, 0, 0, 0)]),
  (38, [(.iload_n 2, 1, 0, 0, 0, 0), (.iload_n 1, 1, 0, 0, 0, 0), (.ifCond .eq 8, 3, 48, 0, 0, 0)]),
  (43, [(.iload 4, 2, 0, 0, 0, 0), (.goto 4, 3, 49, 0, 0, 0)]),
  (48, [(.iconst 1, 1, 0, 0, 0, 0)]),
  (49, [(.iadd, 1, 0, 0, 0, 0), (.istore_n 2, 1, 0, 0, 0, 0)]),
  (51, [(.iinc 3 1, 3, 0, 0, 0, 0), (.goto (-50), 3, 4, 0, 0, 0)]),
  (57, [(.iload_n 2, 1, 0, 0, 0, 0), (.ireturn, 1, 0, 0, 0, 0)])]
def X_Ledger_losses : MX := (⟨"YearsForCoin$Ledger", "losses", "(Z)I"⟩, prog_4_method_12_code, 5, (some .int), 1, (5230, 1005, 5228, 5229), B_Ledger_losses)
def B_Main_poorer : MB := [(0, [(.aload_n 0, 1, 0, 0, 0, 0), (.getfield 10, 3, 0, 1, 11, 2180), (.iload_n 1, 1, 0, 0, 0, 0), (.invokevirtual 103, 3, 61, 1, 8, 3199)]),
  (8, [(.astore_n 2, 1, 0, 0, 0, 0), (.aload_n 2, 1, 0, 0, 0, 0), (.ifnonnull 7, 3, 17, 0, 0, 0)]),
  (13, [(.iconst (-1), 1, 0, 0, 0, 0), (.goto 7, 3, 21, 0, 0, 0)]),
  (17, [(.aload_n 2, 1, 0, 0, 0, 0), (.invokevirtual 330, 3, 179, 0, 1, 5235)]),
  (21, [(.ireturn, 1, 0, 0, 0, 0)])]
def X_Main_poorer : MX := (⟨"YearsForCoin", "poorer", "(I)I"⟩, prog_1_method_34_code, 3, (some .int), 1, (5234, 1001, 5232, 5233), B_Main_poorer)
def B_Land_poorerLetters : MB := [(0, [(.iconst 0, 1, 0, 0, 0, 0), (.istore_n 1, 1, 0, 0, 0, 0), (.iconst 0, 1, 0, 0, 0, 0), (.istore_n 2, 1, 0, 0, 0, 0)]),
  (4, [(.iload_n 2, 1, 0, 0, 0, 0), (.aload_n 0, 1, 0, 0, 0, 0), (.getfield 52, 3, 5, 0, 1, 1068), (.if_icmp .ge 103, 3, 112, 0, 0, 0)]),
  (12, [(.iconst 0, 1, 0, 0, 0, 0), (.istore_n 3, 1, 0, 0, 0, 0)]),
  (14, [(.iload_n 3, 1, 0, 0, 0, 0), (.aload_n 0, 1, 0, 0, 0, 0), (.getfield 52, 3, 5, 0, 1, 1068), (.if_icmp .ge 87, 3, 106, 0, 0, 0)]),
  (22, [(.aload_n 0, 1, 0, 0, 0, 0), (.getfield 31, 3, 11, 1, 1, 1083), (.iload_n 3, 1, 0, 0, 0, 0), (.iaload, 1, 0, 0, 0, 0), (.aload_n 0, 1, 0, 0, 0, 0), (.getfield 31, 3, 11, 1, 1, 1083), (.iload_n 2, 1, 0, 0, 0, 0), (.iaload, 1, 0, 0, 0, 0), (.if_icmp .ne 18, 3, 52, 0, 0, 0)]),
  (37, [(.aload_n 0, 1, 0, 0, 0, 0), (.getfield 34, 3, 12, 1, 1, 1086), (.iload_n 3, 1, 0, 0, 0, 0), (.iaload, 1, 0, 0, 0, 0), (.aload_n 0, 1, 0, 0, 0, 0), (.getfield 34, 3, 12, 1, 1, 1086), (.iload_n 2, 1, 0, 0, 0, 0), (.iaload, 1, 0, 0, 0, 0), (.if_icmp .eq 7, 3, 56, 0, 0, 0)]),
  (52, [(.iconst 1, 1, 0, 0, 0, 0), (.goto 4, 3, 57, 0, 0, 0)]),
  (56, [(.iconst 0, 1, 0, 0, 0, 0)]),
  (57, [(.istore 4, 2, 0, 0, 0, 0), (.iload 4, 2, 0, 0, 0, 0), (.ifCond .eq 39, 3, 100, 0, 0, 0)]),
  (64, [(.aload_n 0, 1, 0, 0, 0, 0), (.getfield 31, 3, 11, 1, 1, 1083), (.iload_n 3, 1, 0, 0, 0, 0), (.iaload, 1, 0, 0, 0, 0), (.aload_n 0, 1, 0, 0, 0, 0), (.getfield 31, 3, 11, 1, 1, 1083), (.iload_n 2, 1, 0, 0, 0, 0), (.iaload, 1, 0, 0, 0, 0), (.if_icmp .lt 24, 3, 100, 0, 0, 0)]),
  (79, [(.aload_n 0, 1, 0, 0, 0, 0), (.getfield 34, 3, 12, 1, 1, 1086), (.iload_n 3, 1, 0, 0, 0, 0), (.iaload, 1, 0, 0, 0, 0), (.aload_n 0, 1, 0, 0, 0, 0), (.getfield 34, 3, 12, 1, 1, 1086), (.iload_n 2, 1, 0, 0, 0, 0), (.iaload, 1, 0, 0, 0, 0), (.if_icmp .gt 9, 3, 100, 0, 0, 0)]),
  (94, [(.iload_n 1, 1, 0, 0, 0, 0), (.iconst 1, 1, 0, 0, 0, 0), (.iload_n 2, 1, 0, 0, 0, 0), (.ishl, 1, 0, 0, 0, 0), (.ior, 1, 0, 0, 0, 0), (.istore_n 1, 1, 0, 0, 0, 0)]),
  (100, [(.iinc 3 1, 3, 0, 0, 0, 0), (.goto (-89), 3, 14, 0, 0, 0)]),
  (106, [(.iinc 2 1, 3, 0, 0, 0, 0), (.goto (-105), 3, 4, 0, 0, 0)]),
  (112, [(.iload_n 1, 1, 0, 0, 0, 0), (.ireturn, 1, 0, 0, 0, 0)])]
def X_Land_poorerLetters : MX := (⟨"YearsForCoin$Land", "poorerLetters", "()I"⟩, prog_3_method_22_code, 5, (some .int), 0, (5238, 1003, 5236, 5237), B_Land_poorerLetters)
def B_Main_within : MB := [(0, [(.iload_n 1, 1, 0, 0, 0, 0), (.invokestatic 203, 3, 15, 0, 1, 4190)]),
  (4, [(.ifCond .eq 14, 3, 18, 0, 0, 0)]),
  (7, [(.iload_n 2, 1, 0, 0, 0, 0), (.ifCond .lt 10, 3, 18, 0, 0, 0)]),
  (11, [(.iload_n 2, 1, 0, 0, 0, 0), (.sipush 999, 3, 0, 0, 0, 0), (.if_icmp .le 5, 3, 20, 0, 0, 0)]),
  (18, [(.iconst (-1), 1, 0, 0, 0, 0), (.ireturn, 1, 0, 0, 0, 0)]),
  (20, [(.iconst 0, 1, 0, 0, 0, 0), (.istore_n 3, 1, 0, 0, 0, 0)]),
  (22, [(.iload_n 3, 1, 0, 0, 0, 0), (.bipush 20, 2, 0, 0, 0, 0), (.if_icmp .gt 24, 3, 49, 0, 0, 0)]),
  (28, [(.aload_n 0, 1, 0, 0, 0, 0), (.getfield 60, 3, 7, 1, 11, 2187), (.iload_n 3, 1, 0, 0, 0, 0), (.iload_n 1, 1, 0, 0, 0, 0), (.invokevirtual 206, 3, 14, 2, 3, 4191)]),
  (37, [(.iload_n 2, 1, 0, 0, 0, 0), (.if_icmp .lt 5, 3, 43, 0, 0, 0)]),
  (41, [(.iload_n 3, 1, 0, 0, 0, 0), (.ireturn, 1, 0, 0, 0, 0)]),
  (43, [(.iinc 3 1, 3, 0, 0, 0, 0), (.goto (-24), 3, 22, 0, 0, 0)]),
  (49, [(.iconst (-1), 1, 0, 0, 0, 0), (.ireturn, 1, 0, 0, 0, 0)])]
def X_Main_within : MX := (⟨"YearsForCoin", "within", "(II)I"⟩, prog_1_method_35_code, 4, (some .int), 2, (6002, 1001, 6000, 6001), B_Main_within)
def B_Main_even : MB := [(0, [(.aload_n 0, 1, 0, 0, 0, 0), (.getfield 10, 3, 0, 1, 11, 2180), (.iload_n 1, 1, 0, 0, 0, 0), (.invokevirtual 238, 3, 127, 1, 8, 5010)]),
  (8, [(.astore_n 3, 1, 0, 0, 0, 0), (.aload_n 3, 1, 0, 0, 0, 0), (.ifnull 11, 3, 21, 0, 0, 0)]),
  (13, [(.aload_n 3, 1, 0, 0, 0, 0), (.iload_n 2, 1, 0, 0, 0, 0), (.invokevirtual 260, 3, 134, 1, 0, 5058)]),
  (18, [(.ifCond .ne 9, 3, 27, 0, 0, 0)]),
  (21, [(.sipush (-1000), 3, 0, 0, 0, 0), (.goto 12, 3, 36, 0, 0, 0)]),
  (27, [(.aload_n 0, 1, 0, 0, 0, 0), (.getfield 53, 3, 6, 1, 11, 2186), (.aload_n 3, 1, 0, 0, 0, 0), (.iload_n 2, 1, 0, 0, 0, 0), (.invokevirtual 333, 3, 182, 2, 7, 6007)]),
  (36, [(.ireturn, 1, 0, 0, 0, 0)])]
def X_Main_even : MX := (⟨"YearsForCoin", "even", "(II)I"⟩, prog_1_method_36_code, 4, (some .int), 2, (6006, 1001, 6004, 6005), B_Main_even)
def B_Sharing_evenShare : MB := [(0, [(.aload_n 0, 1, 0, 0, 0, 0), (.aload_n 1, 1, 0, 0, 0, 0), (.invokevirtual 91, 3, 143, 1, 7, 6011)]),
  (5, [(.istore_n 3, 1, 0, 0, 0, 0), (.aload_n 1, 1, 0, 0, 0, 0), (.aload_n 1, 1, 0, 0, 0, 0), (.invokevirtual 25, 3, 128, 0, 0, 5030)]),
  (11, [(.invokevirtual 31, 3, 129, 1, 0, 5031)]),
  (14, [(.istore 4, 2, 0, 0, 0, 0), (.iconst 0, 1, 0, 0, 0, 0), (.istore 5, 2, 0, 0, 0, 0), (.aload_n 0, 1, 0, 0, 0, 0), (.aload_n 1, 1, 0, 0, 0, 0), (.iload_n 2, 1, 0, 0, 0, 0), (.invokevirtual 95, 3, 139, 2, 7, 6012)]),
  (25, [(.iload_n 3, 1, 0, 0, 0, 0), (.invokestatic 99, 3, 183, 0, 2, 6013)]),
  (29, [(.istore 6, 2, 0, 0, 0, 0), (.iconst 0, 1, 0, 0, 0, 0), (.istore 7, 2, 0, 0, 0, 0)]),
  (34, [(.iload 7, 2, 0, 0, 0, 0), (.aload_n 1, 1, 0, 0, 0, 0), (.getfield 35, 3, 0, 0, 0, 1168), (.if_icmp .ge 60, 3, 100, 0, 0, 0)]),
  (43, [(.aload_n 0, 1, 0, 0, 0, 0), (.aload_n 1, 1, 0, 0, 0, 0), (.iload 7, 2, 0, 0, 0, 0), (.invokevirtual 95, 3, 139, 2, 7, 6012)]),
  (50, [(.istore 8, 2, 0, 0, 0, 0), (.iload 8, 2, 0, 0, 0, 0), (.iload_n 3, 1, 0, 0, 0, 0), (.invokestatic 99, 3, 183, 0, 2, 6013)]),
  (58, [(.istore 9, 2, 0, 0, 0, 0), (.iload 4, 2, 0, 0, 0, 0), (.iload 8, 2, 0, 0, 0, 0), (.iload_n 3, 1, 0, 0, 0, 0), (.invokestatic 102, 3, 184, 0, 2, 6016)]),
  (68, [(.isub, 1, 0, 0, 0, 0), (.istore 4, 2, 0, 0, 0, 0), (.iload 9, 2, 0, 0, 0, 0), (.iload 6, 2, 0, 0, 0, 0), (.if_icmp .gt 16, 3, 91, 0, 0, 0)]),
  (78, [(.iload 9, 2, 0, 0, 0, 0), (.iload 6, 2, 0, 0, 0, 0), (.if_icmp .ne 12, 3, 94, 0, 0, 0)]),
  (85, [(.iload 7, 2, 0, 0, 0, 0), (.iload_n 2, 1, 0, 0, 0, 0), (.if_icmp .ge 6, 3, 94, 0, 0, 0)]),
  (91, [(.iinc 5 1, 3, 0, 0, 0, 0)]),
  (94, [(.iinc 7 1, 3, 0, 0, 0, 0), (.goto (-63), 3, 34, 0, 0, 0)]),
  (100, [(.aload_n 0, 1, 0, 0, 0, 0), (.aload_n 1, 1, 0, 0, 0, 0), (.iload_n 2, 1, 0, 0, 0, 0), (.invokevirtual 95, 3, 139, 2, 7, 6012)]),
  (106, [(.iload_n 3, 1, 0, 0, 0, 0), (.invokestatic 102, 3, 184, 0, 2, 6016)]),
  (110, [(.iload 5, 2, 0, 0, 0, 0), (.iload 4, 2, 0, 0, 0, 0), (.if_icmp .ge 7, 3, 121, 0, 0, 0)]),
  (117, [(.iconst 1, 1, 0, 0, 0, 0), (.goto 4, 3, 122, 0, 0, 0)]),
  (121, [(.iconst 0, 1, 0, 0, 0, 0)]),
  (122, [(.iadd, 1, 0, 0, 0, 0), (.ireturn, 1, 0, 0, 0, 0)])]
def X_Sharing_evenShare : MX := (⟨"YearsForCoin$Sharing", "evenShare", "(LYearsForCoin$Bargain;I)I"⟩, prog_9_method_12_code, 10, (some .int), 2, (6010, 1011, 6008, 6009), B_Sharing_evenShare)
def B_Math_floorMod : MB := [(0, [(.iload_n 0, 1, 0, 0, 0, 0), (.iload_n 1, 1, 0, 0, 0, 0), (.irem, 1, 0, 0, 0, 0), (.istore_n 2, 1, 0, 0, 0, 0), (.iload_n 0, 1, 0, 0, 0, 0), (.iload_n 1, 1, 0, 0, 0, 0), (.ixor, 1, 0, 0, 0, 0), (.ifCond .ge 11, 3, 18, 0, 0, 0)]),
  (10, [(.iload_n 2, 1, 0, 0, 0, 0), (.ifCond .eq 7, 3, 18, 0, 0, 0)]),
  (14, [(.iload_n 2, 1, 0, 0, 0, 0), (.iload_n 1, 1, 0, 0, 0, 0), (.iadd, 1, 0, 0, 0, 0), (.ireturn, 1, 0, 0, 0, 0)]),
  (18, [(.iload_n 2, 1, 0, 0, 0, 0), (.ireturn, 1, 0, 0, 0, 0)])]
def X_Math_floorMod : MX := (⟨"java/lang/Math", "floorMod", "(II)I"⟩, prog_16_method_50_code, 3, (some .int), 2, (6015, 1013, 6014, 0), B_Math_floorMod)
def B_Math_floorDiv : MB := [(0, [(.iload_n 0, 1, 0, 0, 0, 0), (.iload_n 1, 1, 0, 0, 0, 0), (.idiv, 1, 0, 0, 0, 0), (.istore_n 2, 1, 0, 0, 0, 0), (.iload_n 0, 1, 0, 0, 0, 0), (.iload_n 1, 1, 0, 0, 0, 0), (.ixor, 1, 0, 0, 0, 0), (.ifCond .ge 14, 3, 21, 0, 0, 0)]),
  (10, [(.iload_n 2, 1, 0, 0, 0, 0), (.iload_n 1, 1, 0, 0, 0, 0), (.imul, 1, 0, 0, 0, 0), (.iload_n 0, 1, 0, 0, 0, 0), (.if_icmp .eq 7, 3, 21, 0, 0, 0)]),
  (17, [(.iload_n 2, 1, 0, 0, 0, 0), (.iconst 1, 1, 0, 0, 0, 0), (.isub, 1, 0, 0, 0, 0), (.ireturn, 1, 0, 0, 0, 0)]),
  (21, [(.iload_n 2, 1, 0, 0, 0, 0), (.ireturn, 1, 0, 0, 0, 0)])]
def X_Math_floorDiv : MX := (⟨"java/lang/Math", "floorDiv", "(II)I"⟩, prog_16_method_47_code, 3, (some .int), 2, (6018, 1013, 6017, 0), B_Math_floorDiv)
def B_Main_count : MB := [(0, [(.iload_n 1, 1, 0, 0, 0, 0), (.ifCond .lt 8, 3, 9, 0, 0, 0)]),
  (4, [(.iload_n 1, 1, 0, 0, 0, 0), (.iconst 4, 1, 0, 0, 0, 0), (.if_icmp .lt 8, 3, 14, 0, 0, 0)]),
  (9, [(.bipush (-2), 2, 0, 0, 0, 0), (.goto 12, 3, 23, 0, 0, 0)]),
  (14, [(.aload_n 0, 1, 0, 0, 0, 0), (.getfield 10, 3, 0, 1, 11, 2180), (.getfield 92, 3, 4, 1, 8, 1187), (.iload_n 1, 1, 0, 0, 0, 0), (.iaload, 1, 0, 0, 0, 0)]),
  (23, [(.ireturn, 1, 0, 0, 0, 0)])]
def X_Main_count : MX := (⟨"YearsForCoin", "count", "(I)I"⟩, prog_1_method_37_code, 2, (some .int), 1, (6022, 1001, 6020, 6021), B_Main_count)
def B_Main_image : MB := [(0, [(.iload_n 1, 1, 0, 0, 0, 0), (.ifCond .lt 8, 3, 9, 0, 0, 0)]),
  (4, [(.iload_n 1, 1, 0, 0, 0, 0), (.iconst 3, 1, 0, 0, 0, 0), (.if_icmp .lt 5, 3, 11, 0, 0, 0)]),
  (9, [(.iconst 0, 1, 0, 0, 0, 0), (.ireturn, 1, 0, 1, 0, 0)]),
  (11, [(.aload_n 0, 1, 0, 0, 0, 0), (.getfield 16, 3, 1, 1, 11, 2181), (.iload_n 1, 1, 0, 0, 0, 0), (.aaload, 1, 0, 3, 0, 0), (.ifnonnull 16, 3, 33, 0, 0, 0)]),
  (20, [(.aload_n 0, 1, 0, 0, 0, 0), (.getfield 16, 3, 1, 1, 11, 2181), (.iload_n 1, 1, 0, 0, 0, 0), (.new 7, 3, 9, 0, 8, 1030), (.dup, 1, 0, 0, 0, 0), (.invokespecial 9, 3, 1, 0, 0, 1032)]),
  (32, [(.aastore, 1, 0, 3, 8, 0)]),
  (33, [(.aload_n 0, 1, 0, 0, 0, 0), (.getfield 16, 3, 1, 1, 11, 2181), (.iload_n 1, 1, 0, 0, 0, 0), (.aaload, 1, 0, 3, 0, 0), (.aload_n 0, 1, 0, 0, 0, 0), (.getfield 10, 3, 0, 1, 11, 2180), (.invokevirtual 336, 3, 187, 1, 8, 6027)]),
  (46, [(.iconst 1, 1, 0, 0, 0, 0), (.ireturn, 1, 0, 1, 0, 0)])]
def X_Main_image : MX := (⟨"YearsForCoin", "image", "(I)Z"⟩, prog_1_method_38_code, 2, (some .boolean), 1, (6026, 1001, 6024, 6025), B_Main_image)
def B_Told_become : MB := [(0, [(.aload_n 1, 1, 0, 0, 0, 0), (.getfield 9, 3, 0, 1, 8, 1177), (.iconst 0, 1, 0, 0, 0, 0), (.aload_n 0, 1, 0, 0, 0, 0), (.getfield 9, 3, 0, 1, 8, 1177), (.iconst 0, 1, 0, 0, 0, 0), (.sipush 600, 3, 0, 0, 0, 0), (.invokestatic 51, 3, 1, 4, 0, 6031), (.aload_n 0, 1, 0, 0, 0, 0), (.aload_n 1, 1, 0, 0, 0, 0), (.getfield 57, 3, 1, 0, 8, 1180), (.putfield 57, 3, 1, 0, 8, 1180), (.aload_n 0, 1, 0, 0, 0, 0), (.aload_n 1, 1, 0, 0, 0, 0), (.getfield 60, 3, 2, 0, 8, 1182), (.putfield 60, 3, 2, 0, 8, 1182), (.aload_n 0, 1, 0, 0, 0, 0), (.aload_n 1, 1, 0, 0, 0, 0), (.getfield 15, 3, 3, 0, 8, 1184), (.putfield 15, 3, 3, 0, 8, 1184), (.aload_n 1, 1, 0, 0, 0, 0), (.getfield 19, 3, 4, 1, 8, 1186), (.iconst 0, 1, 0, 0, 0, 0), (.aload_n 0, 1, 0, 0, 0, 0), (.getfield 19, 3, 4, 1, 8, 1186), (.iconst 0, 1, 0, 0, 0, 0), (.iconst 4, 1, 0, 0, 0, 0), (.invokestatic 51, 3, 0, 4, 0, 6031), (.iconst 0, 1, 0, 0, 0, 0), (.istore_n 2, 1, 0, 0, 0, 0)]),
  (56, [(.iload_n 2, 1, 0, 0, 0, 0), (.iconst 2, 1, 0, 0, 0, 0), (.if_icmp .ge 69, 3, 127, 0, 0, 0)]),
  (61, [(.aload_n 0, 1, 0, 0, 0, 0), (.getfield 25, 3, 5, 1, 8, 1188), (.iload_n 2, 1, 0, 0, 0, 0), (.aaload, 1, 0, 4, 0, 0), (.aload_n 1, 1, 0, 0, 0, 0), (.getfield 25, 3, 5, 1, 8, 1188), (.iload_n 2, 1, 0, 0, 0, 0), (.aaload, 1, 0, 4, 0, 0), (.invokevirtual 63, 3, 55, 1, 1, 6032)]),
  (76, [(.aload_n 0, 1, 0, 0, 0, 0), (.getfield 31, 3, 6, 1, 8, 1190), (.iload_n 2, 1, 0, 0, 0, 0), (.aaload, 1, 0, 5, 0, 0), (.aload_n 1, 1, 0, 0, 0, 0), (.getfield 31, 3, 6, 1, 8, 1190), (.iload_n 2, 1, 0, 0, 0, 0), (.aaload, 1, 0, 5, 0, 0), (.invokevirtual 67, 3, 56, 1, 6, 6033)]),
  (91, [(.aload_n 0, 1, 0, 0, 0, 0), (.getfield 37, 3, 7, 1, 8, 1192), (.iload_n 2, 1, 0, 0, 0, 0), (.aaload, 1, 0, 6, 0, 0), (.aload_n 1, 1, 0, 0, 0, 0), (.getfield 37, 3, 7, 1, 8, 1192), (.iload_n 2, 1, 0, 0, 0, 0), (.aaload, 1, 0, 6, 0, 0), (.invokevirtual 70, 3, 57, 1, 2, 6034)]),
  (106, [(.aload_n 0, 1, 0, 0, 0, 0), (.getfield 43, 3, 8, 1, 8, 1194), (.iload_n 2, 1, 0, 0, 0, 0), (.aaload, 1, 0, 7, 0, 0), (.aload_n 1, 1, 0, 0, 0, 0), (.getfield 43, 3, 8, 1, 8, 1194), (.iload_n 2, 1, 0, 0, 0, 0), (.aaload, 1, 0, 7, 0, 0), (.invokevirtual 73, 3, 58, 1, 0, 6035)]),
  (121, [(.iinc 2 1, 3, 0, 0, 0, 0), (.goto (-68), 3, 56, 0, 0, 0)]),
  (127, [(.return_, 1, 0, 0, 0, 0)])]
def X_Told_become : MX := (⟨"YearsForCoin$Told", "become", "(LYearsForCoin$Told;)V"⟩, prog_10_method_2_code, 3, none, 1, (6030, 1002, 6028, 6029), B_Told_become)
def B_Main_again : MB := [(0, [(.iload_n 1, 1, 0, 0, 0, 0), (.ifCond .lt 17, 3, 18, 0, 0, 0)]),
  (4, [(.iload_n 1, 1, 0, 0, 0, 0), (.iconst 3, 1, 0, 0, 0, 0), (.if_icmp .ge 12, 3, 18, 0, 0, 0)]),
  (9, [(.aload_n 0, 1, 0, 0, 0, 0), (.getfield 16, 3, 1, 1, 11, 2181), (.iload_n 1, 1, 0, 0, 0, 0), (.aaload, 1, 0, 3, 0, 0), (.ifnonnull 5, 3, 20, 0, 0, 0)]),
  (18, [(.iconst 0, 1, 0, 0, 0, 0), (.ireturn, 1, 0, 1, 0, 0)]),
  (20, [(.aload_n 0, 1, 0, 0, 0, 0), (.getfield 10, 3, 0, 1, 11, 2180), (.aload_n 0, 1, 0, 0, 0, 0), (.getfield 16, 3, 1, 1, 11, 2181), (.iload_n 1, 1, 0, 0, 0, 0), (.aaload, 1, 0, 3, 0, 0), (.invokevirtual 336, 3, 187, 1, 8, 6027)]),
  (33, [(.iconst 1, 1, 0, 0, 0, 0), (.ireturn, 1, 0, 1, 0, 0)])]
def X_Main_again : MX := (⟨"YearsForCoin", "again", "(I)Z"⟩, prog_1_method_39_code, 2, (some .boolean), 1, (6039, 1001, 6037, 6038), B_Main_again)
