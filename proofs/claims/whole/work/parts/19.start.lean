/-! THE LAW OUT OF A RUN OF THE SMALL MACHINE -/
def roL (j : Nat) : List Int32 := match j with
  | 0 => [0, 10, 17, 21, 23]
  | 1 => [4, 4, 4, 4, 3, 2, 1, 1, 1, 1, 2, 2, 1, 1, 1, 0, 0, 1, 1, 1, 1, 1, 2]
  | 2 => [0, 0, 0, 0, 0, 0, 0, 0, 0, 0, 0, 0, 0, 0, 0, 0, 0, 0, 1, 0, 1, 0, 0, 0, 1, 0, 0, 0, 0, 0, 0, 0, 0, 0, 0, 0, 0, 0, 0, 0, 0, 0, 0, 0, 0, 1, 0, 0, 0, 0, 0, 0, 0, 0, 0, 0, 0, 0, 0, 0, 0, 0, 0, 0, 0, 0, 0, 0, 0, 0, 0, 0, 0, 0, 0, 0, 0, 0, 0, 0, 0, 0, 0, 0, 1, 0, 0, 0, 1, 0, 0, 0]
  | 3 => [5, 99, 99, 9, 5, 99, 99, 9, 5, 99, 99, 9, 5, 99, 99, 9, 5, 5, 9, 0, 60, 60, 0, 0, 6, 0, 0, 0, 5, 0, 0, 0, 5, 0, 0, 0, 5, 0, 0, 0, 7, 3, 0, 0, 7, 60, 0, 0, 5, 0, 0, 0, 5, 0, 0, 0, 5, 0, 0, 0, 0, 0, 0, 0, 0, 0, 0, 0, 99, 0, 0, 0, 99, 0, 0, 0, 99, 0, 0, 0, 5, 0, 0, 0, 4, 0, 0, 0, 15, 40, 0, 0]
  | 4 => [1, 1, 2, 6, 24]
  | _ => (strA (j - 100)).2.2
def mRod (L : Nat) (xs : Nat → Int32) (z : Nat) (j : Nat) : Nat × (Nat → Int32) := if j = 5 then (L, xs) else if j = 6 then (z, fun _ => 0) else ((roL j).length, fun i => (roL j).getD i 0)
def mH0 : MH := (fun _ _ => 0, fun _ _ => none, [])
/-- WHAT IS LEFT TO SHOW: on every script the small machine's law answers 1, in room -/
def LawRuns : Prop := ∀ (L : Nat) (xs : Nat → Int32) (z : Nat), L ≤ 3072 → ∃ (F n : Nat) (hF : MH), lp (mRod L xs z) (mcall (mRod L xs z) (mtOf MTX) F 99) BL n 0 [some (mO 5), none, none, none] [] mH0 = some (some (mI 1), hF) ∧ hF.2.2.length ≤ 600000 ∧ slo hF.2.2 ≤ 7302250
def tmS (j : Nat) : Term := .static (roF j).1 (roF j).2 "[I"
def reqS (j : Nat) : List Cond := Cond.arrayOf (tmS j) .int :: Cond.eq (.length (tmS j)) (.int (Int32.ofNat (roL j).length)) :: (List.range (roL j).length).map (fun i => Cond.eq (.elem (tmS j) (.int (Int32.ofNat i))) (.int ((roL j).getD i 0)))
def tmT (j : Nat) : Term := .string "YearsForCoin$Reader" (strA j).1
def tmV (j : Nat) : Term := .field (tmT j) "java/lang/String" "value" "[B"
def reqT (j : Nat) : List Cond := Cond.exactly (tmT j) "java/lang/String" :: Cond.eq (.field (tmT j) "java/lang/String" "coder" "B") (.int 0) :: Cond.arrayOf (tmV j) .byte :: Cond.eq (.length (tmV j)) (.int (Int32.ofNat (strA j).2.2.length)) :: (List.range (strA j).2.2.length).map (fun i => Cond.eq (.elem (tmV j) (.int (Int32.ofNat i))) (.int ((strA j).2.2.getD i 0)))
def reqZ : List Cond := [Cond.eq (.static "java/lang/String" "COMPACT_STRINGS" "Z") (.int 1), Cond.isRef (.static "jdk/internal/util/Preconditions" "SIOOBE_FORMATTER" "Ljava/util/function/BiFunction;")]
def reqAll : List Cond := (List.range 5).flatMap reqS ++ ((List.range 22).flatMap (fun i => reqT (10 + i)) ++ reqZ)
def gvC : List Cond := flatC (Jvm.Cond.and given_1 narrow_1)
def posAll : List Nat := [5, 6, 7, 8, 9, 10, 11, 18, 19, 20, 21, 22, 23, 24, 25, 26, 27, 28, 29, 30, 31, 32, 33, 34, 35, 36, 37, 38, 39, 40, 41, 42, 44, 45, 46, 47, 48, 49, 50, 51, 52, 53, 54, 55, 56, 57, 58, 59, 60, 61, 62, 63, 64, 65, 66, 67, 68, 69, 70, 71, 72, 73, 74, 75, 76, 77, 78, 79, 80, 81, 82, 83, 84, 85, 86, 87, 88, 89, 90, 91, 92, 93, 94, 95, 96, 97, 98, 99, 100, 101, 102, 103, 104, 105, 106, 107, 108, 109, 110, 111, 112, 113, 114, 115, 116, 117, 118, 119, 120, 121, 122, 123, 124, 125, 126, 127, 128, 129, 130, 131, 132, 133, 134, 135, 136, 137, 139, 140, 141, 142, 143, 144, 145, 146, 147, 148, 149, 150, 151, 152, 153, 154, 155, 156, 157, 158, 159, 160, 161, 162, 163, 164, 165, 166, 167, 168, 169, 170, 171, 172, 173, 174, 175, 176, 177, 178, 179, 180, 181, 182, 183, 184, 185, 186, 187, 188, 189, 190, 191, 192, 193, 194, 195, 196, 197, 198, 199, 200, 201, 202, 203, 204, 205, 206, 207, 208, 209, 210, 211, 212, 213, 214, 215, 216, 217, 218, 219, 220, 221, 222, 223, 224, 225, 226, 227, 228, 229, 230, 231, 232, 234, 235, 236, 237, 238, 239, 240, 306, 307, 308, 309, 310, 311, 312, 313, 314, 315, 316, 317, 318, 319, 320, 321, 322, 323, 325, 326, 327, 328, 329, 330, 331, 332, 333, 336, 337, 338, 339, 340, 341, 342, 343, 344, 345, 346, 350, 351, 352, 353, 354, 355, 356, 357, 362, 363, 364, 365, 366, 367, 368, 369, 370, 371, 377, 378, 379, 380, 381, 382, 383, 384, 385, 392, 393, 394, 395, 396, 397, 398, 399, 407, 408, 409, 410, 411, 412, 413, 414, 423, 424, 425, 426, 427, 428, 429, 430, 431, 441, 442, 443, 444, 445, 446, 447, 448, 459, 460, 461, 462, 463, 464, 465, 477, 478, 479, 480, 481, 482, 495, 496, 497, 498, 499, 500, 501, 502, 516, 517, 518, 519, 520, 521, 522, 523, 524, 539, 540, 541, 542, 543, 544, 545, 546, 547, 548, 549, 565, 566, 567, 568, 569, 570, 587, 588, 589, 590, 591, 592, 593, 611, 612, 613, 614, 615, 616, 617, 618, 619, 638, 639, 640, 641, 642, 643, 644, 664, 665, 666, 667, 668, 669, 670, 671, 672, 673, 674, 695, 696, 697, 698, 699, 700, 701, 702, 703, 12, 13]
def chkP : List Cond → List Nat → Bool
  | [], _ => true
  | _ :: _, [] => false
  | c :: r, p :: q => decide (gvC[p]? = some c) && chkP r q
set_option maxRecDepth 100000 in
set_option maxHeartbeats 4000000 in
theorem req_ok : chkP reqAll posAll = true := by decide +kernel
theorem chkP_in : ∀ (l : List Cond) (p : List Nat), chkP l p = true → ∀ c ∈ l, c ∈ gvC := by
  intro l
  induction l with
  | nil => intro p _ c hc; cases hc
  | cons a r ih =>
    intro p h c hc
    cases p with
    | nil => cases h
    | cons q s =>
      simp only [chkP, Bool.and_eq_true, decide_eq_true_eq] at h
      rcases List.mem_cons.mp hc with rfl | hc
      · exact List.mem_of_getElem? h.1
      · exact ih s h.2 c hc
theorem req_in : ∀ c ∈ reqAll, c ∈ gvC := chkP_in _ _ req_ok
theorem reqS_in {j : Nat} (hj : j < 5) : ∀ c ∈ reqS j, c ∈ gvC := fun c hc => req_in c (List.mem_append_left _ (List.mem_flatMap.mpr ⟨j, List.mem_range.mpr hj, hc⟩))
theorem reqT_in {j : Nat} (h1 : 10 ≤ j) (h2 : j < 32) : ∀ c ∈ reqT j, c ∈ gvC := fun c hc => req_in c (List.mem_append_right _ (List.mem_append_left _ (List.mem_flatMap.mpr ⟨j - 10, List.mem_range.mpr (by omega), by rw [show 10 + (j - 10) = j by omega]; exact hc⟩)))
theorem reqZ_in : ∀ c ∈ reqZ, c ∈ gvC := fun c hc => req_in c (List.mem_append_right _ (List.mem_append_right _ hc))
set_option maxRecDepth 20000 in
theorem lay_S : ∀ j, j < 5 → Cond.laysStatic (roF j).1 (roF j).2 "[I" ∈ lw_tbl ∧ Cond.initialized (roF j).1 ∈ lw_tbl := by decide +kernel
set_option maxRecDepth 20000 in
theorem lay_Z : Cond.laysStatic "java/lang/String" "COMPACT_STRINGS" "Z" ∈ lw_tbl ∧ Cond.initialized "java/lang/String" ∈ lw_tbl ∧ Cond.laysStatic "jdk/internal/util/Preconditions" "SIOOBE_FORMATTER" "Ljava/util/function/BiFunction;" ∈ lw_tbl ∧ Cond.initialized "jdk/internal/util/Preconditions" ∈ lw_tbl := by decide +kernel
set_option maxRecDepth 20000 in
theorem str_T : ∀ i, i < 22 → Cond.stringRef "YearsForCoin$Reader" (strA (10 + i)).1 (strA (10 + i)).2.1 ∈ lw_tbl := by decide +kernel
theorem len_S : ∀ j, j < 5 → (roL j).length < 2 ^ 31 := by decide +kernel
theorem len_T : ∀ i, i < 22 → (strA (10 + i)).2.2.length < 2 ^ 31 := by decide +kernel
theorem mTb_of {s : State} {A : Array Value} (h : ∀ w ∈ mtbl, w.before A s = true) : mTb s := by
  intro w hw a
  have hk := (List.mem_filter.mp hw).2
  have h0 := h w hw
  simp only [kept, Bool.or_eq_true] at hk
  rcases hk with hk | hk
  · exact word_at (State.WarmedH.refl s) (good_of_word hk) h0
  · split at hk
    · exact va_Nw.use rfl (va_Nw.of rfl h0)
    · exact va_AO.use (va_AO.of h0)
    · cases hk
theorem W_mono {p : Program} {l : Launch} {e : Env} {R : Room} {s : State} {m : MethodId} {args : Array Value} {below : List Frame} {meth : Method} {c : Code} {H : Heap} {locs : List Loc} {cells slots : Nat} {Q Q' : State → Prop} {g : JFrame} (k : W p l e R s m args below meth c H locs cells slots Q g) (h : ∀ t, Q t → Q' t) : W p l e R s m args below meth c H locs cells slots Q' g := by
  intro T hT X
  obtain ⟨t, a, b⟩ := k T hT X
  exact ⟨t, a, h t b⟩
def R_law : String := "YearsForCoinLaw"
def lw_P (b : Addr) (xs : List Int32) (args : Array Value) (s : State) : Prop := args = #[.ref b] ∧ s.IntsAt b xs ∧ xs.length ≤ 3072 ∧ (Jvm.Cond.and given_1 narrow_1).before args s = true
def lw_Q (_ : Array Value) (s : State) (o : Outcome) (t : State) : Prop := o = .returned (some (.int 1)) ∧ Framed s o t [] 600000 7302250
def lw_Z (below : List Frame) (a : Array Value) (s : State) : State → Prop := fun t => ∃ o, t.status = .running ∧ Ended t below o ∧ lw_Q a s o t
/-- the law's own end, with 1 on the stack, nothing written that was there before, its room as the claim has it -/
theorem lw_ret {p : Program} {l : Launch} {e : Env} {s : State} {m : MethodId} {below : List Frame} {meth : Method} {c : Code} {b : Nat} (hx : p.tables.exec = Jvm.exec) (hb : c.code = code) (hr : meth.sig.returnType = ret) (hlocks : meth.locks = false) {pc : Nat} {H : Heap} {ls : Array Slot} (hdg : decode code pc = .ok (.ireturn, 1)) : W p l e room_1 s m #[Value.ref b] below meth c H [] 600000 7302250 (lw_Z below #[Value.ref b] s) (F0 m pc ls [.int 1]) := by
  intro T hT X
  obtain ⟨fs, hret, hrun, hended, hW, hframe⟩ := X.leave (v := some (.int 1)) (hlocks := hlocks) (fun h => by rw [hr] at h; cases h)
  have hmeth' : T.vm.method? m = some meth := X.method'
  refine ⟨T.setFrames fs, ?_, .returned (some (.int 1)), hrun, hended, rfl, ⟨_, rfl⟩, hW, hframe⟩
  jvm_step X.here [X.here.top, hx, hb, hdg, hmeth', hr, ret, narrow_b1]
  (try refine ⟨rfl, ?_⟩); (try refine ⟨rfl, ?_⟩)
  first | (intro acts; rw [hret _ acts rfl rfl rfl]) | rw [hret _ _ rfl rfl rfl]
  exact Steps.refl _
/-- what holds at the law's entry: the machine, the code, the tables' words (any of lw_tbl by 'hts w (by decide +kernel)'), the script of L ints xs at the cell b, what the Statement gives of the start (any of its parts by flat_of_before) -/
def lw_At (p : Program) (s : State) (m : MethodId) (meth : Method) (c : Code) (b L : Nat) (xs : Nat → Int32) : Prop :=
  p.tables.exec = Jvm.exec ∧ c.code = code ∧ meth.sig.returnType = ret ∧ c.maxLocals = 4 ∧ s.vm.findClass R_law = some m.cls ∧ (∀ w ∈ lw_tbl, w.before #[Value.ref b] s = true) ∧ va_X b L xs s s.heap ∧ b < s.heap.size ∧ meth.locks = false ∧ (Jvm.Cond.and given_1 narrow_1).before #[Value.ref b] s = true
set_option maxHeartbeats 4000000 in
/-- the read-only cells at the law's start -/
theorem ro_start {s : State} {b L : Nat} {xs : Nat → Int32} (hts : ∀ w ∈ lw_tbl, w.before #[Value.ref b] s = true) (hX : va_X b L xs s s.heap) (hbl : b < s.heap.size) (hL : L ≤ 3072) (hgv : (Jvm.Cond.and given_1 narrow_1).before #[Value.ref b] s = true) : ∃ (roa : Nat → Nat) (z : Nat), roa 5 = b ∧ roI s.heap.size roa (mRod L xs z) s := by
  have hs : ∀ c ∈ gvC, c.before #[Value.ref b] s = true := flat_of_before _ hgv
  have hA : ∀ a : Nat, a < s.heap.size → ¬ (fun q : Nat => s.heap.size ≤ q) a := fun a h => Nat.not_le.mpr h
  have hS : ∀ j, ∃ t : Nat, j < 5 → (tmS j).eval #[Value.ref b] s none [] s = some (.ref t) ∧ va_T .int t (roL j).length (fun i => .int ((roL j).getD i 0)) (fun q : Nat => s.heap.size ≤ q) s s.heap := by
    intro j
    by_cases hj : j < 5
    · have hq := reqS_in hj
      obtain ⟨t, ht, hT⟩ := va_Tof (tm := tmS j) (ty := .int) (N := (roL j).length) (f := fun i => .int ((roL j).getD i 0)) (len_S j hj) (hs _ (hq _ List.mem_cons_self)) (va_eqt (hs _ (hq _ (List.mem_cons_of_mem _ List.mem_cons_self)))) (fun i hi => va_eqt (hs _ (hq _ (List.mem_cons_of_mem _ (List.mem_cons_of_mem _ (List.mem_map.mpr ⟨i, List.mem_range.mpr hi, rfl⟩)))))) hA
      exact ⟨t, fun _ => ⟨ht, hT⟩⟩
    · exact ⟨0, fun h => absurd h hj⟩
  obtain ⟨tS, hS⟩ := Classical.axiomOfChoice hS
  have hT : ∀ j, ∃ q : Nat × Nat, 10 ≤ j → j < 32 → (tmT j).eval #[Value.ref b] s none [] s = some (.ref q.1) ∧ va_O "java/lang/String" q.1 (fun q : Nat => s.heap.size ≤ q) s s.heap ∧ va_OF "java/lang/String" "coder" "B" (.int 0) q.1 (fun q : Nat => s.heap.size ≤ q) s s.heap ∧ va_OF "java/lang/String" "value" "[B" (.ref q.2) q.1 (fun q : Nat => s.heap.size ≤ q) s s.heap ∧ va_T .byte q.2 (strA j).2.2.length (fun i => .int ((strA j).2.2.getD i 0)) (fun q : Nat => s.heap.size ≤ q) s s.heap := by
    intro j
    by_cases hj : 10 ≤ j ∧ j < 32
    · obtain ⟨h1, h2⟩ := hj
      have hq := reqT_in h1 h2
      have hln := len_T (j - 10) (by omega)
      rw [show 10 + (j - 10) = j by omega] at hln
      obtain ⟨a, c, cA, kA, q1, q2, q3, q4, q5, q6, -⟩ := Cond.exactly_spec (args := #[Value.ref b]) (first := s) (o := none) (s := s) (idx := []) (t := tmT j) (cls := "java/lang/String") (hs _ (hq _ List.mem_cons_self))
      obtain ⟨t, ht, hT⟩ := va_Tof (tm := tmV j) (ty := .byte) (N := (strA j).2.2.length) (f := fun i => .int ((strA j).2.2.getD i 0)) hln (hs _ (hq _ (List.mem_cons_of_mem _ (List.mem_cons_of_mem _ List.mem_cons_self)))) (va_eqt (hs _ (hq _ (List.mem_cons_of_mem _ (List.mem_cons_of_mem _ (List.mem_cons_of_mem _ List.mem_cons_self)))))) (fun i hi => va_eqt (hs _ (hq _ (List.mem_cons_of_mem _ (List.mem_cons_of_mem _ (List.mem_cons_of_mem _ (List.mem_cons_of_mem _ (List.mem_map.mpr ⟨i, List.mem_range.mpr hi, rfl⟩)))))))) hA
      exact ⟨(a, t), fun _ _ => ⟨q1, ⟨cA, q3, q5, by rw [q6]; exact q2, hA a (Array.getElem?_eq_some_iff.mp q3).1⟩, vk_OFof q1 (va_eqt (hs _ (hq _ (List.mem_cons_of_mem _ List.mem_cons_self)))) hA, vk_OFof q1 ht hA, hT⟩⟩
    · exact ⟨(0, 0), fun h1 h2 => absurd ⟨h1, h2⟩ hj⟩
  obtain ⟨tT, hT⟩ := Classical.axiomOfChoice hT
  have hC := va_Zof (A := fun q : Nat => s.heap.size ≤ q) (hts _ lay_Z.1) (hts _ lay_Z.2.1) (va_eqi (hs _ (reqZ_in _ List.mem_cons_self))) hA
  have hQ := va_Zqof (A := fun q : Nat => s.heap.size ≤ q) (hts _ lay_Z.2.2.1) (hts _ lay_Z.2.2.2) (hs _ (reqZ_in _ (List.mem_cons_of_mem _ List.mem_cons_self))) hA
  have key : ∀ (t6 z : Nat), va_Z "jdk/internal/util/Preconditions" "SIOOBE_FORMATTER" "Ljava/util/function/BiFunction;" (if z = 0 then .null else .ref t6) (fun q : Nat => s.heap.size ≤ q) s s.heap → ∃ (roa : Nat → Nat) (z : Nat), roa 5 = b ∧ roI s.heap.size roa (mRod L xs z) s := by
    intro t6 z h6
    refine ⟨fun j => if j < 5 then tS j else if j = 5 then b else if j = 6 then t6 else if j < 100 then (tT j).1 else (tT (j - 100)).2, z, rfl, ?_, ?_, hC, ?_, ?_⟩
    · intro j hj
      simp only [hj, if_true]
      exact va_Zref (hts _ (lay_S j hj).1) (hts _ (lay_S j hj).2) (hS j hj).1 hA
    · intro j hj
      by_cases h5 : j = 5
      · subst h5
        obtain ⟨scr, x1, x2, x3, x4, x5⟩ := hX
        refine ⟨scr, x1, x2, x3, by rw [x4]; exact Nat.le_refl _, by rw [x4]; rfl, fun i hi => x5 i hi, hA b hbl⟩
      · have hj5 : j < 5 := by omega
        simp only [hj5, if_true]
        have e1 : mRod L xs z j = ((roL j).length, fun i => (roL j).getD i 0) := by
          unfold mRod
          rw [if_neg h5, if_neg (by omega)]
        rw [e1]
        exact (hS j hj5).2
    · have e1 : mRod L xs z 6 = (z, fun _ => 0) := rfl
      unfold sio
      rw [e1]
      by_cases hz : z = 0
      · rw [if_pos hz] at h6
        rw [if_pos hz]
        exact h6
      · rw [if_neg hz] at h6
        rw [if_neg hz]
        exact h6
    · intro j h1 h2
      obtain ⟨g1, g2, g3, g4, g5⟩ := hT j h1 h2
      have e1 : mRod L xs z (j + 100) = ((strA j).2.2.length, fun i => (strA j).2.2.getD i 0) := by
        unfold mRod
        rw [if_neg (by omega), if_neg (by omega)]
        have e2 : roL (j + 100) = (strA j).2.2 := by
          unfold roL
          split
          · omega
          · omega
          · omega
          · omega
          · omega
          · rw [Nat.add_sub_cancel]
        rw [e2]
      have hw := str_T (j - 10) (by omega)
      rw [show 10 + (j - 10) = j by omega] at hw
      rw [e1]
      simp only [show ¬ j < 5 by omega, show ¬ j = 5 by omega, show ¬ j = 6 by omega, show j < 100 by omega, show ¬ j + 100 < 5 by omega, show ¬ j + 100 = 5 by omega, show ¬ j + 100 = 6 by omega, show ¬ j + 100 < 100 by omega, if_true, if_false, Nat.add_sub_cancel]
      exact ⟨vk_R.of (A := #[]) (by have := hts _ hw; exact this) (by have := g1; exact this), g2, g3, g4, g5⟩
  rcases hQ with hQ | ⟨t6, hQ⟩
  · exact key 0 0 hQ
  · exact key t6 1 hQ
set_option maxHeartbeats 4000000 in
/-- the law's walk, out of a run of the small machine -/
theorem whole_of_run (hrun : LawRuns) {p : Program} {e : Env} {s : State} {m : MethodId} {below : List Frame} {meth : Method} {c : Code} (l : Launch) {b L : Nat} {xs : Nat → Int32} (hL : L ≤ 3072) (C0 : lw_At p s m meth c b L xs) : W p l e room_1 s m #[Value.ref b] below meth c s.heap [] 0 0 (lw_Z below #[Value.ref b] s) (entryFrame m ([Value.ref b] : List Value).toArray 4) := by
  obtain ⟨hx, hb, hr, hml, hown, hts, hX, hbl, hlocks, hgv⟩ := C0
  have htm : ∀ w ∈ mtbl, w.before #[Value.ref b] s = true := fun w hw => hts w (List.mem_filter.mp hw).1
  have hcl : ∀ k : Nat, ∃ cf : ClassId × (Nat → Nat), ∀ q, classes[k]? = some q → u_Kn s q.1 q.2.1 q.2.2 cf.1 cf.2 := by
    intro k
    cases hk : classes[k]? with
    | none => exact ⟨(m.cls, fun _ => 0), fun q h => by cases h⟩
    | some q =>
      obtain ⟨C, T, N⟩ := q
      obtain ⟨c, f, h⟩ := u_known htm (cl_ok k C T N hk).1 (hts _ (cl_new k C T N hk).1)
      exact ⟨(c, f), fun q hq => by cases hq; exact h⟩
  obtain ⟨cf, hcf⟩ := Classical.axiomOfChoice hcl
  have hprim : ∀ ty : FieldType, Cond.arrayClass ty ∈ lw_tbl → (∀ n, ty ≠ .object n) → ∃ c : ClassId, ArrOfT s c ty ∧ va_RA s c ty := by
    intro ty hm hn
    obtain ⟨c, k, comp, h1, h2, h3⟩ := Cond.arrayClass_spec (hts _ hm)
    refine ⟨c, fun n z => ⟨fun _ h => (by cases h), k, h2, comp, h3⟩, ?_⟩
    cases ty with
    | object n => exact absurd rfl (hn n)
    | _ => exact h1
  have hobj : ∀ C : String, Cond.arrayOver (.object C) ∈ lw_tbl → ∃ c : ClassId, ArrOfT s c (.object C) ∧ va_RA s c (.object C) := by
    intro C hm
    obtain ⟨comp, c, k, h1, h2, h3, h4, h5⟩ := Cond.arrayOver_spec (hts _ hm)
    exact ⟨c, fun n z => ⟨fun _ h => (by cases h), k, h3, comp, h4⟩, k, comp, h3, h4, h1, h5⟩
  obtain ⟨a0, ha0⟩ := hprim .int aX_prim.1 (fun n h => by cases h)
  obtain ⟨a1, ha1⟩ := hprim .byte aX_prim.2.1 (fun n h => by cases h)
  obtain ⟨a2, ha2⟩ := hprim .boolean aX_prim.2.2 (fun n h => by cases h)
  obtain ⟨a3, ha3⟩ := hobj (arrN 3) (aX_arr (by omega) (by omega))
  obtain ⟨a4, ha4⟩ := hobj (arrN 4) (aX_arr (by omega) (by omega))
  obtain ⟨a5, ha5⟩ := hobj (arrN 5) (aX_arr (by omega) (by omega))
  obtain ⟨a6, ha6⟩ := hobj (arrN 6) (aX_arr (by omega) (by omega))
  obtain ⟨a7, ha7⟩ := hobj (arrN 7) (aX_arr (by omega) (by omega))
  obtain ⟨cA, hcA⟩ : ∃ cA : Nat → ClassId, tysA cA = [(a0, .int), (a1, .byte), (a2, .boolean), (a3, .object (arrN 3)), (a4, .object (arrN 4)), (a5, .object (arrN 5)), (a6, .object (arrN 6)), (a7, .object (arrN 7))] :=
    ⟨fun k => match k with
      | 0 => a0
      | 1 => a1
      | 2 => a2
      | 3 => a3
      | 4 => a4
      | 5 => a5
      | 6 => a6
      | _ => a7, rfl⟩
  have hK : va_K ((fun k => (cf k).1), (fun k => (cf k).2)) classes (tysA cA) s := by
    refine ⟨fun k q hq => hcf k q hq, fun k q hq => ?_⟩
    rw [hcA] at hq
    match k, hq with
    | 0, hq => cases hq; exact ha0
    | 1, hq => cases hq; exact ha1
    | 2, hq => cases hq; exact ha2
    | 3, hq => cases hq; exact ha3
    | 4, hq => cases hq; exact ha4
    | 5, hq => cases hq; exact ha5
    | 6, hq => cases hq; exact ha6
    | 7, hq => cases hq; exact ha7
    | k + 8, hq => simp at hq
  obtain ⟨roa, z, hroa, hRO⟩ := ro_start hts hX hbl hL hgv
  obtain ⟨F, n, hF, hlp, hb1, hb2⟩ := hrun L xs z hL
  have cx : mCX p room_1 s m #[Value.ref b] meth c (fun k => (cf k).1) (fun k => (cf k).2) cA s.heap.size roa (mRod L xs z) "YearsForCoinLaw" false code hF.2.2.length (slo hF.2.2) 0 0 :=
    ⟨hx, hb, hown, htm, hK, hRO, fun h => Bool.noConfusion h, rfl, Nat.le_of_ble_eq_true rfl, Nat.le_of_ble_eq_true rfl, by show hF.2.2.length ≤ 0 + 600000; omega, by show slo hF.2.2 ≤ 0 + 7302250; omega⟩
  rw [lg_entry_eq]
  have hl := lv_entry ([.ref b]) (n := 4) (Nat.le_of_ble_eq_true rfl)
  generalize (lg_sl ([Value.ref b]) ++ List.replicate (4 - (lg_sl ([Value.ref b])).length) Slot.unset).toArray = ls at hl ⊢
  have hl2 : lv_has ls 4 (lv_args 0 (([mO 5] : List MV).map (rv s.heap.size roa))) := by
    have e1 : ([mO 5] : List MV).map (rv s.heap.size roa) = [.ref b] := by rw [← hroa]; rfl
    rw [e1]
    exact hl
  obtain ⟨hlen, hlr⟩ := inL_rel (as := [mO 5]) (n := 4) (by decide) hl2
  have hw := lp_sound (p := p) (l := l) (e := e) (below := below) (nL := 4) (ret := some .boolean) (d := 99) (mc := hF.2.2.length) (ms := slo hF.2.2) (rF := some (mI 1)) (hF := hF) cx (mTb_of htm) hr hlocks (fun y X h => by
      have := MTX_ok y X h
      simp only [ckM, Bool.and_eq_true] at this
      exact this.1) (Nat.le_of_ble_eq_true rfl) (Nat.le_of_ble_eq_true rfl) (Nat.zero_add _) (Nat.zero_add _) BL_ok (fun y as h r h' hh => mcall_sound MTX_ok 99 y as h r h' hh) n 0 (inL [mO 5] 4) [] mH0 hlp s.heap [] 0 0 _ hlen hml (fun k q h => by simp [rW, mH0] at h) va_S.rf hlr rfl rfl (fun q hq => by cases hq)
  refine W_mono hw (fun t ht => ?_)
  obtain ⟨o, h1, h2, ⟨h3, -, -, -⟩, Lc, ⟨h4, h5, h6⟩, h7⟩ := ht
  subst h3
  exact ⟨_, h1, h2, rfl, h4, h5, h6.weaken (fun x hx hlt => absurd (h7 x hx) (Nat.not_le.mpr hlt)) hb1 hb2⟩
