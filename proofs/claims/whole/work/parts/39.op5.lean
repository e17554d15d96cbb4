/-! OPERATIONS: count, fault, end, deed, bargain -/
section M39
variable {rod : Nat → Nat × (Nat → Int32)} {d : Nat} {h : MH} {a l : Nat}
theorem op_count (x : Int32) : OpI INV rod 185 300 [x] := by
  refine OpI.mk fun h hI => ?_
  have L := hI.lay
  refine ⟨if 0 ≤ x.toInt ∧ x.toInt ≤ 3 then h.1 3 x.toNatClampNeg else -2, ?_, fun h1 I1 K1 => ?_⟩
  · refine n_Main_count ?_
    refine w_Main_count_0 (fun c0 => ?_) (fun c0 => ?_)
    · try simp only [ite01t, ite01v, Int32.reduceToInt, t_m1, t_m2, t_m1000, Decidable.not_not] at c0
      refine w_Main_count_9 ?_
      refine w_Main_count_23 ?_
      exact ⟨by first | rw [if_pos (by omega)] | rw [if_neg (by omega)], Keep.rfl⟩
    · try simp only [ite01t, ite01v, Int32.reduceToInt, t_m1, t_m2, t_m1000, Decidable.not_not] at c0
      refine w_Main_count_4 (fun c4 => ?_) (fun c4 => ?_)
      · try simp only [ite01t, ite01v, Int32.reduceToInt, t_m1, t_m2, t_m1000, Decidable.not_not] at c4
        refine w_Main_count_14 L (by first | assumption | omega | (refine ⟨?_, ?_⟩ <;> first | assumption | omega)) ?_
        refine w_Main_count_23 ?_
        exact ⟨by first | rw [if_pos (by omega)] | rw [if_neg (by omega)], Keep.rfl⟩
      · try simp only [ite01t, ite01v, Int32.reduceToInt, t_m1, t_m2, t_m1000, Decidable.not_not] at c4
        refine w_Main_count_9 ?_
        refine w_Main_count_23 ?_
        exact ⟨by first | rw [if_pos (by omega)] | rw [if_neg (by omega)], Keep.rfl⟩
  · have L1 := I1.lay
    refine n_Model_count ?_
    refine w_Model_count_0 (Tc.wc (s_isIn _ _ _ _)) (Is.k ?_)
    refine w_Model_count_6 (fun c6 => ?_) (fun c6 => ?_)
    · try simp only [ite01t, ite01v, Int32.reduceToInt, t_m1, t_m2, t_m1000, Decidable.not_not] at c6
      refine w_Model_count_18 ?_
      refine w_Model_count_20 ?_
      refine ⟨?_, Keep.rfl⟩
      first | rw [if_neg (by omega)] | (rw [if_pos (by omega), ← K1.c 3 (by omega), (I1.many x.toNatClampNeg (n_lt (by omega) (by omega))).1])
    · try simp only [ite01t, ite01v, Int32.reduceToInt, t_m1, t_m2, t_m1000, Decidable.not_not] at c6
      refine w_Model_count_9 L1 (by first | assumption | omega | (refine ⟨?_, ?_⟩ <;> first | assumption | omega)) ?_
      refine w_Model_count_20 ?_
      refine ⟨?_, Keep.rfl⟩
      first | rw [if_neg (by omega)] | (rw [if_pos (by omega), ← K1.c 3 (by omega), (I1.many x.toNatClampNeg (n_lt (by omega) (by omega))).1])
theorem op_fault (x : Int32) : OpI INV rod 59 217 [x] := by
  refine OpI.mk fun h hI => ?_
  have L := hI.lay
  refine ⟨if x.toInt = 0 then h.1 1 2 else if x.toInt = 1 then h.1 1 3 else -1, ?_, fun h1 I1 K1 => ?_⟩
  · refine n_Main_fault ?_
    refine w_Main_fault_0 (fun c0 => ?_) (fun c0 => ?_) (fun c0_0 c0_1 => ?_)
    · refine w_Main_fault_28 L ?_
      exact ⟨by first | rw [if_pos (show x.toInt = 0 from c0)] | rw [if_neg (by omega), if_pos (show x.toInt = 1 from c0)] | rw [if_neg (by omega), if_neg (by omega)], Keep.rfl⟩
    · refine w_Main_fault_36 L ?_
      exact ⟨by first | rw [if_pos (show x.toInt = 0 from c0)] | rw [if_neg (by omega), if_pos (show x.toInt = 1 from c0)] | rw [if_neg (by omega), if_neg (by omega)], Keep.rfl⟩
    · refine w_Main_fault_44 ?_
      exact ⟨by first | rw [if_pos (show x.toInt = 0 from c0)] | rw [if_neg (by omega), if_pos (show x.toInt = 1 from c0)] | rw [if_neg (by omega), if_neg (by omega)], Keep.rfl⟩
  · have L1 := I1.lay
    refine n_Model_fault ?_
    refine w_Model_fault_0 (fun c0 => ?_) (fun c0 => ?_)
    · try simp only [ite01t, ite01v, Int32.reduceToInt, t_m1, t_m2, t_m1000, Decidable.not_not] at c0
      refine w_Model_fault_13 (fun c13 => ?_) (fun c13 => ?_)
      · try simp only [ite01t, ite01v, Int32.reduceToInt, t_m1, t_m2, t_m1000, Decidable.not_not] at c13
        refine w_Model_fault_28 ?_
        refine w_Model_fault_29 ?_
        refine ⟨?_, Keep.rfl⟩
        first | (rw [if_pos c0]; rw [← K1.c 1 (by omega), I1.rel.2.1]; rfl) | (rw [if_neg (by omega), if_pos c13]; rw [← K1.c 1 (by omega), I1.rel.2.2.1]; rfl) | rw [if_neg (by omega), if_neg (by omega)]
      · try simp only [ite01t, ite01v, Int32.reduceToInt, t_m1, t_m2, t_m1000, Decidable.not_not] at c13
        refine w_Model_fault_18 L1 ?_
        refine w_Model_fault_29 ?_
        refine ⟨?_, Keep.rfl⟩
        first | (rw [if_pos c0]; rw [← K1.c 1 (by omega), I1.rel.2.1]; rfl) | (rw [if_neg (by omega), if_pos c13]; rw [← K1.c 1 (by omega), I1.rel.2.2.1]; rfl) | rw [if_neg (by omega), if_neg (by omega)]
    · try simp only [ite01t, ite01v, Int32.reduceToInt, t_m1, t_m2, t_m1000, Decidable.not_not] at c0
      refine w_Model_fault_4 L1 ?_
      refine w_Model_fault_29 ?_
      refine ⟨?_, Keep.rfl⟩
      first | (rw [if_pos c0]; rw [← K1.c 1 (by omega), I1.rel.2.1]; rfl) | (rw [if_neg (by omega), if_pos c13]; rw [← K1.c 1 (by omega), I1.rel.2.2.1]; rfl) | rw [if_neg (by omega), if_neg (by omega)]
theorem op_end (x : Int32) : OpI INV rod 18 191 [x] := by
  intro h hI
  have L := hI.lay
  have r1 : h.1 1 1 = h.1 85 4 := hI.rel.1
  by_cases c : 0 ≤ x.toInt ∧ x.toInt ≤ (h.1 1 1).toInt
  · have g1 : gO (sI h 1 1 x) (some 84) 22 = true := Lay.o84 (h := sI h 1 1 x) L
    refine ⟨x, sI h 1 1 x, sI (sI h 1 1 x) 85 4 x, g1, ?_, ?_, ?_⟩
    · have q : Wc rod 99 18 [.inr (.inr (.inl (some 0))), .inl x] h (fun r h' => r = some (.inl x) ∧ h' = sI h 1 1 x) := by
        refine n_Main_end ?_
        refine w_Main_end_0 (fun c0 => ?_) (fun c0 => ?_)
        · try simp only [ite01t, ite01v, Int32.reduceToInt, t_m1, t_m2, t_m1000, Decidable.not_not] at c0
          refine w_Main_end_15 ?_
          first | (exfalso; omega) | exact ⟨rfl, rfl⟩
        · try simp only [ite01t, ite01v, Int32.reduceToInt, t_m1, t_m2, t_m1000, Decidable.not_not] at c0
          refine w_Main_end_4 L (fun c4 => ?_) (fun c4 => ?_)
          · try simp only [ite01t, ite01v, Int32.reduceToInt, t_m1, t_m2, t_m1000, Decidable.not_not] at c4
            refine w_Main_end_17 L ?_
            refine w_Main_end_25 ?_
            first | (exfalso; omega) | exact ⟨rfl, rfl⟩
          · try simp only [ite01t, ite01v, Int32.reduceToInt, t_m1, t_m2, t_m1000, Decidable.not_not] at c4
            refine w_Main_end_15 ?_
            first | (exfalso; omega) | exact ⟨rfl, rfl⟩
      obtain ⟨r, hr, k, rfl, rfl⟩ := q
      exact k
    · have L1 : Lay (sI h 1 1 x).2 := L
      have r2 : ((sI h 1 1 x).1 85 (4 : Int32).toNatClampNeg).toInt = (h.1 1 1).toInt := by rw [r1, sI_nc (by omega)]; rfl
      have q : Wc rod 99 191 [.inr (.inr (.inl (some 84))), .inl x] (sI h 1 1 x) (fun r h' => r = some (.inl x) ∧ h' = sI (sI h 1 1 x) 85 4 x) := by
        refine n_Model_end ?_
        refine w_Model_end_0 (fun c0 => ?_) (fun c0 => ?_)
        · try simp only [ite01t, ite01v, Int32.reduceToInt, t_m1, t_m2, t_m1000, Decidable.not_not] at c0
          refine w_Model_end_14 ?_
          first | (exfalso; omega) | exact ⟨rfl, rfl⟩
        · try simp only [ite01t, ite01v, Int32.reduceToInt, t_m1, t_m2, t_m1000, Decidable.not_not] at c0
          refine w_Model_end_4 L1 (fun c4 => ?_) (fun c4 => ?_)
          · try simp only [ite01t, ite01v, Int32.reduceToInt, t_m1, t_m2, t_m1000, Decidable.not_not] at c4
            have c4 := c4
            refine w_Model_end_16 L1 ?_
            refine w_Model_end_23 ?_
            first | (exfalso; omega) | exact ⟨rfl, rfl⟩
          · try simp only [ite01t, ite01v, Int32.reduceToInt, t_m1, t_m2, t_m1000, Decidable.not_not] at c4
            have c4 := c4
            refine w_Model_end_14 ?_
            first | (exfalso; omega) | exact ⟨rfl, rfl⟩
      obtain ⟨r, hr, k, rfl, rfl⟩ := q
      exact k
    · have b := hI.rel.2.2.2.1
      refine hI.tape rfl (fun c h1 h2 h3 h4 => funext fun j => ?_) (fun j hj => ?_) ?_ ?_ ?_ ?_ (fun p hp => ?_)
      · simp (disch := omega) only [sI_same, sI_nc, sI_nj]
      · simp (disch := omega) only [sI_same, sI_nc, sI_nj]
      · simp (disch := omega) only [sI_same, sI_nc, sI_nj]
      · simp (disch := omega) only [sI_same, sI_nc, sI_nj]; exact hI.rel.2.1
      · simp (disch := omega) only [sI_same, sI_nc, sI_nj]; exact hI.rel.2.2.1
      · simp (disch := omega) only [sI_same, sI_nc, sI_nj]; exact ⟨c.1, Int.le_trans c.2 b.2⟩
      · have hp : (p : Int) < x.toInt := by have := hp; rw [sI_nc (by omega), sI_same] at this; exact this
        have q := hI.rel.2.2.2.2.2.1 p (by omega)
        simp only [Nat.zero_add] at q
        simp (disch := omega) only [sI_same, sI_nc, sI_nj]
        exact q
  · refine ⟨-1, h, h, INV_g84 hI, ?_, ?_, hI⟩
    · apply Wc.tc
      refine n_Main_end ?_
      refine w_Main_end_0 (fun c0 => ?_) (fun c0 => ?_)
      · try simp only [ite01t, ite01v, Int32.reduceToInt, t_m1, t_m2, t_m1000, Decidable.not_not] at c0
        refine w_Main_end_15 ?_
        first | (exfalso; omega) | exact ⟨rfl, rfl⟩
      · try simp only [ite01t, ite01v, Int32.reduceToInt, t_m1, t_m2, t_m1000, Decidable.not_not] at c0
        refine w_Main_end_4 L (fun c4 => ?_) (fun c4 => ?_)
        · try simp only [ite01t, ite01v, Int32.reduceToInt, t_m1, t_m2, t_m1000, Decidable.not_not] at c4
          refine w_Main_end_17 L ?_
          refine w_Main_end_25 ?_
          first | (exfalso; omega) | exact ⟨rfl, rfl⟩
        · try simp only [ite01t, ite01v, Int32.reduceToInt, t_m1, t_m2, t_m1000, Decidable.not_not] at c4
          refine w_Main_end_15 ?_
          first | (exfalso; omega) | exact ⟨rfl, rfl⟩
    · have r2 : (h.1 85 (4 : Int32).toNatClampNeg).toInt = (h.1 1 1).toInt := by rw [r1]; rfl
      apply Wc.tc
      refine n_Model_end ?_
      refine w_Model_end_0 (fun c0 => ?_) (fun c0 => ?_)
      · try simp only [ite01t, ite01v, Int32.reduceToInt, t_m1, t_m2, t_m1000, Decidable.not_not] at c0
        refine w_Model_end_14 ?_
        first | (exfalso; omega) | exact ⟨rfl, rfl⟩
      · try simp only [ite01t, ite01v, Int32.reduceToInt, t_m1, t_m2, t_m1000, Decidable.not_not] at c0
        refine w_Model_end_4 L (fun c4 => ?_) (fun c4 => ?_)
        · try simp only [ite01t, ite01v, Int32.reduceToInt, t_m1, t_m2, t_m1000, Decidable.not_not] at c4
          refine w_Model_end_16 L ?_
          refine w_Model_end_23 ?_
          first | (exfalso; omega) | exact ⟨rfl, rfl⟩
        · try simp only [ite01t, ite01v, Int32.reduceToInt, t_m1, t_m2, t_m1000, Decidable.not_not] at c4
          refine w_Model_end_14 ?_
          first | (exfalso; omega) | exact ⟨rfl, rfl⟩
theorem s_hasDeed (AS : SeasonA h.2 a) (x : Int32) : Tc rod (d + 1) 73 [.inr (.inr (.inl (some a))), .inl x] h (some (.inl (if 0 ≤ x.toInt ∧ x.toInt < (h.1 a 0).toInt then 1 else 0))) h := by
  apply Wc.tc
  refine n_Season_hasDeed ?_
  refine w_Season_hasDeed_0 (fun c0 => ?_) (fun c0 => ?_)
  · try simp only [ite01t, ite01v, Int32.reduceToInt, t_m1, t_m2, t_m1000, Decidable.not_not] at c0
    refine w_Season_hasDeed_16 ?_
    refine w_Season_hasDeed_17 (by first | exact Or.inl rfl | exact Or.inr rfl | exact or01 | assumption) ?_
    exact ⟨by first | (exfalso; omega) | rw [if_pos (by omega)] | rw [if_neg (by omega)], rfl⟩
  · try simp only [ite01t, ite01v, Int32.reduceToInt, t_m1, t_m2, t_m1000, Decidable.not_not] at c0
    refine w_Season_hasDeed_4 AS (fun c4 => ?_) (fun c4 => ?_)
    · try simp only [ite01t, ite01v, Int32.reduceToInt, t_m1, t_m2, t_m1000, Decidable.not_not] at c4
      refine w_Season_hasDeed_16 ?_
      refine w_Season_hasDeed_17 (by first | exact Or.inl rfl | exact Or.inr rfl | exact or01 | assumption) ?_
      exact ⟨by first | (exfalso; omega) | rw [if_pos (by omega)] | rw [if_neg (by omega)], rfl⟩
    · try simp only [ite01t, ite01v, Int32.reduceToInt, t_m1, t_m2, t_m1000, Decidable.not_not] at c4
      refine w_Season_hasDeed_12 ?_
      refine w_Season_hasDeed_17 (by first | exact Or.inl rfl | exact Or.inr rfl | exact or01 | assumption) ?_
      exact ⟨by first | (exfalso; omega) | rw [if_pos (by omega)] | rw [if_neg (by omega)], rfl⟩
theorem s_sToldOf (AS : SeasonA h.2 a) (hD : (h.1 a 0).toInt ≤ 40) (x w : Int32) : Tc rod (d + 2) 74 [.inr (.inr (.inl (some a))), .inl x, .inl w] h (some (.inl (if (0 ≤ x.toInt ∧ x.toInt < (h.1 a 0).toInt) ∧ 0 ≤ w.toInt ∧ w.toInt ≤ 2 then h.1 (a + 1 + w.toNatClampNeg) x.toNatClampNeg else -2))) h := by
  apply Wc.tc
  refine n_Season_toldOf ?_
  refine w_Season_toldOf_0 AS (Tc.wc (s_hasDeed AS _)) (Is.k ?_)
  refine w_Season_toldOf_5 (fun c5 => ?_) (fun c5 => ?_)
  · try simp only [ite01t, ite01v, Int32.reduceToInt, t_m1, t_m2, t_m1000, Decidable.not_not] at c5
    refine w_Season_toldOf_11 (fun c11 => ?_) (fun c11 => ?_) (fun c11 => ?_) (fun c11_0 c11_1 c11_2 => ?_)
    · refine w_Season_toldOf_40 AS (by first | assumption | omega | (refine ⟨?_, ?_⟩ <;> first | assumption | omega)) ?_
      exact ⟨by first | rw [if_neg (by omega)] | rw [if_pos (by omega), n_eq (x := w) (show w.toInt = ((0 : Nat) : Int) from c11)] | rw [if_pos (by omega), n_eq (x := w) (show w.toInt = ((1 : Nat) : Int) from c11)] | rw [if_pos (by omega), n_eq (x := w) (show w.toInt = ((2 : Nat) : Int) from c11)], rfl⟩
    · refine w_Season_toldOf_47 AS (by first | assumption | omega | (refine ⟨?_, ?_⟩ <;> first | assumption | omega)) ?_
      exact ⟨by first | rw [if_neg (by omega)] | rw [if_pos (by omega), n_eq (x := w) (show w.toInt = ((0 : Nat) : Int) from c11)] | rw [if_pos (by omega), n_eq (x := w) (show w.toInt = ((1 : Nat) : Int) from c11)] | rw [if_pos (by omega), n_eq (x := w) (show w.toInt = ((2 : Nat) : Int) from c11)], rfl⟩
    · refine w_Season_toldOf_54 AS (by first | assumption | omega | (refine ⟨?_, ?_⟩ <;> first | assumption | omega)) ?_
      exact ⟨by first | rw [if_neg (by omega)] | rw [if_pos (by omega), n_eq (x := w) (show w.toInt = ((0 : Nat) : Int) from c11)] | rw [if_pos (by omega), n_eq (x := w) (show w.toInt = ((1 : Nat) : Int) from c11)] | rw [if_pos (by omega), n_eq (x := w) (show w.toInt = ((2 : Nat) : Int) from c11)], rfl⟩
    · refine w_Season_toldOf_61 ?_
      exact ⟨by first | rw [if_neg (by omega)] | rw [if_pos (by omega), n_eq (x := w) (show w.toInt = ((0 : Nat) : Int) from c11)] | rw [if_pos (by omega), n_eq (x := w) (show w.toInt = ((1 : Nat) : Int) from c11)] | rw [if_pos (by omega), n_eq (x := w) (show w.toInt = ((2 : Nat) : Int) from c11)], rfl⟩
  · try simp only [ite01t, ite01v, Int32.reduceToInt, t_m1, t_m2, t_m1000, Decidable.not_not] at c5
    refine w_Season_toldOf_8 ?_
    exact ⟨by first | rw [if_neg (by omega)] | rw [if_pos (by omega), n_eq (x := w) (show w.toInt = ((0 : Nat) : Int) from c11)] | rw [if_pos (by omega), n_eq (x := w) (show w.toInt = ((1 : Nat) : Int) from c11)] | rw [if_pos (by omega), n_eq (x := w) (show w.toInt = ((2 : Nat) : Int) from c11)], rfl⟩
theorem s_hasParty (A : BargA h.2 a) (x : Int32) : Tc rod (d + 1) 134 [.inr (.inr (.inl (some a))), .inl x] h (some (.inl (if 0 ≤ x.toInt ∧ x.toInt < (h.1 a 0).toInt then 1 else 0))) h := by
  apply Wc.tc
  refine n_Bargain_hasParty ?_
  refine w_Bargain_hasParty_0 (fun c0 => ?_) (fun c0 => ?_)
  · try simp only [ite01t, ite01v, Int32.reduceToInt, t_m1, t_m2, t_m1000, Decidable.not_not] at c0
    refine w_Bargain_hasParty_16 ?_
    refine w_Bargain_hasParty_17 (by first | exact Or.inl rfl | exact Or.inr rfl | exact or01 | assumption) ?_
    exact ⟨by first | (exfalso; omega) | rw [if_pos (by omega)] | rw [if_neg (by omega)], rfl⟩
  · try simp only [ite01t, ite01v, Int32.reduceToInt, t_m1, t_m2, t_m1000, Decidable.not_not] at c0
    refine w_Bargain_hasParty_4 A (fun c4 => ?_) (fun c4 => ?_)
    · try simp only [ite01t, ite01v, Int32.reduceToInt, t_m1, t_m2, t_m1000, Decidable.not_not] at c4
      refine w_Bargain_hasParty_16 ?_
      refine w_Bargain_hasParty_17 (by first | exact Or.inl rfl | exact Or.inr rfl | exact or01 | assumption) ?_
      exact ⟨by first | (exfalso; omega) | rw [if_pos (by omega)] | rw [if_neg (by omega)], rfl⟩
    · try simp only [ite01t, ite01v, Int32.reduceToInt, t_m1, t_m2, t_m1000, Decidable.not_not] at c4
      refine w_Bargain_hasParty_12 ?_
      refine w_Bargain_hasParty_17 (by first | exact Or.inl rfl | exact Or.inr rfl | exact or01 | assumption) ?_
      exact ⟨by first | (exfalso; omega) | rw [if_pos (by omega)] | rw [if_neg (by omega)], rfl⟩
theorem s_worthOf (A : BargA h.2 a) (x : Int32) : Tc rod (d + 1) 129 [.inr (.inr (.inl (some a))), .inl x] h (some (.inl (if 0 ≤ x.toInt ∧ x.toInt < 16 then h.1 (a + 1) x.toNatClampNeg else 0))) h := by
  apply Wc.tc
  refine n_Bargain_worthOf ?_
  refine w_Bargain_worthOf_0 (fun c0 => ?_) (fun c0 => ?_)
  · try simp only [ite01t, ite01v, Int32.reduceToInt, t_m1, t_m2, t_m1000, Decidable.not_not] at c0
    refine w_Bargain_worthOf_19 ?_
    refine w_Bargain_worthOf_20 ?_
    exact ⟨by first | (exfalso; omega) | rw [if_pos (by omega)] | rw [if_neg (by omega)], rfl⟩
  · try simp only [ite01t, ite01v, Int32.reduceToInt, t_m1, t_m2, t_m1000, Decidable.not_not] at c0
    refine w_Bargain_worthOf_4 (fun c4 => ?_) (fun c4 => ?_)
    · try simp only [ite01t, ite01v, Int32.reduceToInt, t_m1, t_m2, t_m1000, Decidable.not_not] at c4
      refine w_Bargain_worthOf_19 ?_
      refine w_Bargain_worthOf_20 ?_
      exact ⟨by first | (exfalso; omega) | rw [if_pos (by omega)] | rw [if_neg (by omega)], rfl⟩
    · try simp only [ite01t, ite01v, Int32.reduceToInt, t_m1, t_m2, t_m1000, Decidable.not_not] at c4
      refine w_Bargain_worthOf_10 A (by first | assumption | omega | (refine ⟨?_, ?_⟩ <;> first | assumption | omega)) ?_
      refine w_Bargain_worthOf_20 ?_
      exact ⟨by first | (exfalso; omega) | rw [if_pos (by omega)] | rw [if_neg (by omega)], rfl⟩
theorem s_everybody (A : BargA h.2 a) : Tc rod (d + 1) 128 [.inr (.inr (.inl (some a)))] h (some (.inl ((1 : Int32) <<< (h.1 a 0 &&& 31) - 1))) h := by
  apply Wc.tc
  refine n_Bargain_everybody ?_
  refine w_Bargain_everybody_0 A ?_
  exact ⟨rfl, rfl⟩
theorem s_seasonAt1 (hI : INV h) {k : Int32} (hk : 0 ≤ k.toInt ∧ k.toInt < (h.1 3 1).toInt) : Tc rod (d + 2) 72 [.inr (.inr (.inl (some 1))), .inl k] h (some (.inr (.inr (.inl (some (17 + 18 * k.toNatClampNeg)))))) h := by
  have q := s_seasonAt (rod := rod) (d := d) hI k
  rw [if_pos hk] at q
  exact q
theorem s_seasonAt0 (hI : INV h) {k : Int32} (hk : ¬ (0 ≤ k.toInt ∧ k.toInt < (h.1 3 1).toInt)) : Tc rod (d + 2) 72 [.inr (.inr (.inl (some 1))), .inl k] h (some (.inr (.inr (.inl none)))) h := by
  have q := s_seasonAt (rod := rod) (d := d) hI k
  rw [if_neg hk] at q
  exact q
theorem INV.seasonK (hI : INV h) {x : Int32} (hx : 0 ≤ x.toInt ∧ x.toInt < (h.1 3 1).toInt) : SeasonA h.2 (17 + 18 * x.toNatClampNeg) ∧ SeasonRel h (17 + 18 * x.toNatClampNeg) (790 + 121 * x.toNatClampNeg) ∧ x.toNatClampNeg < 2 := by
  have q := hI.many 1 (by omega)
  have e := n_of hx.1
  have t := hI.season x.toNatClampNeg (by omega)
  exact ⟨t.1, t.2.1, by omega⟩
theorem s_ledgerAt1 (hI : INV h) {k : Int32} (hk : 0 ≤ k.toInt ∧ k.toInt < (h.1 3 2).toInt) : Tc rod (d + 2) 116 [.inr (.inr (.inl (some 1))), .inl k] h (some (.inr (.inr (.inl (some (21 + 18 * k.toNatClampNeg)))))) h := by
  have q := s_ledgerAt (rod := rod) (d := d) hI k
  rw [if_pos hk] at q
  exact q
theorem s_ledgerAt0 (hI : INV h) {k : Int32} (hk : ¬ (0 ≤ k.toInt ∧ k.toInt < (h.1 3 2).toInt)) : Tc rod (d + 2) 116 [.inr (.inr (.inl (some 1))), .inl k] h (some (.inr (.inr (.inl none)))) h := by
  have q := s_ledgerAt (rod := rod) (d := d) hI k
  rw [if_neg hk] at q
  exact q
theorem INV.ledgerK (hI : INV h) {x : Int32} (hx : 0 ≤ x.toInt ∧ x.toInt < (h.1 3 2).toInt) : LedgerA h.2 (21 + 18 * x.toNatClampNeg) ∧ LedgerRel h (21 + 18 * x.toNatClampNeg) (1032 + 41 * x.toNatClampNeg) ∧ x.toNatClampNeg < 2 := by
  have q := hI.many 2 (by omega)
  have e := n_of hx.1
  have t := hI.ledger x.toNatClampNeg (by omega)
  exact ⟨t.1, t.2.1, by omega⟩
theorem s_bargainAt1 (hI : INV h) {k : Int32} (hk : 0 ≤ k.toInt ∧ k.toInt < (h.1 3 3).toInt) : Tc rod (d + 2) 127 [.inr (.inr (.inl (some 1))), .inl k] h (some (.inr (.inr (.inl (some (24 + 18 * k.toNatClampNeg)))))) h := by
  have q := s_bargainAt (rod := rod) (d := d) hI k
  rw [if_pos hk] at q
  exact q
theorem s_bargainAt0 (hI : INV h) {k : Int32} (hk : ¬ (0 ≤ k.toInt ∧ k.toInt < (h.1 3 3).toInt)) : Tc rod (d + 2) 127 [.inr (.inr (.inl (some 1))), .inl k] h (some (.inr (.inr (.inl none)))) h := by
  have q := s_bargainAt (rod := rod) (d := d) hI k
  rw [if_neg hk] at q
  exact q
theorem INV.bargK (hI : INV h) {x : Int32} (hx : 0 ≤ x.toInt ∧ x.toInt < (h.1 3 3).toInt) : BargA h.2 (24 + 18 * x.toNatClampNeg) ∧ BargRel h (24 + 18 * x.toNatClampNeg) (1114 + 16 * x.toNatClampNeg) ∧ x.toNatClampNeg < 2 := by
  have q := hI.many 3 (by omega)
  have e := n_of hx.1
  have t := hI.barg x.toNatClampNeg (by omega)
  exact ⟨t.1, t.2.1, by omega⟩
theorem s_isSeason1 (hI : INV h) (x : Int32) (k : Nat) (ex : x.toInt = (k : Int)) (hk : (k : Int) < (h.1 3 1).toInt) : Wc rod (d + 3) 230 [.inr (.inr (.inl (some 84))), .inl x] h (fun r h' => r = some (.inl 1) ∧ Keep h h' ∧ (∀ j, j ≠ 20 → h'.1 84 j = h.1 84 j) ∧ (h'.1 84 20).toInt = ((790 + 121 * k : Nat) : Int)) := by
  have L := hI.lay
  have q := hI.many 1 (by omega)
  have e := (n_add (show (790 : Int32).toInt = ((790 : Nat) : Int) from rfl) (n_mul (show (121 : Int32).toInt = ((121 : Nat) : Int) from rfl) ex (by omega)) (by omega))
  refine n_Model_isSeason ?_
  refine w_Model_isSeason_0 L (Tc.wc (s_isOf hI _ _ 1 rfl (by omega))) (Is.k ?_)
  refine w_Model_isSeason_6 (fun c6 => ?_) (fun c6 => (by exfalso; simp only [ite01t] at c6; omega))
  try simp only [ite01t, ite01v, Int32.reduceToInt, t_m1, t_m2, t_m1000, Decidable.not_not] at c6
  refine w_Model_isSeason_11 (Tc.wc (s_place1 _ _)) (Is.k ?_)
  refine w_Model_isSeason_17 L ?_
  refine w_Model_isSeason_20 ?_
  refine ⟨rfl, Keep.rfl.si (scrI 84 (by omega)), fun j hj => sI_nj hj, ?_⟩
  rw [sI_same]; exact e
theorem s_isSeason0 (hI : INV h) (x : Int32) (hk : ¬ (0 ≤ x.toInt ∧ x.toInt < (h.1 3 1).toInt)) : Tc rod (d + 3) 230 [.inr (.inr (.inl (some 84))), .inl x] h (some (.inl (0))) h := by
  have L := hI.lay
  apply Wc.tc
  refine n_Model_isSeason ?_
  refine w_Model_isSeason_0 L (Tc.wc (s_isOf hI _ _ 1 rfl (by omega))) (Is.k ?_)
  refine w_Model_isSeason_6 (fun c6 => (by exfalso; simp only [ite01t] at c6; omega)) (fun c6 => ?_)
  try simp only [ite01t, ite01v, Int32.reduceToInt, t_m1, t_m2, t_m1000, Decidable.not_not] at c6
  refine w_Model_isSeason_9 ?_
  exact ⟨rfl, rfl⟩
theorem s_isLedger1 (hI : INV h) (x : Int32) (k : Nat) (ex : x.toInt = (k : Int)) (hk : (k : Int) < (h.1 3 2).toInt) : Wc rod (d + 3) 275 [.inr (.inr (.inl (some 84))), .inl x] h (fun r h' => r = some (.inl 1) ∧ Keep h h' ∧ (∀ j, j ≠ 38 → h'.1 84 j = h.1 84 j) ∧ (h'.1 84 38).toInt = ((1032 + 41 * k : Nat) : Int)) := by
  have L := hI.lay
  have q := hI.many 2 (by omega)
  have e := (n_add (show (1032 : Int32).toInt = ((1032 : Nat) : Int) from rfl) (n_mul (show (41 : Int32).toInt = ((41 : Nat) : Int) from rfl) ex (by omega)) (by omega))
  refine n_Model_isLedger ?_
  refine w_Model_isLedger_0 L (Tc.wc (s_isOf hI _ _ 2 rfl (by omega))) (Is.k ?_)
  refine w_Model_isLedger_6 (fun c6 => ?_) (fun c6 => (by exfalso; simp only [ite01t] at c6; omega))
  try simp only [ite01t, ite01v, Int32.reduceToInt, t_m1, t_m2, t_m1000, Decidable.not_not] at c6
  refine w_Model_isLedger_11 (Tc.wc (s_place2 _ _)) (Is.k ?_)
  refine w_Model_isLedger_17 L ?_
  refine w_Model_isLedger_20 ?_
  refine ⟨rfl, Keep.rfl.si (scrI 84 (by omega)), fun j hj => sI_nj hj, ?_⟩
  rw [sI_same]; exact e
theorem s_isLedger0 (hI : INV h) (x : Int32) (hk : ¬ (0 ≤ x.toInt ∧ x.toInt < (h.1 3 2).toInt)) : Tc rod (d + 3) 275 [.inr (.inr (.inl (some 84))), .inl x] h (some (.inl (0))) h := by
  have L := hI.lay
  apply Wc.tc
  refine n_Model_isLedger ?_
  refine w_Model_isLedger_0 L (Tc.wc (s_isOf hI _ _ 2 rfl (by omega))) (Is.k ?_)
  refine w_Model_isLedger_6 (fun c6 => (by exfalso; simp only [ite01t] at c6; omega)) (fun c6 => ?_)
  try simp only [ite01t, ite01v, Int32.reduceToInt, t_m1, t_m2, t_m1000, Decidable.not_not] at c6
  refine w_Model_isLedger_9 ?_
  exact ⟨rfl, rfl⟩
def MBarg (h : MH) (a l : Nat) : Prop := BargRel h a l ∧ l ≤ 1130 ∧ (h.1 84 42).toInt = (l : Int) ∧ h.1 84 43 = h.1 a 0
theorem s_isBargain1 (hI : INV h) (x : Int32) (k : Nat) (ex : x.toInt = (k : Int)) (hk : (k : Int) < (h.1 3 3).toInt) : Wc rod (d + 3) 282 [.inr (.inr (.inl (some 84))), .inl x] h (fun r h' => r = some (.inl 1) ∧ Keep h h' ∧ MBarg h' (24 + 18 * k) (1114 + 16 * k)) := by
  have L := hI.lay
  have q := hI.many 3 (by omega)
  have r := (hI.barg k hk).2.1
  have e := (n_add (show (1114 : Int32).toInt = ((1114 : Nat) : Int) from rfl) (n_mul (show (16 : Int32).toInt = ((16 : Nat) : Int) from rfl) ex (by omega)) (by omega))
  refine n_Model_isBargain ?_
  refine w_Model_isBargain_0 L (Tc.wc (s_isOf hI _ _ 3 rfl (by omega))) (Is.k ?_)
  refine w_Model_isBargain_6 (fun c6 => ?_) (fun c6 => (by exfalso; simp only [ite01t] at c6; omega))
  try simp only [ite01t, ite01v, Int32.reduceToInt, t_m1, t_m2, t_m1000, Decidable.not_not] at c6
  refine w_Model_isBargain_11 (Tc.wc (s_place3 _ _)) (Is.k ?_)
  refine w_Model_isBargain_17 L ?_
  refine w_Model_isBargain_20 L (by simp (disch := omega) only [sI_same, sI_nc, sI_nj]; rw [e]; omega) ?_
  refine w_Model_isBargain_33 ?_
  refine ⟨rfl, (Keep.rfl.si (scrI 84 (by omega))).si (scrI 84 (by omega)), ?_⟩
  refine ⟨r.keep (fun c h1 h2 => funext fun j => by simp (disch := omega) only [sI_same, sI_nc, sI_nj]) (funext fun j => by simp (disch := omega) only [sI_same, sI_nc, sI_nj]), by omega, ?_, ?_⟩
  · simp (disch := omega) only [sI_same, sI_nc, sI_nj]; exact e
  · simp (disch := omega) only [sI_same, sI_nc, sI_nj]; rw [n_eq e]; exact r.1.symm
theorem s_isBargain0 (hI : INV h) (x : Int32) (hk : ¬ (0 ≤ x.toInt ∧ x.toInt < (h.1 3 3).toInt)) : Tc rod (d + 3) 282 [.inr (.inr (.inl (some 84))), .inl x] h (some (.inl (0))) h := by
  have L := hI.lay
  apply Wc.tc
  refine n_Model_isBargain ?_
  refine w_Model_isBargain_0 L (Tc.wc (s_isOf hI _ _ 3 rfl (by omega))) (Is.k ?_)
  refine w_Model_isBargain_6 (fun c6 => (by exfalso; simp only [ite01t] at c6; omega)) (fun c6 => ?_)
  try simp only [ite01t, ite01v, Int32.reduceToInt, t_m1, t_m2, t_m1000, Decidable.not_not] at c6
  refine w_Model_isBargain_9 ?_
  exact ⟨rfl, rfl⟩
end M39
