/-! SMALL METHODS OF BOTH: is there such a one, where it lies -/
section S29
variable {rod : Nat → Nat × (Nat → Int32)} {d : Nat} {h h' : MH}
theorem INV.main (hI : INV h) : MainAt h := hI.2.1
theorem INV.mod (hI : INV h) : ModelAt h := hI.2.2.1
theorem INV.rel (hI : INV h) : TRel h 1 0 := hI.2.2.2.1
theorem INV.told (hI : INV h) : ToldAt h 1 := hI.2.1.2.2.2.2.2.2.2.2.2.1
theorem INV.f0 (hI : INV h) : h.2.1 0 0 = some 1 := hI.2.1.2.1
theorem INV.f1 (hI : INV h) : h.2.1 0 1 = some 44 := hI.2.1.2.2.1
theorem INV.f2 (hI : INV h) : h.2.1 0 2 = some 45 := hI.2.1.2.2.2.1
theorem INV.f3 (hI : INV h) : h.2.1 0 3 = some 65 := hI.2.1.2.2.2.2.1
theorem INV.f4 (hI : INV h) : h.2.1 0 4 = some 70 := hI.2.1.2.2.2.2.2.1
theorem INV.f5 (hI : INV h) : h.2.1 0 5 = some 75 := hI.2.1.2.2.2.2.2.2.1
theorem INV.f6 (hI : INV h) : h.2.1 0 6 = some 78 := hI.2.1.2.2.2.2.2.2.2.1
theorem INV.f7 (hI : INV h) : h.2.1 0 7 = some 82 := hI.2.1.2.2.2.2.2.2.2.2.1
theorem INV.g0 (hI : INV h) : gO h (some 0) 21 = true := INV_g0 hI
theorem INV.g84 (hI : INV h) : gO h (some 84) 22 = true := INV_g84 hI
theorem INV.g1 (hI : INV h) : gO h (some 1) 18 = true := gO_of (hI.told.1.get 0 rfl)
theorem INV.q0 (hI : INV h) : h.2.1 84 0 = some 85 := hI.mod.2.1
theorem INV.t0 (hI : INV h) : h.2.1 1 0 = some 2 := hI.told.2.1
theorem INV.t4 (hI : INV h) : h.2.1 1 4 = some 3 := hI.told.2.2.1 0 (by omega)
theorem INV.t5 (hI : INV h) : h.2.1 1 5 = some 4 := hI.told.2.2.1 1 (by omega)
theorem INV.t6 (hI : INV h) : h.2.1 1 6 = some 5 := hI.told.2.2.1 2 (by omega)
theorem INV.t7 (hI : INV h) : h.2.1 1 7 = some 6 := hI.told.2.2.1 3 (by omega)
theorem INV.t8 (hI : INV h) : h.2.1 1 8 = some 7 := hI.told.2.2.1 4 (by omega)
theorem INV.ga3 (hI : INV h) {i : Int32} (h0 : 0 ≤ i.toInt) (h1 : i.toInt < 4) : gA h (some 3) 0 i = true := gA_of (hI.told.1.get 2 rfl) (inB_of h0 (by omega))
theorem INV.ga4 (hI : INV h) {i : Int32} (h0 : 0 ≤ i.toInt) (h1 : i.toInt < 2) : gA h (some 4) 4 i = true := gA_of (hI.told.1.get 3 rfl) (inB_of h0 (by omega))
theorem INV.ga5 (hI : INV h) {i : Int32} (h0 : 0 ≤ i.toInt) (h1 : i.toInt < 2) : gA h (some 5) 5 i = true := gA_of (hI.told.1.get 4 rfl) (inB_of h0 (by omega))
theorem INV.ga6 (hI : INV h) {i : Int32} (h0 : 0 ≤ i.toInt) (h1 : i.toInt < 2) : gA h (some 6) 6 i = true := gA_of (hI.told.1.get 5 rfl) (inB_of h0 (by omega))
theorem INV.ga7 (hI : INV h) {i : Int32} (h0 : 0 ≤ i.toInt) (h1 : i.toInt < 2) : gA h (some 7) 7 i = true := gA_of (hI.told.1.get 6 rfl) (inB_of h0 (by omega))
theorem INV.ga85 (hI : INV h) {i : Int32} (h0 : 0 ≤ i.toInt) (h1 : i.toInt < 4584) : gA h (some 85) 0 i = true := gA_of (hI.mod.1.get 1 rfl) (inB_of h0 (by omega))
theorem INV.many (hI : INV h) (s : Nat) (hs : s < 4) : h.1 3 s = h.1 85 s ∧ 0 ≤ (h.1 3 s).toInt ∧ (h.1 3 s).toInt ≤ 2 := by
  have q := hI.rel.2.2.2.2.1 s hs
  simp only [Nat.zero_add] at q
  exact ⟨q.1, q.2.1, q.2.2⟩
theorem INV.land (hI : INV h) (k : Nat) (hk : (k : Int) < (h.1 3 0).toInt) : LandAt h (8 + 18 * k) ∧ LandRel h (8 + 18 * k) (610 + 90 * k) ∧ h.2.1 4 k = some (8 + 18 * k) := by
  have q := hI.many 0 (by omega)
  have t := hI.told.2.2.2 k (by omega)
  have r := hI.rel.2.2.2.2.2.2.1 k hk
  simp only [Nat.zero_add] at r
  exact ⟨t.2.1, r, t.1⟩
theorem INV.season (hI : INV h) (k : Nat) (hk : (k : Int) < (h.1 3 1).toInt) : SeasonAt h (17 + 18 * k) ∧ SeasonRel h (17 + 18 * k) (790 + 121 * k) ∧ h.2.1 5 k = some (17 + 18 * k) := by
  have q := hI.many 1 (by omega)
  have t := hI.told.2.2.2 k (by omega)
  have r := hI.rel.2.2.2.2.2.2.2.1 k hk
  simp only [Nat.zero_add] at r
  exact ⟨t.2.2.2.1, r, t.2.2.1⟩
theorem INV.ledger (hI : INV h) (k : Nat) (hk : (k : Int) < (h.1 3 2).toInt) : LedgerAt h (21 + 18 * k) ∧ LedgerRel h (21 + 18 * k) (1032 + 41 * k) ∧ h.2.1 6 k = some (21 + 18 * k) := by
  have q := hI.many 2 (by omega)
  have t := hI.told.2.2.2 k (by omega)
  have r := hI.rel.2.2.2.2.2.2.2.2.1 k hk
  simp only [Nat.zero_add] at r
  exact ⟨t.2.2.2.2.2.1, r, t.2.2.2.2.1⟩
theorem INV.barg (hI : INV h) (k : Nat) (hk : (k : Int) < (h.1 3 3).toInt) : BargAt h (24 + 18 * k) ∧ BargRel h (24 + 18 * k) (1114 + 16 * k) ∧ h.2.1 7 k = some (24 + 18 * k) := by
  have q := hI.many 3 (by omega)
  have t := hI.told.2.2.2 k (by omega)
  have r := hI.rel.2.2.2.2.2.2.2.2.2 k hk
  simp only [Nat.zero_add] at r
  exact ⟨t.2.2.2.2.2.2.2, r, t.2.2.2.2.2.2.1⟩
theorem s_isIn (v lo hi : Int32) (h : MH) : Tc rod (d + 1) 193 [.inl v, .inl lo, .inl hi] h (some (.inl (if lo.toInt ≤ v.toInt ∧ v.toInt ≤ hi.toInt then 1 else 0))) h := by
  have q := s_Model_isIn (rod := rod) (d := d) v lo hi h
  simp only [Int32.le_iff_toInt_le] at q
  exact q
/-- is there a text k of sort s -/
def Has (h : MH) (s : Nat) (k : Int32) : Prop := 0 ≤ k.toInt ∧ k.toInt < (h.1 3 s).toInt
def Has' (h : MH) (s : Nat) (k : Int32) : Decidable (Has h s k) := by unfold Has; exact inferInstance
theorem s_has (hI : INV h) (s k : Int32) (n : Nat) (hs : s.toInt = (n : Int)) (hn : n < 4) : Tc rod (d + 1) 62 [.inr (.inr (.inl (some 1))), .inl s, .inl k] h (some (.inl (if 0 ≤ k.toInt ∧ k.toInt < (h.1 3 n).toInt then 1 else 0))) h := by
  have m := hI.many n hn
  apply Wc.tc
  refine Wc.en (fun _ _ => e_Told_has) ?_
  refine Wb.br (fun _ _ => b_Told_has_0) (fun c0 => ?_) (fun c0 => ?_)
  · simp only [decide_eq_true_eq, decide_eq_false_iff_not, Bool.not_eq_true', Bool.not_eq_false', Option.isNone_some, Option.isSome_some, Option.isNone_none, Option.isSome_none, Int32.lt_iff_toInt_lt, Int32.le_iff_toInt_le, ← Int32.toInt_inj, Int32.reduceToInt, t_m1, t_m2, t_m1000, ite01, ite01t, ite01u, ite01v, Option.getD_some, hI.t4, clampK hs] at c0
    refine Wb.go (fun _ _ => b_Told_has_23) ?_
    refine Wb.ret (b_Told_has_24 (by first | rfl | assumption)) ?_
    exact ⟨by first | (exfalso; omega) | rw [if_pos (by omega)] | rw [if_neg (by omega)], rfl⟩
  · simp only [decide_eq_true_eq, decide_eq_false_iff_not, Bool.not_eq_true', Bool.not_eq_false', Option.isNone_some, Option.isSome_some, Option.isNone_none, Option.isSome_none, Int32.lt_iff_toInt_lt, Int32.le_iff_toInt_le, ← Int32.toInt_inj, Int32.reduceToInt, t_m1, t_m2, t_m1000, ite01, ite01t, ite01u, ite01v, Option.getD_some, hI.t4, clampK hs] at c0
    refine Wb.br (fun _ _ => b_Told_has_4 (hI.g1) ((by simp only [Option.getD_some, hI.t4]; exact hI.ga3 (by omega) (by omega)))) (fun c4 => ?_) (fun c4 => ?_)
    · simp only [decide_eq_true_eq, decide_eq_false_iff_not, Bool.not_eq_true', Bool.not_eq_false', Option.isNone_some, Option.isSome_some, Option.isNone_none, Option.isSome_none, Int32.lt_iff_toInt_lt, Int32.le_iff_toInt_le, ← Int32.toInt_inj, Int32.reduceToInt, t_m1, t_m2, t_m1000, ite01, ite01t, ite01u, ite01v, Option.getD_some, hI.t4, clampK hs] at c4
      refine Wb.go (fun _ _ => b_Told_has_23) ?_
      refine Wb.ret (b_Told_has_24 (by first | rfl | assumption)) ?_
      exact ⟨by first | (exfalso; omega) | rw [if_pos (by omega)] | rw [if_neg (by omega)], rfl⟩
    · simp only [decide_eq_true_eq, decide_eq_false_iff_not, Bool.not_eq_true', Bool.not_eq_false', Option.isNone_some, Option.isSome_some, Option.isNone_none, Option.isSome_none, Int32.lt_iff_toInt_lt, Int32.le_iff_toInt_le, ← Int32.toInt_inj, Int32.reduceToInt, t_m1, t_m2, t_m1000, ite01, ite01t, ite01u, ite01v, Option.getD_some, hI.t4, clampK hs] at c4
      refine Wb.br (fun _ _ => b_Told_has_14) (fun c14 => ?_) (fun c14 => ?_)
      · simp only [decide_eq_true_eq, decide_eq_false_iff_not, Bool.not_eq_true', Bool.not_eq_false', Option.isNone_some, Option.isSome_some, Option.isNone_none, Option.isSome_none, Int32.lt_iff_toInt_lt, Int32.le_iff_toInt_le, ← Int32.toInt_inj, Int32.reduceToInt, t_m1, t_m2, t_m1000, ite01, ite01t, ite01u, ite01v, Option.getD_some, hI.t4, clampK hs] at c14
        refine Wb.go (fun _ _ => b_Told_has_23) ?_
        refine Wb.ret (b_Told_has_24 (by first | rfl | assumption)) ?_
        exact ⟨by first | (exfalso; omega) | rw [if_pos (by omega)] | rw [if_neg (by omega)], rfl⟩
      · simp only [decide_eq_true_eq, decide_eq_false_iff_not, Bool.not_eq_true', Bool.not_eq_false', Option.isNone_some, Option.isSome_some, Option.isNone_none, Option.isSome_none, Int32.lt_iff_toInt_lt, Int32.le_iff_toInt_le, ← Int32.toInt_inj, Int32.reduceToInt, t_m1, t_m2, t_m1000, ite01, ite01t, ite01u, ite01v, Option.getD_some, hI.t4, clampK hs] at c14
        refine Wb.go (fun _ _ => b_Told_has_19) ?_
        refine Wb.ret (b_Told_has_24 (by first | rfl | assumption)) ?_
        exact ⟨by first | (exfalso; omega) | rw [if_pos (by omega)] | rw [if_neg (by omega)], rfl⟩
theorem s_landAt (hI : INV h) (k : Int32) : Tc rod (d + 2) 61 [.inr (.inr (.inl (some 1))), .inl k] h (some (.inr (.inr (.inl (if 0 ≤ k.toInt ∧ k.toInt < (h.1 3 0).toInt then some (8 + 18 * k.toNatClampNeg) else none))))) h := by
  have m := hI.many 0 (by omega)
  apply Wc.tc
  refine Wc.en (fun _ _ => e_Told_landAt) ?_
  refine Wb.callT (fun _ _ _ _ => b_Told_landAt_0 (hI.g1)) (s_has hI _ _ 0 rfl (by omega)) ?_
  refine Wb.br (fun _ _ => b_Told_landAt_6) (fun c6 => ?_) (fun c6 => ?_)
  · simp only [decide_eq_true_eq, decide_eq_false_iff_not, Bool.not_eq_true', Bool.not_eq_false', Option.isNone_some, Option.isSome_some, Option.isNone_none, Option.isSome_none, Int32.lt_iff_toInt_lt, Int32.le_iff_toInt_le, ← Int32.toInt_inj, Int32.reduceToInt, t_m1, t_m2, t_m1000, ite01, ite01t, ite01u, ite01v] at c6
    refine Wb.go (fun _ _ => b_Told_landAt_18) ?_
    refine Wb.ret (b_Told_landAt_19) ?_
    exact ⟨by rw [if_neg (by omega)], rfl⟩
  · simp only [decide_eq_true_eq, decide_eq_false_iff_not, Bool.not_eq_true', Bool.not_eq_false', Option.isNone_some, Option.isSome_some, Option.isNone_none, Option.isSome_none, Int32.lt_iff_toInt_lt, Int32.le_iff_toInt_le, ← Int32.toInt_inj, Int32.reduceToInt, t_m1, t_m2, t_m1000, ite01, ite01t, ite01u, ite01v] at c6
    have e := (hI.land k.toNatClampNeg (by show ((k.toInt.toNat : Nat) : Int) < _; omega)).2.2
    refine Wb.go (fun _ _ => b_Told_landAt_9 hI.g1 (by simp only [Option.getD_some, hI.t5]; exact hI.ga4 (by omega) (by omega))) ?_
    refine Wb.ret b_Told_landAt_19 ?_
    exact ⟨by rw [if_pos (by omega)]; simp only [Option.getD_some, hI.t5, e], rfl⟩
theorem s_seasonAt (hI : INV h) (k : Int32) : Tc rod (d + 2) 72 [.inr (.inr (.inl (some 1))), .inl k] h (some (.inr (.inr (.inl (if 0 ≤ k.toInt ∧ k.toInt < (h.1 3 1).toInt then some (17 + 18 * k.toNatClampNeg) else none))))) h := by
  have m := hI.many 1 (by omega)
  apply Wc.tc
  refine Wc.en (fun _ _ => e_Told_seasonAt) ?_
  refine Wb.callT (fun _ _ _ _ => b_Told_seasonAt_0 (hI.g1)) (s_has hI _ _ 1 rfl (by omega)) ?_
  refine Wb.br (fun _ _ => b_Told_seasonAt_6) (fun c6 => ?_) (fun c6 => ?_)
  · simp only [decide_eq_true_eq, decide_eq_false_iff_not, Bool.not_eq_true', Bool.not_eq_false', Option.isNone_some, Option.isSome_some, Option.isNone_none, Option.isSome_none, Int32.lt_iff_toInt_lt, Int32.le_iff_toInt_le, ← Int32.toInt_inj, Int32.reduceToInt, t_m1, t_m2, t_m1000, ite01, ite01t, ite01u, ite01v] at c6
    refine Wb.go (fun _ _ => b_Told_seasonAt_18) ?_
    refine Wb.ret (b_Told_seasonAt_19) ?_
    exact ⟨by rw [if_neg (by omega)], rfl⟩
  · simp only [decide_eq_true_eq, decide_eq_false_iff_not, Bool.not_eq_true', Bool.not_eq_false', Option.isNone_some, Option.isSome_some, Option.isNone_none, Option.isSome_none, Int32.lt_iff_toInt_lt, Int32.le_iff_toInt_le, ← Int32.toInt_inj, Int32.reduceToInt, t_m1, t_m2, t_m1000, ite01, ite01t, ite01u, ite01v] at c6
    have e := (hI.season k.toNatClampNeg (by show ((k.toInt.toNat : Nat) : Int) < _; omega)).2.2
    refine Wb.go (fun _ _ => b_Told_seasonAt_9 hI.g1 (by simp only [Option.getD_some, hI.t6]; exact hI.ga5 (by omega) (by omega))) ?_
    refine Wb.ret b_Told_seasonAt_19 ?_
    exact ⟨by rw [if_pos (by omega)]; simp only [Option.getD_some, hI.t6, e], rfl⟩
theorem s_ledgerAt (hI : INV h) (k : Int32) : Tc rod (d + 2) 116 [.inr (.inr (.inl (some 1))), .inl k] h (some (.inr (.inr (.inl (if 0 ≤ k.toInt ∧ k.toInt < (h.1 3 2).toInt then some (21 + 18 * k.toNatClampNeg) else none))))) h := by
  have m := hI.many 2 (by omega)
  apply Wc.tc
  refine Wc.en (fun _ _ => e_Told_ledgerAt) ?_
  refine Wb.callT (fun _ _ _ _ => b_Told_ledgerAt_0 (hI.g1)) (s_has hI _ _ 2 rfl (by omega)) ?_
  refine Wb.br (fun _ _ => b_Told_ledgerAt_6) (fun c6 => ?_) (fun c6 => ?_)
  · simp only [decide_eq_true_eq, decide_eq_false_iff_not, Bool.not_eq_true', Bool.not_eq_false', Option.isNone_some, Option.isSome_some, Option.isNone_none, Option.isSome_none, Int32.lt_iff_toInt_lt, Int32.le_iff_toInt_le, ← Int32.toInt_inj, Int32.reduceToInt, t_m1, t_m2, t_m1000, ite01, ite01t, ite01u, ite01v] at c6
    refine Wb.go (fun _ _ => b_Told_ledgerAt_18) ?_
    refine Wb.ret (b_Told_ledgerAt_19) ?_
    exact ⟨by rw [if_neg (by omega)], rfl⟩
  · simp only [decide_eq_true_eq, decide_eq_false_iff_not, Bool.not_eq_true', Bool.not_eq_false', Option.isNone_some, Option.isSome_some, Option.isNone_none, Option.isSome_none, Int32.lt_iff_toInt_lt, Int32.le_iff_toInt_le, ← Int32.toInt_inj, Int32.reduceToInt, t_m1, t_m2, t_m1000, ite01, ite01t, ite01u, ite01v] at c6
    have e := (hI.ledger k.toNatClampNeg (by show ((k.toInt.toNat : Nat) : Int) < _; omega)).2.2
    refine Wb.go (fun _ _ => b_Told_ledgerAt_9 hI.g1 (by simp only [Option.getD_some, hI.t7]; exact hI.ga6 (by omega) (by omega))) ?_
    refine Wb.ret b_Told_ledgerAt_19 ?_
    exact ⟨by rw [if_pos (by omega)]; simp only [Option.getD_some, hI.t7, e], rfl⟩
theorem s_bargainAt (hI : INV h) (k : Int32) : Tc rod (d + 2) 127 [.inr (.inr (.inl (some 1))), .inl k] h (some (.inr (.inr (.inl (if 0 ≤ k.toInt ∧ k.toInt < (h.1 3 3).toInt then some (24 + 18 * k.toNatClampNeg) else none))))) h := by
  have m := hI.many 3 (by omega)
  apply Wc.tc
  refine Wc.en (fun _ _ => e_Told_bargainAt) ?_
  refine Wb.callT (fun _ _ _ _ => b_Told_bargainAt_0 (hI.g1)) (s_has hI _ _ 3 rfl (by omega)) ?_
  refine Wb.br (fun _ _ => b_Told_bargainAt_6) (fun c6 => ?_) (fun c6 => ?_)
  · simp only [decide_eq_true_eq, decide_eq_false_iff_not, Bool.not_eq_true', Bool.not_eq_false', Option.isNone_some, Option.isSome_some, Option.isNone_none, Option.isSome_none, Int32.lt_iff_toInt_lt, Int32.le_iff_toInt_le, ← Int32.toInt_inj, Int32.reduceToInt, t_m1, t_m2, t_m1000, ite01, ite01t, ite01u, ite01v] at c6
    refine Wb.go (fun _ _ => b_Told_bargainAt_18) ?_
    refine Wb.ret (b_Told_bargainAt_19) ?_
    exact ⟨by rw [if_neg (by omega)], rfl⟩
  · simp only [decide_eq_true_eq, decide_eq_false_iff_not, Bool.not_eq_true', Bool.not_eq_false', Option.isNone_some, Option.isSome_some, Option.isNone_none, Option.isSome_none, Int32.lt_iff_toInt_lt, Int32.le_iff_toInt_le, ← Int32.toInt_inj, Int32.reduceToInt, t_m1, t_m2, t_m1000, ite01, ite01t, ite01u, ite01v] at c6
    have e := (hI.barg k.toNatClampNeg (by show ((k.toInt.toNat : Nat) : Int) < _; omega)).2.2
    refine Wb.go (fun _ _ => b_Told_bargainAt_9 hI.g1 (by simp only [Option.getD_some, hI.t8]; exact hI.ga7 (by omega) (by omega))) ?_
    refine Wb.ret b_Told_bargainAt_19 ?_
    exact ⟨by rw [if_pos (by omega)]; simp only [Option.getD_some, hI.t8, e], rfl⟩
theorem s_isOf (hI : INV h) (s k : Int32) (n : Nat) (hs : s.toInt = (n : Int)) (hn : n < 4) : Tc rod (d + 2) 194 [.inr (.inr (.inl (some 84))), .inl s, .inl k] h (some (.inl (if 0 ≤ k.toInt ∧ k.toInt < (h.1 3 n).toInt then 1 else 0))) h := by
  have m := hI.many n hn
  have e : ((h.1 85 n) - (1 : Int32)).toInt = (h.1 85 n).toInt - 1 := i32_sub (by rw [← m.1]; show _ ≤ _ - (1 : Int); omega) (by rw [← m.1]; show _ - (1 : Int) ≤ _; omega)
  have eq : ((0 : Int32).toInt ≤ k.toInt ∧ k.toInt ≤ ((h.1 85 n) - (1 : Int32)).toInt) ↔ (0 ≤ k.toInt ∧ k.toInt < (h.1 3 n).toInt) := by
    rw [e, ← m.1]
    show ((0 : Int) ≤ _ ∧ _) ↔ _
    omega
  apply Wc.tc
  refine Wc.en (fun _ _ => e_Model_isOf) ?_
  refine Wb.callT (fun _ _ _ _ => b_Model_isOf_0 hI.g84 (by simp only [Option.getD_some, hI.q0]; exact hI.ga85 (by omega) (by omega))) (s_isIn _ _ _ _) ?_
  refine Wb.ret (b_Model_isOf_13 ok01) ?_
  refine ⟨?_, rfl⟩
  simp only [Option.getD_some, hI.q0, clampK hs, eq]
theorem s_placeOf (s k : Int32) (n : Nat) (hs : s.toInt = (n : Int)) (hn : n < 4) (h : MH) : Tc rod (d + 1) 216 [.inl s, .inl k] h (some (.inl (if n = 0 then 610 + 90 * k else if n = 1 then 790 + 121 * k else if n = 2 then 1032 + 41 * k else 1114 + 16 * k))) h := by
  apply Wc.tc
  refine Wc.en (fun _ _ => e_Model_placeOf) ?_
  refine Wb.br (fun _ _ => b_Model_placeOf_0) (fun c0 => ?_) (fun c0 => ?_)
  · simp only [decide_eq_true_eq, decide_eq_false_iff_not, Bool.not_eq_true', Bool.not_eq_false', Option.isNone_some, Option.isSome_some, Option.isNone_none, Option.isSome_none, Int32.lt_iff_toInt_lt, Int32.le_iff_toInt_le, ← Int32.toInt_inj, Int32.reduceToInt, t_m1, t_m2, t_m1000, ite01, ite01t, ite01u, ite01v] at c0
    refine Wb.br (fun _ _ => b_Model_placeOf_15) (fun c15 => ?_) (fun c15 => ?_)
    · simp only [decide_eq_true_eq, decide_eq_false_iff_not, Bool.not_eq_true', Bool.not_eq_false', Option.isNone_some, Option.isSome_some, Option.isNone_none, Option.isSome_none, Int32.lt_iff_toInt_lt, Int32.le_iff_toInt_le, ← Int32.toInt_inj, Int32.reduceToInt, t_m1, t_m2, t_m1000, ite01, ite01t, ite01u, ite01v] at c15
      refine Wb.br (fun _ _ => b_Model_placeOf_31) (fun c31 => ?_) (fun c31 => ?_)
      · simp only [decide_eq_true_eq, decide_eq_false_iff_not, Bool.not_eq_true', Bool.not_eq_false', Option.isNone_some, Option.isSome_some, Option.isNone_none, Option.isSome_none, Int32.lt_iff_toInt_lt, Int32.le_iff_toInt_le, ← Int32.toInt_inj, Int32.reduceToInt, t_m1, t_m2, t_m1000, ite01, ite01t, ite01u, ite01v] at c31
        refine Wb.go (fun _ _ => b_Model_placeOf_47) ?_
        refine Wb.ret (b_Model_placeOf_55) ?_
        exact ⟨by rcases (show n = 0 ∨ n = 1 ∨ n = 2 ∨ n = 3 by omega) with rfl | rfl | rfl | rfl <;> first | rfl | (exfalso; omega), rfl⟩
      · simp only [decide_eq_true_eq, decide_eq_false_iff_not, Bool.not_eq_true', Bool.not_eq_false', Option.isNone_some, Option.isSome_some, Option.isNone_none, Option.isSome_none, Int32.lt_iff_toInt_lt, Int32.le_iff_toInt_le, ← Int32.toInt_inj, Int32.reduceToInt, t_m1, t_m2, t_m1000, ite01, ite01t, ite01u, ite01v] at c31
        refine Wb.go (fun _ _ => b_Model_placeOf_36) ?_
        refine Wb.ret (b_Model_placeOf_55) ?_
        exact ⟨by rcases (show n = 0 ∨ n = 1 ∨ n = 2 ∨ n = 3 by omega) with rfl | rfl | rfl | rfl <;> first | rfl | (exfalso; omega), rfl⟩
    · simp only [decide_eq_true_eq, decide_eq_false_iff_not, Bool.not_eq_true', Bool.not_eq_false', Option.isNone_some, Option.isSome_some, Option.isNone_none, Option.isSome_none, Int32.lt_iff_toInt_lt, Int32.le_iff_toInt_le, ← Int32.toInt_inj, Int32.reduceToInt, t_m1, t_m2, t_m1000, ite01, ite01t, ite01u, ite01v] at c15
      refine Wb.go (fun _ _ => b_Model_placeOf_20) ?_
      refine Wb.ret (b_Model_placeOf_55) ?_
      exact ⟨by rcases (show n = 0 ∨ n = 1 ∨ n = 2 ∨ n = 3 by omega) with rfl | rfl | rfl | rfl <;> first | rfl | (exfalso; omega), rfl⟩
  · simp only [decide_eq_true_eq, decide_eq_false_iff_not, Bool.not_eq_true', Bool.not_eq_false', Option.isNone_some, Option.isSome_some, Option.isNone_none, Option.isSome_none, Int32.lt_iff_toInt_lt, Int32.le_iff_toInt_le, ← Int32.toInt_inj, Int32.reduceToInt, t_m1, t_m2, t_m1000, ite01, ite01t, ite01u, ite01v] at c0
    refine Wb.go (fun _ _ => b_Model_placeOf_4) ?_
    refine Wb.ret (b_Model_placeOf_55) ?_
    exact ⟨by rcases (show n = 0 ∨ n = 1 ∨ n = 2 ∨ n = 3 by omega) with rfl | rfl | rfl | rfl <;> first | rfl | (exfalso; omega), rfl⟩
end S29
