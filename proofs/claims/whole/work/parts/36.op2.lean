/-! OPERATIONS: sold, priced, ranked -/
section M36
variable {rod : Nat → Nat × (Nat → Int32)} {d : Nat} {h : MH} {a l : Nat}
theorem s_comesIn (M : MLand h a l) (T : ArrT h a) (L : Lay h.2) (ha : a + 9 ≤ 45) (n : Nat) (hn : (h.1 a 4).toInt = (n : Int)) (y kd p : Int32) : Tc rod (d + 3) 245 [.inr (.inr (.inl (some 84))), .inl y, .inl kd, .inl p] h (some (.inl (brF (ld h a) n y kd p))) h := by
  have B8 := M.1.bu
  have e14 := M.2.2.2.2.1
  apply Wc.tc
  refine n_Model_comesIn ?_
  refine w_Model_comesIn_0 rfl ?_
  refine Wb.upc n (fun j L' => ∃ (x m : Int32), L' = [some (.inr (.inr (.inl (some 84)))), some (.inl y), some (.inl kd), some (.inl p), some (.inl m), some (.inl x)] ∧ x.toInt = (j : Int) ∧ m = cntW (ld h a) j y kd p) ?_ (Nat.zero_le n) ⟨0, 0, rfl, rfl, rfl⟩
  rintro j _ hj ⟨x, m, rfl, hx, hm⟩ ih
  have ex := n_eq hx
  have l1 : ld h a 1 j = h.1 (a + 1) j := rfl
  refine w_Model_comesIn_6 L (fun c6 => ?_) (fun c6 => ?_)
  · try simp only [ite01t, ite01v, Int32.reduceToInt, t_m1, t_m2, t_m1000, Decidable.not_not, ex, e14, Nat.add_zero] at c6
    refine w_Model_comesIn_58 ?_
    exact ⟨by rw [hm, show j = n by omega, brF, Int32.mul_comm], rfl⟩
  · try simp only [ite01t, ite01v, Int32.reduceToInt, t_m1, t_m2, t_m1000, Decidable.not_not, ex, e14, Nat.add_zero] at c6
    have lj := lw_of (Keep.rfl (h := h)) T ha (b := j) (by omega) y p
    refine w_Model_comesIn_15 (fun c15 => ?_) (fun c15 => ?_)
    · try simp only [ite01t, ite01v, Int32.reduceToInt, t_m1, t_m2, t_m1000, Decidable.not_not, ex, e14, Nat.add_zero] at c15
      refine w_Model_comesIn_33 L (Tc.wc (s_mwants M L x j hx (by omega) y p)) (Is.k ?_)
      refine w_Model_comesIn_41 (fun c41 => ?_) (fun c41 => ?_)
      · try simp only [ite01t, ite01v, Int32.reduceToInt, t_m1, t_m2, t_m1000, Decidable.not_not, ex, e14, Nat.add_zero] at c41
        try rw [lj] at c41
        refine w_Model_comesIn_48 ?_
        refine w_Model_comesIn_49 rfl ?_
        refine ih (by omega) _ ⟨_, _, rfl, t_succ hx (by omega), ?_⟩
        clear ih
        rw [cntW_succ, ← hm]
        split
        · first | rfl | (exfalso; grind)
        · first | rfl | (exfalso; grind)
      · try simp only [ite01t, ite01v, Int32.reduceToInt, t_m1, t_m2, t_m1000, Decidable.not_not, ex, e14, Nat.add_zero] at c41
        try rw [lj] at c41
        refine w_Model_comesIn_44 ?_
        refine w_Model_comesIn_49 rfl ?_
        refine ih (by omega) _ ⟨_, _, rfl, t_succ hx (by omega), ?_⟩
        clear ih
        rw [cntW_succ, ← hm]
        split
        · first | rfl | (exfalso; grind)
        · first | rfl | (exfalso; grind)
    · try simp only [ite01t, ite01v, Int32.reduceToInt, t_m1, t_m2, t_m1000, Decidable.not_not, ex, e14, Nat.add_zero] at c15
      refine w_Model_comesIn_22 L (Tc.wc (s_of M L x 0 j 0 hx rfl (by omega) (by omega))) (Is.k ?_)
      refine w_Model_comesIn_29 (fun c29 => ?_) (fun c29 => ?_)
      · try simp only [ite01t, ite01v, Int32.reduceToInt, t_m1, t_m2, t_m1000, Decidable.not_not, ex, e14, Nat.add_zero] at c29
        try rw [lj] at c41
        refine w_Model_comesIn_48 ?_
        refine w_Model_comesIn_49 rfl ?_
        refine ih (by omega) _ ⟨_, _, rfl, t_succ hx (by omega), ?_⟩
        clear ih
        rw [cntW_succ, ← hm]
        split
        · first | rfl | (exfalso; grind)
        · first | rfl | (exfalso; grind)
      · try simp only [ite01t, ite01v, Int32.reduceToInt, t_m1, t_m2, t_m1000, Decidable.not_not, ex, e14, Nat.add_zero] at c29
        refine w_Model_comesIn_33 L (Tc.wc (s_mwants M L x j hx (by omega) y p)) (Is.k ?_)
        refine w_Model_comesIn_41 (fun c41 => ?_) (fun c41 => ?_)
        · try simp only [ite01t, ite01v, Int32.reduceToInt, t_m1, t_m2, t_m1000, Decidable.not_not, ex, e14, Nat.add_zero] at c41
          try rw [lj] at c41
          refine w_Model_comesIn_48 ?_
          refine w_Model_comesIn_49 rfl ?_
          refine ih (by omega) _ ⟨_, _, rfl, t_succ hx (by omega), ?_⟩
          clear ih
          rw [cntW_succ, ← hm]
          split
          · first | rfl | (exfalso; grind)
          · first | rfl | (exfalso; grind)
        · try simp only [ite01t, ite01v, Int32.reduceToInt, t_m1, t_m2, t_m1000, Decidable.not_not, ex, e14, Nat.add_zero] at c41
          try rw [lj] at c41
          refine w_Model_comesIn_44 ?_
          refine w_Model_comesIn_49 rfl ?_
          refine ih (by omega) _ ⟨_, _, rfl, t_succ hx (by omega), ?_⟩
          clear ih
          rw [cntW_succ, ← hm]
          split
          · first | rfl | (exfalso; grind)
          · first | rfl | (exfalso; grind)
def pricedV (D : Nat → Nat → Int32) (n : Nat) (y kd co : Int32) : Int32 := if (1 ≤ y.toInt ∧ y.toInt ≤ 60) ∧ -1 ≤ kd.toInt ∧ kd.toInt ≤ 3 then (if co.toInt = 0 then bestF (brF D n y kd) 99 else brF D n y kd (bestF (brF D n y kd) 99)) else -1
theorem mm_priced {k y kd co : Int32} {kk n : Nat} (I : INV h) (ek : k.toInt = (kk : Int)) (hk : (kk : Int) < (h.1 3 0).toInt) (hn : (h.1 (8 + 18 * kk) 4).toInt = (n : Int)) : Wc rod (d + 4) 244 [.inr (.inr (.inl (some 84))), .inl k, .inl y, .inl kd, .inl co] h (Ans (pricedV (ld h (8 + 18 * kk)) n y kd co) h) := by
  have L := I.lay
  have q := I.many 0 (by omega)
  have ha : 8 + 18 * kk + 9 ≤ 45 := by omega
  have bu := (I.land kk hk).2.1.bu
  have is1 := fun (d : Nat) => s_isLand1 (rod := rod) (d := d) I k kk ek hk
  refine n_Model_priced ?_
  refine w_Model_priced_0 L (is1 _) ?_
  rintro _ h0 ⟨rfl, k0, M0⟩
  have I0 := I.keep k0
  have L0 := I0.lay
  have K0 := (Keep.rfl (h := h)).trans k0
  refine w_Model_priced_5 (fun c5 => absurd c5 (by decide)) (fun c5 => ?_)
  refine w_Model_priced_8 (Tc.wc (s_isIn _ _ _ _)) (Is.k ?_)
  refine w_Model_priced_15 (fun c15 => ?_) (fun c15 => ?_)
  · try simp only [ite01t, ite01v, Int32.reduceToInt, t_m1, t_m2, t_m1000, Decidable.not_not] at c15
    refine w_Model_priced_27 ?_
    exact ⟨by rw [pricedV, if_neg (by omega)], K0⟩
  · try simp only [ite01t, ite01v, Int32.reduceToInt, t_m1, t_m2, t_m1000, Decidable.not_not] at c15
    refine w_Model_priced_18 (Tc.wc (s_isIn _ _ _ _)) (Is.k ?_)
    refine w_Model_priced_24 (fun c24 => ?_) (fun c24 => ?_)
    · try simp only [ite01t, ite01v, Int32.reduceToInt, t_m1, t_m2, t_m1000, Decidable.not_not] at c24
      refine w_Model_priced_29 L0 (s_asTold M0 L0 ha) ?_
      rintro _ h29 ⟨rfl, k29, M29, T29⟩
      have I29 := I0.keep k29
      have L29 := I29.lay
      have K29 := K0.trans k29
      have e29 : h29.1 (8 + 18 * kk) = h.1 (8 + 18 * kk) := K29.c _ (by omega)
      refine w_Model_priced_33 rfl ?_
      refine Wb.upc 99 (fun j L' => ∃ (x b : Int32), L' = [some (.inr (.inr (.inl (some 84)))), some (.inl k), some (.inl y), some (.inl kd), some (.inl co), some (.inl b), some (.inl x)] ∧ x.toInt = ((j + 1 : Nat) : Int) ∧ b = bestF (brF (ld h29 (8 + 18 * kk)) n y kd) j) ?_ (Nat.zero_le _) ⟨1, 0, rfl, rfl, rfl⟩
      rintro j _ hj ⟨x, b, rfl, hx, hb⟩ ih
      have ex : x = Int32.ofNat (j + 1) := i32_of (by rw [hx, t_nat (by omega)])
      refine w_Model_priced_39 (fun c39 => ?_) (fun c39 => ?_)
      · try simp only [ite01t, ite01v, Int32.reduceToInt, t_m1, t_m2, t_m1000, Decidable.not_not] at c39
        refine w_Model_priced_80 (fun c80 => ?_) (fun c80 => ?_)
        · try simp only [ite01t, ite01v, Int32.reduceToInt, t_m1, t_m2, t_m1000, Decidable.not_not] at c80
          refine w_Model_priced_96 ?_
          refine w_Model_priced_98 ?_
          have hj : j = 99 := by omega
          subst hj
          refine ⟨?_, K29⟩
          rw [pricedV, if_pos (by omega), ← ldk K29 ha]
          first | rw [if_pos (by omega)] | rw [if_neg (by omega)]
          rw [hb]
        · try simp only [ite01t, ite01v, Int32.reduceToInt, t_m1, t_m2, t_m1000, Decidable.not_not] at c80
          refine w_Model_priced_85 L29 (Tc.wc (s_comesIn M29 T29 L29 ha n (by rw [e29]; exact hn) _ _ _)) (Is.k ?_)
          refine w_Model_priced_93 ?_
          refine w_Model_priced_98 ?_
          have hj : j = 99 := by omega
          subst hj
          refine ⟨?_, K29⟩
          rw [pricedV, if_pos (by omega), ← ldk K29 ha]
          first | rw [if_pos (by omega)] | rw [if_neg (by omega)]
          rw [hb]
      · try simp only [ite01t, ite01v, Int32.reduceToInt, t_m1, t_m2, t_m1000, Decidable.not_not] at c39
        refine w_Model_priced_46 L29 (Tc.wc (s_comesIn M29 T29 L29 ha n (by rw [e29]; exact hn) _ _ _)) (Is.k ?_)
        refine w_Model_priced_54 L29 (Tc.wc (s_comesIn M29 T29 L29 ha n (by rw [e29]; exact hn) _ _ _)) (Is.k ?_)
        refine w_Model_priced_62 (fun c62 => ?_) (fun c62 => ?_)
        · try simp only [ite01t, ite01v, Int32.reduceToInt, t_m1, t_m2, t_m1000, Decidable.not_not] at c62
          refine w_Model_priced_70 ?_
          refine w_Model_priced_72 rfl ?_
          refine ih (by omega) _ ⟨_, _, rfl, t_succ hx (by omega), ?_⟩
          simp only [bestF]
          rw [← hb, ← ex]
          first | rw [if_pos (by rw [Int32.lt_iff_toInt_lt]; omega)] | rw [if_neg (by rw [Int32.lt_iff_toInt_lt]; omega)]
        · try simp only [ite01t, ite01v, Int32.reduceToInt, t_m1, t_m2, t_m1000, Decidable.not_not] at c62
          refine w_Model_priced_65 ?_
          refine w_Model_priced_72 rfl ?_
          refine ih (by omega) _ ⟨_, _, rfl, t_succ hx (by omega), ?_⟩
          simp only [bestF]
          rw [← hb, ← ex]
          first | rw [if_pos (by rw [Int32.lt_iff_toInt_lt]; omega)] | rw [if_neg (by rw [Int32.lt_iff_toInt_lt]; omega)]
    · try simp only [ite01t, ite01v, Int32.reduceToInt, t_m1, t_m2, t_m1000, Decidable.not_not] at c24
      refine w_Model_priced_27 ?_
      exact ⟨by rw [pricedV, if_neg (by omega)], K0⟩
theorem pricedV_mk {D : Nat → Nat → Int32} {n : Nat} {y kd co : Int32} (c : (1 ≤ y.toInt ∧ y.toInt ≤ 60) ∧ -1 ≤ kd.toInt ∧ kd.toInt ≤ 3) : pricedV D n y kd co = if co.toInt = 0 then bestF (brF D n y kd) 99 else brF D n y kd (bestF (brF D n y kd) 99) := if_pos c
theorem pricedV_no {D : Nat → Nat → Int32} {n : Nat} {y kd co : Int32} (c : ¬ ((1 ≤ y.toInt ∧ y.toInt ≤ 60) ∧ -1 ≤ kd.toInt ∧ kd.toInt ≤ 3)) : pricedV D n y kd co = -1 := if_neg c
theorem cntW_bd (D : Nat → Nat → Int32) (n : Nat) (y kd p : Int32) (hn : n ≤ 1000) : 0 ≤ (cntW D n y kd p).toInt ∧ (cntW D n y kd p).toInt ≤ (n : Int) := by
  induction n with
  | zero => exact (by decide : (0 : Int) ≤ (0 : Int32).toInt ∧ (0 : Int32).toInt ≤ ((0 : Nat) : Int))
  | succ n ih =>
    have ih := ih (by omega)
    rw [cntW_succ]
    split
    · rw [i32_add (by show _ ≤ _ + (1 : Int); omega) (by show _ + (1 : Int) ≤ _; omega)]
      show (0 : Int) ≤ _ + (1 : Int) ∧ _ + (1 : Int) ≤ _
      omega
    · rw [Int32.add_zero]
      omega
theorem bestF_bd (g : Int32 → Int32) (n : Nat) (hn : n ≤ 1000) : 0 ≤ (bestF g n).toInt ∧ (bestF g n).toInt ≤ (n : Int) := by
  induction n with
  | zero => exact (by decide : (0 : Int) ≤ (0 : Int32).toInt ∧ (0 : Int32).toInt ≤ ((0 : Nat) : Int))
  | succ n ih =>
    have ih := ih (by omega)
    rw [bestF]
    split
    · rw [t_nat (by omega)]
      omega
    · omega
theorem pricedV_bd (D : Nat → Nat → Int32) (n : Nat) (y kd : Int32) (hn : n ≤ 8) (c : (1 ≤ y.toInt ∧ y.toInt ≤ 60) ∧ -1 ≤ kd.toInt ∧ kd.toInt ≤ 3) : 0 ≤ (pricedV D n y kd 1).toInt := by
  rw [pricedV_mk c, if_neg (by decide), brF]
  have h1 := bestF_bd (brF D n y kd) 99 (by omega)
  have h2 := cntW_bd D n y kd (bestF (brF D n y kd) 99) (by omega)
  have h3 := n_mul (n_of h1.1) (n_of h2.1) (by
    have e1 := n_of h1.1
    have e2 := n_of h2.1
    have q1 : (bestF (brF D n y kd) 99).toNatClampNeg ≤ 99 := by omega
    have q2 : (cntW D n y kd (bestF (brF D n y kd) 99)).toNatClampNeg ≤ 8 := by omega
    have := Nat.mul_le_mul q1 q2
    omega)
  rw [h3]
  omega
theorem op_priced (k y kd co : Int32) : OpI INV rod 94 244 [k, y, kd, co] := by
  refine OpI.mk fun h hI => ?_
  have L := hI.lay
  by_cases hk : 0 ≤ k.toInt ∧ k.toInt < (h.1 3 0).toInt
  · obtain ⟨A, R, ha, hk2⟩ := hI.landK hk
    have ek := n_of hk.1
    have at1 := fun (d : Nat) => s_landAt1 (rod := rod) (d := d) hI hk
    generalize k.toNatClampNeg = kk at ek hk2 A R ha at1
    have tw := R.tw
    have bu := R.bu
    have le := R.le
    obtain ⟨n, hn⟩ := Int.eq_ofNat_of_zero_le bu.1
    refine ⟨pricedV (ld h (8 + 18 * kk)) n y kd co, ?_, fun h1 I1 K1 => ?_⟩
    · refine n_Main_priced ?_
      refine w_Main_priced_0 L (Tc.wc (at1 _)) (Is.k ?_)
      refine w_Main_priced_8 rfl (fun c => nomatch c) (fun _ _ => ?_)
      refine w_Main_priced_15 (Tc.wc (s_isOffer _ _ _)) (Is.k ?_)
      refine w_Main_priced_20 (fun c20 => ?_) (fun c20 => ?_)
      · try simp only [ite01t, ite01v, Int32.reduceToInt, t_m1, t_m2, t_m1000, Decidable.not_not] at c20
        refine w_Main_priced_33 ?_
        exact ⟨by rw [pricedV_no (by omega)], Keep.rfl⟩
      · try simp only [ite01t, ite01v, Int32.reduceToInt, t_m1, t_m2, t_m1000, Decidable.not_not] at c20
        refine w_Main_priced_23 (fun c23 => ?_) (fun c23 => ?_)
        · try simp only [ite01t, ite01v, Int32.reduceToInt, t_m1, t_m2, t_m1000, Decidable.not_not] at c23
          refine w_Main_priced_33 ?_
          exact ⟨by rw [pricedV_no (by omega)], Keep.rfl⟩
        · try simp only [ite01t, ite01v, Int32.reduceToInt, t_m1, t_m2, t_m1000, Decidable.not_not] at c23
          refine w_Main_priced_28 (fun c28 => ?_) (fun c28 => ?_)
          · try simp only [ite01t, ite01v, Int32.reduceToInt, t_m1, t_m2, t_m1000, Decidable.not_not] at c28
            refine w_Main_priced_35 A (Tc.wc (s_bestPrice A (by omega) n hn _ _)) (Is.k ?_)
            refine w_Main_priced_42 rfl (fun c42 => ?_) (fun c42 => ?_)
            · try simp only [ite01t, ite01v, Int32.reduceToInt, t_m1, t_m2, t_m1000, Decidable.not_not] at c42
              refine w_Main_priced_61 ?_
              refine w_Main_priced_63 ?_
              exact ⟨by rw [pricedV_mk (by omega)]; first | rw [if_pos (by omega)] | rw [if_neg (by omega)], Keep.rfl⟩
            · try simp only [ite01t, ite01v, Int32.reduceToInt, t_m1, t_m2, t_m1000, Decidable.not_not] at c42
              refine w_Main_priced_49 A (Tc.wc (s_brings A (by omega) n hn _ _ _)) (Is.k ?_)
              refine w_Main_priced_58 ?_
              refine w_Main_priced_63 ?_
              exact ⟨by rw [pricedV_mk (by omega)]; first | rw [if_pos (by omega)] | rw [if_neg (by omega)], Keep.rfl⟩
          · try simp only [ite01t, ite01v, Int32.reduceToInt, t_m1, t_m2, t_m1000, Decidable.not_not] at c28
            refine w_Main_priced_33 ?_
            exact ⟨by rw [pricedV_no (by omega)], Keep.rfl⟩
    · have L1 := I1.lay
      have hk1 : (kk : Int) < (h1.1 3 0).toInt := by rw [K1.c 3 (by omega)]; omega
      have is1 := fun (d : Nat) => s_isLand1 (rod := rod) (d := d) I1 k kk ek hk1
      exact (mm_priced I1 ek hk1 (by rw [K1.c _ (by omega)]; exact hn)).imp (fun r h2 q => by rw [ldk K1 ha] at q; exact q)
  · refine ⟨-1, ?_, fun h1 I1 K1 => ?_⟩
    · refine n_Main_priced ?_
      refine w_Main_priced_0 L (Tc.wc (s_landAt0 hI hk)) (Is.k ?_)
      refine w_Main_priced_8 rfl (fun _ => ?_) (fun _ c => nomatch c)
      refine w_Main_priced_33 ?_
      exact ⟨rfl, Keep.rfl⟩
    · have L1 := I1.lay
      have hk1 : ¬ (0 ≤ k.toInt ∧ k.toInt < (h1.1 3 0).toInt) := by rw [K1.c 3 (by omega)]; exact hk
      refine n_Model_priced ?_
      refine w_Model_priced_0 L1 (Tc.wc (s_isLand0 I1 k hk1)) (Is.k ?_)
      refine w_Model_priced_5 (fun c5 => ?_) (fun c5 => absurd c5 (by decide))
      refine w_Model_priced_27 ?_
      exact ⟨rfl, Keep.rfl⟩
theorem op_sold (k y p : Int32) : OpI INV rod 153 255 [k, y, p] := by
  refine OpI.mk fun h hI => ?_
  have L := hI.lay
  by_cases hk : 0 ≤ k.toInt ∧ k.toInt < (h.1 3 0).toInt
  · obtain ⟨A, R, ha, hk2⟩ := hI.landK hk
    have ek := n_of hk.1
    have at1 := fun (d : Nat) => s_landAt1 (rod := rod) (d := d) hI hk
    generalize k.toNatClampNeg = kk at ek hk2 A R ha at1
    have tw := R.tw
    have bu := R.bu
    have le := R.le
    obtain ⟨n, hn⟩ := Int.eq_ofNat_of_zero_le bu.1
    refine ⟨if (1 ≤ y.toInt ∧ y.toInt ≤ 60) ∧ 0 ≤ p.toInt ∧ p.toInt ≤ 99 then cntW (ld h (8 + 18 * kk)) n y (-1) p else -1, ?_, fun h1 I1 K1 => ?_⟩
    · refine n_Main_sold ?_
      refine w_Main_sold_0 L (Tc.wc (at1 _)) (Is.k ?_)
      refine w_Main_sold_8 rfl (fun c => nomatch c) (fun _ _ => ?_)
      refine w_Main_sold_15 (Tc.wc (s_isOffer _ _ _)) (Is.k ?_)
      refine w_Main_sold_20 (fun c20 => ?_) (fun c20 => ?_)
      · try simp only [ite01t, ite01v, Int32.reduceToInt, t_m1, t_m2, t_m1000, Decidable.not_not] at c20
        refine w_Main_sold_27 A (Tc.wc (s_howMany A (by omega) n hn _ _ _)) (Is.k ?_)
        refine w_Main_sold_35 ?_
        exact ⟨by first | rw [if_pos (by omega)] | rw [if_neg (by omega)], Keep.rfl⟩
      · try simp only [ite01t, ite01v, Int32.reduceToInt, t_m1, t_m2, t_m1000, Decidable.not_not] at c20
        refine w_Main_sold_23 ?_
        refine w_Main_sold_35 ?_
        exact ⟨by first | rw [if_pos (by omega)] | rw [if_neg (by omega)], Keep.rfl⟩
    · have L1 := I1.lay
      have hk1 : (kk : Int) < (h1.1 3 0).toInt := by rw [K1.c 3 (by omega)]; omega
      have is1 := fun (d : Nat) => s_isLand1 (rod := rod) (d := d) I1 k kk ek hk1
      refine n_Model_sold ?_
      refine w_Model_sold_0 L1 (is1 _) ?_
      rintro _ h0 ⟨rfl, k0, M0⟩
      have I0 := I1.keep k0
      have L0 := I0.lay
      have K0 := (Keep.rfl (h := h1)).trans k0
      have e0 : h0.1 (8 + 18 * kk) = h.1 (8 + 18 * kk) := (K1.trans K0).c _ (by omega)
      refine w_Model_sold_5 (fun c5 => absurd c5 (by decide)) (fun c5 => ?_)
      refine w_Model_sold_8 (Tc.wc (s_isIn _ _ _ _)) (Is.k ?_)
      refine w_Model_sold_15 (fun c15 => ?_) (fun c15 => ?_)
      · try simp only [ite01t, ite01v, Int32.reduceToInt, t_m1, t_m2, t_m1000, Decidable.not_not] at c15
        refine w_Model_sold_28 ?_
        exact ⟨by rw [if_neg (by omega)], K0⟩
      · try simp only [ite01t, ite01v, Int32.reduceToInt, t_m1, t_m2, t_m1000, Decidable.not_not] at c15
        refine w_Model_sold_18 (Tc.wc (s_isIn _ _ _ _)) (Is.k ?_)
        refine w_Model_sold_25 (fun c25 => ?_) (fun c25 => ?_)
        · try simp only [ite01t, ite01v, Int32.reduceToInt, t_m1, t_m2, t_m1000, Decidable.not_not] at c25
          refine w_Model_sold_30 L0 (s_asTold M0 L0 ha) ?_
          rintro _ h30 ⟨rfl, k30, M30, T30⟩
          have I30 := I0.keep k30
          have L30 := I30.lay
          have K30 := K0.trans k30
          have e30 : h30.1 (8 + 18 * kk) = h.1 (8 + 18 * kk) := (K1.trans K30).c _ (by omega)
          refine w_Model_sold_34 rfl ?_
          have e14 := M30.2.2.2.2.1
          refine Wb.upc n (fun j L' => ∃ (x m : Int32), L' = [some (.inr (.inr (.inl (some 84)))), some (.inl k), some (.inl y), some (.inl p), some (.inl m), some (.inl x)] ∧ x.toInt = (j : Int) ∧ m = cntW (ld h30 (8 + 18 * kk)) j y (-1) p) ?_ (Nat.zero_le n) ⟨0, 0, rfl, rfl, rfl⟩
          rintro j _ hj ⟨x, m, rfl, hx, hm⟩ ih
          have ex := n_eq hx
          have en : (h30.1 (8 + 18 * kk) 4).toInt = (n : Int) := by rw [e30]; exact hn
          refine w_Model_sold_40 L30 (fun c40 => ?_) (fun c40 => ?_)
          · try simp only [ite01t, ite01v, Int32.reduceToInt, t_m1, t_m2, t_m1000, Decidable.not_not, ex, e14] at c40
            refine w_Model_sold_76 ?_
            exact ⟨by rw [if_pos (by omega), hm, show j = n by omega, ldk (K1.trans K30) ha], K30⟩
          · try simp only [ite01t, ite01v, Int32.reduceToInt, t_m1, t_m2, t_m1000, Decidable.not_not, ex, e14] at c40
            have lj := lw_of (Keep.rfl (h := h30)) T30 ha (b := j) (by omega) y p
            refine w_Model_sold_49 L30 (Tc.wc (s_mwants M30 L30 x j hx (by omega) y p)) (Is.k ?_)
            refine w_Model_sold_59 (fun c59 => ?_) (fun c59 => ?_)
            · try simp only [ite01t, ite01v, Int32.reduceToInt, t_m1, t_m2, t_m1000, Decidable.not_not, ex, e14] at c59
              try rw [lj] at c59
              refine w_Model_sold_66 ?_
              refine w_Model_sold_67 rfl ?_
              refine ih (by omega) _ ⟨_, _, rfl, t_succ hx (by omega), ?_⟩
              clear ih
              rw [cntW_succ, ← hm]
              split
              · first | rfl | (exfalso; grind)
              · first | rfl | (exfalso; rename_i qq; exact qq ⟨Or.inl rfl, c59⟩)
            · try simp only [ite01t, ite01v, Int32.reduceToInt, t_m1, t_m2, t_m1000, Decidable.not_not, ex, e14] at c59
              try rw [lj] at c59
              refine w_Model_sold_62 ?_
              refine w_Model_sold_67 rfl ?_
              refine ih (by omega) _ ⟨_, _, rfl, t_succ hx (by omega), ?_⟩
              clear ih
              rw [cntW_succ, ← hm]
              split
              · first | rfl | (exfalso; grind)
              · first | rfl | (exfalso; rename_i qq; exact qq ⟨Or.inl rfl, c59⟩)
        · try simp only [ite01t, ite01v, Int32.reduceToInt, t_m1, t_m2, t_m1000, Decidable.not_not] at c25
          refine w_Model_sold_28 ?_
          exact ⟨by rw [if_neg (by omega)], K0⟩
  · refine ⟨-1, ?_, fun h1 I1 K1 => ?_⟩
    · refine n_Main_sold ?_
      refine w_Main_sold_0 L (Tc.wc (s_landAt0 hI hk)) (Is.k ?_)
      refine w_Main_sold_8 rfl (fun _ => ?_) (fun _ c => nomatch c)
      refine w_Main_sold_23 ?_
      refine w_Main_sold_35 ?_
      exact ⟨rfl, Keep.rfl⟩
    · have L1 := I1.lay
      have hk1 : ¬ (0 ≤ k.toInt ∧ k.toInt < (h1.1 3 0).toInt) := by rw [K1.c 3 (by omega)]; exact hk
      refine n_Model_sold ?_
      refine w_Model_sold_0 L1 (Tc.wc (s_isLand0 I1 k hk1)) (Is.k ?_)
      refine w_Model_sold_5 (fun c5 => ?_) (fun c5 => absurd c5 (by decide))
      refine w_Model_sold_28 ?_
      exact ⟨rfl, Keep.rfl⟩
/-- a loop over heaps -/
theorem Wb.uph {B : MB} {pc : Nat} {st : List MV} {Q : Option MV → MH → Prop} (n : Nat) (P : Nat → ML → MH → Prop) (step : ∀ k L h, k ≤ n → P k L h → (k < n → ∀ L' h', P (k + 1) L' h' → Wb rod d B pc L' st h' Q) → Wb rod d B pc L st h Q) {k : Nat} {L : ML} {h : MH} (hk : k ≤ n) (H : P k L h) : Wb rod d B pc L st h Q := by
  have : ∀ j k L h, k + j = n → P k L h → Wb rod d B pc L st h Q := by
    intro j
    induction j with
    | zero => intro k L h e H; exact step k L h (by omega) H (fun q => absurd q (by omega))
    | succ j ih => intro k L h e H; exact step k L h (by omega) H (fun _ L' h' H' => ih (k + 1) L' h' (by omega) H')
  exact this (n - k) k L h (by omega) H
def rankV (D : Nat → Nat → Int32) (n : Nat) (y : Int32) (j : Nat) : Int32 := sumF (fun i => pricedV D n y (Int32.ofNat i) 1) j
theorem rankV_succ (D : Nat → Nat → Int32) (n : Nat) (y : Int32) (j : Nat) : rankV D n y (j + 1) = rankV D n y j + pricedV D n y (Int32.ofNat j) 1 := rfl
theorem op_ranked (k y : Int32) : OpI INV rod 152 254 [k, y] := by
  refine OpI.mk fun h hI => ?_
  have L := hI.lay
  by_cases hk : 0 ≤ k.toInt ∧ k.toInt < (h.1 3 0).toInt
  · obtain ⟨A, R, ha, hk2⟩ := hI.landK hk
    have ek := n_of hk.1
    have at1 := fun (d : Nat) => s_landAt1 (rod := rod) (d := d) hI hk
    generalize k.toNatClampNeg = kk at ek hk2 A R ha at1
    have tw := R.tw
    have bu := R.bu
    have le := R.le
    obtain ⟨n, hn⟩ := Int.eq_ofNat_of_zero_le bu.1
    refine ⟨if 1 ≤ y.toInt ∧ y.toInt ≤ 60 then rankV (ld h (8 + 18 * kk)) n y 4 else -1, ?_, fun h1 I1 K1 => ?_⟩
    · refine n_Main_ranked ?_
      refine w_Main_ranked_0 L (Tc.wc (at1 _)) (Is.k ?_)
      refine w_Main_ranked_8 rfl (fun c => nomatch c) (fun _ _ => ?_)
      refine w_Main_ranked_13 (Tc.wc (s_isOffer _ _ _)) (Is.k ?_)
      refine w_Main_ranked_18 (fun c18 => ?_) (fun c18 => ?_)
      · try simp only [ite01t, ite01v, Int32.reduceToInt, t_m1, t_m2, t_m1000, Decidable.not_not] at c18
        refine w_Main_ranked_23 rfl ?_
        refine Wb.upc 4 (fun j L' => ∃ (x m : Int32), L' = [some (.inr (.inr (.inl (some 0)))), some (.inl k), some (.inl y), some (.inr (.inr (.inl (some (8 + 18 * kk))))), some (.inl m), some (.inl x)] ∧ x.toInt = (j : Int) ∧ m = rankV (ld h (8 + 18 * kk)) n y j) ?_ (Nat.zero_le _) ⟨0, 0, rfl, rfl, rfl⟩
        rintro j _ hj ⟨x, m, rfl, hx, hm⟩ ih
        have ex : x = Int32.ofNat j := i32_of (by rw [hx, t_nat (by omega)])
        refine w_Main_ranked_29 (fun c29 => ?_) (fun c29 => ?_)
        · try simp only [ite01t, ite01v, Int32.reduceToInt, t_m1, t_m2, t_m1000, Decidable.not_not] at c29
          refine w_Main_ranked_60 ?_
          exact ⟨by rw [if_pos (by omega), hm, show j = 4 by omega], Keep.rfl⟩
        · try simp only [ite01t, ite01v, Int32.reduceToInt, t_m1, t_m2, t_m1000, Decidable.not_not] at c29
          refine w_Main_ranked_35 A (Tc.wc (s_bestPrice A (by omega) n hn _ _)) (Is.k ?_)
          refine w_Main_ranked_48 A (Tc.wc (s_brings A (by omega) n hn _ _ _)) (Is.k ?_)
          refine w_Main_ranked_51 rfl ?_
          refine ih (by omega) _ ⟨_, _, rfl, t_succ hx (by omega), ?_⟩
          rw [rankV_succ, ← hm, ← ex, pricedV_mk (by omega), if_neg (by decide)]
      · try simp only [ite01t, ite01v, Int32.reduceToInt, t_m1, t_m2, t_m1000, Decidable.not_not] at c18
        refine w_Main_ranked_21 ?_
        exact ⟨by rw [if_neg (by omega)], Keep.rfl⟩
    · have L1 := I1.lay
      have hk1 : (kk : Int) < (h1.1 3 0).toInt := by rw [K1.c 3 (by omega)]; omega
      have is1 := fun (d : Nat) => s_isLand1 (rod := rod) (d := d) I1 k kk ek hk1
      refine n_Model_ranked ?_
      refine w_Model_ranked_0 rfl ?_
      refine Wb.uph 4 (fun j L' h' => ∃ (x m : Int32) (u : Option MV), L' = [some (.inr (.inr (.inl (some 84)))), some (.inl k), some (.inl y), some (.inl m), some (.inl x), u] ∧ x.toInt = (j : Int) ∧ m = rankV (ld h (8 + 18 * kk)) n y j ∧ Keep h1 h' ∧ (j = 0 ∨ (1 ≤ y.toInt ∧ y.toInt ≤ 60))) ?_ (Nat.zero_le _) ⟨0, 0, _, rfl, rfl, rfl, Keep.rfl, Or.inl rfl⟩
      rintro j _ g hj ⟨x, m, u, rfl, hx, hm, KK, hy⟩ ih
      have ex : x = Int32.ofNat j := i32_of (by rw [hx, t_nat (by omega)])
      have Ig := I1.keep KK
      have Lg := Ig.lay
      refine w_Model_ranked_5 (fun c5 => ?_) (fun c5 => ?_)
      · try simp only [ite01t, ite01v, Int32.reduceToInt, t_m1, t_m2, t_m1000, Decidable.not_not] at c5
        refine w_Model_ranked_40 ?_
        exact ⟨by rw [if_pos (by omega), hm, show j = 4 by omega], KK⟩
      · try simp only [ite01t, ite01v, Int32.reduceToInt, t_m1, t_m2, t_m1000, Decidable.not_not] at c5
        refine w_Model_ranked_11 Lg (mm_priced (kk := kk) (n := n) Ig ek (by rw [KK.c 3 (by omega)]; exact hk1) (by rw [(K1.trans KK).c _ (by omega)]; exact hn)) ?_
        rintro _ h11 ⟨rfl, k11⟩
        have L11 := (Ig.keep k11).lay
        refine w_Model_ranked_20 rfl (fun c20 => ?_) (fun c20 => ?_)
        · try simp only [ite01t, ite01v, Int32.reduceToInt, t_m1, t_m2, t_m1000, Decidable.not_not] at c20
          refine w_Model_ranked_29 rfl ?_
          refine ih (by omega) _ _ ⟨_, _, _, rfl, t_succ hx (by omega), ?_, KK.trans k11, ?_⟩
          · rw [rankV_succ, ← hm, ← ex, ldk (K1.trans KK) ha]
          · refine Or.inr (Classical.byContradiction fun q => ?_)
            rw [pricedV_no (by omega)] at c20
            exact absurd c20 (by decide)
        · try simp only [ite01t, ite01v, Int32.reduceToInt, t_m1, t_m2, t_m1000, Decidable.not_not] at c20
          refine w_Model_ranked_27 ?_
          refine ⟨?_, KK.trans k11⟩
          rw [if_neg (fun q => c20 (pricedV_bd _ n y x (by omega) (by omega)))]
  · refine ⟨-1, ?_, fun h1 I1 K1 => ?_⟩
    · refine n_Main_ranked ?_
      refine w_Main_ranked_0 L (Tc.wc (s_landAt0 hI hk)) (Is.k ?_)
      refine w_Main_ranked_8 rfl (fun _ => ?_) (fun _ c => nomatch c)
      refine w_Main_ranked_21 ?_
      exact ⟨rfl, Keep.rfl⟩
    · have L1 := I1.lay
      have hk1 : ¬ (0 ≤ k.toInt ∧ k.toInt < (h1.1 3 0).toInt) := by rw [K1.c 3 (by omega)]; exact hk
      refine n_Model_ranked ?_
      refine w_Model_ranked_0 rfl ?_
      refine w_Model_ranked_5 (fun c5 => absurd c5 (by decide)) (fun c5 => ?_)
      refine w_Model_ranked_11 L1 (Q1 := fun r h' => r = some (.inl (-1)) ∧ h' = h1) ?_ ?_
      · refine n_Model_priced ?_
        refine w_Model_priced_0 L1 (Tc.wc (s_isLand0 I1 k hk1)) (Is.k ?_)
        refine w_Model_priced_5 (fun _ => ?_) (fun c => absurd rfl c)
        refine w_Model_priced_27 ?_
        exact ⟨rfl, rfl⟩
      · rintro _ _ ⟨rfl, rfl⟩
        refine w_Model_ranked_20 rfl (fun c => absurd c (by decide)) (fun _ => ?_)
        refine w_Model_ranked_27 ?_
        exact ⟨rfl, Keep.rfl⟩
end M36
