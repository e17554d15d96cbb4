/-! OPERATIONS: sold, priced, ranked -/
section M36
variable {rod : Nat → Nat × (Nat → Int32)} {d : Nat} {h : MH} {a l : Nat}
theorem s_comesIn (M : MLand h a l) (T : ArrT h a) (L : Lay h.2) (ha : a + 9 ≤ 45) (n : Nat) (hn : (h.1 a 4).toInt = (n : Int)) (y kd p : Int32) : Tc rod (d + 3) 245 [.inr (.inr (.inl (some 84))), .inl y, .inl kd, .inl p] h (some (.inl (brF (ld h a) n y kd p))) h := by
  have B8 := M.1.bu
  have e14 := M.2.2.2.2.1
  apply Wc.tc
  refine n_Model_comesIn ?_
  refine w_Model_comesIn_0 rfl ?_
  refine Wb.upc n (fun j L' => ∃ (x m : Int32), L' = [some (.inr (.inr (.inl (some 84)))), some (.inl y), some (.inl kd), some (.inl p), some (.inl m), some (.inl x)] ∧ x.toInt = (j : Int) ∧ m = cntW (ld h a) j y kd p) ?_ (Nat.zero_le n) ⟨0, 0, rfl, rfl, rfl⟩
  rintro j _ hj ⟨x, m, rfl, hx, hm⟩ ih
  have ex := n_eq hx
  have l1 : ld h a 1 j = h.1 (a + 1) j := rfl
  refine w_Model_comesIn_6 L (fun c6 => ?_) (fun c6 => ?_)
  · try simp only [ite01t, ite01v, Int32.reduceToInt, t_m1, t_m2, t_m1000, Decidable.not_not, ex, e14, Nat.add_zero] at c6
    refine w_Model_comesIn_58 ?_
    exact ⟨by rw [hm, show j = n by omega, brF, Int32.mul_comm], rfl⟩
  · try simp only [ite01t, ite01v, Int32.reduceToInt, t_m1, t_m2, t_m1000, Decidable.not_not, ex, e14, Nat.add_zero] at c6
    have lj := lw_of (Keep.rfl (h := h)) T ha (b := j) (by omega) y p
    refine w_Model_comesIn_15 (fun c15 => ?_) (fun c15 => ?_)
    · try simp only [ite01t, ite01v, Int32.reduceToInt, t_m1, t_m2, t_m1000, Decidable.not_not, ex, e14, Nat.add_zero] at c15
      refine w_Model_comesIn_33 L (Tc.wc (s_mwants M L x j hx (by omega) y p)) (Is.k ?_)
      refine w_Model_comesIn_41 (fun c41 => ?_) (fun c41 => ?_)
      · try simp only [ite01t, ite01v, Int32.reduceToInt, t_m1, t_m2, t_m1000, Decidable.not_not, ex, e14, Nat.add_zero] at c41
        try rw [lj] at c41
        refine w_Model_comesIn_48 ?_
        refine w_Model_comesIn_49 rfl ?_
        refine ih (by omega) _ ⟨_, _, rfl, t_succ hx (by omega), ?_⟩
        clear ih
        rw [cntW_succ, ← hm]
        split
        · first | rfl | (exfalso; grind)
        · first | rfl | (exfalso; grind)
      · try simp only [ite01t, ite01v, Int32.reduceToInt, t_m1, t_m2, t_m1000, Decidable.not_not, ex, e14, Nat.add_zero] at c41
        try rw [lj] at c41
        refine w_Model_comesIn_44 ?_
        refine w_Model_comesIn_49 rfl ?_
        refine ih (by omega) _ ⟨_, _, rfl, t_succ hx (by omega), ?_⟩
        clear ih
        rw [cntW_succ, ← hm]
        split
        · first | rfl | (exfalso; grind)
        · first | rfl | (exfalso; grind)
    · try simp only [ite01t, ite01v, Int32.reduceToInt, t_m1, t_m2, t_m1000, Decidable.not_not, ex, e14, Nat.add_zero] at c15
      refine w_Model_comesIn_22 L (Tc.wc (s_of M L x 0 j 0 hx rfl (by omega) (by omega))) (Is.k ?_)
      refine w_Model_comesIn_29 (fun c29 => ?_) (fun c29 => ?_)
      · try simp only [ite01t, ite01v, Int32.reduceToInt, t_m1, t_m2, t_m1000, Decidable.not_not, ex, e14, Nat.add_zero] at c29
        try rw [lj] at c41
        refine w_Model_comesIn_48 ?_
        refine w_Model_comesIn_49 rfl ?_
        refine ih (by omega) _ ⟨_, _, rfl, t_succ hx (by omega), ?_⟩
        clear ih
        rw [cntW_succ, ← hm]
        split
        · first | rfl | (exfalso; grind)
        · first | rfl | (exfalso; grind)
      · try simp only [ite01t, ite01v, Int32.reduceToInt, t_m1, t_m2, t_m1000, Decidable.not_not, ex, e14, Nat.add_zero] at c29
        refine w_Model_comesIn_33 L (Tc.wc (s_mwants M L x j hx (by omega) y p)) (Is.k ?_)
        refine w_Model_comesIn_41 (fun c41 => ?_) (fun c41 => ?_)
        · try simp only [ite01t, ite01v, Int32.reduceToInt, t_m1, t_m2, t_m1000, Decidable.not_not, ex, e14, Nat.add_zero] at c41
          try rw [lj] at c41
          refine w_Model_comesIn_48 ?_
          refine w_Model_comesIn_49 rfl ?_
          refine ih (by omega) _ ⟨_, _, rfl, t_succ hx (by omega), ?_⟩
          clear ih
          rw [cntW_succ, ← hm]
          split
          · first | rfl | (exfalso; grind)
          · first | rfl | (exfalso; grind)
        · try simp only [ite01t, ite01v, Int32.reduceToInt, t_m1, t_m2, t_m1000, Decidable.not_not, ex, e14, Nat.add_zero] at c41
          try rw [lj] at c41
          refine w_Model_comesIn_44 ?_
          refine w_Model_comesIn_49 rfl ?_
          refine ih (by omega) _ ⟨_, _, rfl, t_succ hx (by omega), ?_⟩
          clear ih
          rw [cntW_succ, ← hm]
          split
          · first | rfl | (exfalso; grind)
          · first | rfl | (exfalso; grind)
def pricedV (D : Nat → Nat → Int32) (n : Nat) (y kd co : Int32) : Int32 := if (1 ≤ y.toInt ∧ y.toInt ≤ 60) ∧ -1 ≤ kd.toInt ∧ kd.toInt ≤ 3 then (if co.toInt = 0 then bestF (brF D n y kd) 99 else brF D n y kd (bestF (brF D n y kd) 99)) else -1
theorem mm_priced {k y kd co : Int32} {kk n : Nat} (I : INV h) (ek : k.toInt = (kk : Int)) (hk : (kk : Int) < (h.1 3 0).toInt) (hn : (h.1 (8 + 18 * kk) 4).toInt = (n : Int)) : Wc rod (d + 4) 244 [.inr (.inr (.inl (some 84))), .inl k, .inl y, .inl kd, .inl co] h (Ans (pricedV (ld h (8 + 18 * kk)) n y kd co) h) := by
  have L := I.lay
  have q := I.many 0 (by omega)
  have ha : 8 + 18 * kk + 9 ≤ 45 := by omega
  have bu := (I.land kk hk).2.1.bu
  have is1 := fun (d : Nat) => s_isLand1 (rod := rod) (d := d) I k kk ek hk
  refine n_Model_priced ?_
  refine w_Model_priced_0 L (is1 _) ?_
  rintro _ h0 ⟨rfl, k0, M0⟩
  have I0 := I.keep k0
  have L0 := I0.lay
  have K0 := (Keep.rfl (h := h)).trans k0
  refine w_Model_priced_5 (fun c5 => absurd c5 (by decide)) (fun c5 => ?_)
  refine w_Model_priced_8 (Tc.wc (s_isIn _ _ _ _)) (Is.k ?_)
  refine w_Model_priced_15 (fun c15 => ?_) (fun c15 => ?_)
  · try simp only [ite01t, ite01v, Int32.reduceToInt, t_m1, t_m2, t_m1000, Decidable.not_not] at c15
    refine w_Model_priced_27 ?_
    exact ⟨by rw [pricedV, if_neg (by omega)], K0⟩
  · try simp only [ite01t, ite01v, Int32.reduceToInt, t_m1, t_m2, t_m1000, Decidable.not_not] at c15
    refine w_Model_priced_18 (Tc.wc (s_isIn _ _ _ _)) (Is.k ?_)
    refine w_Model_priced_24 (fun c24 => ?_) (fun c24 => ?_)
    · try simp only [ite01t, ite01v, Int32.reduceToInt, t_m1, t_m2, t_m1000, Decidable.not_not] at c24
      refine w_Model_priced_29 L0 (s_asTold M0 L0 ha) ?_
      rintro _ h29 ⟨rfl, k29, M29, T29⟩
      have I29 := I0.keep k29
      have L29 := I29.lay
      have K29 := K0.trans k29
      have e29 : h29.1 (8 + 18 * kk) = h.1 (8 + 18 * kk) := K29.c _ (by omega)
      refine w_Model_priced_33 rfl ?_
      refine Wb.upc 99 (fun j L' => ∃ (x b : Int32), L' = [some (.inr (.inr (.inl (some 84)))), some (.inl k), some (.inl y), some (.inl kd), some (.inl co), some (.inl b), some (.inl x)] ∧ x.toInt = ((j + 1 : Nat) : Int) ∧ b = bestF (brF (ld h29 (8 + 18 * kk)) n y kd) j) ?_ (Nat.zero_le _) ⟨1, 0, rfl, rfl, rfl⟩
      rintro j _ hj ⟨x, b, rfl, hx, hb⟩ ih
      have ex : x = Int32.ofNat (j + 1) := i32_of (by rw [hx, t_nat (by omega)])
      refine w_Model_priced_39 (fun c39 => ?_) (fun c39 => ?_)
      · try simp only [ite01t, ite01v, Int32.reduceToInt, t_m1, t_m2, t_m1000, Decidable.not_not] at c39
        refine w_Model_priced_80 (fun c80 => ?_) (fun c80 => ?_)
        · try simp only [ite01t, ite01v, Int32.reduceToInt, t_m1, t_m2, t_m1000, Decidable.not_not] at c80
          refine w_Model_priced_96 ?_
          refine w_Model_priced_98 ?_
          have hj : j = 99 := by omega
          subst hj
          refine ⟨?_, K29⟩
          rw [pricedV, if_pos (by omega), ← ldk K29 ha]
          first | rw [if_pos (by omega)] | rw [if_neg (by omega)]
          rw [hb]
        · try simp only [ite01t, ite01v, Int32.reduceToInt, t_m1, t_m2, t_m1000, Decidable.not_not] at c80
          refine w_Model_priced_85 L (Tc.wc (s_comesIn M29 T29 L29 ha n (by rw [e29]; exact hn) _ _ _)) (Is.k ?_)
          refine w_Model_priced_93 ?_
          refine w_Model_priced_98 ?_
          have hj : j = 99 := by omega
          subst hj
          refine ⟨?_, K29⟩
          rw [pricedV, if_pos (by omega), ← ldk K29 ha]
          first | rw [if_pos (by omega)] | rw [if_neg (by omega)]
          rw [hb]
      · try simp only [ite01t, ite01v, Int32.reduceToInt, t_m1, t_m2, t_m1000, Decidable.not_not] at c39
        refine w_Model_priced_46 L (Tc.wc (s_comesIn M29 T29 L29 ha n (by rw [e29]; exact hn) _ _ _)) (Is.k ?_)
        refine w_Model_priced_54 L (Tc.wc (s_comesIn M29 T29 L29 ha n (by rw [e29]; exact hn) _ _ _)) (Is.k ?_)
        refine w_Model_priced_62 (fun c62 => ?_) (fun c62 => ?_)
        · try simp only [ite01t, ite01v, Int32.reduceToInt, t_m1, t_m2, t_m1000, Decidable.not_not] at c62
          refine w_Model_priced_70 ?_
          refine w_Model_priced_72 rfl ?_
          refine ih (by omega) _ ⟨_, _, rfl, t_succ hx (by omega), ?_⟩
          simp only [bestF]
          rw [← hb, ← ex]
          first | rw [if_pos (by rw [Int32.lt_iff_toInt_lt]; omega)] | rw [if_neg (by rw [Int32.lt_iff_toInt_lt]; omega)]
        · try simp only [ite01t, ite01v, Int32.reduceToInt, t_m1, t_m2, t_m1000, Decidable.not_not] at c62
          refine w_Model_priced_65 ?_
          refine w_Model_priced_72 rfl ?_
          refine ih (by omega) _ ⟨_, _, rfl, t_succ hx (by omega), ?_⟩
          simp only [bestF]
          rw [← hb, ← ex]
          first | rw [if_pos (by rw [Int32.lt_iff_toInt_lt]; omega)] | rw [if_neg (by rw [Int32.lt_iff_toInt_lt]; omega)]
    · try simp only [ite01t, ite01v, Int32.reduceToInt, t_m1, t_m2, t_m1000, Decidable.not_not] at c24
      refine w_Model_priced_27 ?_
      exact ⟨by rw [pricedV, if_neg (by omega)], K0⟩
end M36
