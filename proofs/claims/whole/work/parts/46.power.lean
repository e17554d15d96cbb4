/-! OPERATION power: the reference's side -/
section M46
variable {rod : Nat → Nat × (Nat → Int32)} {d : Nat} {h : MH} {a l : Nat}
theorem s_mworthOf (M : MBarg h a l) (L : Lay h.2) (x : Int32) (s : Nat) (hx : x.toInt = (s : Int)) (hs : s < 16) : Tc rod (d + 1) 284 [.inr (.inr (.inl (some 84))), .inl x] h (some (.inl (h.1 (a + 1) s))) h := by
  have hl := M.2.1
  have e := n_add M.2.2.1 hx (by omega)
  apply Wc.tc
  refine n_Model_worthOf ?_
  refine w_Model_worthOf_0 (fun kc0 => ?_) (fun kc0 => ?_)
  · try simp only [ite01t, ite01v, Int32.reduceToInt, t_m1, t_m2, t_m1000, Decidable.not_not] at kc0
    refine w_Model_worthOf_8 L (by rw [e]; omega) ?_
    refine w_Model_worthOf_19 ?_
    exact ⟨by rw [n_eq e, M.1.wo (by omega) hs], rfl⟩
  · try simp only [ite01t, ite01v, Int32.reduceToInt, t_m1, t_m2, t_m1000, Decidable.not_not] at kc0
    refine w_Model_worthOf_4 ?_
    refine w_Model_worthOf_19 ?_
    exact ⟨by rw [show s = 0 by omega, M.1.2.2.1], rfl⟩
theorem s_swingsOf (M : MBarg h a l) (L : Lay h.2) {p : Nat} (hp : (h.1 a 0).toInt = (p : Int)) (p1 : 1 ≤ p ∧ p ≤ 4) (x o : Int32) (j : Nat) (hx : x.toInt = (j : Int)) (hj : j < p) : Tc rod (d + 2) 296 [.inr (.inr (.inl (some 84))), .inl x, .inl o] h (some (.inl (swM (h.1 (a + 1)) j o (2 ^ p)))) h := by
  have ev := ev_t hp p1
  have pe := M.2.2.2
  apply Wc.tc
  refine n_Model_swingsOf ?_
  refine w_Model_swingsOf_0 rfl ?_
  refine Wb.upc (2 ^ p - 1) (fun s L' => ∃ (z m : Int32) (u : Option MV), L' = [some (.inr (.inr (.inl (some 84)))), some (.inl x), some (.inl o), some (.inl m), some (.inl z), u] ∧ z.toInt = ((s + 1 : Nat) : Int) ∧ m = swM (h.1 (a + 1)) j o (s + 1)) ?_ (Nat.zero_le _) ⟨1, 0, _, rfl, rfl, by rw [swM_succ, Nat.zero_testBit, if_neg Bool.false_ne_true]; rfl⟩
  rintro s _ hs ⟨z, m, u, rfl, hz, hm⟩ ih
  refine w_Model_swingsOf_5 L (fun kc5 => ?_) (fun kc5 => ?_)
  · (try simp only [ite01t, ite01v, Int32.reduceToInt, t_m1, t_m2, t_m1000, Decidable.not_not] at kc5); (try simp only [pe] at kc5); (try simp only [ev.2.1] at kc5)
    refine w_Model_swingsOf_77 ?_
    exact ⟨by rw [hm, show 2 ^ p = s + 1 by omega], rfl⟩
  · (try simp only [ite01t, ite01v, Int32.reduceToInt, t_m1, t_m2, t_m1000, Decidable.not_not] at kc5); (try simp only [pe] at kc5); (try simp only [ev.2.1] at kc5)
    have b := bt (s := s + 1) (i := j) (by omega) (by omega)
    have bz : ((z >>> (x &&& 31)) &&& 1).toInt = (if (s + 1).testBit j = true then 1 else 0) := by rw [ofN hz (by omega), ofN hx (by omega)]; exact b.1
    refine w_Model_swingsOf_16 (fun kc16 => ?_) (fun kc16 => ?_)
    · (try simp only [ite01t, ite01v, Int32.reduceToInt, t_m1, t_m2, t_m1000, Decidable.not_not] at kc16); (try simp only [pe] at kc16); (try simp only [ev.2.1] at kc16)
      have sl : s + 1 - 2 ^ j ≤ s + 1 := Nat.sub_le _ _
      have bj : (s + 1).testBit j = true := Classical.byContradiction fun q => by rw [if_neg q] at bz; omega
      have bx : (z &&& (((1 : Int32) <<< (x &&& 31)) ^^^ (-1))).toInt = ((s + 1 - 2 ^ j : Nat) : Int) := by rw [ofN hz (by omega), ofN hx (by omega), b.2.2.1, if_pos bj, t_nat (by omega)]
      refine w_Model_swingsOf_28 L (Tc.wc (s_mworthOf M L z (s + 1) hz (by omega))) (Is.k ?_)
      refine w_Model_swingsOf_34 L (Tc.wc (s_mworthOf M L _ (s + 1 - 2 ^ j) bx (by omega))) (Is.k ?_)
      refine w_Model_swingsOf_46 rfl (fun kc46 => ?_) (fun kc46 => ?_)
      · (try simp only [ite01t, ite01v, Int32.reduceToInt, t_m1, t_m2, t_m1000, Decidable.not_not] at kc46); (try simp only [pe] at kc46); (try simp only [ev.2.1] at kc46)
        refine w_Model_swingsOf_64 ?_
        refine w_Model_swingsOf_69 rfl ?_
        refine w_Model_swingsOf_71 rfl ?_
        refine ih (by omega) _ ⟨_, _, _, rfl, t_succ hz (by omega), ?_⟩
        rw [swM_succ, ← hm]
        first | (rw [if_neg (fun q => by rw [if_pos q] at bz; omega), Int32.add_zero]; done) | (rw [if_pos bj, if_pos (by omega)]; done) | (rw [if_pos bj, if_neg (by omega)]; done)
      · (try simp only [ite01t, ite01v, Int32.reduceToInt, t_m1, t_m2, t_m1000, Decidable.not_not] at kc46); (try simp only [pe] at kc46); (try simp only [ev.2.1] at kc46)
        refine w_Model_swingsOf_55 (fun kc55 => ?_) (fun kc55 => ?_)
        · (try simp only [ite01t, ite01v, Int32.reduceToInt, t_m1, t_m2, t_m1000, Decidable.not_not] at kc55); (try simp only [pe] at kc55); (try simp only [ev.2.1] at kc55)
          refine w_Model_swingsOf_68 ?_
          refine w_Model_swingsOf_69 rfl ?_
          refine w_Model_swingsOf_71 rfl ?_
          refine ih (by omega) _ ⟨_, _, _, rfl, t_succ hz (by omega), ?_⟩
          rw [swM_succ, ← hm]
          first | (rw [if_neg (fun q => by rw [if_pos q] at bz; omega), Int32.add_zero]; done) | (rw [if_pos bj, if_pos (by omega)]; done) | (rw [if_pos bj, if_neg (by omega)]; done)
        · (try simp only [ite01t, ite01v, Int32.reduceToInt, t_m1, t_m2, t_m1000, Decidable.not_not] at kc55); (try simp only [pe] at kc55); (try simp only [ev.2.1] at kc55)
          refine w_Model_swingsOf_59 (fun kc59 => ?_) (fun kc59 => ?_)
          · (try simp only [ite01t, ite01v, Int32.reduceToInt, t_m1, t_m2, t_m1000, Decidable.not_not] at kc59); (try simp only [pe] at kc59); (try simp only [ev.2.1] at kc59)
            refine w_Model_swingsOf_68 ?_
            refine w_Model_swingsOf_69 rfl ?_
            refine w_Model_swingsOf_71 rfl ?_
            refine ih (by omega) _ ⟨_, _, _, rfl, t_succ hz (by omega), ?_⟩
            rw [swM_succ, ← hm]
            first | (rw [if_neg (fun q => by rw [if_pos q] at bz; omega), Int32.add_zero]; done) | (rw [if_pos bj, if_pos (by omega)]; done) | (rw [if_pos bj, if_neg (by omega)]; done)
          · (try simp only [ite01t, ite01v, Int32.reduceToInt, t_m1, t_m2, t_m1000, Decidable.not_not] at kc59); (try simp only [pe] at kc59); (try simp only [ev.2.1] at kc59)
            refine w_Model_swingsOf_64 ?_
            refine w_Model_swingsOf_69 rfl ?_
            refine w_Model_swingsOf_71 rfl ?_
            refine ih (by omega) _ ⟨_, _, _, rfl, t_succ hz (by omega), ?_⟩
            rw [swM_succ, ← hm]
            first | (rw [if_neg (fun q => by rw [if_pos q] at bz; omega), Int32.add_zero]; done) | (rw [if_pos bj, if_pos (by omega)]; done) | (rw [if_pos bj, if_neg (by omega)]; done)
    · (try simp only [ite01t, ite01v, Int32.reduceToInt, t_m1, t_m2, t_m1000, Decidable.not_not] at kc16); (try simp only [pe] at kc16); (try simp only [ev.2.1] at kc16)
      refine w_Model_swingsOf_25 ?_
      refine w_Model_swingsOf_71 rfl ?_
      refine ih (by omega) _ ⟨_, _, _, rfl, t_succ hz (by omega), ?_⟩
      rw [swM_succ, ← hm]
      first | (rw [if_neg (fun q => by rw [if_pos q] at bz; omega), Int32.add_zero]; done) | (rw [if_pos bj, if_pos (by omega)]; done) | (rw [if_pos bj, if_neg (by omega)]; done)
theorem s_vetoes (M : MBarg h a l) (L : Lay h.2) {p : Nat} (hp : (h.1 a 0).toInt = (p : Int)) (p1 : 1 ≤ p ∧ p ≤ 4) : Tc rod (d + 2) 295 [.inr (.inr (.inl (some 84)))] h (some (.inl (bitsF (fun j => needB (h.1 (a + 1)) j (2 ^ p)) p))) h := by
  have ev := ev_t hp p1
  have pe := M.2.2.2
  apply Wc.tc
  refine n_Model_vetoes ?_
  refine w_Model_vetoes_0 rfl ?_
  refine Wb.upc p (fun j L' => ∃ (x m : Int32) (u v : Option MV), L' = [some (.inr (.inr (.inl (some 84)))), some (.inl m), some (.inl x), u, v] ∧ x.toInt = (j : Int) ∧ m = bitsF (fun j => needB (h.1 (a + 1)) j (2 ^ p)) j) ?_ (Nat.zero_le _) ⟨0, 0, _, _, rfl, rfl, rfl⟩
  rintro j _ hj ⟨x, m, u, v, rfl, hx, hm⟩ ih
  refine w_Model_vetoes_4 L (fun kc4 => ?_) (fun kc4 => ?_)
  · (try simp only [ite01t, ite01v, Int32.reduceToInt, t_m1, t_m2, t_m1000, Decidable.not_not] at kc4); (try simp only [pe] at kc4)
    refine w_Model_vetoes_83 ?_
    exact ⟨by rw [hm, show j = p by omega], rfl⟩
  · (try simp only [ite01t, ite01v, Int32.reduceToInt, t_m1, t_m2, t_m1000, Decidable.not_not] at kc4); (try simp only [pe] at kc4)
    refine w_Model_vetoes_12 rfl ?_
    refine Wb.upc (2 ^ p - 1) (fun s L' => ∃ (z w : Int32), L' = [some (.inr (.inr (.inl (some 84)))), some (.inl m), some (.inl x), some (.inl w), some (.inl z)] ∧ z.toInt = ((s + 1 : Nat) : Int) ∧ w = (if needB (h.1 (a + 1)) j (s + 1) = true then 1 else 0)) ?_ (Nat.zero_le _) ⟨1, 1, rfl, rfl, rfl⟩
    rintro s _ hs ⟨z, w, rfl, hz, hw⟩ ih2
    refine w_Model_vetoes_17 L (fun kc17 => ?_) (fun kc17 => ?_)
    · ((try simp only [Int32.reduceToInt, t_m1, t_m2, t_m1000, Decidable.not_not] at kc17)); (try simp only [pe] at kc17); (try simp only [ev.2.1] at kc17)
      refine w_Model_vetoes_63 (fun kc63 => ?_) (fun kc63 => ?_)
      · ((try simp only [Int32.reduceToInt, t_m1, t_m2, t_m1000, Decidable.not_not] at kc63)); (try simp only [pe] at kc63); (try simp only [ev.2.1] at kc63)
        refine w_Model_vetoes_74 ?_
        refine w_Model_vetoes_75 rfl ?_
        refine ih (by omega) _ ⟨_, _, _, _, rfl, t_succ hx (by omega), ?_⟩
        rw [bitsF, ← hm, show 2 ^ p = s + 1 by omega]
        rw [hw] at kc63
        simp only [ite01t, Decidable.not_not] at kc63
        first | rw [if_pos kc63, ofN hx (by omega)] | rw [if_neg kc63]
      · ((try simp only [Int32.reduceToInt, t_m1, t_m2, t_m1000, Decidable.not_not] at kc63)); (try simp only [pe] at kc63); (try simp only [ev.2.1] at kc63)
        refine w_Model_vetoes_68 ?_
        refine w_Model_vetoes_75 rfl ?_
        refine ih (by omega) _ ⟨_, _, _, _, rfl, t_succ hx (by omega), ?_⟩
        rw [bitsF, ← hm, show 2 ^ p = s + 1 by omega]
        rw [hw] at kc63
        simp only [ite01t, Decidable.not_not] at kc63
        first | rw [if_pos kc63, ofN hx (by omega)] | rw [if_neg kc63]
    · ((try simp only [Int32.reduceToInt, t_m1, t_m2, t_m1000, Decidable.not_not] at kc17)); (try simp only [pe] at kc17); (try simp only [ev.2.1] at kc17)
      have b := bt (s := s + 1) (i := j) (by omega) (by omega)
      have bz : ((z >>> (x &&& 31)) &&& 1).toInt = (if (s + 1).testBit j = true then 1 else 0) := by rw [ofN hz (by omega), ofN hx (by omega)]; exact b.1
      refine w_Model_vetoes_28 (fun kc28 => ?_) (fun kc28 => ?_)
      · ((try simp only [Int32.reduceToInt, t_m1, t_m2, t_m1000, Decidable.not_not] at kc28)); (try simp only [pe] at kc28); (try simp only [ev.2.1] at kc28)
        refine w_Model_vetoes_55 ?_
        refine w_Model_vetoes_56 rfl ?_
        refine ih2 (by omega) _ ⟨_, _, rfl, t_succ hz (by omega), ?_⟩
        rw [hw, ite01t, Bool.not_eq_true] at kc28
        rw [needB, kc28, Bool.false_and]
        rfl
      · ((try simp only [Int32.reduceToInt, t_m1, t_m2, t_m1000, Decidable.not_not] at kc28)); (try simp only [pe] at kc28); (try simp only [ev.2.1] at kc28)
        refine w_Model_vetoes_32 (fun kc32 => ?_) (fun kc32 => ?_)
        · ((try simp only [Int32.reduceToInt, t_m1, t_m2, t_m1000, Decidable.not_not] at kc32)); (try simp only [pe] at kc32); (try simp only [ev.2.1] at kc32)
          refine w_Model_vetoes_51 ?_
          refine w_Model_vetoes_56 rfl ?_
          refine ih2 (by omega) _ ⟨_, _, rfl, t_succ hz (by omega), ?_⟩
          rw [hw, ite01t, Decidable.not_not] at kc28
          have bj : (s + 1).testBit j = true := Classical.byContradiction fun q => by rw [if_neg q] at bz; omega
          rw [needB, kc28, Bool.true_and, bj, Bool.true_or, Bool.or_true]
          rfl
        · ((try simp only [Int32.reduceToInt, t_m1, t_m2, t_m1000, Decidable.not_not] at kc32)); (try simp only [pe] at kc32); (try simp only [ev.2.1] at kc32)
          refine w_Model_vetoes_42 L (Tc.wc (s_mworthOf M L z (s + 1) hz (by omega))) (Is.k ?_)
          refine w_Model_vetoes_48 (fun kc48 => ?_) (fun kc48 => ?_)
          · ((try simp only [Int32.reduceToInt, t_m1, t_m2, t_m1000, Decidable.not_not] at kc48)); (try simp only [pe] at kc48); (try simp only [ev.2.1] at kc48)
            refine w_Model_vetoes_55 ?_
            refine w_Model_vetoes_56 rfl ?_
            refine ih2 (by omega) _ ⟨_, _, rfl, t_succ hz (by omega), ?_⟩
            rw [hw, ite01t, Decidable.not_not] at kc28
            have bj : (s + 1).testBit j = false := by
              cases qq : (s + 1).testBit j with
              | false => rfl
              | true => rw [qq, if_pos rfl] at bz; exact absurd bz kc32
            rw [needB, kc28, Bool.true_and, decide_eq_false kc48, bj]
            rfl
          · ((try simp only [Int32.reduceToInt, t_m1, t_m2, t_m1000, Decidable.not_not] at kc48)); (try simp only [pe] at kc48); (try simp only [ev.2.1] at kc48)
            refine w_Model_vetoes_51 ?_
            refine w_Model_vetoes_56 rfl ?_
            refine ih2 (by omega) _ ⟨_, _, rfl, t_succ hz (by omega), ?_⟩
            rw [hw, ite01t, Decidable.not_not] at kc28
            rw [needB, kc28, Bool.true_and, decide_eq_true kc48, Bool.or_true, Bool.or_true]
            rfl
theorem op_power (k w : Int32) : OpI INV rod 166 294 [k, w] := by
  refine OpI.mk fun h hI => ?_
  have L := hI.lay
  by_cases hk : 0 ≤ k.toInt ∧ k.toInt < (h.1 3 3).toInt
  · obtain ⟨A, R, hk2⟩ := hI.bargK hk
    have ek := n_of hk.1
    have at1 := fun (d : Nat) => s_bargainAt1 (rod := rod) (d := d) hI hk
    generalize k.toNatClampNeg = kk at ek hk2 A R at1
    have pa := R.pa
    obtain ⟨p, hp⟩ := Int.eq_ofNat_of_zero_le (show 0 ≤ (h.1 (24 + 18 * kk) 0).toInt by omega)
    have p1 : 1 ≤ p ∧ p ≤ 4 := by omega
    refine ⟨if w.toInt = 0 then bitsF (fun j => needB (h.1 ((24 + 18 * kk) + 1)) j (2 ^ p)) p else if w.toInt = 1 then bitsF (fun j => idleB (h.1 ((24 + 18 * kk) + 1)) j (2 ^ p)) p else if 10 ≤ w.toInt ∧ w.toInt < 10 + (p : Int) then swC (h.1 ((24 + 18 * kk) + 1)) (w.toInt - 10).toNat (2 ^ p) else -1, ?_, fun h1 I1 K1 => ?_⟩
    · refine n_Main_power ?_
      refine w_Main_power_0 L (Tc.wc (at1 _)) (Is.k ?_)
      refine w_Main_power_8 rfl (fun c => nomatch c) (fun _ _ => ?_)
      refine w_Main_power_15 (fun kc15 => ?_) (fun kc15 => ?_) (fun kc15_0 kc15_1 => ?_)
      · (try simp only [w10] at kc15)
        refine w_Main_power_44 L (Tc.wc (s_needed A hp p1)) (Is.k ?_)
        refine w_Main_power_52 ?_
        exact ⟨by rw [if_pos kc15], Keep.rfl⟩
      · (try simp only [w10] at kc15)
        refine w_Main_power_53 L (Tc.wc (s_idle A hp p1)) (Is.k ?_)
        refine w_Main_power_61 ?_
        exact ⟨by rw [if_neg (by omega), if_pos kc15], Keep.rfl⟩
      · (try simp only [w10] at kc15_0 kc15_1)
        refine w_Main_power_62 (fun kc62 => ?_) (fun kc62 => ?_)
        · (try simp only [ite01t, ite01v, Int32.reduceToInt, t_m1, t_m2, t_m1000, Decidable.not_not] at kc62); (try simp only [w10] at kc62)
          refine w_Main_power_94 ?_
          refine w_Main_power_95 ?_
          exact ⟨by rw [if_neg (by omega), if_neg (by omega), if_neg (by omega)], Keep.rfl⟩
        · (try simp only [ite01t, ite01v, Int32.reduceToInt, t_m1, t_m2, t_m1000, Decidable.not_not] at kc62); (try simp only [w10] at kc62)
          have lt := w.toInt_lt
          have w10 : (w - 10).toInt = w.toInt - 10 := i32_sub (by show _ ≤ _ - (10 : Int); omega) (by show _ - (10 : Int) ≤ _; omega)
          refine w_Main_power_68 A (Tc.wc (s_hasParty A _)) (Is.k ?_)
          refine w_Main_power_76 (fun kc76 => ?_) (fun kc76 => ?_)
          · (try simp only [ite01t, ite01v, Int32.reduceToInt, t_m1, t_m2, t_m1000, Decidable.not_not] at kc76); (try simp only [w10] at kc76)
            refine w_Main_power_94 ?_
            refine w_Main_power_95 ?_
            exact ⟨by rw [if_neg (by omega), if_neg (by omega), if_neg (by omega)], Keep.rfl⟩
          · (try simp only [ite01t, ite01v, Int32.reduceToInt, t_m1, t_m2, t_m1000, Decidable.not_not] at kc76); (try simp only [w10] at kc76)
            refine w_Main_power_79 L (Tc.wc (s_swings A hp p1 _ (w.toInt - 10).toNat (by rw [w10]; omega) (by omega))) (Is.k ?_)
            refine w_Main_power_91 ?_
            refine w_Main_power_95 ?_
            exact ⟨by rw [if_neg (by omega), if_neg (by omega), if_pos (by omega)], Keep.rfl⟩
    · have L1 := I1.lay
      have hk1 : (kk : Int) < (h1.1 3 3).toInt := by rw [K1.c 3 (by omega)]; omega
      have is1 := fun (d : Nat) => s_isBargain1 (rod := rod) (d := d) I1 k kk ek hk1
      have R1 := (I1.barg kk hk1).2.1
      refine n_Model_power ?_
      refine w_Model_power_0 L1 (is1 _) ?_
      rintro _ h0 ⟨rfl, k0, M0⟩
      have I0 := I1.keep k0
      have L0 := I0.lay
      have K0 := (Keep.rfl (h := h1)).trans k0
      have e0 : h0.1 (24 + 18 * kk) = h.1 (24 + 18 * kk) := (K1.trans K0).c _ (by omega)
      have f0 : h0.1 (24 + 18 * kk + 1) = h.1 (24 + 18 * kk + 1) := (K1.trans K0).c _ (by omega)
      have hp0 : (h0.1 (24 + 18 * kk) 0).toInt = (p : Int) := by rw [e0]; exact hp
      refine w_Model_power_5 (fun kc5 => ?_) (fun kc5 => absurd kc5 (by decide))
      refine w_Model_power_10 (fun kc10 => ?_) (fun kc10 => ?_)
      · (try simp only [ite01t, ite01v, Int32.reduceToInt, t_m1, t_m2, t_m1000, Decidable.not_not] at kc10); (try simp only [p9] at kc10)
        refine w_Model_power_19 (fun kc19 => ?_) (fun kc19 => ?_)
        · (try simp only [ite01t, ite01v, Int32.reduceToInt, t_m1, t_m2, t_m1000, Decidable.not_not] at kc19); (try simp only [p9] at kc19)
          have lt := w.toInt_lt
          have pe : h0.1 84 43 = h.1 (24 + 18 * kk) 0 := by rw [M0.2.2.2, e0]
          have p9 : (9 + h0.1 84 43).toInt = 9 + (p : Int) := by rw [pe]; rw [i32_add (by rw [hp]; show _ ≤ (9 : Int) + _; omega) (by rw [hp]; show (9 : Int) + _ ≤ _; omega), hp]; rfl
          refine w_Model_power_67 L0 (Tc.wc (s_isIn _ _ _ _)) (Is.k ?_)
          refine w_Model_power_80 (fun kc80 => ?_) (fun kc80 => ?_)
          · (try simp only [ite01t, ite01v, Int32.reduceToInt, t_m1, t_m2, t_m1000, Decidable.not_not] at kc80); (try simp only [p9] at kc80)
            refine w_Model_power_95 ?_
            refine w_Model_power_96 ?_
            exact ⟨by rw [if_neg (by omega), if_neg (by omega), if_neg (by omega)], K0⟩
          · (try simp only [ite01t, ite01v, Int32.reduceToInt, t_m1, t_m2, t_m1000, Decidable.not_not] at kc80); (try simp only [p9] at kc80)
            have w10 : (w - 10).toInt = w.toInt - 10 := i32_sub (by show _ ≤ _ - (10 : Int); omega) (by show _ - (10 : Int) ≤ _; omega)
            refine w_Model_power_83 L0 (Tc.wc (s_swingsOf M0 L0 hp0 p1 _ 0 (w.toInt - 10).toNat (by rw [w10]; omega) (by omega))) (Is.k ?_)
            refine w_Model_power_92 ?_
            refine w_Model_power_96 ?_
            exact ⟨by rw [if_neg (by omega), if_neg (by omega), if_pos (by omega), sw_eq p1.1 p1.2 (by omega), f0], K0⟩
        · (try simp only [ite01t, ite01v, Int32.reduceToInt, t_m1, t_m2, t_m1000, Decidable.not_not] at kc19); (try simp only [p9] at kc19)
          refine w_Model_power_24 rfl ?_
          have pe : h0.1 84 43 = h.1 (24 + 18 * kk) 0 := by rw [M0.2.2.2, e0]
          refine Wb.upc p (fun j L' => ∃ (z m : Int32), L' = [some (.inr (.inr (.inl (some 84)))), some (.inl k), some (.inl w), some (.inl m), some (.inl z)] ∧ z.toInt = (j : Int) ∧ m = bitsF (fun j => decide ((swM (h.1 ((24 + 18 * kk) + 1)) j 1 (2 ^ p)).toInt = 0)) j) ?_ (Nat.zero_le _) ⟨0, 0, rfl, rfl, rfl⟩
          rintro j _ hj ⟨z, m, rfl, hz, hm⟩ ih
          refine w_Model_power_29 L0 (fun kc29 => ?_) (fun kc29 => ?_)
          · (try simp only [ite01t, ite01v, Int32.reduceToInt, t_m1, t_m2, t_m1000, Decidable.not_not] at kc29); (try simp only [pe] at kc29); (try simp only [f0] at kc29)
            refine w_Model_power_65 ?_
            refine ⟨?_, K0⟩
            rw [if_neg (by omega), if_pos (by omega), hm, show j = p by omega]
            rw [bitsF_ext (b := fun j => idleB (h.1 ((24 + 18 * kk) + 1)) j (2 ^ p)) (b' := fun j => decide ((swM (h.1 ((24 + 18 * kk) + 1)) j 1 (2 ^ p)).toInt = 0)) (fun j hj => idle_eq p1.1 p1.2 hj)]
          · (try simp only [ite01t, ite01v, Int32.reduceToInt, t_m1, t_m2, t_m1000, Decidable.not_not] at kc29); (try simp only [pe] at kc29); (try simp only [f0] at kc29)
            refine w_Model_power_38 L0 (Tc.wc (s_swingsOf M0 L0 hp0 p1 z 1 j hz (by omega))) (Is.k ?_)
            refine w_Model_power_46 (fun kc46 => ?_) (fun kc46 => ?_)
            · (try simp only [ite01t, ite01v, Int32.reduceToInt, t_m1, t_m2, t_m1000, Decidable.not_not] at kc46); (try simp only [pe] at kc46); (try simp only [f0] at kc46)
              refine w_Model_power_56 ?_
              refine w_Model_power_57 rfl ?_
              refine ih (by omega) _ ⟨_, _, rfl, t_succ hz (by omega), ?_⟩
              rw [bitsF, ← hm]
              first | rw [if_pos (decide_eq_true kc46), ofN hz (by omega)] | rw [if_neg (by rw [decide_eq_true_eq]; exact kc46)]
            · (try simp only [ite01t, ite01v, Int32.reduceToInt, t_m1, t_m2, t_m1000, Decidable.not_not] at kc46); (try simp only [pe] at kc46); (try simp only [f0] at kc46)
              refine w_Model_power_49 ?_
              refine w_Model_power_57 rfl ?_
              refine ih (by omega) _ ⟨_, _, rfl, t_succ hz (by omega), ?_⟩
              rw [bitsF, ← hm]
              first | rw [if_pos (decide_eq_true kc46), ofN hz (by omega)] | rw [if_neg (by rw [decide_eq_true_eq]; exact kc46)]
      · (try simp only [ite01t, ite01v, Int32.reduceToInt, t_m1, t_m2, t_m1000, Decidable.not_not] at kc10); (try simp only [p9] at kc10)
        refine w_Model_power_14 L0 (Tc.wc (s_vetoes M0 L0 hp0 p1)) (Is.k ?_)
        refine w_Model_power_18 ?_
        exact ⟨by rw [if_pos (by omega), f0], K0⟩
  · refine ⟨-1, ?_, fun h1 I1 K1 => ?_⟩
    · refine n_Main_power ?_
      refine w_Main_power_0 L (Tc.wc (s_bargainAt0 hI hk)) (Is.k ?_)
      refine w_Main_power_8 rfl (fun _ => ?_) (fun _ c => nomatch c)
      refine w_Main_power_13 ?_
      exact ⟨rfl, Keep.rfl⟩
    · have L1 := I1.lay
      have hk1 : ¬ (0 ≤ k.toInt ∧ k.toInt < (h1.1 3 3).toInt) := by rw [K1.c 3 (by omega)]; exact hk
      refine n_Model_power ?_
      refine w_Model_power_0 L1 (Tc.wc (s_isBargain0 I1 k hk1)) (Is.k ?_)
      refine w_Model_power_5 (fun kc5 => absurd kc5 (by decide)) (fun kc5 => ?_)
      refine w_Model_power_8 ?_
      exact ⟨rfl, Keep.rfl⟩
end M46
