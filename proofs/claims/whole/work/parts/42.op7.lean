/-! OPERATIONS on ledgers: entry, opened -/
section M42
variable {rod : Nat → Nat × (Nat → Int32)} {d : Nat} {h : MH} {a l : Nat}
theorem s_opens {n : Nat} (M : MLed h a l n) (L : Lay h.2) (ha : a + 3 ≤ 45) : Wc rod (d + 1) 276 [.inr (.inr (.inl (some 84)))] h (fun r h' => r = none ∧ Keep h h' ∧ MLed h' a l n ∧ LInv h' a 0) := by
  refine n_Model_opens ?_
  refine w_Model_opens_0 L ?_
  refine w_Model_opens_5 L ?_
  refine w_Model_opens_10 L ?_
  refine w_Model_opens_15 ?_
  have K := ((Keep.rfl (h := h).si (scrI 84 (by omega)) (i := 39) (x := 0)).si (scrI 84 (by omega)) (i := 40) (x := 0)).si (scrI 84 (by omega)) (i := 41) (x := 0)
  refine ⟨rfl, K, M.keep K ha (by simp (disch := omega) only [sI_same, sI_nc, sI_nj]), ?_, ?_⟩
  · simp (disch := omega) only [sI_same, sI_nc, sI_nj]; rfl
  · rw [if_neg (by omega)]; simp (disch := omega) only [sI_same, sI_nc, sI_nj]; rfl
theorem op_entry (k x w : Int32) : OpI INV rod 115 274 [k, x, w] := by
  refine OpI.mk fun h hI => ?_
  have L := hI.lay
  by_cases hk : 0 ≤ k.toInt ∧ k.toInt < (h.1 3 2).toInt
  · obtain ⟨A, R, hk2⟩ := hI.ledgerK hk
    have ek := n_of hk.1
    have at1 := fun (d : Nat) => s_ledgerAt1 (rod := rod) (d := d) hI hk
    generalize k.toNatClampNeg = kk at ek hk2 A R at1
    obtain ⟨n, hn⟩ := Int.eq_ofNat_of_zero_le R.en.1
    have g := R.ok hn
    have g1 := g.1
    have ha : 21 + 18 * kk + 3 ≤ 45 := by omega
    refine ⟨if x.toInt = -1 then (if w.toInt = 0 then h.1 (21 + 18 * kk) 0 else -2) else if (0 ≤ x.toInt ∧ x.toInt < (h.1 (21 + 18 * kk) 0).toInt) ∧ 0 ≤ w.toInt ∧ w.toInt ≤ 3 then (if w.toInt = 0 then h.1 ((21 + 18 * kk) + 1) x.toNatClampNeg else if w.toInt = 1 then h.1 ((21 + 18 * kk) + 2) x.toNatClampNeg else if (h.1 ((21 + 18 * kk) + 1) x.toNatClampNeg).toInt = 2 then (if w.toInt = 2 then (if (0 : Int32) < missF (gd h (21 + 18 * kk)) x.toNatClampNeg then missF (gd h (21 + 18 * kk)) x.toNatClampNeg else 0) else (if (0 : Int32) < -missF (gd h (21 + 18 * kk)) x.toNatClampNeg then -missF (gd h (21 + 18 * kk)) x.toNatClampNeg else 0)) else -1) else -2, ?_, fun h1 I1 K1 => ?_⟩
    · refine n_Main_entry ?_
      refine w_Main_entry_0 L (Tc.wc (at1 _)) (Is.k ?_)
      refine w_Main_entry_8 rfl (fun c => nomatch c) (fun _ _ => ?_)
      refine w_Main_entry_18 (fun c18 => ?_) (fun c18 => ?_)
      · try simp only [ite01t, ite01v, Int32.reduceToInt, t_m1, t_m2, t_m1000, Decidable.not_not] at c18
        refine w_Main_entry_38 A (Tc.wc (s_hasEntry A _)) (Is.k ?_)
        refine w_Main_entry_44 (fun c44 => ?_) (fun c44 => ?_)
        · try simp only [ite01t, ite01v, Int32.reduceToInt, t_m1, t_m2, t_m1000, Decidable.not_not] at c44
          refine w_Main_entry_57 ?_
          refine w_Main_entry_59 ?_
          exact ⟨by rw [if_neg (c := x.toInt = -1) (by omega)]; first | done | rw [if_neg (by omega)], Keep.rfl⟩
        · try simp only [ite01t, ite01v, Int32.reduceToInt, t_m1, t_m2, t_m1000, Decidable.not_not] at c44
          refine w_Main_entry_47 A (Tc.wc (s_gToldOf A g hn _ _)) (Is.k ?_)
          refine w_Main_entry_54 ?_
          refine w_Main_entry_59 ?_
          exact ⟨by rw [if_neg (c := x.toInt = -1) (by omega)]; first | done | rw [if_neg (by omega)], Keep.rfl⟩
      · try simp only [ite01t, ite01v, Int32.reduceToInt, t_m1, t_m2, t_m1000, Decidable.not_not] at c18
        refine w_Main_entry_23 (fun c23 => ?_) (fun c23 => ?_)
        · try simp only [ite01t, ite01v, Int32.reduceToInt, t_m1, t_m2, t_m1000, Decidable.not_not] at c23
          refine w_Main_entry_35 ?_
          refine w_Main_entry_37 ?_
          exact ⟨by rw [if_pos (by omega)]; first | rw [if_pos (by omega)] | rw [if_neg (by omega)], Keep.rfl⟩
        · try simp only [ite01t, ite01v, Int32.reduceToInt, t_m1, t_m2, t_m1000, Decidable.not_not] at c23
          refine w_Main_entry_27 A ?_
          refine w_Main_entry_37 ?_
          exact ⟨by rw [if_pos (by omega)]; first | rw [if_pos (by omega)] | rw [if_neg (by omega)], Keep.rfl⟩
    · have L1 := I1.lay
      have hk1 : (kk : Int) < (h1.1 3 2).toInt := by rw [K1.c 3 (by omega)]; omega
      have is1 := fun (d : Nat) => s_isLedger1 (rod := rod) (d := d) I1 k kk ek hk1
      have R1 := (I1.ledger kk hk1).2.1
      refine n_Model_entry ?_
      refine w_Model_entry_0 L1 (is1 _) ?_
      rintro _ h0 ⟨rfl, k0, f0, m0⟩
      have I0 := I1.keep k0
      have L0 := I0.lay
      have K0 := (Keep.rfl (h := h1)).trans k0
      have e0 : h0.1 (21 + 18 * kk) = h.1 (21 + 18 * kk) := (K1.trans K0).c _ (by omega)
      have M0 : MLed h0 (21 + 18 * kk) (1032 + 41 * kk) n := ⟨(I0.ledger kk (by rw [K0.c 3 (by omega)]; exact hk1)).2.1, by omega, m0, by rw [e0]; exact hn⟩
      refine w_Model_entry_5 (fun c5 => ?_) (fun c5 => absurd c5 (by decide))
      have r0 : h0.1 85 (h0.1 84 38).toNatClampNeg = h.1 (21 + 18 * kk) 0 := by rw [n_eq M0.2.2.1, ← M0.1.1, e0]
      have e1 : (h.1 (21 + 18 * kk) 0 - 1).toInt = (h.1 (21 + 18 * kk) 0).toInt - 1 := i32_sub (by show _ ≤ _ - (1 : Int); omega) (by show _ - (1 : Int) ≤ _; omega)
      refine w_Model_entry_11 (fun c11 => ?_) (fun c11 => ?_)
      · (try simp only [ite01t, ite01v, Int32.reduceToInt, t_m1, t_m2, t_m1000, Decidable.not_not] at c11); (try simp only [r0] at c11); (try simp only [e1] at c11); (try simp only [w1] at c11)
        refine w_Model_entry_35 L0 (by rw [M0.2.2.1]; omega) (Tc.wc (s_isIn _ _ _ _)) (Is.k ?_)
        refine w_Model_entry_51 (fun c51 => ?_) (fun c51 => ?_)
        · (try simp only [ite01t, ite01v, Int32.reduceToInt, t_m1, t_m2, t_m1000, Decidable.not_not] at c51); (try simp only [r0] at c51); (try simp only [e1] at c51); (try simp only [w1] at c51)
          refine w_Model_entry_63 ?_
          exact ⟨by rw [if_neg (by omega), if_neg (by omega)], K0⟩
        · (try simp only [ite01t, ite01v, Int32.reduceToInt, t_m1, t_m2, t_m1000, Decidable.not_not] at c51); (try simp only [r0] at c51); (try simp only [e1] at c51); (try simp only [w1] at c51)
          refine w_Model_entry_54 (Tc.wc (s_isIn _ _ _ _)) (Is.k ?_)
          refine w_Model_entry_60 (fun c60 => ?_) (fun c60 => ?_)
          · (try simp only [ite01t, ite01v, Int32.reduceToInt, t_m1, t_m2, t_m1000, Decidable.not_not] at c60); (try simp only [r0] at c60); (try simp only [e1] at c60); (try simp only [w1] at c60)
            have lx := n_lt (x := x) (n := n) (by omega) (by omega)
            have ex := n_of (x := x) (by omega)
            have ei := (n_add (n_add M0.2.2.1 (show (1 : Int32).toInt = ((1 : Nat) : Int) from rfl) (by omega)) (n_mul (show (2 : Int32).toInt = ((2 : Nat) : Int) from rfl) ex (by omega)) (by omega))
            have oe := M0.1.ofE (k := x.toNatClampNeg) (by rw [e0]; omega)
            have w1 : h0.1 85 (h0.1 84 38 + 1 + 2 * x).toNatClampNeg = h.1 ((21 + 18 * kk) + 1) x.toNatClampNeg := by rw [n_eq ei, oe.1, (K1.trans K0).c _ (by omega)]
            refine w_Model_entry_66 (fun c66 => ?_) (fun c66 => ?_)
            · (try simp only [ite01t, ite01v, Int32.reduceToInt, t_m1, t_m2, t_m1000, Decidable.not_not] at c66); (try simp only [r0] at c66); (try simp only [e1] at c66); (try simp only [w1] at c66)
              refine w_Model_entry_89 L0 (by rw [ei]; omega) (fun c89 => ?_) (fun c89 => ?_)
              · (try simp only [ite01t, ite01v, Int32.reduceToInt, t_m1, t_m2, t_m1000, Decidable.not_not] at c89); (try simp only [r0] at c89); (try simp only [e1] at c89); (try simp only [w1] at c89)
                have w2 : (h.1 ((21 + 18 * kk) + 1) x.toNatClampNeg).toInt = 2 := by omega
                refine w_Model_entry_110 L0 (s_opens M0 L0 ha) ?_
                rintro _ h110 ⟨rfl, k110, M110, V110⟩
                have K110 := K0.trans k110
                have L110 := (I1.keep K110).lay
                refine w_Model_entry_114 rfl ?_
                refine Wb.uph (x.toNatClampNeg + 1) (fun j L' h' => ∃ (z : Int32), L' = [some (.inr (.inr (.inl (some 84)))), some (.inl k), some (.inl x), some (.inl w), some (.inl z)] ∧ z.toInt = (j : Int) ∧ Keep h1 h' ∧ MLed h' (21 + 18 * kk) (1032 + 41 * kk) n ∧ LInv h' (21 + 18 * kk) j ∧ (j = x.toNatClampNeg + 1 → h'.1 84 41 = missF (gd h (21 + 18 * kk)) x.toNatClampNeg)) ?_ (Nat.zero_le _) ⟨0, rfl, rfl, K110, M110, V110, fun q => absurd q (by omega)⟩
                rintro j _ q hj ⟨z, rfl, hz, KK, MM, VV, hm⟩ ih
                have Lq := (I1.keep KK).lay
                have dq := gdk (K1.trans KK) ha
                refine w_Model_entry_117 (fun c117 => ?_) (fun c117 => ?_)
                · (try simp only [ite01t, ite01v, Int32.reduceToInt, t_m1, t_m2, t_m1000, Decidable.not_not] at c117); (try simp only [hm] at c117)
                  have hj : j = x.toNatClampNeg + 1 := by omega
                  have hm := hm hj
                  have mt := missF_t g lx
                  refine w_Model_entry_135 (fun c135 => ?_) (fun c135 => ?_)
                  · (try simp only [ite01t, ite01v, Int32.reduceToInt, t_m1, t_m2, t_m1000, Decidable.not_not] at c135); (try simp only [hm] at c135)
                    have ng : (-missF (gd h (21 + 18 * kk)) x.toNatClampNeg).toInt = -(missF (gd h (21 + 18 * kk)) x.toNatClampNeg).toInt := by rw [Int32.toInt_neg]; exact Int.bmod_eq_of_le (by omega) (by omega)
                    refine w_Model_entry_158 Lq (fun c158 => ?_) (fun c158 => ?_)
                    · (try simp only [ite01t, ite01v, Int32.reduceToInt, t_m1, t_m2, t_m1000, Decidable.not_not] at c158); (try simp only [hm] at c158)
                      refine w_Model_entry_173 ?_
                      refine w_Model_entry_174 ?_
                      refine ⟨?_, KK⟩
                      rw [if_neg (c := x.toInt = -1) (by omega), if_pos (c := _ ∧ _) (by omega), if_neg (c := w.toInt = 0) (by omega), if_neg (c := w.toInt = 1) (by omega), if_pos (c := (h.1 ((21 + 18 * kk) + 1) x.toNatClampNeg).toInt = 2) w2]
                      rw [if_neg (c := w.toInt = 2) (by omega), if_neg (by rw [Int32.lt_iff_toInt_lt, ng]; show ¬ (0 : Int) < _; omega)]
                    · (try simp only [ite01t, ite01v, Int32.reduceToInt, t_m1, t_m2, t_m1000, Decidable.not_not] at c158); (try simp only [hm] at c158)
                      refine w_Model_entry_165 Lq ?_
                      refine w_Model_entry_174 ?_
                      refine ⟨?_, KK⟩
                      rw [if_neg (c := x.toInt = -1) (by omega), if_pos (c := _ ∧ _) (by omega), if_neg (c := w.toInt = 0) (by omega), if_neg (c := w.toInt = 1) (by omega), if_pos (c := (h.1 ((21 + 18 * kk) + 1) x.toNatClampNeg).toInt = 2) w2]
                      rw [if_neg (c := w.toInt = 2) (by omega), hm, if_pos (by rw [Int32.lt_iff_toInt_lt, ng]; show (0 : Int) < _; omega)]
                  · (try simp only [ite01t, ite01v, Int32.reduceToInt, t_m1, t_m2, t_m1000, Decidable.not_not] at c135); (try simp only [hm] at c135)
                    have := hm
                    refine w_Model_entry_140 Lq (fun c140 => ?_) (fun c140 => ?_)
                    · (try simp only [ite01t, ite01v, Int32.reduceToInt, t_m1, t_m2, t_m1000, Decidable.not_not] at c140); (try simp only [hm] at c140)
                      refine w_Model_entry_154 ?_
                      refine w_Model_entry_174 ?_
                      refine ⟨?_, KK⟩
                      rw [if_neg (c := x.toInt = -1) (by omega), if_pos (c := _ ∧ _) (by omega), if_neg (c := w.toInt = 0) (by omega), if_neg (c := w.toInt = 1) (by omega), if_pos (c := (h.1 ((21 + 18 * kk) + 1) x.toNatClampNeg).toInt = 2) w2]
                      rw [if_pos (c := w.toInt = 2) (by omega), if_neg (by rw [Int32.lt_iff_toInt_lt]; show ¬ (0 : Int) < _; omega)]
                    · (try simp only [ite01t, ite01v, Int32.reduceToInt, t_m1, t_m2, t_m1000, Decidable.not_not] at c140); (try simp only [hm] at c140)
                      refine w_Model_entry_147 Lq ?_
                      refine w_Model_entry_174 ?_
                      refine ⟨?_, KK⟩
                      rw [if_neg (c := x.toInt = -1) (by omega), if_pos (c := _ ∧ _) (by omega), if_neg (c := w.toInt = 0) (by omega), if_neg (c := w.toInt = 1) (by omega), if_pos (c := (h.1 ((21 + 18 * kk) + 1) x.toNatClampNeg).toInt = 2) w2]
                      rw [if_pos (c := w.toInt = 2) (by omega), hm, if_pos (by rw [Int32.lt_iff_toInt_lt]; show (0 : Int) < _; omega)]
                · (try simp only [ite01t, ite01v, Int32.reduceToInt, t_m1, t_m2, t_m1000, Decidable.not_not] at c117); (try simp only [hm] at c117)
                  refine w_Model_entry_123 Lq (s_enters MM Lq ha z j hz (by omega) VV) ?_
                  rintro _ h123 ⟨rfl, k123, M123, V123, F123⟩
                  refine w_Model_entry_129 rfl ?_
                  refine ih (by omega) _ _ ⟨_, rfl, t_succ hz (by omega), KK.trans k123, M123, V123, fun e => ?_⟩
                  have e : j = x.toNatClampNeg := by omega
                  subst e
                  rw [dq] at F123
                  exact (F123 w2).1
              · (try simp only [ite01t, ite01v, Int32.reduceToInt, t_m1, t_m2, t_m1000, Decidable.not_not] at c89); (try simp only [r0] at c89); (try simp only [e1] at c89); (try simp only [w1] at c89)
                refine w_Model_entry_108 ?_
                exact ⟨by rw [if_neg (by omega), if_pos (by omega), if_neg (by omega), if_neg (by omega), if_neg (by omega)], K0⟩
            · (try simp only [ite01t, ite01v, Int32.reduceToInt, t_m1, t_m2, t_m1000, Decidable.not_not] at c66); (try simp only [r0] at c66); (try simp only [e1] at c66); (try simp only [w1] at c66)
              have lw := n_lt (x := w) (n := 2) (by omega) (by omega)
              have ew := (n_add (n_add (n_add M0.2.2.1 (show (1 : Int32).toInt = ((1 : Nat) : Int) from rfl) (by omega)) (n_mul (show (2 : Int32).toInt = ((2 : Nat) : Int) from rfl) ex (by omega)) (by omega)) (n_of (x := w) (by omega)) (by omega))
              refine w_Model_entry_71 L0 (by rw [ew]; omega) ?_
              refine ⟨?_, K0⟩
              rw [if_neg (by omega), if_pos (by omega), n_eq ew]
              rcases (show w.toNatClampNeg = 0 ∨ w.toNatClampNeg = 1 by omega) with e | e
              · have := n_of (x := w) (by omega); rw [if_pos (by omega), e, Nat.add_zero, oe.1, (K1.trans K0).c _ (by omega)]
              · have := n_of (x := w) (by omega); rw [if_neg (by omega), if_pos (by omega), e, show 1032 + 41 * kk + 1 + 2 * x.toNatClampNeg + 1 = 1032 + 41 * kk + 2 + 2 * x.toNatClampNeg by omega, oe.2, (K1.trans K0).c _ (by omega)]
          · (try simp only [ite01t, ite01v, Int32.reduceToInt, t_m1, t_m2, t_m1000, Decidable.not_not] at c60); (try simp only [r0] at c60); (try simp only [e1] at c60); (try simp only [w1] at c60)
            refine w_Model_entry_63 ?_
            exact ⟨by rw [if_neg (by omega), if_neg (by omega)], K0⟩
      · (try simp only [ite01t, ite01v, Int32.reduceToInt, t_m1, t_m2, t_m1000, Decidable.not_not] at c11); (try simp only [r0] at c11); (try simp only [e1] at c11); (try simp only [w1] at c11)
        refine w_Model_entry_16 (fun c16 => ?_) (fun c16 => ?_)
        · (try simp only [ite01t, ite01v, Int32.reduceToInt, t_m1, t_m2, t_m1000, Decidable.not_not] at c16); (try simp only [r0] at c16); (try simp only [e1] at c16); (try simp only [w1] at c16)
          refine w_Model_entry_32 ?_
          refine w_Model_entry_34 ?_
          exact ⟨by rw [if_pos (by omega)]; first | (rw [if_pos (by omega), r0]; done) | (rw [if_neg (by omega)]; done), K0⟩
        · (try simp only [ite01t, ite01v, Int32.reduceToInt, t_m1, t_m2, t_m1000, Decidable.not_not] at c16); (try simp only [r0] at c16); (try simp only [e1] at c16); (try simp only [w1] at c16)
          refine w_Model_entry_20 L0 (by rw [M0.2.2.1]; omega) ?_
          refine w_Model_entry_34 ?_
          exact ⟨by rw [if_pos (by omega)]; first | (rw [if_pos (by omega), r0]; done) | (rw [if_neg (by omega)]; done), K0⟩
  · refine ⟨-2, ?_, fun h1 I1 K1 => ?_⟩
    · refine n_Main_entry ?_
      refine w_Main_entry_0 L (Tc.wc (s_ledgerAt0 hI hk)) (Is.k ?_)
      refine w_Main_entry_8 rfl (fun _ => ?_) (fun _ c => nomatch c)
      refine w_Main_entry_15 ?_
      exact ⟨rfl, Keep.rfl⟩
    · have L1 := I1.lay
      have hk1 : ¬ (0 ≤ k.toInt ∧ k.toInt < (h1.1 3 2).toInt) := by rw [K1.c 3 (by omega)]; exact hk
      refine n_Model_entry ?_
      refine w_Model_entry_0 L1 (Tc.wc (s_isLedger0 I1 k hk1)) (Is.k ?_)
      refine w_Model_entry_5 (fun c5 => absurd c5 (by decide)) (fun c5 => ?_)
      refine w_Model_entry_8 ?_
      exact ⟨rfl, Keep.rfl⟩
end M42
