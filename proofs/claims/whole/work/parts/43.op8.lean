/-! OPERATIONS on ledgers: opened, thieves -/
def lossF (G : Nat → Nat → Int32) (co : Int32) (n : Nat) : Int32 := sumF (fun k => if (G 1 k).toInt = 2 ∧ 0 < (missF G k).toInt then (if co.toInt = 0 then 1 else missF G k) else 0) n
theorem lossF_succ (G : Nat → Nat → Int32) (co : Int32) (n : Nat) : lossF G co (n + 1) = lossF G co n + (if (G 1 n).toInt = 2 ∧ 0 < (missF G n).toInt then (if co.toInt = 0 then 1 else missF G n) else 0) := rfl
def fitsF (G : Nat → Nat → Int32) (s : Int32) : Nat → Bool
  | 0 => true
  | k + 1 => fitsF G s k && (!(decide ((G 1 k).toInt = 2)) || (decide (0 < (missF G k).toInt) == decide ((s &&& opF G k).toInt ≠ 0)))
theorem fitsF_no {G : Nat → Nat → Int32} {s : Int32} {j n : Nat} (e : fitsF G s j = false) (hj : j ≤ n) : fitsF G s n = false := by
  induction n with
  | zero => rw [show j = 0 by omega] at e; exact e
  | succ n ih =>
    by_cases c : j = n + 1
    · rw [← c]; exact e
    · rw [fitsF, ih (by omega), Bool.false_and]
section M43
variable {rod : Nat → Nat × (Nat → Int32)} {d : Nat} {h : MH} {a l : Nat}
theorem s_losses {n : Nat} (A : LedgerA h.2 a) (g : GOk (gd h a) n) (hn : (h.1 a 0).toInt = (n : Int)) (co : Int32) : Tc rod (d + 3) 177 [.inr (.inr (.inl (some a))), .inl co] h (some (.inl (lossF (gd h a) co n))) h := by
  have g1 := g.1
  apply Wc.tc
  refine n_Ledger_losses ?_
  refine w_Ledger_losses_0 rfl ?_
  refine Wb.upc n (fun j L' => ∃ (z m : Int32) (u : Option MV), L' = [some (.inr (.inr (.inl (some a)))), some (.inl co), some (.inl m), some (.inl z), u] ∧ z.toInt = (j : Int) ∧ m = lossF (gd h a) co j) ?_ (Nat.zero_le n) ⟨0, 0, _, rfl, rfl, rfl⟩
  rintro j _ hj ⟨z, m, u, rfl, hz, hm⟩ ih
  have ez := n_eq hz
  have w1 : (gd h a 1 j).toInt = (h.1 (a + 1) j).toInt := rfl
  refine w_Ledger_losses_4 A (fun c4 => ?_) (fun c4 => ?_)
  · (try simp only [ite01t, ite01v, Int32.reduceToInt, t_m1, t_m2, t_m1000, Decidable.not_not] at c4); (try simp only [ez] at c4)
    refine w_Ledger_losses_57 ?_
    exact ⟨by rw [hm, show j = n by omega], rfl⟩
  · (try simp only [ite01t, ite01v, Int32.reduceToInt, t_m1, t_m2, t_m1000, Decidable.not_not] at c4); (try simp only [ez] at c4)
    refine w_Ledger_losses_12 A (by first | assumption | omega | (refine ⟨?_, ?_⟩ <;> first | assumption | omega)) (fun c12 => ?_) (fun c12 => ?_)
    · (try simp only [ite01t, ite01v, Int32.reduceToInt, t_m1, t_m2, t_m1000, Decidable.not_not] at c12); (try simp only [ez] at c12)
      refine w_Ledger_losses_30 ?_
      refine w_Ledger_losses_31 rfl (fun c31 => ?_) (fun c31 => absurd c31 (by decide))
      refine w_Ledger_losses_51 rfl ?_
      refine ih (by omega) _ ⟨_, _, _, rfl, t_succ hz (by omega), ?_⟩
      rw [lossF_succ, ← hm]
      first | (rw [if_neg (by omega), Int32.add_zero]; done) | (rw [if_pos (by omega), if_pos (by omega)]; done) | (rw [if_pos (by omega), if_neg (by omega)]; done) | (exfalso; revert c31; decide)
    · (try simp only [ite01t, ite01v, Int32.reduceToInt, t_m1, t_m2, t_m1000, Decidable.not_not] at c12); (try simp only [ez] at c12)
      refine w_Ledger_losses_22 A (Tc.wc (s_missingAt A g hn z j hz (by omega))) (Is.k ?_)
      refine w_Ledger_losses_27 ?_
      refine w_Ledger_losses_31 rfl (fun c31 => ?_) (fun c31 => ?_)
      · (try simp only [ite01t, ite01v, Int32.reduceToInt, t_m1, t_m2, t_m1000, Decidable.not_not] at c31); (try simp only [ez] at c31)
        refine w_Ledger_losses_51 rfl ?_
        refine ih (by omega) _ ⟨_, _, _, rfl, t_succ hz (by omega), ?_⟩
        rw [lossF_succ, ← hm]
        first | (rw [if_neg (by omega), Int32.add_zero]; done) | (rw [if_pos (by omega), if_pos (by omega)]; done) | (rw [if_pos (by omega), if_neg (by omega)]; done) | (exfalso; revert c31; decide)
      · (try simp only [ite01t, ite01v, Int32.reduceToInt, t_m1, t_m2, t_m1000, Decidable.not_not] at c31); (try simp only [ez] at c31)
        refine w_Ledger_losses_38 (fun c38 => ?_) (fun c38 => ?_)
        · (try simp only [ite01t, ite01v, Int32.reduceToInt, t_m1, t_m2, t_m1000, Decidable.not_not] at c38); (try simp only [ez] at c38)
          refine w_Ledger_losses_48 ?_
          refine w_Ledger_losses_49 rfl ?_
          refine w_Ledger_losses_51 rfl ?_
          refine ih (by omega) _ ⟨_, _, _, rfl, t_succ hz (by omega), ?_⟩
          rw [lossF_succ, ← hm]
          first | (rw [if_neg (by omega), Int32.add_zero]; done) | (rw [if_pos (by omega), if_pos (by omega)]; done) | (rw [if_pos (by omega), if_neg (by omega)]; done) | (exfalso; revert c31; decide)
        · (try simp only [ite01t, ite01v, Int32.reduceToInt, t_m1, t_m2, t_m1000, Decidable.not_not] at c38); (try simp only [ez] at c38)
          refine w_Ledger_losses_43 ?_
          refine w_Ledger_losses_49 rfl ?_
          refine w_Ledger_losses_51 rfl ?_
          refine ih (by omega) _ ⟨_, _, _, rfl, t_succ hz (by omega), ?_⟩
          rw [lossF_succ, ← hm]
          first | (rw [if_neg (by omega), Int32.add_zero]; done) | (rw [if_pos (by omega), if_pos (by omega)]; done) | (rw [if_pos (by omega), if_neg (by omega)]; done) | (exfalso; revert c31; decide)
theorem op_opened (k co : Int32) : OpI INV rod 176 280 [k, co] := by
  refine OpI.mk fun h hI => ?_
  have L := hI.lay
  by_cases hk : 0 ≤ k.toInt ∧ k.toInt < (h.1 3 2).toInt
  · obtain ⟨A, R, hk2⟩ := hI.ledgerK hk
    have ek := n_of hk.1
    have at1 := fun (d : Nat) => s_ledgerAt1 (rod := rod) (d := d) hI hk
    generalize k.toNatClampNeg = kk at ek hk2 A R at1
    obtain ⟨n, hn⟩ := Int.eq_ofNat_of_zero_le R.en.1
    have g := R.ok hn
    have g1 := g.1
    have ha : 21 + 18 * kk + 3 ≤ 45 := by omega
    refine ⟨lossF (gd h (21 + 18 * kk)) co n, ?_, fun h1 I1 K1 => ?_⟩
    · refine n_Main_opened ?_
      refine w_Main_opened_0 L (Tc.wc (at1 _)) (Is.k ?_)
      refine w_Main_opened_8 rfl (fun c => nomatch c) (fun _ _ => ?_)
      refine w_Main_opened_17 A (Tc.wc (s_losses A g hn _)) (Is.k ?_)
      refine w_Main_opened_22 ?_
      exact ⟨rfl, Keep.rfl⟩
    · have L1 := I1.lay
      have hk1 : (kk : Int) < (h1.1 3 2).toInt := by rw [K1.c 3 (by omega)]; omega
      have is1 := fun (d : Nat) => s_isLedger1 (rod := rod) (d := d) I1 k kk ek hk1
      have R1 := (I1.ledger kk hk1).2.1
      refine n_Model_opened ?_
      refine w_Model_opened_0 L1 (is1 _) ?_
      rintro _ h0 ⟨rfl, k0, f0, m0⟩
      have I0 := I1.keep k0
      have L0 := I0.lay
      have K0 := (Keep.rfl (h := h1)).trans k0
      have e0 : h0.1 (21 + 18 * kk) = h.1 (21 + 18 * kk) := (K1.trans K0).c _ (by omega)
      have M0 : MLed h0 (21 + 18 * kk) (1032 + 41 * kk) n := ⟨(I0.ledger kk (by rw [K0.c 3 (by omega)]; exact hk1)).2.1, by omega, m0, by rw [e0]; exact hn⟩
      refine w_Model_opened_5 (fun c5 => ?_) (fun c5 => absurd c5 (by decide))
      refine w_Model_opened_10 L0 (s_opens M0 L0 ha) ?_
      rintro _ h10 ⟨rfl, k10, M10, V10⟩
      have K10 := K0.trans k10
      have L10 := (I1.keep K10).lay
      refine w_Model_opened_14 rfl ?_
      refine Wb.uph n (fun j L' h' => ∃ (z m s : Int32), L' = [some (.inr (.inr (.inl (some 84)))), some (.inl k), some (.inl co), some (.inl m), some (.inl s), some (.inl z)] ∧ z.toInt = (j : Int) ∧ Keep h1 h' ∧ MLed h' (21 + 18 * kk) (1032 + 41 * kk) n ∧ LInv h' (21 + 18 * kk) j ∧ m = lossF (gd h (21 + 18 * kk)) 0 j ∧ s = lossF (gd h (21 + 18 * kk)) 1 j) ?_ (Nat.zero_le _) ⟨0, 0, 0, rfl, rfl, K10, M10, V10, rfl, rfl⟩
      rintro j _ q hj ⟨z, m, s, rfl, hz, KK, MM, VV, hm, hs⟩ ih
      have Lq := (I1.keep KK).lay
      have dq := gdk (K1.trans KK) ha
      have r0 : q.1 85 (q.1 84 38).toNatClampNeg = h.1 (21 + 18 * kk) 0 := by rw [n_eq MM.2.2.1, ← MM.1.1, (K1.trans KK).c _ (by omega)]
      refine w_Model_opened_22 Lq (by rw [MM.2.2.1]; omega) (fun c22 => ?_) (fun c22 => ?_)
      · (try simp only [ite01t, ite01v, Int32.reduceToInt, t_m1, t_m2, t_m1000, Decidable.not_not] at c22); (try simp only [r0] at c22); (try simp only [w1] at c22); (try simp only [mq] at c22)
        refine w_Model_opened_90 (fun c90 => ?_) (fun c90 => ?_)
        · (try simp only [ite01t, ite01v, Int32.reduceToInt, t_m1, t_m2, t_m1000, Decidable.not_not] at c90); (try simp only [r0] at c90); (try simp only [w1] at c90); (try simp only [mq] at c90)
          refine w_Model_opened_99 ?_
          refine w_Model_opened_100 ?_
          refine ⟨?_, KK⟩
          have hj : j = n := by omega
          subst hj
          first | (rw [hm, show co = 0 from i32_of c90]; done) | (rw [hs]; simp only [lossF, if_neg c90, if_neg (show ¬ (1 : Int32).toInt = 0 by decide)]; done)
        · (try simp only [ite01t, ite01v, Int32.reduceToInt, t_m1, t_m2, t_m1000, Decidable.not_not] at c90); (try simp only [r0] at c90); (try simp only [w1] at c90); (try simp only [mq] at c90)
          refine w_Model_opened_94 ?_
          refine w_Model_opened_100 ?_
          refine ⟨?_, KK⟩
          have hj : j = n := by omega
          subst hj
          first | (rw [hm, show co = 0 from i32_of c90]; done) | (rw [hs]; simp only [lossF, if_neg c90, if_neg (show ¬ (1 : Int32).toInt = 0 by decide)]; done)
      · (try simp only [ite01t, ite01v, Int32.reduceToInt, t_m1, t_m2, t_m1000, Decidable.not_not] at c22); (try simp only [r0] at c22); (try simp only [w1] at c22); (try simp only [mq] at c22)
        refine w_Model_opened_36 Lq (s_enters MM Lq ha z j hz (by omega) VV) ?_
        rintro _ h36 ⟨rfl, k36, M36, V36, F36⟩
        rw [dq] at F36
        have L36 := (I1.keep (KK.trans k36)).lay
        have ei := (n_add (n_add M36.2.2.1 (show (1 : Int32).toInt = ((1 : Nat) : Int) from rfl) (by omega)) (n_mul (show (2 : Int32).toInt = ((2 : Nat) : Int) from rfl) hz (by omega)) (by omega))
        have w1 : h36.1 85 (h36.1 84 38 + 1 + 2 * z).toNatClampNeg = gd h (21 + 18 * kk) 1 j := by rw [n_eq ei, (M36.1.ofE (by rw [M36.2.2.2]; omega)).1, show gd h (21 + 18 * kk) 1 j = h.1 ((21 + 18 * kk) + 1) j from rfl, ← (K1.trans (KK.trans k36)).c _ (by omega)]
        refine w_Model_opened_42 L36 (by rw [ei]; omega) (fun c42 => ?_) (fun c42 => ?_)
        · (try simp only [ite01t, ite01v, Int32.reduceToInt, t_m1, t_m2, t_m1000, Decidable.not_not] at c42); (try simp only [r0] at c42); (try simp only [w1] at c42); (try simp only [mq] at c42)
          refine w_Model_opened_84 rfl ?_
          refine ih (by omega) _ _ ⟨_, _, _, rfl, t_succ hz (by omega), KK.trans k36, M36, V36, ?_, ?_⟩
          · rw [lossF_succ, ← hm]
            first | (rw [if_neg (by omega), Int32.add_zero]; done) | (rw [if_pos (by omega), if_pos (by rfl)]; done)
          · rw [lossF_succ, ← hs]
            first | (rw [if_neg (by omega), Int32.add_zero]; done) | (rw [if_pos (by omega), if_neg (by decide), mq]; done)
        · (try simp only [ite01t, ite01v, Int32.reduceToInt, t_m1, t_m2, t_m1000, Decidable.not_not] at c42); (try simp only [r0] at c42); (try simp only [w1] at c42); (try simp only [mq] at c42)
          have mq : h36.1 84 41 = missF (gd h (21 + 18 * kk)) j := (F36 (by omega)).1
          refine w_Model_opened_62 L36 (fun c62 => ?_) (fun c62 => ?_)
          · (try simp only [ite01t, ite01v, Int32.reduceToInt, t_m1, t_m2, t_m1000, Decidable.not_not] at c62); (try simp only [r0] at c62); (try simp only [w1] at c62); (try simp only [mq] at c62)
            refine w_Model_opened_72 L36 rfl ?_
            refine w_Model_opened_84 rfl ?_
            refine ih (by omega) _ _ ⟨_, _, _, rfl, t_succ hz (by omega), KK.trans k36, M36, V36, ?_, ?_⟩
            · rw [lossF_succ, ← hm]
              first | (rw [if_neg (by omega), Int32.add_zero]; done) | (rw [if_pos (by omega), if_pos (by rfl)]; done)
            · rw [lossF_succ, ← hs]
              first | (rw [if_neg (by omega), Int32.add_zero]; done) | (rw [if_pos (by omega), if_neg (by decide), mq]; done)
          · (try simp only [ite01t, ite01v, Int32.reduceToInt, t_m1, t_m2, t_m1000, Decidable.not_not] at c62); (try simp only [r0] at c62); (try simp only [w1] at c62); (try simp only [mq] at c62)
            refine w_Model_opened_69 ?_
            refine w_Model_opened_84 rfl ?_
            refine ih (by omega) _ _ ⟨_, _, _, rfl, t_succ hz (by omega), KK.trans k36, M36, V36, ?_, ?_⟩
            · rw [lossF_succ, ← hm]
              first | (rw [if_neg (by omega), Int32.add_zero]; done) | (rw [if_pos (by omega), if_pos (by rfl)]; done)
            · rw [lossF_succ, ← hs]
              first | (rw [if_neg (by omega), Int32.add_zero]; done) | (rw [if_pos (by omega), if_neg (by decide), mq]; done)
  · refine ⟨-1, ?_, fun h1 I1 K1 => ?_⟩
    · refine n_Main_opened ?_
      refine w_Main_opened_0 L (Tc.wc (s_ledgerAt0 hI hk)) (Is.k ?_)
      refine w_Main_opened_8 rfl (fun _ => ?_) (fun _ c => nomatch c)
      refine w_Main_opened_13 ?_
      refine w_Main_opened_22 ?_
      exact ⟨rfl, Keep.rfl⟩
    · have L1 := I1.lay
      have hk1 : ¬ (0 ≤ k.toInt ∧ k.toInt < (h1.1 3 2).toInt) := by rw [K1.c 3 (by omega)]; exact hk
      refine n_Model_opened ?_
      refine w_Model_opened_0 L1 (Tc.wc (s_isLedger0 I1 k hk1)) (Is.k ?_)
      refine w_Model_opened_5 (fun c5 => absurd c5 (by decide)) (fun c5 => ?_)
      refine w_Model_opened_8 ?_
      exact ⟨rfl, Keep.rfl⟩
theorem s_fits {n : Nat} (A : LedgerA h.2 a) (g : GOk (gd h a) n) (hn : (h.1 a 0).toInt = (n : Int)) (s : Int32) : Tc rod (d + 1) 122 [.inr (.inr (.inl (some a))), .inl s] h (some (.inl (if fitsF (gd h a) s n = true then 1 else 0))) h := by
  have g1 := g.1
  apply Wc.tc
  refine n_Ledger_fits ?_
  refine w_Ledger_fits_0 rfl ?_
  refine Wb.upc n (fun j L' => ∃ (z m p : Int32) (u v : Option MV), L' = [some (.inr (.inr (.inl (some a)))), some (.inl s), some (.inl m), some (.inl p), some (.inl z), u, v] ∧ z.toInt = (j : Int) ∧ m = dueF (gd h a) j ∧ p = opF (gd h a) j ∧ fitsF (gd h a) s j = true) ?_ (Nat.zero_le n) ⟨0, 0, 0, _, _, rfl, rfl, rfl, rfl, rfl⟩
  rintro j _ hj ⟨z, m, p, u, v, rfl, hz, hm, hp, hf⟩ ih
  have ez := n_eq hz
  have w1 : (gd h a 1 j).toInt = (h.1 (a + 1) j).toInt := rfl
  have w2 : gd h a 2 j = h.1 (a + 2) j := rfl
  refine w_Ledger_fits_7 A (fun c7 => ?_) (fun c7 => ?_)
  · (try simp only [ite01t, ite01v, Int32.reduceToInt, t_m1, t_m2, t_m1000, Decidable.not_not] at c7); (try simp only [ez] at c7)
    refine w_Ledger_fits_149 ?_
    exact ⟨by rw [show n = j by omega, if_pos hf], rfl⟩
  · (try simp only [ite01t, ite01v, Int32.reduceToInt, t_m1, t_m2, t_m1000, Decidable.not_not] at c7); (try simp only [ez] at c7)
    refine w_Ledger_fits_16 A (by first | assumption | omega | (refine ⟨?_, ?_⟩ <;> first | assumption | omega)) (fun c16 => ?_) (fun c16 => ?_) (fun c16 => ?_) (fun c16 => ?_) (fun c16_0 c16_1 c16_2 c16_3 => ?_)
    · (try simp only [ez] at c16)
      refine w_Ledger_fits_52 A (by first | assumption | omega | (refine ⟨?_, ?_⟩ <;> first | assumption | omega)) rfl ?_
      refine w_Ledger_fits_143 rfl ?_
      refine ih (by omega) _ ⟨_, _, _, _, _, rfl, t_succ hz (by omega), ?_, ?_, ?_⟩
      · rw [dueF, ← hm, w1]; try rw [ez]
        first | (rw [if_pos (by omega)]; rfl) | (rw [if_neg (by omega), if_pos (by omega)]; rfl) | (rw [if_neg (by omega), if_neg (by omega), if_pos (by omega)]; rfl) | (rw [if_neg (by omega), if_neg (by omega), if_neg (by omega)]; done)
      · rw [opF, ← hp, w1]; try rw [ez]
        first | (rw [if_pos (by omega)]; rfl) | (rw [if_neg (by omega), if_pos (by omega)]; done) | (rw [if_neg (by omega), if_neg (by omega)]; done)
      · rw [fitsF, hf, Bool.true_and]
        first | (rw [decide_eq_false (p := (gd h a 1 j).toInt = 2) (by omega)]; rfl) | (have mt := (missF_t g (k := j) (by omega)).1; rw [w2, ← hm] at mt; rw [hp] at c109; first | (rw [decide_eq_true (p := 0 < _) (by omega), decide_eq_true (p := (_ : Int) ≠ 0) (by omega)]; exact Bool.or_true _) | (rw [decide_eq_false (p := 0 < _) (by omega), decide_eq_false (p := (_ : Int) ≠ 0) (by omega)]; exact Bool.or_true _))
    · (try simp only [ez] at c16)
      refine w_Ledger_fits_65 A (by first | assumption | omega | (refine ⟨?_, ?_⟩ <;> first | assumption | omega)) rfl ?_
      refine w_Ledger_fits_143 rfl ?_
      refine ih (by omega) _ ⟨_, _, _, _, _, rfl, t_succ hz (by omega), ?_, ?_, ?_⟩
      · rw [dueF, ← hm, w1]; try rw [ez]
        first | (rw [if_pos (by omega)]; rfl) | (rw [if_neg (by omega), if_pos (by omega)]; rfl) | (rw [if_neg (by omega), if_neg (by omega), if_pos (by omega)]; rfl) | (rw [if_neg (by omega), if_neg (by omega), if_neg (by omega)]; done)
      · rw [opF, ← hp, w1]; try rw [ez]
        first | (rw [if_pos (by omega)]; rfl) | (rw [if_neg (by omega), if_pos (by omega)]; done) | (rw [if_neg (by omega), if_neg (by omega)]; done)
      · rw [fitsF, hf, Bool.true_and]
        first | (rw [decide_eq_false (p := (gd h a 1 j).toInt = 2) (by omega)]; rfl) | (have mt := (missF_t g (k := j) (by omega)).1; rw [w2, ← hm] at mt; rw [hp] at c109; first | (rw [decide_eq_true (p := 0 < _) (by omega), decide_eq_true (p := (_ : Int) ≠ 0) (by omega)]; exact Bool.or_true _) | (rw [decide_eq_false (p := 0 < _) (by omega), decide_eq_false (p := (_ : Int) ≠ 0) (by omega)]; exact Bool.or_true _))
    · (try simp only [ez] at c16)
      have gq := (g.2 j (by omega)).1
      refine w_Ledger_fits_93 A (by first | assumption | omega | (refine ⟨?_, ?_⟩ <;> first | assumption | omega)) (fun c93 => ?_) (fun c93 => ?_)
      · (try simp only [ite01t, ite01v, Int32.reduceToInt, t_m1, t_m2, t_m1000, Decidable.not_not] at c93); (try simp only [ez] at c93)
        refine w_Ledger_fits_108 ?_
        refine w_Ledger_fits_109 rfl (fun c109 => ?_) (fun c109 => ?_)
        · (try simp only [ite01t, ite01v, Int32.reduceToInt, t_m1, t_m2, t_m1000, Decidable.not_not] at c109); (try simp only [ez] at c109)
          refine w_Ledger_fits_121 ?_
          refine w_Ledger_fits_122 (fun c122 => ?_) (fun c122 => absurd c122 (by decide))
          refine w_Ledger_fits_133 A (by first | assumption | omega | (refine ⟨?_, ?_⟩ <;> first | assumption | omega)) rfl ?_
          refine w_Ledger_fits_143 rfl ?_
          refine ih (by omega) _ ⟨_, _, _, _, _, rfl, t_succ hz (by omega), ?_, ?_, ?_⟩
          · rw [dueF, ← hm, w1]; try rw [ez]
            first | (rw [if_pos (by omega)]; rfl) | (rw [if_neg (by omega), if_pos (by omega)]; rfl) | (rw [if_neg (by omega), if_neg (by omega), if_pos (by omega)]; rfl) | (rw [if_neg (by omega), if_neg (by omega), if_neg (by omega)]; done)
          · rw [opF, ← hp, w1]; try rw [ez]
            first | (rw [if_pos (by omega)]; rfl) | (rw [if_neg (by omega), if_pos (by omega)]; done) | (rw [if_neg (by omega), if_neg (by omega)]; done)
          · rw [fitsF, hf, Bool.true_and]
            first | (rw [decide_eq_false (p := (gd h a 1 j).toInt = 2) (by omega)]; rfl) | (have mt := (missF_t g (k := j) (by omega)).1; rw [w2, ← hm] at mt; rw [hp] at c109; first | (rw [decide_eq_true (p := 0 < _) (by omega), decide_eq_true (p := (_ : Int) ≠ 0) (by omega)]; exact Bool.or_true _) | (rw [decide_eq_false (p := 0 < _) (by omega), decide_eq_false (p := (_ : Int) ≠ 0) (by omega)]; exact Bool.or_true _))
        · (try simp only [ite01t, ite01v, Int32.reduceToInt, t_m1, t_m2, t_m1000, Decidable.not_not] at c109); (try simp only [ez] at c109)
          refine w_Ledger_fits_117 ?_
          refine w_Ledger_fits_122 (fun c122 => absurd c122 (by decide)) (fun c122 => ?_)
          refine w_Ledger_fits_131 ?_
          refine ⟨?_, rfl⟩
          rw [if_neg]
          rw [fitsF_no (j := j + 1) ?_ (by omega)]
          · exact Bool.false_ne_true
          have mt := (missF_t g (k := j) (by omega)).1
          rw [w2, ← hm] at mt
          rw [hp] at c109
          rw [fitsF, hf, Bool.true_and, decide_eq_true (p := (gd h a 1 j).toInt = 2) (by omega)]
          first | (rw [decide_eq_true (p := 0 < _) (by omega), decide_eq_false (p := (_ : Int) ≠ 0) (by omega)]; rfl) | (rw [decide_eq_false (p := 0 < _) (by omega), decide_eq_true (p := (_ : Int) ≠ 0) (by omega)]; rfl)
      · (try simp only [ite01t, ite01v, Int32.reduceToInt, t_m1, t_m2, t_m1000, Decidable.not_not] at c93); (try simp only [ez] at c93)
        refine w_Ledger_fits_104 ?_
        refine w_Ledger_fits_109 rfl (fun c109 => ?_) (fun c109 => ?_)
        · (try simp only [ite01t, ite01v, Int32.reduceToInt, t_m1, t_m2, t_m1000, Decidable.not_not] at c109); (try simp only [ez] at c109)
          refine w_Ledger_fits_121 ?_
          refine w_Ledger_fits_122 (fun c122 => absurd c122 (by decide)) (fun c122 => ?_)
          refine w_Ledger_fits_131 ?_
          refine ⟨?_, rfl⟩
          rw [if_neg]
          rw [fitsF_no (j := j + 1) ?_ (by omega)]
          · exact Bool.false_ne_true
          have mt := (missF_t g (k := j) (by omega)).1
          rw [w2, ← hm] at mt
          rw [hp] at c109
          rw [fitsF, hf, Bool.true_and, decide_eq_true (p := (gd h a 1 j).toInt = 2) (by omega)]
          first | (rw [decide_eq_true (p := 0 < _) (by omega), decide_eq_false (p := (_ : Int) ≠ 0) (by omega)]; rfl) | (rw [decide_eq_false (p := 0 < _) (by omega), decide_eq_true (p := (_ : Int) ≠ 0) (by omega)]; rfl)
        · (try simp only [ite01t, ite01v, Int32.reduceToInt, t_m1, t_m2, t_m1000, Decidable.not_not] at c109); (try simp only [ez] at c109)
          refine w_Ledger_fits_117 ?_
          refine w_Ledger_fits_122 (fun c122 => ?_) (fun c122 => absurd c122 (by decide))
          refine w_Ledger_fits_133 A (by first | assumption | omega | (refine ⟨?_, ?_⟩ <;> first | assumption | omega)) rfl ?_
          refine w_Ledger_fits_143 rfl ?_
          refine ih (by omega) _ ⟨_, _, _, _, _, rfl, t_succ hz (by omega), ?_, ?_, ?_⟩
          · rw [dueF, ← hm, w1]; try rw [ez]
            first | (rw [if_pos (by omega)]; rfl) | (rw [if_neg (by omega), if_pos (by omega)]; rfl) | (rw [if_neg (by omega), if_neg (by omega), if_pos (by omega)]; rfl) | (rw [if_neg (by omega), if_neg (by omega), if_neg (by omega)]; done)
          · rw [opF, ← hp, w1]; try rw [ez]
            first | (rw [if_pos (by omega)]; rfl) | (rw [if_neg (by omega), if_pos (by omega)]; done) | (rw [if_neg (by omega), if_neg (by omega)]; done)
          · rw [fitsF, hf, Bool.true_and]
            first | (rw [decide_eq_false (p := (gd h a 1 j).toInt = 2) (by omega)]; rfl) | (have mt := (missF_t g (k := j) (by omega)).1; rw [w2, ← hm] at mt; rw [hp] at c109; first | (rw [decide_eq_true (p := 0 < _) (by omega), decide_eq_true (p := (_ : Int) ≠ 0) (by omega)]; exact Bool.or_true _) | (rw [decide_eq_false (p := 0 < _) (by omega), decide_eq_false (p := (_ : Int) ≠ 0) (by omega)]; exact Bool.or_true _))
    · (try simp only [ez] at c16)
      refine w_Ledger_fits_78 A (by first | assumption | omega | (refine ⟨?_, ?_⟩ <;> first | assumption | omega)) rfl ?_
      refine w_Ledger_fits_143 rfl ?_
      refine ih (by omega) _ ⟨_, _, _, _, _, rfl, t_succ hz (by omega), ?_, ?_, ?_⟩
      · rw [dueF, ← hm, w1]; try rw [ez]
        first | (rw [if_pos (by omega)]; rfl) | (rw [if_neg (by omega), if_pos (by omega)]; rfl) | (rw [if_neg (by omega), if_neg (by omega), if_pos (by omega)]; rfl) | (rw [if_neg (by omega), if_neg (by omega), if_neg (by omega)]; done)
      · rw [opF, ← hp, w1]; try rw [ez]
        first | (rw [if_pos (by omega)]; rfl) | (rw [if_neg (by omega), if_pos (by omega)]; done) | (rw [if_neg (by omega), if_neg (by omega)]; done)
      · rw [fitsF, hf, Bool.true_and]
        first | (rw [decide_eq_false (p := (gd h a 1 j).toInt = 2) (by omega)]; rfl) | (have mt := (missF_t g (k := j) (by omega)).1; rw [w2, ← hm] at mt; rw [hp] at c109; first | (rw [decide_eq_true (p := 0 < _) (by omega), decide_eq_true (p := (_ : Int) ≠ 0) (by omega)]; exact Bool.or_true _) | (rw [decide_eq_false (p := 0 < _) (by omega), decide_eq_false (p := (_ : Int) ≠ 0) (by omega)]; exact Bool.or_true _))
    · (try simp only [ez] at c16_0 c16_1 c16_2 c16_3)
      have gq := (g.2 j (by omega)).1
      refine w_Ledger_fits_93 A (by first | assumption | omega | (refine ⟨?_, ?_⟩ <;> first | assumption | omega)) (fun c93 => ?_) (fun c93 => ?_)
      · (try simp only [ite01t, ite01v, Int32.reduceToInt, t_m1, t_m2, t_m1000, Decidable.not_not] at c93); (try simp only [ez] at c93)
        refine w_Ledger_fits_108 ?_
        refine w_Ledger_fits_109 rfl (fun c109 => ?_) (fun c109 => ?_)
        · (try simp only [ite01t, ite01v, Int32.reduceToInt, t_m1, t_m2, t_m1000, Decidable.not_not] at c109); (try simp only [ez] at c109)
          refine w_Ledger_fits_121 ?_
          refine w_Ledger_fits_122 (fun c122 => ?_) (fun c122 => absurd c122 (by decide))
          refine w_Ledger_fits_133 A (by first | assumption | omega | (refine ⟨?_, ?_⟩ <;> first | assumption | omega)) rfl ?_
          refine w_Ledger_fits_143 rfl ?_
          refine ih (by omega) _ ⟨_, _, _, _, _, rfl, t_succ hz (by omega), ?_, ?_, ?_⟩
          · rw [dueF, ← hm, w1]; try rw [ez]
            first | (rw [if_pos (by omega)]; rfl) | (rw [if_neg (by omega), if_pos (by omega)]; rfl) | (rw [if_neg (by omega), if_neg (by omega), if_pos (by omega)]; rfl) | (rw [if_neg (by omega), if_neg (by omega), if_neg (by omega)]; done)
          · rw [opF, ← hp, w1]; try rw [ez]
            first | (rw [if_pos (by omega)]; rfl) | (rw [if_neg (by omega), if_pos (by omega)]; done) | (rw [if_neg (by omega), if_neg (by omega)]; done)
          · rw [fitsF, hf, Bool.true_and]
            first | (rw [decide_eq_false (p := (gd h a 1 j).toInt = 2) (by omega)]; rfl) | (have mt := (missF_t g (k := j) (by omega)).1; rw [w2, ← hm] at mt; rw [hp] at c109; first | (rw [decide_eq_true (p := 0 < _) (by omega), decide_eq_true (p := (_ : Int) ≠ 0) (by omega)]; exact Bool.or_true _) | (rw [decide_eq_false (p := 0 < _) (by omega), decide_eq_false (p := (_ : Int) ≠ 0) (by omega)]; exact Bool.or_true _))
        · (try simp only [ite01t, ite01v, Int32.reduceToInt, t_m1, t_m2, t_m1000, Decidable.not_not] at c109); (try simp only [ez] at c109)
          refine w_Ledger_fits_117 ?_
          refine w_Ledger_fits_122 (fun c122 => absurd c122 (by decide)) (fun c122 => ?_)
          refine w_Ledger_fits_131 ?_
          refine ⟨?_, rfl⟩
          rw [if_neg]
          rw [fitsF_no (j := j + 1) ?_ (by omega)]
          · exact Bool.false_ne_true
          have mt := (missF_t g (k := j) (by omega)).1
          rw [w2, ← hm] at mt
          rw [hp] at c109
          rw [fitsF, hf, Bool.true_and, decide_eq_true (p := (gd h a 1 j).toInt = 2) (by omega)]
          first | (rw [decide_eq_true (p := 0 < _) (by omega), decide_eq_false (p := (_ : Int) ≠ 0) (by omega)]; rfl) | (rw [decide_eq_false (p := 0 < _) (by omega), decide_eq_true (p := (_ : Int) ≠ 0) (by omega)]; rfl)
      · (try simp only [ite01t, ite01v, Int32.reduceToInt, t_m1, t_m2, t_m1000, Decidable.not_not] at c93); (try simp only [ez] at c93)
        refine w_Ledger_fits_104 ?_
        refine w_Ledger_fits_109 rfl (fun c109 => ?_) (fun c109 => ?_)
        · (try simp only [ite01t, ite01v, Int32.reduceToInt, t_m1, t_m2, t_m1000, Decidable.not_not] at c109); (try simp only [ez] at c109)
          refine w_Ledger_fits_121 ?_
          refine w_Ledger_fits_122 (fun c122 => absurd c122 (by decide)) (fun c122 => ?_)
          refine w_Ledger_fits_131 ?_
          refine ⟨?_, rfl⟩
          rw [if_neg]
          rw [fitsF_no (j := j + 1) ?_ (by omega)]
          · exact Bool.false_ne_true
          have mt := (missF_t g (k := j) (by omega)).1
          rw [w2, ← hm] at mt
          rw [hp] at c109
          rw [fitsF, hf, Bool.true_and, decide_eq_true (p := (gd h a 1 j).toInt = 2) (by omega)]
          first | (rw [decide_eq_true (p := 0 < _) (by omega), decide_eq_false (p := (_ : Int) ≠ 0) (by omega)]; rfl) | (rw [decide_eq_false (p := 0 < _) (by omega), decide_eq_true (p := (_ : Int) ≠ 0) (by omega)]; rfl)
        · (try simp only [ite01t, ite01v, Int32.reduceToInt, t_m1, t_m2, t_m1000, Decidable.not_not] at c109); (try simp only [ez] at c109)
          refine w_Ledger_fits_117 ?_
          refine w_Ledger_fits_122 (fun c122 => ?_) (fun c122 => absurd c122 (by decide))
          refine w_Ledger_fits_133 A (by first | assumption | omega | (refine ⟨?_, ?_⟩ <;> first | assumption | omega)) rfl ?_
          refine w_Ledger_fits_143 rfl ?_
          refine ih (by omega) _ ⟨_, _, _, _, _, rfl, t_succ hz (by omega), ?_, ?_, ?_⟩
          · rw [dueF, ← hm, w1]; try rw [ez]
            first | (rw [if_pos (by omega)]; rfl) | (rw [if_neg (by omega), if_pos (by omega)]; rfl) | (rw [if_neg (by omega), if_neg (by omega), if_pos (by omega)]; rfl) | (rw [if_neg (by omega), if_neg (by omega), if_neg (by omega)]; done)
          · rw [opF, ← hp, w1]; try rw [ez]
            first | (rw [if_pos (by omega)]; rfl) | (rw [if_neg (by omega), if_pos (by omega)]; done) | (rw [if_neg (by omega), if_neg (by omega)]; done)
          · rw [fitsF, hf, Bool.true_and]
            first | (rw [decide_eq_false (p := (gd h a 1 j).toInt = 2) (by omega)]; rfl) | (have mt := (missF_t g (k := j) (by omega)).1; rw [w2, ← hm] at mt; rw [hp] at c109; first | (rw [decide_eq_true (p := 0 < _) (by omega), decide_eq_true (p := (_ : Int) ≠ 0) (by omega)]; exact Bool.or_true _) | (rw [decide_eq_false (p := 0 < _) (by omega), decide_eq_false (p := (_ : Int) ≠ 0) (by omega)]; exact Bool.or_true _))
end M43
