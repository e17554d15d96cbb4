/-! OPERATION on ledgers: thieves -/
section M44
variable {rod : Nat → Nat × (Nat → Int32)} {d : Nat} {h : MH} {a l : Nat}
theorem s_isSo {n : Nat} (I : INV h) (M : MLed h a l n) (ha : a + 3 ≤ 45) (s : Int32) : Wc rod (d + 2) 279 [.inr (.inr (.inl (some 84))), .inl s] h (fun r h' => r = some (.inl (if fitsF (gd h a) s n = true then 1 else 0)) ∧ Keep h h' ∧ MLed h' a l n) := by
  have L := I.lay
  have hl := M.2.1
  have g := M.1.ok M.2.2.2
  have g1 := g.1
  refine n_Model_isSo ?_
  refine w_Model_isSo_0 L (s_opens M L ha) ?_
  rintro _ h0 ⟨rfl, k0, M0, V0⟩
  refine w_Model_isSo_4 rfl ?_
  refine Wb.uph n (fun j L' h' => ∃ (z m : Int32), L' = [some (.inr (.inr (.inl (some 84)))), some (.inl s), some (.inl m), some (.inl z)] ∧ z.toInt = (j : Int) ∧ Keep h h' ∧ MLed h' a l n ∧ LInv h' a j ∧ m = (if fitsF (gd h a) s j = true then 1 else 0)) ?_ (Nat.zero_le _) ⟨0, 1, rfl, rfl, k0, M0, V0, rfl⟩
  rintro j _ q hj ⟨z, m, rfl, hz, KK, MM, VV, hm⟩ ih
  have Lq := (I.keep KK).lay
  have dq := gdk KK ha
  have r0 : (q.1 85 (q.1 84 38).toNatClampNeg).toInt = (n : Int) := by rw [n_eq MM.2.2.1, ← MM.1.1, MM.2.2.2]
  refine w_Model_isSo_8 Lq (by rw [MM.2.2.1]; omega) (fun kc8 => ?_) (fun kc8 => ?_)
  · ((try simp only [Int32.reduceToInt, t_m1, t_m2, t_m1000, Decidable.not_not] at kc8)); (try simp only [r0] at kc8); (try simp only [w1] at kc8); (try simp only [oq, mq] at kc8)
    refine w_Model_isSo_90 (by rw [hm]; exact or01) ?_
    exact ⟨by rw [hm, show j = n by omega], KK, MM⟩
  · ((try simp only [Int32.reduceToInt, t_m1, t_m2, t_m1000, Decidable.not_not] at kc8)); (try simp only [r0] at kc8); (try simp only [w1] at kc8); (try simp only [oq, mq] at kc8)
    refine w_Model_isSo_21 Lq (s_enters MM Lq ha z j hz (by omega) VV) ?_
    rintro _ h21 ⟨rfl, k21, M21, V21, F21⟩
    rw [dq] at F21
    have L21 := (I.keep (KK.trans k21)).lay
    have ei := (n_add (n_add M21.2.2.1 (show (1 : Int32).toInt = ((1 : Nat) : Int) from rfl) (by omega)) (n_mul (show (2 : Int32).toInt = ((2 : Nat) : Int) from rfl) hz (by omega)) (by omega))
    have w1 : h21.1 85 (h21.1 84 38 + 1 + 2 * z).toNatClampNeg = gd h a 1 j := by rw [n_eq ei, (M21.1.ofE (by rw [M21.2.2.2]; omega)).1, show gd h a 1 j = h.1 (a + 1) j from rfl, ← (KK.trans k21).c _ (by omega)]
    refine w_Model_isSo_26 L21 (by rw [ei]; omega) (fun kc26 => ?_) (fun kc26 => ?_)
    · ((try simp only [Int32.reduceToInt, t_m1, t_m2, t_m1000, Decidable.not_not] at kc26)); (try simp only [r0] at kc26); (try simp only [w1] at kc26); (try simp only [oq, mq] at kc26)
      refine w_Model_isSo_84 rfl ?_
      refine ih (by omega) _ _ ⟨_, _, rfl, t_succ hz (by omega), KK.trans k21, M21, V21, ?_⟩
      rw [hm, fitsF, decide_eq_false (p := (gd h a 1 j).toInt = 2) (by omega), Bool.not_false, Bool.true_or, Bool.and_true]
    · ((try simp only [Int32.reduceToInt, t_m1, t_m2, t_m1000, Decidable.not_not] at kc26)); (try simp only [r0] at kc26); (try simp only [w1] at kc26); (try simp only [oq, mq] at kc26)
      refine w_Model_isSo_45 (fun kc45 => ?_) (fun kc45 => ?_)
      · ((try simp only [Int32.reduceToInt, t_m1, t_m2, t_m1000, Decidable.not_not] at kc45)); (try simp only [r0] at kc45); (try simp only [w1] at kc45); (try simp only [oq, mq] at kc45)
        refine w_Model_isSo_82 ?_
        refine w_Model_isSo_83 rfl ?_
        refine w_Model_isSo_84 rfl ?_
        refine ih (by omega) _ _ ⟨_, _, rfl, t_succ hz (by omega), KK.trans k21, M21, V21, ?_⟩
        rw [fitsF, decide_eq_true (p := (gd h a 1 j).toInt = 2) (by omega)]
        rw [hm, ite01t, Bool.not_eq_true] at kc45
        rw [kc45]
        rfl
      · ((try simp only [Int32.reduceToInt, t_m1, t_m2, t_m1000, Decidable.not_not] at kc45)); (try simp only [r0] at kc45); (try simp only [w1] at kc45); (try simp only [oq, mq] at kc45)
        have oq : h21.1 84 40 = opF (gd h a) j := (F21 (by omega)).2
        have mq : h21.1 84 41 = missF (gd h a) j := (F21 (by omega)).1
        refine w_Model_isSo_49 L21 (fun kc49 => ?_) (fun kc49 => ?_)
        · ((try simp only [Int32.reduceToInt, t_m1, t_m2, t_m1000, Decidable.not_not] at kc49)); (try simp only [r0] at kc49); (try simp only [w1] at kc49); (try simp only [oq, mq] at kc49)
          refine w_Model_isSo_62 ?_
          refine w_Model_isSo_63 L21 (fun kc63 => ?_) (fun kc63 => ?_)
          · ((try simp only [Int32.reduceToInt, t_m1, t_m2, t_m1000, Decidable.not_not] at kc63)); (try simp only [r0] at kc63); (try simp only [w1] at kc63); (try simp only [oq, mq] at kc63)
            refine w_Model_isSo_74 ?_
            refine w_Model_isSo_75 (fun kc75 => absurd kc75 (by decide)) (fun kc75 => ?_)
            refine w_Model_isSo_78 ?_
            refine w_Model_isSo_83 rfl ?_
            refine w_Model_isSo_84 rfl ?_
            refine ih (by omega) _ _ ⟨_, _, rfl, t_succ hz (by omega), KK.trans k21, M21, V21, ?_⟩
            have mt := (missF_t g (k := j) (by omega)).1
            rw [fitsF, decide_eq_true (p := (gd h a 1 j).toInt = 2) (by omega)]
            rw [hm, ite01t, Decidable.not_not] at kc45
            rw [kc45]
            first | (rw [decide_eq_true (p := 0 < _) (by omega), decide_eq_true (p := (_ : Int) ≠ 0) (by omega)]; rfl) | (rw [decide_eq_true (p := 0 < _) (by omega), decide_eq_false (p := (_ : Int) ≠ 0) (by omega)]; rfl) | (rw [decide_eq_false (p := 0 < _) (by omega), decide_eq_true (p := (_ : Int) ≠ 0) (by omega)]; rfl) | (rw [decide_eq_false (p := 0 < _) (by omega), decide_eq_false (p := (_ : Int) ≠ 0) (by omega)]; rfl)
          · ((try simp only [Int32.reduceToInt, t_m1, t_m2, t_m1000, Decidable.not_not] at kc63)); (try simp only [r0] at kc63); (try simp only [w1] at kc63); (try simp only [oq, mq] at kc63)
            refine w_Model_isSo_70 ?_
            refine w_Model_isSo_75 (fun kc75 => ?_) (fun kc75 => absurd kc75 (by decide))
            refine w_Model_isSo_82 ?_
            refine w_Model_isSo_83 rfl ?_
            refine w_Model_isSo_84 rfl ?_
            refine ih (by omega) _ _ ⟨_, _, rfl, t_succ hz (by omega), KK.trans k21, M21, V21, ?_⟩
            have mt := (missF_t g (k := j) (by omega)).1
            rw [fitsF, decide_eq_true (p := (gd h a 1 j).toInt = 2) (by omega)]
            rw [hm, ite01t, Decidable.not_not] at kc45
            rw [kc45]
            first | (rw [decide_eq_true (p := 0 < _) (by omega), decide_eq_true (p := (_ : Int) ≠ 0) (by omega)]; rfl) | (rw [decide_eq_true (p := 0 < _) (by omega), decide_eq_false (p := (_ : Int) ≠ 0) (by omega)]; rfl) | (rw [decide_eq_false (p := 0 < _) (by omega), decide_eq_true (p := (_ : Int) ≠ 0) (by omega)]; rfl) | (rw [decide_eq_false (p := 0 < _) (by omega), decide_eq_false (p := (_ : Int) ≠ 0) (by omega)]; rfl)
        · ((try simp only [Int32.reduceToInt, t_m1, t_m2, t_m1000, Decidable.not_not] at kc49)); (try simp only [r0] at kc49); (try simp only [w1] at kc49); (try simp only [oq, mq] at kc49)
          refine w_Model_isSo_58 ?_
          refine w_Model_isSo_63 L21 (fun kc63 => ?_) (fun kc63 => ?_)
          · ((try simp only [Int32.reduceToInt, t_m1, t_m2, t_m1000, Decidable.not_not] at kc63)); (try simp only [r0] at kc63); (try simp only [w1] at kc63); (try simp only [oq, mq] at kc63)
            refine w_Model_isSo_74 ?_
            refine w_Model_isSo_75 (fun kc75 => ?_) (fun kc75 => absurd kc75 (by decide))
            refine w_Model_isSo_82 ?_
            refine w_Model_isSo_83 rfl ?_
            refine w_Model_isSo_84 rfl ?_
            refine ih (by omega) _ _ ⟨_, _, rfl, t_succ hz (by omega), KK.trans k21, M21, V21, ?_⟩
            have mt := (missF_t g (k := j) (by omega)).1
            rw [fitsF, decide_eq_true (p := (gd h a 1 j).toInt = 2) (by omega)]
            rw [hm, ite01t, Decidable.not_not] at kc45
            rw [kc45]
            first | (rw [decide_eq_true (p := 0 < _) (by omega), decide_eq_true (p := (_ : Int) ≠ 0) (by omega)]; rfl) | (rw [decide_eq_true (p := 0 < _) (by omega), decide_eq_false (p := (_ : Int) ≠ 0) (by omega)]; rfl) | (rw [decide_eq_false (p := 0 < _) (by omega), decide_eq_true (p := (_ : Int) ≠ 0) (by omega)]; rfl) | (rw [decide_eq_false (p := 0 < _) (by omega), decide_eq_false (p := (_ : Int) ≠ 0) (by omega)]; rfl)
          · ((try simp only [Int32.reduceToInt, t_m1, t_m2, t_m1000, Decidable.not_not] at kc63)); (try simp only [r0] at kc63); (try simp only [w1] at kc63); (try simp only [oq, mq] at kc63)
            refine w_Model_isSo_70 ?_
            refine w_Model_isSo_75 (fun kc75 => absurd kc75 (by decide)) (fun kc75 => ?_)
            refine w_Model_isSo_78 ?_
            refine w_Model_isSo_83 rfl ?_
            refine w_Model_isSo_84 rfl ?_
            refine ih (by omega) _ _ ⟨_, _, rfl, t_succ hz (by omega), KK.trans k21, M21, V21, ?_⟩
            have mt := (missF_t g (k := j) (by omega)).1
            rw [fitsF, decide_eq_true (p := (gd h a 1 j).toInt = 2) (by omega)]
            rw [hm, ite01t, Decidable.not_not] at kc45
            rw [kc45]
            first | (rw [decide_eq_true (p := 0 < _) (by omega), decide_eq_true (p := (_ : Int) ≠ 0) (by omega)]; rfl) | (rw [decide_eq_true (p := 0 < _) (by omega), decide_eq_false (p := (_ : Int) ≠ 0) (by omega)]; rfl) | (rw [decide_eq_false (p := 0 < _) (by omega), decide_eq_true (p := (_ : Int) ≠ 0) (by omega)]; rfl) | (rw [decide_eq_false (p := 0 < _) (by omega), decide_eq_false (p := (_ : Int) ≠ 0) (by omega)]; rfl)
def cntP (p : Nat → Bool) (j : Nat) : Int32 := sumF (fun s => if p s = true then 1 else 0) j
theorem cntP_succ (p : Nat → Bool) (j : Nat) : cntP p (j + 1) = cntP p j + (if p j = true then 1 else 0) := rfl
def nthF (p : Nat → Bool) (k : Int32) : Nat → Nat → Int32 → Int32
  | 0, _, _ => -2
  | f + 1, s, c => if p s = true then (if c.toInt = k.toInt then Int32.ofNat s else nthF p k f (s + 1) (c + 1)) else nthF p k f (s + 1) c
theorem nthF_no {p : Nat → Bool} {k c : Int32} {j n : Nat} (hj : j < n) (e : ¬ p j = true) : nthF p k (n - j) j c = nthF p k (n - (j + 1)) (j + 1) c := by
  rw [show n - j = (n - (j + 1)) + 1 by omega, nthF, if_neg e]
theorem nthF_go {p : Nat → Bool} {k c : Int32} {j n : Nat} (hj : j < n) (e : p j = true) (q : ¬ c.toInt = k.toInt) : nthF p k (n - j) j c = nthF p k (n - (j + 1)) (j + 1) (c + 1) := by
  rw [show n - j = (n - (j + 1)) + 1 by omega, nthF, if_pos e, if_neg q]
theorem nthF_yes {p : Nat → Bool} {k c : Int32} {j n : Nat} (hj : j < n) (e : p j = true) (q : c.toInt = k.toInt) : nthF p k (n - j) j c = Int32.ofNat j := by
  rw [show n - j = (n - (j + 1)) + 1 by omega, nthF, if_pos e, if_pos q]
def sureC (p : Nat → Bool) : Nat → Int32
  | 0 => -1
  | s + 1 => if p s = true then (if (sureC p s).toInt = -1 then Int32.ofNat s else sureC p s &&& Int32.ofNat s) else sureC p s
def anyC (p : Nat → Bool) : Nat → Int32
  | 0 => -1
  | s + 1 => if p s = true then (if (anyC p s).toInt = -1 then Int32.ofNat s else anyC p s ||| Int32.ofNat s) else anyC p s
def sureM (p : Nat → Bool) : Nat → Int32
  | 0 => 63
  | s + 1 => if p s = true then sureM p s &&& Int32.ofNat s else sureM p s
def clrM (p : Nat → Bool) : Nat → Int32
  | 0 => 63
  | s + 1 => if p s = true then clrM p s &&& (Int32.ofNat s ^^^ (-1)) else clrM p s
theorem and_n (m s : Nat) : Int32.ofNat m &&& Int32.ofNat s = Int32.ofNat (m &&& s) := Int32.toBitVec_inj.mp (BitVec.ofNat_and).symm
theorem or_n (m s : Nat) : Int32.ofNat m ||| Int32.ofNat s = Int32.ofNat (m ||| s) := Int32.toBitVec_inj.mp (BitVec.ofNat_or).symm
theorem and64 (m : Nat) (_ : m < 64) (s : Nat) (_ : s < 64) : Int32.ofNat m &&& Int32.ofNat s = Int32.ofNat (m &&& s) := and_n m s
theorem or64 (m : Nat) (hm : m < 64) (s : Nat) (hs : s < 64) : Int32.ofNat m ||| Int32.ofNat s = Int32.ofNat (m ||| s) ∧ m ||| s < 64 := ⟨or_n m s, Nat.or_lt_two_pow (n := 6) hm hs⟩
theorem clr_all : ((List.range 64).all fun m => (List.range 64).all fun s => decide (Int32.ofNat (63 - m) &&& (Int32.ofNat s ^^^ (-1)) = Int32.ofNat (63 - (m ||| s)))) = true := by decide +kernel
theorem clr64 (m : Nat) (hm : m < 64) (s : Nat) (hs : s < 64) : Int32.ofNat (63 - m) &&& (Int32.ofNat s ^^^ (-1)) = Int32.ofNat (63 - (m ||| s)) := of_decide_eq_true (List.all_eq_true.mp (List.all_eq_true.mp clr_all m (List.mem_range.mpr hm)) s (List.mem_range.mpr hs))
theorem fst_all : ((List.range 64).all fun s => decide ((63 : Int32) &&& Int32.ofNat s = Int32.ofNat s ∧ (63 : Int32) &&& (Int32.ofNat s ^^^ (-1)) = Int32.ofNat (63 - s) ∧ (63 : Int32) - Int32.ofNat s = Int32.ofNat (63 - s))) = true := by decide +kernel
theorem fst64 (s : Nat) (hs : s < 64) : (63 : Int32) &&& Int32.ofNat s = Int32.ofNat s ∧ (63 : Int32) &&& (Int32.ofNat s ^^^ (-1)) = Int32.ofNat (63 - s) := by
  have q := of_decide_eq_true (List.all_eq_true.mp fst_all s (List.mem_range.mpr hs))
  exact ⟨q.1, q.2.1⟩
theorem sub64 (s : Nat) (hs : s < 64) : (63 : Int32) - Int32.ofNat s = Int32.ofNat (63 - s) := (of_decide_eq_true (List.all_eq_true.mp fst_all s (List.mem_range.mpr hs))).2.2
theorem setRel (p : Nat → Bool) : ∀ j, j ≤ 64 → (0 ≤ (cntP p j).toInt ∧ (cntP p j).toInt ≤ (j : Int)) ∧ (((cntP p j).toInt = 0 ∧ sureC p j = -1 ∧ anyC p j = -1 ∧ sureM p j = 63 ∧ clrM p j = 63) ∨ (0 < (cntP p j).toInt ∧ ∃ m q, m < 64 ∧ q < 64 ∧ sureC p j = Int32.ofNat m ∧ sureM p j = Int32.ofNat m ∧ anyC p j = Int32.ofNat q ∧ clrM p j = Int32.ofNat (63 - q))) := by
  intro j
  induction j with
  | zero => intro _; exact ⟨(by decide : (0 : Int) ≤ (0 : Int32).toInt ∧ (0 : Int32).toInt ≤ ((0 : Nat) : Int)), Or.inl ⟨rfl, rfl, rfl, rfl, rfl⟩⟩
  | succ j ih =>
    intro hj
    obtain ⟨b, ih⟩ := ih (by omega)
    rw [cntP_succ, sureC, sureM, anyC, clrM]
    by_cases c : p j = true
    · have e : (cntP p j + 1).toInt = (cntP p j).toInt + 1 := i32_add (by show _ ≤ _ + (1 : Int); omega) (by show _ + (1 : Int) ≤ _; omega)
      rw [if_pos c, if_pos c, if_pos c, if_pos c, if_pos c, e]
      refine ⟨by omega, Or.inr ⟨by omega, ?_⟩⟩
      rcases ih with ⟨-, i1, i2, i3, i4⟩ | ⟨-, m, q, hm, hq, i1, i3, i2, i4⟩
      · rw [i1, i2, i3, i4, if_pos (show (-1 : Int32).toInt = -1 from rfl), if_pos (show (-1 : Int32).toInt = -1 from rfl)]
        exact ⟨j, j, by omega, by omega, rfl, (fst64 j (by omega)).1, rfl, (fst64 j (by omega)).2⟩
      · rw [i1, i2, i3, i4, if_neg (by rw [t_nat (by omega)]; omega), if_neg (by rw [t_nat (by omega)]; omega)]
        exact ⟨m &&& j, q ||| j, Nat.lt_of_le_of_lt Nat.and_le_left hm, (or64 q hq j (by omega)).2, and64 m hm j (by omega), and64 m hm j (by omega), (or64 q hq j (by omega)).1, clr64 q hq j (by omega)⟩
    · rw [if_neg c, if_neg c, if_neg c, if_neg c, if_neg c, Int32.add_zero]
      exact ⟨by omega, ih⟩
def thievesV (p : Nat → Bool) (w : Int32) : Int32 := if w.toInt < 0 ∨ (3 ≤ w.toInt ∧ w.toInt ≤ 9) then -2 else if w.toInt = 0 then cntP p 64 else if w.toInt = 1 then sureC p 64 else if w.toInt = 2 then (if (anyC p 64).toInt = -1 then -1 else 63 - anyC p 64) else nthF p (w - 10) 64 0 0
theorem tV0 {p : Nat → Bool} {w : Int32} (c : w.toInt = 0) : thievesV p w = cntP p 64 := by rw [thievesV, if_neg (c := _ ∨ _) (by omega), if_pos c]
theorem tV1 {p : Nat → Bool} {w : Int32} (c : w.toInt = 1) : thievesV p w = sureC p 64 := by rw [thievesV, if_neg (c := _ ∨ _) (by omega), if_neg (c := w.toInt = 0) (by omega), if_pos c]
theorem tV2 {p : Nat → Bool} {w : Int32} (c : w.toInt = 2) : thievesV p w = if (anyC p 64).toInt = -1 then -1 else 63 - anyC p 64 := by rw [thievesV, if_neg (c := _ ∨ _) (by omega), if_neg (c := w.toInt = 0) (by omega), if_neg (c := w.toInt = 1) (by omega), if_pos c]
theorem tVn {p : Nat → Bool} {w : Int32} (c : 10 ≤ w.toInt) : thievesV p w = nthF p (w - 10) 64 0 0 := by rw [thievesV, if_neg (c := _ ∨ _) (by omega), if_neg (c := w.toInt = 0) (by omega), if_neg (c := w.toInt = 1) (by omega), if_neg (c := w.toInt = 2) (by omega)]
theorem tVx {p : Nat → Bool} {w : Int32} (c : w.toInt < 0 ∨ (3 ≤ w.toInt ∧ w.toInt ≤ 9)) : thievesV p w = -2 := by rw [thievesV, if_pos c]
theorem s_howFit {n : Nat} (A : LedgerA h.2 a) (g : GOk (gd h a) n) (hn : (h.1 a 0).toInt = (n : Int))  : Tc rod (d + 2) 121 [.inr (.inr (.inl (some a)))] h (some (.inl (cntP (fun s => fitsF (gd h a) (Int32.ofNat s) n) 64))) h := by
  apply Wc.tc
  refine n_Ledger_howManyFit ?_
  refine w_Ledger_howManyFit_0 rfl ?_
  have hp : ∀ j : Nat, j < 64 → ∀ z : Int32, z.toInt = (j : Int) → z = Int32.ofNat j := fun j hj z hz => i32_of (by rw [hz, t_nat (by omega)])
  refine Wb.upc 64 (fun j L' => ∃ (z : Int32) (m : Int32), L' = [some (.inr (.inr (.inl (some a)))), some (.inl m), some (.inl z)] ∧ z.toInt = (j : Int) ∧ m = cntP (fun s => fitsF (gd h a) (Int32.ofNat s) n) j) ?_ (Nat.zero_le _) ⟨0, 0, rfl, rfl, rfl⟩
  rintro j _ hj ⟨z, m, rfl, hz, hm⟩ ih
  refine w_Ledger_howManyFit_4 (fun kc4 => ?_) (fun kc4 => ?_)
  · try simp only [ite01t, ite01v, Int32.reduceToInt, t_m1, t_m2, t_m1000, Decidable.not_not] at kc4
    refine w_Ledger_howManyFit_27 ?_
    exact ⟨by rw [hm, show j = 64 by omega], rfl⟩
  · try simp only [ite01t, ite01v, Int32.reduceToInt, t_m1, t_m2, t_m1000, Decidable.not_not] at kc4
    refine w_Ledger_howManyFit_10 A (Tc.wc (s_fits A g hn _)) (Is.k ?_)
    have ez := hp j (by omega) z hz
    refine w_Ledger_howManyFit_15 (fun kc15 => ?_) (fun kc15 => ?_)
    · try simp only [ite01t, ite01v, Int32.reduceToInt, t_m1, t_m2, t_m1000, Decidable.not_not] at kc15
      refine w_Ledger_howManyFit_21 rfl ?_
      refine ih (by omega) _ ⟨_, _, rfl, t_succ hz (by omega), ?_⟩
      rw [cntP_succ, ← hm]
      rw [ez] at kc15
      first | rw [if_pos kc15] | rw [if_neg kc15, Int32.add_zero]
    · try simp only [ite01t, ite01v, Int32.reduceToInt, t_m1, t_m2, t_m1000, Decidable.not_not] at kc15
      refine w_Ledger_howManyFit_18 rfl ?_
      refine w_Ledger_howManyFit_21 rfl ?_
      refine ih (by omega) _ ⟨_, _, rfl, t_succ hz (by omega), ?_⟩
      rw [cntP_succ, ← hm]
      rw [ez] at kc15
      first | rw [if_pos kc15] | rw [if_neg kc15, Int32.add_zero]
theorem s_sure {n : Nat} (A : LedgerA h.2 a) (g : GOk (gd h a) n) (hn : (h.1 a 0).toInt = (n : Int))  : Tc rod (d + 2) 123 [.inr (.inr (.inl (some a)))] h (some (.inl (sureC (fun s => fitsF (gd h a) (Int32.ofNat s) n) 64))) h := by
  apply Wc.tc
  refine n_Ledger_sure ?_
  refine w_Ledger_sure_0 rfl ?_
  have hp : ∀ j : Nat, j < 64 → ∀ z : Int32, z.toInt = (j : Int) → z = Int32.ofNat j := fun j hj z hz => i32_of (by rw [hz, t_nat (by omega)])
  refine Wb.upc 64 (fun j L' => ∃ (z : Int32) (m : Int32), L' = [some (.inr (.inr (.inl (some a)))), some (.inl m), some (.inl z)] ∧ z.toInt = (j : Int) ∧ m = sureC (fun s => fitsF (gd h a) (Int32.ofNat s) n) j) ?_ (Nat.zero_le _) ⟨0, -1, rfl, rfl, rfl⟩
  rintro j _ hj ⟨z, m, rfl, hz, hm⟩ ih
  refine w_Ledger_sure_4 (fun kc4 => ?_) (fun kc4 => ?_)
  · try simp only [ite01t, ite01v, Int32.reduceToInt, t_m1, t_m2, t_m1000, Decidable.not_not] at kc4
    refine w_Ledger_sure_37 ?_
    exact ⟨by rw [hm, show j = 64 by omega], rfl⟩
  · try simp only [ite01t, ite01v, Int32.reduceToInt, t_m1, t_m2, t_m1000, Decidable.not_not] at kc4
    refine w_Ledger_sure_10 A (Tc.wc (s_fits A g hn _)) (Is.k ?_)
    have ez := hp j (by omega) z hz
    refine w_Ledger_sure_15 (fun kc15 => ?_) (fun kc15 => ?_)
    · try simp only [ite01t, ite01v, Int32.reduceToInt, t_m1, t_m2, t_m1000, Decidable.not_not] at kc15
      refine w_Ledger_sure_31 rfl ?_
      refine ih (by omega) _ ⟨_, _, rfl, t_succ hz (by omega), ?_⟩
      rw [ez] at kc15
      rw [sureC, ← hm]
      first | (rw [if_neg kc15]; done) | (rw [if_pos kc15, if_pos kc18, ez]; done) | (rw [if_pos kc15, if_neg kc18, ez]; done)
    · try simp only [ite01t, ite01v, Int32.reduceToInt, t_m1, t_m2, t_m1000, Decidable.not_not] at kc15
      refine w_Ledger_sure_18 (fun kc18 => ?_) (fun kc18 => ?_)
      · try simp only [ite01t, ite01v, Int32.reduceToInt, t_m1, t_m2, t_m1000, Decidable.not_not] at kc18
        refine w_Ledger_sure_27 ?_
        refine w_Ledger_sure_30 rfl ?_
        refine w_Ledger_sure_31 rfl ?_
        refine ih (by omega) _ ⟨_, _, rfl, t_succ hz (by omega), ?_⟩
        rw [ez] at kc15
        rw [sureC, ← hm]
        first | (rw [if_neg kc15]; done) | (rw [if_pos kc15, if_pos kc18, ez]; done) | (rw [if_pos kc15, if_neg kc18, ez]; done)
      · try simp only [ite01t, ite01v, Int32.reduceToInt, t_m1, t_m2, t_m1000, Decidable.not_not] at kc18
        refine w_Ledger_sure_23 ?_
        refine w_Ledger_sure_30 rfl ?_
        refine w_Ledger_sure_31 rfl ?_
        refine ih (by omega) _ ⟨_, _, rfl, t_succ hz (by omega), ?_⟩
        rw [ez] at kc15
        rw [sureC, ← hm]
        first | (rw [if_neg kc15]; done) | (rw [if_pos kc15, if_pos kc18, ez]; done) | (rw [if_pos kc15, if_neg kc18, ez]; done)
theorem s_clear {n : Nat} (A : LedgerA h.2 a) (g : GOk (gd h a) n) (hn : (h.1 a 0).toInt = (n : Int))  : Tc rod (d + 2) 124 [.inr (.inr (.inl (some a)))] h (some (.inl (if (anyC (fun s => fitsF (gd h a) (Int32.ofNat s) n) 64).toInt = -1 then -1 else 63 - anyC (fun s => fitsF (gd h a) (Int32.ofNat s) n) 64))) h := by
  apply Wc.tc
  refine n_Ledger_clear ?_
  refine w_Ledger_clear_0 rfl ?_
  have hp : ∀ j : Nat, j < 64 → ∀ z : Int32, z.toInt = (j : Int) → z = Int32.ofNat j := fun j hj z hz => i32_of (by rw [hz, t_nat (by omega)])
  refine Wb.upc 64 (fun j L' => ∃ (z : Int32) (m : Int32), L' = [some (.inr (.inr (.inl (some a)))), some (.inl m), some (.inl z)] ∧ z.toInt = (j : Int) ∧ m = anyC (fun s => fitsF (gd h a) (Int32.ofNat s) n) j) ?_ (Nat.zero_le _) ⟨0, -1, rfl, rfl, rfl⟩
  rintro j _ hj ⟨z, m, rfl, hz, hm⟩ ih
  refine w_Ledger_clear_4 (fun kc4 => ?_) (fun kc4 => ?_)
  · try simp only [ite01t, ite01v, Int32.reduceToInt, t_m1, t_m2, t_m1000, Decidable.not_not] at kc4
    refine w_Ledger_clear_37 (fun kc37 => ?_) (fun kc37 => ?_)
    · try simp only [ite01t, ite01v, Int32.reduceToInt, t_m1, t_m2, t_m1000, Decidable.not_not] at kc37
      refine w_Ledger_clear_46 ?_
      refine w_Ledger_clear_50 ?_
      have hj : j = 64 := by omega
      subst hj
      exact ⟨by rw [← hm]; first | rw [if_pos kc37] | rw [if_neg kc37], rfl⟩
    · try simp only [ite01t, ite01v, Int32.reduceToInt, t_m1, t_m2, t_m1000, Decidable.not_not] at kc37
      refine w_Ledger_clear_42 ?_
      refine w_Ledger_clear_50 ?_
      have hj : j = 64 := by omega
      subst hj
      exact ⟨by rw [← hm]; first | rw [if_pos kc37] | rw [if_neg kc37], rfl⟩
  · try simp only [ite01t, ite01v, Int32.reduceToInt, t_m1, t_m2, t_m1000, Decidable.not_not] at kc4
    refine w_Ledger_clear_10 A (Tc.wc (s_fits A g hn _)) (Is.k ?_)
    have ez := hp j (by omega) z hz
    refine w_Ledger_clear_15 (fun kc15 => ?_) (fun kc15 => ?_)
    · try simp only [ite01t, ite01v, Int32.reduceToInt, t_m1, t_m2, t_m1000, Decidable.not_not] at kc15
      refine w_Ledger_clear_31 rfl ?_
      refine ih (by omega) _ ⟨_, _, rfl, t_succ hz (by omega), ?_⟩
      rw [ez] at kc15
      rw [anyC, ← hm]
      first | (rw [if_neg kc15]; done) | (rw [if_pos kc15, if_pos kc18, ez]; done) | (rw [if_pos kc15, if_neg kc18, ez]; done)
    · try simp only [ite01t, ite01v, Int32.reduceToInt, t_m1, t_m2, t_m1000, Decidable.not_not] at kc15
      refine w_Ledger_clear_18 (fun kc18 => ?_) (fun kc18 => ?_)
      · try simp only [ite01t, ite01v, Int32.reduceToInt, t_m1, t_m2, t_m1000, Decidable.not_not] at kc18
        refine w_Ledger_clear_27 ?_
        refine w_Ledger_clear_30 rfl ?_
        refine w_Ledger_clear_31 rfl ?_
        refine ih (by omega) _ ⟨_, _, rfl, t_succ hz (by omega), ?_⟩
        rw [ez] at kc15
        rw [anyC, ← hm]
        first | (rw [if_neg kc15]; done) | (rw [if_pos kc15, if_pos kc18, ez]; done) | (rw [if_pos kc15, if_neg kc18, ez]; done)
      · try simp only [ite01t, ite01v, Int32.reduceToInt, t_m1, t_m2, t_m1000, Decidable.not_not] at kc18
        refine w_Ledger_clear_23 ?_
        refine w_Ledger_clear_30 rfl ?_
        refine w_Ledger_clear_31 rfl ?_
        refine ih (by omega) _ ⟨_, _, rfl, t_succ hz (by omega), ?_⟩
        rw [ez] at kc15
        rw [anyC, ← hm]
        first | (rw [if_neg kc15]; done) | (rw [if_pos kc15, if_pos kc18, ez]; done) | (rw [if_pos kc15, if_neg kc18, ez]; done)
theorem s_nth {n : Nat} (A : LedgerA h.2 a) (g : GOk (gd h a) n) (hn : (h.1 a 0).toInt = (n : Int)) (k : Int32) : Tc rod (d + 2) 125 [.inr (.inr (.inl (some a))), (.inl k)] h (some (.inl (nthF (fun s => fitsF (gd h a) (Int32.ofNat s) n) k 64 0 0))) h := by
  apply Wc.tc
  refine n_Ledger_fittingSet ?_
  refine w_Ledger_fittingSet_0 rfl ?_
  have hp : ∀ j : Nat, j < 64 → ∀ z : Int32, z.toInt = (j : Int) → z = Int32.ofNat j := fun j hj z hz => i32_of (by rw [hz, t_nat (by omega)])
  refine Wb.upc 64 (fun j L' => ∃ (z : Int32) (m : Int32), L' = [some (.inr (.inr (.inl (some a)))), some (.inl k), some (.inl m), some (.inl z)] ∧ z.toInt = (j : Int) ∧ nthF (fun s => fitsF (gd h a) (Int32.ofNat s) n) k 64 0 0 = nthF (fun s => fitsF (gd h a) (Int32.ofNat s) n) k (64 - j) j m) ?_ (Nat.zero_le _) ⟨0, 0, rfl, rfl, by rw [Nat.sub_zero]⟩
  rintro j _ hj ⟨z, m, rfl, hz, hm⟩ ih
  refine w_Ledger_fittingSet_4 (fun kc4 => ?_) (fun kc4 => ?_)
  · try simp only [ite01t, ite01v, Int32.reduceToInt, t_m1, t_m2, t_m1000, Decidable.not_not] at kc4
    refine w_Ledger_fittingSet_34 ?_
    exact ⟨by rw [hm, show j = 64 by omega, Nat.sub_self, nthF], rfl⟩
  · try simp only [ite01t, ite01v, Int32.reduceToInt, t_m1, t_m2, t_m1000, Decidable.not_not] at kc4
    refine w_Ledger_fittingSet_10 A (Tc.wc (s_fits A g hn _)) (Is.k ?_)
    have ez := hp j (by omega) z hz
    refine w_Ledger_fittingSet_15 (fun kc15 => ?_) (fun kc15 => ?_)
    · try simp only [ite01t, ite01v, Int32.reduceToInt, t_m1, t_m2, t_m1000, Decidable.not_not] at kc15
      refine w_Ledger_fittingSet_28 rfl ?_
      refine ih (by omega) _ ⟨_, _, rfl, t_succ hz (by omega), ?_⟩
      rw [ez] at kc15
      rw [hm]
      first | exact nthF_no (by omega) kc15 | exact nthF_go (by omega) kc15 kc18
    · try simp only [ite01t, ite01v, Int32.reduceToInt, t_m1, t_m2, t_m1000, Decidable.not_not] at kc15
      refine w_Ledger_fittingSet_18 (fun kc18 => ?_) (fun kc18 => ?_)
      · try simp only [ite01t, ite01v, Int32.reduceToInt, t_m1, t_m2, t_m1000, Decidable.not_not] at kc18
        refine w_Ledger_fittingSet_25 rfl ?_
        refine w_Ledger_fittingSet_28 rfl ?_
        refine ih (by omega) _ ⟨_, _, rfl, t_succ hz (by omega), ?_⟩
        rw [ez] at kc15
        rw [hm]
        first | exact nthF_no (by omega) kc15 | exact nthF_go (by omega) kc15 kc18
      · try simp only [ite01t, ite01v, Int32.reduceToInt, t_m1, t_m2, t_m1000, Decidable.not_not] at kc18
        refine w_Ledger_fittingSet_23 ?_
        refine ⟨?_, rfl⟩
        rw [ez] at kc15
        rw [hm, nthF_yes (p := fun s => fitsF (gd h a) (Int32.ofNat s) n) (by omega) kc15 kc18, ez]
theorem op_thieves (k w : Int32) : OpI INV rod 120 278 [k, w] := by
  refine OpI.mk fun h hI => ?_
  have L := hI.lay
  by_cases hk : 0 ≤ k.toInt ∧ k.toInt < (h.1 3 2).toInt
  · obtain ⟨A, R, hk2⟩ := hI.ledgerK hk
    have ek := n_of hk.1
    have at1 := fun (d : Nat) => s_ledgerAt1 (rod := rod) (d := d) hI hk
    generalize k.toNatClampNeg = kk at ek hk2 A R at1
    obtain ⟨n, hn⟩ := Int.eq_ofNat_of_zero_le R.en.1
    have g := R.ok hn
    have g1 := g.1
    have ha : 21 + 18 * kk + 3 ≤ 45 := by omega
    refine ⟨thievesV (fun s => fitsF (gd h (21 + 18 * kk)) (Int32.ofNat s) n) w, ?_, fun h1 I1 K1 => ?_⟩
    · refine n_Main_thieves ?_
      refine w_Main_thieves_0 L (Tc.wc (at1 _)) (Is.k ?_)
      refine w_Main_thieves_8 rfl (fun c => nomatch c) (fun _ _ => ?_)
      refine w_Main_thieves_16 (fun kc16 => ?_) (fun kc16 => ?_) (fun kc16 => ?_) (fun kc16_0 kc16_1 kc16_2 => ?_)
      · refine w_Main_thieves_44 A (Tc.wc (s_howFit A g hn)) (Is.k ?_)
        refine w_Main_thieves_48 ?_
        exact ⟨by first | rw [tV0 (by omega)] | rw [tV1 (by omega)] | rw [tV2 (by omega)] | rw [tVn (by omega)] | rw [tVx (by omega)], Keep.rfl⟩
      · refine w_Main_thieves_49 A (Tc.wc (s_sure A g hn)) (Is.k ?_)
        refine w_Main_thieves_53 ?_
        exact ⟨by first | rw [tV0 (by omega)] | rw [tV1 (by omega)] | rw [tV2 (by omega)] | rw [tVn (by omega)] | rw [tVx (by omega)], Keep.rfl⟩
      · refine w_Main_thieves_54 A (Tc.wc (s_clear A g hn)) (Is.k ?_)
        refine w_Main_thieves_58 ?_
        exact ⟨by first | rw [tV0 (by omega)] | rw [tV1 (by omega)] | rw [tV2 (by omega)] | rw [tVn (by omega)] | rw [tVx (by omega)], Keep.rfl⟩
      · refine w_Main_thieves_59 (fun kc59 => ?_) (fun kc59 => ?_)
        · try simp only [ite01t, ite01v, Int32.reduceToInt, t_m1, t_m2, t_m1000, Decidable.not_not] at kc59
          refine w_Main_thieves_70 A (Tc.wc (s_nth A g hn _)) (Is.k ?_)
          refine w_Main_thieves_78 ?_
          exact ⟨by first | rw [tV0 (by omega)] | rw [tV1 (by omega)] | rw [tV2 (by omega)] | rw [tVn (by omega)] | rw [tVx (by omega)], Keep.rfl⟩
        · try simp only [ite01t, ite01v, Int32.reduceToInt, t_m1, t_m2, t_m1000, Decidable.not_not] at kc59
          refine w_Main_thieves_65 ?_
          refine w_Main_thieves_78 ?_
          exact ⟨by first | rw [tV0 (by omega)] | rw [tV1 (by omega)] | rw [tV2 (by omega)] | rw [tVn (by omega)] | rw [tVx (by omega)], Keep.rfl⟩
    · have L1 := I1.lay
      have hk1 : (kk : Int) < (h1.1 3 2).toInt := by rw [K1.c 3 (by omega)]; omega
      have is1 := fun (d : Nat) => s_isLedger1 (rod := rod) (d := d) I1 k kk ek hk1
      have R1 := (I1.ledger kk hk1).2.1
      refine n_Model_thieves ?_
      refine w_Model_thieves_0 L1 (is1 _) ?_
      rintro _ h0 ⟨rfl, k0, f0, m0⟩
      have I0 := I1.keep k0
      have L0 := I0.lay
      have K0 := (Keep.rfl (h := h1)).trans k0
      have e0 : h0.1 (21 + 18 * kk) = h.1 (21 + 18 * kk) := (K1.trans K0).c _ (by omega)
      have M0 : MLed h0 (21 + 18 * kk) (1032 + 41 * kk) n := ⟨(I0.ledger kk (by rw [K0.c 3 (by omega)]; exact hk1)).2.1, by omega, m0, by rw [e0]; exact hn⟩
      refine w_Model_thieves_5 (fun kc5 => absurd kc5 (by decide)) (fun kc5 => ?_)
      refine w_Model_thieves_8 (fun kc8 => ?_) (fun kc8 => ?_)
      · try simp only [ite01t, ite01v, Int32.reduceToInt, t_m1, t_m2, t_m1000, Decidable.not_not] at kc8
        refine w_Model_thieves_22 ?_
        exact ⟨by rw [tVx (by omega)], K0⟩
      · try simp only [ite01t, ite01v, Int32.reduceToInt, t_m1, t_m2, t_m1000, Decidable.not_not] at kc8
        refine w_Model_thieves_12 (Tc.wc (s_isIn _ _ _ _)) (Is.k ?_)
        refine w_Model_thieves_19 (fun kc19 => ?_) (fun kc19 => ?_)
        · try simp only [ite01t, ite01v, Int32.reduceToInt, t_m1, t_m2, t_m1000, Decidable.not_not] at kc19
          refine w_Model_thieves_25 rfl ?_
          have w10 : w.toInt < 10 ∨ (w - 10).toInt = w.toInt - 10 := by have := w.toInt_lt; by_cases c : w.toInt < 10; exact Or.inl c; exact Or.inr (i32_sub (by show _ ≤ _ - (10 : Int); omega) (by show _ - (10 : Int) ≤ _; omega))
          refine Wb.uph 64 (fun j L' h' => ∃ (z m s c : Int32), L' = [some (.inr (.inr (.inl (some 84)))), some (.inl k), some (.inl w), some (.inl m), some (.inl s), some (.inl c), some (.inl z)] ∧ z.toInt = (j : Int) ∧ Keep h1 h' ∧ MLed h' (21 + 18 * kk) (1032 + 41 * kk) n ∧ m = cntP (fun s => fitsF (gd h (21 + 18 * kk)) (Int32.ofNat s) n) j ∧ s = sureM (fun s => fitsF (gd h (21 + 18 * kk)) (Int32.ofNat s) n) j ∧ c = clrM (fun s => fitsF (gd h (21 + 18 * kk)) (Int32.ofNat s) n) j ∧ (10 ≤ w.toInt → nthF (fun s => fitsF (gd h (21 + 18 * kk)) (Int32.ofNat s) n) (w - 10) 64 0 0 = nthF (fun s => fitsF (gd h (21 + 18 * kk)) (Int32.ofNat s) n) (w - 10) (64 - j) j m)) ?_ (Nat.zero_le _) ⟨0, 0, 63, 63, rfl, rfl, K0, M0, rfl, rfl, rfl, fun _ => by rw [Nat.sub_zero]⟩
          rintro j _ q hj ⟨z, m, s, c, rfl, hz, KK, MM, hm, hs, hc, hn10⟩ ih
          have Lq := (I1.keep KK).lay
          have dq := gdk (K1.trans KK) ha
          have sr := setRel (fun s => fitsF (gd h (21 + 18 * kk)) (Int32.ofNat s) n) 64 (by omega)
          refine w_Model_thieves_38 (fun kc38 => ?_) (fun kc38 => ?_)
          · (try simp only [ite01t, ite01v, Int32.reduceToInt, t_m1, t_m2, t_m1000, Decidable.not_not] at kc38); (try simp only [ez, dq] at kc38)
            have hj : j = 64 := by omega
            subst hj
            refine w_Model_thieves_99 (fun kc99 => ?_) (fun kc99 => ?_)
            · (try simp only [ite01t, ite01v, Int32.reduceToInt, t_m1, t_m2, t_m1000, Decidable.not_not] at kc99); (try simp only [ez, dq] at kc99)
              refine w_Model_thieves_105 (fun kc105 => ?_) (fun kc105 => ?_)
              · (try simp only [ite01t, ite01v, Int32.reduceToInt, t_m1, t_m2, t_m1000, Decidable.not_not] at kc105); (try simp only [ez, dq] at kc105)
                refine w_Model_thieves_116 (fun kc116 => ?_) (fun kc116 => ?_)
                · (try simp only [ite01t, ite01v, Int32.reduceToInt, t_m1, t_m2, t_m1000, Decidable.not_not] at kc116); (try simp only [ez, dq] at kc116)
                  refine w_Model_thieves_124 (fun kc124 => ?_) (fun kc124 => ?_)
                  · (try simp only [ite01t, ite01v, Int32.reduceToInt, t_m1, t_m2, t_m1000, Decidable.not_not] at kc124); (try simp only [ez, dq] at kc124)
                    refine w_Model_thieves_134 ?_
                    refine w_Model_thieves_136 ?_
                    refine ⟨?_, KK⟩
                    rw [hm] at kc116
                    rcases sr with ⟨b, ⟨r0, r1, r2, r3, r4⟩ | ⟨r0, mm, qq, hmm, hqq, r1, r3, r2, r4⟩⟩
                    · exfalso; omega
                    · rw [tV2 (by omega), hc, r4, r2, if_neg (by rw [t_nat (by omega)]; omega), sub64 qq hqq]
                  · (try simp only [ite01t, ite01v, Int32.reduceToInt, t_m1, t_m2, t_m1000, Decidable.not_not] at kc124); (try simp only [ez, dq] at kc124)
                    refine w_Model_thieves_129 ?_
                    refine w_Model_thieves_136 ?_
                    refine ⟨?_, KK⟩
                    rw [hm] at kc116
                    rcases sr with ⟨b, ⟨r0, r1, r2, r3, r4⟩ | ⟨r0, mm, qq, hmm, hqq, r1, r3, r2, r4⟩⟩
                    · exfalso; omega
                    · rw [tV1 (by omega), hs, r3, r1]
                · (try simp only [ite01t, ite01v, Int32.reduceToInt, t_m1, t_m2, t_m1000, Decidable.not_not] at kc116); (try simp only [ez, dq] at kc116)
                  refine w_Model_thieves_120 ?_
                  refine w_Model_thieves_136 ?_
                  refine ⟨?_, KK⟩
                  rw [hm] at kc116
                  rcases sr with ⟨b, ⟨r0, r1, r2, r3, r4⟩ | ⟨r0, mm, qq, hmm, hqq, r1, r3, r2, r4⟩⟩
                  · rcases (show w.toInt = 1 ∨ w.toInt = 2 by omega) with e | e
                    · rw [tV1 e, r1]
                    · rw [tV2 e, r2]; rfl
                  · exfalso; omega
              · (try simp only [ite01t, ite01v, Int32.reduceToInt, t_m1, t_m2, t_m1000, Decidable.not_not] at kc105); (try simp only [ez, dq] at kc105)
                refine w_Model_thieves_111 ?_
                refine w_Model_thieves_136 ?_
                refine ⟨?_, KK⟩
                rw [tVn (by omega), hn10 (by omega), Nat.sub_self, nthF]
            · (try simp only [ite01t, ite01v, Int32.reduceToInt, t_m1, t_m2, t_m1000, Decidable.not_not] at kc99); (try simp only [ez, dq] at kc99)
              refine w_Model_thieves_103 ?_
              exact ⟨by rw [tV0 (by omega), hm], KK⟩
          · (try simp only [ite01t, ite01v, Int32.reduceToInt, t_m1, t_m2, t_m1000, Decidable.not_not] at kc38); (try simp only [ez, dq] at kc38)
            refine w_Model_thieves_45 Lq (s_isSo (I1.keep KK) MM ha z) ?_
            rintro _ h45 ⟨rfl, k45, M45⟩
            have L45 := (I1.keep (KK.trans k45)).lay
            have ez : z = Int32.ofNat j := i32_of (by rw [hz, t_nat (by omega)])
            refine w_Model_thieves_51 (fun kc51 => ?_) (fun kc51 => ?_)
            · (try simp only [ite01t, ite01v, Int32.reduceToInt, t_m1, t_m2, t_m1000, Decidable.not_not] at kc51); (try simp only [ez, dq] at kc51)
              refine w_Model_thieves_57 (fun kc57 => ?_) (fun kc57 => ?_)
              · (try simp only [ite01t, ite01v, Int32.reduceToInt, t_m1, t_m2, t_m1000, Decidable.not_not] at kc57); (try simp only [ez, dq] at kc57)
                refine w_Model_thieves_74 rfl ?_
                refine w_Model_thieves_93 rfl ?_
                refine ih (by omega) _ _ ⟨_, _, _, _, rfl, t_succ hz (by omega), KK.trans k45, M45, ?_, ?_, ?_, fun kc10 => ?_⟩
                · rw [cntP_succ, ← hm]; first | rw [if_neg kc51, Int32.add_zero] | rw [if_pos kc51]
                · rw [sureM, ← hs]; first | rw [if_neg kc51] | rw [if_pos kc51, ez]
                · rw [clrM, ← hc]; first | rw [if_neg kc51] | rw [if_pos kc51, ez]
                · rw [hn10 kc10]; first | exact nthF_no (by omega) kc51 | (first | exact nthF_go (by omega) kc51 kc63 | (exfalso; omega))
              · (try simp only [ite01t, ite01v, Int32.reduceToInt, t_m1, t_m2, t_m1000, Decidable.not_not] at kc57); (try simp only [ez, dq] at kc57)
                refine w_Model_thieves_63 (fun kc63 => ?_) (fun kc63 => ?_)
                · (try simp only [ite01t, ite01v, Int32.reduceToInt, t_m1, t_m2, t_m1000, Decidable.not_not] at kc63); (try simp only [ez, dq] at kc63)
                  refine w_Model_thieves_74 rfl ?_
                  refine w_Model_thieves_93 rfl ?_
                  refine ih (by omega) _ _ ⟨_, _, _, _, rfl, t_succ hz (by omega), KK.trans k45, M45, ?_, ?_, ?_, fun kc10 => ?_⟩
                  · rw [cntP_succ, ← hm]; first | rw [if_neg kc51, Int32.add_zero] | rw [if_pos kc51]
                  · rw [sureM, ← hs]; first | rw [if_neg kc51] | rw [if_pos kc51, ez]
                  · rw [clrM, ← hc]; first | rw [if_neg kc51] | rw [if_pos kc51, ez]
                  · rw [hn10 kc10]; first | exact nthF_no (by omega) kc51 | (first | exact nthF_go (by omega) kc51 kc63 | (exfalso; omega))
                · (try simp only [ite01t, ite01v, Int32.reduceToInt, t_m1, t_m2, t_m1000, Decidable.not_not] at kc63); (try simp only [ez, dq] at kc63)
                  refine w_Model_thieves_71 ?_
                  refine ⟨?_, KK.trans k45⟩
                  rw [tVn (by omega), hn10 (by omega), nthF_yes (p := fun s => fitsF (gd h (21 + 18 * kk)) (Int32.ofNat s) n) (by omega) kc51 kc63, ez]
            · (try simp only [ite01t, ite01v, Int32.reduceToInt, t_m1, t_m2, t_m1000, Decidable.not_not] at kc51); (try simp only [ez, dq] at kc51)
              refine w_Model_thieves_54 ?_
              refine w_Model_thieves_93 rfl ?_
              refine ih (by omega) _ _ ⟨_, _, _, _, rfl, t_succ hz (by omega), KK.trans k45, M45, ?_, ?_, ?_, fun kc10 => ?_⟩
              · rw [cntP_succ, ← hm]; first | rw [if_neg kc51, Int32.add_zero] | rw [if_pos kc51]
              · rw [sureM, ← hs]; first | rw [if_neg kc51] | rw [if_pos kc51, ez]
              · rw [clrM, ← hc]; first | rw [if_neg kc51] | rw [if_pos kc51, ez]
              · rw [hn10 kc10]; first | exact nthF_no (by omega) kc51 | (first | exact nthF_go (by omega) kc51 kc63 | (exfalso; omega))
        · try simp only [ite01t, ite01v, Int32.reduceToInt, t_m1, t_m2, t_m1000, Decidable.not_not] at kc19
          refine w_Model_thieves_22 ?_
          exact ⟨by rw [tVx (by omega)], K0⟩
  · refine ⟨-2, ?_, fun h1 I1 K1 => ?_⟩
    · refine n_Main_thieves ?_
      refine w_Main_thieves_0 L (Tc.wc (s_ledgerAt0 hI hk)) (Is.k ?_)
      refine w_Main_thieves_8 rfl (fun _ => ?_) (fun _ c => nomatch c)
      refine w_Main_thieves_13 ?_
      exact ⟨rfl, Keep.rfl⟩
    · have L1 := I1.lay
      have hk1 : ¬ (0 ≤ k.toInt ∧ k.toInt < (h1.1 3 2).toInt) := by rw [K1.c 3 (by omega)]; exact hk
      refine n_Model_thieves ?_
      refine w_Model_thieves_0 L1 (Tc.wc (s_isLedger0 I1 k hk1)) (Is.k ?_)
      refine w_Model_thieves_5 (fun kc5 => ?_) (fun kc5 => absurd kc5 (by decide))
      refine w_Model_thieves_22 ?_
      exact ⟨rfl, Keep.rfl⟩
end M44
