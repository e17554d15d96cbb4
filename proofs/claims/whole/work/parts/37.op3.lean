/-! OPERATIONS: until, poorer, land -/
section M37
variable {rod : Nat → Nat × (Nat → Int32)} {d : Nat} {h : MH} {a l : Nat}
def findF (p : Nat → Bool) : Nat → Nat → Int32
  | 0, _ => -1
  | f + 1, k => if p k = true then Int32.ofNat k else findF p f (k + 1)
theorem findF_yes {p : Nat → Bool} {j n : Nat} (hj : j < n) (c : p j = true) : findF p (n - j) j = Int32.ofNat j := by
  rw [show n - j = (n - j - 1) + 1 by omega, findF, if_pos c]
theorem findF_no {p : Nat → Bool} {j n : Nat} (hj : j < n) (c : ¬ p j = true) : findF p (n - j) j = findF p (n - (j + 1)) (j + 1) := by
  rw [show n - j = (n - (j + 1)) + 1 by omega, findF, if_neg c]
/-- what is left of fear behind so many doubts -/
def fd (f : Int32) (n : Nat) : Int32 := if (0 : Int32) < f - Int32.ofNat n then f - Int32.ofNat n else 0
def untilP (D : Nat → Nat → Int32) (b t : Nat) (n : Nat) : Bool := !(wantsF (D 1 b) (D 3 b) (D 4 b) (fd (D 5 b) n) (D 6 t) (D 7 t))
theorem fd_t {f : Int32} {n : Nat} (h0 : 0 ≤ f.toInt) (h1 : f.toInt ≤ 9) (hn : n ≤ 100) : (fd f n).toInt = if (n : Int) ≤ f.toInt then f.toInt - n else 0 := by
  have e : (f - Int32.ofNat n).toInt = f.toInt - n := by rw [i32_sub (by rw [t_nat (by omega)]; omega) (by rw [t_nat (by omega)]; omega), t_nat (by omega)]
  simp only [fd, Int32.lt_iff_toInt_lt, e]
  have e0 : (0 : Int32).toInt = 0 := rfl
  rw [e0]
  split
  · rw [e]; split <;> omega
  · rw [e0]; split <;> omega
theorem fd_0 {f : Int32} (h0 : 0 ≤ f.toInt) (h1 : f.toInt ≤ 9) : fd f 0 = f := i32_of (by rw [fd_t h0 h1 (by omega)]; split <;> omega)
theorem fd_s1 {f : Int32} {n : Nat} (h0 : 0 ≤ f.toInt) (h1 : f.toInt ≤ 9) (hn : n < 100) (c : ¬ (fd f n).toInt ≤ 0) : fd f n - 1 = fd f (n + 1) := i32_of (by
  have e := fd_t h0 h1 (n := n) (by omega)
  have e' := fd_t h0 h1 (n := n + 1) (by omega)
  rw [i32_sub (by show _ ≤ _ - (1 : Int); rw [e]; split <;> omega) (by show _ - (1 : Int) ≤ _; rw [e]; split <;> omega)]
  show _ - (1 : Int) = _
  rw [e] at c ⊢
  rw [e']
  split at c <;> split <;> omega)
theorem fd_s0 {f : Int32} {n : Nat} (h0 : 0 ≤ f.toInt) (h1 : f.toInt ≤ 9) (hn : n < 100) (c : (fd f n).toInt ≤ 0) : fd f n - 0 = fd f (n + 1) := i32_of (by
  have e := fd_t h0 h1 (n := n) (by omega)
  have e' := fd_t h0 h1 (n := n + 1) (by omega)
  rw [Int32.sub_zero, e]
  rw [e] at c
  rw [e']
  split at c <;> split <;> omega)
theorem LandRel.fe (r : LandRel h a l) (b : Nat) (hb : (b : Int) < (h.1 a 4).toInt) : 0 ≤ (h.1 (a + 5) b).toInt ∧ (h.1 (a + 5) b).toInt ≤ 9 := (r.2.2.2.2.2.2.2.2.2.2.2.2.1 b hb).2.2.2.2.2.1
theorem s_doubts (A : LandA h.2 a) (hB : (h.1 a 4).toInt ≤ 8) (hL : (h.1 a 5).toInt ≤ 4) (x y : Int32) (b t : Nat) (hb : x.toInt = (b : Int)) (ht : y.toInt = (t : Int)) (hbB : (b : Int) < (h.1 a 4).toInt) (htL : (t : Int) < (h.1 a 5).toInt) : Tc rod (d + 2) 163 [.inr (.inr (.inl (some a))), .inl x, .inl y] h (some (.inl (findF (untilP (ld h a) b t) 10 0))) h := by
  have eb := n_eq hb
  have et := n_eq ht
  apply Wc.tc
  refine n_Land_doubtsUntil ?_
  refine w_Land_doubtsUntil_0 A (Tc.wc (s_hasBuyer A _)) (Is.k ?_)
  refine w_Land_doubtsUntil_5 (fun c5 => (by exfalso; simp only [ite01t] at c5; omega)) (fun c5 => ?_)
  try simp only [ite01t, ite01v, Int32.reduceToInt, t_m1, t_m2, t_m1000, Decidable.not_not] at c5
  refine w_Land_doubtsUntil_8 A (Tc.wc (s_hasLetter A _)) (Is.k ?_)
  refine w_Land_doubtsUntil_13 (fun c13 => ?_) (fun c13 => (by exfalso; simp only [ite01t] at c13; omega))
  try simp only [ite01t, ite01v, Int32.reduceToInt, t_m1, t_m2, t_m1000, Decidable.not_not] at c13
  refine w_Land_doubtsUntil_18 rfl ?_
  refine Wb.upc 10 (fun j L' => ∃ (z : Int32) (u : Option MV), L' = [some (.inr (.inr (.inl (some a)))), some (.inl x), some (.inl y), some (.inl z), u] ∧ z.toInt = (j : Int) ∧ findF (untilP (ld h a) b t) 10 0 = findF (untilP (ld h a) b t) (10 - j) j) ?_ (Nat.zero_le _) ⟨0, _, rfl, rfl, rfl⟩
  rintro j _ hj ⟨z, u, rfl, hz, hv⟩ ih
  have ez : z = Int32.ofNat j := i32_of (by rw [hz, t_nat (by omega)])
  refine w_Land_doubtsUntil_20 (fun c20 => ?_) (fun c20 => ?_)
  · try simp only [ite01t, ite01v, Int32.reduceToInt, t_m1, t_m2, t_m1000, Decidable.not_not, eb, et] at c20
    refine w_Land_doubtsUntil_95 ?_
    exact ⟨by rw [hv, show j = 10 by omega]; rfl, rfl⟩
  · try simp only [ite01t, ite01v, Int32.reduceToInt, t_m1, t_m2, t_m1000, Decidable.not_not, eb, et] at c20
    refine w_Land_doubtsUntil_26 A (by first | assumption | omega | (refine ⟨?_, ?_⟩ <;> first | assumption | omega)) (by first | assumption | omega | (refine ⟨?_, ?_⟩ <;> first | assumption | omega)) (fun c26 => ?_) (fun c26 => ?_)
    · try simp only [ite01t, ite01v, Int32.reduceToInt, t_m1, t_m2, t_m1000, Decidable.not_not, eb, et] at c26
      refine w_Land_doubtsUntil_87 ?_
      refine ⟨?_, rfl⟩
      rw [hv, findF_yes (by omega), ez]
      simp only [untilP, wantsF, fd, Bool.not_eq_true', Bool.and_eq_false_iff, decide_eq_false_iff_not, ← ez]
      first | exact Or.inl (Int.not_le.mpr c26) | exact Or.inr (Bool.not_eq_true _ ▸ c84)
    · try simp only [ite01t, ite01v, Int32.reduceToInt, t_m1, t_m2, t_m1000, Decidable.not_not, eb, et] at c26
      refine w_Land_doubtsUntil_55 A (by first | assumption | omega | (refine ⟨?_, ?_⟩ <;> first | assumption | omega)) (by first | assumption | omega | (refine ⟨?_, ?_⟩ <;> first | assumption | omega)) (Tc.wc (s_worth _ _ _ _ _ _)) (Is.k ?_)
      refine w_Land_doubtsUntil_84 (fun c84 => ?_) (fun c84 => ?_)
      · try simp only [ite01t, ite01v, Int32.reduceToInt, t_m1, t_m2, t_m1000, Decidable.not_not, eb, et] at c84
        refine w_Land_doubtsUntil_89 rfl ?_
        refine ih (by omega) _ ⟨_, _, rfl, t_succ hz (by omega), ?_⟩
        rw [hv, findF_no (by omega)]
        simp only [untilP, wantsF, Bool.not_eq_true', Bool.not_eq_false, Bool.and_eq_true, decide_eq_true_eq]
        refine ⟨Int.not_lt.mp c26, ?_⟩
        simp only [fd, ← ez]
        exact c84
      · try simp only [ite01t, ite01v, Int32.reduceToInt, t_m1, t_m2, t_m1000, Decidable.not_not, eb, et] at c84
        refine w_Land_doubtsUntil_87 ?_
        refine ⟨?_, rfl⟩
        rw [hv, findF_yes (by omega), ez]
        simp only [untilP, wantsF, fd, Bool.not_eq_true', Bool.and_eq_false_iff, decide_eq_false_iff_not, ← ez]
        first | exact Or.inl (Int.not_le.mpr c26) | exact Or.inr (Bool.not_eq_true _ ▸ c84)
theorem op_until (k b t : Int32) : OpI INV rod 162 262 [k, b, t] := by
  refine OpI.mk fun h hI => ?_
  have L := hI.lay
  by_cases hk : 0 ≤ k.toInt ∧ k.toInt < (h.1 3 0).toInt
  · obtain ⟨A, R, ha, hk2⟩ := hI.landK hk
    have ek := n_of hk.1
    have at1 := fun (d : Nat) => s_landAt1 (rod := rod) (d := d) hI hk
    generalize k.toNatClampNeg = kk at ek hk2 A R ha at1
    have tw := R.tw
    have bu := R.bu
    have le := R.le
    refine ⟨if (0 ≤ b.toInt ∧ b.toInt < (h.1 (8 + 18 * kk) 4).toInt) ∧ 0 ≤ t.toInt ∧ t.toInt < (h.1 (8 + 18 * kk) 5).toInt then findF (untilP (ld h (8 + 18 * kk)) b.toNatClampNeg t.toNatClampNeg) 10 0 else -1, ?_, fun h1 I1 K1 => ?_⟩
    · refine n_Main_until ?_
      refine w_Main_until_0 L (Tc.wc (at1 _)) (Is.k ?_)
      refine w_Main_until_8 rfl (fun c => nomatch c) (fun _ _ => ?_)
      refine w_Main_until_15 A (Tc.wc (s_hasBuyer A _)) (Is.k ?_)
      refine w_Main_until_21 (fun c21 => ?_) (fun c21 => ?_)
      · try simp only [ite01t, ite01v, Int32.reduceToInt, t_m1, t_m2, t_m1000, Decidable.not_not] at c21
        refine w_Main_until_33 ?_
        exact ⟨by rw [if_neg (by omega)], Keep.rfl⟩
      · try simp only [ite01t, ite01v, Int32.reduceToInt, t_m1, t_m2, t_m1000, Decidable.not_not] at c21
        refine w_Main_until_24 A (Tc.wc (s_hasLetter A _)) (Is.k ?_)
        refine w_Main_until_30 (fun c30 => ?_) (fun c30 => ?_)
        · try simp only [ite01t, ite01v, Int32.reduceToInt, t_m1, t_m2, t_m1000, Decidable.not_not] at c30
          refine w_Main_until_35 A (Tc.wc (s_doubts A (by omega) (by omega) b t b.toNatClampNeg t.toNatClampNeg (n_of (by omega)) (n_of (by omega)) (by rw [← n_of (by omega)]; omega) (by rw [← n_of (by omega)]; omega))) (Is.k ?_)
          refine w_Main_until_42 ?_
          exact ⟨by rw [if_pos (by omega)], Keep.rfl⟩
        · try simp only [ite01t, ite01v, Int32.reduceToInt, t_m1, t_m2, t_m1000, Decidable.not_not] at c30
          refine w_Main_until_33 ?_
          exact ⟨by rw [if_neg (by omega)], Keep.rfl⟩
    · have L1 := I1.lay
      have hk1 : (kk : Int) < (h1.1 3 0).toInt := by rw [K1.c 3 (by omega)]; omega
      have is1 := fun (d : Nat) => s_isLand1 (rod := rod) (d := d) I1 k kk ek hk1
      refine n_Model_until ?_
      refine w_Model_until_0 L1 (is1 _) ?_
      rintro _ h0 ⟨rfl, k0, M0⟩
      have I0 := I1.keep k0
      have L0 := I0.lay
      have K0 := (Keep.rfl (h := h1)).trans k0
      have e0 : h0.1 (8 + 18 * kk) = h.1 (8 + 18 * kk) := (K1.trans K0).c _ (by omega)
      refine w_Model_until_5 (fun c5 => absurd c5 (by decide)) (fun c5 => ?_)
      refine w_Model_until_8 L0 (Tc.wc (s_misBuyer M0 L0 _)) (Is.k ?_)
      refine w_Model_until_13 (fun c13 => ?_) (fun c13 => ?_)
      · try simp only [ite01t, ite01v, Int32.reduceToInt, t_m1, t_m2, t_m1000, Decidable.not_not, e0] at c13
        refine w_Model_until_24 ?_
        exact ⟨by rw [if_neg (by omega)], K0⟩
      · try simp only [ite01t, ite01v, Int32.reduceToInt, t_m1, t_m2, t_m1000, Decidable.not_not, e0] at c13
        refine w_Model_until_16 L0 (Tc.wc (s_misSheet M0 L0 _)) (Is.k ?_)
        refine w_Model_until_21 (fun c21 => ?_) (fun c21 => ?_)
        · try simp only [ite01t, ite01v, Int32.reduceToInt, t_m1, t_m2, t_m1000, Decidable.not_not, e0] at c21
          refine w_Model_until_26 L0 (s_asTold M0 L0 ha) ?_
          rintro _ h26 ⟨rfl, k26, M26, T26⟩
          have I26 := I0.keep k26
          have L26 := I26.lay
          have K26 := K0.trans k26
          have e26 : h26.1 (8 + 18 * kk) = h.1 (8 + 18 * kk) := (K1.trans K26).c _ (by omega)
          refine w_Model_until_30 rfl ?_
          obtain ⟨hb, ht⟩ : (0 ≤ b.toInt ∧ b.toInt < (h.1 (8 + 18 * kk) 4).toInt) ∧ 0 ≤ t.toInt ∧ t.toInt < (h.1 (8 + 18 * kk) 5).toInt := by omega
          have fe := R.fe b.toNatClampNeg (by rw [← n_of hb.1]; exact hb.2)
          have eb := n_of hb.1
          have et := n_of ht.1
          generalize b.toNatClampNeg = bb at eb fe
          generalize t.toNatClampNeg = tt at et
          have T := T26 bb (by rw [e26]; omega)
          refine Wb.uph 10 (fun j L' h' => ∃ (z : Int32), L' = [some (.inr (.inr (.inl (some 84)))), some (.inl k), some (.inl b), some (.inl t), some (.inl z)] ∧ z.toInt = (j : Int) ∧ Keep h1 h' ∧ MLand h' (8 + 18 * kk) (610 + 90 * kk) ∧ h'.1 88 bb = ld h (8 + 18 * kk) 3 bb ∧ h'.1 89 bb = ld h (8 + 18 * kk) 4 bb ∧ h'.1 90 bb = fd (ld h (8 + 18 * kk) 5 bb) j ∧ findF (untilP (ld h (8 + 18 * kk)) bb tt) 10 0 = findF (untilP (ld h (8 + 18 * kk)) bb tt) (10 - j) j) ?_ (Nat.zero_le _) ⟨0, rfl, rfl, K26, M26, ?_, ?_, ?_, rfl⟩
          rotate_left
          · rw [T.1, ← ldk (K1.trans K26) ha]; rfl
          · rw [T.2.1, ← ldk (K1.trans K26) ha]; rfl
          · rw [T.2.2.1, show ld h (8 + 18 * kk) 5 bb = h.1 ((8 + 18 * kk) + 5) bb from rfl, fd_0 fe.1 fe.2, (K1.trans K26).c _ (by omega)]
          rintro j _ g hj ⟨z, rfl, hz, KK, MM, o1, o2, o3, hv⟩ ih
          have ez : z = Int32.ofNat j := i32_of (by rw [hz, t_nat (by omega)])
          have Lg := (I1.keep KK).lay
          have eg := (K1.trans KK).c (8 + 18 * kk) (by omega)
          have cb := n_eq eb
          have l6 : g.1 ((8 + 18 * kk) + 6) = h.1 ((8 + 18 * kk) + 6) := (K1.trans KK).c _ (by omega)
          have l7 : g.1 ((8 + 18 * kk) + 7) = h.1 ((8 + 18 * kk) + 7) := (K1.trans KK).c _ (by omega)
          have l1 : g.1 ((8 + 18 * kk) + 1) = h.1 ((8 + 18 * kk) + 1) := (K1.trans KK).c _ (by omega)
          refine w_Model_until_33 (fun c33 => ?_) (fun c33 => ?_)
          · try simp only [ite01t, ite01v, Int32.reduceToInt, t_m1, t_m2, t_m1000, Decidable.not_not] at c33
            refine w_Model_until_92 ?_
            exact ⟨by rw [if_pos (by omega), hv, show j = 10 by omega]; rfl, KK⟩
          · try simp only [ite01t, ite01v, Int32.reduceToInt, t_m1, t_m2, t_m1000, Decidable.not_not] at c33
            refine w_Model_until_40 Lg (Tc.wc (s_ofL0 MM Lg t tt et (by rw [eg]; omega))) (Is.k ?_)
            refine w_Model_until_48 Lg (Tc.wc (s_ofL1 MM Lg t tt et (by rw [eg]; omega))) (Is.k ?_)
            refine w_Model_until_54 Lg (Tc.wc (s_mwants MM Lg b bb eb (by rw [eg]; omega) _ _)) (Is.k ?_)
            refine w_Model_until_57 (fun c57 => ?_) (fun c57 => ?_)
            · try simp only [ite01t, ite01v, Int32.reduceToInt, t_m1, t_m2, t_m1000, Decidable.not_not] at c57
              refine w_Model_until_63 Lg (by rw [eb]; omega) (fun c63 => ?_) (fun c63 => ?_)
              · try simp only [ite01t, ite01v, Int32.reduceToInt, t_m1, t_m2, t_m1000, Decidable.not_not] at c63
                refine w_Model_until_83 ?_
                refine w_Model_until_84 (Lg.1 _ _ rfl) (by rw [eb]; omega) ?_
                refine w_Model_until_86 rfl ?_
                refine ih (by omega) _ _ ⟨_, rfl, t_succ hz (by omega), KK.si (scrI 90 (by omega)), MM.si ha (by omega), ?_, ?_, ?_, ?_⟩
                · simp (disch := omega) only [sI_same, sI_nc, sI_nj]; exact o1
                · simp (disch := omega) only [sI_same, sI_nc, sI_nj]; exact o2
                · rw [cb, sI_same, o3]
                  first | exact fd_s1 fe.1 fe.2 (by omega) (by rw [cb, o3] at c63; exact c63) | exact fd_s0 fe.1 fe.2 (by omega) (by rw [cb, o3] at c63; exact c63)
                · rw [hv, findF_no (by omega)]
                  rw [o1, o2, o3, l1, l6, l7] at c57
                  simp only [untilP, Bool.not_eq_true', Bool.not_eq_false]
                  exact c57
              · try simp only [ite01t, ite01v, Int32.reduceToInt, t_m1, t_m2, t_m1000, Decidable.not_not] at c63
                refine w_Model_until_79 ?_
                refine w_Model_until_84 (Lg.1 _ _ rfl) (by rw [eb]; omega) ?_
                refine w_Model_until_86 rfl ?_
                refine ih (by omega) _ _ ⟨_, rfl, t_succ hz (by omega), KK.si (scrI 90 (by omega)), MM.si ha (by omega), ?_, ?_, ?_, ?_⟩
                · simp (disch := omega) only [sI_same, sI_nc, sI_nj]; exact o1
                · simp (disch := omega) only [sI_same, sI_nc, sI_nj]; exact o2
                · rw [cb, sI_same, o3]
                  first | exact fd_s1 fe.1 fe.2 (by omega) (by rw [cb, o3] at c63; exact c63) | exact fd_s0 fe.1 fe.2 (by omega) (by rw [cb, o3] at c63; exact c63)
                · rw [hv, findF_no (by omega)]
                  rw [o1, o2, o3, l1, l6, l7] at c57
                  simp only [untilP, Bool.not_eq_true', Bool.not_eq_false]
                  exact c57
            · try simp only [ite01t, ite01v, Int32.reduceToInt, t_m1, t_m2, t_m1000, Decidable.not_not] at c57
              refine w_Model_until_60 ?_
              refine ⟨?_, KK⟩
              rw [if_pos (by omega), hv, findF_yes (by omega), ez]
              rw [o1, o2, o3, l1, l6, l7] at c57
              simp only [untilP, Bool.not_eq_true']
              exact Bool.not_eq_true _ ▸ c57
        · try simp only [ite01t, ite01v, Int32.reduceToInt, t_m1, t_m2, t_m1000, Decidable.not_not, e0] at c21
          refine w_Model_until_24 ?_
          exact ⟨by rw [if_neg (by omega)], K0⟩
  · refine ⟨-1, ?_, fun h1 I1 K1 => ?_⟩
    · refine n_Main_until ?_
      refine w_Main_until_0 L (Tc.wc (s_landAt0 hI hk)) (Is.k ?_)
      refine w_Main_until_8 rfl (fun _ => ?_) (fun _ c => nomatch c)
      refine w_Main_until_33 ?_
      exact ⟨rfl, Keep.rfl⟩
    · have L1 := I1.lay
      have hk1 : ¬ (0 ≤ k.toInt ∧ k.toInt < (h1.1 3 0).toInt) := by rw [K1.c 3 (by omega)]; exact hk
      refine n_Model_until ?_
      refine w_Model_until_0 L1 (Tc.wc (s_isLand0 I1 k hk1)) (Is.k ?_)
      refine w_Model_until_5 (fun c5 => ?_) (fun c5 => absurd c5 (by decide))
      refine w_Model_until_24 ?_
      exact ⟨rfl, Keep.rfl⟩
end M37
