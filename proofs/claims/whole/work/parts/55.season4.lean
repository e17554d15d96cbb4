/-! SEASONS: bounds; the reference begins, goes through, shows -/
theorem m0_t (x : Int32) : (m0 x).toInt = if 0 < x.toInt then x.toInt else 0 := by
  rw [m0]
  simp only [Int32.lt_iff_toInt_lt]
  rw [show (0 : Int32).toInt = 0 from rfl]
  split <;> rfl
theorem m99_t (x : Int32) : (m99 x).toInt = if x.toInt < 99 then x.toInt else 99 := by
  rw [m99]
  simp only [Int32.lt_iff_toInt_lt]
  rw [show (99 : Int32).toInt = 99 from rfl]
  split <;> rfl
theorem actF_bd {D : Nat → Nat → Int32} {n k j : Nat} {w x y : Int32} {S S' : SSt} (e : actF D n k w x y S = some S') (B : SBd j n S) (hj : j ≤ 98) (hY : ∀ t, t < k → 1 ≤ (D 6 t).toInt ∧ (D 6 t).toInt ≤ 60) (hy : w.toInt = 1 → 0 ≤ y.toInt ∧ y.toInt ≤ 60) : SBd (j + 1) n S' := by
  have weak : SBd (j + 1) n S := fun b hb => by have := B b hb; omega
  unfold actF at e
  split at e
  · unfold sellF at e
    split at e
    · rename_i ok
      rw [sellB, decide_eq_true_eq] at ok
      cases e
      intro b hb
      by_cases c : b = x.toNatClampNeg
      · have bb := B b hb
        have yy := hY y.toNatClampNeg (n_lt (by omega) (by omega))
        subst c
        have o1 : (S.2 0 x.toNatClampNeg - D 6 y.toNatClampNeg).toInt = (S.2 0 x.toNatClampNeg).toInt - (D 6 y.toNatClampNeg).toInt := i32_sub (by omega) (by omega)
        have o3 : (S.2 3 x.toNatClampNeg + D 6 y.toNatClampNeg).toInt = (S.2 3 x.toNatClampNeg).toInt + (D 6 y.toNatClampNeg).toInt := i32_add (by omega) (by omega)
        rw [sellS_0, sellS_2, sellS_3, o3]
        refine ⟨?_, bb.2.1, by omega⟩
        split
        · rw [o1]; omega
        · rw [m0_t, o1]; split <;> omega
      · rw [sellS_n c, sellS_n c, sellS_n c]; exact weak b hb
    · cases e
  split at e
  · rename_i w1
    have yy := hy w1
    unfold sinF at e
    split at e
    · rename_i ok
      cases e
      intro b hb
      have bb := B b hb
      by_cases c : b = x.toNatClampNeg
      · subst c
        have o1 : (S.2 0 x.toNatClampNeg + y).toInt = (S.2 0 x.toNatClampNeg).toInt + y.toInt := i32_add (by omega) (by omega)
        refine ⟨?_, bb.2.1, ⟨bb.2.2.1, Int.le_trans bb.2.2.2 (by omega)⟩⟩
        show _ ≤ (if _ then _ else _ : Int32).toInt ∧ (if _ then _ else _ : Int32).toInt ≤ _
        rw [if_pos ⟨rfl, rfl⟩, m99_t, o1]
        split <;> omega
      · refine ⟨?_, bb.2.1, ⟨bb.2.2.1, Int.le_trans bb.2.2.2 (by omega)⟩⟩
        show _ ≤ (if _ then _ else _ : Int32).toInt ∧ (if _ then _ else _ : Int32).toInt ≤ _
        rw [if_neg (fun q => c q.2)]
        omega
    · cases e
  split at e
  · unfold goF at e
    split at e
    · cases e; exact weak
    · cases e
  split at e
  · unfold turnF at e
    split at e
    · cases e; exact weak
    · cases e
  split at e
  · unfold turnF at e
    split at e
    · cases e; exact weak
    · cases e
  split at e
  · cases e
    intro b hb
    have bb := B b hb
    have o1 : (S.2 2 b - 1).toInt = (S.2 2 b).toInt - 1 := i32_sub (by show _ ≤ _ - (1 : Int); omega) (by show _ - (1 : Int) ≤ _; omega)
    refine ⟨⟨Int.le_trans (by omega) bb.1.1, bb.1.2⟩, ?_, ⟨bb.2.2.1, Int.le_trans bb.2.2.2 (by omega)⟩⟩
    show 0 ≤ (if _ then _ else _ : Int32).toInt ∧ (if _ then _ else _ : Int32).toInt ≤ 9
    rw [if_pos ⟨rfl, hb⟩, m0_t, o1]
    split <;> omega
  split at e
  · cases e
    intro b hb
    have bb := B b hb
    by_cases c : 0 < (S.2 3 b).toInt
    · have o1 : (S.2 2 b - 1).toInt = (S.2 2 b).toInt - 1 := i32_sub (by show _ ≤ _ - (1 : Int); omega) (by show _ - (1 : Int) ≤ _; omega)
      have o0 : (S.2 0 b + S.2 3 b).toInt = (S.2 0 b).toInt + (S.2 3 b).toInt := i32_add (by omega) (by omega)
      rw [jubS_in ⟨hb, c⟩, jubS_in ⟨hb, c⟩, jubS_in ⟨hb, c⟩]
      simp only [reduceIte, Nat.reduceEqDiff]
      rw [m99_t, m0_t, o0, o1]
      refine ⟨by split <;> omega, by split <;> omega, ?_⟩
      show (0 : Int) ≤ 0 ∧ (0 : Int) ≤ _
      omega
    · rw [jubS_out (fun q => c q.2), jubS_out (fun q => c q.2), jubS_out (fun q => c q.2)]
      exact weak b hb
  · cases e
section M55
variable {rod : Nat → Nat × (Nat → Int32)} {d : Nat} {h : MH} {a l n k : Nat} {S : SSt}
theorem s_asTold2 (M : MLand h a l) (L : Lay h.2) (ha : a + 9 ≤ 45) : Wc rod (d + 2) 227 [.inr (.inr (.inl (some 84)))] h (fun r h' => r = none ∧ Keep h h' ∧ MLand h' a l ∧ ArrT h' a ∧ ∀ i, h'.1 84 i = h.1 84 i) := by
  have B8 := M.1.bu
  refine n_Model_asTold ?_
  refine w_Model_asTold_0 rfl ?_
  refine Wb.upf (R := h.2) (f := h.1) (h.1 a 4).toInt.toNat (fun j L' f => ∃ (x : Int32), L' = [some (.inr (.inr (.inl (some 84)))), some (.inl x)] ∧ x.toInt = (j : Int) ∧ Keep h (f, h.2) ∧ (∀ i, f 84 i = h.1 84 i) ∧ ∀ b, b < j → f 88 b = h.1 (a + 3) b ∧ f 89 b = h.1 (a + 4) b ∧ f 90 b = h.1 (a + 5) b ∧ f 91 b = 0) ?_ (Nat.zero_le _) ⟨0, rfl, rfl, Keep.rfl, fun _ => rfl, fun b hb => absurd hb (Nat.not_lt_zero b)⟩
  rintro j _ f hj ⟨x, rfl, hx, K, e84, arr⟩ ih
  have ex := n_eq hx
  have M : MLand (f, h.2) a l := M.keep K ha (e84 _) (e84 _) (e84 _) (e84 _)
  have ea : f a 4 = h.1 a 4 := by rw [show f a = h.1 a from K.2 a (by simp only [Scr]; omega)]
  have hB : f 84 14 = h.1 a 4 := (M.2.2.2.2.1).trans ea
  refine w_Model_asTold_2 L (fun kc2 => ?_) (fun kc2 => ?_)
  · try simp only [ite01t, ite01v, Int32.reduceToInt, t_m1, t_m2, t_m1000, Decidable.not_not] at kc2
    simp only [hB] at kc2
    refine w_Model_asTold_59 ?_
    have hj : j = (h.1 a 4).toInt.toNat := by omega
    refine ⟨rfl, K, M, fun b hb => ?_, e84⟩
    have hb : (b : Int) < (f a 4).toInt := hb
    rw [ea] at hb
    have k3 : f (a + 3) = h.1 (a + 3) := K.2 _ (by simp only [Scr]; omega)
    have k4 : f (a + 4) = h.1 (a + 4) := K.2 _ (by simp only [Scr]; omega)
    have k5 : f (a + 5) = h.1 (a + 5) := K.2 _ (by simp only [Scr]; omega)
    have := arr b (by omega)
    show f 88 b = f (a + 3) b ∧ f 89 b = f (a + 4) b ∧ f 90 b = f (a + 5) b ∧ f 91 b = 0
    rw [k3, k4, k5]
    exact this
  · try simp only [ite01t, ite01v, Int32.reduceToInt, t_m1, t_m2, t_m1000, Decidable.not_not] at kc2
    simp only [hB] at kc2
    refine w_Model_asTold_10 L (Tc.wc (s_of M L x 2 j 2 hx rfl (by rw [show (f, h.2).1 a 4 = h.1 a 4 from ea]; omega) (by omega))) (Is.k ?_)
    refine w_Model_asTold_21 (L.1 _ _ rfl) (by first | assumption | omega | (refine ⟨?_, ?_⟩ <;> first | assumption | omega)) ?_
    refine w_Model_asTold_22 L (Tc.wc (s_of (M.si ha (by omega)) L x 3 j 3 hx rfl (by rw [sI_nc (by omega)]; rw [show (f, h.2).1 a 4 = h.1 a 4 from ea]; omega) (by omega))) (Is.k ?_)
    refine w_Model_asTold_33 (L.1 _ _ rfl) (by first | assumption | omega | (refine ⟨?_, ?_⟩ <;> first | assumption | omega)) ?_
    refine w_Model_asTold_34 L (Tc.wc (s_of ((M.si ha (by omega)).si ha (by omega)) L x 4 j 4 hx rfl (by rw [sI_nc (by omega), sI_nc (by omega)]; rw [show (f, h.2).1 a 4 = h.1 a 4 from ea]; omega) (by omega))) (Is.k ?_)
    refine w_Model_asTold_45 (L.1 _ _ rfl) (by first | assumption | omega | (refine ⟨?_, ?_⟩ <;> first | assumption | omega)) ?_
    refine w_Model_asTold_46 L (by first | assumption | omega | (refine ⟨?_, ?_⟩ <;> first | assumption | omega)) ?_
    refine w_Model_asTold_53 rfl ?_
    rw [ex]
    refine ih (by omega) _ _ ⟨_, rfl, t_succ hx (by omega), (((K.si (scrI 88 (by omega))).si (scrI 89 (by omega))).si (scrI 90 (by omega))).si (scrI 91 (by omega)), fun i => ?_, fun b hb => ?_⟩
    · have := e84 i; simp (disch := omega) only [sI_same, sI_nc, sI_nj, reduceIte, Nat.reduceEqDiff, and_true, and_false, true_and, false_and, and_self]; exact this
    · have k3 : f (a + 1 + 2) = h.1 (a + 3) := K.2 _ (by simp only [Scr]; omega)
      have k4 : f (a + 1 + 3) = h.1 (a + 4) := K.2 _ (by simp only [Scr]; omega)
      have k5 : f (a + 1 + 4) = h.1 (a + 5) := K.2 _ (by simp only [Scr]; omega)
      by_cases hbj : b = j
      · subst hbj; simp (disch := omega) only [sI_same, sI_nc, sI_nj, reduceIte, Nat.reduceEqDiff, and_true, and_false, true_and, false_and, and_self, k3, k4, k5]
      · have := arr b (by omega); simp (disch := omega) only [sI_same, sI_nc, sI_nj, reduceIte, Nat.reduceEqDiff, and_true, and_false, true_and, false_and, and_self, hbj]; exact this
theorem r_begins (M : MLand h a l) (L : Lay h.2) (ha : a + 9 ≤ 45) (hn : (h.1 a 4).toInt = (n : Int)) : Wc rod (d + 3) 233 [.inr (.inr (.inl (some 84)))] h (fun r h' => r = none ∧ Keep h h' ∧ SimM h' (startS (ld h a)) n ∧ MLand h' a l ∧ h'.1 84 20 = h.1 84 20 ∧ h'.1 84 28 = 0) := by
  refine n_Model_begins ?_
  refine w_Model_begins_0 L (s_asTold2 M L ha) ?_
  rintro _ h4 ⟨rfl, k4, M4, T4, f4⟩
  have L4 := L.keep k4
  have e5 := n_add M4.2.2.1 (show (5 : Int32).toInt = ((5 : Nat) : Int) from rfl) (by have := M4.2.1; omega)
  have d4 := ldk k4 ha
  have hl := M4.2.1
  refine w_Model_begins_4 L4 ?_
  refine w_Model_begins_9 L4 ?_
  refine w_Model_begins_14 L4 (by simp (disch := omega) only [sI_same, sI_nc, sI_nj]; rw [e5]; omega) ?_
  refine w_Model_begins_29 L4 ?_
  refine w_Model_begins_34 L4 ?_
  refine w_Model_begins_39 L4 ?_
  refine w_Model_begins_44 L4 ?_
  refine w_Model_begins_49 L4 ?_
  refine w_Model_begins_54 ?_
  refine ⟨rfl, (by repeat (first | exact k4 | refine Keep.si ?_ (scrI _ (by omega)))), ⟨fun i hi => ?_, fun c b hc hb => ?_⟩, (by repeat (first | exact M4 | refine MLand.si84 ?_ ha (by omega))), by simp (disch := omega) only [sI_same, sI_nc, sI_nj]; exact f4 20, by simp (disch := omega) only [sI_same, sI_nc, sI_nj]⟩
  · rcases (show i = 0 ∨ i = 1 ∨ i = 2 ∨ i = 3 ∨ i = 4 ∨ i = 5 ∨ i = 6 by omega) with rfl | rfl | rfl | rfl | rfl | rfl | rfl
    · simp (disch := omega) only [sI_same, sI_nc, sI_nj]; rfl
    · simp (disch := omega) only [sI_same, sI_nc, sI_nj]; rfl
    · simp (disch := omega) only [sI_same, sI_nc, sI_nj]; rw [n_eq e5, ← d4]; exact M4.1.2.2.2.2.2.1.symm
    · simp (disch := omega) only [sI_same, sI_nc, sI_nj]; rfl
    · simp (disch := omega) only [sI_same, sI_nc, sI_nj]; rfl
    · simp (disch := omega) only [sI_same, sI_nc, sI_nj]; rfl
    · simp (disch := omega) only [sI_same, sI_nc, sI_nj]; rfl
  · have tb := T4 b (by rw [k4.c a (by omega), hn]; omega)
    rw [← d4]
    rcases (show c = 0 ∨ c = 1 ∨ c = 2 ∨ c = 3 by omega) with rfl | rfl | rfl | rfl
    · simp (disch := omega) only [sI_same, sI_nc, sI_nj]; exact tb.1
    · simp (disch := omega) only [sI_same, sI_nc, sI_nj]; exact tb.2.1
    · simp (disch := omega) only [sI_same, sI_nc, sI_nj]; exact tb.2.2.1
    · simp (disch := omega) only [sI_same, sI_nc, sI_nj]; exact tb.2.2.2
end M55
