/-! OPERATIONS on a land as told: takes, sold, priced, ranked -/
section M35
variable {rod : Nat → Nat × (Nat → Int32)} {d : Nat} {h : MH} {a l : Nat}

theorem s_landAt1 (hI : INV h) {k : Int32} (hk : 0 ≤ k.toInt ∧ k.toInt < (h.1 3 0).toInt) : Tc rod (d + 2) 61 [.inr (.inr (.inl (some 1))), .inl k] h (some (.inr (.inr (.inl (some (8 + 18 * k.toNatClampNeg)))))) h := by
  have q := s_landAt (rod := rod) (d := d) hI k
  rw [if_pos hk] at q
  exact q
theorem s_landAt0 (hI : INV h) {k : Int32} (hk : ¬ (0 ≤ k.toInt ∧ k.toInt < (h.1 3 0).toInt)) : Tc rod (d + 2) 61 [.inr (.inr (.inl (some 1))), .inl k] h (some (.inr (.inr (.inl none)))) h := by
  have q := s_landAt (rod := rod) (d := d) hI k
  rw [if_neg hk] at q
  exact q
theorem Keep.c {h' : MH} (K : Keep h h') (c : Nat) (hc : c < 45) : h'.1 c = h.1 c := K.2 c (by simp only [Scr]; omega)
theorem lw_of {h' : MH} (K : Keep h h') (T : ArrT h' a) (ha : a + 9 ≤ 45) {b : Nat} (hB : (b : Int) < (h.1 a 4).toInt) (y p : Int32) : wantsF (h'.1 (a + 1) b) (h'.1 88 b) (h'.1 89 b) (h'.1 90 b) y p = lw (ld h a) y p b := by
  have e := T b (by rw [K.c a (by omega)]; exact hB)
  rw [e.1, e.2.1, e.2.2.1, ← ldk K ha]
  rfl
theorem op_takes (k b y p : Int32) : OpI INV rod 91 226 [k, b, y, p] := by
  refine OpI.mk fun h hI => ?_
  have L := hI.lay
  by_cases hk : 0 ≤ k.toInt ∧ k.toInt < (h.1 3 0).toInt
  · obtain ⟨A, R, ha, hk2⟩ := hI.landK hk
    have ek := n_of hk.1
    have at1 := fun (d : Nat) => s_landAt1 (rod := rod) (d := d) hI hk
    generalize k.toNatClampNeg = kk at ek hk2 A R ha at1
    have tw := R.tw
    have bu := R.bu
    have le := R.le
    refine ⟨if (0 ≤ b.toInt ∧ b.toInt < (h.1 (8 + 18 * kk) 4).toInt) ∧ (1 ≤ y.toInt ∧ y.toInt ≤ 60) ∧ 0 ≤ p.toInt ∧ p.toInt ≤ 99 then (if lw (ld h (8 + 18 * kk)) y p b.toNatClampNeg = true then 1 else 0) else -1, ?_, fun h1 I1 K1 => ?_⟩
    · refine n_Main_takes ?_
      refine w_Main_takes_0 L (Tc.wc (at1 _)) (Is.k ?_)
      refine w_Main_takes_8 rfl (fun c => nomatch c) (fun _ _ => ?_)
      refine w_Main_takes_15 A (Tc.wc (s_hasBuyer A _)) (Is.k ?_)
      refine w_Main_takes_21 (fun c21 => ?_) (fun c21 => ?_)
      · try simp only [ite01t, ite01v, Int32.reduceToInt, t_m1, t_m2, t_m1000, Decidable.not_not] at c21
        refine w_Main_takes_33 ?_
        exact ⟨by rw [if_neg (by omega)], Keep.rfl⟩
      · try simp only [ite01t, ite01v, Int32.reduceToInt, t_m1, t_m2, t_m1000, Decidable.not_not] at c21
        refine w_Main_takes_24 (Tc.wc (s_isOffer _ _ _)) (Is.k ?_)
        refine w_Main_takes_30 (fun c30 => ?_) (fun c30 => ?_)
        · try simp only [ite01t, ite01v, Int32.reduceToInt, t_m1, t_m2, t_m1000, Decidable.not_not] at c30
          refine w_Main_takes_35 A (Tc.wc (s_wants A (by omega) _ _ _)) (Is.k ?_)
          refine w_Main_takes_44 (fun c44 => ?_) (fun c44 => ?_)
          · try simp only [ite01t, ite01v, Int32.reduceToInt, t_m1, t_m2, t_m1000, Decidable.not_not] at c44
            refine w_Main_takes_51 ?_
            refine w_Main_takes_52 ?_
            exact ⟨by rw [if_pos (by omega)]; first | rw [if_pos c44.2] | rw [if_neg (fun q => c44 ⟨by omega, q⟩)], Keep.rfl⟩
          · try simp only [ite01t, ite01v, Int32.reduceToInt, t_m1, t_m2, t_m1000, Decidable.not_not] at c44
            refine w_Main_takes_47 ?_
            refine w_Main_takes_52 ?_
            exact ⟨by rw [if_pos (by omega)]; first | rw [if_pos c44.2] | rw [if_neg (fun q => c44 ⟨by omega, q⟩)], Keep.rfl⟩
        · try simp only [ite01t, ite01v, Int32.reduceToInt, t_m1, t_m2, t_m1000, Decidable.not_not] at c30
          refine w_Main_takes_33 ?_
          exact ⟨by rw [if_neg (by omega)], Keep.rfl⟩
    · have L1 := I1.lay
      have hk1 : (kk : Int) < (h1.1 3 0).toInt := by rw [K1.c 3 (by omega)]; omega
      have is1 := fun (d : Nat) => s_isLand1 (rod := rod) (d := d) I1 k kk ek hk1
      refine n_Model_takes ?_
      refine w_Model_takes_0 L1 (is1 _) ?_
      rintro _ h0 ⟨rfl, k0, M0⟩
      have I0 := I1.keep k0
      have L0 := I0.lay
      have K0 := (Keep.rfl (h := h1)).trans k0
      have e0 : h0.1 (8 + 18 * kk) = h.1 (8 + 18 * kk) := (K1.trans K0).c _ (by omega)
      refine w_Model_takes_5 (fun c5 => absurd c5 (by decide)) (fun c5 => ?_)
      refine w_Model_takes_8 L0 (Tc.wc (s_misBuyer M0 L0 _)) (Is.k ?_)
      refine w_Model_takes_13 (fun c13 => ?_) (fun c13 => ?_)
      · try simp only [ite01t, ite01v, Int32.reduceToInt, t_m1, t_m2, t_m1000, Decidable.not_not, e0] at c13
        refine w_Model_takes_37 ?_
        exact ⟨by rw [if_neg (by omega)], K0⟩
      · try simp only [ite01t, ite01v, Int32.reduceToInt, t_m1, t_m2, t_m1000, Decidable.not_not, e0] at c13
        refine w_Model_takes_16 (Tc.wc (s_isIn _ _ _ _)) (Is.k ?_)
        refine w_Model_takes_23 (fun c23 => ?_) (fun c23 => ?_)
        · try simp only [ite01t, ite01v, Int32.reduceToInt, t_m1, t_m2, t_m1000, Decidable.not_not, e0] at c23
          refine w_Model_takes_37 ?_
          exact ⟨by rw [if_neg (by omega)], K0⟩
        · try simp only [ite01t, ite01v, Int32.reduceToInt, t_m1, t_m2, t_m1000, Decidable.not_not, e0] at c23
          refine w_Model_takes_26 (Tc.wc (s_isIn _ _ _ _)) (Is.k ?_)
          refine w_Model_takes_34 (fun c34 => ?_) (fun c34 => ?_)
          · try simp only [ite01t, ite01v, Int32.reduceToInt, t_m1, t_m2, t_m1000, Decidable.not_not, e0] at c34
            refine w_Model_takes_39 L0 (s_asTold M0 L0 ha) ?_
            rintro _ h39 ⟨rfl, k39, M39, T39⟩
            have I39 := I0.keep k39
            have L39 := I39.lay
            have K39 := K0.trans k39
            have e39 : h39.1 (8 + 18 * kk) = h.1 (8 + 18 * kk) := (K1.trans K39).c _ (by omega)
            refine w_Model_takes_43 L39 (Tc.wc (s_mwants M39 L39 b b.toNatClampNeg (n_of (by omega)) (by rw [e39, ← n_of (by omega)]; omega) y p)) (Is.k ?_)
            refine w_Model_takes_51 (fun c51 => ?_) (fun c51 => ?_)
            · try simp only [ite01t, ite01v, Int32.reduceToInt, t_m1, t_m2, t_m1000, Decidable.not_not, e0] at c51
              refine w_Model_takes_58 ?_
              refine w_Model_takes_59 ?_
              exact ⟨by rw [if_pos (by omega)]; rw [lw_of (K1.trans K39) T39 ha (by rw [← n_of (by omega)]; omega)] at c51; first | rw [if_pos c51] | rw [if_neg c51], K39⟩
            · try simp only [ite01t, ite01v, Int32.reduceToInt, t_m1, t_m2, t_m1000, Decidable.not_not, e0] at c51
              refine w_Model_takes_54 ?_
              refine w_Model_takes_59 ?_
              exact ⟨by rw [if_pos (by omega)]; rw [lw_of (K1.trans K39) T39 ha (by rw [← n_of (by omega)]; omega)] at c51; first | rw [if_pos c51] | rw [if_neg c51], K39⟩
          · try simp only [ite01t, ite01v, Int32.reduceToInt, t_m1, t_m2, t_m1000, Decidable.not_not, e0] at c34
            refine w_Model_takes_37 ?_
            exact ⟨by rw [if_neg (by omega)], K0⟩
  · refine ⟨-1, ?_, fun h1 I1 K1 => ?_⟩
    · refine n_Main_takes ?_
      refine w_Main_takes_0 L (Tc.wc (s_landAt0 hI hk)) (Is.k ?_)
      refine w_Main_takes_8 rfl (fun _ => ?_) (fun _ c => nomatch c)
      refine w_Main_takes_33 ?_
      exact ⟨rfl, Keep.rfl⟩
    · have L1 := I1.lay
      have hk1 : ¬ (0 ≤ k.toInt ∧ k.toInt < (h1.1 3 0).toInt) := by rw [K1.c 3 (by omega)]; exact hk
      refine n_Model_takes ?_
      refine w_Model_takes_0 L1 (Tc.wc (s_isLand0 I1 k hk1)) (Is.k ?_)
      refine w_Model_takes_5 (fun c5 => ?_) (fun c5 => absurd c5 (by decide))
      refine w_Model_takes_37 ?_
      exact ⟨rfl, Keep.rfl⟩
end M35
