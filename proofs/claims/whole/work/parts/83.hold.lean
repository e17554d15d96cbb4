/-! OPERATION hold -/
section M83
variable {rod : Nat → Nat × (Nat → Int32)} {d : Nat} {h : MH} {a l m O Mn : Nat} {Y C : Nat → Nat}
def ansH (Y C : Nat → Nat) (O m b : Nat) (z : Int32) : Int32 := if z.toInt = -1 then Int32.ofNat (min (sD Y m b) O) else if z.toInt = -2 then Int32.ofNat (sD C m b) else if 0 ≤ z.toInt ∧ z.toInt < (m : Int) then Int32.ofNat (dgt m b z.toNatClampNeg) else -1
theorem LandRel.yc (r : LandRel h a l) (hm : (h.1 a 5).toInt = (m : Int)) : ∃ Y C : Nat → Nat, (∀ t, Y t ≤ 60) ∧ (∀ t, C t ≤ 60) ∧ ∀ t, t < m → (h.1 (a + 6) t).toInt = (Y t : Int) ∧ (h.1 (a + 7) t).toInt = (C t : Int) := by
  have q := fun t (ht : t < m) => r.2.2.2.2.2.2.2.2.2.2.2.2.2.1 t (by omega)
  refine ⟨fun t => if t < m then (h.1 (a + 6) t).toNatClampNeg else 0, fun t => if t < m then (h.1 (a + 7) t).toNatClampNeg else 0, fun t => ?_, fun t => ?_, fun t ht => ?_⟩
  · by_cases w : t < m
    · have x := (q t w).2.2.1
      have y := n_of (x := h.1 (a + 6) t) (by have := x.1; omega)
      have := x.2
      simp only [if_pos w]
      omega
    · simp only [if_neg w]; omega
  · by_cases w : t < m
    · have x := (q t w).2.2.2
      have y := n_of (x := h.1 (a + 7) t) (by have := x.1; omega)
      have := x.2
      simp only [if_pos w]
      omega
    · simp only [if_neg w]; omega
  · have x := (q t ht).2.2
    simp only [if_pos ht]
    exact ⟨n_of (by have := x.1.1; omega), n_of (by have := x.2.1; omega)⟩
theorem LandRel.om (r : LandRel h a l) {b : Nat} (hb : (b : Int) < (h.1 a 4).toInt) : (0 ≤ (h.1 (a + 3) b).toInt ∧ (h.1 (a + 3) b).toInt ≤ 99) ∧ 0 ≤ (h.1 (a + 4) b).toInt ∧ (h.1 (a + 4) b).toInt ≤ 99 := ⟨(r.2.2.2.2.2.2.2.2.2.2.2.2.1 b hb).2.2.2.1, (r.2.2.2.2.2.2.2.2.2.2.2.2.1 b hb).2.2.2.2.1⟩
theorem op_hold (k b z : Int32) : OpI INV rod 108 266 [k, b, z] := by
  refine OpI.mk fun h hI => ?_
  have L := hI.lay
  by_cases hk : 0 ≤ k.toInt ∧ k.toInt < (h.1 3 0).toInt
  · obtain ⟨A, R, ha, hk2⟩ := hI.landK hk
    have ek := n_of hk.1
    have at1 := fun (d : Nat) => s_landAt1 (rod := rod) (d := d) hI hk
    generalize k.toNatClampNeg = kk at ek hk2 A R ha at1
    have le := R.le
    have bu := R.bu
    by_cases hb : 0 ≤ b.toInt ∧ b.toInt < (h.1 (8 + 18 * kk) 4).toInt
    · have eb := n_of hb.1
      obtain ⟨m, hm⟩ := Int.eq_ofNat_of_zero_le (show 0 ≤ (h.1 (8 + 18 * kk) 5).toInt by omega)
      obtain ⟨Y, C, hy, hc, E⟩ := R.yc hm
      have ob := R.om (b := b.toNatClampNeg) (by omega)
      obtain ⟨O, hO⟩ := Int.eq_ofNat_of_zero_le ob.1.1
      obtain ⟨Mn, hMn⟩ := Int.eq_ofNat_of_zero_le ob.2.1
      have ce := fun (d : Nat) => c_choose (rod := rod) (d := d) (a := (8 + 18 * kk)) (m := m) (O := O) (Mn := Mn) hy hc (by omega) (by omega) (by omega) ha L ⟨A, hm, E⟩ (h.1 ((8 + 18 * kk) + 3) b.toNatClampNeg) (h.1 ((8 + 18 * kk) + 4) b.toNatClampNeg) hO hMn
      obtain ⟨-, -, -, -, -, bb, -, bB⟩ := ce 0
      refine ⟨ansH Y C O m bb z, ?_, fun h1 I1 K1 => ?_⟩
      · refine n_Main_hold ?_
        refine w_Main_hold_0 L (Tc.wc (at1 _)) (Is.k ?_)
        refine w_Main_hold_8 rfl (fun c => nomatch c) (fun _ _ => ?_)
        refine w_Main_hold_15 A (Tc.wc (s_hasBuyer A _)) (Is.k ?_)
        refine w_Main_hold_21 (fun kc21 => ?_) (fun kc21 => ?_)
        · try simp only [ite01t, ite01v, Int32.reduceToInt, t_m1, t_m2, t_m1000, Decidable.not_not] at kc21
          refine w_Main_hold_26 L A (by first | assumption | omega | (refine ⟨?_, ?_⟩ <;> first | assumption | omega)) (ce _) ?_
          rintro _ h26 ⟨rfl, k26, b2, B26, g2⟩
          have be := BsP.eq g2 bB
          cases be
          have L26 := L.keep k26
          have A26 : LandA h26.2 (8 + 18 * kk) := k26.1.symm ▸ A
          have m5 : (h26.1 (8 + 18 * kk) 5).toInt = (m : Int) := by rw [k26.c _ (by omega)]; exact hm
          refine w_Main_hold_49 (fun q => ?_) (fun q => ?_)
          · have q1 : ¬ z.toInt = -1 := q
            refine w_Main_hold_62 (fun q => ?_) (fun q => ?_)
            · have q2 : ¬ z.toInt = -2 := q
              refine w_Main_hold_76 A26 (Tc.wc (s_hasLetter A26 _)) (Is.k ?_)
              by_cases w : 0 ≤ z.toInt ∧ z.toInt < (m : Int)
              · have ez := n_of w.1
                rw [if_pos (by rw [m5]; exact w)]
                refine w_Main_hold_82 (fun q => absurd q (by decide)) (fun _ => ?_)
                refine w_Main_hold_85 L26 (by omega) ?_
                refine w_Main_hold_98 ?_
                exact ⟨by rw [ansH, if_neg q1, if_neg q2, if_pos w, B26.2.2 z.toNatClampNeg (by omega)], k26⟩
              · rw [if_neg (by rw [m5]; exact w)]
                refine w_Main_hold_82 (fun _ => ?_) (fun q => absurd (by decide) q)
                refine w_Main_hold_97 ?_
                refine w_Main_hold_98 ?_
                exact ⟨by rw [ansH, if_neg q1, if_neg q2, if_neg w], k26⟩
            · have q2 : z.toInt = -2 := by first | exact q | exact Decidable.not_not.mp q
              refine w_Main_hold_68 L26 ?_
              exact ⟨by rw [ansH, if_neg q1, if_pos q2, B26.2.1], k26⟩
          · have q1 : z.toInt = -1 := by first | exact q | exact Decidable.not_not.mp q
            refine w_Main_hold_54 L26 ?_
            exact ⟨by rw [ansH, if_pos q1, B26.1], k26⟩
        · try simp only [ite01t, ite01v, Int32.reduceToInt, t_m1, t_m2, t_m1000, Decidable.not_not] at kc21
          refine w_Main_hold_24 ?_
          exact absurd hb (by omega)
      · have L1 := I1.lay
        have hk1 : (kk : Int) < (h1.1 3 0).toInt := by rw [K1.c 3 (by omega)]; omega
        have is1 := fun (d : Nat) => s_isLand1 (rod := rod) (d := d) I1 k kk ek hk1
        refine n_Model_hold ?_
        refine w_Model_hold_0 L1 (is1 _) ?_
        rintro _ h0 ⟨rfl, k0, M0⟩
        have I0 := I1.keep k0
        have L0 := I0.lay
        have K0 := (Keep.rfl (h := h1)).trans k0
        have e0 : h0.1 (8 + 18 * kk) = h.1 (8 + 18 * kk) := (K1.trans K0).c _ (by omega)
        refine w_Model_hold_5 (fun kc5 => absurd kc5 (by decide)) (fun kc5 => ?_)
        refine w_Model_hold_8 L0 (Tc.wc (s_misBuyer M0 L0 _)) (Is.k ?_)
        refine w_Model_hold_13 (fun kc13 => ?_) (fun kc13 => ?_)
        · (try simp only [ite01t, ite01v, Int32.reduceToInt, t_m1, t_m2, t_m1000, Decidable.not_not] at kc13); (try simp only [e0] at kc13)
          refine w_Model_hold_35 ?_
          refine ⟨?_, K0⟩
          first | (exfalso; omega) | rw [ansH, if_neg (by omega), if_neg (by omega), if_neg (by omega)]
        · (try simp only [ite01t, ite01v, Int32.reduceToInt, t_m1, t_m2, t_m1000, Decidable.not_not] at kc13); (try simp only [e0] at kc13)
          refine w_Model_hold_16 (fun kc16 => ?_) (fun kc16 => ?_)
          · (try simp only [ite01t, ite01v, Int32.reduceToInt, t_m1, t_m2, t_m1000, Decidable.not_not] at kc16); (try simp only [e0] at kc16)
            have KK := K1.trans K0
            refine w_Model_hold_37 L0 (r_holds (m := m) (O := O) (Mn := Mn) (Y := Y) (C := C) M0 L0 ha ⟨by rw [e0]; exact hm, fun t ht => by rw [KK.c ((8 + 18 * kk) + 6) (by omega), KK.c ((8 + 18 * kk) + 7) (by omega)]; exact E t ht⟩ hy hc (by omega) b eb (by rw [e0]; omega) (by rw [KK.c ((8 + 18 * kk) + 3) (by omega)]; exact hO) (by rw [KK.c ((8 + 18 * kk) + 4) (by omega)]; exact hMn) (by omega)) ?_
            rintro _ f ⟨rfl, kf, Mf, B2, Bf, g2⟩
            have be := BsP.eq g2 bB
            subst be
            have Lf := L0.keep kf
            have Kf := K0.trans kf
            have Bs : BestM f Y C O m bb := Bf
            refine w_Model_hold_42 (fun q => ?_) (fun q => ?_)
            · have q1 : ¬ z.toInt = -1 := q
              refine w_Model_hold_54 (fun q => ?_) (fun q => ?_)
              · have q2 : ¬ z.toInt = -2 := q
                have w : 0 ≤ z.toInt ∧ z.toInt < (m : Int) := by omega
                have ez := n_of w.1
                refine w_Model_hold_67 Lf (by omega) ?_
                refine w_Model_hold_73 ?_
                exact ⟨by rw [ansH, if_neg q1, if_neg q2, if_pos w, Bs.2.2 z.toNatClampNeg (by omega)], Kf⟩
              · have q2 : z.toInt = -2 := by first | exact q | exact Decidable.not_not.mp q
                refine w_Model_hold_60 Lf ?_
                refine w_Model_hold_73 ?_
                exact ⟨by rw [ansH, if_neg q1, if_pos q2, Bs.2.1], Kf⟩
            · have q1 : z.toInt = -1 := by first | exact q | exact Decidable.not_not.mp q
              refine w_Model_hold_47 Lf ?_
              refine w_Model_hold_73 ?_
              exact ⟨by rw [ansH, if_pos q1, Bs.1], Kf⟩
          · (try simp only [ite01t, ite01v, Int32.reduceToInt, t_m1, t_m2, t_m1000, Decidable.not_not] at kc16); (try simp only [e0] at kc16)
            refine w_Model_hold_21 (fun kc21 => ?_) (fun kc21 => ?_)
            · (try simp only [ite01t, ite01v, Int32.reduceToInt, t_m1, t_m2, t_m1000, Decidable.not_not] at kc21); (try simp only [e0] at kc21)
              have KK := K1.trans K0
              refine w_Model_hold_37 L0 (r_holds (m := m) (O := O) (Mn := Mn) (Y := Y) (C := C) M0 L0 ha ⟨by rw [e0]; exact hm, fun t ht => by rw [KK.c ((8 + 18 * kk) + 6) (by omega), KK.c ((8 + 18 * kk) + 7) (by omega)]; exact E t ht⟩ hy hc (by omega) b eb (by rw [e0]; omega) (by rw [KK.c ((8 + 18 * kk) + 3) (by omega)]; exact hO) (by rw [KK.c ((8 + 18 * kk) + 4) (by omega)]; exact hMn) (by omega)) ?_
              rintro _ f ⟨rfl, kf, Mf, B2, Bf, g2⟩
              have be := BsP.eq g2 bB
              subst be
              have Lf := L0.keep kf
              have Kf := K0.trans kf
              have Bs : BestM f Y C O m bb := Bf
              refine w_Model_hold_42 (fun q => ?_) (fun q => ?_)
              · have q1 : ¬ z.toInt = -1 := q
                refine w_Model_hold_54 (fun q => ?_) (fun q => ?_)
                · have q2 : ¬ z.toInt = -2 := q
                  have w : 0 ≤ z.toInt ∧ z.toInt < (m : Int) := by omega
                  have ez := n_of w.1
                  refine w_Model_hold_67 Lf (by omega) ?_
                  refine w_Model_hold_73 ?_
                  exact ⟨by rw [ansH, if_neg q1, if_neg q2, if_pos w, Bs.2.2 z.toNatClampNeg (by omega)], Kf⟩
                · have q2 : z.toInt = -2 := by first | exact q | exact Decidable.not_not.mp q
                  refine w_Model_hold_60 Lf ?_
                  refine w_Model_hold_73 ?_
                  exact ⟨by rw [ansH, if_neg q1, if_pos q2, Bs.2.1], Kf⟩
              · have q1 : z.toInt = -1 := by first | exact q | exact Decidable.not_not.mp q
                refine w_Model_hold_47 Lf ?_
                refine w_Model_hold_73 ?_
                exact ⟨by rw [ansH, if_pos q1, Bs.1], Kf⟩
            · (try simp only [ite01t, ite01v, Int32.reduceToInt, t_m1, t_m2, t_m1000, Decidable.not_not] at kc21); (try simp only [e0] at kc21)
              refine w_Model_hold_27 L0 (Tc.wc (s_misSheet M0 L0 _)) (Is.k ?_)
              refine w_Model_hold_32 (fun kc32 => ?_) (fun kc32 => ?_)
              · (try simp only [ite01t, ite01v, Int32.reduceToInt, t_m1, t_m2, t_m1000, Decidable.not_not] at kc32); (try simp only [e0] at kc32)
                have KK := K1.trans K0
                refine w_Model_hold_37 L0 (r_holds (m := m) (O := O) (Mn := Mn) (Y := Y) (C := C) M0 L0 ha ⟨by rw [e0]; exact hm, fun t ht => by rw [KK.c ((8 + 18 * kk) + 6) (by omega), KK.c ((8 + 18 * kk) + 7) (by omega)]; exact E t ht⟩ hy hc (by omega) b eb (by rw [e0]; omega) (by rw [KK.c ((8 + 18 * kk) + 3) (by omega)]; exact hO) (by rw [KK.c ((8 + 18 * kk) + 4) (by omega)]; exact hMn) (by omega)) ?_
                rintro _ f ⟨rfl, kf, Mf, B2, Bf, g2⟩
                have be := BsP.eq g2 bB
                subst be
                have Lf := L0.keep kf
                have Kf := K0.trans kf
                have Bs : BestM f Y C O m bb := Bf
                refine w_Model_hold_42 (fun q => ?_) (fun q => ?_)
                · have q1 : ¬ z.toInt = -1 := q
                  refine w_Model_hold_54 (fun q => ?_) (fun q => ?_)
                  · have q2 : ¬ z.toInt = -2 := q
                    have w : 0 ≤ z.toInt ∧ z.toInt < (m : Int) := by omega
                    have ez := n_of w.1
                    refine w_Model_hold_67 Lf (by omega) ?_
                    refine w_Model_hold_73 ?_
                    exact ⟨by rw [ansH, if_neg q1, if_neg q2, if_pos w, Bs.2.2 z.toNatClampNeg (by omega)], Kf⟩
                  · have q2 : z.toInt = -2 := by first | exact q | exact Decidable.not_not.mp q
                    refine w_Model_hold_60 Lf ?_
                    refine w_Model_hold_73 ?_
                    exact ⟨by rw [ansH, if_neg q1, if_pos q2, Bs.2.1], Kf⟩
                · have q1 : z.toInt = -1 := by first | exact q | exact Decidable.not_not.mp q
                  refine w_Model_hold_47 Lf ?_
                  refine w_Model_hold_73 ?_
                  exact ⟨by rw [ansH, if_pos q1, Bs.1], Kf⟩
              · (try simp only [ite01t, ite01v, Int32.reduceToInt, t_m1, t_m2, t_m1000, Decidable.not_not] at kc32); (try simp only [e0] at kc32)
                refine w_Model_hold_35 ?_
                refine ⟨?_, K0⟩
                first | (exfalso; omega) | rw [ansH, if_neg (by omega), if_neg (by omega), if_neg (by omega)]
    · refine ⟨-1, ?_, fun h1 I1 K1 => ?_⟩
      · refine n_Main_hold ?_
        refine w_Main_hold_0 L (Tc.wc (at1 _)) (Is.k ?_)
        refine w_Main_hold_8 rfl (fun c => nomatch c) (fun _ _ => ?_)
        refine w_Main_hold_15 A (Tc.wc (s_hasBuyer A _)) (Is.k ?_)
        refine w_Main_hold_21 (fun kc21 => ?_) (fun kc21 => ?_)
        · try simp only [ite01t, ite01v, Int32.reduceToInt, t_m1, t_m2, t_m1000, Decidable.not_not] at kc21
          exact absurd (by omega) hb
        · try simp only [ite01t, ite01v, Int32.reduceToInt, t_m1, t_m2, t_m1000, Decidable.not_not] at kc21
          refine w_Main_hold_24 ?_
          exact ⟨rfl, Keep.rfl⟩
      · have L1 := I1.lay
        have hk1 : (kk : Int) < (h1.1 3 0).toInt := by rw [K1.c 3 (by omega)]; omega
        have is1 := fun (d : Nat) => s_isLand1 (rod := rod) (d := d) I1 k kk ek hk1
        refine n_Model_hold ?_
        refine w_Model_hold_0 L1 (is1 _) ?_
        rintro _ h0 ⟨rfl, k0, M0⟩
        have I0 := I1.keep k0
        have L0 := I0.lay
        have K0 := (Keep.rfl (h := h1)).trans k0
        have e0 : h0.1 (8 + 18 * kk) = h.1 (8 + 18 * kk) := (K1.trans K0).c _ (by omega)
        refine w_Model_hold_5 (fun kc5 => absurd kc5 (by decide)) (fun kc5 => ?_)
        refine w_Model_hold_8 L0 (Tc.wc (s_misBuyer M0 L0 _)) (Is.k ?_)
        refine w_Model_hold_13 (fun kc13 => ?_) (fun kc13 => ?_)
        · (try simp only [ite01t, ite01v, Int32.reduceToInt, t_m1, t_m2, t_m1000, Decidable.not_not] at kc13); (try simp only [e0] at kc13)
          refine w_Model_hold_35 ?_
          exact ⟨rfl, K0⟩
        · (try simp only [ite01t, ite01v, Int32.reduceToInt, t_m1, t_m2, t_m1000, Decidable.not_not] at kc13); (try simp only [e0] at kc13)
          exact absurd (by omega) hb
  · refine ⟨-1, ?_, fun h1 I1 K1 => ?_⟩
    · refine n_Main_hold ?_
      refine w_Main_hold_0 L (Tc.wc (s_landAt0 hI hk)) (Is.k ?_)
      refine w_Main_hold_8 rfl (fun _ => ?_) (fun _ c => nomatch c)
      refine w_Main_hold_24 ?_
      exact ⟨rfl, Keep.rfl⟩
    · have L1 := I1.lay
      have hk1 : ¬ (0 ≤ k.toInt ∧ k.toInt < (h1.1 3 0).toInt) := by rw [K1.c 3 (by omega)]; exact hk
      refine n_Model_hold ?_
      refine w_Model_hold_0 L1 (Tc.wc (s_isLand0 I1 k hk1)) (Is.k ?_)
      refine w_Model_hold_5 (fun kc5 => ?_) (fun kc5 => absurd kc5 (by decide))
      refine w_Model_hold_35 ?_
      exact ⟨rfl, Keep.rfl⟩
end M83
