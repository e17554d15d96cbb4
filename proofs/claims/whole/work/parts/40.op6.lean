/-! OPERATIONS: deed, bargain -/
section M40
variable {rod : Nat → Nat × (Nat → Int32)} {d : Nat} {h : MH} {a l : Nat}
theorem SeasonRel.de (r : SeasonRel h a l) : 0 ≤ (h.1 a 0).toInt ∧ (h.1 a 0).toInt ≤ 40 := r.2.1
theorem LedgerRel.en (r : LedgerRel h a l) : 0 ≤ (h.1 a 0).toInt ∧ (h.1 a 0).toInt ≤ 20 := r.2.1
theorem op_deed (k x w : Int32) : OpI INV rod 71 229 [k, x, w] := by
  refine OpI.mk fun h hI => ?_
  have L := hI.lay
  by_cases hk : 0 ≤ k.toInt ∧ k.toInt < (h.1 3 1).toInt
  · obtain ⟨AS, R, hk2⟩ := hI.seasonK hk
    have ek := n_of hk.1
    have at1 := fun (d : Nat) => s_seasonAt1 (rod := rod) (d := d) hI hk
    generalize k.toNatClampNeg = kk at ek hk2 AS R at1
    have dd := R.de
    refine ⟨if x.toInt = -1 then (if w.toInt = 0 then h.1 (17 + 18 * kk) 0 else -2) else if (0 ≤ x.toInt ∧ x.toInt < (h.1 (17 + 18 * kk) 0).toInt) ∧ 0 ≤ w.toInt ∧ w.toInt ≤ 2 then h.1 ((17 + 18 * kk) + 1 + w.toNatClampNeg) x.toNatClampNeg else -2, ?_, fun h1 I1 K1 => ?_⟩
    · refine n_Main_deed ?_
      refine w_Main_deed_0 L (Tc.wc (at1 _)) (Is.k ?_)
      refine w_Main_deed_8 rfl (fun c => nomatch c) (fun _ _ => ?_)
      refine w_Main_deed_18 (fun c18 => ?_) (fun c18 => ?_)
      · try simp only [ite01t, ite01v, Int32.reduceToInt, t_m1, t_m2, t_m1000, Decidable.not_not] at c18
        refine w_Main_deed_38 AS (Tc.wc (s_hasDeed AS _)) (Is.k ?_)
        refine w_Main_deed_44 (fun c44 => ?_) (fun c44 => ?_)
        · try simp only [ite01t, ite01v, Int32.reduceToInt, t_m1, t_m2, t_m1000, Decidable.not_not] at c44
          refine w_Main_deed_57 ?_
          refine w_Main_deed_59 ?_
          exact ⟨by rw [if_neg (c := x.toInt = -1) (by omega)]; first | done | rw [if_neg (by omega)], Keep.rfl⟩
        · try simp only [ite01t, ite01v, Int32.reduceToInt, t_m1, t_m2, t_m1000, Decidable.not_not] at c44
          refine w_Main_deed_47 AS (Tc.wc (s_sToldOf AS (by omega) _ _)) (Is.k ?_)
          refine w_Main_deed_54 ?_
          refine w_Main_deed_59 ?_
          exact ⟨by rw [if_neg (c := x.toInt = -1) (by omega)]; first | done | rw [if_neg (by omega)], Keep.rfl⟩
      · try simp only [ite01t, ite01v, Int32.reduceToInt, t_m1, t_m2, t_m1000, Decidable.not_not] at c18
        refine w_Main_deed_23 (fun c23 => ?_) (fun c23 => ?_)
        · try simp only [ite01t, ite01v, Int32.reduceToInt, t_m1, t_m2, t_m1000, Decidable.not_not] at c23
          refine w_Main_deed_35 ?_
          refine w_Main_deed_37 ?_
          exact ⟨by rw [if_pos (by omega)]; first | rw [if_pos (by omega)] | rw [if_neg (by omega)], Keep.rfl⟩
        · try simp only [ite01t, ite01v, Int32.reduceToInt, t_m1, t_m2, t_m1000, Decidable.not_not] at c23
          refine w_Main_deed_27 AS ?_
          refine w_Main_deed_37 ?_
          exact ⟨by rw [if_pos (by omega)]; first | rw [if_pos (by omega)] | rw [if_neg (by omega)], Keep.rfl⟩
    · have L1 := I1.lay
      have hk1 : (kk : Int) < (h1.1 3 1).toInt := by rw [K1.c 3 (by omega)]; omega
      have is1 := fun (d : Nat) => s_isSeason1 (rod := rod) (d := d) I1 k kk ek hk1
      have R1 := (I1.season kk hk1).2.1
      refine n_Model_deed ?_
      refine w_Model_deed_0 L1 (is1 _) ?_
      rintro _ h0 ⟨rfl, k0, f0, M0⟩
      have I0 := I1.keep k0
      have L0 := I0.lay
      have K0 := (Keep.rfl (h := h1)).trans k0
      have R0 := (I0.season kk (by rw [K0.c 3 (by omega)]; exact hk1)).2.1
      refine w_Model_deed_5 (fun c5 => ?_) (fun c5 => absurd c5 (by decide))
      have r0 : h0.1 85 (h0.1 84 20).toNatClampNeg = h.1 (17 + 18 * kk) 0 := by rw [n_eq M0, ← R0.1, (K1.trans K0).c _ (by omega)]
      have e1 : (h.1 (17 + 18 * kk) 0 - 1).toInt = (h.1 (17 + 18 * kk) 0).toInt - 1 := i32_sub (by show _ ≤ _ - (1 : Int); omega) (by show _ - (1 : Int) ≤ _; omega)
      refine w_Model_deed_11 (fun c11 => ?_) (fun c11 => ?_)
      · (try simp only [ite01t, ite01v, Int32.reduceToInt, t_m1, t_m2, t_m1000, Decidable.not_not] at c11); (try simp only [r0] at c11); (try simp only [e1] at c11)
        refine w_Model_deed_35 L0 (by rw [M0]; omega) (Tc.wc (s_isIn _ _ _ _)) (Is.k ?_)
        refine w_Model_deed_51 (fun c51 => ?_) (fun c51 => ?_)
        · (try simp only [ite01t, ite01v, Int32.reduceToInt, t_m1, t_m2, t_m1000, Decidable.not_not] at c51); (try simp only [r0] at c51); (try simp only [e1] at c51)
          refine w_Model_deed_83 ?_
          refine w_Model_deed_85 ?_
          exact ⟨by rw [if_neg (by omega), if_neg (by omega)], K0⟩
        · (try simp only [ite01t, ite01v, Int32.reduceToInt, t_m1, t_m2, t_m1000, Decidable.not_not] at c51); (try simp only [r0] at c51); (try simp only [e1] at c51)
          refine w_Model_deed_54 (Tc.wc (s_isIn _ _ _ _)) (Is.k ?_)
          refine w_Model_deed_60 (fun c60 => ?_) (fun c60 => ?_)
          · (try simp only [ite01t, ite01v, Int32.reduceToInt, t_m1, t_m2, t_m1000, Decidable.not_not] at c60); (try simp only [r0] at c60); (try simp only [e1] at c60)
            refine w_Model_deed_83 ?_
            refine w_Model_deed_85 ?_
            exact ⟨by rw [if_neg (by omega), if_neg (by omega)], K0⟩
          · (try simp only [ite01t, ite01v, Int32.reduceToInt, t_m1, t_m2, t_m1000, Decidable.not_not] at c60); (try simp only [r0] at c60); (try simp only [e1] at c60)
            have lx := n_lt (x := x) (n := 40) (by omega) (by omega)
            have lw := n_lt (x := w) (n := 3) (by omega) (by omega)
            have ei := (n_add (n_add (n_add M0 (show (1 : Int32).toInt = ((1 : Nat) : Int) from rfl) (by omega)) (n_mul (show (3 : Int32).toInt = ((3 : Nat) : Int) from rfl) (n_of (x := x) (by omega)) (by omega)) (by omega)) (n_of (x := w) (by omega)) (by omega))
            refine w_Model_deed_63 L0 (by rw [ei]; omega) ?_
            refine w_Model_deed_85 ?_
            refine ⟨?_, K0⟩
            rw [if_neg (by omega)]
            rw [if_pos (by omega), n_eq ei, ← (K1.trans K0).c ((17 + 18 * kk) + 1 + w.toNatClampNeg) (by omega)]
            have q := (R0.2.2 x.toNatClampNeg (by rw [(K1.trans K0).c _ (by omega), ← n_of (x := x) (by omega)]; omega))
            have l0 := n_of (x := w) (by omega)
            rcases (show w.toNatClampNeg = 0 ∨ w.toNatClampNeg = 1 ∨ w.toNatClampNeg = 2 by omega) with e | e | e
            · rw [e]; exact congrArg (fun z => some (Sum.inl z)) q.1.symm
            · rw [e, show 790 + 121 * kk + 1 + 3 * x.toNatClampNeg + 1 = 790 + 121 * kk + 2 + 3 * x.toNatClampNeg by omega]; exact congrArg (fun z => some (Sum.inl z)) q.2.1.symm
            · rw [e, show 790 + 121 * kk + 1 + 3 * x.toNatClampNeg + 2 = 790 + 121 * kk + 3 + 3 * x.toNatClampNeg by omega]; exact congrArg (fun z => some (Sum.inl z)) q.2.2.1.symm
      · (try simp only [ite01t, ite01v, Int32.reduceToInt, t_m1, t_m2, t_m1000, Decidable.not_not] at c11); (try simp only [r0] at c11); (try simp only [e1] at c11)
        refine w_Model_deed_16 (fun c16 => ?_) (fun c16 => ?_)
        · (try simp only [ite01t, ite01v, Int32.reduceToInt, t_m1, t_m2, t_m1000, Decidable.not_not] at c16); (try simp only [r0] at c16); (try simp only [e1] at c16)
          refine w_Model_deed_32 ?_
          refine w_Model_deed_34 ?_
          exact ⟨by rw [if_pos (by omega)]; first | (rw [if_pos (by omega), r0]; done) | (rw [if_neg (by omega)]; done), K0⟩
        · (try simp only [ite01t, ite01v, Int32.reduceToInt, t_m1, t_m2, t_m1000, Decidable.not_not] at c16); (try simp only [r0] at c16); (try simp only [e1] at c16)
          refine w_Model_deed_20 L0 (by rw [M0]; omega) ?_
          refine w_Model_deed_34 ?_
          exact ⟨by rw [if_pos (by omega)]; first | (rw [if_pos (by omega), r0]; done) | (rw [if_neg (by omega)]; done), K0⟩
  · refine ⟨-2, ?_, fun h1 I1 K1 => ?_⟩
    · refine n_Main_deed ?_
      refine w_Main_deed_0 L (Tc.wc (s_seasonAt0 hI hk)) (Is.k ?_)
      refine w_Main_deed_8 rfl (fun _ => ?_) (fun _ c => nomatch c)
      refine w_Main_deed_15 ?_
      exact ⟨rfl, Keep.rfl⟩
    · have L1 := I1.lay
      have hk1 : ¬ (0 ≤ k.toInt ∧ k.toInt < (h1.1 3 1).toInt) := by rw [K1.c 3 (by omega)]; exact hk
      refine n_Model_deed ?_
      refine w_Model_deed_0 L1 (Tc.wc (s_isSeason0 I1 k hk1)) (Is.k ?_)
      refine w_Model_deed_5 (fun c5 => absurd c5 (by decide)) (fun c5 => ?_)
      refine w_Model_deed_8 ?_
      exact ⟨rfl, Keep.rfl⟩
theorem shl_t {p : Int32} (h1 : 0 ≤ p.toInt) (h2 : p.toInt ≤ 5) : ((1 : Int32) <<< (p &&& 31)).toInt = ((2 ^ p.toNatClampNeg : Nat) : Int) := by
  rcases (show p.toInt = 0 ∨ p.toInt = 1 ∨ p.toInt = 2 ∨ p.toInt = 3 ∨ p.toInt = 4 ∨ p.toInt = 5 by omega) with e | e | e | e | e | e
  · rw [show p = 0 from i32_of e]; rfl
  · rw [show p = 1 from i32_of e]; rfl
  · rw [show p = 2 from i32_of e]; rfl
  · rw [show p = 3 from i32_of e]; rfl
  · rw [show p = 4 from i32_of e]; rfl
  · rw [show p = 5 from i32_of e]; rfl
theorem BargRel.pa (r : BargRel h a l) : 1 ≤ (h.1 a 0).toInt ∧ (h.1 a 0).toInt ≤ 4 := r.2.1
theorem all_t {p : Int32} (h1 : 1 ≤ p.toInt) (h2 : p.toInt ≤ 4) : ((1 : Int32) <<< (p &&& 31) - 1).toInt = ((2 ^ p.toNatClampNeg - 1 : Nat) : Int) ∧ 2 ^ p.toNatClampNeg ≤ 16 := by
  rcases (show p.toInt = 1 ∨ p.toInt = 2 ∨ p.toInt = 3 ∨ p.toInt = 4 by omega) with e | e | e | e
  · rw [show p = 1 from i32_of e]; exact ⟨rfl, by decide⟩
  · rw [show p = 2 from i32_of e]; exact ⟨rfl, by decide⟩
  · rw [show p = 3 from i32_of e]; exact ⟨rfl, by decide⟩
  · rw [show p = 4 from i32_of e]; exact ⟨rfl, by decide⟩
theorem BargRel.wo (r : BargRel h a l) {s : Nat} (h1 : 1 ≤ s) (h2 : s < 16) : h.1 85 (l + s) = h.1 (a + 1) s := (r.2.2.2 s h1 h2).1.symm
theorem op_bargain (k w : Int32) : OpI INV rod 126 281 [k, w] := by
  refine OpI.mk fun h hI => ?_
  have L := hI.lay
  by_cases hk : 0 ≤ k.toInt ∧ k.toInt < (h.1 3 3).toInt
  · obtain ⟨A, R, hk2⟩ := hI.bargK hk
    have ek := n_of hk.1
    have at1 := fun (d : Nat) => s_bargainAt1 (rod := rod) (d := d) hI hk
    generalize k.toNatClampNeg = kk at ek hk2 A R at1
    have pa := R.pa
    have al := all_t pa.1 pa.2
    refine ⟨if w.toInt = 0 then h.1 (24 + 18 * kk) 0 else if 0 < w.toInt ∧ w.toInt < ((2 ^ (h.1 (24 + 18 * kk) 0).toNatClampNeg : Nat) : Int) then h.1 ((24 + 18 * kk) + 1) w.toNatClampNeg else -1, ?_, fun h1 I1 K1 => ?_⟩
    · refine n_Main_bargain ?_
      refine w_Main_bargain_0 L (Tc.wc (at1 _)) (Is.k ?_)
      refine w_Main_bargain_8 rfl (fun c => nomatch c) (fun _ _ => ?_)
      refine w_Main_bargain_15 (fun c15 => ?_) (fun c15 => ?_)
      · (try simp only [ite01t, ite01v, Int32.reduceToInt, t_m1, t_m2, t_m1000, Decidable.not_not] at c15); (try simp only [al.1] at c15)
        refine w_Main_bargain_24 (fun c24 => ?_) (fun c24 => ?_)
        · (try simp only [ite01t, ite01v, Int32.reduceToInt, t_m1, t_m2, t_m1000, Decidable.not_not] at c24); (try simp only [al.1] at c24)
          refine w_Main_bargain_44 ?_
          refine w_Main_bargain_45 ?_
          exact ⟨by rw [if_neg (by omega), if_neg (by omega)], Keep.rfl⟩
        · (try simp only [ite01t, ite01v, Int32.reduceToInt, t_m1, t_m2, t_m1000, Decidable.not_not] at c24); (try simp only [al.1] at c24)
          refine w_Main_bargain_28 A (Tc.wc (s_everybody A)) (Is.k ?_)
          refine w_Main_bargain_33 (fun c33 => ?_) (fun c33 => ?_)
          · (try simp only [ite01t, ite01v, Int32.reduceToInt, t_m1, t_m2, t_m1000, Decidable.not_not] at c33); (try simp only [al.1] at c33)
            refine w_Main_bargain_44 ?_
            refine w_Main_bargain_45 ?_
            exact ⟨by rw [if_neg (by omega), if_neg (by omega)], Keep.rfl⟩
          · (try simp only [ite01t, ite01v, Int32.reduceToInt, t_m1, t_m2, t_m1000, Decidable.not_not] at c33); (try simp only [al.1] at c33)
            refine w_Main_bargain_36 A (Tc.wc (s_worthOf A _)) (Is.k ?_)
            refine w_Main_bargain_41 ?_
            refine w_Main_bargain_45 ?_
            exact ⟨by rw [if_neg (c := w.toInt = 0) (by omega), if_pos (by omega), if_pos (by omega)], Keep.rfl⟩
      · (try simp only [ite01t, ite01v, Int32.reduceToInt, t_m1, t_m2, t_m1000, Decidable.not_not] at c15); (try simp only [al.1] at c15)
        refine w_Main_bargain_19 A ?_
        exact ⟨by rw [if_pos (by omega)], Keep.rfl⟩
    · have L1 := I1.lay
      have hk1 : (kk : Int) < (h1.1 3 3).toInt := by rw [K1.c 3 (by omega)]; omega
      have is1 := fun (d : Nat) => s_isBargain1 (rod := rod) (d := d) I1 k kk ek hk1
      have R1 := (I1.barg kk hk1).2.1
      refine n_Model_bargain ?_
      refine w_Model_bargain_0 L1 (is1 _) ?_
      rintro _ h0 ⟨rfl, k0, M0⟩
      have I0 := I1.keep k0
      have L0 := I0.lay
      have K0 := (Keep.rfl (h := h1)).trans k0
      have e0 : h0.1 (24 + 18 * kk) = h.1 (24 + 18 * kk) := (K1.trans K0).c _ (by omega)
      refine w_Model_bargain_5 (fun c5 => ?_) (fun c5 => absurd c5 (by decide))
      have pe : h0.1 84 43 = h.1 (24 + 18 * kk) 0 := by rw [M0.2.2.2, e0]
      refine w_Model_bargain_10 (fun c10 => ?_) (fun c10 => ?_)
      · (try simp only [ite01t, ite01v, Int32.reduceToInt, t_m1, t_m2, t_m1000, Decidable.not_not] at c10); (try simp only [pe, al.1] at c10)
        refine w_Model_bargain_19 L0 (Tc.wc (s_isIn _ _ _ _)) (Is.k ?_)
        refine w_Model_bargain_32 (fun c32 => ?_) (fun c32 => ?_)
        · (try simp only [ite01t, ite01v, Int32.reduceToInt, t_m1, t_m2, t_m1000, Decidable.not_not] at c32); (try simp only [pe, al.1] at c32)
          refine w_Model_bargain_49 ?_
          refine w_Model_bargain_50 ?_
          exact ⟨by rw [if_neg (by omega), if_neg (by omega)], K0⟩
        · (try simp only [ite01t, ite01v, Int32.reduceToInt, t_m1, t_m2, t_m1000, Decidable.not_not] at c32); (try simp only [pe, al.1] at c32)
          have lw := n_of (x := w) (by omega)
          have ei := n_add M0.2.2.1 lw (by omega)
          refine w_Model_bargain_35 L0 (by rw [ei]; omega) ?_
          refine w_Model_bargain_50 ?_
          exact ⟨by rw [if_neg (by omega), if_pos (by omega), n_eq ei, M0.1.wo (by omega) (by omega), (K1.trans K0).c _ (by omega)], K0⟩
      · (try simp only [ite01t, ite01v, Int32.reduceToInt, t_m1, t_m2, t_m1000, Decidable.not_not] at c10); (try simp only [pe, al.1] at c10)
        refine w_Model_bargain_14 L0 ?_
        exact ⟨by rw [if_pos (by omega), pe], K0⟩
  · refine ⟨-1, ?_, fun h1 I1 K1 => ?_⟩
    · refine n_Main_bargain ?_
      refine w_Main_bargain_0 L (Tc.wc (s_bargainAt0 hI hk)) (Is.k ?_)
      refine w_Main_bargain_8 rfl (fun _ => ?_) (fun _ c => nomatch c)
      refine w_Main_bargain_13 ?_
      exact ⟨rfl, Keep.rfl⟩
    · have L1 := I1.lay
      have hk1 : ¬ (0 ≤ k.toInt ∧ k.toInt < (h1.1 3 3).toInt) := by rw [K1.c 3 (by omega)]; exact hk
      refine n_Model_bargain ?_
      refine w_Model_bargain_0 L1 (Tc.wc (s_isBargain0 I1 k hk1)) (Is.k ?_)
      refine w_Model_bargain_5 (fun c5 => absurd c5 (by decide)) (fun c5 => ?_)
      refine w_Model_bargain_8 ?_
      exact ⟨rfl, Keep.rfl⟩
end M40
