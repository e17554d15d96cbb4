/-! OPERATION rows -/
section M89
variable {rod : Nat → Nat × (Nat → Int32)} {d : Nat} {h : MH} {a l n B V : Nat} {W f : Nat → Nat}
def ansW (W : Nat → Nat) (B V n : Nat) (z : Int32) : Int32 := if z.toInt = -1 then Int32.ofNat (cntN (okb W B V n) (B ^ (n - 1))) else if 0 ≤ z.toInt ∧ z.toInt < (n : Int) then (match fstN (okb W B V n) (B ^ (n - 1)) with | some c => Int32.ofNat (rowC B V n c z.toNatClampNeg) | none => -1) else -1
theorem rowC_le {c t : Nat} (hB : B = V + 1) (V4 : V ≤ 40) : rowC B V n c t ≤ 40 := by
  have := pd_lt (B := B) (p := n - 1) (q := c) (t := t) (by omega)
  unfold rowC
  split <;> omega
theorem r_rows (M : MBarg h a l) (L : Lay h.2) (ha : a + 2 ≤ 45) (hn : (h.1 a 0).toInt = (n : Int)) (n1 : 1 ≤ n) (n4 : n ≤ 4) (hW : ∀ s, s < 16 → (h.1 (a + 1) s).toInt = (W s : Int)) (W0 : W 0 = 0) (hV : W (2 ^ n - 1) = V) (hB : B = V + 1) (V4 : V ≤ 40) (x1 z : Int32) (hz : -1 ≤ z.toInt ∧ z.toInt < (n : Int)) : Wb rod (d + 2) B_Model_rows 24 [some (.inr (.inr (.inl (some 84)))), some (.inl x1), some (.inl z), none, none, none, none] [] h (fun r h' => Keep h h' ∧ r = some (.inl (ansW W B V n z))) := by
  have B0 : 0 < B := by omega
  have e43 : (h.1 84 43).toInt = (n : Int) := by rw [M.2.2.2]; exact hn
  have ev := (ev_of n1 n4 e43).1
  have n16 : 2 ^ n - 1 < 16 := by have := Nat.pow_le_pow_right (n := 2) (by omega) n4; omega
  have wv := hW _ n16
  rw [hV] at wv
  have pb : ∀ i, i ≤ 3 → B ^ i ≤ 68921 := fun i hi => Nat.le_trans (Nat.pow_le_pow_left (show B ≤ 41 by omega) i) (Nat.le_trans (Nat.pow_le_pow_right (by omega) hi) (by decide))
  refine w_Model_rows_24 L (by rw [ev]; exact Tc.wc (s_mworthOf M L _ (2 ^ n - 1) (t_nat (by omega)) n16)) (Is.k ?_)
  refine w_Model_rows_36 rfl ?_
  generalize h.1 (a + 1) (2 ^ n - 1) = x3 at wv
  have tB : (x3 + 1).toInt = (B : Int) := by rw [t_succ wv (by omega)]; omega
  refine Wb.upc (n - 1) (fun k L' => ∃ (x5 : Int32), L' = [some (.inr (.inr (.inl (some 84)))), some (.inl x1), some (.inl z), some (.inl x3), some (.inl (Int32.ofNat (B ^ k))), some (.inl x5), none] ∧ x5.toInt = ((k + 1 : Nat) : Int)) ?_ (Nat.zero_le _) ⟨1, rfl, rfl⟩
  rintro k _ hk ⟨x5, rfl, h5⟩ ihk
  refine w_Model_rows_43 L (fun q => ?_) (fun q => ?_)
  · rw [e43, h5] at q
    have kn : k = n - 1 := by omega
    subst kn
    clear ihk
    have pN := pb (n - 1) (by omega)
    have t4 := t_nat (n := B ^ (n - 1)) (by omega)
    refine w_Model_rows_66 rfl ?_
    generalize Int32.ofNat (B ^ (n - 1)) = x4 at t4
    refine Wb.uph (B ^ (n - 1)) (fun c L' g => ∃ (x5 x6 : Int32), L' = [some (.inr (.inr (.inl (some 84)))), some (.inl x1), some (.inl z), some (.inl x3), some (.inl x4), some (.inl x5), some (.inl x6)] ∧ x6.toInt = (c : Int) ∧ Keep h g ∧ MBarg g a l ∧ (∀ c, c ≠ 97 → g.1 c = h.1 c) ∧ (z.toInt = -1 → x5.toInt = (cntN (okb W B V n) c : Int)) ∧ (¬ z.toInt = -1 → fstN (okb W B V n) c = none)) ?_ (Nat.zero_le _) ⟨0, 0, rfl, rfl, Keep.rfl, M, fun _ _ => rfl, fun _ => rfl, fun _ => rfl⟩
    rintro c _ g hc ⟨x5, x6, rfl, h6, K, Mg, gc, a1, a2⟩ ih
    have Lg := L.keep K
    refine w_Model_rows_72 (fun q => ?_) (fun q => ?_)
    · rw [t4, h6] at q
      have ce : c = B ^ (n - 1) := by omega
      subst ce
      have cl := cntN_le (ok := okb W B V n) (B ^ (n - 1))
      refine w_Model_rows_120 (fun w => ?_) (fun w => ?_)
      · have w' : ¬ z.toInt = -1 := w
        refine w_Model_rows_130 ?_
        refine w_Model_rows_131 ?_
        refine ⟨K, ?_⟩
        rw [ansW, if_neg w', a2 w', if_pos (by omega)]
      · have w' : z.toInt = -1 := by first | exact w | exact Decidable.not_not.mp w
        refine w_Model_rows_125 ?_
        refine w_Model_rows_131 ?_
        refine ⟨K, ?_⟩
        rw [ansW, if_pos w', ← ofN (a1 w') (by omega)]
    rw [t4, h6] at q
    have cl : c < B ^ (n - 1) := by omega
    have cn := cntN_le (ok := okb W B V n) c
    have next : ∀ (f : MH) (x5 : Int32), Keep h f → MBarg f a l → (∀ c, c ≠ 97 → f.1 c = h.1 c) → (z.toInt = -1 → x5.toInt = (cntN (okb W B V n) (c + 1) : Int)) → (¬ z.toInt = -1 → fstN (okb W B V n) (c + 1) = none) → Wb rod (d + 2) B_Model_rows 114 [some (.inr (.inr (.inl (some 84)))), some (.inl x1), some (.inl z), some (.inl x3), some (.inl x4), some (.inl x5), some (.inl x6)] [] f (fun r h' => Keep h h' ∧ r = some (.inl (ansW W B V n z))) := by
      intro f x5 F Mf fc b1 b2
      refine w_Model_rows_114 rfl ?_
      exact ih cl _ _ ⟨_, _, rfl, t_succ h6 (by omega), F, Mf, fc, b1, b2⟩
    have bad : okb W B V n c = false → (z.toInt = -1 → x5.toInt = (cntN (okb W B V n) (c + 1) : Int)) ∧ (¬ z.toInt = -1 → fstN (okb W B V n) (c + 1) = none) := fun o => ⟨fun w => by rw [cntN, o]; exact a1 w, fun w => by rw [fstN, a2 w, o]; rfl⟩
    have ea : g.1 a = h.1 a := gc a (by omega)
    refine w_Model_rows_79 Lg (r_shared Mg Lg (by rw [ea]; exact hn) n1 n4 hB V4 x6 x3 h6 (by omega) wv) ?_
    rintro _ f ⟨F, fc, ⟨sm, rfl, fr⟩ | ⟨sm, rfl⟩⟩
    · have Mf := Mg.k97 ha fc
      have KF := K.trans F
      have hc' : ∀ c, c ≠ 97 → f.1 c = h.1 c := fun c hc => (fc c hc).trans (gc c hc)
      have Lf := L.keep KF
      refine w_Model_rows_86 (fun w => absurd w (by decide)) (fun _ => ?_)
      refine w_Model_rows_89 Lf (r_stands (f := rowC B V n c) Mf Lf (by rw [hc' a (by omega)]; exact hn) n1 n4 (fun s hs => by rw [hc' (a + 1) (by omega)]; exact hW s hs) W0 (fun t => rowC_le hB V4) fr) ?_
      rintro _ _ ⟨rfl, ⟨st, rfl⟩ | ⟨st, rfl⟩⟩
      · have o : okb W B V n c = true := okb_iff.mpr ⟨sm, st⟩
        refine w_Model_rows_93 (fun _ => ?_) (fun w => absurd w (by decide))
        refine w_Model_rows_99 (fun w => ?_) (fun w => ?_)
        · have w' : z.toInt = -1 := w
          refine w_Model_rows_111 rfl ?_
          refine next f _ KF Mf hc' (fun _ => ?_) (fun y => absurd w' y)
          rw [cntN, if_pos o]
          exact t_succ (a1 w') (by omega)
        · have w' : ¬ z.toInt = -1 := w
          have ez := n_of (x := z) (by omega)
          refine w_Model_rows_104 Lf (by omega) ?_
          refine ⟨KF, ?_⟩
          have f1 : fstN (okb W B V n) (c + 1) = some c := by rw [fstN, a2 w', o]; rfl
          have f2 := fstN_mono f1 (B ^ (n - 1) - (c + 1))
          rw [show c + 1 + (B ^ (n - 1) - (c + 1)) = B ^ (n - 1) by omega] at f2
          rw [ansW, if_neg w', if_pos (by omega), f2, fr z.toNatClampNeg (by omega)]
      · have o : okb W B V n c = false := by
          cases hb : okb W B V n c with
          | false => rfl
          | true => exact absurd (okb_iff.mp hb).2 st
        refine w_Model_rows_93 (fun w => absurd (by decide) w) (fun _ => ?_)
        refine w_Model_rows_96 ?_
        exact next f _ KF Mf hc' (bad o).1 (bad o).2
    · have o : okb W B V n c = false := by
        cases hb : okb W B V n c with
        | false => rfl
        | true => exact absurd (okb_iff.mp hb).1 sm
      refine w_Model_rows_86 (fun _ => ?_) (fun w => absurd (by decide) w)
      exact next f _ (K.trans F) (Mg.k97 ha fc) (fun c hc => (fc c hc).trans (gc c hc)) (bad o).1 (bad o).2
  · rw [e43, h5] at q
    have := pb (k + 1) (by omega)
    have := pb k (by omega)
    refine w_Model_rows_52 ?_
    refine ihk (by omega) _ ⟨_, ?_, t_succ h5 (by omega)⟩
    rw [← ofN (x := Int32.ofNat (B ^ k) * (x3 + 1)) (n := B ^ (k + 1)) (by rw [Nat.pow_succ]; exact n_mul (t_nat (by omega)) tB (by have q := pb (k + 1) (by omega); rw [Nat.pow_succ] at q; omega)) (by omega)]
theorem op_rows (k z : Int32) : OpI INV rod 130 283 [k, z] := by
  refine OpI.mk fun h hI => ?_
  have L := hI.lay
  by_cases hk : 0 ≤ k.toInt ∧ k.toInt < (h.1 3 3).toInt
  · obtain ⟨A, R, hk2⟩ := hI.bargK hk
    have ek := n_of hk.1
    have at1 := fun (d : Nat) => s_bargainAt1 (rod := rod) (d := d) hI hk
    generalize k.toNatClampNeg = kk at ek hk2 A R at1
    have pa := R.pa
    obtain ⟨n, hn⟩ := Int.eq_ofNat_of_zero_le (show 0 ≤ (h.1 (24 + 18 * kk) 0).toInt by omega)
    have wb := R.wb
    have hW : ∀ s, s < 16 → (h.1 ((24 + 18 * kk) + 1) s).toInt = (((h.1 ((24 + 18 * kk) + 1) s).toNatClampNeg : Nat) : Int) := fun s hs => n_of (wb s hs).1
    obtain ⟨Wn, eW⟩ : ∃ Wn : Nat → Nat, Wn = fun s => (h.1 ((24 + 18 * kk) + 1) s).toNatClampNeg := ⟨_, rfl⟩
    have hW2 : ∀ s, s < 16 → (h.1 ((24 + 18 * kk) + 1) s).toInt = (Wn s : Int) := fun s hs => by rw [eW]; exact hW s hs
    have W4 : ∀ s, s < 16 → Wn s ≤ 40 := fun s hs => by have := wb s hs; have := hW2 s hs; omega
    have W0 : Wn 0 = 0 := by
      have x := hW2 0 (by omega)
      rw [R.2.2.1] at x
      have x' : (0 : Int) = (Wn 0 : Int) := x
      omega
    have n16 : 2 ^ n - 1 < 16 := by have := Nat.pow_le_pow_right (n := 2) (by omega) (show n ≤ 4 by omega); omega
    obtain ⟨V, hV⟩ : ∃ V, Wn (2 ^ n - 1) = V := ⟨_, rfl⟩
    have V4 : V ≤ 40 := by rw [← hV]; exact W4 _ n16
    have ha : (24 + 18 * kk) + 2 ≤ 45 := by omega
    have pN : (V + 1) ^ (n - 1) ≤ 68921 := Nat.le_trans (Nat.pow_le_pow_left (show V + 1 ≤ 41 by omega) (n - 1)) (Nat.le_trans (Nat.pow_le_pow_right (by omega) (show n - 1 ≤ 3 by omega)) (by decide))
    have cN := cntN_le (ok := okb Wn (V + 1) V n) ((V + 1) ^ (n - 1))
    refine ⟨ansW Wn (V + 1) V n z, ?_, fun h1 I1 K1 => ?_⟩
    · refine n_Main_rows ?_
      refine w_Main_rows_0 L (Tc.wc (at1 _)) (Is.k ?_)
      refine w_Main_rows_8 rfl (fun c => nomatch c) (fun _ _ => ?_)
      refine w_Main_rows_15 L (c_standing ⟨A, hn, hW2⟩ L ha W4 W0 (by omega) (by omega) hV rfl) ?_
      rintro _ h15 ⟨rfl, k15, F15⟩
      have L15 := L.keep k15
      have A2 : BargA h15.2 (24 + 18 * kk) := k15.1.symm ▸ A
      have n2 : (h15.1 (24 + 18 * kk) 0).toInt = (n : Int) := by rw [k15.c _ (by omega)]; exact hn
      have tc := t_nat (n := cntN (okb Wn (V + 1) V n) ((V + 1) ^ (n - 1))) (by omega)
      rw [← F15.1] at tc
      refine w_Main_rows_23 (fun q => ?_) (fun q => ?_)
      · have q1 : ¬ z.toInt = -1 := q
        refine w_Main_rows_36 A2 (Tc.wc (s_hasParty A2 _)) (Is.k ?_)
        by_cases w : 0 ≤ z.toInt ∧ z.toInt < (n : Int)
        · have ez := n_of w.1
          rw [if_pos (by rw [n2]; exact w)]
          refine w_Main_rows_41 (fun y => absurd y (by decide)) (fun _ => ?_)
          refine w_Main_rows_44 L15 (fun y => ?_) (fun y => ?_)
          · rw [tc] at y
            have y0 := (fstN_none (ok := okb Wn (V + 1) V n) ((V + 1) ^ (n - 1))).mpr (by omega)
            refine w_Main_rows_66 ?_
            refine w_Main_rows_67 ?_
            exact ⟨by rw [ansW, if_neg q1, if_pos w, y0], k15⟩
          · rw [tc] at y
            refine w_Main_rows_54 L15 (by omega) ?_
            refine w_Main_rows_67 ?_
            refine ⟨?_, k15⟩
            rw [ansW, if_neg q1, if_pos w]
            cases hf : fstN (okb Wn (V + 1) V n) ((V + 1) ^ (n - 1)) with
            | none => have := (fstN_none (ok := okb Wn (V + 1) V n) ((V + 1) ^ (n - 1))).mp hf; omega
            | some p => rw [F15.2 p hf z.toNatClampNeg (by omega)]
        · rw [if_neg (by rw [n2]; exact w)]
          refine w_Main_rows_41 (fun _ => ?_) (fun y => absurd (by decide) y)
          refine w_Main_rows_66 ?_
          refine w_Main_rows_67 ?_
          exact ⟨by rw [ansW, if_neg q1, if_neg w], k15⟩
      · have q1 : z.toInt = -1 := by first | exact q | exact Decidable.not_not.mp q
        refine w_Main_rows_28 L15 ?_
        exact ⟨by rw [ansW, if_pos q1, F15.1], k15⟩
    · have L1 := I1.lay
      have hk1 : (kk : Int) < (h1.1 3 3).toInt := by rw [K1.c 3 (by omega)]; omega
      have is1 := fun (d : Nat) => s_isBargain1 (rod := rod) (d := d) I1 k kk ek hk1
      have R1 := (I1.barg kk hk1).2.1
      refine n_Model_rows ?_
      refine w_Model_rows_0 L1 (is1 _) ?_
      rintro _ h0 ⟨rfl, k0, M0⟩
      have I0 := I1.keep k0
      have L0 := I0.lay
      have K0 := (Keep.rfl (h := h1)).trans k0
      refine w_Model_rows_5 (fun kc5 => absurd kc5 (by decide)) (fun kc5 => ?_)
      have e43 : (h0.1 84 43).toInt = (n : Int) := by rw [M0.2.2.2, (K1.trans K0).c _ (by omega)]; exact hn
      have s43 : (h0.1 84 43 - 1).toInt = (n : Int) - 1 := by
        rw [i32_sub (by rw [e43]; show _ ≤ _ - (1 : Int); omega) (by rw [e43]; show _ - (1 : Int) ≤ _; omega), e43]
        rfl
      refine w_Model_rows_8 L0 (Tc.wc (s_isIn _ _ _ _)) (Is.k ?_)
      refine w_Model_rows_19 (fun kc19 => ?_) (fun kc19 => ?_)
      · try simp only [ite01t, ite01v, Int32.reduceToInt, t_m1, t_m2, t_m1000, Decidable.not_not] at kc19
        have KK := K1.trans K0
        refine (r_rows (W := Wn) (V := V) M0 L0 ha (by rw [KK.c _ (by omega)]; exact hn) (by omega) (by omega) (fun s hs => by rw [KK.c _ (by omega)]; exact hW2 s hs) W0 hV rfl V4 k z (by omega)).imp ?_
        rintro _ f ⟨kf, rfl⟩
        exact ⟨rfl, K0.trans kf⟩
      · try simp only [ite01t, ite01v, Int32.reduceToInt, t_m1, t_m2, t_m1000, Decidable.not_not] at kc19
        refine w_Model_rows_22 ?_
        exact ⟨by rw [ansW, if_neg (by omega), if_neg (by omega)], K0⟩
  · refine ⟨-1, ?_, fun h1 I1 K1 => ?_⟩
    · refine n_Main_rows ?_
      refine w_Main_rows_0 L (Tc.wc (s_bargainAt0 hI hk)) (Is.k ?_)
      refine w_Main_rows_8 rfl (fun _ => ?_) (fun _ c => nomatch c)
      refine w_Main_rows_13 ?_
      exact ⟨rfl, Keep.rfl⟩
    · have L1 := I1.lay
      have hk1 : ¬ (0 ≤ k.toInt ∧ k.toInt < (h1.1 3 3).toInt) := by rw [K1.c 3 (by omega)]; exact hk
      refine n_Model_rows ?_
      refine w_Model_rows_0 L1 (Tc.wc (s_isBargain0 I1 k hk1)) (Is.k ?_)
      refine w_Model_rows_5 (fun kc5 => ?_) (fun kc5 => absurd kc5 (by decide))
      refine w_Model_rows_22 ?_
      exact ⟨rfl, Keep.rfl⟩
end M89
