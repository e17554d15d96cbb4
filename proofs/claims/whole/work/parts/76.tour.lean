/-! OPERATIONS tour, border -/
section M76
variable {rod : Nat → Nat × (Nat → Int32)} {d : Nat} {h : MH} {a l n nb lt D N : Nat} {W V : Nat → Nat → Nat} {S : Nat → Nat}
/-- the best row -/
def Bst (W : Nat → Nat → Nat) (S : Nat → Nat) (n D : Nat) (b : List Nat) : Prop := Vd W n D b ∧ ∀ q, Vd W n D q → Gd S b q
theorem Bst.eq {b c : List Nat} (n6 : n ≤ 6) (n1 : 1 ≤ n) (x : Bst W S n D b) (y : Bst W S n D c) : b = c := Gd.eq n6 n1 x.1 y.1 (x.2 c y.1) (y.2 b x.1)
theorem Bst.rel {b : List Nat} (w : ∀ f t, f < n → t < n → (W f t = V f t ∧ W f t ≤ 45) ∨ (W f t = 1000 ∧ V f t = 9999)) (n1 : 1 ≤ n) (hD : D ≤ 40) (x : Bst V S n D b) : Bst W S n D b := ⟨(Vd.rel w n1 hD).mpr x.1, fun q v => x.2 q ((Vd.rel w n1 hD).mp v)⟩
theorem s_asTold3 (M : MLand h a l) (L : Lay h.2) (ha : a + 9 ≤ 45) : Wc rod (d + 2) 227 [.inr (.inr (.inl (some 84)))] h (fun r h' => r = none ∧ Keep h h' ∧ MLand h' a l ∧ ArrT h' a ∧ ∀ c, c < 88 ∨ 92 ≤ c → h'.1 c = h.1 c) := by
  have B8 := M.1.bu
  refine n_Model_asTold ?_
  refine w_Model_asTold_0 rfl ?_
  refine Wb.upf (R := h.2) (f := h.1) (h.1 a 4).toInt.toNat (fun j L' f => ∃ (x : Int32), L' = [some (.inr (.inr (.inl (some 84)))), some (.inl x)] ∧ x.toInt = (j : Int) ∧ Keep h (f, h.2) ∧ (∀ c, c < 88 ∨ 92 ≤ c → f c = h.1 c) ∧ ∀ b, b < j → f 88 b = h.1 (a + 3) b ∧ f 89 b = h.1 (a + 4) b ∧ f 90 b = h.1 (a + 5) b ∧ f 91 b = 0) ?_ (Nat.zero_le _) ⟨0, rfl, rfl, Keep.rfl, fun _ _ => rfl, fun b hb => absurd hb (Nat.not_lt_zero b)⟩
  rintro j _ f hj ⟨x, rfl, hx, K, eC, arr⟩ ih
  have e84 : ∀ i, f 84 i = h.1 84 i := fun i => by rw [eC 84 (by omega)]
  have ex := n_eq hx
  have M : MLand (f, h.2) a l := M.keep K ha (e84 _) (e84 _) (e84 _) (e84 _)
  have ea : f a 4 = h.1 a 4 := by rw [show f a = h.1 a from K.2 a (by simp only [Scr]; omega)]
  have hB : f 84 14 = h.1 a 4 := (M.2.2.2.2.1).trans ea
  refine w_Model_asTold_2 L (fun kc2 => ?_) (fun kc2 => ?_)
  · try simp only [ite01t, ite01v, Int32.reduceToInt, t_m1, t_m2, t_m1000, Decidable.not_not] at kc2
    simp only [hB] at kc2
    refine w_Model_asTold_59 ?_
    have hj : j = (h.1 a 4).toInt.toNat := by omega
    refine ⟨rfl, K, M, fun b hb => ?_, eC⟩
    have hb : (b : Int) < (f a 4).toInt := hb
    rw [ea] at hb
    have k3 : f (a + 3) = h.1 (a + 3) := K.2 _ (by simp only [Scr]; omega)
    have k4 : f (a + 4) = h.1 (a + 4) := K.2 _ (by simp only [Scr]; omega)
    have k5 : f (a + 5) = h.1 (a + 5) := K.2 _ (by simp only [Scr]; omega)
    have := arr b (by omega)
    show f 88 b = f (a + 3) b ∧ f 89 b = f (a + 4) b ∧ f 90 b = f (a + 5) b ∧ f 91 b = 0
    rw [k3, k4, k5]
    exact this
  · try simp only [ite01t, ite01v, Int32.reduceToInt, t_m1, t_m2, t_m1000, Decidable.not_not] at kc2
    simp only [hB] at kc2
    refine w_Model_asTold_10 L (Tc.wc (s_of M L x 2 j 2 hx rfl (by rw [show (f, h.2).1 a 4 = h.1 a 4 from ea]; omega) (by omega))) (Is.k ?_)
    refine w_Model_asTold_21 (L.1 _ _ rfl) (by first | assumption | omega | (refine ⟨?_, ?_⟩ <;> first | assumption | omega)) ?_
    refine w_Model_asTold_22 L (Tc.wc (s_of (M.si ha (by omega)) L x 3 j 3 hx rfl (by rw [sI_nc (by omega)]; rw [show (f, h.2).1 a 4 = h.1 a 4 from ea]; omega) (by omega))) (Is.k ?_)
    refine w_Model_asTold_33 (L.1 _ _ rfl) (by first | assumption | omega | (refine ⟨?_, ?_⟩ <;> first | assumption | omega)) ?_
    refine w_Model_asTold_34 L (Tc.wc (s_of ((M.si ha (by omega)).si ha (by omega)) L x 4 j 4 hx rfl (by rw [sI_nc (by omega), sI_nc (by omega)]; rw [show (f, h.2).1 a 4 = h.1 a 4 from ea]; omega) (by omega))) (Is.k ?_)
    refine w_Model_asTold_45 (L.1 _ _ rfl) (by first | assumption | omega | (refine ⟨?_, ?_⟩ <;> first | assumption | omega)) ?_
    refine w_Model_asTold_46 L (by first | assumption | omega | (refine ⟨?_, ?_⟩ <;> first | assumption | omega)) ?_
    refine w_Model_asTold_53 rfl ?_
    rw [ex]
    refine ih (by omega) _ _ ⟨_, rfl, t_succ hx (by omega), (((K.si (scrI 88 (by omega))).si (scrI 89 (by omega))).si (scrI 90 (by omega))).si (scrI 91 (by omega)), fun c hc => ?_, fun b hb => ?_⟩
    · rw [sI_cell (by omega), sI_cell (by omega), sI_cell (by omega)]; funext i; rw [if_neg (by omega)]; exact congrFun (eC c hc) i
    · have k3 : f (a + 1 + 2) = h.1 (a + 3) := K.2 _ (by simp only [Scr]; omega)
      have k4 : f (a + 1 + 3) = h.1 (a + 4) := K.2 _ (by simp only [Scr]; omega)
      have k5 : f (a + 1 + 4) = h.1 (a + 5) := K.2 _ (by simp only [Scr]; omega)
      by_cases hbj : b = j
      · subst hbj; simp (disch := omega) only [sI_same, sI_nc, sI_nj, reduceIte, Nat.reduceEqDiff, and_true, and_false, true_and, false_and, and_self, k3, k4, k5]
      · have := arr b (by omega); simp (disch := omega) only [sI_same, sI_nc, sI_nj, reduceIte, Nat.reduceEqDiff, and_true, and_false, true_and, false_and, and_self, hbj]; exact this
theorem r_tours (M : MLand h a l) (L : Lay h.2) (ha : a + 9 ≤ 45) (hn : (h.1 a 0).toInt = (n : Int)) (n6 : n ≤ 6) (n1 : 1 ≤ n) (hb : (h.1 a 4).toInt = (nb : Int)) (n8 : nb ≤ 8) (xd xl xm : Int32) (hd : xd.toInt = (D : Int)) (hl : xl.toInt = (lt : Int)) (hlt : (lt : Int) < (h.1 a 5).toInt) (hp : 0 ≤ (ld h a 7 lt).toInt ∧ (ld h a 7 lt).toInt ≤ 60) : Wc rod (d + 5) 249 [.inr (.inr (.inl (some 84))), .inl xd, .inl xl, .inl xm] h (fun r h' => Keep h h' ∧ MLand h' a l ∧ ∃ b, r = some (.inl (Int32.ofNat ((salS (ld h a) (h.1 a 3 ||| xm) lt nb) 0 + smF (salS (ld h a) (h.1 a 3 ||| xm) lt nb) b))) ∧ (h'.1 84 32 = Int32.ofNat b.length ∧ RowAt h' 94 b) ∧ b.length ≤ 5 ∧ Bst (wayF 9999 (edgF (ld h a) (h.1 a 3 ||| xm)) n) (salS (ld h a) (h.1 a 3 ||| xm) lt nb) n D b) := by
  have hD := M.1.rdok
  have wl := fun f t => way_le (F := 9999) (E := edgF (ld h a) (h.1 a 3 ||| xm)) (edg_le hD) (by omega) n f t
  have sl := salS_le (D := ld h a) (s := h.1 a 3 ||| xm) (lt := lt) (nb := nb) hp.2 n8
  refine n_Model_tours ?_
  refine w_Model_tours_0 L (r_lays M L ha hn n6 xm) ?_
  rintro _ g0 ⟨rfl, K0, M0, s0, T0⟩
  have L0 := L.keep K0
  refine w_Model_tours_5 L0 (s_asTold3 M0 L0 ha) ?_
  rintro _ g ⟨rfl, K1, M1, A1, e1⟩
  have Lg := L0.keep K1
  have K := K0.trans K1
  have TM : TabM g n (h.1 a 3 ||| xm) (wayF 9999 (edgF (ld h a) (h.1 a 3 ||| xm)) n) := ⟨by rw [M1.2.2.2.1, K.c a (by omega)]; exact hn, by rw [e1 84 (by omega)]; exact s0, fun f t hf ht => by rw [e1 92 (by omega)]; exact T0 f t hf ht⟩
  have dl := ldk K ha
  refine w_Model_tours_9 rfl ?_
  refine (tours_loop (D := D) (N := n - 1) (n := n) (S := (salS (ld h a) (h.1 a 3 ||| xm) lt nb)) (V := (wayF 9999 (edgF (ld h a) (h.1 a 3 ||| xm)) n)) Lg (by omega) n6 TM.1 sl (fun f r xn F R r5 hr hxn => ?_)).imp ?_
  · have q := r_tried (rod := rod) (d := d) (D := D) (lt := lt) (F.ml M1 ha) (Lg.keep F.keep) ha (F.ar A1 ha) (nb := nb) (by rw [(K.trans F.keep).c a (by omega)]; exact hb) n8 (F.tm TM) n6 n1 wl R r5 hr xn xd xl hxn hd hl (by rw [(K.trans F.keep).c a (by omega)]; exact hlt) (by rw [ldk (K.trans F.keep) ha]; exact hp)
    rw [ldk (K.trans F.keep) ha] at q
    exact q
  · rintro r f ⟨F, b, e, x1, x2, x3, x4⟩
    exact ⟨K.trans F.keep, F.ml M1 ha, b, e, x1, x3, x2, x4⟩
theorem c_isTour (A : LandA h.2 a) (x y : Int32) : Tc rod (d + 2) 102 [.inr (.inr (.inl (some a))), .inl x, .inl y] h (some (.inl (if (0 ≤ x.toInt ∧ x.toInt ≤ 40) ∧ 0 ≤ y.toInt ∧ y.toInt < (h.1 a 5).toInt then 1 else 0))) h := by
  apply Wc.tc
  refine n_Main_isTour ?_
  refine w_Main_isTour_0 (fun kc0 => ?_) (fun kc0 => ?_)
  · try simp only [ite01t, ite01v, Int32.reduceToInt, t_m1, t_m2, t_m1000, Decidable.not_not] at kc0
    refine w_Main_isTour_22 ?_
    refine w_Main_isTour_23 (by first | exact Or.inl rfl | exact Or.inr rfl | exact or01 | assumption) ?_
    exact ⟨by first | (exfalso; omega) | rw [if_pos (by omega)] | rw [if_neg (by omega)], rfl⟩
  · try simp only [ite01t, ite01v, Int32.reduceToInt, t_m1, t_m2, t_m1000, Decidable.not_not] at kc0
    refine w_Main_isTour_4 (fun kc4 => ?_) (fun kc4 => ?_)
    · try simp only [ite01t, ite01v, Int32.reduceToInt, t_m1, t_m2, t_m1000, Decidable.not_not] at kc4
      refine w_Main_isTour_22 ?_
      refine w_Main_isTour_23 (by first | exact Or.inl rfl | exact Or.inr rfl | exact or01 | assumption) ?_
      exact ⟨by first | (exfalso; omega) | rw [if_pos (by omega)] | rw [if_neg (by omega)], rfl⟩
    · try simp only [ite01t, ite01v, Int32.reduceToInt, t_m1, t_m2, t_m1000, Decidable.not_not] at kc4
      refine w_Main_isTour_10 A (Tc.wc (s_hasLetter A _)) (Is.k ?_)
      refine w_Main_isTour_15 (fun kc15 => ?_) (fun kc15 => ?_)
      · try simp only [ite01t, ite01v, Int32.reduceToInt, t_m1, t_m2, t_m1000, Decidable.not_not] at kc15
        refine w_Main_isTour_22 ?_
        refine w_Main_isTour_23 (by first | exact Or.inl rfl | exact Or.inr rfl | exact or01 | assumption) ?_
        exact ⟨by first | (exfalso; omega) | rw [if_pos (by omega)] | rw [if_neg (by omega)], rfl⟩
      · try simp only [ite01t, ite01v, Int32.reduceToInt, t_m1, t_m2, t_m1000, Decidable.not_not] at kc15
        refine w_Main_isTour_18 ?_
        refine w_Main_isTour_23 (by first | exact Or.inl rfl | exact Or.inr rfl | exact or01 | assumption) ?_
        exact ⟨by first | (exfalso; omega) | rw [if_pos (by omega)] | rw [if_neg (by omega)], rfl⟩
theorem c_townOfRow (L : Lay h.2) (x : Int32) : Tc rod (d + 1) 107 [.inr (.inr (.inl (some 70))), .inl x] h (some (.inl (if 0 ≤ x.toInt ∧ x.toInt < (h.1 70 7).toInt ∧ x.toInt < 6 then h.1 74 x.toNatClampNeg else -1))) h := by
  apply Wc.tc
  refine n_Ways_townOfRow ?_
  refine w_Ways_townOfRow_0 (fun kc0 => ?_) (fun kc0 => ?_)
  · try simp only [ite01t, ite01v, Int32.reduceToInt, t_m1, t_m2, t_m1000, Decidable.not_not] at kc0
    refine w_Ways_townOfRow_27 ?_
    refine w_Ways_townOfRow_28 ?_
    exact ⟨by first | (exfalso; omega) | rw [if_pos (by omega)] | rw [if_neg (by omega)], rfl⟩
  · try simp only [ite01t, ite01v, Int32.reduceToInt, t_m1, t_m2, t_m1000, Decidable.not_not] at kc0
    refine w_Ways_townOfRow_4 L (fun kc4 => ?_) (fun kc4 => ?_)
    · try simp only [ite01t, ite01v, Int32.reduceToInt, t_m1, t_m2, t_m1000, Decidable.not_not] at kc4
      refine w_Ways_townOfRow_27 ?_
      refine w_Ways_townOfRow_28 ?_
      exact ⟨by first | (exfalso; omega) | rw [if_pos (by omega)] | rw [if_neg (by omega)], rfl⟩
    · try simp only [ite01t, ite01v, Int32.reduceToInt, t_m1, t_m2, t_m1000, Decidable.not_not] at kc4
      refine w_Ways_townOfRow_12 (fun kc12 => ?_) (fun kc12 => ?_)
      · try simp only [ite01t, ite01v, Int32.reduceToInt, t_m1, t_m2, t_m1000, Decidable.not_not] at kc12
        refine w_Ways_townOfRow_27 ?_
        refine w_Ways_townOfRow_28 ?_
        exact ⟨by first | (exfalso; omega) | rw [if_pos (by omega)] | rw [if_neg (by omega)], rfl⟩
      · try simp only [ite01t, ite01v, Int32.reduceToInt, t_m1, t_m2, t_m1000, Decidable.not_not] at kc12
        refine w_Ways_townOfRow_18 L (by first | assumption | omega | (refine ⟨?_, ?_⟩ <;> first | assumption | omega)) ?_
        refine w_Ways_townOfRow_28 ?_
        exact ⟨by first | (exfalso; omega) | rw [if_pos (by omega)] | rw [if_neg (by omega)], rfl⟩
theorem LandRel.pr (r : LandRel h a l) {t : Nat} (ht : (t : Int) < (h.1 a 5).toInt) : 0 ≤ (ld h a 7 t).toInt ∧ (ld h a 7 t).toInt ≤ 60 := (r.2.2.2.2.2.2.2.2.2.2.2.2.2.1 t ht).2.2.2
theorem op_tour (k x y z : Int32) : OpI INV rod 101 248 [k, x, y, z] := by
  refine OpI.mk fun h hI => ?_
  have L := hI.lay
  by_cases hk : 0 ≤ k.toInt ∧ k.toInt < (h.1 3 0).toInt
  · obtain ⟨A, R, ha, hk2⟩ := hI.landK hk
    have ek := n_of hk.1
    have at1 := fun (d : Nat) => s_landAt1 (rod := rod) (d := d) hI hk
    generalize k.toNatClampNeg = kk at ek hk2 A R ha at1
    have tw := R.tw
    have bu := R.bu
    have le := R.le
    obtain ⟨n, hn⟩ := Int.eq_ofNat_of_zero_le (show 0 ≤ (h.1 (8 + 18 * kk) 0).toInt by omega)
    obtain ⟨nb, hnb⟩ := Int.eq_ofNat_of_zero_le bu.1
    have hD := R.rdok
    by_cases ok : (0 ≤ x.toInt ∧ x.toInt ≤ 40) ∧ 0 ≤ y.toInt ∧ y.toInt < (h.1 (8 + 18 * kk) 5).toInt
    · have ex := n_of ok.1.1
      have ey := n_of ok.2.1
      have hlt : ((y.toNatClampNeg : Nat) : Int) < (h.1 (8 + 18 * kk) 5).toInt := by omega
      have hp := R.pr hlt
      have ce := fun (d : Nat) => c_earn (rod := rod) (d := d) L A ha hn (by omega) (by omega) hD hnb (by omega) (h.1 (8 + 18 * kk) 3) x y ex (by omega) ey hlt (by omega) hp
      obtain ⟨-, -, -, -, b, -, -, vb, gb⟩ := ce 0
      have bb : Bst (wayF 1000 (edgF (ld h (8 + 18 * kk)) (h.1 (8 + 18 * kk) 3)) n) (salS (ld h (8 + 18 * kk)) (h.1 (8 + 18 * kk) 3) y.toNatClampNeg nb) n x.toNatClampNeg b := ⟨vb, gb⟩
      have l5 := vb.len (show 1 ≤ n by omega)
      refine ⟨if z.toInt = -1 then Int32.ofNat ((salS (ld h (8 + 18 * kk)) (h.1 (8 + 18 * kk) 3) y.toNatClampNeg nb) 0 + smF (salS (ld h (8 + 18 * kk)) (h.1 (8 + 18 * kk) 3) y.toNatClampNeg nb) b) else if z.toInt = -2 then Int32.ofNat b.length else if 0 ≤ z.toInt ∧ z.toInt < (b.length : Int) then Int32.ofNat (b.getD z.toNatClampNeg 0) else -1, ?_, fun h1 I1 K1 => ?_⟩
      · refine n_Main_tour ?_
        refine w_Main_tour_0 L (Tc.wc (at1 _)) (Is.k ?_)
        refine w_Main_tour_8 rfl (fun c => nomatch c) (fun _ _ => ?_)
        refine w_Main_tour_15 (Tc.wc (c_isTour A x y)) (Is.k ?_)
        refine w_Main_tour_22 (fun kc22 => ?_) (fun kc22 => absurd kc22 (by rw [if_pos ok]; decide))
        try simp only [ite01t, ite01v, Int32.reduceToInt, t_m1, t_m2, t_m1000, Decidable.not_not] at kc22
        refine w_Main_tour_27 L A (ce _) ?_
        rintro _ h27 ⟨k27, b2, rfl, B27, v2, g2⟩
        have be : b2 = b := Bst.eq (by omega) (by omega) ⟨v2, g2⟩ bb
        subst be
        have L27 := L.keep k27
        have t7 := t_nat (n := b2.length) (by omega)
        rw [← B27.2.1] at t7
        refine w_Main_tour_43 rfl (fun kc43 => ?_) (fun kc43 => ?_)
        · try simp only [ite01t, ite01v, Int32.reduceToInt, t_m1, t_m2, t_m1000, Decidable.not_not] at kc43
          refine w_Main_tour_54 (fun kc54 => ?_) (fun kc54 => ?_)
          · try simp only [ite01t, ite01v, Int32.reduceToInt, t_m1, t_m2, t_m1000, Decidable.not_not] at kc54
            refine w_Main_tour_71 L27 (Tc.wc (c_townOfRow L27 z)) (Is.k ?_)
            refine w_Main_tour_80 ?_
            refine ⟨?_, k27⟩
            first
            | (rw [if_neg (c := z.toInt = -1) (by omega), if_pos (c := z.toInt = -2) (by omega), B27.2.1]; done)
            | (rw [if_neg (c := z.toInt = -1) (by omega), if_neg (c := z.toInt = -2) (by omega)]
               by_cases w : 0 ≤ z.toInt ∧ z.toInt < (b2.length : Int)
               · rw [if_pos (c := 0 ≤ z.toInt ∧ z.toInt < (h27.1 70 7).toInt ∧ z.toInt < 6) (by omega), if_pos w]
                 have ez := n_of w.1
                 exact congrArg (fun q => some (Sum.inl q)) (B27.2.2 z.toNatClampNeg (b2.getD z.toNatClampNeg 0) (by rw [List.getD_eq_getElem?_getD, List.getElem?_eq_getElem (by omega)]; rfl))
               · rw [if_neg (c := 0 ≤ z.toInt ∧ z.toInt < (h27.1 70 7).toInt ∧ z.toInt < 6) (by omega), if_neg w])
          · try simp only [ite01t, ite01v, Int32.reduceToInt, t_m1, t_m2, t_m1000, Decidable.not_not] at kc54
            refine w_Main_tour_61 L27 ?_
            refine w_Main_tour_80 ?_
            refine ⟨?_, k27⟩
            first
            | (rw [if_neg (c := z.toInt = -1) (by omega), if_pos (c := z.toInt = -2) (by omega), B27.2.1]; done)
            | (rw [if_neg (c := z.toInt = -1) (by omega), if_neg (c := z.toInt = -2) (by omega)]
               by_cases w : 0 ≤ z.toInt ∧ z.toInt < (b2.length : Int)
               · rw [if_pos (c := 0 ≤ z.toInt ∧ z.toInt < (h27.1 70 7).toInt ∧ z.toInt < 6) (by omega), if_pos w]
                 have ez := n_of w.1
                 exact congrArg (fun q => some (Sum.inl q)) (B27.2.2 z.toNatClampNeg (b2.getD z.toNatClampNeg 0) (by rw [List.getD_eq_getElem?_getD, List.getElem?_eq_getElem (by omega)]; rfl))
               · rw [if_neg (c := 0 ≤ z.toInt ∧ z.toInt < (h27.1 70 7).toInt ∧ z.toInt < 6) (by omega), if_neg w])
        · try simp only [ite01t, ite01v, Int32.reduceToInt, t_m1, t_m2, t_m1000, Decidable.not_not] at kc43
          refine w_Main_tour_51 ?_
          exact ⟨by rw [if_pos (by omega)], k27⟩
      · have L1 := I1.lay
        have hk1 : (kk : Int) < (h1.1 3 0).toInt := by rw [K1.c 3 (by omega)]; omega
        have is1 := fun (d : Nat) => s_isLand1 (rod := rod) (d := d) I1 k kk ek hk1
        refine n_Model_tour ?_
        refine w_Model_tour_0 L1 (is1 _) ?_
        rintro _ h0 ⟨rfl, k0, M0⟩
        have I0 := I1.keep k0
        have L0 := I0.lay
        have K0 := (Keep.rfl (h := h1)).trans k0
        have e0 : h0.1 (8 + 18 * kk) = h.1 (8 + 18 * kk) := (K1.trans K0).c _ (by omega)
        refine w_Model_tour_5 (fun kc5 => absurd kc5 (by decide)) (fun kc5 => ?_)
        refine w_Model_tour_8 (Tc.wc (s_isIn _ _ _ _)) (Is.k ?_)
        refine w_Model_tour_15 (fun kc15 => ?_) (fun kc15 => ?_)
        · (try simp only [ite01t, ite01v, Int32.reduceToInt, t_m1, t_m2, t_m1000, Decidable.not_not] at kc15); (try simp only [e0] at kc15)
          refine w_Model_tour_33 ?_
          refine ⟨?_, K0⟩
          first
          | (exfalso; omega)
          | (rw [if_neg (by omega), if_neg (by omega), if_neg (by omega)]; done)
        · (try simp only [ite01t, ite01v, Int32.reduceToInt, t_m1, t_m2, t_m1000, Decidable.not_not] at kc15); (try simp only [e0] at kc15)
          refine w_Model_tour_18 L0 (Tc.wc (s_misSheet M0 L0 _)) (Is.k ?_)
          refine w_Model_tour_23 (fun kc23 => ?_) (fun kc23 => ?_)
          · (try simp only [ite01t, ite01v, Int32.reduceToInt, t_m1, t_m2, t_m1000, Decidable.not_not] at kc23); (try simp only [e0] at kc23)
            refine w_Model_tour_33 ?_
            refine ⟨?_, K0⟩
            first
            | (exfalso; omega)
            | (rw [if_neg (by omega), if_neg (by omega), if_neg (by omega)]; done)
          · (try simp only [ite01t, ite01v, Int32.reduceToInt, t_m1, t_m2, t_m1000, Decidable.not_not] at kc23); (try simp only [e0] at kc23)
            refine w_Model_tour_26 (fun kc26 => ?_) (fun kc26 => ?_)
            · (try simp only [ite01t, ite01v, Int32.reduceToInt, t_m1, t_m2, t_m1000, Decidable.not_not] at kc26); (try simp only [e0] at kc26)
              refine w_Model_tour_35 L0 (r_tours (nb := nb) (lt := y.toNatClampNeg) (D := x.toNatClampNeg) M0 L0 ha (by rw [(K1.trans K0).c _ (by omega)]; exact hn) (by omega) (by omega) (by rw [(K1.trans K0).c _ (by omega)]; exact hnb) (by omega) x y 0 ex ey (by rw [(K1.trans K0).c _ (by omega)]; exact hlt) (by rw [ldk (K1.trans K0) ha]; exact hp)) ?_
              rintro _ h35 ⟨k35, M35, b2, rfl, r35, l2, B35⟩
              rw [ldk (K1.trans K0) ha, (K1.trans K0).c _ (by omega), Int32.or_zero] at B35
              rw [ldk (K1.trans K0) ha, (K1.trans K0).c _ (by omega), Int32.or_zero]
              have I35 := I0.keep k35
              have L35 := I35.lay
              have K35 := K0.trans k35
              have be : b2 = b := Bst.eq (by omega) (by omega) (B35.rel (fun f t q1 q2 => way_fin (edg_le hD) (by omega) q1 q2) (by omega) (by omega)) bb
              subst be
              have t32 := t_nat (n := b2.length) (by omega)
              rw [← r35.1] at t32
              refine w_Model_tour_42 (fun kc42 => ?_) (fun kc42 => ?_)
              · (try simp only [ite01t, ite01v, Int32.reduceToInt, t_m1, t_m2, t_m1000, Decidable.not_not] at kc42); (try simp only [e0] at kc42)
                refine w_Model_tour_55 (fun kc55 => ?_) (fun kc55 => ?_)
                · (try simp only [ite01t, ite01v, Int32.reduceToInt, t_m1, t_m2, t_m1000, Decidable.not_not] at kc55); (try simp only [e0] at kc55)
                  refine w_Model_tour_69 L35 (fun kc69 => ?_) (fun kc69 => ?_)
                  · (try simp only [ite01t, ite01v, Int32.reduceToInt, t_m1, t_m2, t_m1000, Decidable.not_not] at kc69); (try simp only [e0] at kc69)
                    refine w_Model_tour_88 ?_
                    refine w_Model_tour_89 ?_
                    refine ⟨?_, K35⟩
                    first
                    | (rw [if_pos (by omega)]; done)
                    | (rw [if_neg (by omega), if_pos (by omega), r35.1]; done)
                    | (rw [if_neg (by omega), if_neg (by omega), if_neg (by omega)]; done)
                    | (rw [if_neg (by omega), if_neg (by omega), if_pos (by omega)]
                       have ez := n_of (x := z) (by omega)
                       exact congrArg (fun q => some (Sum.inl q)) (r35.2 z.toNatClampNeg (b2.getD z.toNatClampNeg 0) (by rw [List.getD_eq_getElem?_getD, List.getElem?_eq_getElem (by omega)]; rfl)))
                  · (try simp only [ite01t, ite01v, Int32.reduceToInt, t_m1, t_m2, t_m1000, Decidable.not_not] at kc69); (try simp only [e0] at kc69)
                    refine w_Model_tour_78 L35 (by omega) ?_
                    refine w_Model_tour_89 ?_
                    refine ⟨?_, K35⟩
                    first
                    | (rw [if_pos (by omega)]; done)
                    | (rw [if_neg (by omega), if_pos (by omega), r35.1]; done)
                    | (rw [if_neg (by omega), if_neg (by omega), if_neg (by omega)]; done)
                    | (rw [if_neg (by omega), if_neg (by omega), if_pos (by omega)]
                       have ez := n_of (x := z) (by omega)
                       exact congrArg (fun q => some (Sum.inl q)) (r35.2 z.toNatClampNeg (b2.getD z.toNatClampNeg 0) (by rw [List.getD_eq_getElem?_getD, List.getElem?_eq_getElem (by omega)]; rfl)))
                · (try simp only [ite01t, ite01v, Int32.reduceToInt, t_m1, t_m2, t_m1000, Decidable.not_not] at kc55); (try simp only [e0] at kc55)
                  refine w_Model_tour_62 L35 ?_
                  refine w_Model_tour_89 ?_
                  refine ⟨?_, K35⟩
                  first
                  | (rw [if_pos (by omega)]; done)
                  | (rw [if_neg (by omega), if_pos (by omega), r35.1]; done)
                  | (rw [if_neg (by omega), if_neg (by omega), if_neg (by omega)]; done)
                  | (rw [if_neg (by omega), if_neg (by omega), if_pos (by omega)]
                     have ez := n_of (x := z) (by omega)
                     exact congrArg (fun q => some (Sum.inl q)) (r35.2 z.toNatClampNeg (b2.getD z.toNatClampNeg 0) (by rw [List.getD_eq_getElem?_getD, List.getElem?_eq_getElem (by omega)]; rfl)))
              · (try simp only [ite01t, ite01v, Int32.reduceToInt, t_m1, t_m2, t_m1000, Decidable.not_not] at kc42); (try simp only [e0] at kc42)
                refine w_Model_tour_50 ?_
                refine w_Model_tour_89 ?_
                refine ⟨?_, K35⟩
                first
                | (rw [if_pos (by omega)]; done)
                | (rw [if_neg (by omega), if_pos (by omega), r35.1]; done)
                | (rw [if_neg (by omega), if_neg (by omega), if_neg (by omega)]; done)
                | (rw [if_neg (by omega), if_neg (by omega), if_pos (by omega)]
                   have ez := n_of (x := z) (by omega)
                   exact congrArg (fun q => some (Sum.inl q)) (r35.2 z.toNatClampNeg (b2.getD z.toNatClampNeg 0) (by rw [List.getD_eq_getElem?_getD, List.getElem?_eq_getElem (by omega)]; rfl)))
            · (try simp only [ite01t, ite01v, Int32.reduceToInt, t_m1, t_m2, t_m1000, Decidable.not_not] at kc26); (try simp only [e0] at kc26)
              refine w_Model_tour_33 ?_
              refine ⟨?_, K0⟩
              first
              | (exfalso; omega)
              | (rw [if_neg (by omega), if_neg (by omega), if_neg (by omega)]; done)
    · refine ⟨-1, ?_, fun h1 I1 K1 => ?_⟩
      · refine n_Main_tour ?_
        refine w_Main_tour_0 L (Tc.wc (at1 _)) (Is.k ?_)
        refine w_Main_tour_8 rfl (fun c => nomatch c) (fun _ _ => ?_)
        refine w_Main_tour_15 (Tc.wc (c_isTour A x y)) (Is.k ?_)
        refine w_Main_tour_22 (fun kc22 => absurd (by rw [if_neg ok]; rfl) kc22) (fun kc22 => ?_)
        try simp only [ite01t, ite01v, Int32.reduceToInt, t_m1, t_m2, t_m1000, Decidable.not_not] at kc22
        refine w_Main_tour_25 ?_
        exact ⟨rfl, Keep.rfl⟩
      · have L1 := I1.lay
        have hk1 : (kk : Int) < (h1.1 3 0).toInt := by rw [K1.c 3 (by omega)]; omega
        have is1 := fun (d : Nat) => s_isLand1 (rod := rod) (d := d) I1 k kk ek hk1
        refine n_Model_tour ?_
        refine w_Model_tour_0 L1 (is1 _) ?_
        rintro _ h0 ⟨rfl, k0, M0⟩
        have I0 := I1.keep k0
        have L0 := I0.lay
        have K0 := (Keep.rfl (h := h1)).trans k0
        have e0 : h0.1 (8 + 18 * kk) = h.1 (8 + 18 * kk) := (K1.trans K0).c _ (by omega)
        refine w_Model_tour_5 (fun kc5 => absurd kc5 (by decide)) (fun kc5 => ?_)
        refine w_Model_tour_8 (Tc.wc (s_isIn _ _ _ _)) (Is.k ?_)
        refine w_Model_tour_15 (fun kc15 => ?_) (fun kc15 => ?_)
        · (try simp only [ite01t, ite01v, Int32.reduceToInt, t_m1, t_m2, t_m1000, Decidable.not_not] at kc15); (try simp only [e0] at kc15)
          refine w_Model_tour_33 ?_
          exact ⟨rfl, K0⟩
        · (try simp only [ite01t, ite01v, Int32.reduceToInt, t_m1, t_m2, t_m1000, Decidable.not_not] at kc15); (try simp only [e0] at kc15)
          refine w_Model_tour_18 L0 (Tc.wc (s_misSheet M0 L0 _)) (Is.k ?_)
          refine w_Model_tour_23 (fun kc23 => ?_) (fun kc23 => ?_)
          · (try simp only [ite01t, ite01v, Int32.reduceToInt, t_m1, t_m2, t_m1000, Decidable.not_not] at kc23); (try simp only [e0] at kc23)
            refine w_Model_tour_33 ?_
            exact ⟨rfl, K0⟩
          · (try simp only [ite01t, ite01v, Int32.reduceToInt, t_m1, t_m2, t_m1000, Decidable.not_not] at kc23); (try simp only [e0] at kc23)
            exfalso
            apply ok
            omega
  · refine ⟨-1, ?_, fun h1 I1 K1 => ?_⟩
    · refine n_Main_tour ?_
      refine w_Main_tour_0 L (Tc.wc (s_landAt0 hI hk)) (Is.k ?_)
      refine w_Main_tour_8 rfl (fun _ => ?_) (fun _ c => nomatch c)
      refine w_Main_tour_25 ?_
      exact ⟨rfl, Keep.rfl⟩
    · have L1 := I1.lay
      have hk1 : ¬ (0 ≤ k.toInt ∧ k.toInt < (h1.1 3 0).toInt) := by rw [K1.c 3 (by omega)]; exact hk
      refine n_Model_tour ?_
      refine w_Model_tour_0 L1 (Tc.wc (s_isLand0 I1 k hk1)) (Is.k ?_)
      refine w_Model_tour_5 (fun kc5 => ?_) (fun kc5 => absurd kc5 (by decide))
      refine w_Model_tour_33 ?_
      exact ⟨rfl, Keep.rfl⟩
end M76
