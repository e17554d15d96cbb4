/-! THE REFERENCE'S PURSE -/
section M82
variable {rod : Nat → Nat × (Nat → Int32)} {d : Nat} {h : MH} {a l m O Mn : Nat} {Y C : Nat → Nat}
theorem t_div10 {x : Int32} {c : Nat} (hx : x.toInt = (c : Int)) : (x / 10).toInt = ((c / 10 : Nat) : Int) := by
  rw [i32_div (by decide), hx]
  rfl
theorem t_mod10 {x : Int32} {c : Nat} (hx : x.toInt = (c : Int)) (hc : c < 2147483648) : (x - x / 10 * 10).toInt = ((c % 10 : Nat) : Int) := by
  have a1 := n_mul (t_div10 hx) (show (10 : Int32).toInt = ((10 : Nat) : Int) from rfl) (by omega)
  have a2 := n_sub hx a1 hc (by omega)
  rw [a2]
  omega
theorem t_pre {x : Int32} {c : Nat} (hx : x.toInt = ((c + 1 : Nat) : Int) - 1) (hc : c < 2147483647) : (x + (-1)).toInt = ((c : Nat) : Int) - 1 := by
  have e : ((-1 : Int32)).toInt = -1 := rfl
  rw [i32_add (by rw [e]; omega) (by rw [e]; omega), e]
  omega
theorem minA {v w : Int32} {y : Nat} (h5 : v.toInt = (y : Int)) (h3 : w.toInt = (O : Int)) : (if v < w then v else w).toInt = ((min y O : Nat) : Int) := by
  by_cases q : v < w
  · rw [if_pos q, h5]
    have := Int32.lt_iff_toInt_lt.mp q
    omega
  · rw [if_neg q, h3]
    have : ¬ v.toInt < w.toInt := fun u => q (Int32.lt_iff_toInt_lt.mpr u)
    omega
/-- what this row comes to -/
theorem holds_sum {Q : Option MV → MH → Prop} (M : MLand h a l) (L : Lay h.2) (E : (h.1 a 5).toInt = (m : Int) ∧ ∀ t, t < m → (h.1 (a + 6) t).toInt = (Y t : Int) ∧ (h.1 (a + 7) t).toInt = (C t : Int)) (hy : ∀ t, Y t ≤ 60) (hc : ∀ t, C t ≤ 60) (m4 : m ≤ 4) {c : Nat} (cl : c < 10000) {u1 u2 : Option MV} {x3 x4 x7 : Int32} (h4 : x4.toInt = (c : Int)) (h7 : x7.toInt = (m : Int) - 1)
    (K : ∀ (z4 z5 z6 z7 : Int32), z5.toInt = (sD Y m c : Int) → z6.toInt = (sD C m c : Int) → Wb rod (d + 1) B_Model_holds 111 [some (.inr (.inr (.inl (some 84)))), u1, u2, some (.inl x3), some (.inl z4), some (.inl z5), some (.inl z6), some (.inl z7)] [] h Q) : Wb rod (d + 1) B_Model_holds 57 [some (.inr (.inr (.inl (some 84)))), u1, u2, some (.inl x3), some (.inl x4), some (.inl 0), some (.inl 0), some (.inl x7)] [] h Q := by
  have yl := sD_le hy m c
  have ccl := sD_le hc m c
  refine Wb.upc m (fun k L' => ∃ (z4 z5 z6 z7 : Int32) (y w : Nat), L' = [some (.inr (.inr (.inl (some 84)))), u1, u2, some (.inl x3), some (.inl z4), some (.inl z5), some (.inl z6), some (.inl z7)] ∧ z4.toInt = ((c / 10 ^ k : Nat) : Int) ∧ z5.toInt = (y : Int) ∧ z6.toInt = (w : Int) ∧ z7.toInt = ((m - k : Nat) : Int) - 1 ∧ y + sD Y (m - k) (c / 10 ^ k) = sD Y m c ∧ w + sD C (m - k) (c / 10 ^ k) = sD C m c) ?_ (Nat.zero_le _) ⟨x4, 0, 0, x7, 0, 0, rfl, by rw [Nat.pow_zero, Nat.div_one]; exact h4, rfl, rfl, by rw [h7]; omega, by rw [Nat.pow_zero, Nat.div_one, Nat.zero_add]; rfl, by rw [Nat.pow_zero, Nat.div_one, Nat.zero_add]; rfl⟩
  rintro k _ hk ⟨z4, z5, z6, z7, y, w, rfl, e4, e5, e6, e7, ey, ew⟩ ih
  refine w_Model_holds_57 (fun q => ?_) (fun q => ?_)
  · have km : m - k = 0 := by omega
    rw [km] at ey ew
    rw [sD, Nat.add_zero] at ey ew
    exact K _ _ _ _ (by rw [e5, ey]) (by rw [e6, ew])
  · obtain ⟨i, hi⟩ : ∃ i, m - k = i + 1 := ⟨m - k - 1, by omega⟩
    rw [hi, sD] at ey ew
    rw [hi] at e7
    have i7 : z7.toInt = (i : Int) := by omega
    have ik : m - (k + 1) = i := by omega
    have Ei := E.2 i (by omega)
    have kc1 : c / 10 ^ k ≤ c := Nat.div_le_self _ _
    have md := t_mod10 e4 (by omega)
    have b1 : c / 10 ^ k % 10 * Y i ≤ 9 * 60 := Nat.mul_le_mul (by omega) (hy i)
    have b2 : c / 10 ^ k % 10 * C i ≤ 9 * 60 := Nat.mul_le_mul (by omega) (hc i)
    rw [div10'] at ey ew
    refine w_Model_holds_62 L (Tc.wc (s_ofL0 M L z7 i i7 (by omega))) (Is.k ?_)
    refine w_Model_holds_76 L (Tc.wc (s_ofL1 M L z7 i i7 (by omega))) (Is.k ?_)
    refine w_Model_holds_94 (by rfl) (by rfl) ?_
    refine ih (by omega) _ ⟨_, _, _, _, y + c / 10 ^ k % 10 * Y i, w + c / 10 ^ k % 10 * C i, rfl, by rw [← div10']; exact t_div10 e4, n_add e5 (n_mul md Ei.1 (by omega)) (by omega), n_add e6 (n_mul md Ei.2 (by omega)) (by omega), by rw [ik]; exact t_pre e7 (by omega), by rw [ik]; omega, by rw [ik]; omega⟩
def BestM (h : MH) (Y C : Nat → Nat) (O m b : Nat) : Prop := h.1 84 35 = Int32.ofNat (min (sD Y m b) O) ∧ h.1 84 36 = Int32.ofNat (sD C m b) ∧ ∀ t, t < m → h.1 95 t = Int32.ofNat (dgt m b t)
def BeM (h : MH) (Y C : Nat → Nat) (O m : Nat) (B : Option Nat) : Prop := match B with
  | none => h.1 84 35 = -1
  | some b => BestM h Y C O m b
theorem r_holds (M : MLand h a l) (L : Lay h.2) (ha : a + 9 ≤ 45) (E : (h.1 a 5).toInt = (m : Int) ∧ ∀ t, t < m → (h.1 (a + 6) t).toInt = (Y t : Int) ∧ (h.1 (a + 7) t).toInt = (C t : Int)) (hy : ∀ t, Y t ≤ 60) (hc : ∀ t, C t ≤ 60) (m4 : m ≤ 4) (x1 : Int32) {b : Nat} (h1 : x1.toInt = (b : Int)) (hb : (b : Int) < (h.1 a 4).toInt) (hO : (h.1 (a + 3) b).toInt = (O : Int)) (hMn : (h.1 (a + 4) b).toInt = (Mn : Int)) (O9 : O ≤ 99) : Wc rod (d + 2) 267 [.inr (.inr (.inl (some 84))), .inl x1] h (fun r h' => r = none ∧ Keep h h' ∧ MLand h' a l ∧ ∃ B, BeM h' Y C O m B ∧ BsP Y C O Mn m B) := by
  have e15 := M.2.2.2.2.2
  have p4 : ∀ i, i ≤ 4 → 10 ^ i ≤ 10000 := fun i hi => Nat.le_trans (Nat.pow_le_pow_right (by omega) hi) (by decide)
  refine n_Model_holds ?_
  refine w_Model_holds_0 rfl ?_
  refine Wb.upc m (fun i L' => ∃ (y : Int32), L' = [some (.inr (.inr (.inl (some 84)))), some (.inl x1), some (.inl (Int32.ofNat (10 ^ i))), some (.inl y), none, none, none, none] ∧ y.toInt = (i : Int)) ?_ (Nat.zero_le _) ⟨0, rfl, rfl⟩
  rintro i _ hi ⟨y, rfl, hyi⟩ ihi
  refine w_Model_holds_4 L (fun q => ?_) (fun q => ?_)
  · rw [e15, E.1, hyi] at q
    have im : i = m := by omega
    subst im
    clear ihi
    have p5 := p4 i m4
    have tp := t_nat (n := 10 ^ i) (by omega)
    refine w_Model_holds_23 L ?_
    refine w_Model_holds_28 (h := sI h 84 35 (-1)) L ?_
    refine w_Model_holds_33 rfl ?_
    refine Wb.uph (10 ^ i) (fun c L' g => ∃ (z3 : Int32) (B : Option Nat) (u4 u5 u6 u7 : Option MV), L' = [some (.inr (.inr (.inl (some 84)))), some (.inl x1), some (.inl (Int32.ofNat (10 ^ i))), some (.inl z3), u4, u5, u6, u7] ∧ z3.toInt = (c : Int) ∧ Keep h g ∧ MLand g a l ∧ BeM g Y C O i B ∧ (∀ b, B = some b → Vk C Mn i b ∧ b < c) ∧ ∀ F, F < c → Vk C Mn i F → ∃ b, B = some b ∧ Gk Y C O i b F) ?_ (Nat.zero_le _) ⟨0, none, _, _, _, _, rfl, rfl, (Keep.rfl.si (scrI 84 (by omega))).si (scrI 84 (by omega)), (M.si84 ha (by omega)).si84 ha (by omega), by show (sI (sI h 84 35 (-1)) 84 36 0).1 84 35 = -1; rw [sI_nj (by omega), sI_same], fun b e => (nomatch e), fun F hF => absurd hF (by omega)⟩
    rintro c _ g hcc ⟨z3, B, u4, u5, u6, u7, rfl, h3, K, Mg, Bg, bv, gF⟩ ih
    have Lg := L.keep K
    have ea : g.1 a = h.1 a := K.c a (by omega)
    have Eg : (g.1 a 5).toInt = (i : Int) ∧ ∀ t, t < i → (g.1 (a + 6) t).toInt = (Y t : Int) ∧ (g.1 (a + 7) t).toInt = (C t : Int) := ⟨by rw [ea]; exact E.1, fun t ht => by rw [K.c (a + 6) (by omega), K.c (a + 7) (by omega)]; exact E.2 t ht⟩
    have g15 : (g.1 84 15).toInt = (i : Int) := by rw [Mg.2.2.2.2.2]; exact Eg.1
    refine w_Model_holds_35 (fun q => ?_) (fun q => ?_)
    · rw [tp, h3] at q
      refine w_Model_holds_227 ?_
      exact ⟨rfl, K, Mg, B, Bg, fun b e => (bv b e).1, fun F v => gF F (by have := v.1; omega) v⟩
    rw [tp, h3] at q
    have cl : c < 10 ^ i := by omega
    have s7 : (g.1 84 15 - 1).toInt = (i : Int) - 1 := by
      rw [i32_sub (by rw [g15]; show _ ≤ _ - (1 : Int); omega) (by rw [g15]; show _ - (1 : Int) ≤ _; omega), g15]
      rfl
    have next : ∀ (f : MH) (B' : Option Nat) (u4 u5 u6 u7 : Option MV), Keep h f → MLand f a l → BeM f Y C O i B' → (∀ b, B' = some b → Vk C Mn i b ∧ b < c + 1) → (∀ b, B = some b → ∃ b', B' = some b' ∧ Gk Y C O i b' b) → (Vk C Mn i c → ∃ b', B' = some b' ∧ Gk Y C O i b' c) → Wb rod (d + 1) B_Model_holds 221 [some (.inr (.inr (.inl (some 84)))), some (.inl x1), some (.inl (Int32.ofNat (10 ^ i))), some (.inl z3), u4, u5, u6, u7] [] f (fun r h' => r = none ∧ Keep h h' ∧ MLand h' a l ∧ ∃ B, BeM h' Y C O i B ∧ BsP Y C O Mn i B) := by
      intro f B' u4 u5 u6 u7 F Mf Bf bv' gb gc
      refine w_Model_holds_221 rfl ?_
      refine ih cl _ _ ⟨_, B', _, _, _, _, rfl, t_succ h3 (by omega), F, Mf, Bf, bv', fun G hG v => ?_⟩
      by_cases e : G = c
      · subst e; exact gc v
      · obtain ⟨b, e1, e2⟩ := gF G (by omega) v
        obtain ⟨b', e3, e4⟩ := gb b e1
        exact ⟨b', e3, e4.trans e2⟩
    have keepB : ∀ (u4 u5 u6 u7 : Option MV), (Vk C Mn i c → ∃ b', B = some b' ∧ Gk Y C O i b' c) → Wb rod (d + 1) B_Model_holds 221 [some (.inr (.inr (.inl (some 84)))), some (.inl x1), some (.inl (Int32.ofNat (10 ^ i))), some (.inl z3), u4, u5, u6, u7] [] g (fun r h' => r = none ∧ Keep h h' ∧ MLand h' a l ∧ ∃ B, BeM h' Y C O i B ∧ BsP Y C O Mn i B) := fun u4 u5 u6 u7 w => next g B u4 u5 u6 u7 K Mg Bg (fun b e => ⟨(bv b e).1, by have := (bv b e).2; omega⟩) (fun b e => ⟨b, e, Gk.rfl⟩) w
    have yl := sD_le hy i c
    have ccl := sD_le hc i c
    refine w_Model_holds_40 Lg ?_
    refine holds_sum Mg Lg Eg hy hc m4 (by omega) h3 s7 ?_
    intro z4 z5 z6 z7 h5 h6
    have oO : (g.1 (a + 3) b).toInt = (O : Int) := by rw [K.c (a + 3) (by omega)]; exact hO
    have oM : (g.1 (a + 4) b).toInt = (Mn : Int) := by rw [K.c (a + 4) (by omega)]; exact hMn
    refine w_Model_holds_111 Lg (Tc.wc (s_of Mg Lg x1 3 b 3 h1 rfl (by rw [ea]; exact hb) (by omega))) (Is.k ?_)
    refine w_Model_holds_119 (fun w => ?_) (fun w => ?_)
    · have w1 : z6.toInt ≤ (g.1 (a + 4) b).toInt := w
      rw [h6, oM] at w1
      have vc : Vk C Mn i c := ⟨cl, by omega⟩
      refine w_Model_holds_125 Lg (Tc.wc (s_of Mg Lg x1 2 b 2 h1 rfl (by rw [ea]; exact hb) (by omega))) (Is.k ?_)
      refine w_Model_holds_133 (Tc.wc (s_Model_atMost _ _ _)) (Is.k ?_)
      have mn := minA (O := O) h5 (show (g.1 (a + 1 + 2) b).toInt = (O : Int) from oO)
      generalize (if z5 < g.1 (a + 1 + 2) b then z5 else g.1 (a + 1 + 2) b) = v5 at mn
      have wr : (∀ b, B = some b → Gk Y C O i c b) → Wb rod (d + 1) B_Model_holds 168 [some (.inr (.inr (.inl (some 84)))), some (.inl x1), some (.inl (Int32.ofNat (10 ^ i))), some (.inl z3), some (.inl z4), some (.inl v5), some (.inl z6), some (.inl z7)] [] g (fun r h' => r = none ∧ Keep h h' ∧ MLand h' a l ∧ ∃ B, BeM h' Y C O i B ∧ BsP Y C O Mn i B) := by
        intro better
        refine w_Model_holds_168 Lg ?_
        refine w_Model_holds_174 (h := sI g 84 35 v5) Lg ?_
        refine w_Model_holds_180 (h := sI (sI g 84 35 v5) 84 36 z6) Lg rfl ?_
        have s7' : ((sI (sI g 84 35 v5) 84 36 z6).1 84 15 - 1).toInt = (i : Int) - 1 := by rw [sI_nj (by omega), sI_nj (by omega)]; exact s7
        generalize (sI (sI g 84 35 v5) 84 36 z6).1 84 15 - 1 = y7 at s7'
        refine Wb.uph i (fun k L' f => ∃ (w4 w7 : Int32), L' = [some (.inr (.inr (.inl (some 84)))), some (.inl x1), some (.inl (Int32.ofNat (10 ^ i))), some (.inl z3), some (.inl w4), some (.inl v5), some (.inl z6), some (.inl w7)] ∧ w4.toInt = ((c / 10 ^ k : Nat) : Int) ∧ w7.toInt = ((i - k : Nat) : Int) - 1 ∧ Keep h f ∧ MLand f a l ∧ f.1 84 35 = v5 ∧ f.1 84 36 = z6 ∧ ∀ t, t < i → i - k ≤ t → f.1 95 t = Int32.ofNat (dgt i c t)) ?_ (Nat.zero_le _) ⟨_, _, rfl, by rw [Nat.pow_zero, Nat.div_one]; exact h3, by rw [s7']; omega, (K.si (scrI 84 (by omega))).si (scrI 84 (by omega)), (Mg.si84 ha (by omega)).si84 ha (by omega), by rw [sI_nj (by omega), sI_same], by rw [sI_same], fun t ht h0 => absurd h0 (by omega)⟩
        rintro k _ f hk ⟨w4, w7, rfl, e4, e7, F, Mf, f35, f36, f95⟩ ihk
        have Lf := L.keep F
        refine w_Model_holds_191 (fun q => ?_) (fun q => ?_)
        · have ik : i - k = 0 := by omega
          refine next f (some c) _ _ _ _ F Mf ⟨by rw [f35]; exact ofN mn (by omega), by rw [f36]; exact ofN h6 (by omega), fun t ht => f95 t ht (by omega)⟩ (fun b e => by cases e; exact ⟨vc, by omega⟩) (fun b e => ⟨c, rfl, better b e⟩) (fun _ => ⟨c, rfl, Gk.rfl⟩)
        · obtain ⟨j, hj⟩ : ∃ j, i - k = j + 1 := ⟨i - k - 1, by omega⟩
          rw [hj] at e7
          have i7 : w7.toInt = (j : Int) := by omega
          have kc1 : c / 10 ^ k ≤ c := Nat.div_le_self _ _
          have md := t_mod10 e4 (by omega)
          refine w_Model_holds_196 Lf (by omega) ?_
          rw [n_eq i7]
          refine w_Model_holds_208 rfl rfl ?_
          refine ihk (by omega) _ _ ⟨_, _, rfl, by rw [← div10']; exact t_div10 e4, by rw [show i - (k + 1) = j by omega]; exact t_pre e7 (by omega), F.si (scrI 95 (by omega)), Mf.si ha (by omega), by rw [sI_nc (by omega)]; exact f35, by rw [sI_nc (by omega)]; exact f36, fun t ht h0 => ?_⟩
          by_cases e : t = j
          · subst e
            rw [sI_same, dgt, show i - 1 - t = k by omega]
            exact ofN md (by omega)
          · rw [sI_nj e]
            exact f95 t ht (by omega)
      cases hB : B with
      | none =>
        have Bn := Bg
        rw [hB] at Bn
        have Bn' : g.1 84 35 = -1 := Bn
        have bn : (g.1 84 35).toInt = -1 := by rw [Bn']; rfl
        refine w_Model_holds_136 Lg rfl (fun x => absurd x (by rw [mn, bn]; omega)) (fun _ => ?_)
        refine w_Model_holds_147 Lg (fun _ => wr (fun b e => by rw [hB] at e; exact nomatch e)) (fun x => ?_)
        exfalso
        rw [mn, bn] at x
        omega
      | some b0 =>
        have Bs := Bg
        rw [hB] at Bs
        have lt := (bv b0 hB).2
        have w2 := sD_le hy i b0
        have w3 := sD_le hc i b0
        have t35 : (g.1 84 35).toInt = ((min (sD Y i b0) O : Nat) : Int) := by rw [Bs.1]; exact t_nat (by omega)
        have t36 : (g.1 84 36).toInt = (sD C i b0 : Int) := by rw [Bs.2.1]; exact t_nat (by omega)
        refine w_Model_holds_136 Lg rfl (fun x => ?_) (fun x => ?_)
        · rw [mn, t35] at x
          exact keepB _ _ _ _ (fun _ => ⟨b0, hB, by unfold Gk; omega⟩)
        · rw [mn, t35] at x
          refine w_Model_holds_147 Lg (fun x2 => ?_) (fun x2 => ?_)
          · rw [mn, t35] at x2
            exact wr (fun b e => by rw [hB] at e; cases e; unfold Gk; omega)
          · rw [mn, t35] at x2
            refine w_Model_holds_156 Lg (fun x3 => ?_) (fun x3 => ?_)
            · rw [h6, t36] at x3
              exact wr (fun b e => by rw [hB] at e; cases e; unfold Gk; omega)
            · rw [h6, t36] at x3
              refine w_Model_holds_165 ?_
              exact keepB _ _ _ _ (fun _ => ⟨b0, hB, by unfold Gk; omega⟩)
    · have w1 : ¬ z6.toInt ≤ (g.1 (a + 4) b).toInt := w
      rw [h6, oM] at w1
      refine w_Model_holds_122 ?_
      exact keepB _ _ _ _ (fun v => absurd v.2 (by omega))
  · rw [e15, E.1, hyi] at q
    have := p4 (i + 1) (by omega)
    have := p4 i (by omega)
    refine w_Model_holds_12 rfl ?_
    refine ihi (by omega) _ ⟨_, ?_, t_succ hyi (by omega)⟩
    rw [← ofN (x := Int32.ofNat (10 ^ i) * 10) (n := 10 ^ (i + 1)) (by rw [Nat.pow_succ]; exact n_mul (t_nat (by omega)) (show (10 : Int32).toInt = ((10 : Nat) : Int) from rfl) (by rw [← Nat.pow_succ]; omega)) (by omega)]
end M82
