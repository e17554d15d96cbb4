/-! OPERATION enough -/
section M84
variable {rod : Nat → Nat × (Nat → Int32)} {d : Nat} {h : MH} {a l m O Mn : Nat} {Y C : Nat → Nat}
def tot (Y : Nat → Nat) : Nat → (Nat → Nat) → Nat
  | 0, _ => 0
  | m + 1, f => tot Y m f + f m * Y m
def fdig (c t : Nat) : Nat := c / 10 ^ t % 10
theorem tot_le (hy : ∀ t, Y t ≤ 60) {f : Nat → Nat} (hf : ∀ t, f t ≤ 9) : ∀ m, tot Y m f ≤ 540 * m := by
  intro m
  induction m with
  | zero => exact Nat.le_refl _
  | succ m ih =>
    have y : f m * Y m ≤ 9 * 60 := Nat.mul_le_mul (hf m) (hy m)
    rw [tot]
    omega
theorem fdig_le (c t : Nat) : fdig c t ≤ 9 := by
  unfold fdig
  omega
theorem tot_congr {f g : Nat → Nat} : ∀ m, (∀ t, t < m → f t = g t) → tot Y m f = tot Y m g := by
  intro m
  induction m with
  | zero => intro _; rfl
  | succ m ih => intro q; rw [tot, tot, ih (fun t ht => q t (by omega)), q m (by omega)]
theorem sD_tot : ∀ m c, sD Y m c = tot Y m (dgt m c) := by
  intro m
  induction m with
  | zero => intro c; rfl
  | succ m ih =>
    intro c
    rw [sD, tot, ih, dgt, show m + 1 - 1 - m = 0 by omega, Nat.pow_zero, Nat.div_one]
    congr 1
    refine tot_congr m (fun t ht => ?_)
    rw [dgt, dgt, div10, show m - 1 - t + 1 = m + 1 - 1 - t by omega]
theorem to_sD : ∀ (m : Nat) (f : Nat → Nat), (∀ t, f t ≤ 9) → ∃ c, c < 10 ^ m ∧ ∀ Y, sD Y m c = tot Y m f := by
  intro m
  induction m with
  | zero => intro f _; exact ⟨0, by decide, fun _ => rfl⟩
  | succ m ih =>
    intro f hf
    obtain ⟨c, x, y⟩ := ih f hf
    have := hf m
    refine ⟨10 * c + f m, by rw [Nat.pow_succ]; omega, fun Y => ?_⟩
    rw [sD_ext m c (hf m), y, tot]
theorem to_low : ∀ (m : Nat) (f : Nat → Nat), (∀ t, f t ≤ 9) → ∃ c, c < 10 ^ m ∧ ∀ t, t < m → fdig c t = f t := by
  intro m
  induction m with
  | zero => intro f _; exact ⟨0, by decide, fun t ht => absurd ht (by omega)⟩
  | succ m ih =>
    intro f hf
    obtain ⟨c, x, y⟩ := ih f hf
    have f9 := hf m
    have p : ∀ n, 0 < 10 ^ n := fun n => Nat.pow_pos (by omega)
    have fp : f m * 10 ^ m ≤ 9 * 10 ^ m := Nat.mul_le_mul_right _ f9
    refine ⟨c + f m * 10 ^ m, by rw [Nat.pow_succ]; omega, fun t ht => ?_⟩
    by_cases e : t = m
    · subst e
      rw [fdig, Nat.add_mul_div_right _ _ (p t), Nat.div_eq_of_lt x, Nat.zero_add]
      omega
    · have q := y t (by omega)
      rw [← q, fdig, fdig]
      obtain ⟨s, hs⟩ : ∃ s, m = t + (s + 1) := ⟨m - t - 1, by omega⟩
      have e2 : f m * 10 ^ m = f m * 10 ^ s * 10 * 10 ^ t := by
        rw [show (10 : Nat) ^ m = 10 ^ t * (10 ^ s * 10) by rw [hs, Nat.pow_add, Nat.pow_succ]]
        rw [Nat.mul_comm (10 ^ t), ← Nat.mul_assoc, ← Nat.mul_assoc]
      rw [e2, Nat.add_mul_div_right _ _ (p t)]
      omega
def EB (Y C : Nat → Nat) (O m c : Nat) (x : Int32) : Prop := (x = -1 ∧ ∀ q, q < c → tot Y m (fdig q) < O) ∨ ∃ w p, p < c ∧ O ≤ tot Y m (fdig p) ∧ tot C m (fdig p) = w ∧ x.toInt = (w : Int) ∧ ∀ q, q < c → O ≤ tot Y m (fdig q) → w ≤ tot C m (fdig q)
theorem EB.fin {x : Int32} {b : Nat} (e : EB Y C O m (10 ^ m) x) (hc : ∀ t, C t ≤ 60) (m4 : m ≤ 4) (bB : BsP Y C O 1000000 m (some b)) : x = if O ≤ sD Y m b then Int32.ofNat (sD C m b) else -1 := by
  have al : ∀ F, F < 10 ^ m → Gk Y C O m b F := fun F hF => by
    have := sD_le hc m F
    obtain ⟨b', e', y⟩ := bB.2 F ⟨hF, by omega⟩
    cases e'
    exact y
  obtain ⟨p0, x0, y0⟩ := to_low m (dgt m b) (fun t => by unfold dgt; omega)
  have ty : ∀ Z : Nat → Nat, tot Z m (fdig p0) = sD Z m b := fun Z => by rw [sD_tot]; exact tot_congr m y0
  rcases e with ⟨rfl, q⟩ | ⟨w, p, x1, x2, x3, x4, x5⟩
  · have := q p0 x0
    rw [ty] at this
    rw [if_neg (by omega)]
  · obtain ⟨F, f1, f2⟩ := to_sD m (fdig p) (fdig_le p)
    have g := al F f1
    have fy := f2 Y
    have fc := f2 C
    have ob : O ≤ sD Y m b := by unfold Gk at g; omega
    have wl := x5 p0 x0 (by rw [ty]; exact ob)
    rw [ty] at wl
    have cl := sD_le hc m b
    rw [if_pos ob]
    exact ofN (by rw [x4]; unfold Gk at g; omega) (by omega)
theorem enough_sum {Q : Option MV → MH → Prop} (M : MLand h a l) (L : Lay h.2) (E : (h.1 a 5).toInt = (m : Int) ∧ ∀ t, t < m → (h.1 (a + 6) t).toInt = (Y t : Int) ∧ (h.1 (a + 7) t).toInt = (C t : Int)) (hy : ∀ t, Y t ≤ 60) (hc : ∀ t, C t ≤ 60) (m4 : m ≤ 4) {c : Nat} (cl : c < 10000) {x1 x2 x3 x4 x5 : Int32} (h5 : x5.toInt = (c : Int))
    (K : ∀ (z6 z7 z8 z9 : Int32), z7.toInt = (tot Y m (fdig c) : Int) → z8.toInt = (tot C m (fdig c) : Int) → Wb rod (d + 1) B_Model_enough 126 [some (.inr (.inr (.inl (some 84)))), some (.inl x1), some (.inl x2), some (.inl x3), some (.inl x4), some (.inl x5), some (.inl z6), some (.inl z7), some (.inl z8), some (.inl z9)] [] h Q) : Wb rod (d + 1) B_Model_enough 68 [some (.inr (.inr (.inl (some 84)))), some (.inl x1), some (.inl x2), some (.inl x3), some (.inl x4), some (.inl x5), some (.inl x5), some (.inl 0), some (.inl 0), some (.inl 0)] [] h Q := by
  have e15 := M.2.2.2.2.2
  refine Wb.upc m (fun k L' => ∃ (z6 z7 z8 z9 : Int32), L' = [some (.inr (.inr (.inl (some 84)))), some (.inl x1), some (.inl x2), some (.inl x3), some (.inl x4), some (.inl x5), some (.inl z6), some (.inl z7), some (.inl z8), some (.inl z9)] ∧ z6.toInt = ((c / 10 ^ k : Nat) : Int) ∧ z7.toInt = (tot Y k (fdig c) : Int) ∧ z8.toInt = (tot C k (fdig c) : Int) ∧ z9.toInt = (k : Int)) ?_ (Nat.zero_le _) ⟨x5, 0, 0, 0, rfl, by rw [Nat.pow_zero, Nat.div_one]; exact h5, rfl, rfl, rfl⟩
  rintro k _ hk ⟨z6, z7, z8, z9, rfl, e6, e7, e8, e9⟩ ih
  refine w_Model_enough_68 L (fun q => ?_) (fun q => ?_)
  · rw [e15, E.1, e9] at q
    have km : k = m := by omega
    subst km
    exact K _ _ _ _ e7 e8
  · rw [e15, E.1, e9] at q
    have Ei := E.2 k (by omega)
    have kc1 : c / 10 ^ k ≤ c := Nat.div_le_self _ _
    have md := t_mod10 e6 (by omega)
    have b1 : c / 10 ^ k % 10 * Y k ≤ 9 * 60 := Nat.mul_le_mul (by omega) (hy k)
    have b2 : c / 10 ^ k % 10 * C k ≤ 9 * 60 := Nat.mul_le_mul (by omega) (hc k)
    have l1 := tot_le hy (fdig_le c) k
    have l2 := tot_le hc (fdig_le c) k
    refine w_Model_enough_77 L (Tc.wc (s_ofL0 M L z9 k e9 (by omega))) (Is.k ?_)
    refine w_Model_enough_91 L (Tc.wc (s_ofL1 M L z9 k e9 (by omega))) (Is.k ?_)
    refine w_Model_enough_109 (by rfl) (by rfl) ?_
    refine ih (by omega) _ ⟨_, _, _, _, rfl, by rw [← div10']; exact t_div10 e6, ?_, ?_, t_succ e9 (by omega)⟩
    · have := n_add e7 (n_mul md Ei.1 (by omega)) (by omega)
      exact this
    · have := n_add e8 (n_mul md Ei.2 (by omega)) (by omega)
      exact this
theorem r_enough (M : MLand h a l) (L : Lay h.2) (E : (h.1 a 5).toInt = (m : Int) ∧ ∀ t, t < m → (h.1 (a + 6) t).toInt = (Y t : Int) ∧ (h.1 (a + 7) t).toInt = (C t : Int)) (hy : ∀ t, Y t ≤ 60) (hc : ∀ t, C t ≤ 60) (m4 : m ≤ 4) (x1 x2 : Int32) {b : Nat} (h2 : x2.toInt = (b : Int)) (hb : (b : Int) < (h.1 a 4).toInt) (hO : (h.1 (a + 3) b).toInt = (O : Int)) : Wb rod (d + 1) B_Model_enough 18 [some (.inr (.inr (.inl (some 84)))), some (.inl x1), some (.inl x2), none, none, none, none, none, none, none] [] h (fun r h' => h' = h ∧ ∃ x, r = some (.inl x) ∧ EB Y C O m (10 ^ m) x) := by
  have e15 := M.2.2.2.2.2
  have p4 : ∀ i, i ≤ 4 → 10 ^ i ≤ 10000 := fun i hi => Nat.le_trans (Nat.pow_le_pow_right (by omega) hi) (by decide)
  refine w_Model_enough_18 rfl ?_
  refine Wb.upc m (fun i L' => ∃ (y : Int32), L' = [some (.inr (.inr (.inl (some 84)))), some (.inl x1), some (.inl x2), some (.inl (Int32.ofNat (10 ^ i))), some (.inl y), none, none, none, none, none] ∧ y.toInt = (i : Int)) ?_ (Nat.zero_le _) ⟨0, rfl, rfl⟩
  rintro i _ hi ⟨y, rfl, hyi⟩ ihi
  refine w_Model_enough_23 L (fun q => ?_) (fun q => ?_)
  · rw [e15, E.1, hyi] at q
    have im : i = m := by omega
    subst im
    clear ihi
    have p5 := p4 i m4
    have tp := t_nat (n := 10 ^ i) (by omega)
    refine w_Model_enough_43 rfl ?_
    generalize Int32.ofNat (10 ^ i) = x3 at tp
    refine Wb.upc (10 ^ i) (fun c L' => ∃ (x4 x5 : Int32) (u6 u7 u8 u9 : Option MV), L' = [some (.inr (.inr (.inl (some 84)))), some (.inl x1), some (.inl x2), some (.inl x3), some (.inl x4), some (.inl x5), u6, u7, u8, u9] ∧ x5.toInt = (c : Int) ∧ EB Y C O i c x4) ?_ (Nat.zero_le _) ⟨-1, 0, _, _, _, _, rfl, rfl, Or.inl ⟨rfl, fun q hq => absurd hq (by omega)⟩⟩
    rintro c _ hcc ⟨x4, x5, u6, u7, u8, u9, rfl, h5, eb⟩ ih
    refine w_Model_enough_49 (fun q => ?_) (fun q => ?_)
    · have ce : c = 10 ^ i := by omega
      subst ce
      refine w_Model_enough_160 ?_
      exact ⟨rfl, x4, rfl, eb⟩
    have cl : c < 10 ^ i := by omega
    have next : ∀ (x4 : Int32) (u6 u7 u8 u9 : Option MV), EB Y C O i (c + 1) x4 → Wb rod (d + 1) B_Model_enough 154 [some (.inr (.inr (.inl (some 84)))), some (.inl x1), some (.inl x2), some (.inl x3), some (.inl x4), some (.inl x5), u6, u7, u8, u9] [] h (fun r h' => h' = h ∧ ∃ x, r = some (.inl x) ∧ EB Y C O i (10 ^ i) x) := by
      intro x4 u6 u7 u8 u9 e
      refine w_Model_enough_154 rfl ?_
      exact ih cl _ ⟨_, _, _, _, _, _, rfl, t_succ h5 (by omega), e⟩
    have l1 := tot_le hy (fdig_le c) i
    have l2 := tot_le hc (fdig_le c) i
    refine w_Model_enough_55 ?_
    refine enough_sum M L E hy hc m4 (by omega) h5 ?_
    intro z6 z7 z8 z9 e7 e8
    refine w_Model_enough_126 L (Tc.wc (s_of M L x2 2 b 2 h2 rfl hb (by omega))) (Is.k ?_)
    refine w_Model_enough_134 (fun w => ?_) (fun w => ?_)
    · have w1 : z7.toInt < (h.1 (a + 3) b).toInt := w
      rw [e7, hO] at w1
      refine next _ _ _ _ _ ?_
      rcases eb with ⟨e, q⟩ | ⟨v, p, y1, y2, y3, y4, y5⟩
      · refine Or.inl ⟨e, fun r hr => ?_⟩
        by_cases rc : r = c
        · subst rc; omega
        · exact q r (by omega)
      · refine Or.inr ⟨v, p, by omega, y2, y3, y4, fun r hr o => ?_⟩
        by_cases rc : r = c
        · subst rc; omega
        · exact y5 r (by omega) o
    · have w1 : ¬ z7.toInt < (h.1 (a + 3) b).toInt := w
      rw [e7, hO] at w1
      have fresh : (∀ r, r < c → O ≤ tot Y i (fdig r) → tot C i (fdig c) ≤ tot C i (fdig r)) → EB Y C O i (c + 1) z8 := fun q => Or.inr ⟨_, c, by omega, by omega, rfl, e8, fun r hr o => by
        by_cases rc : r = c
        · subst rc; exact Nat.le_refl _
        · exact q r (by omega) o⟩
      rcases eb with ⟨e, q⟩ | ⟨v, p, y1, y2, y3, y4, y5⟩
      · refine w_Model_enough_137 (fun _ => ?_) (fun n => absurd (by rw [e]; rfl) n)
        refine w_Model_enough_150 rfl ?_
        exact next _ _ _ _ _ (fresh (fun r hr o => absurd (q r hr) (by omega)))
      · refine w_Model_enough_137 (fun n => ?_) (fun _ => ?_)
        · have n' : x4.toInt = -1 := n
          omega
        · refine w_Model_enough_143 (fun n => ?_) (fun n => ?_)
          · refine next _ _ _ _ _ (Or.inr ⟨v, p, by omega, y2, y3, y4, fun r hr o => ?_⟩)
            by_cases rc : r = c
            · subst rc; omega
            · exact y5 r (by omega) o
          · refine w_Model_enough_150 rfl ?_
            exact next _ _ _ _ _ (fresh (fun r hr o => by have := y5 r hr o; omega))
  · rw [e15, E.1, hyi] at q
    have := p4 (i + 1) (by omega)
    have := p4 i (by omega)
    refine w_Model_enough_32 rfl ?_
    refine ihi (by omega) _ ⟨_, ?_, t_succ hyi (by omega)⟩
    rw [← ofN (x := Int32.ofNat (10 ^ i) * 10) (n := 10 ^ (i + 1)) (by rw [Nat.pow_succ]; exact n_mul (t_nat (by omega)) (show (10 : Int32).toInt = ((10 : Nat) : Int) from rfl) (by rw [← Nat.pow_succ]; omega)) (by omega)]
theorem op_enough (k b : Int32) : OpI INV rod 164 263 [k, b] := by
  refine OpI.mk fun h hI => ?_
  have L := hI.lay
  by_cases hk : 0 ≤ k.toInt ∧ k.toInt < (h.1 3 0).toInt
  · obtain ⟨A, R, ha, hk2⟩ := hI.landK hk
    have ek := n_of hk.1
    have at1 := fun (d : Nat) => s_landAt1 (rod := rod) (d := d) hI hk
    generalize k.toNatClampNeg = kk at ek hk2 A R ha at1
    have le := R.le
    have bu := R.bu
    by_cases hb : 0 ≤ b.toInt ∧ b.toInt < (h.1 (8 + 18 * kk) 4).toInt
    · have eb := n_of hb.1
      obtain ⟨m, hm⟩ := Int.eq_ofNat_of_zero_le (show 0 ≤ (h.1 (8 + 18 * kk) 5).toInt by omega)
      obtain ⟨Y, C, hy, hc, E⟩ := R.yc hm
      have ob := R.om (b := b.toNatClampNeg) (by omega)
      obtain ⟨O, hO⟩ := Int.eq_ofNat_of_zero_le ob.1.1
      have ce := fun (d : Nat) => c_choose (rod := rod) (d := d) (a := (8 + 18 * kk)) (m := m) (O := O) (Mn := 1000000) hy hc (by omega) (by omega) (by omega) ha L ⟨A, hm, E⟩ (h.1 ((8 + 18 * kk) + 3) b.toNatClampNeg) 1000000 hO rfl
      obtain ⟨-, -, -, -, -, bb, -, bB⟩ := ce 0
      have yl := sD_le hy m bb
      refine ⟨if O ≤ sD Y m bb then Int32.ofNat (sD C m bb) else -1, ?_, fun h1 I1 K1 => ?_⟩
      · refine n_Main_enough ?_
        refine w_Main_enough_0 L (Tc.wc (at1 _)) (Is.k ?_)
        refine w_Main_enough_8 rfl (fun c => nomatch c) (fun _ _ => ?_)
        refine w_Main_enough_13 A (Tc.wc (s_hasBuyer A _)) (Is.k ?_)
        refine w_Main_enough_18 (fun kc18 => ?_) (fun kc18 => ?_)
        · try simp only [ite01t, ite01v, Int32.reduceToInt, t_m1, t_m2, t_m1000, Decidable.not_not] at kc18
          refine w_Main_enough_23 L A (by first | assumption | omega | (refine ⟨?_, ?_⟩ <;> first | assumption | omega)) (ce _) ?_
          rintro _ h23 ⟨rfl, k23, b2, B23, g2⟩
          have be := BsP.eq g2 bB
          cases be
          have L23 := L.keep k23
          have A23 : LandA h23.2 (8 + 18 * kk) := k23.1.symm ▸ A
          have o3 : (h23.1 ((8 + 18 * kk) + 3) b.toNatClampNeg).toInt = (O : Int) := by rw [k23.c _ (by omega)]; exact hO
          have t2 : (h23.1 75 2).toInt = ((min (sD Y m bb) O : Nat) : Int) := by rw [B23.1]; exact t_nat (by omega)
          refine w_Main_enough_40 L23 A23 (by omega) (fun q => ?_) (fun q => ?_)
          · rw [t2, o3] at q
            refine w_Main_enough_60 L23 ?_
            refine w_Main_enough_67 ?_
            exact ⟨by rw [if_pos (by omega), B23.2.1], k23⟩
          · rw [t2, o3] at q
            refine w_Main_enough_56 ?_
            refine w_Main_enough_67 ?_
            exact ⟨by rw [if_neg (by omega)], k23⟩
        · try simp only [ite01t, ite01v, Int32.reduceToInt, t_m1, t_m2, t_m1000, Decidable.not_not] at kc18
          refine w_Main_enough_21 ?_
          exact absurd hb (by omega)
      · have L1 := I1.lay
        have hk1 : (kk : Int) < (h1.1 3 0).toInt := by rw [K1.c 3 (by omega)]; omega
        have is1 := fun (d : Nat) => s_isLand1 (rod := rod) (d := d) I1 k kk ek hk1
        refine n_Model_enough ?_
        refine w_Model_enough_0 L1 (is1 _) ?_
        rintro _ h0 ⟨rfl, k0, M0⟩
        have I0 := I1.keep k0
        have L0 := I0.lay
        have K0 := (Keep.rfl (h := h1)).trans k0
        have e0 : h0.1 (8 + 18 * kk) = h.1 (8 + 18 * kk) := (K1.trans K0).c _ (by omega)
        refine w_Model_enough_5 (fun kc5 => absurd kc5 (by decide)) (fun kc5 => ?_)
        refine w_Model_enough_8 L0 (Tc.wc (s_misBuyer M0 L0 _)) (Is.k ?_)
        refine w_Model_enough_13 (fun kc13 => ?_) (fun kc13 => ?_)
        · (try simp only [ite01t, ite01v, Int32.reduceToInt, t_m1, t_m2, t_m1000, Decidable.not_not] at kc13); (try simp only [e0] at kc13)
          have KK := K1.trans K0
          refine (r_enough (m := m) (O := O) (Y := Y) (C := C) M0 L0 ⟨by rw [e0]; exact hm, fun t ht => by rw [KK.c ((8 + 18 * kk) + 6) (by omega), KK.c ((8 + 18 * kk) + 7) (by omega)]; exact E t ht⟩ hy hc (by omega) k b eb (by rw [e0]; omega) (by rw [KK.c ((8 + 18 * kk) + 3) (by omega)]; exact hO)).imp ?_
          rintro _ f ⟨rfl, x, rfl, ebx⟩
          exact ⟨by rw [ebx.fin hc (by omega) bB], K0⟩
        · (try simp only [ite01t, ite01v, Int32.reduceToInt, t_m1, t_m2, t_m1000, Decidable.not_not] at kc13); (try simp only [e0] at kc13)
          refine w_Model_enough_16 ?_
          exact absurd hb (by omega)
    · refine ⟨-1, ?_, fun h1 I1 K1 => ?_⟩
      · refine n_Main_enough ?_
        refine w_Main_enough_0 L (Tc.wc (at1 _)) (Is.k ?_)
        refine w_Main_enough_8 rfl (fun c => nomatch c) (fun _ _ => ?_)
        refine w_Main_enough_13 A (Tc.wc (s_hasBuyer A _)) (Is.k ?_)
        refine w_Main_enough_18 (fun kc18 => ?_) (fun kc18 => ?_)
        · try simp only [ite01t, ite01v, Int32.reduceToInt, t_m1, t_m2, t_m1000, Decidable.not_not] at kc18
          exact absurd (by omega) hb
        · try simp only [ite01t, ite01v, Int32.reduceToInt, t_m1, t_m2, t_m1000, Decidable.not_not] at kc18
          refine w_Main_enough_21 ?_
          exact ⟨rfl, Keep.rfl⟩
      · have L1 := I1.lay
        have hk1 : (kk : Int) < (h1.1 3 0).toInt := by rw [K1.c 3 (by omega)]; omega
        have is1 := fun (d : Nat) => s_isLand1 (rod := rod) (d := d) I1 k kk ek hk1
        refine n_Model_enough ?_
        refine w_Model_enough_0 L1 (is1 _) ?_
        rintro _ h0 ⟨rfl, k0, M0⟩
        have I0 := I1.keep k0
        have L0 := I0.lay
        have K0 := (Keep.rfl (h := h1)).trans k0
        have e0 : h0.1 (8 + 18 * kk) = h.1 (8 + 18 * kk) := (K1.trans K0).c _ (by omega)
        refine w_Model_enough_5 (fun kc5 => absurd kc5 (by decide)) (fun kc5 => ?_)
        refine w_Model_enough_8 L0 (Tc.wc (s_misBuyer M0 L0 _)) (Is.k ?_)
        refine w_Model_enough_13 (fun kc13 => ?_) (fun kc13 => ?_)
        · (try simp only [ite01t, ite01v, Int32.reduceToInt, t_m1, t_m2, t_m1000, Decidable.not_not] at kc13); (try simp only [e0] at kc13)
          exact absurd (by omega) hb
        · (try simp only [ite01t, ite01v, Int32.reduceToInt, t_m1, t_m2, t_m1000, Decidable.not_not] at kc13); (try simp only [e0] at kc13)
          refine w_Model_enough_16 ?_
          exact ⟨rfl, K0⟩
  · refine ⟨-1, ?_, fun h1 I1 K1 => ?_⟩
    · refine n_Main_enough ?_
      refine w_Main_enough_0 L (Tc.wc (s_landAt0 hI hk)) (Is.k ?_)
      refine w_Main_enough_8 rfl (fun _ => ?_) (fun _ c => nomatch c)
      refine w_Main_enough_21 ?_
      exact ⟨rfl, Keep.rfl⟩
    · have L1 := I1.lay
      have hk1 : ¬ (0 ≤ k.toInt ∧ k.toInt < (h1.1 3 0).toInt) := by rw [K1.c 3 (by omega)]; exact hk
      refine n_Model_enough ?_
      refine w_Model_enough_0 L1 (Tc.wc (s_isLand0 I1 k hk1)) (Is.k ?_)
      refine w_Model_enough_5 (fun kc5 => ?_) (fun kc5 => absurd kc5 (by decide))
      refine w_Model_enough_16 ?_
      exact ⟨rfl, Keep.rfl⟩
end M84
