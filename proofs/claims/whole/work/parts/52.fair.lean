/-! OPERATION fair -/
theorem j_div {x y : Int64} (hy : 0 < y.toInt) : (x / y).toInt = x.toInt.tdiv y.toInt := Int64.toInt_div_of_ne_right x y (fun q => by rw [q] at hy; exact absurd hy (by decide))
theorem j_rem {x y : Int64} {X Y : Nat} (hx : x.toInt = (X : Int)) (hy : y.toInt = (Y : Int)) (h1 : 0 < Y) (h2 : X ≤ 30000) (h3 : Y ≤ 30000) : (x - x / y * y).toInt = ((X % Y : Nat) : Int) := by
  have q : (x / y).toInt = ((X / Y : Nat) : Int) := by rw [j_div (by omega), hx, hy, Int.tdiv_eq_ediv_of_nonneg (by omega)]; rfl
  have e := Nat.div_add_mod X Y
  have e2 : X / Y * Y ≤ X := Nat.div_mul_le_self X Y
  have m : (x / y * y).toInt = ((X / Y * Y : Nat) : Int) := by
    rw [Int64.toInt_mul, q, hy, ← Int.natCast_mul]
    exact Int.bmod_eq_of_le (by omega) (by omega)
  rw [Int64.toInt_sub, m, hx, Int.bmod_eq_of_le (by omega) (by omega)]
  rw [Nat.mul_comm] at e
  omega
theorem gcd_step (P Q : Nat) : Nat.gcd Q (P % Q) = Nat.gcd P Q := by
  rw [Nat.gcd_comm P Q, Nat.gcd_rec Q P, Nat.gcd_comm]
def AnsJ (v : Int64) (h : MH) (r : Option MV) (h' : MH) : Prop := r = some (.inr (.inl v)) ∧ Keep h h'
theorem OpJ.mk {rod : Nat → Nat × (Nat → Int32)} {yc ym : Nat} {as : List Int32} (H : ∀ h, INV h → ∃ v, Wc rod 99 yc (.inr (.inr (.inl (some 0))) :: as.map Sum.inl) h (AnsJ v h) ∧ ∀ h1, INV h1 → Keep h h1 → Wc rod 99 ym (.inr (.inr (.inl (some 84))) :: as.map Sum.inl) h1 (AnsJ v h1)) : OpJ INV rod yc ym as := by
  intro h hI
  obtain ⟨v, ⟨r1, h1, kc1, rfl, k1⟩, hm⟩ := H h hI
  have I1 := hI.keep k1
  obtain ⟨r2, h2, kc2, rfl, k2⟩ := hm h1 I1 k1
  exact ⟨v, h1, h2, INV_g84 I1, kc1, kc2, I1.keep k2⟩
theorem lgc_ge {x y : Int64} : (0 ≤ (lg_cmp x y).toInt) ↔ y.toInt ≤ x.toInt := by
  have := lg_cmp_ge x y
  rw [Int32.le_iff_toInt_le, Int64.le_iff_toInt_le] at this
  exact this
theorem lgc_eq {x y : Int64} : ((lg_cmp x y).toInt = 0) ↔ x.toInt = y.toInt := by
  have := lg_cmp_eq x y
  constructor
  · intro q; rw [this.mp (i32_of q)]
  · intro q; rw [this.mpr (Int64.toInt_inj.mp q)]; rfl
section M52
variable {rod : Nat → Nat × (Nat → Int32)} {d : Nat} {h : MH} {a l : Nat}
theorem s_cDiv (x y : Int32) (X Y : Nat) (hx : x.toInt.natAbs = X) (hX : X ≤ 30000) (hy : y.toInt = (Y : Int)) (h1 : 1 ≤ Y) (h24 : Y ≤ 24) (h : MH) : Tc rod (d + 1) 144 [.inl x, .inl y] h (some (.inl (Int32.ofNat (Nat.gcd X Y)))) h := by
  have gp : 1 ≤ Nat.gcd X Y := Nat.gcd_pos_of_pos_right X (by omega)
  have gl : Nat.gcd X Y ≤ Y := Nat.gcd_le_right X (by omega)
  have ax : (if 0 ≤ x then x else 0 - x).toInt = (X : Int) := by
    simp only [Int32.le_iff_toInt_le]
    have e0 : (0 : Int32).toInt = 0 := rfl
    rw [e0]
    split
    · omega
    · rw [i32_sub (by rw [e0]; omega) (by rw [e0]; omega), e0]; omega
  have ay : (if 0 ≤ y then y else 0 - y).toInt = (Y : Int) := by
    simp only [Int32.le_iff_toInt_le]
    have e0 : (0 : Int32).toInt = 0 := rfl
    rw [e0, if_pos (by omega)]
    exact hy
  apply Wc.tc
  refine n_Sharing_commonDivisor ?_
  refine w_Sharing_commonDivisor_0 ?_
  refine Wb.upc 64 (fun j L' => ∃ (z p q : Int32) (u : Option MV) (P Q : Nat), L' = [some (.inl x), some (.inl y), some (.inl p), some (.inl q), some (.inl z), u] ∧ z.toInt = (j : Int) ∧ p.toInt = (P : Int) ∧ q.toInt = (Q : Int) ∧ Nat.gcd P Q = Nat.gcd X Y ∧ Q + j ≤ 24 ∧ P ≤ 30000) ?_ (Nat.zero_le _) ⟨0, _, _, _, X, Y, rfl, rfl, ax, ay, rfl, by omega, hX⟩
  rintro j _ hj ⟨z, p, q, u, P, Q, rfl, hz, hp, hq, hg, hQ, hP⟩ ih
  refine w_Sharing_commonDivisor_13 (fun kc13 => ?_) (fun kc13 => ?_)
  · try simp only [ite01t, ite01v, Int32.reduceToInt, t_m1, t_m2, t_m1000, Decidable.not_not] at kc13
    refine w_Sharing_commonDivisor_40 ?_
    refine ⟨congrArg (fun z => some (Sum.inl z)) (i32_of ?_), rfl⟩
    have Q0 : Q = 0 := by omega
    rw [Q0, Nat.gcd_zero_right] at hg
    simp only [Int32.lt_iff_toInt_lt]
    rw [t_nat (by omega), show (1 : Int32).toInt = 1 from rfl]
    split
    · omega
    · show (1 : Int) = _; omega
  · try simp only [ite01t, ite01v, Int32.reduceToInt, t_m1, t_m2, t_m1000, Decidable.not_not] at kc13
    refine w_Sharing_commonDivisor_20 (fun kc20 => ?_) (fun kc20 => ?_)
    · try simp only [ite01t, ite01v, Int32.reduceToInt, t_m1, t_m2, t_m1000, Decidable.not_not] at kc20
      refine w_Sharing_commonDivisor_40 ?_
      refine ⟨congrArg (fun z => some (Sum.inl z)) (i32_of ?_), rfl⟩
      have Q0 : Q = 0 := by omega
      rw [Q0, Nat.gcd_zero_right] at hg
      simp only [Int32.lt_iff_toInt_lt]
      rw [t_nat (by omega), show (1 : Int32).toInt = 1 from rfl]
      split
      · omega
      · show (1 : Int) = _; omega
    · try simp only [ite01t, ite01v, Int32.reduceToInt, t_m1, t_m2, t_m1000, Decidable.not_not] at kc20
      refine w_Sharing_commonDivisor_24 (fun w => kc20 (by rw [w]; rfl)) rfl ?_
      have r := dv_r (x := p) (k := q) (n := Q) hq (by omega) (by omega)
      have ml := Nat.mod_lt P (show Q > 0 by omega)
      refine ih (by omega) _ ⟨_, _, _, _, Q, P % Q, rfl, t_succ hz (by omega), hq, by rw [r, hp]; rfl, by rw [gcd_step]; exact hg, by omega, by omega⟩
theorem s_common (x y : Int64) (X Y : Nat) (hx : x.toInt.natAbs = X) (hX : X ≤ 30000) (hy : y.toInt = (Y : Int)) (h1 : 1 ≤ Y) (h24 : Y ≤ 24) (h : MH) : Tc rod (d + 1) 291 [.inr (.inl x), .inr (.inl y)] h (some (.inr (.inl (Int64.ofNat (Nat.gcd X Y))))) h := by
  have gp : 1 ≤ Nat.gcd X Y := Nat.gcd_pos_of_pos_right X (by omega)
  have gl : Nat.gcd X Y ≤ Y := Nat.gcd_le_right X (by omega)
  apply Wc.tc
  refine n_Model_common ?_
  refine w_Model_common_0 (fun kc0 => ?_) (fun kc0 => ?_)
  · (try rw [lgc_ge] at kc0)
    have kc0 : (0 : Int) ≤ x.toInt := kc0
    have zz : x.toInt = (X : Int) := by omega
    refine w_Model_common_11 ?_
    refine w_Model_common_12 rfl rfl ?_
    refine Wb.upc 25 (fun j L' => ∃ (p q : Int64) (u0 u1 u2 u3 u5 u7 u8 u9 : Option MV) (P Q : Nat), okl [u0, u1, u2, u3, some (.inr (.inl p)), u5, some (.inr (.inl q)), u7, u8, u9] 8 = true ∧ okl [u0, u1, u2, u3, some (.inr (.inl p)), u5, some (.inr (.inl q)), u7, u8, u9] 4 = true ∧ okl [u0, u1, u2, u3, some (.inr (.inl p)), u5, some (.inr (.inl q)), u7, u8, u9] 6 = true ∧ L' = [u0, u1, u2, u3, some (.inr (.inl p)), u5, some (.inr (.inl q)), u7, u8, u9] ∧ p.toInt = (P : Int) ∧ q.toInt = (Q : Int) ∧ Nat.gcd P Q = Nat.gcd X Y ∧ Q + j ≤ 24 ∧ P ≤ 30000) ?_ (Nat.zero_le _) ⟨_, _, _, _, _, _, _, _, _, _, X, Y, rfl, rfl, rfl, rfl, zz, hy, rfl, by omega, hX⟩
    rintro j _ hj ⟨p, q, u0, u1, u2, u3, u5, u7, u8, u9, P, Q, o1, o2, o3, rfl, hp, hq, hg, hQ, hP⟩ ih
    refine w_Model_common_17 (fun kc17 => ?_) (fun kc17 => ?_)
    · (try rw [lgc_eq] at kc17)
      refine w_Model_common_42 ?_
      have kc17 : q.toInt = (0 : Int) := kc17
      refine ⟨congrArg (fun z => some (Sum.inr (Sum.inl z))) (Int64.toInt_inj.mp ?_), rfl⟩
      have Q0 : Q = 0 := by omega
      rw [Q0, Nat.gcd_zero_right] at hg
      rw [Int64.toInt_ofNat_of_lt (by omega), hp, hg]
    · (try rw [lgc_eq] at kc17)
      refine w_Model_common_24 (fun w => by rw [w] at hq; have : (0 : Int) = _ := hq; have kc17 : ¬ q.toInt = (0 : Int) := kc17; rw [w] at kc17; exact kc17 rfl) (by first | rfl | exact o1 | (simp only [okl] at *; simpa using o1)) (by first | rfl | exact o2 | (simp only [okl] at *; simpa using o2)) (by first | rfl | (simp only [okl] at *; simpa using o3)) ?_
      have kc17 : ¬ q.toInt = (0 : Int) := kc17
      have r := j_rem hp hq (by omega) (by omega) (by omega)
      have ml := Nat.mod_lt P (show Q > 0 by omega)
      refine ih (by omega) _ ⟨_, _, _, _, _, _, _, _, _, _, Q, P % Q, ?_, ?_, ?_, rfl, hq, r, by rw [gcd_step]; exact hg, by omega, by omega⟩
      · rfl
      · (simp only [okl] at *; simpa using o2)
      · rfl
  · (try rw [lgc_ge] at kc0)
    have kc0 : ¬ (0 : Int) ≤ x.toInt := kc0
    have zz : (-x).toInt = (X : Int) := by rw [Int64.toInt_neg, Int.bmod_eq_of_le (by omega) (by omega)]; omega
    refine w_Model_common_6 ?_
    refine w_Model_common_12 rfl rfl ?_
    refine Wb.upc 25 (fun j L' => ∃ (p q : Int64) (u0 u1 u2 u3 u5 u7 u8 u9 : Option MV) (P Q : Nat), okl [u0, u1, u2, u3, some (.inr (.inl p)), u5, some (.inr (.inl q)), u7, u8, u9] 8 = true ∧ okl [u0, u1, u2, u3, some (.inr (.inl p)), u5, some (.inr (.inl q)), u7, u8, u9] 4 = true ∧ okl [u0, u1, u2, u3, some (.inr (.inl p)), u5, some (.inr (.inl q)), u7, u8, u9] 6 = true ∧ L' = [u0, u1, u2, u3, some (.inr (.inl p)), u5, some (.inr (.inl q)), u7, u8, u9] ∧ p.toInt = (P : Int) ∧ q.toInt = (Q : Int) ∧ Nat.gcd P Q = Nat.gcd X Y ∧ Q + j ≤ 24 ∧ P ≤ 30000) ?_ (Nat.zero_le _) ⟨_, _, _, _, _, _, _, _, _, _, X, Y, rfl, rfl, rfl, rfl, zz, hy, rfl, by omega, hX⟩
    rintro j _ hj ⟨p, q, u0, u1, u2, u3, u5, u7, u8, u9, P, Q, o1, o2, o3, rfl, hp, hq, hg, hQ, hP⟩ ih
    refine w_Model_common_17 (fun kc17 => ?_) (fun kc17 => ?_)
    · (try rw [lgc_eq] at kc17)
      refine w_Model_common_42 ?_
      have kc17 : q.toInt = (0 : Int) := kc17
      refine ⟨congrArg (fun z => some (Sum.inr (Sum.inl z))) (Int64.toInt_inj.mp ?_), rfl⟩
      have Q0 : Q = 0 := by omega
      rw [Q0, Nat.gcd_zero_right] at hg
      rw [Int64.toInt_ofNat_of_lt (by omega), hp, hg]
    · (try rw [lgc_eq] at kc17)
      refine w_Model_common_24 (fun w => by rw [w] at hq; have : (0 : Int) = _ := hq; have kc17 : ¬ q.toInt = (0 : Int) := kc17; rw [w] at kc17; exact kc17 rfl) (by first | rfl | exact o1 | (simp only [okl] at *; simpa using o1)) (by first | rfl | exact o2 | (simp only [okl] at *; simpa using o2)) (by first | rfl | (simp only [okl] at *; simpa using o3)) ?_
      have kc17 : ¬ q.toInt = (0 : Int) := kc17
      have r := j_rem hp hq (by omega) (by omega) (by omega)
      have ml := Nat.mod_lt P (show Q > 0 by omega)
      refine ih (by omega) _ ⟨_, _, _, _, _, _, _, _, _, _, Q, P % Q, ?_, ?_, ?_, rfl, hq, r, by rw [gcd_step]; exact hg, by omega, by omega⟩
      · rfl
      · (simp only [okl] at *; simpa using o2)
      · rfl
theorem s_sumGainsS (A : BargA h.2 a) (hr : Rok4 rod) {p : Nat} (hp : (h.1 a 0).toInt = (p : Int)) (p1 : 1 ≤ p ∧ p ≤ 4) (x : Int32) (j : Nat) (hx : x.toInt = (j : Int)) (hj : j < p) : Tc rod (d + 3) 139 [.inr (.inr (.inl (some 78))), .inr (.inr (.inl (some a))), .inl x] h (some (.inl (SG (h.1 (a + 1)) p j))) h := s_sumGains A hr hp p1 x j hx hj
theorem s_sumOfS (M : MBarg h a l) (L : Lay h.2) {p : Nat} (hp : (h.1 a 0).toInt = (p : Int)) (p1 : 1 ≤ p ∧ p ≤ 4) (x : Int32) (j : Nat) (hx : x.toInt = (j : Int)) (hj : j < p) : Tc rod (d + 2) 288 [.inr (.inr (.inl (some 84))), .inl x] h (some (.inl (SG (h.1 (a + 1)) p j))) h := s_sumOf M L hp p1 x j hx hj
theorem op_fair (hr : Rok4 rod) (k x u : Int32) : OpJ INV rod 138 287 [k, x, u] := by
  refine OpJ.mk fun h hI => ?_
  have L := hI.lay
  by_cases hk : 0 ≤ k.toInt ∧ k.toInt < (h.1 3 3).toInt
  · obtain ⟨A, R, hk2⟩ := hI.bargK hk
    have ek := n_of hk.1
    have at1 := fun (d : Nat) => s_bargainAt1 (rod := rod) (d := d) hI hk
    generalize k.toNatClampNeg = kk at ek hk2 A R at1
    have pa := R.pa
    obtain ⟨p, hp⟩ := Int.eq_ofNat_of_zero_le (show 0 ≤ (h.1 (24 + 18 * kk) 0).toInt by omega)
    have p1 : 1 ≤ p ∧ p ≤ 4 := by omega
    have hW := R.wb
    have f24 := fct24 (n := p) p1.2
    refine ⟨if 0 ≤ x.toInt ∧ x.toInt < (p : Int) then ((if u.toInt = 0 then SG (h.1 ((24 + 18 * kk) + 1)) p x.toNatClampNeg else Int32.ofNat (fctN p)) / Int32.ofNat (Nat.gcd (SG (h.1 ((24 + 18 * kk) + 1)) p x.toNatClampNeg).toInt.natAbs (fctN p))).toInt64 else -1000, ?_, fun h1 I1 K1 => ?_⟩
    · refine n_Main_fair ?_
      refine w_Main_fair_0 L (Tc.wc (at1 _)) (Is.k ?_)
      refine w_Main_fair_8 rfl (fun c => nomatch c) (fun _ _ => ?_)
      refine w_Main_fair_15 A (Tc.wc (s_hasParty A _)) (Is.k ?_)
      refine w_Main_fair_21 (fun kc21 => ?_) (fun kc21 => ?_)
      · (try simp only [ite01t, ite01v, Int32.reduceToInt, t_m1, t_m2, t_m1000, Decidable.not_not] at kc21); (try simp only [hp] at kc21)
        have hx := n_of (x := x) (by omega)
        have hi : x.toNatClampNeg < p := by omega
        have sb := SG_bd hW p1 hi
        have gp : 1 ≤ (Nat.gcd (SG (h.1 ((24 + 18 * kk) + 1)) p x.toNatClampNeg).toInt.natAbs (fctN p)) := Nat.gcd_pos_of_pos_right _ (by omega)
        have gl : (Nat.gcd (SG (h.1 ((24 + 18 * kk) + 1)) p x.toNatClampNeg).toInt.natAbs (fctN p)) ≤ fctN p := Nat.gcd_le_right _ (by omega)
        refine w_Main_fair_28 L (Tc.wc (s_sumGainsS A hr hp p1 x x.toNatClampNeg hx hi)) (Is.k ?_)
        refine w_Main_fair_38 L (Tc.wc (s_cOrders A hr hp p1)) (Is.k ?_)
        refine w_Main_fair_49 (Tc.wc (s_cDiv _ _ _ (fctN p) rfl (by omega) (t_nat (by omega)) (by omega) (by omega) _)) (Is.k ?_)
        refine w_Main_fair_58 rfl (fun kc58 => ?_) (fun kc58 => ?_)
        · (try simp only [ite01t, ite01v, Int32.reduceToInt, t_m1, t_m2, t_m1000, Decidable.not_not] at kc58); (try simp only [hp] at kc58)
          refine w_Main_fair_73 (fun w => by have := congrArg Int32.toInt w; rw [t_nat (by omega)] at this; have : _ = (0 : Int) := this; omega) ?_
          refine w_Main_fair_79 ?_
          exact ⟨by rw [if_pos (c := _ ∧ _) (by omega)]; first | rw [if_pos kc58] | rw [if_neg kc58], Keep.rfl⟩
        · (try simp only [ite01t, ite01v, Int32.reduceToInt, t_m1, t_m2, t_m1000, Decidable.not_not] at kc58); (try simp only [hp] at kc58)
          refine w_Main_fair_64 (fun w => by have := congrArg Int32.toInt w; rw [t_nat (by omega)] at this; have : _ = (0 : Int) := this; omega) ?_
          refine w_Main_fair_79 ?_
          exact ⟨by rw [if_pos (c := _ ∧ _) (by omega)]; first | rw [if_pos kc58] | rw [if_neg kc58], Keep.rfl⟩
      · (try simp only [ite01t, ite01v, Int32.reduceToInt, t_m1, t_m2, t_m1000, Decidable.not_not] at kc21); (try simp only [hp] at kc21)
        refine w_Main_fair_24 ?_
        exact ⟨by rw [if_neg (by omega)], Keep.rfl⟩
    · have L1 := I1.lay
      have hk1 : (kk : Int) < (h1.1 3 3).toInt := by rw [K1.c 3 (by omega)]; omega
      have is1 := fun (d : Nat) => s_isBargain1 (rod := rod) (d := d) I1 k kk ek hk1
      have R1 := (I1.barg kk hk1).2.1
      refine n_Model_fair ?_
      refine w_Model_fair_0 L1 (is1 _) ?_
      rintro _ h0 ⟨rfl, k0, M0⟩
      have I0 := I1.keep k0
      have L0 := I0.lay
      have K0 := (Keep.rfl (h := h1)).trans k0
      have e0 : h0.1 (24 + 18 * kk) = h.1 (24 + 18 * kk) := (K1.trans K0).c _ (by omega)
      have f0 : h0.1 (24 + 18 * kk + 1) = h.1 (24 + 18 * kk + 1) := (K1.trans K0).c _ (by omega)
      have hp0 : (h0.1 (24 + 18 * kk) 0).toInt = (p : Int) := by rw [e0]; exact hp
      have pe : (h0.1 84 43).toInt = (p : Int) := by rw [M0.2.2.2]; exact hp0
      have p9 : (h0.1 84 43 - 1).toInt = (p : Int) - 1 := by rw [i32_sub (by rw [pe]; show _ ≤ _ - (1 : Int); omega) (by rw [pe]; show _ - (1 : Int) ≤ _; omega), pe]; rfl
      refine w_Model_fair_5 (fun kc5 => absurd kc5 (by decide)) (fun kc5 => ?_)
      refine w_Model_fair_8 L0 (Tc.wc (s_isIn _ _ _ _)) (Is.k ?_)
      refine w_Model_fair_19 (fun kc19 => ?_) (fun kc19 => ?_)
      · (try simp only [ite01t, ite01v, Int32.reduceToInt, t_m1, t_m2, t_m1000, Decidable.not_not] at kc19); (try simp only [p9] at kc19)
        have hx := n_of (x := x) (by omega)
        have hi : x.toNatClampNeg < p := by omega
        have sb := SG_bd hW p1 hi
        have gp : 1 ≤ (Nat.gcd (SG (h.1 ((24 + 18 * kk) + 1)) p x.toNatClampNeg).toInt.natAbs (fctN p)) := Nat.gcd_pos_of_pos_right _ (by omega)
        have gl : (Nat.gcd (SG (h.1 ((24 + 18 * kk) + 1)) p x.toNatClampNeg).toInt.natAbs (fctN p)) ≤ fctN p := Nat.gcd_le_right _ (by omega)
        refine w_Model_fair_26 L0 (Tc.wc (s_sumOfS M0 L0 hp0 p1 x x.toNatClampNeg hx hi)) (Is.k ?_)
        rw [f0]
        refine w_Model_fair_31 L0 rfl (Tc.wc (s_orders _ p pe p1.2 _)) (Is.k ?_)
        refine w_Model_fair_41 rfl (fun kc41 => ?_) (fun kc41 => ?_)
        · (try simp only [ite01t, ite01v, Int32.reduceToInt, t_m1, t_m2, t_m1000, Decidable.not_not] at kc41); (try simp only [p9] at kc41)
          refine w_Model_fair_53 ?_
          refine w_Model_fair_55 (Tc.wc (s_common _ _ _ (fctN p) rfl (by rw [Int32.toInt_toInt64]; omega) (by rw [Int32.toInt_toInt64, t_nat (by omega)]) (by omega) (by omega) _)) (Is.k ?_)
          rw [Int32.toInt_toInt64]
          have jn : (Int64.ofNat (Nat.gcd (SG (h.1 ((24 + 18 * kk) + 1)) p x.toNatClampNeg).toInt.natAbs (fctN p))).toInt = ((Nat.gcd (SG (h.1 ((24 + 18 * kk) + 1)) p x.toNatClampNeg).toInt.natAbs (fctN p)) : Int) := Int64.toInt_ofNat_of_lt (by omega)
          refine w_Model_fair_62 (fun w => by rw [w] at jn; have : (0 : Int) = _ := jn; omega) ?_
          refine ⟨congrArg (fun z => some (Sum.inr (Sum.inl z))) (Int64.toInt_inj.mp ?_), K0⟩
          rw [if_pos (c := _ ∧ _) (by omega), Int32.toInt_toInt64]
          have jd : 0 < (Int64.ofNat (Nat.gcd (SG (h.1 ((24 + 18 * kk) + 1)) p x.toNatClampNeg).toInt.natAbs (fctN p))).toInt := by rw [jn]; omega
          have gN : (Int32.ofNat (Nat.gcd (SG (h.1 ((24 + 18 * kk) + 1)) p x.toNatClampNeg).toInt.natAbs (fctN p))).toInt = ((Nat.gcd (SG (h.1 ((24 + 18 * kk) + 1)) p x.toNatClampNeg).toInt.natAbs (fctN p)) : Int) := t_nat (by omega)
          have id : 0 < (Int32.ofNat (Nat.gcd (SG (h.1 ((24 + 18 * kk) + 1)) p x.toNatClampNeg).toInt.natAbs (fctN p))).toInt := by rw [gN]; omega
          first | (rw [if_pos kc41]; show (_ / Int64.ofNat (Nat.gcd (SG (h.1 ((24 + 18 * kk) + 1)) p x.toNatClampNeg).toInt.natAbs (fctN p))).toInt = _; rw [j_div jd, i32_div id, jn, gN, Int32.toInt_toInt64]) | (rw [if_neg kc41]; show (_ / Int64.ofNat (Nat.gcd (SG (h.1 ((24 + 18 * kk) + 1)) p x.toNatClampNeg).toInt.natAbs (fctN p))).toInt = _; rw [j_div jd, i32_div id, jn, gN, Int32.toInt_toInt64])
        · (try simp only [ite01t, ite01v, Int32.reduceToInt, t_m1, t_m2, t_m1000, Decidable.not_not] at kc41); (try simp only [p9] at kc41)
          refine w_Model_fair_48 ?_
          refine w_Model_fair_55 (Tc.wc (s_common _ _ _ (fctN p) rfl (by rw [Int32.toInt_toInt64]; omega) (by rw [Int32.toInt_toInt64, t_nat (by omega)]) (by omega) (by omega) _)) (Is.k ?_)
          rw [Int32.toInt_toInt64]
          have jn : (Int64.ofNat (Nat.gcd (SG (h.1 ((24 + 18 * kk) + 1)) p x.toNatClampNeg).toInt.natAbs (fctN p))).toInt = ((Nat.gcd (SG (h.1 ((24 + 18 * kk) + 1)) p x.toNatClampNeg).toInt.natAbs (fctN p)) : Int) := Int64.toInt_ofNat_of_lt (by omega)
          refine w_Model_fair_62 (fun w => by rw [w] at jn; have : (0 : Int) = _ := jn; omega) ?_
          refine ⟨congrArg (fun z => some (Sum.inr (Sum.inl z))) (Int64.toInt_inj.mp ?_), K0⟩
          rw [if_pos (c := _ ∧ _) (by omega), Int32.toInt_toInt64]
          have jd : 0 < (Int64.ofNat (Nat.gcd (SG (h.1 ((24 + 18 * kk) + 1)) p x.toNatClampNeg).toInt.natAbs (fctN p))).toInt := by rw [jn]; omega
          have gN : (Int32.ofNat (Nat.gcd (SG (h.1 ((24 + 18 * kk) + 1)) p x.toNatClampNeg).toInt.natAbs (fctN p))).toInt = ((Nat.gcd (SG (h.1 ((24 + 18 * kk) + 1)) p x.toNatClampNeg).toInt.natAbs (fctN p)) : Int) := t_nat (by omega)
          have id : 0 < (Int32.ofNat (Nat.gcd (SG (h.1 ((24 + 18 * kk) + 1)) p x.toNatClampNeg).toInt.natAbs (fctN p))).toInt := by rw [gN]; omega
          first | (rw [if_pos kc41]; show (_ / Int64.ofNat (Nat.gcd (SG (h.1 ((24 + 18 * kk) + 1)) p x.toNatClampNeg).toInt.natAbs (fctN p))).toInt = _; rw [j_div jd, i32_div id, jn, gN, Int32.toInt_toInt64]) | (rw [if_neg kc41]; show (_ / Int64.ofNat (Nat.gcd (SG (h.1 ((24 + 18 * kk) + 1)) p x.toNatClampNeg).toInt.natAbs (fctN p))).toInt = _; rw [j_div jd, i32_div id, jn, gN, Int32.toInt_toInt64])
      · (try simp only [ite01t, ite01v, Int32.reduceToInt, t_m1, t_m2, t_m1000, Decidable.not_not] at kc19); (try simp only [p9] at kc19)
        refine w_Model_fair_22 ?_
        exact ⟨by rw [if_neg (by omega)], K0⟩
  · refine ⟨-1000, ?_, fun h1 I1 K1 => ?_⟩
    · refine n_Main_fair ?_
      refine w_Main_fair_0 L (Tc.wc (s_bargainAt0 hI hk)) (Is.k ?_)
      refine w_Main_fair_8 rfl (fun _ => ?_) (fun _ c => nomatch c)
      refine w_Main_fair_24 ?_
      exact ⟨rfl, Keep.rfl⟩
    · have L1 := I1.lay
      have hk1 : ¬ (0 ≤ k.toInt ∧ k.toInt < (h1.1 3 3).toInt) := by rw [K1.c 3 (by omega)]; exact hk
      refine n_Model_fair ?_
      refine w_Model_fair_0 L1 (Tc.wc (s_isBargain0 I1 k hk1)) (Is.k ?_)
      refine w_Model_fair_5 (fun kc5 => ?_) (fun kc5 => absurd kc5 (by decide))
      refine w_Model_fair_22 ?_
      exact ⟨rfl, Keep.rfl⟩
end M52
