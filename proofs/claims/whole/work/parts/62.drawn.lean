/-! OPERATION drawn -/
section M62
variable {rod : Nat → Nat × (Nat → Int32)} {d : Nat} {h : MH} {a l n k : Nat} {S : SSt} {D : Nat → Nat → Int32}
def nxS (x : Int32) : Int32 := x * 1103515245 + 12345
def shU (x : Int32) : Int32 := (x.toUInt32 >>> ((16 : Int32).toUInt32 &&& Int32.toUInt32 31)).toInt32
def drV (x m : Int32) : Int32 := shU x - shU x / m * m
theorem shU_b (x : Int32) : 0 ≤ (shU x).toInt ∧ (shU x).toInt ≤ 65535 := by
  have e : ((16 : Int32).toUInt32 &&& Int32.toUInt32 31) = 16 := by decide
  unfold shU
  rw [e]
  have lt : (x.toUInt32 >>> 16).toBitVec.toNat < 65536 := by
    show (x.toUInt32 >>> 16).toNat < 65536
    rw [UInt32.toNat_shiftRight]
    show x.toUInt32.toNat >>> 16 < 65536
    rw [Nat.shiftRight_eq_div_pow]
    have := x.toUInt32.toNat_lt
    omega
  show 0 ≤ (x.toUInt32 >>> 16).toBitVec.toInt ∧ (x.toUInt32 >>> 16).toBitVec.toInt ≤ 65535
  rw [BitVec.toInt_eq_toNat_of_lt (by omega)]
  omega
theorem drV_b {x m : Int32} (hm : 0 < m.toInt) : 0 ≤ (drV x m).toInt ∧ (drV x m).toInt < m.toInt := by
  obtain ⟨q, hq⟩ := Int.eq_ofNat_of_zero_le (Int.le_of_lt hm)
  have e := dv_r (x := shU x) (k := m) (n := q) hq (by omega) (shU_b x).1
  rw [drV, e, hq]
  exact ⟨Int.emod_nonneg _ (by omega), Int.emod_lt_of_pos _ (by omega)⟩
def saleD (D : Nat → Nat → Int32) (n k : Nat) (x : Int32) (S : SSt) : Int32 × SSt := if n = 0 then (x, S) else if k = 0 then (nxS x, S) else (nxS (nxS x), (actF D n k 0 (drV (nxS x) (D 0 4)) (drV (nxS (nxS x)) (D 0 5)) S).getD S)
def sinD (D : Nat → Nat → Int32) (n k : Nat) (x : Int32) (S : SSt) : Int32 × SSt := if n = 0 then (x, S) else (nxS (nxS x), (actF D n k 1 (drV (nxS x) (D 0 4)) (1 + drV (nxS (nxS x)) 9) S).getD S)
def drF (D : Nat → Nat → Int32) (n k : Nat) (x : Int32) (S : SSt) : Int32 × SSt := if (drV (nxS x) 8).toInt = 0 then (nxS (nxS x), (actF D n k 2 (drV (nxS (nxS x)) (D 0 0)) (-1) S).getD S) else if (drV (nxS x) 8).toInt = 5 then sinD D n k (nxS x) S else if (drV (nxS x) 8).toInt = 6 then (nxS x, (actF D n k 5 (-1) (-1) S).getD S) else if (drV (nxS x) 8).toInt = 7 then (nxS x, (actF D n k 6 (-1) (-1) S).getD S) else saleD D n k (nxS x) S
def drI (D : Nat → Nat → Int32) (n k : Nat) (x : Int32) : Nat → Int32 × SSt
  | 0 => (x, startS D)
  | j + 1 => drF D n k (drI D n k x j).1 (drI D n k x j).2
theorem actF_0 {x y : Int32} : actF D n k 0 x y S = sellF D n k S x y := rfl
theorem actF_1 {x y : Int32} : actF D n k 1 x y S = sinF n S x y := rfl
theorem actF_2 {x y : Int32} : actF D n k 2 x y S = goF D S x := rfl
theorem actF_5 {x y : Int32} : (actF D n k 5 x y S).getD S = doubtS n S := rfl
theorem actF_6 {x y : Int32} : (actF D n k 6 x y S).getD S = jubS n S := rfl
/-- the town is one, and the numbers are bounded, behind a deed that may not be -/
def DOk (D : Nat → Nat → Int32) (j n : Nat) (S : SSt) : Prop := (0 ≤ (S.1 1).toInt ∧ (S.1 1).toInt < (D 0 0).toInt) ∧ SBd j n S
theorem DOk.weak {j : Nat} (o : DOk D j n S) : DOk D (j + 1) n S := ⟨o.1, fun b hb => by have := o.2 b hb; omega⟩
theorem DOk.act {j : Nat} {w x y : Int32} (o : DOk D j n S) (hj : j ≤ 98) (hY : ∀ t, t < k → 1 ≤ (D 6 t).toInt ∧ (D 6 t).toInt ≤ 60) (hy : w.toInt = 1 → 0 ≤ y.toInt ∧ y.toInt ≤ 60) : DOk D (j + 1) n ((actF D n k w x y S).getD S) := by
  cases e : actF D n k w x y S with
  | none => exact o.weak
  | some S' => exact ⟨actF_tw e o.1, actF_bd e o.2 hj hY hy⟩
theorem DOk.dr {j : Nat} {x : Int32} (o : DOk D j n S) (hj : j ≤ 98) (hY : ∀ t, t < k → 1 ≤ (D 6 t).toInt ∧ (D 6 t).toInt ≤ 60) : DOk D (j + 1) n (drF D n k x S).2 := by
  have nine : ∀ z, 0 ≤ (1 + drV z 9).toInt ∧ (1 + drV z 9).toInt ≤ 60 := by
    intro z
    have q := drV_b (x := z) (m := 9) (by decide)
    have q9 : (9 : Int32).toInt = 9 := rfl
    rw [i32_add (by show _ ≤ (1 : Int) + _; omega) (by show (1 : Int) + _ ≤ _; omega)]
    show 0 ≤ (1 : Int) + _ ∧ (1 : Int) + _ ≤ 60
    omega
  unfold drF
  split
  · exact o.act hj hY (fun q => absurd q (by decide))
  · split
    · unfold sinD
      split
      · exact o.weak
      · exact o.act hj hY (fun _ => nine _)
    · split
      · exact o.act (w := 5) (x := -1) (y := -1) hj hY (fun q => absurd q (by decide))
      · split
        · exact o.act (w := 6) (x := -1) (y := -1) hj hY (fun q => absurd q (by decide))
        · unfold saleD
          split
          · exact o.weak
          · split
            · exact o.weak
            · exact o.act hj hY (fun q => absurd q (by decide))
theorem drI_ok {x : Int32} (o : DOk D 0 n (startS D)) (hY : ∀ t, t < k → 1 ≤ (D 6 t).toInt ∧ (D 6 t).toInt ≤ 60) : ∀ j, j ≤ 98 → DOk D j n (drI D n k x j).2 := by
  intro j
  induction j with
  | zero => intro _; exact o
  | succ j ih => intro hj; exact (ih (by omega)).dr (by omega) hY
set_option maxRecDepth 20000 in
theorem okW : okY [(9, 7)] [24, 65, 66, 68, 70, 77, 80, 81, 82, 83, 84, 86, 87] = true := by decide +kernel
set_option maxRecDepth 20000 in
theorem okM : okY [(12, 45)] [193, 220, 221, 222, 223, 224, 225, 227, 228, 233, 234, 235, 236, 237, 238, 239] = true := by decide +kernel
theorem pr65 {h h' : MH} (L : Lay h.2) (p : Pr [(9, 7)] h h') : h'.1 65 7 = h.1 65 7 := p.2 65 9 7 (by decide) (Lay.o65 L)
theorem pr84 {h h' : MH} (L : Lay h.2) (p : Pr [(12, 45)] h h') : h'.1 84 45 = h.1 84 45 := p.2 84 12 45 (by decide) (Lay.o84 L)
theorem SimC.s7 {v : Int32} (Q : SimC h S n) : SimC (sI h 65 7 v) S n := ⟨fun i hi => by rw [sI_nj (by omega)]; exact Q.1 i hi, fun c b hc hb => by rw [sI_nc (by omega)]; exact Q.2 c b hc hb⟩
theorem SimM.s45 {v : Int32} (Q : SimM h S n) : SimM (sI h 84 45 v) S n := ⟨fun i hi => by rw [sI_nj (by omega)]; exact Q.1 i hi, fun c b hc hb => by rw [sI_nc (by omega)]; exact Q.2 c b hc hb⟩
theorem Keep.s7 {v : Int32} : Keep h (sI h 65 7 v) := Keep.rfl.si (scrI 65 (by omega))
theorem Keep.s45 {v : Int32} : Keep h (sI h 84 45 v) := Keep.rfl.si (scrI 84 (by omega))
theorem ne0 {m : Int32} (hm : 0 < m.toInt) : m ≠ 0 := fun e => by rw [e] at hm; exact absurd hm (by decide)
theorem c_draw (L : Lay h.2) (m : Int32) (hm : 0 < m.toInt) : Wc rod (d + 1) 148 [.inr (.inr (.inl (some 65))), .inl m] h (fun r h' => r = some (.inl (drV (nxS (h.1 65 7)) m)) ∧ h' = sI h 65 7 (nxS (h.1 65 7))) := by
  refine n_Walk_draw ?_
  refine w_Walk_draw_0 L ?_
  refine w_Walk_draw_15 (fun kc15 => absurd kc15 (by show ¬ _ ≤ (0 : Int); omega)) (fun kc15 => ?_)
  refine w_Walk_draw_19 L (ne0 hm) ?_
  refine w_Walk_draw_32 ?_
  refine ⟨?_, rfl⟩
  rw [sI_same]
  rfl
theorem r_below (L : Lay h.2) (m : Int32) (hm : 0 < m.toInt) : Wc rod (d + 1) 299 [.inr (.inr (.inl (some 84))), .inl m] h (fun r h' => r = some (.inl (drV (nxS (h.1 84 45)) m)) ∧ h' = sI h 84 45 (nxS (h.1 84 45))) := by
  refine n_Model_below ?_
  refine w_Model_below_0 L ?_
  refine w_Model_below_16 L (ne0 hm) ?_
  refine ⟨?_, rfl⟩
  rw [sI_same]
  rfl
theorem c_sale (Q : SimC h S n) (L : Lay h.2) (A : LandA h.2 a) (ha : a + 9 ≤ 45) (hn : (h.1 a 4).toInt = (n : Int)) (n8 : n ≤ 8) (hk : (h.1 a 5).toInt = (k : Int)) (k4 : k ≤ 4) (hT : 1 ≤ (h.1 a 0).toInt ∧ (h.1 a 0).toInt ≤ 6) (tw : 0 ≤ (S.1 1).toInt ∧ (S.1 1).toInt < (h.1 a 0).toInt) : Wc rod (d + 3) 150 [.inr (.inr (.inl (some 65))), .inr (.inr (.inl (some a)))] h (fun r h' => Keep h h' ∧ r = none ∧ SimC h' (saleD (ld h a) n k (h.1 65 7) S).2 n ∧ h'.1 65 7 = (saleD (ld h a) n k (h.1 65 7) S).1) := by
  refine n_Walk_drawSale ?_
  refine w_Walk_drawSale_0 A (fun kc0 => ?_) (fun kc0 => ?_)
  · (try simp only [ite01t, ite01v, Int32.reduceToInt, t_m1, t_m2, t_m1000, Decidable.not_not] at kc0); (try simp only [hn] at kc0); (try simp only [hk] at kc0)
    refine w_Walk_drawSale_8 A L (c_draw L (h.1 a 4) (by omega)) ?_
    rintro _ _ ⟨rfl, rfl⟩
    have K8 := (Keep.rfl (h := h)).trans (Keep.s7 (h := h) (v := nxS (h.1 65 7)))
    have L8 := L.keep K8
    have Q8 := (Q).s7 (v := nxS (h.1 65 7))
    have A8 := A.keep K8
    have s8 : (sI h 65 7 (nxS (h.1 65 7))).1 65 7 = nxS (h.1 65 7) := sI_same
    generalize hg8 : sI h 65 7 (nxS (h.1 65 7)) = h8 at *
    refine w_Walk_drawSale_16 A8 (fun kc16 => ?_) (fun kc16 => ?_)
    · (try simp only [ite01t, ite01v, Int32.reduceToInt, t_m1, t_m2, t_m1000, Decidable.not_not] at kc16); (try simp only [hn] at kc16); (try simp only [hk] at kc16)
      (try simp only [K8.c a (by omega), hk] at kc16)
      refine w_Walk_drawSale_25 A8 L8 (c_draw L8 (h8.1 a 5) (by rw [K8.c a (by omega)]; omega)) ?_
      rintro _ _ ⟨rfl, rfl⟩
      have K25 := K8.trans (Keep.s7 (h := h8) (v := nxS (h8.1 65 7)))
      have L25 := L.keep K25
      have Q25 := (Q8).s7 (v := nxS (h8.1 65 7))
      have A25 := A.keep K25
      have s25 : (sI h8 65 7 (nxS (h8.1 65 7))).1 65 7 = nxS (h8.1 65 7) := sI_same
      generalize hg25 : sI h8 65 7 (nxS (h8.1 65 7)) = h25 at *
      refine w_Walk_drawSale_36 L25 (Wc.fr okW (by decide) (c_sell (k := k) Q25 L25 A25 ha (by rw [K25.c a (by omega)]; exact hn) n8 (by rw [K25.c a (by omega)]; exact hk) k4 _ _)) ?_
      rintro _ h36 ⟨⟨k36, rfl, Q36⟩, p36⟩
      rw [ldk K25 ha, ← actF_0] at Q36
      have f36 := pr65 L25 p36
      refine w_Walk_drawSale_39 ?_
      refine ⟨K25.trans k36, rfl, ?_, ?_⟩ <;> rw [saleD, if_neg (by omega), if_neg (by omega)]
      · rw [s8, K8.c a (by omega)] at Q36; exact Q36
      · rw [f36, s25, s8]
    · (try simp only [ite01t, ite01v, Int32.reduceToInt, t_m1, t_m2, t_m1000, Decidable.not_not] at kc16); (try simp only [hn] at kc16); (try simp only [hk] at kc16)
      (try simp only [K8.c a (by omega), hk] at kc16)
      refine w_Walk_drawSale_24 ?_
      refine ⟨K8, rfl, ?_, ?_⟩ <;> rw [saleD, if_neg (by omega), if_pos (by omega)]
      · exact Q8
      · exact s8
  · (try simp only [ite01t, ite01v, Int32.reduceToInt, t_m1, t_m2, t_m1000, Decidable.not_not] at kc0); (try simp only [hn] at kc0); (try simp only [hk] at kc0)
    refine w_Walk_drawSale_7 ?_
    refine ⟨Keep.rfl, rfl, ?_, ?_⟩ <;> rw [saleD, if_pos (by omega)]
    exact Q
theorem c_sins (Q : SimC h S n) (L : Lay h.2) (A : LandA h.2 a) (ha : a + 9 ≤ 45) (hn : (h.1 a 4).toInt = (n : Int)) (n8 : n ≤ 8) (hk : (h.1 a 5).toInt = (k : Int)) (k4 : k ≤ 4) (hT : 1 ≤ (h.1 a 0).toInt ∧ (h.1 a 0).toInt ≤ 6) (tw : 0 ≤ (S.1 1).toInt ∧ (S.1 1).toInt < (h.1 a 0).toInt) : Wc rod (d + 3) 149 [.inr (.inr (.inl (some 65))), .inr (.inr (.inl (some a)))] h (fun r h' => Keep h h' ∧ r = none ∧ SimC h' (sinD (ld h a) n k (h.1 65 7) S).2 n ∧ h'.1 65 7 = (sinD (ld h a) n k (h.1 65 7) S).1) := by
  refine n_Walk_drawSin ?_
  refine w_Walk_drawSin_0 A (fun kc0 => ?_) (fun kc0 => ?_)
  · (try simp only [ite01t, ite01v, Int32.reduceToInt, t_m1, t_m2, t_m1000, Decidable.not_not] at kc0); (try simp only [hn] at kc0); (try simp only [hk] at kc0)
    refine w_Walk_drawSin_8 A L (c_draw L (h.1 a 4) (by omega)) ?_
    rintro _ _ ⟨rfl, rfl⟩
    have K8 := (Keep.rfl (h := h)).trans (Keep.s7 (h := h) (v := nxS (h.1 65 7)))
    have L8 := L.keep K8
    have Q8 := (Q).s7 (v := nxS (h.1 65 7))
    have A8 := A.keep K8
    have s8 : (sI h 65 7 (nxS (h.1 65 7))).1 65 7 = nxS (h.1 65 7) := sI_same
    generalize hg8 : sI h 65 7 (nxS (h.1 65 7)) = h8 at *
    refine w_Walk_drawSin_16 L8 (c_draw L8 9 (by decide)) ?_
    rintro _ _ ⟨rfl, rfl⟩
    have K16 := K8.trans (Keep.s7 (h := h8) (v := nxS (h8.1 65 7)))
    have L16 := L.keep K16
    have Q16 := (Q8).s7 (v := nxS (h8.1 65 7))
    have A16 := A.keep K16
    have s16 : (sI h8 65 7 (nxS (h8.1 65 7))).1 65 7 = nxS (h8.1 65 7) := sI_same
    generalize hg16 : sI h8 65 7 (nxS (h8.1 65 7)) = h16 at *
    refine w_Walk_drawSin_27 L16 (Wc.fr okW (by decide) (c_sin Q16 L16 A16 ha (by rw [K16.c a (by omega)]; exact hn) n8 _ _)) ?_
    rintro _ h27 ⟨⟨k27, rfl, Q27⟩, p27⟩
    rw [← actF_1 (D := ld h a) (k := k)] at Q27
    have f27 := pr65 L16 p27
    refine w_Walk_drawSin_31 ?_
    refine ⟨K16.trans k27, rfl, ?_, ?_⟩ <;> rw [sinD, if_neg (by omega)]
    · rw [s8] at Q27; exact Q27
    · rw [f27, s16, s8]
  · (try simp only [ite01t, ite01v, Int32.reduceToInt, t_m1, t_m2, t_m1000, Decidable.not_not] at kc0); (try simp only [hn] at kc0); (try simp only [hk] at kc0)
    refine w_Walk_drawSin_7 ?_
    refine ⟨Keep.rfl, rfl, ?_, ?_⟩ <;> rw [sinD, if_pos (by omega)]
    exact Q
theorem c_drdeed (Q : SimC h S n) (L : Lay h.2) (A : LandA h.2 a) (ha : a + 9 ≤ 45) (hn : (h.1 a 4).toInt = (n : Int)) (n8 : n ≤ 8) (hk : (h.1 a 5).toInt = (k : Int)) (k4 : k ≤ 4) (hT : 1 ≤ (h.1 a 0).toInt ∧ (h.1 a 0).toInt ≤ 6) (tw : 0 ≤ (S.1 1).toInt ∧ (S.1 1).toInt < (h.1 a 0).toInt) : Wc rod (d + 4) 147 [.inr (.inr (.inl (some 65))), .inr (.inr (.inl (some a)))] h (fun r h' => Keep h h' ∧ r = none ∧ SimC h' (drF (ld h a) n k (h.1 65 7) S).2 n ∧ h'.1 65 7 = (drF (ld h a) n k (h.1 65 7) S).1) := by
  refine n_Walk_drawDeed ?_
  refine w_Walk_drawDeed_0 L (c_draw L 8 (by decide)) ?_
  rintro _ _ ⟨rfl, rfl⟩
  have K0 := (Keep.rfl (h := h)).trans (Keep.s7 (h := h) (v := nxS (h.1 65 7)))
  have L0 := L.keep K0
  have Q0 := (Q).s7 (v := nxS (h.1 65 7))
  have A0 := A.keep K0
  have s0 : (sI h 65 7 (nxS (h.1 65 7))).1 65 7 = nxS (h.1 65 7) := sI_same
  generalize hg0 : sI h 65 7 (nxS (h.1 65 7)) = h0 at *
  refine w_Walk_drawDeed_6 rfl (fun kc6 => ?_) (fun kc6 => ?_) (fun kc6 => ?_) (fun kc6 => ?_) (fun kc6 => ?_) (fun kc6 => ?_) (fun kc6 => ?_) (fun kc6 => ?_) (fun kc6_0 kc6_1 kc6_2 kc6_3 kc6_4 kc6_5 kc6_6 kc6_7 => ?_)
  · (try simp only [hn] at kc6); (try simp only [hk] at kc6)
    refine w_Walk_drawDeed_56 A0 L0 (c_draw L0 (h0.1 a 0) (by rw [K0.c a (by omega)]; omega)) ?_
    rintro _ _ ⟨rfl, rfl⟩
    have K56 := K0.trans (Keep.s7 (h := h0) (v := nxS (h0.1 65 7)))
    have L56 := L.keep K56
    have Q56 := (Q0).s7 (v := nxS (h0.1 65 7))
    have A56 := A.keep K56
    have s56 : (sI h0 65 7 (nxS (h0.1 65 7))).1 65 7 = nxS (h0.1 65 7) := sI_same
    generalize hg56 : sI h0 65 7 (nxS (h0.1 65 7)) = h56 at *
    refine w_Walk_drawDeed_66 L56 (Wc.fr okW (by decide) (c_go Q56 L56 A56 ha (by rw [K56.c a (by omega)]; omega) (by rw [K56.c a (by omega)]; exact tw) _)) ?_
    rintro _ h66 ⟨⟨k66, rfl, Q66⟩, p66⟩
    rw [ldk K56 ha, ← actF_2 (n := n) (k := k) (y := -1)] at Q66
    have f66 := pr65 L56 p66
    refine w_Walk_drawDeed_69 ?_
    refine w_Walk_drawDeed_104 ?_
    refine ⟨K56.trans k66, rfl, ?_, ?_⟩ <;> rw [drF, if_pos (by omega)]
    · rw [s0, K0.c a (by omega)] at Q66; exact Q66
    · rw [f66, s56, s0]
  · (try simp only [hn] at kc6); (try simp only [hk] at kc6)
    refine w_Walk_drawDeed_99 L0 (c_sale (k := k) Q0 L0 A0 ha (by rw [K0.c a (by omega)]; exact hn) n8 (by rw [K0.c a (by omega)]; exact hk) k4 (by rw [K0.c a (by omega)]; exact hT) (by rw [K0.c a (by omega)]; exact tw)) ?_
    rintro _ h99 ⟨k99, rfl, Q99, f99⟩
    rw [ldk K0 ha, s0] at Q99 f99
    refine w_Walk_drawDeed_104 ?_
    have b8 := drV_b (x := nxS (h.1 65 7)) (m := 8) (by decide)
    refine ⟨K0.trans k99, rfl, ?_, ?_⟩ <;> rw [drF, if_neg (by omega), if_neg (by omega), if_neg (by omega), if_neg (by omega)]
    · exact Q99
    · exact f99
  · (try simp only [hn] at kc6); (try simp only [hk] at kc6)
    refine w_Walk_drawDeed_99 L0 (c_sale (k := k) Q0 L0 A0 ha (by rw [K0.c a (by omega)]; exact hn) n8 (by rw [K0.c a (by omega)]; exact hk) k4 (by rw [K0.c a (by omega)]; exact hT) (by rw [K0.c a (by omega)]; exact tw)) ?_
    rintro _ h99 ⟨k99, rfl, Q99, f99⟩
    rw [ldk K0 ha, s0] at Q99 f99
    refine w_Walk_drawDeed_104 ?_
    have b8 := drV_b (x := nxS (h.1 65 7)) (m := 8) (by decide)
    refine ⟨K0.trans k99, rfl, ?_, ?_⟩ <;> rw [drF, if_neg (by omega), if_neg (by omega), if_neg (by omega), if_neg (by omega)]
    · exact Q99
    · exact f99
  · (try simp only [hn] at kc6); (try simp only [hk] at kc6)
    refine w_Walk_drawDeed_99 L0 (c_sale (k := k) Q0 L0 A0 ha (by rw [K0.c a (by omega)]; exact hn) n8 (by rw [K0.c a (by omega)]; exact hk) k4 (by rw [K0.c a (by omega)]; exact hT) (by rw [K0.c a (by omega)]; exact tw)) ?_
    rintro _ h99 ⟨k99, rfl, Q99, f99⟩
    rw [ldk K0 ha, s0] at Q99 f99
    refine w_Walk_drawDeed_104 ?_
    have b8 := drV_b (x := nxS (h.1 65 7)) (m := 8) (by decide)
    refine ⟨K0.trans k99, rfl, ?_, ?_⟩ <;> rw [drF, if_neg (by omega), if_neg (by omega), if_neg (by omega), if_neg (by omega)]
    · exact Q99
    · exact f99
  · (try simp only [hn] at kc6); (try simp only [hk] at kc6)
    refine w_Walk_drawDeed_99 L0 (c_sale (k := k) Q0 L0 A0 ha (by rw [K0.c a (by omega)]; exact hn) n8 (by rw [K0.c a (by omega)]; exact hk) k4 (by rw [K0.c a (by omega)]; exact hT) (by rw [K0.c a (by omega)]; exact tw)) ?_
    rintro _ h99 ⟨k99, rfl, Q99, f99⟩
    rw [ldk K0 ha, s0] at Q99 f99
    refine w_Walk_drawDeed_104 ?_
    have b8 := drV_b (x := nxS (h.1 65 7)) (m := 8) (by decide)
    refine ⟨K0.trans k99, rfl, ?_, ?_⟩ <;> rw [drF, if_neg (by omega), if_neg (by omega), if_neg (by omega), if_neg (by omega)]
    · exact Q99
    · exact f99
  · (try simp only [hn] at kc6); (try simp only [hk] at kc6)
    refine w_Walk_drawDeed_73 L0 (c_sins (k := k) Q0 L0 A0 ha (by rw [K0.c a (by omega)]; exact hn) n8 (by rw [K0.c a (by omega)]; exact hk) k4 (by rw [K0.c a (by omega)]; exact hT) (by rw [K0.c a (by omega)]; exact tw)) ?_
    rintro _ h73 ⟨k73, rfl, Q73, f73⟩
    rw [ldk K0 ha, s0] at Q73 f73
    refine w_Walk_drawDeed_78 ?_
    refine w_Walk_drawDeed_104 ?_
    refine ⟨K0.trans k73, rfl, ?_, ?_⟩ <;> rw [drF, if_neg (by omega), if_pos (by omega)]
    · exact Q73
    · exact f73
  · (try simp only [hn] at kc6); (try simp only [hk] at kc6)
    refine w_Walk_drawDeed_81 L0 (Wc.fr okW (by decide) (c_doubt Q0 L0 A0 ha (by rw [K0.c a (by omega)]; exact hn) n8)) ?_
    rintro _ h81 ⟨⟨k81, rfl, Q81⟩, p81⟩
    have f81 := pr65 L0 p81
    refine w_Walk_drawDeed_86 ?_
    refine w_Walk_drawDeed_104 ?_
    refine ⟨K0.trans k81, rfl, ?_, ?_⟩ <;> rw [drF, if_neg (by omega), if_neg (by omega), if_pos (by omega)]
    · exact Q81
    · rw [f81, s0]
  · (try simp only [hn] at kc6); (try simp only [hk] at kc6)
    refine w_Walk_drawDeed_90 L0 (Wc.fr okW (by decide) (c_jub Q0 L0 A0 ha (by rw [K0.c a (by omega)]; exact hn) n8)) ?_
    rintro _ h90 ⟨⟨k90, rfl, Q90⟩, p90⟩
    have f90 := pr65 L0 p90
    refine w_Walk_drawDeed_95 ?_
    refine w_Walk_drawDeed_104 ?_
    refine ⟨K0.trans k90, rfl, ?_, ?_⟩ <;> rw [drF, if_neg (by omega), if_neg (by omega), if_neg (by omega), if_pos (by omega)]
    · exact Q90
    · rw [f90, s0]
  · (try simp only [hn] at kc6_0 kc6_1 kc6_2 kc6_3 kc6_4 kc6_5 kc6_6 kc6_7); (try simp only [hk] at kc6_0 kc6_1 kc6_2 kc6_3 kc6_4 kc6_5 kc6_6 kc6_7)
    refine w_Walk_drawDeed_99 L0 (c_sale (k := k) Q0 L0 A0 ha (by rw [K0.c a (by omega)]; exact hn) n8 (by rw [K0.c a (by omega)]; exact hk) k4 (by rw [K0.c a (by omega)]; exact hT) (by rw [K0.c a (by omega)]; exact tw)) ?_
    rintro _ h99 ⟨k99, rfl, Q99, f99⟩
    rw [ldk K0 ha, s0] at Q99 f99
    refine w_Walk_drawDeed_104 ?_
    have b8 := drV_b (x := nxS (h.1 65 7)) (m := 8) (by decide)
    refine ⟨K0.trans k99, rfl, ?_, ?_⟩ <;> rw [drF, if_neg (by omega), if_neg (by omega), if_neg (by omega), if_neg (by omega)]
    · exact Q99
    · exact f99
theorem c_drdeeds (L : Lay h.2) (A : LandA h.2 a) (ha : a + 9 ≤ 45) (hn : (h.1 a 4).toInt = (n : Int)) (n8 : n ≤ 8) (hk : (h.1 a 5).toInt = (k : Int)) (k4 : k ≤ 4) (hT : 1 ≤ (h.1 a 0).toInt ∧ (h.1 a 0).toInt ≤ 6) (o0 : DOk (ld h a) 0 n (startS (ld h a))) (hY : ∀ t, t < k → 1 ≤ (ld h a 6 t).toInt ∧ (ld h a 6 t).toInt ≤ 60) (x N : Int32) (m : Nat) (hN : N.toInt = (m : Int)) (m60 : m ≤ 60) : Wc rod (d + 5) 146 [.inr (.inr (.inl (some 65))), .inr (.inr (.inl (some a))), .inl x, .inl N] h (fun r h' => Keep h h' ∧ r = none ∧ SimC h' (drI (ld h a) n k x m).2 n) := by
  refine n_Walk_drawDeeds ?_
  refine w_Walk_drawDeeds_0 L (c_begin L A ha n8) ?_
  rintro _ h0 ⟨rfl, k0, Q0⟩
  refine w_Walk_drawDeeds_5 (L.keep k0) ?_
  refine w_Walk_drawDeeds_10 rfl ?_
  refine Wb.uph m (fun j L' h' => ∃ (z : Int32), L' = [some (.inr (.inr (.inl (some 65)))), some (.inr (.inr (.inl (some a)))), some (.inl x), some (.inl N), some (.inl z)] ∧ z.toInt = (j : Int) ∧ Keep h h' ∧ SimC h' (drI (ld h a) n k x j).2 n ∧ h'.1 65 7 = (drI (ld h a) n k x j).1) ?_ (Nat.zero_le _) ⟨0, rfl, rfl, k0.trans Keep.s7, Q0.s7, sI_same⟩
  rintro j _ g hj ⟨z, rfl, hz, K, Qg, hx⟩ ih
  have Lg := L.keep K
  have Ag := A.keep K
  have ea := K.c a (by omega)
  have ok := drI_ok (x := x) o0 hY j (by omega)
  refine w_Walk_drawDeeds_13 (fun kc13 => ?_) (fun kc13 => ?_)
  · try simp only [ite01t, ite01v, Int32.reduceToInt, t_m1, t_m2, t_m1000, Decidable.not_not] at kc13
    refine w_Walk_drawDeeds_30 ?_
    have : j = m := by omega
    subst this
    exact ⟨K, rfl, Qg⟩
  · try simp only [ite01t, ite01v, Int32.reduceToInt, t_m1, t_m2, t_m1000, Decidable.not_not] at kc13
    refine w_Walk_drawDeeds_19 Lg (c_drdeed (k := k) Qg Lg Ag ha (by rw [ea]; exact hn) n8 (by rw [ea]; exact hk) k4 (by rw [ea]; exact hT) (by rw [ea]; exact ok.1)) ?_
    rintro _ h19 ⟨k19, rfl, Q19, f19⟩
    rw [ldk K ha, hx] at Q19 f19
    refine w_Walk_drawDeeds_24 rfl ?_
    exact ih (by omega) _ _ ⟨_, rfl, t_succ hz (by omega), K.trans k19, Q19, f19⟩
theorem r_draws (Q : SimM h S n) (M : MLand h a l) (L : Lay h.2) (ha : a + 9 ≤ 45) (hn : (h.1 a 4).toInt = (n : Int)) (n8 : n ≤ 8) (hk : (h.1 a 5).toInt = (k : Int)) (k4 : k ≤ 4) (tw : 0 ≤ (S.1 1).toInt ∧ (S.1 1).toInt < (h.1 a 0).toInt) {q : Nat} (q99 : q ≤ 99) (B : SBd q n S) : Wc rod (d + 5) 298 [.inr (.inr (.inl (some 84)))] h (fun r h' => Keep h h' ∧ r = none ∧ SimM h' (drF (ld h a) n k (h.1 84 45) S).2 n ∧ MLand h' a l ∧ h'.1 84 45 = (drF (ld h a) n k (h.1 84 45) S).1) := by
  have t13 : h.1 84 13 = h.1 a 0 := M.2.2.2.1
  have t14 : h.1 84 14 = h.1 a 4 := M.2.2.2.2.1
  have t15 : h.1 84 15 = h.1 a 5 := M.2.2.2.2.2
  have T1 := M.1.tw
  have b8 := drV_b (x := nxS (h.1 84 45)) (m := 8) (by decide)
  have e8 : (8 : Int32).toInt = 8 := rfl
  refine n_Model_draws ?_
  refine w_Model_draws_0 L (r_below L 8 (by decide)) ?_
  rintro _ _ ⟨rfl, rfl⟩
  have K0 := (Keep.rfl (h := h)).trans (Keep.s45 (h := h) (v := nxS (h.1 84 45)))
  have L0 := L.keep K0
  have Q0 := (Q).s45 (v := nxS (h.1 84 45))
  have M0 := MLand.si84 (j := 45) (v := nxS (h.1 84 45)) M ha (by omega)
  have s0 : (sI h 84 45 (nxS (h.1 84 45))).1 84 45 = nxS (h.1 84 45) := sI_same
  generalize hg0 : sI h 84 45 (nxS (h.1 84 45)) = h0 at *
  refine w_Model_draws_6 rfl (fun kc6 => ?_) (fun kc6 => ?_)
  · try simp only [ite01t, ite01v, Int32.reduceToInt, t_m1, t_m2, t_m1000, Decidable.not_not] at kc6
    refine w_Model_draws_29 (fun kc29 => ?_) (fun kc29 => ?_)
    · try simp only [ite01t, ite01v, Int32.reduceToInt, t_m1, t_m2, t_m1000, Decidable.not_not] at kc29
      refine w_Model_draws_47 L0 (fun kc47 => ?_) (fun kc47 => ?_)
      · try simp only [ite01t, ite01v, Int32.reduceToInt, t_m1, t_m2, t_m1000, Decidable.not_not] at kc47
        (try rw [M0.2.2.2.2.1, K0.c a (by omega), hn] at kc47)
        refine w_Model_draws_108 ?_
        refine ⟨K0, rfl, ?_, M0, ?_⟩ <;> by_cases kc5 : (drV (nxS (h.1 84 45)) 8).toInt = 5
        · rw [drF, if_neg (by omega), if_pos (by omega), sinD, if_pos (by omega)]; exact Q0
        · rw [drF, if_neg (by omega), if_neg (by omega), if_neg (by omega), if_neg (by omega), saleD, if_pos (by omega)]; exact Q0
        · rw [drF, if_neg (by omega), if_pos (by omega), sinD, if_pos (by omega)]; exact s0
        · rw [drF, if_neg (by omega), if_neg (by omega), if_neg (by omega), if_neg (by omega), saleD, if_pos (by omega)]; exact s0
      · try simp only [ite01t, ite01v, Int32.reduceToInt, t_m1, t_m2, t_m1000, Decidable.not_not] at kc47
        (try rw [M0.2.2.2.2.1, K0.c a (by omega), hn] at kc47)
        refine w_Model_draws_54 L0 (r_below L0 _ (by rw [M0.2.2.2.2.1, K0.c a (by omega)]; omega)) ?_
        rintro _ _ ⟨rfl, rfl⟩
        have K54 := K0.trans (Keep.s45 (h := h0) (v := nxS (h0.1 84 45)))
        have L54 := L.keep K54
        have Q54 := (Q0).s45 (v := nxS (h0.1 84 45))
        have M54 := MLand.si84 (j := 45) (v := nxS (h0.1 84 45)) M0 ha (by omega)
        have s54 : (sI h0 84 45 (nxS (h0.1 84 45))).1 84 45 = nxS (h0.1 84 45) := sI_same
        generalize hg54 : sI h0 84 45 (nxS (h0.1 84 45)) = h54 at *
        refine w_Model_draws_62 (fun kc62 => ?_) (fun kc62 => ?_)
        · try simp only [ite01t, ite01v, Int32.reduceToInt, t_m1, t_m2, t_m1000, Decidable.not_not] at kc62
          refine w_Model_draws_86 L54 (fun kc86 => ?_) (fun kc86 => ?_)
          · try simp only [ite01t, ite01v, Int32.reduceToInt, t_m1, t_m2, t_m1000, Decidable.not_not] at kc86
            (try rw [M54.2.2.2.2.2, K54.c a (by omega), hk] at kc86)
            refine w_Model_draws_108 ?_
            refine ⟨K54, rfl, ?_, M54, ?_⟩ <;> rw [drF, if_neg (by omega), if_neg (by omega), if_neg (by omega), if_neg (by omega), saleD, if_neg (by omega), if_pos (by omega)]
            · exact Q54
            · rw [s54, s0]
          · try simp only [ite01t, ite01v, Int32.reduceToInt, t_m1, t_m2, t_m1000, Decidable.not_not] at kc86
            (try rw [M54.2.2.2.2.2, K54.c a (by omega), hk] at kc86)
            refine w_Model_draws_93 L54 (r_below L54 _ (by rw [M54.2.2.2.2.2, K54.c a (by omega)]; omega)) ?_
            rintro _ _ ⟨rfl, rfl⟩
            have K93 := K54.trans (Keep.s45 (h := h54) (v := nxS (h54.1 84 45)))
            have L93 := L.keep K93
            have Q93 := (Q54).s45 (v := nxS (h54.1 84 45))
            have M93 := MLand.si84 (j := 45) (v := nxS (h54.1 84 45)) M54 ha (by omega)
            have s93 : (sI h54 84 45 (nxS (h54.1 84 45))).1 84 45 = nxS (h54.1 84 45) := sI_same
            generalize hg93 : sI h54 84 45 (nxS (h54.1 84 45)) = h93 at *
            refine w_Model_draws_104 L93 (Wc.fr okM (by decide) (r_does (k := k) Q93 M93 L93 ha (by rw [K93.c a (by omega)]; exact hn) n8 (by rw [K93.c a (by omega)]; exact hk) k4 (by rw [K93.c a (by omega)]; exact tw) q99 B 0 _ _ (by decide))) ?_
            rintro _ h104 ⟨⟨k104, rfl, Q104, M104, -, -⟩, p104⟩
            rw [ldk K93 ha] at Q104
            have f104 := pr84 L93 p104
            refine w_Model_draws_107 ?_
            refine w_Model_draws_108 ?_
            refine ⟨K93.trans k104, rfl, ?_, M104, ?_⟩ <;> rw [drF, if_neg (by omega), if_neg (by omega), if_neg (by omega), if_neg (by omega), saleD, if_neg (by omega), if_neg (by omega)]
            · rw [s54, s0, M0.2.2.2.2.1, K0.c a (by omega), M54.2.2.2.2.2, K54.c a (by omega)] at Q104; exact Q104
            · rw [f104, s93, s54, s0]
        · try simp only [ite01t, ite01v, Int32.reduceToInt, t_m1, t_m2, t_m1000, Decidable.not_not] at kc62
          refine w_Model_draws_68 L54 (r_below L54 9 (by decide)) ?_
          rintro _ _ ⟨rfl, rfl⟩
          have K68 := K54.trans (Keep.s45 (h := h54) (v := nxS (h54.1 84 45)))
          have L68 := L.keep K68
          have Q68 := (Q54).s45 (v := nxS (h54.1 84 45))
          have M68 := MLand.si84 (j := 45) (v := nxS (h54.1 84 45)) M54 ha (by omega)
          have s68 : (sI h54 84 45 (nxS (h54.1 84 45))).1 84 45 = nxS (h54.1 84 45) := sI_same
          generalize hg68 : sI h54 84 45 (nxS (h54.1 84 45)) = h68 at *
          refine w_Model_draws_78 L68 (Wc.fr okM (by decide) (r_does (k := k) Q68 M68 L68 ha (by rw [K68.c a (by omega)]; exact hn) n8 (by rw [K68.c a (by omega)]; exact hk) k4 (by rw [K68.c a (by omega)]; exact tw) q99 B 1 _ _ (by decide))) ?_
          rintro _ h78 ⟨⟨k78, rfl, Q78, M78, -, -⟩, p78⟩
          rw [ldk K68 ha] at Q78
          have f78 := pr84 L68 p78
          refine w_Model_draws_82 ?_
          refine w_Model_draws_108 ?_
          refine ⟨K68.trans k78, rfl, ?_, M78, ?_⟩ <;> rw [drF, if_neg (by omega), if_pos (by omega), sinD, if_neg (by omega)]
          · rw [s54, s0, M0.2.2.2.2.1, K0.c a (by omega)] at Q78; exact Q78
          · rw [f78, s68, s54, s0]
    · try simp only [ite01t, ite01v, Int32.reduceToInt, t_m1, t_m2, t_m1000, Decidable.not_not] at kc29
      refine w_Model_draws_34 L0 (Wc.fr okM (by decide) (r_does (k := k) Q0 M0 L0 ha (by rw [K0.c a (by omega)]; exact hn) n8 (by rw [K0.c a (by omega)]; exact hk) k4 (by rw [K0.c a (by omega)]; exact tw) q99 B _ _ _ (by rw [i32_sub (by show _ ≤ _ - (1 : Int); omega) (by show _ - (1 : Int) ≤ _; omega)]; show 0 ≤ _ - (1 : Int) ∧ _ - (1 : Int) ≤ 6; omega))) ?_
      rintro _ h34 ⟨⟨k34, rfl, Q34, M34, -, -⟩, p34⟩
      rw [ldk K0 ha] at Q34
      have f34 := pr84 L0 p34
      refine w_Model_draws_43 ?_
      refine w_Model_draws_108 ?_
      by_cases kc6 : (drV (nxS (h.1 84 45)) 8).toInt = 6
      · have e6 : drV (nxS (h.1 84 45)) 8 - 1 = 5 := i32_of (by rw [i32_sub (by show _ ≤ _ - (1 : Int); omega) (by show _ - (1 : Int) ≤ _; omega), kc6]; rfl)
        rw [e6] at Q34
        refine ⟨K0.trans k34, rfl, ?_, M34, ?_⟩ <;> rw [drF, if_neg (by omega), if_neg (by omega), if_pos (by omega)]
        · exact Q34
        · rw [f34, s0]
      · have e6 : drV (nxS (h.1 84 45)) 8 - 1 = 6 := i32_of (by rw [i32_sub (by show _ ≤ _ - (1 : Int); omega) (by show _ - (1 : Int) ≤ _; omega)]; show _ - (1 : Int) = 6; omega)
        rw [e6] at Q34
        refine ⟨K0.trans k34, rfl, ?_, M34, ?_⟩ <;> rw [drF, if_neg (by omega), if_neg (by omega), if_neg (by omega), if_pos (by omega)]
        · exact Q34
        · rw [f34, s0]
  · try simp only [ite01t, ite01v, Int32.reduceToInt, t_m1, t_m2, t_m1000, Decidable.not_not] at kc6
    refine w_Model_draws_11 L0 (r_below L0 _ (by rw [M0.2.2.2.1, K0.c a (by omega)]; omega)) ?_
    rintro _ _ ⟨rfl, rfl⟩
    have K11 := K0.trans (Keep.s45 (h := h0) (v := nxS (h0.1 84 45)))
    have L11 := L.keep K11
    have Q11 := (Q0).s45 (v := nxS (h0.1 84 45))
    have M11 := MLand.si84 (j := 45) (v := nxS (h0.1 84 45)) M0 ha (by omega)
    have s11 : (sI h0 84 45 (nxS (h0.1 84 45))).1 84 45 = nxS (h0.1 84 45) := sI_same
    generalize hg11 : sI h0 84 45 (nxS (h0.1 84 45)) = h11 at *
    refine w_Model_draws_21 L11 (Wc.fr okM (by decide) (r_does (k := k) Q11 M11 L11 ha (by rw [K11.c a (by omega)]; exact hn) n8 (by rw [K11.c a (by omega)]; exact hk) k4 (by rw [K11.c a (by omega)]; exact tw) q99 B 2 _ _ (by decide))) ?_
    rintro _ h21 ⟨⟨k21, rfl, Q21, M21, -, -⟩, p21⟩
    rw [ldk K11 ha] at Q21
    have f21 := pr84 L11 p21
    refine w_Model_draws_25 ?_
    refine w_Model_draws_108 ?_
    refine ⟨K11.trans k21, rfl, ?_, M21, ?_⟩ <;> rw [drF, if_pos (by omega)]
    · rw [s0, M0.2.2.2.1, K0.c a (by omega)] at Q21; exact Q21
    · rw [f21, s11, s0]
theorem op_drawn (k x z w : Int32) : OpI INV rod 145 297 [k, x, z, w] := by
  refine OpI.mk fun h hI => ?_
  have L := hI.lay
  by_cases hk : 0 ≤ k.toInt ∧ k.toInt < (h.1 3 0).toInt
  · obtain ⟨A, R, ha, hk2⟩ := hI.landK hk
    have ek := n_of hk.1
    have at1 := fun (d : Nat) => s_landAt1 (rod := rod) (d := d) hI hk
    generalize k.toNatClampNeg = kk at ek hk2 A R ha at1
    have tw := R.tw
    have bu := R.bu
    have le := R.le
    obtain ⟨n, hn⟩ := Int.eq_ofNat_of_zero_le bu.1
    obtain ⟨j, hj⟩ := Int.eq_ofNat_of_zero_le le.1
    have o0 : DOk (ld h (8 + 18 * kk)) 0 n (startS (ld h (8 + 18 * kk))) := ⟨⟨by show (0 : Int) ≤ 0; omega, by show (0 : Int) < (h.1 (8 + 18 * kk) 0).toInt; omega⟩, start_bd R hn⟩
    have hY := R.yr hj
    have ez := n_of (x := z)
    refine ⟨if 0 ≤ z.toInt ∧ z.toInt ≤ 60 then showV n (drI (ld h (8 + 18 * kk)) n j x z.toNatClampNeg).2 w else -1000, ?_, fun h1 I1 K1 => ?_⟩
    · refine n_Main_drawn ?_
      refine w_Main_drawn_0 L (Tc.wc (at1 _)) (Is.k ?_)
      refine w_Main_drawn_8 rfl (fun c => nomatch c) (fun _ _ => ?_)
      refine w_Main_drawn_15 (fun kc15 => ?_) (fun kc15 => ?_)
      · try simp only [ite01t, ite01v, Int32.reduceToInt, t_m1, t_m2, t_m1000, Decidable.not_not] at kc15
        refine w_Main_drawn_25 ?_
        exact ⟨by rw [if_neg (by omega)], Keep.rfl⟩
      · try simp only [ite01t, ite01v, Int32.reduceToInt, t_m1, t_m2, t_m1000, Decidable.not_not] at kc15
        refine w_Main_drawn_19 (fun kc19 => ?_) (fun kc19 => ?_)
        · try simp only [ite01t, ite01v, Int32.reduceToInt, t_m1, t_m2, t_m1000, Decidable.not_not] at kc19
          refine w_Main_drawn_29 L (c_drdeeds (k := j) L A ha hn (by omega) hj (by omega) tw o0 hY x z z.toNatClampNeg (n_of (by omega)) (by have := n_of (x := z) (by omega); omega)) ?_
          rintro _ h29 ⟨k29, rfl, Q29⟩
          have L29 := L.keep k29
          have A29 := A.keep k29
          refine w_Main_drawn_40 L29 (Tc.wc (c_show Q29 L29 A29 ha (by rw [k29.c _ (by omega)]; exact hn) (by omega) w)) (Is.k ?_)
          refine w_Main_drawn_51 ?_
          exact ⟨by rw [if_pos (by omega)], k29⟩
        · try simp only [ite01t, ite01v, Int32.reduceToInt, t_m1, t_m2, t_m1000, Decidable.not_not] at kc19
          refine w_Main_drawn_25 ?_
          exact ⟨by rw [if_neg (by omega)], Keep.rfl⟩
    · have L1 := I1.lay
      have hk1 : (kk : Int) < (h1.1 3 0).toInt := by rw [K1.c 3 (by omega)]; omega
      have is1 := fun (d : Nat) => s_isLand1 (rod := rod) (d := d) I1 k kk ek hk1
      refine n_Model_drawn ?_
      refine w_Model_drawn_0 L1 (is1 _) ?_
      rintro _ h0 ⟨rfl, k0, M0⟩
      have I0 := I1.keep k0
      have L0 := I0.lay
      have K0 := (Keep.rfl (h := h1)).trans k0
      have e0 : h0.1 (8 + 18 * kk) = h.1 (8 + 18 * kk) := (K1.trans K0).c _ (by omega)
      refine w_Model_drawn_5 (fun kc5 => absurd kc5 (by decide)) (fun kc5 => ?_)
      refine w_Model_drawn_8 (Tc.wc (s_isIn _ _ _ _)) (Is.k ?_)
      refine w_Model_drawn_15 (fun kc15 => ?_) (fun kc15 => ?_)
      · try simp only [ite01t, ite01v, Int32.reduceToInt, t_m1, t_m2, t_m1000, Decidable.not_not] at kc15
        refine w_Model_drawn_23 ?_
        refine ⟨?_, K0⟩
        first
        | (rw [if_neg (by omega)]; done)
        | (rw [if_pos (by omega), showV, if_neg (by omega), if_neg (by omega)]; done)
      · try simp only [ite01t, ite01v, Int32.reduceToInt, t_m1, t_m2, t_m1000, Decidable.not_not] at kc15
        refine w_Model_drawn_18 (fun kc18 => ?_) (fun kc18 => ?_)
        · try simp only [ite01t, ite01v, Int32.reduceToInt, t_m1, t_m2, t_m1000, Decidable.not_not] at kc18
          refine w_Model_drawn_27 L0 ?_
          refine w_Model_drawn_32 (L0.keep Keep.s45) (Wc.fr okM (by decide) (r_begins (M0.si84 ha (by omega)) (L0.keep Keep.s45) ha (by rw [(K1.trans (K0.trans Keep.s45)).c _ (by omega)]; exact hn))) ?_
          rintro _ h32 ⟨⟨rfl, k32, Q32, M32, -, -⟩, p32⟩
          have f32 : h32.1 84 45 = x := (pr84 (L0.keep Keep.s45) p32).trans sI_same
          refine w_Model_drawn_36 rfl ?_
          refine Wb.uph z.toNatClampNeg (fun i L' h' => ∃ (y : Int32), L' = [some (.inr (.inr (.inl (some 84)))), some (.inl k), some (.inl x), some (.inl z), some (.inl w), some (.inl y)] ∧ y.toInt = (i : Int) ∧ Keep h1 h' ∧ SimM h' (drI (ld h (8 + 18 * kk)) n j x i).2 n ∧ MLand h' (8 + 18 * kk) (610 + 90 * kk) ∧ h'.1 84 45 = (drI (ld h (8 + 18 * kk)) n j x i).1) ?_ (Nat.zero_le _) ⟨0, rfl, rfl, (K0.trans Keep.s45).trans k32, by rw [← ldk (K1.trans (K0.trans Keep.s45)) ha]; exact Q32, M32, f32⟩
          rintro i _ g hi ⟨y, rfl, hy, K, Qg, Mg, hx⟩ ih
          have Ig := I1.keep K
          have Lg := Ig.lay
          have ok := drI_ok (x := x) o0 hY i (by omega)
          have ea : g.1 (8 + 18 * kk) = h.1 (8 + 18 * kk) := (K1.trans K).c _ (by omega)
          refine w_Model_drawn_39 (fun kc39 => ?_) (fun kc39 => ?_)
          · try simp only [ite01t, ite01v, Int32.reduceToInt, t_m1, t_m2, t_m1000, Decidable.not_not] at kc39
            refine w_Model_drawn_55 Lg (Tc.wc (r_now Qg Mg Lg (by rw [ea]; exact hn) (by omega) w (by omega))) (Is.k ?_)
            refine w_Model_drawn_61 ?_
            have : i = z.toNatClampNeg := by omega
            subst this
            exact ⟨by rw [if_pos (by omega)], K⟩
          · try simp only [ite01t, ite01v, Int32.reduceToInt, t_m1, t_m2, t_m1000, Decidable.not_not] at kc39
            refine w_Model_drawn_45 Lg (r_draws (k := j) Qg Mg Lg ha (by rw [ea]; exact hn) (by omega) (by rw [ea]; exact hj) (by omega) (by rw [ea]; exact ok.1) (q := i) (by omega) ok.2) ?_
            rintro _ h45 ⟨k45, rfl, Q45, M45, f45⟩
            rw [ldk (K1.trans K) ha, hx] at Q45 f45
            refine w_Model_drawn_49 rfl ?_
            exact ih (by omega) _ _ ⟨_, rfl, t_succ hy (by omega), K.trans k45, Q45, M45, f45⟩
          
        · try simp only [ite01t, ite01v, Int32.reduceToInt, t_m1, t_m2, t_m1000, Decidable.not_not] at kc18
          refine w_Model_drawn_23 ?_
          refine ⟨?_, K0⟩
          first
          | (rw [if_neg (by omega)]; done)
          | (rw [if_pos (by omega), showV, if_neg (by omega), if_neg (by omega)]; done)
  · refine ⟨-1000, ?_, fun h1 I1 K1 => ?_⟩
    · refine n_Main_drawn ?_
      refine w_Main_drawn_0 L (Tc.wc (s_landAt0 hI hk)) (Is.k ?_)
      refine w_Main_drawn_8 rfl (fun _ => ?_) (fun _ c => nomatch c)
      refine w_Main_drawn_25 ?_
      exact ⟨rfl, Keep.rfl⟩
    · have L1 := I1.lay
      have hk1 : ¬ (0 ≤ k.toInt ∧ k.toInt < (h1.1 3 0).toInt) := by rw [K1.c 3 (by omega)]; exact hk
      refine n_Model_drawn ?_
      refine w_Model_drawn_0 L1 (Tc.wc (s_isLand0 I1 k hk1)) (Is.k ?_)
      refine w_Model_drawn_5 (fun kc5 => ?_) (fun kc5 => absurd kc5 (by decide))
      refine w_Model_drawn_23 ?_
      exact ⟨rfl, Keep.rfl⟩
end M62
