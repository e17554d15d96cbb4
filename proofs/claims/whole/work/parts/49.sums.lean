/-! BARGAINS: sums of gains -/
def fctN (n : Nat) : Nat := if n < 2 then 1 else if n = 2 then 2 else if n = 3 then 6 else 24
def pcnt (s : Nat) : Nat := s % 2 + s / 2 % 2 + s / 4 % 2 + s / 8 % 2
theorem pop_all : ((List.range 16).all fun s => (List.range 4).all fun i => (List.range 5).all fun p => decide (pcnt s ≤ 4 ∧ (s < 2 ^ p → i < p → s.testBit i = false → pcnt s + 1 ≤ p))) = true := by decide +kernel
theorem pop_le {s : Nat} (hs : s < 16) : pcnt s ≤ 4 := (of_decide_eq_true (List.all_eq_true.mp (List.all_eq_true.mp (List.all_eq_true.mp pop_all s (List.mem_range.mpr hs)) 0 (List.mem_range.mpr (by omega))) 0 (List.mem_range.mpr (by omega)))).1
theorem pop_lt {s i p : Nat} (hp : p ≤ 4) (h16 : s < 16) (hs : s < 2 ^ p) (hi : i < p) (c : s.testBit i = false) : pcnt s + 1 ≤ p := (of_decide_eq_true (List.all_eq_true.mp (List.all_eq_true.mp (List.all_eq_true.mp pop_all s (List.mem_range.mpr h16)) i (List.mem_range.mpr (by omega))) p (List.mem_range.mpr (by omega)))).2 hs hi c
theorem bc_all : ((List.range 16).all fun s => decide (((((((((((Int32.ofNat s) - ((((Int32.ofNat s).toUInt32 >>> ((1 : Int32).toUInt32 &&& Int32.toUInt32 31)).toInt32) &&& (1431655765 : Int32))) &&& (858993459 : Int32)) + (((((Int32.ofNat s) - ((((Int32.ofNat s).toUInt32 >>> ((1 : Int32).toUInt32 &&& Int32.toUInt32 31)).toInt32) &&& (1431655765 : Int32))).toUInt32 >>> ((2 : Int32).toUInt32 &&& Int32.toUInt32 31)).toInt32) &&& (858993459 : Int32))) + ((((((Int32.ofNat s) - ((((Int32.ofNat s).toUInt32 >>> ((1 : Int32).toUInt32 &&& Int32.toUInt32 31)).toInt32) &&& (1431655765 : Int32))) &&& (858993459 : Int32)) + (((((Int32.ofNat s) - ((((Int32.ofNat s).toUInt32 >>> ((1 : Int32).toUInt32 &&& Int32.toUInt32 31)).toInt32) &&& (1431655765 : Int32))).toUInt32 >>> ((2 : Int32).toUInt32 &&& Int32.toUInt32 31)).toInt32) &&& (858993459 : Int32))).toUInt32 >>> ((4 : Int32).toUInt32 &&& Int32.toUInt32 31)).toInt32)) &&& (252645135 : Int32)) + ((((((((Int32.ofNat s) - ((((Int32.ofNat s).toUInt32 >>> ((1 : Int32).toUInt32 &&& Int32.toUInt32 31)).toInt32) &&& (1431655765 : Int32))) &&& (858993459 : Int32)) + (((((Int32.ofNat s) - ((((Int32.ofNat s).toUInt32 >>> ((1 : Int32).toUInt32 &&& Int32.toUInt32 31)).toInt32) &&& (1431655765 : Int32))).toUInt32 >>> ((2 : Int32).toUInt32 &&& Int32.toUInt32 31)).toInt32) &&& (858993459 : Int32))) + ((((((Int32.ofNat s) - ((((Int32.ofNat s).toUInt32 >>> ((1 : Int32).toUInt32 &&& Int32.toUInt32 31)).toInt32) &&& (1431655765 : Int32))) &&& (858993459 : Int32)) + (((((Int32.ofNat s) - ((((Int32.ofNat s).toUInt32 >>> ((1 : Int32).toUInt32 &&& Int32.toUInt32 31)).toInt32) &&& (1431655765 : Int32))).toUInt32 >>> ((2 : Int32).toUInt32 &&& Int32.toUInt32 31)).toInt32) &&& (858993459 : Int32))).toUInt32 >>> ((4 : Int32).toUInt32 &&& Int32.toUInt32 31)).toInt32)) &&& (252645135 : Int32)).toUInt32 >>> ((8 : Int32).toUInt32 &&& Int32.toUInt32 31)).toInt32)) + (((((((((Int32.ofNat s) - ((((Int32.ofNat s).toUInt32 >>> ((1 : Int32).toUInt32 &&& Int32.toUInt32 31)).toInt32) &&& (1431655765 : Int32))) &&& (858993459 : Int32)) + (((((Int32.ofNat s) - ((((Int32.ofNat s).toUInt32 >>> ((1 : Int32).toUInt32 &&& Int32.toUInt32 31)).toInt32) &&& (1431655765 : Int32))).toUInt32 >>> ((2 : Int32).toUInt32 &&& Int32.toUInt32 31)).toInt32) &&& (858993459 : Int32))) + ((((((Int32.ofNat s) - ((((Int32.ofNat s).toUInt32 >>> ((1 : Int32).toUInt32 &&& Int32.toUInt32 31)).toInt32) &&& (1431655765 : Int32))) &&& (858993459 : Int32)) + (((((Int32.ofNat s) - ((((Int32.ofNat s).toUInt32 >>> ((1 : Int32).toUInt32 &&& Int32.toUInt32 31)).toInt32) &&& (1431655765 : Int32))).toUInt32 >>> ((2 : Int32).toUInt32 &&& Int32.toUInt32 31)).toInt32) &&& (858993459 : Int32))).toUInt32 >>> ((4 : Int32).toUInt32 &&& Int32.toUInt32 31)).toInt32)) &&& (252645135 : Int32)) + ((((((((Int32.ofNat s) - ((((Int32.ofNat s).toUInt32 >>> ((1 : Int32).toUInt32 &&& Int32.toUInt32 31)).toInt32) &&& (1431655765 : Int32))) &&& (858993459 : Int32)) + (((((Int32.ofNat s) - ((((Int32.ofNat s).toUInt32 >>> ((1 : Int32).toUInt32 &&& Int32.toUInt32 31)).toInt32) &&& (1431655765 : Int32))).toUInt32 >>> ((2 : Int32).toUInt32 &&& Int32.toUInt32 31)).toInt32) &&& (858993459 : Int32))) + ((((((Int32.ofNat s) - ((((Int32.ofNat s).toUInt32 >>> ((1 : Int32).toUInt32 &&& Int32.toUInt32 31)).toInt32) &&& (1431655765 : Int32))) &&& (858993459 : Int32)) + (((((Int32.ofNat s) - ((((Int32.ofNat s).toUInt32 >>> ((1 : Int32).toUInt32 &&& Int32.toUInt32 31)).toInt32) &&& (1431655765 : Int32))).toUInt32 >>> ((2 : Int32).toUInt32 &&& Int32.toUInt32 31)).toInt32) &&& (858993459 : Int32))).toUInt32 >>> ((4 : Int32).toUInt32 &&& Int32.toUInt32 31)).toInt32)) &&& (252645135 : Int32)).toUInt32 >>> ((8 : Int32).toUInt32 &&& Int32.toUInt32 31)).toInt32)).toUInt32 >>> ((16 : Int32).toUInt32 &&& Int32.toUInt32 31)).toInt32)) &&& (63 : Int32))) = Int32.ofNat (pcnt s))) = true := by decide +kernel
theorem bs_all : ((List.range 16).all fun s => decide (sumF (fun k => (Int32.ofNat s >>> (Int32.ofNat k &&& 31)) &&& 1) 8 = Int32.ofNat (pcnt s))) = true := by decide +kernel
def Rok4 (rod : Nat → Nat × (Nat → Int32)) : Prop := rod 4 = (5, fun i => [(1 : Int32), 1, 2, 6, 24].getD i 0)
def gtF (W : Nat → Int32) (p i s : Nat) : Int32 := if s.testBit i = true then 0 else Int32.ofNat (fctN (pcnt s)) * Int32.ofNat (fctN (p - 1 - pcnt s)) * gainF W i s
def sumG (W : Nat → Int32) (p i n : Nat) : Int32 := sumF (gtF W p i) n
theorem sumG_succ (W : Nat → Int32) (p i n : Nat) : sumG W p i (n + 1) = sumG W p i n + gtF W p i n := rfl
theorem fct6 {n : Nat} (hn : n ≤ 3) : 1 ≤ fctN n ∧ fctN n ≤ 6 := by
  rcases (show n = 0 ∨ n = 1 ∨ n = 2 ∨ n = 3 by omega) with rfl | rfl | rfl | rfl <;> decide
theorem fct24 {n : Nat} (hn : n ≤ 4) : 1 ≤ fctN n ∧ fctN n ≤ 24 := by
  rcases (show n = 0 ∨ n = 1 ∨ n = 2 ∨ n = 3 ∨ n = 4 by omega) with rfl | rfl | rfl | rfl | rfl <;> decide
theorem mul_bd {a b : Int} {n m : Int} (ha : 0 ≤ a ∧ a ≤ n) (hb : -m ≤ b ∧ b ≤ m) (hm : 0 ≤ m) : -(n * m) ≤ a * b ∧ a * b ≤ n * m := by
  have h1 : a * b ≤ a * m := Int.mul_le_mul_of_nonneg_left hb.2 ha.1
  have h2 : a * m ≤ n * m := Int.mul_le_mul_of_nonneg_right ha.2 hm
  have h3 : a * (-m) ≤ a * b := Int.mul_le_mul_of_nonneg_left hb.1 ha.1
  rw [Int.mul_neg] at h3
  omega
theorem gtF_bd {W : Nat → Int32} {p i s : Nat} (hW : ∀ s, s < 16 → 0 ≤ (W s).toInt ∧ (W s).toInt ≤ 40) (hp : p ≤ 4) (h16 : s < 16) (hs : s < 2 ^ p) (hi : i < p) : -1440 ≤ (gtF W p i s).toInt ∧ (gtF W p i s).toInt ≤ 1440 := by
  unfold gtF
  split
  · exact ⟨by decide, by decide⟩
  · rename_i c
    have c : s.testBit i = false := by simpa using c
    have q := pop_lt hp h16 hs hi c
    have f1 := fct6 (n := pcnt s) (by omega)
    have f2 := fct6 (n := p - 1 - pcnt s) (by omega)
    have w1 := hW s h16
    have w2 := hW (s ||| 2 ^ i) (bt h16 (by omega)).2.2.2.2.2.2
    have g : (gainF W i s).toInt = (W (s ||| 2 ^ i)).toInt - (W s).toInt := i32_sub (by omega) (by omega)
    have m1 := n_mul (t_nat (n := fctN (pcnt s)) (by omega)) (t_nat (n := fctN (p - 1 - pcnt s)) (by omega)) (by have := Nat.mul_le_mul f1.2 f2.2; omega)
    have m2 : fctN (pcnt s) * fctN (p - 1 - pcnt s) ≤ 36 := Nat.mul_le_mul f1.2 f2.2
    have m3 := mul_bd (a := ((fctN (pcnt s) * fctN (p - 1 - pcnt s) : Nat) : Int)) (b := (gainF W i s).toInt) (n := 36) (m := 40) (by omega) (by omega) (by omega)
    rw [i32_mul (by rw [m1]; omega) (by rw [m1]; omega), m1]
    omega
theorem sumG_bd {W : Nat → Int32} {p i : Nat} (hW : ∀ s, s < 16 → 0 ≤ (W s).toInt ∧ (W s).toInt ≤ 40) (hp : p ≤ 4) (h16 : 2 ^ p ≤ 16) (hi : i < p) : ∀ n : Nat, n ≤ 2 ^ p → -1440 * (n : Int) ≤ (sumG W p i n).toInt ∧ (sumG W p i n).toInt ≤ 1440 * (n : Int) := by
  intro n
  induction n with
  | zero => intro _; exact (by decide : -1440 * ((0 : Nat) : Int) ≤ (0 : Int32).toInt ∧ (0 : Int32).toInt ≤ 1440 * ((0 : Nat) : Int))
  | succ n ih =>
    intro hn
    have ih := ih (by omega)
    have q := gtF_bd (i := i) hW hp (s := n) (by omega) (by omega) hi
    rw [sumG_succ, i32_add (by omega) (by omega)]
    omega
section M49
variable {rod : Nat → Nat × (Nat → Int32)} {d : Nat} {h : MH} {a l : Nat}
theorem s_bitCount (x : Int32) (s : Nat) (hx : x.toInt = (s : Int)) (hs : s < 16) (h : MH) : Tc rod (d + 1) 140 [.inl x] h (some (.inl (Int32.ofNat (pcnt s)))) h := by
  have e := of_decide_eq_true (List.all_eq_true.mp bc_all s (List.mem_range.mpr hs))
  rw [← ofN hx (by omega)] at e
  apply Wc.tc
  refine n_Integer_bitCount ?_
  refine w_Integer_bitCount_0 ?_
  exact ⟨congrArg (fun z => some (Sum.inl z)) e, rfl⟩
theorem s_fact (hr : Rok4 rod) (x : Int32) (n : Nat) (hx : x.toInt = (n : Int)) (hn : n ≤ 4) (h : MH) : Tc rod (d + 1) 141 [.inl x] h (some (.inl (Int32.ofNat (fctN n)))) h := by
  have r1 : (Int32.ofNat (rod 4).1).toInt = 5 := by rw [hr]; rfl
  apply Wc.tc
  refine n_Sharing_factorial ?_
  refine w_Sharing_factorial_0 (fun kc0 => ?_) (fun kc0 => ?_)
  · (try simp only [ite01t, ite01v, Int32.reduceToInt, t_m1, t_m2, t_m1000, Decidable.not_not] at kc0); (try simp only [r1] at kc0)
    exfalso
    omega
  · (try simp only [ite01t, ite01v, Int32.reduceToInt, t_m1, t_m2, t_m1000, Decidable.not_not] at kc0); (try simp only [r1] at kc0)
    refine w_Sharing_factorial_4 (fun kc4 => ?_) (fun kc4 => ?_)
    · (try simp only [ite01t, ite01v, Int32.reduceToInt, t_m1, t_m2, t_m1000, Decidable.not_not] at kc4); (try simp only [r1] at kc4)
      exfalso
      omega
    · (try simp only [ite01t, ite01v, Int32.reduceToInt, t_m1, t_m2, t_m1000, Decidable.not_not] at kc4); (try simp only [r1] at kc4)
      refine w_Sharing_factorial_12 (by rw [hr]; exact inB_of (by omega) (by show _ < (5 : Int); omega)) ?_
      refine w_Sharing_factorial_21 ?_
      refine ⟨?_, rfl⟩
      rw [hr, n_eq hx]
      rcases (show n = 0 ∨ n = 1 ∨ n = 2 ∨ n = 3 ∨ n = 4 by omega) with rfl | rfl | rfl | rfl | rfl <;> rfl
theorem s_cOrders (A : BargA h.2 a) (hr : Rok4 rod) {p : Nat} (hp : (h.1 a 0).toInt = (p : Int)) (p1 : 1 ≤ p ∧ p ≤ 4) : Tc rod (d + 2) 143 [.inr (.inr (.inl (some 78))), .inr (.inr (.inl (some a)))] h (some (.inl (Int32.ofNat (fctN p)))) h := by
  apply Wc.tc
  refine n_Sharing_orders ?_
  refine w_Sharing_orders_0 A (Tc.wc (s_fact hr _ p hp p1.2 _)) (Is.k ?_)
  refine w_Sharing_orders_7 ?_
  exact ⟨rfl, rfl⟩
theorem s_sumGains (A : BargA h.2 a) (hr : Rok4 rod) {p : Nat} (hp : (h.1 a 0).toInt = (p : Int)) (p1 : 1 ≤ p ∧ p ≤ 4) (x : Int32) (j : Nat) (hx : x.toInt = (j : Int)) (hj : j < p) : Tc rod (d + 3) 139 [.inr (.inr (.inl (some 78))), .inr (.inr (.inl (some a))), .inl x] h (some (.inl (sumG (h.1 (a + 1)) p j (2 ^ p)))) h := by
  have ev := ev_t hp p1
  apply Wc.tc
  refine n_Sharing_sumOfGains ?_
  refine w_Sharing_sumOfGains_0 rfl ?_
  refine Wb.upc (2 ^ p) (fun s L' => ∃ (z m : Int32) (u : Option MV), L' = [some (.inr (.inr (.inl (some 78)))), some (.inr (.inr (.inl (some a)))), some (.inl x), some (.inl m), some (.inl z), u] ∧ z.toInt = (s : Int) ∧ m = sumG (h.1 (a + 1)) p j s) ?_ (Nat.zero_le _) ⟨0, 0, _, rfl, rfl, rfl⟩
  rintro s _ hs ⟨z, m, u, rfl, hz, hm⟩ ih
  refine w_Sharing_sumOfGains_5 A (Tc.wc (s_everybody A)) (Is.k ?_)
  refine w_Sharing_sumOfGains_11 (fun kc11 => ?_) (fun kc11 => ?_)
  · (try simp only [ite01t, ite01v, Int32.reduceToInt, t_m1, t_m2, t_m1000, Decidable.not_not] at kc11); (try simp only [ev.1] at kc11)
    refine w_Sharing_sumOfGains_65 ?_
    exact ⟨by rw [hm, show 2 ^ p = s by omega], rfl⟩
  · (try simp only [ite01t, ite01v, Int32.reduceToInt, t_m1, t_m2, t_m1000, Decidable.not_not] at kc11); (try simp only [ev.1] at kc11)
    have b := bt (s := s) (i := j) (by omega) (by omega)
    have bz : ((z >>> (x &&& 31)) &&& 1).toInt = (if s.testBit j = true then 1 else 0) := by rw [ofN hz (by omega), ofN hx (by omega)]; exact b.1
    refine w_Sharing_sumOfGains_14 (fun kc14 => ?_) (fun kc14 => ?_)
    · (try simp only [ite01t, ite01v, Int32.reduceToInt, t_m1, t_m2, t_m1000, Decidable.not_not] at kc14); (try simp only [ev.1] at kc14)
      refine w_Sharing_sumOfGains_59 rfl ?_
      refine ih (by omega) _ ⟨_, _, _, rfl, t_succ hz (by omega), ?_⟩
      rw [sumG_succ, ← hm, gtF]
      first | (rw [if_neg (by rw [bj]; exact Bool.false_ne_true)]; done) | (rw [if_pos (Classical.byContradiction fun q => by rw [if_neg q] at bz; omega), Int32.add_zero]; done)
    · (try simp only [ite01t, ite01v, Int32.reduceToInt, t_m1, t_m2, t_m1000, Decidable.not_not] at kc14); (try simp only [ev.1] at kc14)
      have bj : s.testBit j = false := by
        cases qq : s.testBit j with
        | false => rfl
        | true => rw [qq, if_pos rfl] at bz; exfalso; omega
      have pl := pop_lt p1.2 (by omega) (by omega) hj bj
      have pe := pop_le (s := s) (by omega)
      refine w_Sharing_sumOfGains_23 (Tc.wc (s_bitCount z s hz (by omega) _)) (Is.k ?_)
      refine w_Sharing_sumOfGains_28 rfl (Tc.wc (s_fact hr _ (pcnt s) (t_nat (by omega)) pe _)) (Is.k ?_)
      refine w_Sharing_sumOfGains_36 A (Tc.wc (s_fact hr _ (p - 1 - pcnt s) (by rw [i32_sub (by rw [i32_sub (by rw [hp]; show _ ≤ _ - (1 : Int); omega) (by rw [hp]; show _ - (1 : Int) ≤ _; omega), hp, t_nat (by omega)]; show _ ≤ _ - (1 : Int) - _; omega) (by rw [i32_sub (by rw [hp]; show _ ≤ _ - (1 : Int); omega) (by rw [hp]; show _ - (1 : Int) ≤ _; omega), hp, t_nat (by omega)]; show _ - (1 : Int) - _ ≤ _; omega), i32_sub (by rw [hp]; show _ ≤ _ - (1 : Int); omega) (by rw [hp]; show _ - (1 : Int) ≤ _; omega), hp, t_nat (by omega)]; show _ - (1 : Int) - _ = _; omega) (by omega) _)) (Is.k ?_)
      refine w_Sharing_sumOfGains_48 A (Tc.wc (s_gain A z x s j hz hx (by omega) (by omega))) (Is.k ?_)
      refine w_Sharing_sumOfGains_56 rfl ?_
      refine w_Sharing_sumOfGains_59 rfl ?_
      refine ih (by omega) _ ⟨_, _, _, rfl, t_succ hz (by omega), ?_⟩
      rw [sumG_succ, ← hm, gtF]
      first | (rw [if_neg (by rw [bj]; exact Bool.false_ne_true)]; done) | (rw [if_pos (Classical.byContradiction fun q => by rw [if_neg q] at bz; omega), Int32.add_zero]; done)
theorem s_bitsOf (x : Int32) (s : Nat) (hx : x.toInt = (s : Int)) (hs : s < 16) (h : MH) : Tc rod (d + 1) 289 [.inl x] h (some (.inl (Int32.ofNat (pcnt s)))) h := by
  have e := of_decide_eq_true (List.all_eq_true.mp bs_all s (List.mem_range.mpr hs))
  rw [← ofN hx (by omega)] at e
  apply Wc.tc
  refine n_Model_bitsOf ?_
  refine w_Model_bitsOf_0 rfl ?_
  refine Wb.upc 8 (fun j L' => ∃ (z m : Int32), L' = [some (.inl x), some (.inl m), some (.inl z)] ∧ z.toInt = (j : Int) ∧ m = sumF (fun k => (x >>> (Int32.ofNat k &&& 31)) &&& 1) j) ?_ (Nat.zero_le _) ⟨0, 0, rfl, rfl, rfl⟩
  rintro j _ hj ⟨z, m, rfl, hz, hm⟩ ih
  refine w_Model_bitsOf_4 (fun kc4 => ?_) (fun kc4 => ?_)
  · try simp only [ite01t, ite01v, Int32.reduceToInt, t_m1, t_m2, t_m1000, Decidable.not_not] at kc4
    refine w_Model_bitsOf_24 ?_
    exact ⟨by rw [hm, show j = 8 by omega, e], rfl⟩
  · try simp only [ite01t, ite01v, Int32.reduceToInt, t_m1, t_m2, t_m1000, Decidable.not_not] at kc4
    refine w_Model_bitsOf_10 ?_
    refine ih (by omega) _ ⟨_, _, rfl, t_succ hz (by omega), ?_⟩
    rw [sumF, ← hm, ofN hz (by omega)]
theorem s_orders (x : Int32) (n : Nat) (hx : x.toInt = (n : Int)) (hn : n ≤ 4) (h : MH) : Tc rod (d + 1) 290 [.inl x] h (some (.inl (Int32.ofNat (fctN n)))) h := by
  apply Wc.tc
  refine n_Model_orders ?_
  refine w_Model_orders_0 (fun kc0 => ?_) (fun kc0 => ?_)
  · try simp only [ite01t, ite01v, Int32.reduceToInt, t_m1, t_m2, t_m1000, Decidable.not_not] at kc0
    refine w_Model_orders_9 (fun kc9 => ?_) (fun kc9 => ?_)
    · try simp only [ite01t, ite01v, Int32.reduceToInt, t_m1, t_m2, t_m1000, Decidable.not_not] at kc9
      refine w_Model_orders_18 (fun kc18 => ?_) (fun kc18 => ?_)
      · try simp only [ite01t, ite01v, Int32.reduceToInt, t_m1, t_m2, t_m1000, Decidable.not_not] at kc18
        refine w_Model_orders_28 ?_
        refine w_Model_orders_30 ?_
        refine ⟨?_, rfl⟩
        rcases (show n = 0 ∨ n = 1 ∨ n = 2 ∨ n = 3 ∨ n = 4 by omega) with rfl | rfl | rfl | rfl | rfl <;> first | rfl | (exfalso; omega)
      · try simp only [ite01t, ite01v, Int32.reduceToInt, t_m1, t_m2, t_m1000, Decidable.not_not] at kc18
        refine w_Model_orders_23 ?_
        refine w_Model_orders_30 ?_
        refine ⟨?_, rfl⟩
        rcases (show n = 0 ∨ n = 1 ∨ n = 2 ∨ n = 3 ∨ n = 4 by omega) with rfl | rfl | rfl | rfl | rfl <;> first | rfl | (exfalso; omega)
    · try simp only [ite01t, ite01v, Int32.reduceToInt, t_m1, t_m2, t_m1000, Decidable.not_not] at kc9
      refine w_Model_orders_14 ?_
      refine w_Model_orders_30 ?_
      refine ⟨?_, rfl⟩
      rcases (show n = 0 ∨ n = 1 ∨ n = 2 ∨ n = 3 ∨ n = 4 by omega) with rfl | rfl | rfl | rfl | rfl <;> first | rfl | (exfalso; omega)
  · try simp only [ite01t, ite01v, Int32.reduceToInt, t_m1, t_m2, t_m1000, Decidable.not_not] at kc0
    refine w_Model_orders_5 ?_
    refine w_Model_orders_30 ?_
    refine ⟨?_, rfl⟩
    rcases (show n = 0 ∨ n = 1 ∨ n = 2 ∨ n = 3 ∨ n = 4 by omega) with rfl | rfl | rfl | rfl | rfl <;> first | rfl | (exfalso; omega)
theorem s_sumOf (M : MBarg h a l) (L : Lay h.2) {p : Nat} (hp : (h.1 a 0).toInt = (p : Int)) (p1 : 1 ≤ p ∧ p ≤ 4) (x : Int32) (j : Nat) (hx : x.toInt = (j : Int)) (hj : j < p) : Tc rod (d + 2) 288 [.inr (.inr (.inl (some 84))), .inl x] h (some (.inl (sumG (h.1 (a + 1)) p j (2 ^ p)))) h := by
  have ev := ev_t hp p1
  have pe2 := M.2.2.2
  have hp2 : (h.1 84 43).toInt = (p : Int) := by rw [pe2]; exact hp
  apply Wc.tc
  refine n_Model_sumOf ?_
  refine w_Model_sumOf_0 rfl ?_
  refine Wb.upc (2 ^ p) (fun s L' => ∃ (z m : Int32), L' = [some (.inr (.inr (.inl (some 84)))), some (.inl x), some (.inl m), some (.inl z)] ∧ z.toInt = (s : Int) ∧ m = sumG (h.1 (a + 1)) p j s) ?_ (Nat.zero_le _) ⟨0, 0, rfl, rfl, rfl⟩
  rintro s _ hs ⟨z, m, rfl, hz, hm⟩ ih
  refine w_Model_sumOf_4 L (fun kc4 => ?_) (fun kc4 => ?_)
  · (try simp only [ite01t, ite01v, Int32.reduceToInt, t_m1, t_m2, t_m1000, Decidable.not_not] at kc4); (try simp only [pe2] at kc4); (try simp only [ev.2.1] at kc4)
    refine w_Model_sumOf_73 ?_
    exact ⟨by rw [hm, show 2 ^ p = s by omega], rfl⟩
  · (try simp only [ite01t, ite01v, Int32.reduceToInt, t_m1, t_m2, t_m1000, Decidable.not_not] at kc4); (try simp only [pe2] at kc4); (try simp only [ev.2.1] at kc4)
    have b := bt (s := s) (i := j) (by omega) (by omega)
    have bz : ((z >>> (x &&& 31)) &&& 1).toInt = (if s.testBit j = true then 1 else 0) := by rw [ofN hz (by omega), ofN hx (by omega)]; exact b.1
    refine w_Model_sumOf_14 (fun kc14 => ?_) (fun kc14 => ?_)
    · (try simp only [ite01t, ite01v, Int32.reduceToInt, t_m1, t_m2, t_m1000, Decidable.not_not] at kc14); (try simp only [pe2] at kc14); (try simp only [ev.2.1] at kc14)
      have bj : s.testBit j = false := by
        cases qq : s.testBit j with
        | false => rfl
        | true => rw [qq, if_pos rfl] at bz; exfalso; omega
      have pl := pop_lt p1.2 (by omega) (by omega) hj bj
      have pe := pop_le (s := s) (by omega)
      have oe : (z ||| ((1 : Int32) <<< (x &&& 31))).toInt = ((s ||| 2 ^ j : Nat) : Int) := by rw [ofN hz (by omega), ofN hx (by omega), b.2.1, or_n, t_nat (by omega)]
      refine w_Model_sumOf_26 (Tc.wc (s_bitsOf z s hz (by omega) _)) (Is.k ?_)
      refine w_Model_sumOf_31 (Tc.wc (s_orders _ (pcnt s) (t_nat (by omega)) pe _)) (Is.k ?_)
      refine w_Model_sumOf_34 L (Tc.wc (s_bitsOf z s hz (by omega) _)) (Is.k ?_)
      refine w_Model_sumOf_44 (Tc.wc (s_orders _ (p - 1 - pcnt s) (by rw [i32_sub (by rw [i32_sub (by rw [hp2]; show _ ≤ _ - (1 : Int); omega) (by rw [hp2]; show _ - (1 : Int) ≤ _; omega), hp2, t_nat (by omega)]; show _ ≤ _ - (1 : Int) - _; omega) (by rw [i32_sub (by rw [hp2]; show _ ≤ _ - (1 : Int); omega) (by rw [hp2]; show _ - (1 : Int) ≤ _; omega), hp2, t_nat (by omega)]; show _ - (1 : Int) - _ ≤ _; omega), i32_sub (by rw [hp2]; show _ ≤ _ - (1 : Int); omega) (by rw [hp2]; show _ - (1 : Int) ≤ _; omega), hp2, t_nat (by omega)]; show _ - (1 : Int) - _ = _; omega) (by omega) _)) (Is.k ?_)
      refine w_Model_sumOf_48 L (Tc.wc (s_mworthOf M L _ (s ||| 2 ^ j) oe b.2.2.2.2.2.2)) (Is.k ?_)
      refine w_Model_sumOf_58 L (Tc.wc (s_mworthOf M L z s hz (by omega))) (Is.k ?_)
      refine w_Model_sumOf_63 rfl ?_
      refine w_Model_sumOf_67 rfl ?_
      refine ih (by omega) _ ⟨_, _, rfl, t_succ hz (by omega), ?_⟩
      rw [sumG_succ, ← hm, gtF]
      first | (rw [if_neg (by rw [bj]; exact Bool.false_ne_true)]; rfl) | (rw [if_pos (Classical.byContradiction fun q => by rw [if_neg q] at bz; omega), Int32.add_zero]; done)
    · (try simp only [ite01t, ite01v, Int32.reduceToInt, t_m1, t_m2, t_m1000, Decidable.not_not] at kc14); (try simp only [pe2] at kc14); (try simp only [ev.2.1] at kc14)
      refine w_Model_sumOf_23 ?_
      refine w_Model_sumOf_67 rfl ?_
      refine ih (by omega) _ ⟨_, _, rfl, t_succ hz (by omega), ?_⟩
      rw [sumG_succ, ← hm, gtF]
      first | (rw [if_neg (by rw [bj]; exact Bool.false_ne_true)]; rfl) | (rw [if_pos (Classical.byContradiction fun q => by rw [if_neg q] at bz; omega), Int32.add_zero]; done)
end M49
