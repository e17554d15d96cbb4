/-! OPERATIONS: poorer, land -/
section M38
variable {rod : Nat → Nat × (Nat → Int32)} {d : Nat} {h : MH} {a l : Nat}
theorem dv_q {x k : Int32} {n : Nat} (hk : k.toInt = (n : Int)) (hn : 0 < n) (h0 : 0 ≤ x.toInt) : (x / k).toInt = x.toInt / (n : Int) := by
  rw [i32_div (by omega), hk, Int.tdiv_eq_ediv_of_nonneg h0]
theorem dv_r {x k : Int32} {n : Nat} (hk : k.toInt = (n : Int)) (hn : 0 < n) (h0 : 0 ≤ x.toInt) : (x - x / k * k).toInt = x.toInt % (n : Int) := by
  have q := dv_q hk hn h0
  have lt := x.toInt_lt
  have e1 := Int.mul_ediv_add_emod x.toInt (n : Int)
  have e2 := Int.emod_nonneg x.toInt (b := (n : Int)) (by omega)
  have e3 := Int.ediv_nonneg h0 (b := (n : Int)) (by omega)
  have e4 : 0 ≤ (n : Int) * (x.toInt / (n : Int)) := Int.mul_nonneg (by omega) e3
  have e5 := Int.emod_lt_of_pos x.toInt (b := (n : Int)) (by omega)
  have m : (x / k * k).toInt = (n : Int) * (x.toInt / (n : Int)) := by
    rw [i32_mul (by rw [q, hk, Int.mul_comm]; omega) (by rw [q, hk, Int.mul_comm]; omega), q, hk, Int.mul_comm]
  rw [i32_sub (by omega) (by omega), m]
  omega
/-- letter m is no worse than letter t, and unlike it -/
def betterB (D : Nat → Nat → Int32) (m t : Nat) : Bool := decide (((D 6 m).toInt ≠ (D 6 t).toInt ∨ (D 7 m).toInt ≠ (D 7 t).toInt) ∧ (D 6 t).toInt ≤ (D 6 m).toInt ∧ (D 7 m).toInt ≤ (D 7 t).toInt)
def poorIn (D : Nat → Nat → Int32) (t : Int32) (tt : Nat) (acc : Int32) : Nat → Int32
  | 0 => acc
  | m + 1 => poorIn D t tt acc m ||| (if betterB D m tt = true then (1 : Int32) <<< (t &&& 31) else 0)
def poorF (D : Nat → Nat → Int32) (n : Nat) : Nat → Int32
  | 0 => 0
  | j + 1 => poorIn D (Int32.ofNat j) j (poorF D n j) n
theorem s_poorer (A : LandA h.2 a) (hL : (h.1 a 5).toInt ≤ 4) (n : Nat) (hn : (h.1 a 5).toInt = (n : Int)) : Tc rod (d + 1) 179 [.inr (.inr (.inl (some a)))] h (some (.inl (poorF (ld h a) n n))) h := by
  apply Wc.tc
  refine n_Land_poorerLetters ?_
  refine w_Land_poorerLetters_0 rfl ?_
  refine Wb.upc n (fun j L' => ∃ (x m : Int32) (u v : Option MV), L' = [some (.inr (.inr (.inl (some a)))), some (.inl m), some (.inl x), u, v] ∧ x.toInt = (j : Int) ∧ m = poorF (ld h a) n j) ?_ (Nat.zero_le n) ⟨0, 0, _, _, rfl, rfl, rfl⟩
  rintro j _ hj ⟨x, m, u, v, rfl, hx, hm⟩ ih
  have ex := n_eq hx
  have eo : x = Int32.ofNat j := i32_of (by rw [hx, t_nat (by omega)])
  refine w_Land_poorerLetters_4 A (fun c4 => ?_) (fun c4 => ?_)
  · try simp only [ite01t, ite01v, Int32.reduceToInt, t_m1, t_m2, t_m1000, Decidable.not_not] at c4
    refine w_Land_poorerLetters_112 ?_
    exact ⟨by rw [hm, show j = n by omega], rfl⟩
  · try simp only [ite01t, ite01v, Int32.reduceToInt, t_m1, t_m2, t_m1000, Decidable.not_not] at c4
    refine w_Land_poorerLetters_12 rfl ?_
    refine Wb.upc n (fun i L' => ∃ (z w : Int32) (v : Option MV), L' = [some (.inr (.inr (.inl (some a)))), some (.inl w), some (.inl x), some (.inl z), v] ∧ z.toInt = (i : Int) ∧ w = poorIn (ld h a) x j m i) ?_ (Nat.zero_le n) ⟨0, m, _, rfl, rfl, rfl⟩
    rintro i _ hi ⟨z, w, v, rfl, hz, hw⟩ ih2
    have ez := n_eq hz
    refine w_Land_poorerLetters_14 A (fun c14 => ?_) (fun c14 => ?_)
    · try simp only [ite01t, ite01v, Int32.reduceToInt, t_m1, t_m2, t_m1000, Decidable.not_not] at c14
      refine w_Land_poorerLetters_106 rfl ?_
      refine ih (by omega) _ ⟨_, _, _, _, rfl, t_succ hx (by omega), ?_⟩
      rw [poorF, ← hm, ← eo, hw, show i = n by omega]
    · try simp only [ite01t, ite01v, Int32.reduceToInt, t_m1, t_m2, t_m1000, Decidable.not_not] at c14
      refine w_Land_poorerLetters_22 A (by first | assumption | omega | (refine ⟨?_, ?_⟩ <;> first | assumption | omega)) (by first | assumption | omega | (refine ⟨?_, ?_⟩ <;> first | assumption | omega)) (fun c22 => ?_) (fun c22 => ?_)
      · try simp only [ite01t, ite01v, Int32.reduceToInt, t_m1, t_m2, t_m1000, Decidable.not_not] at c22
        refine w_Land_poorerLetters_52 ?_
        refine w_Land_poorerLetters_57 rfl (fun c57 => absurd c57 (by decide)) (fun c57 => ?_)
        refine w_Land_poorerLetters_64 A (by first | assumption | omega | (refine ⟨?_, ?_⟩ <;> first | assumption | omega)) (by first | assumption | omega | (refine ⟨?_, ?_⟩ <;> first | assumption | omega)) (fun c64 => ?_) (fun c64 => ?_)
        · try simp only [ite01t, ite01v, Int32.reduceToInt, t_m1, t_m2, t_m1000, Decidable.not_not] at c64
          refine w_Land_poorerLetters_100 rfl ?_
          refine ih2 (by omega) _ ⟨_, _, _, rfl, t_succ hz (by omega), ?_⟩
          rw [poorIn, ← hw]
          simp only [ex, ez] at *
          first | (exfalso; omega) | rw [if_pos (by simp only [betterB, decide_eq_true_eq]; show (¬ (h.1 (a + 6) i).toInt = (h.1 (a + 6) j).toInt ∨ ¬ (h.1 (a + 7) i).toInt = (h.1 (a + 7) j).toInt) ∧ (h.1 (a + 6) j).toInt ≤ (h.1 (a + 6) i).toInt ∧ (h.1 (a + 7) i).toInt ≤ (h.1 (a + 7) j).toInt; omega)] | rw [if_neg (by simp only [betterB, decide_eq_true_eq]; show ¬ ((¬ (h.1 (a + 6) i).toInt = (h.1 (a + 6) j).toInt ∨ ¬ (h.1 (a + 7) i).toInt = (h.1 (a + 7) j).toInt) ∧ (h.1 (a + 6) j).toInt ≤ (h.1 (a + 6) i).toInt ∧ (h.1 (a + 7) i).toInt ≤ (h.1 (a + 7) j).toInt); omega), Int32.or_zero]
        · try simp only [ite01t, ite01v, Int32.reduceToInt, t_m1, t_m2, t_m1000, Decidable.not_not] at c64
          refine w_Land_poorerLetters_79 A (by first | assumption | omega | (refine ⟨?_, ?_⟩ <;> first | assumption | omega)) (by first | assumption | omega | (refine ⟨?_, ?_⟩ <;> first | assumption | omega)) (fun c79 => ?_) (fun c79 => ?_)
          · try simp only [ite01t, ite01v, Int32.reduceToInt, t_m1, t_m2, t_m1000, Decidable.not_not] at c79
            refine w_Land_poorerLetters_100 rfl ?_
            refine ih2 (by omega) _ ⟨_, _, _, rfl, t_succ hz (by omega), ?_⟩
            rw [poorIn, ← hw]
            simp only [ex, ez] at *
            first | (exfalso; omega) | rw [if_pos (by simp only [betterB, decide_eq_true_eq]; show (¬ (h.1 (a + 6) i).toInt = (h.1 (a + 6) j).toInt ∨ ¬ (h.1 (a + 7) i).toInt = (h.1 (a + 7) j).toInt) ∧ (h.1 (a + 6) j).toInt ≤ (h.1 (a + 6) i).toInt ∧ (h.1 (a + 7) i).toInt ≤ (h.1 (a + 7) j).toInt; omega)] | rw [if_neg (by simp only [betterB, decide_eq_true_eq]; show ¬ ((¬ (h.1 (a + 6) i).toInt = (h.1 (a + 6) j).toInt ∨ ¬ (h.1 (a + 7) i).toInt = (h.1 (a + 7) j).toInt) ∧ (h.1 (a + 6) j).toInt ≤ (h.1 (a + 6) i).toInt ∧ (h.1 (a + 7) i).toInt ≤ (h.1 (a + 7) j).toInt); omega), Int32.or_zero]
          · try simp only [ite01t, ite01v, Int32.reduceToInt, t_m1, t_m2, t_m1000, Decidable.not_not] at c79
            refine w_Land_poorerLetters_94 rfl ?_
            refine w_Land_poorerLetters_100 rfl ?_
            refine ih2 (by omega) _ ⟨_, _, _, rfl, t_succ hz (by omega), ?_⟩
            rw [poorIn, ← hw]
            simp only [ex, ez] at *
            first | (exfalso; omega) | rw [if_pos (by simp only [betterB, decide_eq_true_eq]; show (¬ (h.1 (a + 6) i).toInt = (h.1 (a + 6) j).toInt ∨ ¬ (h.1 (a + 7) i).toInt = (h.1 (a + 7) j).toInt) ∧ (h.1 (a + 6) j).toInt ≤ (h.1 (a + 6) i).toInt ∧ (h.1 (a + 7) i).toInt ≤ (h.1 (a + 7) j).toInt; omega)] | rw [if_neg (by simp only [betterB, decide_eq_true_eq]; show ¬ ((¬ (h.1 (a + 6) i).toInt = (h.1 (a + 6) j).toInt ∨ ¬ (h.1 (a + 7) i).toInt = (h.1 (a + 7) j).toInt) ∧ (h.1 (a + 6) j).toInt ≤ (h.1 (a + 6) i).toInt ∧ (h.1 (a + 7) i).toInt ≤ (h.1 (a + 7) j).toInt); omega), Int32.or_zero]
      · try simp only [ite01t, ite01v, Int32.reduceToInt, t_m1, t_m2, t_m1000, Decidable.not_not] at c22
        refine w_Land_poorerLetters_37 A (by first | assumption | omega | (refine ⟨?_, ?_⟩ <;> first | assumption | omega)) (by first | assumption | omega | (refine ⟨?_, ?_⟩ <;> first | assumption | omega)) (fun c37 => ?_) (fun c37 => ?_)
        · try simp only [ite01t, ite01v, Int32.reduceToInt, t_m1, t_m2, t_m1000, Decidable.not_not] at c37
          refine w_Land_poorerLetters_56 ?_
          refine w_Land_poorerLetters_57 rfl (fun c57 => ?_) (fun c57 => absurd c57 (by decide))
          refine w_Land_poorerLetters_100 rfl ?_
          refine ih2 (by omega) _ ⟨_, _, _, rfl, t_succ hz (by omega), ?_⟩
          rw [poorIn, ← hw]
          simp only [ex, ez] at *
          first | (exfalso; omega) | rw [if_pos (by simp only [betterB, decide_eq_true_eq]; show (¬ (h.1 (a + 6) i).toInt = (h.1 (a + 6) j).toInt ∨ ¬ (h.1 (a + 7) i).toInt = (h.1 (a + 7) j).toInt) ∧ (h.1 (a + 6) j).toInt ≤ (h.1 (a + 6) i).toInt ∧ (h.1 (a + 7) i).toInt ≤ (h.1 (a + 7) j).toInt; omega)] | rw [if_neg (by simp only [betterB, decide_eq_true_eq]; show ¬ ((¬ (h.1 (a + 6) i).toInt = (h.1 (a + 6) j).toInt ∨ ¬ (h.1 (a + 7) i).toInt = (h.1 (a + 7) j).toInt) ∧ (h.1 (a + 6) j).toInt ≤ (h.1 (a + 6) i).toInt ∧ (h.1 (a + 7) i).toInt ≤ (h.1 (a + 7) j).toInt); omega), Int32.or_zero]
        · try simp only [ite01t, ite01v, Int32.reduceToInt, t_m1, t_m2, t_m1000, Decidable.not_not] at c37
          refine w_Land_poorerLetters_52 ?_
          refine w_Land_poorerLetters_57 rfl (fun c57 => absurd c57 (by decide)) (fun c57 => ?_)
          refine w_Land_poorerLetters_64 A (by first | assumption | omega | (refine ⟨?_, ?_⟩ <;> first | assumption | omega)) (by first | assumption | omega | (refine ⟨?_, ?_⟩ <;> first | assumption | omega)) (fun c64 => ?_) (fun c64 => ?_)
          · try simp only [ite01t, ite01v, Int32.reduceToInt, t_m1, t_m2, t_m1000, Decidable.not_not] at c64
            refine w_Land_poorerLetters_100 rfl ?_
            refine ih2 (by omega) _ ⟨_, _, _, rfl, t_succ hz (by omega), ?_⟩
            rw [poorIn, ← hw]
            simp only [ex, ez] at *
            first | (exfalso; omega) | rw [if_pos (by simp only [betterB, decide_eq_true_eq]; show (¬ (h.1 (a + 6) i).toInt = (h.1 (a + 6) j).toInt ∨ ¬ (h.1 (a + 7) i).toInt = (h.1 (a + 7) j).toInt) ∧ (h.1 (a + 6) j).toInt ≤ (h.1 (a + 6) i).toInt ∧ (h.1 (a + 7) i).toInt ≤ (h.1 (a + 7) j).toInt; omega)] | rw [if_neg (by simp only [betterB, decide_eq_true_eq]; show ¬ ((¬ (h.1 (a + 6) i).toInt = (h.1 (a + 6) j).toInt ∨ ¬ (h.1 (a + 7) i).toInt = (h.1 (a + 7) j).toInt) ∧ (h.1 (a + 6) j).toInt ≤ (h.1 (a + 6) i).toInt ∧ (h.1 (a + 7) i).toInt ≤ (h.1 (a + 7) j).toInt); omega), Int32.or_zero]
          · try simp only [ite01t, ite01v, Int32.reduceToInt, t_m1, t_m2, t_m1000, Decidable.not_not] at c64
            refine w_Land_poorerLetters_79 A (by first | assumption | omega | (refine ⟨?_, ?_⟩ <;> first | assumption | omega)) (by first | assumption | omega | (refine ⟨?_, ?_⟩ <;> first | assumption | omega)) (fun c79 => ?_) (fun c79 => ?_)
            · try simp only [ite01t, ite01v, Int32.reduceToInt, t_m1, t_m2, t_m1000, Decidable.not_not] at c79
              refine w_Land_poorerLetters_100 rfl ?_
              refine ih2 (by omega) _ ⟨_, _, _, rfl, t_succ hz (by omega), ?_⟩
              rw [poorIn, ← hw]
              simp only [ex, ez] at *
              first | (exfalso; omega) | rw [if_pos (by simp only [betterB, decide_eq_true_eq]; show (¬ (h.1 (a + 6) i).toInt = (h.1 (a + 6) j).toInt ∨ ¬ (h.1 (a + 7) i).toInt = (h.1 (a + 7) j).toInt) ∧ (h.1 (a + 6) j).toInt ≤ (h.1 (a + 6) i).toInt ∧ (h.1 (a + 7) i).toInt ≤ (h.1 (a + 7) j).toInt; omega)] | rw [if_neg (by simp only [betterB, decide_eq_true_eq]; show ¬ ((¬ (h.1 (a + 6) i).toInt = (h.1 (a + 6) j).toInt ∨ ¬ (h.1 (a + 7) i).toInt = (h.1 (a + 7) j).toInt) ∧ (h.1 (a + 6) j).toInt ≤ (h.1 (a + 6) i).toInt ∧ (h.1 (a + 7) i).toInt ≤ (h.1 (a + 7) j).toInt); omega), Int32.or_zero]
            · try simp only [ite01t, ite01v, Int32.reduceToInt, t_m1, t_m2, t_m1000, Decidable.not_not] at c79
              refine w_Land_poorerLetters_94 rfl ?_
              refine w_Land_poorerLetters_100 rfl ?_
              refine ih2 (by omega) _ ⟨_, _, _, rfl, t_succ hz (by omega), ?_⟩
              rw [poorIn, ← hw]
              simp only [ex, ez] at *
              first | (exfalso; omega) | rw [if_pos (by simp only [betterB, decide_eq_true_eq]; show (¬ (h.1 (a + 6) i).toInt = (h.1 (a + 6) j).toInt ∨ ¬ (h.1 (a + 7) i).toInt = (h.1 (a + 7) j).toInt) ∧ (h.1 (a + 6) j).toInt ≤ (h.1 (a + 6) i).toInt ∧ (h.1 (a + 7) i).toInt ≤ (h.1 (a + 7) j).toInt; omega)] | rw [if_neg (by simp only [betterB, decide_eq_true_eq]; show ¬ ((¬ (h.1 (a + 6) i).toInt = (h.1 (a + 6) j).toInt ∨ ¬ (h.1 (a + 7) i).toInt = (h.1 (a + 7) j).toInt) ∧ (h.1 (a + 6) j).toInt ≤ (h.1 (a + 6) i).toInt ∧ (h.1 (a + 7) i).toInt ≤ (h.1 (a + 7) j).toInt); omega), Int32.or_zero]
theorem s_isBetter (M : MLand h a l) (L : Lay h.2) (x y : Int32) (m t : Nat) (hx : x.toInt = (m : Int)) (hy : y.toInt = (t : Int)) (hm : (m : Int) < (h.1 a 5).toInt) (ht : (t : Int) < (h.1 a 5).toInt) : Tc rod (d + 2) 265 [.inr (.inr (.inl (some 84))), .inl x, .inl y] h (some (.inl (if betterB (ld h a) m t = true then 1 else 0))) h := by
  apply Wc.tc
  refine n_Model_isBetter ?_
  refine w_Model_isBetter_0 L (Tc.wc (s_ofL0 M L x m hx hm)) (Is.k ?_)
  refine w_Model_isBetter_6 L (Tc.wc (s_ofL0 M L y t hy ht)) (Is.k ?_)
  refine w_Model_isBetter_12 (fun c12 => ?_) (fun c12 => ?_)
  · try simp only [ite01t, ite01v, Int32.reduceToInt, t_m1, t_m2, t_m1000, Decidable.not_not] at c12
    refine w_Model_isBetter_34 ?_
    refine w_Model_isBetter_35 rfl (fun c35 => ?_) (fun c35 => absurd c35 (by decide))
    refine w_Model_isBetter_74 ?_
    refine w_Model_isBetter_75 (by first | exact Or.inl rfl | exact Or.inr rfl | exact or01 | assumption) ?_
    refine ⟨?_, rfl⟩
    have e : (betterB (ld h a) m t = true) = ((¬ (h.1 (a + 6) m).toInt = (h.1 (a + 6) t).toInt ∨ ¬ (h.1 (a + 7) m).toInt = (h.1 (a + 7) t).toInt) ∧ (h.1 (a + 6) t).toInt ≤ (h.1 (a + 6) m).toInt ∧ (h.1 (a + 7) m).toInt ≤ (h.1 (a + 7) t).toInt) := by simp only [betterB, decide_eq_true_eq]; rfl
    simp only [e]
    first | rw [if_pos (by omega)] | rw [if_neg (by omega)]
  · try simp only [ite01t, ite01v, Int32.reduceToInt, t_m1, t_m2, t_m1000, Decidable.not_not] at c12
    refine w_Model_isBetter_15 L (Tc.wc (s_ofL1 M L x m hx hm)) (Is.k ?_)
    refine w_Model_isBetter_21 L (Tc.wc (s_ofL1 M L y t hy ht)) (Is.k ?_)
    refine w_Model_isBetter_27 (fun c27 => ?_) (fun c27 => ?_)
    · try simp only [ite01t, ite01v, Int32.reduceToInt, t_m1, t_m2, t_m1000, Decidable.not_not] at c27
      refine w_Model_isBetter_34 ?_
      refine w_Model_isBetter_35 rfl (fun c35 => ?_) (fun c35 => absurd c35 (by decide))
      refine w_Model_isBetter_74 ?_
      refine w_Model_isBetter_75 (by first | exact Or.inl rfl | exact Or.inr rfl | exact or01 | assumption) ?_
      refine ⟨?_, rfl⟩
      have e : (betterB (ld h a) m t = true) = ((¬ (h.1 (a + 6) m).toInt = (h.1 (a + 6) t).toInt ∨ ¬ (h.1 (a + 7) m).toInt = (h.1 (a + 7) t).toInt) ∧ (h.1 (a + 6) t).toInt ≤ (h.1 (a + 6) m).toInt ∧ (h.1 (a + 7) m).toInt ≤ (h.1 (a + 7) t).toInt) := by simp only [betterB, decide_eq_true_eq]; rfl
      simp only [e]
      first | rw [if_pos (by omega)] | rw [if_neg (by omega)]
    · try simp only [ite01t, ite01v, Int32.reduceToInt, t_m1, t_m2, t_m1000, Decidable.not_not] at c27
      refine w_Model_isBetter_30 ?_
      refine w_Model_isBetter_35 rfl (fun c35 => absurd c35 (by decide)) (fun c35 => ?_)
      refine w_Model_isBetter_40 L (Tc.wc (s_ofL0 M L x m hx hm)) (Is.k ?_)
      refine w_Model_isBetter_46 L (Tc.wc (s_ofL0 M L y t hy ht)) (Is.k ?_)
      refine w_Model_isBetter_52 (fun c52 => ?_) (fun c52 => ?_)
      · try simp only [ite01t, ite01v, Int32.reduceToInt, t_m1, t_m2, t_m1000, Decidable.not_not] at c52
        refine w_Model_isBetter_70 ?_
        refine w_Model_isBetter_75 (by first | exact Or.inl rfl | exact Or.inr rfl | exact or01 | assumption) ?_
        refine ⟨?_, rfl⟩
        have e : (betterB (ld h a) m t = true) = ((¬ (h.1 (a + 6) m).toInt = (h.1 (a + 6) t).toInt ∨ ¬ (h.1 (a + 7) m).toInt = (h.1 (a + 7) t).toInt) ∧ (h.1 (a + 6) t).toInt ≤ (h.1 (a + 6) m).toInt ∧ (h.1 (a + 7) m).toInt ≤ (h.1 (a + 7) t).toInt) := by simp only [betterB, decide_eq_true_eq]; rfl
        simp only [e]
        first | rw [if_pos (by omega)] | rw [if_neg (by omega)]
      · try simp only [ite01t, ite01v, Int32.reduceToInt, t_m1, t_m2, t_m1000, Decidable.not_not] at c52
        refine w_Model_isBetter_55 L (Tc.wc (s_ofL1 M L x m hx hm)) (Is.k ?_)
        refine w_Model_isBetter_61 L (Tc.wc (s_ofL1 M L y t hy ht)) (Is.k ?_)
        refine w_Model_isBetter_67 (fun c67 => ?_) (fun c67 => ?_)
        · try simp only [ite01t, ite01v, Int32.reduceToInt, t_m1, t_m2, t_m1000, Decidable.not_not] at c67
          refine w_Model_isBetter_74 ?_
          refine w_Model_isBetter_75 (by first | exact Or.inl rfl | exact Or.inr rfl | exact or01 | assumption) ?_
          refine ⟨?_, rfl⟩
          have e : (betterB (ld h a) m t = true) = ((¬ (h.1 (a + 6) m).toInt = (h.1 (a + 6) t).toInt ∨ ¬ (h.1 (a + 7) m).toInt = (h.1 (a + 7) t).toInt) ∧ (h.1 (a + 6) t).toInt ≤ (h.1 (a + 6) m).toInt ∧ (h.1 (a + 7) m).toInt ≤ (h.1 (a + 7) t).toInt) := by simp only [betterB, decide_eq_true_eq]; rfl
          simp only [e]
          first | rw [if_pos (by omega)] | rw [if_neg (by omega)]
        · try simp only [ite01t, ite01v, Int32.reduceToInt, t_m1, t_m2, t_m1000, Decidable.not_not] at c67
          refine w_Model_isBetter_70 ?_
          refine w_Model_isBetter_75 (by first | exact Or.inl rfl | exact Or.inr rfl | exact or01 | assumption) ?_
          refine ⟨?_, rfl⟩
          have e : (betterB (ld h a) m t = true) = ((¬ (h.1 (a + 6) m).toInt = (h.1 (a + 6) t).toInt ∨ ¬ (h.1 (a + 7) m).toInt = (h.1 (a + 7) t).toInt) ∧ (h.1 (a + 6) t).toInt ≤ (h.1 (a + 6) m).toInt ∧ (h.1 (a + 7) m).toInt ≤ (h.1 (a + 7) t).toInt) := by simp only [betterB, decide_eq_true_eq]; rfl
          simp only [e]
          first | rw [if_pos (by omega)] | rw [if_neg (by omega)]
theorem op_poorer (k : Int32) : OpI INV rod 178 264 [k] := by
  refine OpI.mk fun h hI => ?_
  have L := hI.lay
  by_cases hk : 0 ≤ k.toInt ∧ k.toInt < (h.1 3 0).toInt
  · obtain ⟨A, R, ha, hk2⟩ := hI.landK hk
    have ek := n_of hk.1
    have at1 := fun (d : Nat) => s_landAt1 (rod := rod) (d := d) hI hk
    generalize k.toNatClampNeg = kk at ek hk2 A R ha at1
    have tw := R.tw
    have bu := R.bu
    have le := R.le
    obtain ⟨n, hn⟩ := Int.eq_ofNat_of_zero_le le.1
    refine ⟨poorF (ld h (8 + 18 * kk)) n n, ?_, fun h1 I1 K1 => ?_⟩
    · refine n_Main_poorer ?_
      refine w_Main_poorer_0 L (Tc.wc (at1 _)) (Is.k ?_)
      refine w_Main_poorer_8 rfl (fun c => nomatch c) (fun _ _ => ?_)
      refine w_Main_poorer_17 A (Tc.wc (s_poorer A (by omega) n hn)) (Is.k ?_)
      refine w_Main_poorer_21 ?_
      exact ⟨rfl, Keep.rfl⟩
    · have L1 := I1.lay
      have hk1 : (kk : Int) < (h1.1 3 0).toInt := by rw [K1.c 3 (by omega)]; omega
      have is1 := fun (d : Nat) => s_isLand1 (rod := rod) (d := d) I1 k kk ek hk1
      refine n_Model_poorer ?_
      refine w_Model_poorer_0 L1 (is1 _) ?_
      rintro _ h0 ⟨rfl, k0, M0⟩
      have I0 := I1.keep k0
      have L0 := I0.lay
      have K0 := (Keep.rfl (h := h1)).trans k0
      have e0 : h0.1 (8 + 18 * kk) = h.1 (8 + 18 * kk) := (K1.trans K0).c _ (by omega)
      refine w_Model_poorer_5 (fun c5 => ?_) (fun c5 => absurd c5 (by decide))
      refine w_Model_poorer_10 rfl ?_
      have e15 : (h0.1 84 15).toInt = (n : Int) := by rw [M0.2.2.2.2.2, e0]; exact hn
      have en : (h0.1 (8 + 18 * kk) 5).toInt = (n : Int) := by rw [e0]; exact hn
      refine Wb.upc n (fun j L' => ∃ (x m : Int32) (v : Option MV), L' = [some (.inr (.inr (.inl (some 84)))), some (.inl k), some (.inl m), some (.inl x), v] ∧ x.toInt = (j : Int) ∧ m = poorF (ld h0 (8 + 18 * kk)) n j) ?_ (Nat.zero_le n) ⟨0, 0, _, rfl, rfl, rfl⟩
      rintro j _ hj ⟨x, m, v, rfl, hx, hm⟩ ih
      have ex := n_eq hx
      have eo : x = Int32.ofNat j := i32_of (by rw [hx, t_nat (by omega)])
      refine w_Model_poorer_14 L0 (fun c14 => ?_) (fun c14 => ?_)
      · try simp only [ite01t, ite01v, Int32.reduceToInt, t_m1, t_m2, t_m1000, Decidable.not_not] at c14
        refine w_Model_poorer_66 ?_
        exact ⟨by rw [hm, show j = n by omega, ldk (K1.trans K0) ha], K0⟩
      · try simp only [ite01t, ite01v, Int32.reduceToInt, t_m1, t_m2, t_m1000, Decidable.not_not] at c14
        refine w_Model_poorer_22 rfl ?_
        refine Wb.upc n (fun i L' => ∃ (z w : Int32), L' = [some (.inr (.inr (.inl (some 84)))), some (.inl k), some (.inl w), some (.inl x), some (.inl z)] ∧ z.toInt = (i : Int) ∧ w = poorIn (ld h0 (8 + 18 * kk)) x j m i) ?_ (Nat.zero_le n) ⟨0, m, rfl, rfl, rfl⟩
        rintro i _ hi ⟨z, w, rfl, hz, hw⟩ ih2
        refine w_Model_poorer_25 L0 (fun c25 => ?_) (fun c25 => ?_)
        · try simp only [ite01t, ite01v, Int32.reduceToInt, t_m1, t_m2, t_m1000, Decidable.not_not] at c25
          refine w_Model_poorer_60 rfl ?_
          refine ih (by omega) _ ⟨_, _, _, rfl, t_succ hx (by omega), ?_⟩
          rw [poorF, ← hm, ← eo, hw, show i = n by omega]
        · try simp only [ite01t, ite01v, Int32.reduceToInt, t_m1, t_m2, t_m1000, Decidable.not_not] at c25
          refine w_Model_poorer_34 L0 (Tc.wc (s_isBetter M0 L0 z x i j hz hx (by omega) (by omega))) (Is.k ?_)
          refine w_Model_poorer_42 (fun c42 => ?_) (fun c42 => ?_)
          · try simp only [ite01t, ite01v, Int32.reduceToInt, t_m1, t_m2, t_m1000, Decidable.not_not] at c42
            refine w_Model_poorer_51 ?_
            refine w_Model_poorer_52 rfl rfl ?_
            refine ih2 (by omega) _ ⟨_, _, rfl, t_succ hz (by omega), ?_⟩
            rw [poorIn, ← hw]
            first | rw [if_pos c42] | rw [if_neg c42]
          · try simp only [ite01t, ite01v, Int32.reduceToInt, t_m1, t_m2, t_m1000, Decidable.not_not] at c42
            refine w_Model_poorer_45 ?_
            refine w_Model_poorer_52 rfl rfl ?_
            refine ih2 (by omega) _ ⟨_, _, rfl, t_succ hz (by omega), ?_⟩
            rw [poorIn, ← hw]
            first | rw [if_pos c42] | rw [if_neg c42]
  · refine ⟨-1, ?_, fun h1 I1 K1 => ?_⟩
    · refine n_Main_poorer ?_
      refine w_Main_poorer_0 L (Tc.wc (s_landAt0 hI hk)) (Is.k ?_)
      refine w_Main_poorer_8 rfl (fun _ => ?_) (fun _ c => nomatch c)
      refine w_Main_poorer_13 ?_
      refine w_Main_poorer_21 ?_
      exact ⟨rfl, Keep.rfl⟩
    · have L1 := I1.lay
      have hk1 : ¬ (0 ≤ k.toInt ∧ k.toInt < (h1.1 3 0).toInt) := by rw [K1.c 3 (by omega)]; exact hk
      refine n_Model_poorer ?_
      refine w_Model_poorer_0 L1 (Tc.wc (s_isLand0 I1 k hk1)) (Is.k ?_)
      refine w_Model_poorer_5 (fun c5 => absurd c5 (by decide)) (fun c5 => ?_)
      refine w_Model_poorer_8 ?_
      exact ⟨rfl, Keep.rfl⟩
/-- what land() answers of a land -/
def landV (D : Nat → Nat → Int32) (w : Int32) : Int32 := if w.toInt = 0 then D 0 0 else if w.toInt = 1 then D 0 4 else if w.toInt = 2 then D 0 5 else if w.toInt = 3 then D 0 1 else if w.toInt = 4 then D 0 2 else if w.toInt = 5 then D 0 3
  else if 10 ≤ w.toInt ∧ w.toInt ≤ 59 then (if w.toInt % 10 < (D 0 4).toInt then D (w.toInt / 10).toNat (w.toInt % 10).toNat else -1)
  else if 60 ≤ w.toInt ∧ w.toInt ≤ 79 then (if w.toInt % 10 < (D 0 5).toInt then D (w.toInt / 10).toNat (w.toInt % 10).toNat else -1)
  else if 100 ≤ w.toInt ∧ w.toInt ≤ 135 then (if (w.toInt - 100) / 6 < (D 0 0).toInt ∧ (w.toInt - 100) % 6 < (D 0 0).toInt then D 8 (w.toInt - 100).toNat else -1) else -1
theorem landV_b {D : Nat → Nat → Int32} {w : Int32} (c : 10 ≤ w.toInt ∧ w.toInt ≤ 59) : landV D w = if w.toInt % 10 < (D 0 4).toInt then D (w.toInt / 10).toNat (w.toInt % 10).toNat else -1 := by
  rw [landV, if_neg (by omega), if_neg (by omega), if_neg (by omega), if_neg (by omega), if_neg (by omega), if_neg (by omega), if_pos c]
theorem landV_l {D : Nat → Nat → Int32} {w : Int32} (c : 60 ≤ w.toInt ∧ w.toInt ≤ 79) : landV D w = if w.toInt % 10 < (D 0 5).toInt then D (w.toInt / 10).toNat (w.toInt % 10).toNat else -1 := by
  rw [landV, if_neg (by omega), if_neg (by omega), if_neg (by omega), if_neg (by omega), if_neg (by omega), if_neg (by omega), if_neg (by omega), if_pos c]
theorem landV_r {D : Nat → Nat → Int32} {w : Int32} (c : 100 ≤ w.toInt ∧ w.toInt ≤ 135) : landV D w = if (w.toInt - 100) / 6 < (D 0 0).toInt ∧ (w.toInt - 100) % 6 < (D 0 0).toInt then D 8 (w.toInt - 100).toNat else -1 := by
  rw [landV, if_neg (by omega), if_neg (by omega), if_neg (by omega), if_neg (by omega), if_neg (by omega), if_neg (by omega), if_neg (by omega), if_neg (by omega), if_pos c]
theorem landV_n {D : Nat → Nat → Int32} {w : Int32} (c : w.toInt < 0 ∨ (5 < w.toInt ∧ w.toInt < 10) ∨ (79 < w.toInt ∧ w.toInt < 100) ∨ 135 < w.toInt) : landV D w = -1 := by
  rw [landV, if_neg (by omega), if_neg (by omega), if_neg (by omega), if_neg (by omega), if_neg (by omega), if_neg (by omega), if_neg (by omega), if_neg (by omega), if_neg (by omega)]
theorem clamp_eq {x : Int32} {z : Int} (e : x.toInt = z) : x.toNatClampNeg = z.toNat := by rw [← e]; rfl
theorem s_toldB (A : LandA h.2 a) (hB : (h.1 a 4).toInt ≤ 8) (x y : Int32) : Tc rod (d + 2) 69 [.inr (.inr (.inl (some a))), .inl x, .inl y] h (some (.inl (if (0 ≤ y.toInt ∧ y.toInt < (h.1 a 4).toInt) ∧ 1 ≤ x.toInt ∧ x.toInt ≤ 5 then h.1 (a + x.toNatClampNeg) y.toNatClampNeg else -1))) h := by
  apply Wc.tc
  refine n_Land_toldOfBuyer ?_
  refine w_Land_toldOfBuyer_0 A (Tc.wc (s_hasBuyer A _)) (Is.k ?_)
  refine w_Land_toldOfBuyer_5 (fun c5 => ?_) (fun c5 => ?_)
  · try simp only [ite01t, ite01v, Int32.reduceToInt, t_m1, t_m2, t_m1000, Decidable.not_not] at c5
    refine w_Land_toldOfBuyer_10 (fun c10 => ?_) (fun c10 => ?_) (fun c10 => ?_) (fun c10 => ?_) (fun c10 => ?_) (fun c10_0 c10_1 c10_2 c10_3 c10_4 => ?_)
    · refine w_Land_toldOfBuyer_44 A (by first | assumption | omega | (refine ⟨?_, ?_⟩ <;> first | assumption | omega)) ?_
      exact ⟨by first | rw [if_neg (by omega)] | rw [if_pos (by omega), n_eq (x := x) (show x.toInt = ((1 : Nat) : Int) from c10)] | rw [if_pos (by omega), n_eq (x := x) (show x.toInt = ((2 : Nat) : Int) from c10)] | rw [if_pos (by omega), n_eq (x := x) (show x.toInt = ((3 : Nat) : Int) from c10)] | rw [if_pos (by omega), n_eq (x := x) (show x.toInt = ((4 : Nat) : Int) from c10)] | rw [if_pos (by omega), n_eq (x := x) (show x.toInt = ((5 : Nat) : Int) from c10)], rfl⟩
    · refine w_Land_toldOfBuyer_51 A (by first | assumption | omega | (refine ⟨?_, ?_⟩ <;> first | assumption | omega)) ?_
      exact ⟨by first | rw [if_neg (by omega)] | rw [if_pos (by omega), n_eq (x := x) (show x.toInt = ((1 : Nat) : Int) from c10)] | rw [if_pos (by omega), n_eq (x := x) (show x.toInt = ((2 : Nat) : Int) from c10)] | rw [if_pos (by omega), n_eq (x := x) (show x.toInt = ((3 : Nat) : Int) from c10)] | rw [if_pos (by omega), n_eq (x := x) (show x.toInt = ((4 : Nat) : Int) from c10)] | rw [if_pos (by omega), n_eq (x := x) (show x.toInt = ((5 : Nat) : Int) from c10)], rfl⟩
    · refine w_Land_toldOfBuyer_58 A (by first | assumption | omega | (refine ⟨?_, ?_⟩ <;> first | assumption | omega)) ?_
      exact ⟨by first | rw [if_neg (by omega)] | rw [if_pos (by omega), n_eq (x := x) (show x.toInt = ((1 : Nat) : Int) from c10)] | rw [if_pos (by omega), n_eq (x := x) (show x.toInt = ((2 : Nat) : Int) from c10)] | rw [if_pos (by omega), n_eq (x := x) (show x.toInt = ((3 : Nat) : Int) from c10)] | rw [if_pos (by omega), n_eq (x := x) (show x.toInt = ((4 : Nat) : Int) from c10)] | rw [if_pos (by omega), n_eq (x := x) (show x.toInt = ((5 : Nat) : Int) from c10)], rfl⟩
    · refine w_Land_toldOfBuyer_65 A (by first | assumption | omega | (refine ⟨?_, ?_⟩ <;> first | assumption | omega)) ?_
      exact ⟨by first | rw [if_neg (by omega)] | rw [if_pos (by omega), n_eq (x := x) (show x.toInt = ((1 : Nat) : Int) from c10)] | rw [if_pos (by omega), n_eq (x := x) (show x.toInt = ((2 : Nat) : Int) from c10)] | rw [if_pos (by omega), n_eq (x := x) (show x.toInt = ((3 : Nat) : Int) from c10)] | rw [if_pos (by omega), n_eq (x := x) (show x.toInt = ((4 : Nat) : Int) from c10)] | rw [if_pos (by omega), n_eq (x := x) (show x.toInt = ((5 : Nat) : Int) from c10)], rfl⟩
    · refine w_Land_toldOfBuyer_72 A (by first | assumption | omega | (refine ⟨?_, ?_⟩ <;> first | assumption | omega)) ?_
      exact ⟨by first | rw [if_neg (by omega)] | rw [if_pos (by omega), n_eq (x := x) (show x.toInt = ((1 : Nat) : Int) from c10)] | rw [if_pos (by omega), n_eq (x := x) (show x.toInt = ((2 : Nat) : Int) from c10)] | rw [if_pos (by omega), n_eq (x := x) (show x.toInt = ((3 : Nat) : Int) from c10)] | rw [if_pos (by omega), n_eq (x := x) (show x.toInt = ((4 : Nat) : Int) from c10)] | rw [if_pos (by omega), n_eq (x := x) (show x.toInt = ((5 : Nat) : Int) from c10)], rfl⟩
    · refine w_Land_toldOfBuyer_79 ?_
      exact ⟨by first | rw [if_neg (by omega)] | rw [if_pos (by omega), n_eq (x := x) (show x.toInt = ((1 : Nat) : Int) from c10)] | rw [if_pos (by omega), n_eq (x := x) (show x.toInt = ((2 : Nat) : Int) from c10)] | rw [if_pos (by omega), n_eq (x := x) (show x.toInt = ((3 : Nat) : Int) from c10)] | rw [if_pos (by omega), n_eq (x := x) (show x.toInt = ((4 : Nat) : Int) from c10)] | rw [if_pos (by omega), n_eq (x := x) (show x.toInt = ((5 : Nat) : Int) from c10)], rfl⟩
  · try simp only [ite01t, ite01v, Int32.reduceToInt, t_m1, t_m2, t_m1000, Decidable.not_not] at c5
    refine w_Land_toldOfBuyer_8 ?_
    exact ⟨by first | rw [if_neg (by omega)] | rw [if_pos (by omega), n_eq (x := x) (show x.toInt = ((1 : Nat) : Int) from c10)] | rw [if_pos (by omega), n_eq (x := x) (show x.toInt = ((2 : Nat) : Int) from c10)] | rw [if_pos (by omega), n_eq (x := x) (show x.toInt = ((3 : Nat) : Int) from c10)] | rw [if_pos (by omega), n_eq (x := x) (show x.toInt = ((4 : Nat) : Int) from c10)] | rw [if_pos (by omega), n_eq (x := x) (show x.toInt = ((5 : Nat) : Int) from c10)], rfl⟩
theorem s_toldL (A : LandA h.2 a) (hL : (h.1 a 5).toInt ≤ 4) (x y : Int32) : Tc rod (d + 2) 67 [.inr (.inr (.inl (some a))), .inl x, .inl y] h (some (.inl (if (0 ≤ y.toInt ∧ y.toInt < (h.1 a 5).toInt) ∧ 6 ≤ x.toInt ∧ x.toInt ≤ 7 then h.1 (a + x.toNatClampNeg) y.toNatClampNeg else -1))) h := by
  apply Wc.tc
  refine n_Land_toldOfLetter ?_
  refine w_Land_toldOfLetter_0 A (Tc.wc (s_hasLetter A _)) (Is.k ?_)
  refine w_Land_toldOfLetter_5 (fun c5 => ?_) (fun c5 => ?_)
  · try simp only [ite01t, ite01v, Int32.reduceToInt, t_m1, t_m2, t_m1000, Decidable.not_not] at c5
    refine w_Land_toldOfLetter_10 (fun c10 => ?_) (fun c10 => ?_) (fun c10_0 c10_1 => ?_)
    · refine w_Land_toldOfLetter_36 A (by first | assumption | omega | (refine ⟨?_, ?_⟩ <;> first | assumption | omega)) ?_
      exact ⟨by first | rw [if_neg (by omega)] | rw [if_pos (by omega), n_eq (x := x) (show x.toInt = ((6 : Nat) : Int) from c10)] | rw [if_pos (by omega), n_eq (x := x) (show x.toInt = ((7 : Nat) : Int) from c10)], rfl⟩
    · refine w_Land_toldOfLetter_43 A (by first | assumption | omega | (refine ⟨?_, ?_⟩ <;> first | assumption | omega)) ?_
      exact ⟨by first | rw [if_neg (by omega)] | rw [if_pos (by omega), n_eq (x := x) (show x.toInt = ((6 : Nat) : Int) from c10)] | rw [if_pos (by omega), n_eq (x := x) (show x.toInt = ((7 : Nat) : Int) from c10)], rfl⟩
    · refine w_Land_toldOfLetter_50 ?_
      exact ⟨by first | rw [if_neg (by omega)] | rw [if_pos (by omega), n_eq (x := x) (show x.toInt = ((6 : Nat) : Int) from c10)] | rw [if_pos (by omega), n_eq (x := x) (show x.toInt = ((7 : Nat) : Int) from c10)], rfl⟩
  · try simp only [ite01t, ite01v, Int32.reduceToInt, t_m1, t_m2, t_m1000, Decidable.not_not] at c5
    refine w_Land_toldOfLetter_8 ?_
    exact ⟨by first | rw [if_neg (by omega)] | rw [if_pos (by omega), n_eq (x := x) (show x.toInt = ((6 : Nat) : Int) from c10)] | rw [if_pos (by omega), n_eq (x := x) (show x.toInt = ((7 : Nat) : Int) from c10)], rfl⟩
theorem s_toldR (A : LandA h.2 a) (hT : (h.1 a 0).toInt ≤ 6) (x : Int32) (hx : 0 ≤ x.toInt) : Tc rod (d + 3) 64 [.inr (.inr (.inl (some a))), .inl x] h (some (.inl (if (x.toInt / 6 < (h.1 a 0).toInt ∧ x.toInt % 6 < (h.1 a 0).toInt) then h.1 (a + 8) x.toNatClampNeg else -1))) h := by
  have q := dv_q (k := 6) (n := 6) rfl (by omega) hx
  have r := dv_r (k := 6) (n := 6) rfl (by omega) hx
  have lt := x.toInt_lt
  have q0 : 0 ≤ x.toInt / (6 : Nat) := by omega
  have r0 : 0 ≤ x.toInt % (6 : Nat) := by omega
  apply Wc.tc
  refine n_Land_toldOfRoad ?_
  refine w_Land_toldOfRoad_0 A (Tc.wc (s_hasTown A _)) (Is.k ?_)
  refine w_Land_toldOfRoad_15 (fun c15 => ?_) (fun c15 => ?_)
  · (try simp only [ite01t, ite01v, Int32.reduceToInt, t_m1, t_m2, t_m1000, Decidable.not_not] at c15); (try simp only [q, r] at c15)
    refine w_Land_toldOfRoad_35 ?_
    refine w_Land_toldOfRoad_36 ?_
    refine ⟨?_, rfl⟩
    first | rw [if_neg (by omega)] | (rw [if_pos (by omega), if_pos (by omega)]; rw [show (x / 6 * 6 + (x - x / 6 * 6)) = x from by rw [Int32.add_comm, Int32.sub_add_cancel]])
  · (try simp only [ite01t, ite01v, Int32.reduceToInt, t_m1, t_m2, t_m1000, Decidable.not_not] at c15); (try simp only [q, r] at c15)
    refine w_Land_toldOfRoad_18 A (Tc.wc (s_hasTown A _)) (Is.k ?_)
    refine w_Land_toldOfRoad_23 (fun c23 => ?_) (fun c23 => ?_)
    · (try simp only [ite01t, ite01v, Int32.reduceToInt, t_m1, t_m2, t_m1000, Decidable.not_not] at c23); (try simp only [q, r] at c23)
      refine w_Land_toldOfRoad_35 ?_
      refine w_Land_toldOfRoad_36 ?_
      refine ⟨?_, rfl⟩
      first | rw [if_neg (by omega)] | (rw [if_pos (by omega), if_pos (by omega)]; rw [show (x / 6 * 6 + (x - x / 6 * 6)) = x from by rw [Int32.add_comm, Int32.sub_add_cancel]])
    · (try simp only [ite01t, ite01v, Int32.reduceToInt, t_m1, t_m2, t_m1000, Decidable.not_not] at c23); (try simp only [q, r] at c23)
      refine w_Land_toldOfRoad_26 A (Tc.wc (s_road A hT _ _)) (Is.k ?_)
      refine w_Land_toldOfRoad_32 ?_
      refine w_Land_toldOfRoad_36 ?_
      refine ⟨?_, rfl⟩
      first | rw [if_neg (by omega)] | (rw [if_pos (by omega), if_pos (by omega)]; rw [show (x / 6 * 6 + (x - x / 6 * 6)) = x from by rw [Int32.add_comm, Int32.sub_add_cancel]])
theorem s_toldOf (A : LandA h.2 a) (R : LandRel h a l) (w : Int32) : Tc rod (d + 4) 63 [.inr (.inr (.inl (some a))), .inl w] h (some (.inl (landV (ld h a) w))) h := by
  have tw := R.tw
  have bu := R.bu
  have le := R.le
  have lt := w.toInt_lt
  have l4 : (ld h a 0 4).toInt = (h.1 a 4).toInt := rfl
  have l5 : (ld h a 0 5).toInt = (h.1 a 5).toInt := rfl
  have l00 : (ld h a 0 0).toInt = (h.1 a 0).toInt := rfl
  have q := fun h0 => dv_q (x := w) (k := 10) (n := 10) rfl (by omega) h0
  have r := fun h0 => dv_r (x := w) (k := 10) (n := 10) rfl (by omega) h0
  apply Wc.tc
  refine n_Land_toldOf ?_
  refine w_Land_toldOf_0 (fun c0 => ?_) (fun c0 => ?_)
  · try simp only [ite01t, ite01v, Int32.reduceToInt, t_m1, t_m2, t_m1000, Decidable.not_not] at c0
    refine w_Land_toldOf_15 (fun c15 => ?_) (fun c15 => ?_)
    · try simp only [ite01t, ite01v, Int32.reduceToInt, t_m1, t_m2, t_m1000, Decidable.not_not] at c15
      refine w_Land_toldOf_34 (fun c34 => ?_) (fun c34 => ?_)
      · try simp only [ite01t, ite01v, Int32.reduceToInt, t_m1, t_m2, t_m1000, Decidable.not_not] at c34
        refine w_Land_toldOf_53 (fun c53 => ?_) (fun c53 => ?_) (fun c53 => ?_) (fun c53 => ?_) (fun c53 => ?_) (fun c53 => ?_) (fun c53_0 c53_1 c53_2 c53_3 c53_4 c53_5 => ?_)
        · refine w_Land_toldOf_92 A ?_
          exact ⟨by first | rw [landV, if_pos c53]; rfl | rw [landV, if_neg (by omega), if_pos c53]; rfl | rw [landV, if_neg (by omega), if_neg (by omega), if_pos c53]; rfl | rw [landV, if_neg (by omega), if_neg (by omega), if_neg (by omega), if_pos c53]; rfl | rw [landV, if_neg (by omega), if_neg (by omega), if_neg (by omega), if_neg (by omega), if_pos c53]; rfl | rw [landV, if_neg (by omega), if_neg (by omega), if_neg (by omega), if_neg (by omega), if_neg (by omega), if_pos c53]; rfl | rw [landV_n (by omega)], rfl⟩
        · refine w_Land_toldOf_97 A ?_
          exact ⟨by first | rw [landV, if_pos c53]; rfl | rw [landV, if_neg (by omega), if_pos c53]; rfl | rw [landV, if_neg (by omega), if_neg (by omega), if_pos c53]; rfl | rw [landV, if_neg (by omega), if_neg (by omega), if_neg (by omega), if_pos c53]; rfl | rw [landV, if_neg (by omega), if_neg (by omega), if_neg (by omega), if_neg (by omega), if_pos c53]; rfl | rw [landV, if_neg (by omega), if_neg (by omega), if_neg (by omega), if_neg (by omega), if_neg (by omega), if_pos c53]; rfl | rw [landV_n (by omega)], rfl⟩
        · refine w_Land_toldOf_102 A ?_
          exact ⟨by first | rw [landV, if_pos c53]; rfl | rw [landV, if_neg (by omega), if_pos c53]; rfl | rw [landV, if_neg (by omega), if_neg (by omega), if_pos c53]; rfl | rw [landV, if_neg (by omega), if_neg (by omega), if_neg (by omega), if_pos c53]; rfl | rw [landV, if_neg (by omega), if_neg (by omega), if_neg (by omega), if_neg (by omega), if_pos c53]; rfl | rw [landV, if_neg (by omega), if_neg (by omega), if_neg (by omega), if_neg (by omega), if_neg (by omega), if_pos c53]; rfl | rw [landV_n (by omega)], rfl⟩
        · refine w_Land_toldOf_107 A ?_
          exact ⟨by first | rw [landV, if_pos c53]; rfl | rw [landV, if_neg (by omega), if_pos c53]; rfl | rw [landV, if_neg (by omega), if_neg (by omega), if_pos c53]; rfl | rw [landV, if_neg (by omega), if_neg (by omega), if_neg (by omega), if_pos c53]; rfl | rw [landV, if_neg (by omega), if_neg (by omega), if_neg (by omega), if_neg (by omega), if_pos c53]; rfl | rw [landV, if_neg (by omega), if_neg (by omega), if_neg (by omega), if_neg (by omega), if_neg (by omega), if_pos c53]; rfl | rw [landV_n (by omega)], rfl⟩
        · refine w_Land_toldOf_112 A ?_
          exact ⟨by first | rw [landV, if_pos c53]; rfl | rw [landV, if_neg (by omega), if_pos c53]; rfl | rw [landV, if_neg (by omega), if_neg (by omega), if_pos c53]; rfl | rw [landV, if_neg (by omega), if_neg (by omega), if_neg (by omega), if_pos c53]; rfl | rw [landV, if_neg (by omega), if_neg (by omega), if_neg (by omega), if_neg (by omega), if_pos c53]; rfl | rw [landV, if_neg (by omega), if_neg (by omega), if_neg (by omega), if_neg (by omega), if_neg (by omega), if_pos c53]; rfl | rw [landV_n (by omega)], rfl⟩
        · refine w_Land_toldOf_117 A ?_
          exact ⟨by first | rw [landV, if_pos c53]; rfl | rw [landV, if_neg (by omega), if_pos c53]; rfl | rw [landV, if_neg (by omega), if_neg (by omega), if_pos c53]; rfl | rw [landV, if_neg (by omega), if_neg (by omega), if_neg (by omega), if_pos c53]; rfl | rw [landV, if_neg (by omega), if_neg (by omega), if_neg (by omega), if_neg (by omega), if_pos c53]; rfl | rw [landV, if_neg (by omega), if_neg (by omega), if_neg (by omega), if_neg (by omega), if_neg (by omega), if_pos c53]; rfl | rw [landV_n (by omega)], rfl⟩
        · refine w_Land_toldOf_122 ?_
          exact ⟨by first | rw [landV, if_pos c53]; rfl | rw [landV, if_neg (by omega), if_pos c53]; rfl | rw [landV, if_neg (by omega), if_neg (by omega), if_pos c53]; rfl | rw [landV, if_neg (by omega), if_neg (by omega), if_neg (by omega), if_pos c53]; rfl | rw [landV, if_neg (by omega), if_neg (by omega), if_neg (by omega), if_neg (by omega), if_pos c53]; rfl | rw [landV, if_neg (by omega), if_neg (by omega), if_neg (by omega), if_neg (by omega), if_neg (by omega), if_pos c53]; rfl | rw [landV_n (by omega)], rfl⟩
      · try simp only [ite01t, ite01v, Int32.reduceToInt, t_m1, t_m2, t_m1000, Decidable.not_not] at c34
        refine w_Land_toldOf_40 A (Tc.wc (s_toldB A (by omega) _ _)) (Is.k ?_)
        refine w_Land_toldOf_52 ?_
        have q := q (by omega)
        have r := r (by omega)
        refine ⟨?_, rfl⟩
        rw [q, r, clamp_eq q, clamp_eq r, landV_b (by omega)]
        by_cases c2 : w.toInt % 10 < (ld h a 0 4).toInt
        · rw [if_pos (by omega), if_pos c2, ld, if_pos (by omega)]; rfl
        · rw [if_neg (by omega), if_neg c2]
    · try simp only [ite01t, ite01v, Int32.reduceToInt, t_m1, t_m2, t_m1000, Decidable.not_not] at c15
      refine w_Land_toldOf_21 A (Tc.wc (s_toldL A (by omega) _ _)) (Is.k ?_)
      refine w_Land_toldOf_33 ?_
      have q := q (by omega)
      have r := r (by omega)
      refine ⟨?_, rfl⟩
      rw [q, r, clamp_eq q, clamp_eq r]
      by_cases c : w.toInt ≤ 79
      · rw [landV_l (by omega)]
        by_cases c2 : w.toInt % 10 < (ld h a 0 5).toInt
        · rw [if_pos (by omega), if_pos c2, ld, if_pos (by omega)]; rfl
        · rw [if_neg (by omega), if_neg c2]
      · rw [landV_n (by omega), if_neg (by omega)]
  · try simp only [ite01t, ite01v, Int32.reduceToInt, t_m1, t_m2, t_m1000, Decidable.not_not] at c0
    refine w_Land_toldOf_6 A (Tc.wc (s_toldR A (by omega) _ (by rw [i32_sub (by show _ ≤ _ - (100 : Int); omega) (by show _ - (100 : Int) ≤ _; omega)]; show 0 ≤ _ - (100 : Int); omega))) (Is.k ?_)
    refine w_Land_toldOf_14 ?_
    have e : (w - 100).toInt = w.toInt - 100 := i32_sub (by show _ ≤ _ - (100 : Int); omega) (by show _ - (100 : Int) ≤ _; omega)
    refine ⟨?_, rfl⟩
    rw [e, clamp_eq e]
    by_cases c : w.toInt ≤ 135
    · rw [landV_r (by omega)]; rfl
    · rw [landV_n (by omega), if_neg (by omega)]
theorem landV_f {w : Int32} (r : LandRel h a l) (c : 0 ≤ w.toInt ∧ w.toInt ≤ 5) : h.1 85 (l + w.toNatClampNeg) = landV (ld h a) w := by
  obtain ⟨r0, r1, r2, r3, r4, r5, -⟩ := r
  rcases (show w.toInt = 0 ∨ w.toInt = 1 ∨ w.toInt = 2 ∨ w.toInt = 3 ∨ w.toInt = 4 ∨ w.toInt = 5 by omega) with e | e | e | e | e | e
  · rw [landV, if_pos e, n_eq (x := w) (n := 0) (by omega)]; exact r0.symm
  · rw [landV, if_neg (by omega), if_pos e, n_eq (x := w) (n := 1) (by omega)]; exact r1.symm
  · rw [landV, if_neg (by omega), if_neg (by omega), if_pos e, n_eq (x := w) (n := 2) (by omega)]; exact r2.symm
  · rw [landV, if_neg (by omega), if_neg (by omega), if_neg (by omega), if_pos e, n_eq (x := w) (n := 3) (by omega)]; exact r3.symm
  · rw [landV, if_neg (by omega), if_neg (by omega), if_neg (by omega), if_neg (by omega), if_pos e, n_eq (x := w) (n := 4) (by omega)]; exact r4.symm
  · rw [landV, if_neg (by omega), if_neg (by omega), if_neg (by omega), if_neg (by omega), if_neg (by omega), if_pos e, n_eq (x := w) (n := 5) (by omega)]; exact r5.symm
theorem s_ofL (M : MLand h a l) (L : Lay h.2) (x y : Int32) (b v : Nat) (hb : x.toInt = (b : Int)) (hy : y.toInt = (v : Int)) (hv : v < 2) (hB : (b : Int) < (h.1 a 5).toInt) : Tc rod (d + 1) 223 [.inr (.inr (.inl (some 84))), .inl x, .inl y] h (some (.inl (h.1 (a + 6 + v) b))) h := by
  rcases (show v = 0 ∨ v = 1 by omega) with rfl | rfl
  · rw [show y = 0 from i32_of hy]; exact s_ofL0 M L x b hb hB
  · rw [show y = 1 from i32_of hy]; exact s_ofL1 M L x b hb hB
theorem op_land (k w : Int32) : OpI INV rod 60 218 [k, w] := by
  refine OpI.mk fun h hI => ?_
  have L := hI.lay
  by_cases hk : 0 ≤ k.toInt ∧ k.toInt < (h.1 3 0).toInt
  · obtain ⟨A, R, ha, hk2⟩ := hI.landK hk
    have ek := n_of hk.1
    have at1 := fun (d : Nat) => s_landAt1 (rod := rod) (d := d) hI hk
    generalize k.toNatClampNeg = kk at ek hk2 A R ha at1
    have tw := R.tw
    have bu := R.bu
    have le := R.le
    refine ⟨landV (ld h (8 + 18 * kk)) w, ?_, fun h1 I1 K1 => ?_⟩
    · refine n_Main_land ?_
      refine w_Main_land_0 L (Tc.wc (at1 _)) (Is.k ?_)
      refine w_Main_land_8 rfl (fun c => nomatch c) (fun _ _ => ?_)
      refine w_Main_land_17 A (Tc.wc (s_toldOf A R _)) (Is.k ?_)
      refine w_Main_land_22 ?_
      exact ⟨rfl, Keep.rfl⟩
    · have L1 := I1.lay
      have hk1 : (kk : Int) < (h1.1 3 0).toInt := by rw [K1.c 3 (by omega)]; omega
      have is1 := fun (d : Nat) => s_isLand1 (rod := rod) (d := d) I1 k kk ek hk1
      refine n_Model_land ?_
      refine w_Model_land_0 L1 (is1 _) ?_
      rintro _ h0 ⟨rfl, k0, M0⟩
      have I0 := I1.keep k0
      have L0 := I0.lay
      have K0 := (Keep.rfl (h := h1)).trans k0
      have e0 : h0.1 (8 + 18 * kk) = h.1 (8 + 18 * kk) := (K1.trans K0).c _ (by omega)
      refine w_Model_land_5 (fun c5 => ?_) (fun c5 => absurd c5 (by decide))
      have lt := w.toInt_lt
      have l0 := M0.2.2.1
      have dd := ldk (K1.trans K0) ha
      have rr := M0.1
      have l4 : (ld h (8 + 18 * kk) 0 4).toInt = (h.1 (8 + 18 * kk) 4).toInt := rfl
      have l5 : (ld h (8 + 18 * kk) 0 5).toInt = (h.1 (8 + 18 * kk) 5).toInt := rfl
      have l00 : (ld h (8 + 18 * kk) 0 0).toInt = (h.1 (8 + 18 * kk) 0).toInt := rfl
      refine w_Model_land_10 (Tc.wc (s_isIn _ _ _ _)) (Is.k ?_)
      refine w_Model_land_16 (fun c16 => ?_) (fun c16 => ?_)
      · (try simp only [ite01t, ite01v, Int32.reduceToInt, t_m1, t_m2, t_m1000, Decidable.not_not] at c16); (try simp only [e0] at c16); (try simp only [w100, q6, r6] at c16)
        refine w_Model_land_31 (Tc.wc (s_isIn _ _ _ _)) (Is.k ?_)
        refine w_Model_land_44 (fun c44 => ?_) (fun c44 => ?_)
        · (try simp only [ite01t, ite01v, Int32.reduceToInt, t_m1, t_m2, t_m1000, Decidable.not_not] at c44); (try simp only [e0] at c44); (try simp only [w100, q6, r6] at c44)
          refine w_Model_land_71 (Tc.wc (s_isIn _ _ _ _)) (Is.k ?_)
          refine w_Model_land_79 (fun c79 => ?_) (fun c79 => ?_)
          · (try simp only [ite01t, ite01v, Int32.reduceToInt, t_m1, t_m2, t_m1000, Decidable.not_not] at c79); (try simp only [e0] at c79); (try simp only [w100, q6, r6] at c79)
            refine w_Model_land_107 (Tc.wc (s_isIn _ _ _ _)) (Is.k ?_)
            refine w_Model_land_116 (fun c116 => ?_) (fun c116 => ?_)
            · (try simp only [ite01t, ite01v, Int32.reduceToInt, t_m1, t_m2, t_m1000, Decidable.not_not] at c116); (try simp only [e0] at c116); (try simp only [w100, q6, r6] at c116)
              have w100 : (w - 100).toInt = w.toInt - 100 := i32_sub (by show _ ≤ _ - (100 : Int); omega) (by show _ - (100 : Int) ≤ _; omega)
              have q6 := dv_q (x := w - 100) (k := 6) (n := 6) rfl (by omega) (by omega)
              have r6 := dv_r (x := w - 100) (k := 6) (n := 6) rfl (by omega) (by omega)
              rw [w100] at q6 r6
              refine w_Model_land_121 L0 (Tc.wc (s_misTown M0 L0 _)) (Is.k ?_)
              refine w_Model_land_132 (fun c132 => ?_) (fun c132 => ?_)
              · (try simp only [ite01t, ite01v, Int32.reduceToInt, t_m1, t_m2, t_m1000, Decidable.not_not] at c132); (try simp only [e0] at c132); (try simp only [w100, q6, r6] at c132)
                refine w_Model_land_170 ?_
                refine w_Model_land_171 ?_
                refine ⟨?_, K0⟩
                rw [landV_r (by omega)]
                first | rw [if_neg (by omega)] | (rw [if_pos (by omega), ← dd, ld, if_pos (by omega)]; rw [show 6 * ((w.toInt - 100) / 6).toNat + ((w.toInt - 100) % 6).toNat = (w.toInt - 100).toNat by omega])
              · (try simp only [ite01t, ite01v, Int32.reduceToInt, t_m1, t_m2, t_m1000, Decidable.not_not] at c132); (try simp only [e0] at c132); (try simp only [w100, q6, r6] at c132)
                refine w_Model_land_135 L0 (Tc.wc (s_misTown M0 L0 _)) (Is.k ?_)
                refine w_Model_land_146 (fun c146 => ?_) (fun c146 => ?_)
                · (try simp only [ite01t, ite01v, Int32.reduceToInt, t_m1, t_m2, t_m1000, Decidable.not_not] at c146); (try simp only [e0] at c146); (try simp only [w100, q6, r6] at c146)
                  refine w_Model_land_170 ?_
                  refine w_Model_land_171 ?_
                  refine ⟨?_, K0⟩
                  rw [landV_r (by omega)]
                  first | rw [if_neg (by omega)] | (rw [if_pos (by omega), ← dd, ld, if_pos (by omega)]; rw [show 6 * ((w.toInt - 100) / 6).toNat + ((w.toInt - 100) % 6).toNat = (w.toInt - 100).toNat by omega])
                · (try simp only [ite01t, ite01v, Int32.reduceToInt, t_m1, t_m2, t_m1000, Decidable.not_not] at c146); (try simp only [e0] at c146); (try simp only [w100, q6, r6] at c146)
                  refine w_Model_land_149 L0 (Tc.wc (s_mroad M0 L0 _ _ ((w.toInt - 100) / 6).toNat ((w.toInt - 100) % 6).toNat (by rw [q6]; omega) (by rw [r6]; omega) (by omega) (by omega))) (Is.k ?_)
                  refine w_Model_land_167 ?_
                  refine w_Model_land_171 ?_
                  refine ⟨?_, K0⟩
                  rw [landV_r (by omega)]
                  first | rw [if_neg (by omega)] | (rw [if_pos (by omega), ← dd, ld, if_pos (by omega)]; rw [show 6 * ((w.toInt - 100) / 6).toNat + ((w.toInt - 100) % 6).toNat = (w.toInt - 100).toNat by omega])
            · (try simp only [ite01t, ite01v, Int32.reduceToInt, t_m1, t_m2, t_m1000, Decidable.not_not] at c116); (try simp only [e0] at c116); (try simp only [w100, q6, r6] at c116)
              refine w_Model_land_119 ?_
              exact ⟨by rw [landV_n (by omega)], K0⟩
          · (try simp only [ite01t, ite01v, Int32.reduceToInt, t_m1, t_m2, t_m1000, Decidable.not_not] at c79); (try simp only [e0] at c79); (try simp only [w100, q6, r6] at c79)
            have dr := dv_r (x := w) (k := 10) (n := 10) rfl (by omega) (by omega)
            refine w_Model_land_82 L0 (Tc.wc (s_misSheet M0 L0 _)) (Is.k ?_)
            refine w_Model_land_87 (fun c87 => ?_) (fun c87 => ?_)
            · (try simp only [ite01t, ite01v, Int32.reduceToInt, t_m1, t_m2, t_m1000, Decidable.not_not] at c87); (try simp only [e0] at c87); (try simp only [w100, q6, r6] at c87)
              refine w_Model_land_105 ?_
              refine w_Model_land_106 ?_
              refine ⟨?_, K0⟩
              rw [dr] at c87
              rw [landV_l (by omega)]
              first | rw [if_neg (by omega)] | (rw [if_pos (by omega), ← dd, ld, if_pos (by omega)]; rw [show 8 + 18 * kk + 6 + (w.toInt / 10 - 6).toNat = 8 + 18 * kk + (w.toInt / 10).toNat by omega])
            · (try simp only [ite01t, ite01v, Int32.reduceToInt, t_m1, t_m2, t_m1000, Decidable.not_not] at c87); (try simp only [e0] at c87); (try simp only [w100, q6, r6] at c87)
              refine w_Model_land_90 L0 (Tc.wc (s_ofL M0 L0 _ _ (w.toInt % 10).toNat (w.toInt / 10 - 6).toNat (by rw [dr]; omega) (by rw [i32_sub (by rw [dv_q (k := 10) (n := 10) rfl (by omega) (by omega)]; show _ ≤ _ - (6 : Int); omega) (by rw [dv_q (k := 10) (n := 10) rfl (by omega) (by omega)]; show _ - (6 : Int) ≤ _; omega), dv_q (k := 10) (n := 10) rfl (by omega) (by omega)]; show _ - (6 : Int) = _; omega) (by omega) (by rw [dr] at c87; rw [e0]; omega))) (Is.k ?_)
              refine w_Model_land_102 ?_
              refine w_Model_land_106 ?_
              refine ⟨?_, K0⟩
              rw [dr] at c87
              rw [landV_l (by omega)]
              first | rw [if_neg (by omega)] | (rw [if_pos (by omega), ← dd, ld, if_pos (by omega)]; rw [show 8 + 18 * kk + 6 + (w.toInt / 10 - 6).toNat = 8 + 18 * kk + (w.toInt / 10).toNat by omega])
        · (try simp only [ite01t, ite01v, Int32.reduceToInt, t_m1, t_m2, t_m1000, Decidable.not_not] at c44); (try simp only [e0] at c44); (try simp only [w100, q6, r6] at c44)
          have dr := dv_r (x := w) (k := 10) (n := 10) rfl (by omega) (by omega)
          refine w_Model_land_47 L0 (Tc.wc (s_misBuyer M0 L0 _)) (Is.k ?_)
          refine w_Model_land_52 (fun c52 => ?_) (fun c52 => ?_)
          · (try simp only [ite01t, ite01v, Int32.reduceToInt, t_m1, t_m2, t_m1000, Decidable.not_not] at c52); (try simp only [e0] at c52); (try simp only [w100, q6, r6] at c52)
            refine w_Model_land_69 ?_
            refine w_Model_land_70 ?_
            refine ⟨?_, K0⟩
            rw [dr] at c52
            rw [landV_b (by omega)]
            first | rw [if_neg (by omega)] | (rw [if_pos (by omega), ← dd, ld, if_pos (by omega)]; rw [show 8 + 18 * kk + 1 + (w.toInt / 10 - 1).toNat = 8 + 18 * kk + (w.toInt / 10).toNat by omega])
          · (try simp only [ite01t, ite01v, Int32.reduceToInt, t_m1, t_m2, t_m1000, Decidable.not_not] at c52); (try simp only [e0] at c52); (try simp only [w100, q6, r6] at c52)
            refine w_Model_land_55 L0 (Tc.wc (s_of M0 L0 _ _ (w.toInt % 10).toNat (w.toInt / 10 - 1).toNat (by rw [dr]; omega) (by rw [i32_sub (by rw [dv_q (k := 10) (n := 10) rfl (by omega) (by omega)]; show _ ≤ _ - (1 : Int); omega) (by rw [dv_q (k := 10) (n := 10) rfl (by omega) (by omega)]; show _ - (1 : Int) ≤ _; omega), dv_q (k := 10) (n := 10) rfl (by omega) (by omega)]; show _ - (1 : Int) = _; omega) (by rw [dr] at c52; rw [e0]; omega) (by omega))) (Is.k ?_)
            refine w_Model_land_66 ?_
            refine w_Model_land_70 ?_
            refine ⟨?_, K0⟩
            rw [dr] at c52
            rw [landV_b (by omega)]
            first | rw [if_neg (by omega)] | (rw [if_pos (by omega), ← dd, ld, if_pos (by omega)]; rw [show 8 + 18 * kk + 1 + (w.toInt / 10 - 1).toNat = 8 + 18 * kk + (w.toInt / 10).toNat by omega])
      · (try simp only [ite01t, ite01v, Int32.reduceToInt, t_m1, t_m2, t_m1000, Decidable.not_not] at c16); (try simp only [e0] at c16); (try simp only [w100, q6, r6] at c16)
        have ei : (h0.1 84 12 + w).toInt = ((610 + 90 * kk + w.toNatClampNeg : Nat) : Int) := n_add l0 (n_of (by omega)) (by have := n_lt (x := w) (n := 6) (by omega) (by omega); omega)
        have ei2 := n_lt (x := w) (n := 6) (by omega) (by omega)
        refine w_Model_land_19 L0 (by first | assumption | omega | (refine ⟨?_, ?_⟩ <;> first | assumption | omega)) ?_
        refine ⟨?_, K0⟩
        rw [n_eq ei, landV_f rr (by omega), dd]
  · refine ⟨-1, ?_, fun h1 I1 K1 => ?_⟩
    · refine n_Main_land ?_
      refine w_Main_land_0 L (Tc.wc (s_landAt0 hI hk)) (Is.k ?_)
      refine w_Main_land_8 rfl (fun _ => ?_) (fun _ c => nomatch c)
      refine w_Main_land_13 ?_
      refine w_Main_land_22 ?_
      exact ⟨rfl, Keep.rfl⟩
    · have L1 := I1.lay
      have hk1 : ¬ (0 ≤ k.toInt ∧ k.toInt < (h1.1 3 0).toInt) := by rw [K1.c 3 (by omega)]; exact hk
      refine n_Model_land ?_
      refine w_Model_land_0 L1 (Tc.wc (s_isLand0 I1 k hk1)) (Is.k ?_)
      refine w_Model_land_5 (fun c5 => absurd c5 (by decide)) (fun c5 => ?_)
      refine w_Model_land_8 ?_
      exact ⟨rfl, Keep.rfl⟩
end M38
