/-! OPERATIONS fair, even -/
theorem td {x y : Int} : x.tdiv y = if 0 ≤ x then x.tdiv y else -((-x).tdiv y) := by
  split
  · rfl
  · rw [Int.neg_tdiv, Int.neg_neg]
theorem td2 {x y : Int} (hy : 0 ≤ y) : x.tdiv y = if 0 ≤ x then x / y else -((-x) / y) := by
  rw [td]
  split
  · rw [Int.tdiv_eq_ediv_of_nonneg (by assumption)]
  · rw [Int.tdiv_eq_ediv_of_nonneg (by omega)]
theorem sgn_msb (z : Int32) : 0 ≤ z.toInt ↔ z.toBitVec.msb = false := by
  have e : z.toInt = if z.toBitVec.msb then (z.toBitVec.toNat : Int) - (2 ^ 32 : Nat) else z.toBitVec.toNat := BitVec.toInt_eq_msb_cond z.toBitVec
  have lt := z.toBitVec.isLt
  rw [e]
  cases z.toBitVec.msb with
  | true => simp; omega
  | false => simp
theorem xor_sgn (x y : Int32) (hy : 0 ≤ y.toInt) : 0 ≤ (x ^^^ y).toInt ↔ 0 ≤ x.toInt := by
  have e : (x ^^^ y).toBitVec.msb = (x.toBitVec.msb ^^ y.toBitVec.msb) := BitVec.msb_xor
  rw [sgn_msb, sgn_msb, e, (sgn_msb y).mp hy, Bool.xor_false]
def DivOk (y : Int32) : Prop := y.toInt = 1 ∨ y.toInt = 2 ∨ y.toInt = 6 ∨ y.toInt = 24
theorem q_t {x y : Int32} (hy : DivOk y) : (x / y).toInt = if 0 ≤ x.toInt then x.toInt / y.toInt else -((-x.toInt) / y.toInt) := by
  have : 0 < y.toInt := by rcases hy with e | e | e | e <;> omega
  rw [i32_div this, td2 (by omega)]
theorem qm_t {x y : Int32} (hy : DivOk y) (hx : -30000 ≤ x.toInt ∧ x.toInt ≤ 30000) : (x / y * y).toInt = (x / y).toInt * y.toInt := by
  have q := q_t (x := x) hy
  refine i32_mul ?_ ?_
  · rcases hy with e | e | e | e <;> rw [e] at q ⊢ <;> rw [q] <;> split <;> omega
  · rcases hy with e | e | e | e <;> rw [e] at q ⊢ <;> rw [q] <;> split <;> omega
theorem r_t {x y : Int32} (hy : DivOk y) (hx : -30000 ≤ x.toInt ∧ x.toInt ≤ 30000) : (x - x / y * y).toInt = x.toInt - (x / y).toInt * y.toInt := by
  have q := q_t (x := x) hy
  have m := qm_t hy hx
  rw [i32_sub, m]
  · rw [m]
    rcases hy with e | e | e | e <;> rw [e] at q ⊢ <;> rw [q] <;> split <;> omega
  · rw [m]
    rcases hy with e | e | e | e <;> rw [e] at q ⊢ <;> rw [q] <;> split <;> omega
theorem ofI_t {z : Int} (h1 : -2147483648 ≤ z) (h2 : z ≤ 2147483647) : (Int32.ofInt z).toInt = z := by
  rw [Int32.toInt_ofInt]
  exact Int.bmod_eq_of_le (by omega) (by omega)
section M50
variable {rod : Nat → Nat × (Nat → Int32)} {d : Nat} {h : MH} {a l : Nat}
theorem s_floorMod (x y : Int32) (hy : DivOk y) (hx : -30000 ≤ x.toInt ∧ x.toInt ≤ 30000) (h : MH) : Tc rod (d + 1) 183 [.inl x, .inl y] h (some (.inl (Int32.ofInt (x.toInt % y.toInt)))) h := by
  have y0 : y ≠ 0 := fun q => by rw [q] at hy; rcases hy with e | e | e | e <;> exact absurd e (by decide)
  have em : -2147483648 ≤ x.toInt % y.toInt ∧ x.toInt % y.toInt ≤ 2147483647 := by rcases hy with e | e | e | e <;> rw [e] <;> omega
  apply Wc.tc
  refine n_Math_floorMod ?_
  refine w_Math_floorMod_0 (by first | assumption | omega) (fun kc0 => ?_) (fun kc0 => ?_)
  · try simp only [ite01t, ite01v, Int32.reduceToInt, t_m1, t_m2, t_m1000, Decidable.not_not] at kc0
    refine w_Math_floorMod_18 ?_
    have q := q_t (x := x) hy
    have rr := r_t hy hx
    have qm := qm_t hy hx
    have xs := xor_sgn x y (by rcases hy with e | e | e | e <;> omega)
    refine ⟨congrArg (fun z => some (Sum.inl z)) (i32_of ?_), rfl⟩
    rw [ofI_t em.1 em.2, rr]
    first | (rw [rr] at kc10; rcases hy with e | e | e | e <;> rw [e] at q kc10 ⊢ <;> rw [q] at kc10 ⊢ <;> (split at kc10) <;> split <;> omega) | (rcases hy with e | e | e | e <;> rw [e] at q ⊢ <;> rw [q] <;> split <;> omega)
  · try simp only [ite01t, ite01v, Int32.reduceToInt, t_m1, t_m2, t_m1000, Decidable.not_not] at kc0
    refine w_Math_floorMod_10 (fun kc10 => ?_) (fun kc10 => ?_)
    · try simp only [ite01t, ite01v, Int32.reduceToInt, t_m1, t_m2, t_m1000, Decidable.not_not] at kc10
      refine w_Math_floorMod_18 ?_
      have q := q_t (x := x) hy
      have rr := r_t hy hx
      have qm := qm_t hy hx
      have xs := xor_sgn x y (by rcases hy with e | e | e | e <;> omega)
      refine ⟨congrArg (fun z => some (Sum.inl z)) (i32_of ?_), rfl⟩
      rw [ofI_t em.1 em.2, rr]
      first | (rw [rr] at kc10; rcases hy with e | e | e | e <;> rw [e] at q kc10 ⊢ <;> rw [q] at kc10 ⊢ <;> (split at kc10) <;> split <;> omega) | (rcases hy with e | e | e | e <;> rw [e] at q ⊢ <;> rw [q] <;> split <;> omega)
    · try simp only [ite01t, ite01v, Int32.reduceToInt, t_m1, t_m2, t_m1000, Decidable.not_not] at kc10
      refine w_Math_floorMod_14 ?_
      have q := q_t (x := x) hy
      have rr := r_t hy hx
      have qm := qm_t hy hx
      have xs := xor_sgn x y (by rcases hy with e | e | e | e <;> omega)
      refine ⟨congrArg (fun z => some (Sum.inl z)) (i32_of ?_), rfl⟩
      rw [ofI_t em.1 em.2, i32_add (by rw [rr]; rcases hy with e | e | e | e <;> rw [e] at q ⊢ <;> rw [q] <;> split <;> omega) (by rw [rr]; rcases hy with e | e | e | e <;> rw [e] at q ⊢ <;> rw [q] <;> split <;> omega), rr]
      rw [rr] at kc10
      rcases hy with e | e | e | e <;> rw [e] at q kc10 ⊢ <;> rw [q] at kc10 ⊢ <;> (split at kc10) <;> split <;> omega
theorem s_floorDiv (x y : Int32) (hy : DivOk y) (hx : -30000 ≤ x.toInt ∧ x.toInt ≤ 30000) (h : MH) : Tc rod (d + 1) 184 [.inl x, .inl y] h (some (.inl (Int32.ofInt (x.toInt / y.toInt)))) h := by
  have y0 : y ≠ 0 := fun q => by rw [q] at hy; rcases hy with e | e | e | e <;> exact absurd e (by decide)
  have em : -2147483648 ≤ x.toInt / y.toInt ∧ x.toInt / y.toInt ≤ 2147483647 := by rcases hy with e | e | e | e <;> rw [e] <;> omega
  apply Wc.tc
  refine n_Math_floorDiv ?_
  refine w_Math_floorDiv_0 (by first | assumption | omega) (fun kc0 => ?_) (fun kc0 => ?_)
  · try simp only [ite01t, ite01v, Int32.reduceToInt, t_m1, t_m2, t_m1000, Decidable.not_not] at kc0
    refine w_Math_floorDiv_21 ?_
    have q := q_t (x := x) hy
    have rr := r_t hy hx
    have qm := qm_t hy hx
    have xs := xor_sgn x y (by rcases hy with e | e | e | e <;> omega)
    refine ⟨congrArg (fun z => some (Sum.inl z)) (i32_of ?_), rfl⟩
    rw [ofI_t em.1 em.2]
    first | (rw [qm] at kc10; rcases hy with e | e | e | e <;> rw [e] at q kc10 ⊢ <;> rw [q] at kc10 ⊢ <;> (split at kc10) <;> split <;> omega) | (rcases hy with e | e | e | e <;> rw [e] at q ⊢ <;> rw [q] <;> split <;> omega)
  · try simp only [ite01t, ite01v, Int32.reduceToInt, t_m1, t_m2, t_m1000, Decidable.not_not] at kc0
    refine w_Math_floorDiv_10 (fun kc10 => ?_) (fun kc10 => ?_)
    · try simp only [ite01t, ite01v, Int32.reduceToInt, t_m1, t_m2, t_m1000, Decidable.not_not] at kc10
      refine w_Math_floorDiv_21 ?_
      have q := q_t (x := x) hy
      have rr := r_t hy hx
      have qm := qm_t hy hx
      have xs := xor_sgn x y (by rcases hy with e | e | e | e <;> omega)
      refine ⟨congrArg (fun z => some (Sum.inl z)) (i32_of ?_), rfl⟩
      rw [ofI_t em.1 em.2]
      first | (rw [qm] at kc10; rcases hy with e | e | e | e <;> rw [e] at q kc10 ⊢ <;> rw [q] at kc10 ⊢ <;> (split at kc10) <;> split <;> omega) | (rcases hy with e | e | e | e <;> rw [e] at q ⊢ <;> rw [q] <;> split <;> omega)
    · try simp only [ite01t, ite01v, Int32.reduceToInt, t_m1, t_m2, t_m1000, Decidable.not_not] at kc10
      refine w_Math_floorDiv_17 ?_
      have q := q_t (x := x) hy
      have rr := r_t hy hx
      have qm := qm_t hy hx
      have xs := xor_sgn x y (by rcases hy with e | e | e | e <;> omega)
      refine ⟨congrArg (fun z => some (Sum.inl z)) (i32_of ?_), rfl⟩
      rw [ofI_t em.1 em.2, i32_sub (by show _ ≤ _ - (1 : Int); rcases hy with e | e | e | e <;> rw [e] at q <;> rw [q] <;> split <;> omega) (by show _ - (1 : Int) ≤ _; rcases hy with e | e | e | e <;> rw [e] at q <;> rw [q] <;> split <;> omega)]
      show _ - (1 : Int) = _
      rw [qm] at kc10
      rcases hy with e | e | e | e <;> rw [e] at q kc10 ⊢ <;> rw [q] at kc10 ⊢ <;> (split at kc10) <;> split <;> omega
end M50
