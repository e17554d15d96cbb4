/-! small numbers in Int32; helpers of the specs -/
theorem i32_add {x y : Int32} (h1 : -2147483648 ≤ x.toInt + y.toInt) (h2 : x.toInt + y.toInt ≤ 2147483647) : (x + y).toInt = x.toInt + y.toInt := by
  rw [Int32.toInt_add]
  exact Int.bmod_eq_of_le (by omega) (by omega)
theorem i32_sub {x y : Int32} (h1 : -2147483648 ≤ x.toInt - y.toInt) (h2 : x.toInt - y.toInt ≤ 2147483647) : (x - y).toInt = x.toInt - y.toInt := by
  rw [Int32.toInt_sub]
  exact Int.bmod_eq_of_le (by omega) (by omega)
theorem i32_mul {x y : Int32} (h1 : -2147483648 ≤ x.toInt * y.toInt) (h2 : x.toInt * y.toInt ≤ 2147483647) : (x * y).toInt = x.toInt * y.toInt := by
  rw [Int32.toInt_mul]
  exact Int.bmod_eq_of_le (by omega) (by omega)
theorem i32_div {x y : Int32} (hy : 0 < y.toInt) : (x / y).toInt = x.toInt.tdiv y.toInt := by
  rw [Int32.toInt_div]
  have h1 := x.le_toInt
  have h2 := x.toInt_lt
  have h3 : (x.toInt.tdiv y.toInt).natAbs ≤ x.toInt.natAbs := by
    rw [Int.natAbs_tdiv]
    exact Nat.div_le_self _ _
  by_cases hx : 0 ≤ x.toInt
  · have h4 : 0 ≤ x.toInt.tdiv y.toInt := Int.tdiv_nonneg hx (by omega)
    exact Int.bmod_eq_of_le (by omega) (by omega)
  · have h4 : x.toInt.tdiv y.toInt ≤ 0 := by
      have h5 : (-x.toInt).tdiv y.toInt = -(x.toInt.tdiv y.toInt) := Int.neg_tdiv _ _
      have h6 : 0 ≤ (-x.toInt).tdiv y.toInt := Int.tdiv_nonneg (by omega) (by omega)
      omega
    exact Int.bmod_eq_of_le (by omega) (by omega)
theorem gO_of {h : MH} {a k n : Nat} (hs : h.2.2[a]? = some (k, n)) : gO h (some a) k = true := by simp [gO, hs]
theorem gA_of {h : MH} {a k n : Nat} {i : Int32} (hs : h.2.2[a]? = some (k, n)) (hi : inB i n = true) : gA h (some a) k i = true := by simp [gA, hs, hi]
theorem inB_of {i : Int32} {n : Nat} (h1 : 0 ≤ i.toInt) (h2 : i.toInt < n) : inB i n = true := by
  simp only [inB, Bool.and_eq_true, decide_eq_true_eq]
  refine ⟨by rw [Int32.le_iff_toInt_le]; simpa using h1, ?_⟩
  show i.toInt.toNat < n
  omega
