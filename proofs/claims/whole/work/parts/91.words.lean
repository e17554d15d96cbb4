/-! THE READER: words, in the reference -/
section M91
variable {rod : Nat → Nat × (Nat → Int32)} {d : Nat} {h : MH}
theorem j_add {x y : Int64} (h1 : -9223372036854775808 ≤ x.toInt + y.toInt) (h2 : x.toInt + y.toInt ≤ 9223372036854775807) : (x + y).toInt = x.toInt + y.toInt := by
  rw [Int64.toInt_add]
  exact Int.bmod_eq_of_le (by omega) (by omega)
theorem j_sub {x y : Int64} (h1 : -9223372036854775808 ≤ x.toInt - y.toInt) (h2 : x.toInt - y.toInt ≤ 9223372036854775807) : (x - y).toInt = x.toInt - y.toInt := by
  rw [Int64.toInt_sub]
  exact Int.bmod_eq_of_le (by omega) (by omega)
theorem j_mul {x y : Int64} (h1 : -9223372036854775808 ≤ x.toInt * y.toInt) (h2 : x.toInt * y.toInt ≤ 9223372036854775807) : (x * y).toInt = x.toInt * y.toInt := by
  rw [Int64.toInt_mul]
  exact Int.bmod_eq_of_le (by omega) (by omega)
theorem s_four (a b c e : Int32) : Tc rod (d + 1) 199 [.inl a, .inl b, .inl c, .inl e] h (some (.inr (.inl (((a * 32 + b) * 32 + c) * 32 + e).toInt64))) h := by
  apply Wc.tc
  refine n_Model_four ?_
  refine w_Model_four_0 ?_
  exact ⟨rfl, rfl⟩
theorem s_eight (a b c e a2 b2 kc2 e2 : Int32) : Tc rod (d + 2) 200 [.inl a, .inl b, .inl c, .inl e, .inl a2, .inl b2, .inl kc2, .inl e2] h (some (.inr (.inl ((((a * 32 + b) * 32 + c) * 32 + e).toInt64 * 1048576 + (((a2 * 32 + b2) * 32 + kc2) * 32 + e2).toInt64)))) h := by
  apply Wc.tc
  refine n_Model_eight ?_
  refine w_Model_eight_0 (Tc.wc (s_four _ _ _ _)) (Is.k ?_)
  refine w_Model_eight_7 (Tc.wc (s_four _ _ _ _)) (Is.k ?_)
  refine w_Model_eight_22 ?_
  exact ⟨rfl, rfl⟩
/-- a word of five bits a letter -/
def wcod (v : Nat) : Nat := if v = 540146 then 1 else if v = 384081172 then 2 else if v = 24416759 then 3 else if v = 4820390066 then 4 else if v = 605220 then 5 else if v = 408572082 then 6 else if v = 21487059 then 7 else if v = 67019 then 8 else if v = 19574962 then 9 else if v = 631476 then 10 else if v = 628108 then 11 else if v = 19758 then 12 else if v = 239 then 13 else if v = 508078 then 14 else if v = 4707412 then 15 else if v = 11444465829 then 16 else if v = 302 then 17 else if v = 16052 then 18 else if v = 3659220 then 19 else if v = 11449 then 20 else if v = 17232962739 then 21 else if v = 24627848 then 22 else 99
/-- a word, its letters from the last on -/
def wcL (l : List Nat) : Nat := if l = [18, 15, 15, 16] then 1 else if l = [20, 8, 7, 9, 14, 11] then 2 else if l = [23, 15, 4, 9, 23] then 3 else if l = [18, 5, 20, 2, 21, 15, 4] then 4 else if l = [4, 1, 15, 18] then 5 else if l = [18, 5, 20, 20, 5, 12] then 6 else if l = [19, 14, 23, 15, 20] then 7 else if l = [11, 14, 1, 2] then 8 else if l = [18, 5, 12, 21, 18] then 9 else if l = [20, 21, 8, 19] then 10 else if l = [12, 12, 5, 19] then 11 else if l = [14, 9, 19] then 12 else if l = [15, 7] then 13 else if l = [14, 5, 16, 15] then 14 else if l = [20, 2, 21, 15, 4] then 15 else if l = [5, 5, 12, 9, 2, 21, 10] then 16 else if l = [14, 9] then 17 else if l = [20, 21, 15] then 18 else if l = [20, 14, 21, 15, 3] then 19 else if l = [25, 5, 11] then 20 else if l = [19, 5, 9, 20, 18, 1, 16] then 21 else if l = [8, 20, 18, 15, 23] then 22 else 99
def hr : List Nat → Nat
  | [] => 0
  | x :: l => 32 * hr l + x
theorem hr_inj : ∀ (l k : List Nat), (∀ x ∈ l, 1 ≤ x ∧ x < 32) → (∀ x ∈ k, 1 ≤ x ∧ x < 32) → hr l = hr k → l = k := by
  intro l
  induction l with
  | nil =>
    intro k _ hk e
    cases k with
    | nil => rfl
    | cons y k =>
      have := hk y List.mem_cons_self
      simp only [hr] at e
      omega
  | cons x l ih =>
    intro k hl hk e
    have hx := hl x List.mem_cons_self
    cases k with
    | nil => simp only [hr] at e; omega
    | cons y k =>
      have hy := hk y List.mem_cons_self
      simp only [hr] at e
      have e1 : x = y := by omega
      have e2 : hr l = hr k := by omega
      rw [e1, ih k (fun z hz => hl z (List.mem_cons_of_mem _ hz)) (fun z hz => hk z (List.mem_cons_of_mem _ hz)) e2]
theorem hr_is {l k : List Nat} {v : Nat} (hl : ∀ x ∈ l, 1 ≤ x ∧ x < 32) (hk : ∀ x ∈ k, 1 ≤ x ∧ x < 32) (e : hr k = v) : (hr l = v) = (l = k) := by
  apply propext
  constructor
  · intro q; exact hr_inj l k hl hk (q.trans e.symm)
  · intro q; rw [q, e]
theorem wcod_hr {l : List Nat} (hl : ∀ x ∈ l, 1 ≤ x ∧ x < 32) : wcod (hr l) = wcL l := by
  unfold wcod wcL
  have e1 := hr_is (k := [18, 15, 15, 16]) (v := 540146) hl (by decide) (by decide)
  have e2 := hr_is (k := [20, 8, 7, 9, 14, 11]) (v := 384081172) hl (by decide) (by decide)
  have e3 := hr_is (k := [23, 15, 4, 9, 23]) (v := 24416759) hl (by decide) (by decide)
  have e4 := hr_is (k := [18, 5, 20, 2, 21, 15, 4]) (v := 4820390066) hl (by decide) (by decide)
  have e5 := hr_is (k := [4, 1, 15, 18]) (v := 605220) hl (by decide) (by decide)
  have e6 := hr_is (k := [18, 5, 20, 20, 5, 12]) (v := 408572082) hl (by decide) (by decide)
  have e7 := hr_is (k := [19, 14, 23, 15, 20]) (v := 21487059) hl (by decide) (by decide)
  have e8 := hr_is (k := [11, 14, 1, 2]) (v := 67019) hl (by decide) (by decide)
  have e9 := hr_is (k := [18, 5, 12, 21, 18]) (v := 19574962) hl (by decide) (by decide)
  have e10 := hr_is (k := [20, 21, 8, 19]) (v := 631476) hl (by decide) (by decide)
  have e11 := hr_is (k := [12, 12, 5, 19]) (v := 628108) hl (by decide) (by decide)
  have e12 := hr_is (k := [14, 9, 19]) (v := 19758) hl (by decide) (by decide)
  have e13 := hr_is (k := [15, 7]) (v := 239) hl (by decide) (by decide)
  have e14 := hr_is (k := [14, 5, 16, 15]) (v := 508078) hl (by decide) (by decide)
  have e15 := hr_is (k := [20, 2, 21, 15, 4]) (v := 4707412) hl (by decide) (by decide)
  have e16 := hr_is (k := [5, 5, 12, 9, 2, 21, 10]) (v := 11444465829) hl (by decide) (by decide)
  have e17 := hr_is (k := [14, 9]) (v := 302) hl (by decide) (by decide)
  have e18 := hr_is (k := [20, 21, 15]) (v := 16052) hl (by decide) (by decide)
  have e19 := hr_is (k := [20, 14, 21, 15, 3]) (v := 3659220) hl (by decide) (by decide)
  have e20 := hr_is (k := [25, 5, 11]) (v := 11449) hl (by decide) (by decide)
  have e21 := hr_is (k := [19, 5, 9, 20, 18, 1, 16]) (v := 17232962739) hl (by decide) (by decide)
  have e22 := hr_is (k := [8, 20, 18, 15, 23]) (v := 24627848) hl (by decide) (by decide)
  simp only [e1, e2, e3, e4, e5, e6, e7, e8, e9, e10, e11, e12, e13, e14, e15, e16, e17, e18, e19, e20, e21, e22]
theorem s_wordOf {z : Int64} {v : Nat} (hz : z.toInt = (v : Int)) : Tc rod (d + 3) 198 [.inr (.inl z)] h (some (.inl (Int32.ofNat (wcod v)))) h := by
  apply Wc.tc
  refine n_Model_wordOf ?_
  refine w_Model_wordOf_0 (Tc.wc (s_four _ _ _ _)) (Is.k ?_)
  refine w_Model_wordOf_12 (fun c => ?_) (fun c => ?_)
  rotate_left
  · have e := lgc_eq.mp (show (lg_cmp z (((16 * 32 + 15) * 32 + 15) * 32 + 18 : Int32).toInt64).toInt = 0 by first | exact c | exact Decidable.not_not.mp c)
    rw [hz, show ((((16 * 32 + 15) * 32 + 15) * 32 + 18 : Int32).toInt64).toInt = (540146 : Int) from by decide] at e
    have ev : v = 540146 := by omega
    refine w_Model_wordOf_16 ?_
    exact ⟨by rw [ev]; rfl, rfl⟩
  have n1 : ¬ v = 540146 := fun ev => c (lgc_eq.mpr (show z.toInt = ((((16 * 32 + 15) * 32 + 15) * 32 + 18 : Int32).toInt64).toInt by rw [hz, ev]; decide))
  refine w_Model_wordOf_18 (Tc.wc (s_eight _ _ _ _ _ _ _ _)) (Is.k ?_)
  refine w_Model_wordOf_36 (fun c => ?_) (fun c => ?_)
  rotate_left
  · have e := lgc_eq.mp (show (lg_cmp z ((((0 * 32 + 0) * 32 + 11) * 32 + 14 : Int32).toInt64 * 1048576 + (((9 * 32 + 7) * 32 + 8) * 32 + 20 : Int32).toInt64)).toInt = 0 by first | exact c | exact Decidable.not_not.mp c)
    rw [hz, show (((((0 * 32 + 0) * 32 + 11) * 32 + 14 : Int32).toInt64 * 1048576 + (((9 * 32 + 7) * 32 + 8) * 32 + 20 : Int32).toInt64)).toInt = (384081172 : Int) from by decide] at e
    have ev : v = 384081172 := by omega
    refine w_Model_wordOf_40 ?_
    exact ⟨by rw [ev]; rfl, rfl⟩
  have n2 : ¬ v = 384081172 := fun ev => c (lgc_eq.mpr (show z.toInt = (((((0 * 32 + 0) * 32 + 11) * 32 + 14 : Int32).toInt64 * 1048576 + (((9 * 32 + 7) * 32 + 8) * 32 + 20 : Int32).toInt64)).toInt by rw [hz, ev]; decide))
  refine w_Model_wordOf_42 (Tc.wc (s_eight _ _ _ _ _ _ _ _)) (Is.k ?_)
  refine w_Model_wordOf_58 (fun c => ?_) (fun c => ?_)
  rotate_left
  · have e := lgc_eq.mp (show (lg_cmp z ((((0 * 32 + 0) * 32 + 0) * 32 + 23 : Int32).toInt64 * 1048576 + (((9 * 32 + 4) * 32 + 15) * 32 + 23 : Int32).toInt64)).toInt = 0 by first | exact c | exact Decidable.not_not.mp c)
    rw [hz, show (((((0 * 32 + 0) * 32 + 0) * 32 + 23 : Int32).toInt64 * 1048576 + (((9 * 32 + 4) * 32 + 15) * 32 + 23 : Int32).toInt64)).toInt = (24416759 : Int) from by decide] at e
    have ev : v = 24416759 := by omega
    refine w_Model_wordOf_62 ?_
    exact ⟨by rw [ev]; rfl, rfl⟩
  have n3 : ¬ v = 24416759 := fun ev => c (lgc_eq.mpr (show z.toInt = (((((0 * 32 + 0) * 32 + 0) * 32 + 23 : Int32).toInt64 * 1048576 + (((9 * 32 + 4) * 32 + 15) * 32 + 23 : Int32).toInt64)).toInt by rw [hz, ev]; decide))
  refine w_Model_wordOf_64 (Tc.wc (s_eight _ _ _ _ _ _ _ _)) (Is.k ?_)
  refine w_Model_wordOf_80 (fun c => ?_) (fun c => ?_)
  rotate_left
  · have e := lgc_eq.mp (show (lg_cmp z ((((0 * 32 + 4) * 32 + 15) * 32 + 21 : Int32).toInt64 * 1048576 + (((2 * 32 + 20) * 32 + 5) * 32 + 18 : Int32).toInt64)).toInt = 0 by first | exact c | exact Decidable.not_not.mp c)
    rw [hz, show (((((0 * 32 + 4) * 32 + 15) * 32 + 21 : Int32).toInt64 * 1048576 + (((2 * 32 + 20) * 32 + 5) * 32 + 18 : Int32).toInt64)).toInt = (4820390066 : Int) from by decide] at e
    have ev : v = 4820390066 := by omega
    refine w_Model_wordOf_84 ?_
    exact ⟨by rw [ev]; rfl, rfl⟩
  have n4 : ¬ v = 4820390066 := fun ev => c (lgc_eq.mpr (show z.toInt = (((((0 * 32 + 4) * 32 + 15) * 32 + 21 : Int32).toInt64 * 1048576 + (((2 * 32 + 20) * 32 + 5) * 32 + 18 : Int32).toInt64)).toInt by rw [hz, ev]; decide))
  refine w_Model_wordOf_86 (Tc.wc (s_four _ _ _ _)) (Is.k ?_)
  refine w_Model_wordOf_96 (fun c => ?_) (fun c => ?_)
  rotate_left
  · have e := lgc_eq.mp (show (lg_cmp z (((18 * 32 + 15) * 32 + 1) * 32 + 4 : Int32).toInt64).toInt = 0 by first | exact c | exact Decidable.not_not.mp c)
    rw [hz, show ((((18 * 32 + 15) * 32 + 1) * 32 + 4 : Int32).toInt64).toInt = (605220 : Int) from by decide] at e
    have ev : v = 605220 := by omega
    refine w_Model_wordOf_100 ?_
    exact ⟨by rw [ev]; rfl, rfl⟩
  have n5 : ¬ v = 605220 := fun ev => c (lgc_eq.mpr (show z.toInt = ((((18 * 32 + 15) * 32 + 1) * 32 + 4 : Int32).toInt64).toInt by rw [hz, ev]; decide))
  refine w_Model_wordOf_102 (Tc.wc (s_eight _ _ _ _ _ _ _ _)) (Is.k ?_)
  refine w_Model_wordOf_118 (fun c => ?_) (fun c => ?_)
  rotate_left
  · have e := lgc_eq.mp (show (lg_cmp z ((((0 * 32 + 0) * 32 + 12) * 32 + 5 : Int32).toInt64 * 1048576 + (((20 * 32 + 20) * 32 + 5) * 32 + 18 : Int32).toInt64)).toInt = 0 by first | exact c | exact Decidable.not_not.mp c)
    rw [hz, show (((((0 * 32 + 0) * 32 + 12) * 32 + 5 : Int32).toInt64 * 1048576 + (((20 * 32 + 20) * 32 + 5) * 32 + 18 : Int32).toInt64)).toInt = (408572082 : Int) from by decide] at e
    have ev : v = 408572082 := by omega
    refine w_Model_wordOf_122 ?_
    exact ⟨by rw [ev]; rfl, rfl⟩
  have n6 : ¬ v = 408572082 := fun ev => c (lgc_eq.mpr (show z.toInt = (((((0 * 32 + 0) * 32 + 12) * 32 + 5 : Int32).toInt64 * 1048576 + (((20 * 32 + 20) * 32 + 5) * 32 + 18 : Int32).toInt64)).toInt by rw [hz, ev]; decide))
  refine w_Model_wordOf_125 (Tc.wc (s_eight _ _ _ _ _ _ _ _)) (Is.k ?_)
  refine w_Model_wordOf_142 (fun c => ?_) (fun c => ?_)
  rotate_left
  · have e := lgc_eq.mp (show (lg_cmp z ((((0 * 32 + 0) * 32 + 0) * 32 + 20 : Int32).toInt64 * 1048576 + (((15 * 32 + 23) * 32 + 14) * 32 + 19 : Int32).toInt64)).toInt = 0 by first | exact c | exact Decidable.not_not.mp c)
    rw [hz, show (((((0 * 32 + 0) * 32 + 0) * 32 + 20 : Int32).toInt64 * 1048576 + (((15 * 32 + 23) * 32 + 14) * 32 + 19 : Int32).toInt64)).toInt = (21487059 : Int) from by decide] at e
    have ev : v = 21487059 := by omega
    refine w_Model_wordOf_146 ?_
    exact ⟨by rw [ev]; rfl, rfl⟩
  have n7 : ¬ v = 21487059 := fun ev => c (lgc_eq.mpr (show z.toInt = (((((0 * 32 + 0) * 32 + 0) * 32 + 20 : Int32).toInt64 * 1048576 + (((15 * 32 + 23) * 32 + 14) * 32 + 19 : Int32).toInt64)).toInt by rw [hz, ev]; decide))
  refine w_Model_wordOf_149 (Tc.wc (s_four _ _ _ _)) (Is.k ?_)
  refine w_Model_wordOf_159 (fun c => ?_) (fun c => ?_)
  rotate_left
  · have e := lgc_eq.mp (show (lg_cmp z (((2 * 32 + 1) * 32 + 14) * 32 + 11 : Int32).toInt64).toInt = 0 by first | exact c | exact Decidable.not_not.mp c)
    rw [hz, show ((((2 * 32 + 1) * 32 + 14) * 32 + 11 : Int32).toInt64).toInt = (67019 : Int) from by decide] at e
    have ev : v = 67019 := by omega
    refine w_Model_wordOf_163 ?_
    exact ⟨by rw [ev]; rfl, rfl⟩
  have n8 : ¬ v = 67019 := fun ev => c (lgc_eq.mpr (show z.toInt = ((((2 * 32 + 1) * 32 + 14) * 32 + 11 : Int32).toInt64).toInt by rw [hz, ev]; decide))
  refine w_Model_wordOf_166 (Tc.wc (s_eight _ _ _ _ _ _ _ _)) (Is.k ?_)
  refine w_Model_wordOf_182 (fun c => ?_) (fun c => ?_)
  rotate_left
  · have e := lgc_eq.mp (show (lg_cmp z ((((0 * 32 + 0) * 32 + 0) * 32 + 18 : Int32).toInt64 * 1048576 + (((21 * 32 + 12) * 32 + 5) * 32 + 18 : Int32).toInt64)).toInt = 0 by first | exact c | exact Decidable.not_not.mp c)
    rw [hz, show (((((0 * 32 + 0) * 32 + 0) * 32 + 18 : Int32).toInt64 * 1048576 + (((21 * 32 + 12) * 32 + 5) * 32 + 18 : Int32).toInt64)).toInt = (19574962 : Int) from by decide] at e
    have ev : v = 19574962 := by omega
    refine w_Model_wordOf_186 ?_
    exact ⟨by rw [ev]; rfl, rfl⟩
  have n9 : ¬ v = 19574962 := fun ev => c (lgc_eq.mpr (show z.toInt = (((((0 * 32 + 0) * 32 + 0) * 32 + 18 : Int32).toInt64 * 1048576 + (((21 * 32 + 12) * 32 + 5) * 32 + 18 : Int32).toInt64)).toInt by rw [hz, ev]; decide))
  refine w_Model_wordOf_189 (Tc.wc (s_four _ _ _ _)) (Is.k ?_)
  refine w_Model_wordOf_201 (fun c => ?_) (fun c => ?_)
  rotate_left
  · have e := lgc_eq.mp (show (lg_cmp z (((19 * 32 + 8) * 32 + 21) * 32 + 20 : Int32).toInt64).toInt = 0 by first | exact c | exact Decidable.not_not.mp c)
    rw [hz, show ((((19 * 32 + 8) * 32 + 21) * 32 + 20 : Int32).toInt64).toInt = (631476 : Int) from by decide] at e
    have ev : v = 631476 := by omega
    refine w_Model_wordOf_205 ?_
    exact ⟨by rw [ev]; rfl, rfl⟩
  have n10 : ¬ v = 631476 := fun ev => c (lgc_eq.mpr (show z.toInt = ((((19 * 32 + 8) * 32 + 21) * 32 + 20 : Int32).toInt64).toInt by rw [hz, ev]; decide))
  refine w_Model_wordOf_208 (Tc.wc (s_four _ _ _ _)) (Is.k ?_)
  refine w_Model_wordOf_219 (fun c => ?_) (fun c => ?_)
  rotate_left
  · have e := lgc_eq.mp (show (lg_cmp z (((19 * 32 + 5) * 32 + 12) * 32 + 12 : Int32).toInt64).toInt = 0 by first | exact c | exact Decidable.not_not.mp c)
    rw [hz, show ((((19 * 32 + 5) * 32 + 12) * 32 + 12 : Int32).toInt64).toInt = (628108 : Int) from by decide] at e
    have ev : v = 628108 := by omega
    refine w_Model_wordOf_223 ?_
    exact ⟨by rw [ev]; rfl, rfl⟩
  have n11 : ¬ v = 628108 := fun ev => c (lgc_eq.mpr (show z.toInt = ((((19 * 32 + 5) * 32 + 12) * 32 + 12 : Int32).toInt64).toInt by rw [hz, ev]; decide))
  refine w_Model_wordOf_226 (Tc.wc (s_four _ _ _ _)) (Is.k ?_)
  refine w_Model_wordOf_237 (fun c => ?_) (fun c => ?_)
  rotate_left
  · have e := lgc_eq.mp (show (lg_cmp z (((0 * 32 + 19) * 32 + 9) * 32 + 14 : Int32).toInt64).toInt = 0 by first | exact c | exact Decidable.not_not.mp c)
    rw [hz, show ((((0 * 32 + 19) * 32 + 9) * 32 + 14 : Int32).toInt64).toInt = (19758 : Int) from by decide] at e
    have ev : v = 19758 := by omega
    refine w_Model_wordOf_241 ?_
    exact ⟨by rw [ev]; rfl, rfl⟩
  have n12 : ¬ v = 19758 := fun ev => c (lgc_eq.mpr (show z.toInt = ((((0 * 32 + 19) * 32 + 9) * 32 + 14 : Int32).toInt64).toInt by rw [hz, ev]; decide))
  refine w_Model_wordOf_244 (Tc.wc (s_four _ _ _ _)) (Is.k ?_)
  refine w_Model_wordOf_254 (fun c => ?_) (fun c => ?_)
  rotate_left
  · have e := lgc_eq.mp (show (lg_cmp z (((0 * 32 + 0) * 32 + 7) * 32 + 15 : Int32).toInt64).toInt = 0 by first | exact c | exact Decidable.not_not.mp c)
    rw [hz, show ((((0 * 32 + 0) * 32 + 7) * 32 + 15 : Int32).toInt64).toInt = (239 : Int) from by decide] at e
    have ev : v = 239 := by omega
    refine w_Model_wordOf_258 ?_
    exact ⟨by rw [ev]; rfl, rfl⟩
  have n13 : ¬ v = 239 := fun ev => c (lgc_eq.mpr (show z.toInt = ((((0 * 32 + 0) * 32 + 7) * 32 + 15 : Int32).toInt64).toInt by rw [hz, ev]; decide))
  refine w_Model_wordOf_261 (Tc.wc (s_four _ _ _ _)) (Is.k ?_)
  refine w_Model_wordOf_272 (fun c => ?_) (fun c => ?_)
  rotate_left
  · have e := lgc_eq.mp (show (lg_cmp z (((15 * 32 + 16) * 32 + 5) * 32 + 14 : Int32).toInt64).toInt = 0 by first | exact c | exact Decidable.not_not.mp c)
    rw [hz, show ((((15 * 32 + 16) * 32 + 5) * 32 + 14 : Int32).toInt64).toInt = (508078 : Int) from by decide] at e
    have ev : v = 508078 := by omega
    refine w_Model_wordOf_276 ?_
    exact ⟨by rw [ev]; rfl, rfl⟩
  have n14 : ¬ v = 508078 := fun ev => c (lgc_eq.mpr (show z.toInt = ((((15 * 32 + 16) * 32 + 5) * 32 + 14 : Int32).toInt64).toInt by rw [hz, ev]; decide))
  refine w_Model_wordOf_279 (Tc.wc (s_eight _ _ _ _ _ _ _ _)) (Is.k ?_)
  refine w_Model_wordOf_294 (fun c => ?_) (fun c => ?_)
  rotate_left
  · have e := lgc_eq.mp (show (lg_cmp z ((((0 * 32 + 0) * 32 + 0) * 32 + 4 : Int32).toInt64 * 1048576 + (((15 * 32 + 21) * 32 + 2) * 32 + 20 : Int32).toInt64)).toInt = 0 by first | exact c | exact Decidable.not_not.mp c)
    rw [hz, show (((((0 * 32 + 0) * 32 + 0) * 32 + 4 : Int32).toInt64 * 1048576 + (((15 * 32 + 21) * 32 + 2) * 32 + 20 : Int32).toInt64)).toInt = (4707412 : Int) from by decide] at e
    have ev : v = 4707412 := by omega
    refine w_Model_wordOf_298 ?_
    exact ⟨by rw [ev]; rfl, rfl⟩
  have n15 : ¬ v = 4707412 := fun ev => c (lgc_eq.mpr (show z.toInt = (((((0 * 32 + 0) * 32 + 0) * 32 + 4 : Int32).toInt64 * 1048576 + (((15 * 32 + 21) * 32 + 2) * 32 + 20 : Int32).toInt64)).toInt by rw [hz, ev]; decide))
  refine w_Model_wordOf_301 (Tc.wc (s_eight _ _ _ _ _ _ _ _)) (Is.k ?_)
  refine w_Model_wordOf_317 (fun c => ?_) (fun c => ?_)
  rotate_left
  · have e := lgc_eq.mp (show (lg_cmp z ((((0 * 32 + 10) * 32 + 21) * 32 + 2 : Int32).toInt64 * 1048576 + (((9 * 32 + 12) * 32 + 5) * 32 + 5 : Int32).toInt64)).toInt = 0 by first | exact c | exact Decidable.not_not.mp c)
    rw [hz, show (((((0 * 32 + 10) * 32 + 21) * 32 + 2 : Int32).toInt64 * 1048576 + (((9 * 32 + 12) * 32 + 5) * 32 + 5 : Int32).toInt64)).toInt = (11444465829 : Int) from by decide] at e
    have ev : v = 11444465829 := by omega
    refine w_Model_wordOf_321 ?_
    exact ⟨by rw [ev]; rfl, rfl⟩
  have n16 : ¬ v = 11444465829 := fun ev => c (lgc_eq.mpr (show z.toInt = (((((0 * 32 + 10) * 32 + 21) * 32 + 2 : Int32).toInt64 * 1048576 + (((9 * 32 + 12) * 32 + 5) * 32 + 5 : Int32).toInt64)).toInt by rw [hz, ev]; decide))
  refine w_Model_wordOf_324 (Tc.wc (s_four _ _ _ _)) (Is.k ?_)
  refine w_Model_wordOf_334 (fun c => ?_) (fun c => ?_)
  rotate_left
  · have e := lgc_eq.mp (show (lg_cmp z (((0 * 32 + 0) * 32 + 9) * 32 + 14 : Int32).toInt64).toInt = 0 by first | exact c | exact Decidable.not_not.mp c)
    rw [hz, show ((((0 * 32 + 0) * 32 + 9) * 32 + 14 : Int32).toInt64).toInt = (302 : Int) from by decide] at e
    have ev : v = 302 := by omega
    refine w_Model_wordOf_338 ?_
    exact ⟨by rw [ev]; rfl, rfl⟩
  have n17 : ¬ v = 302 := fun ev => c (lgc_eq.mpr (show z.toInt = ((((0 * 32 + 0) * 32 + 9) * 32 + 14 : Int32).toInt64).toInt by rw [hz, ev]; decide))
  refine w_Model_wordOf_341 (Tc.wc (s_four _ _ _ _)) (Is.k ?_)
  refine w_Model_wordOf_352 (fun c => ?_) (fun c => ?_)
  rotate_left
  · have e := lgc_eq.mp (show (lg_cmp z (((0 * 32 + 15) * 32 + 21) * 32 + 20 : Int32).toInt64).toInt = 0 by first | exact c | exact Decidable.not_not.mp c)
    rw [hz, show ((((0 * 32 + 15) * 32 + 21) * 32 + 20 : Int32).toInt64).toInt = (16052 : Int) from by decide] at e
    have ev : v = 16052 := by omega
    refine w_Model_wordOf_356 ?_
    exact ⟨by rw [ev]; rfl, rfl⟩
  have n18 : ¬ v = 16052 := fun ev => c (lgc_eq.mpr (show z.toInt = ((((0 * 32 + 15) * 32 + 21) * 32 + 20 : Int32).toInt64).toInt by rw [hz, ev]; decide))
  refine w_Model_wordOf_359 (Tc.wc (s_eight _ _ _ _ _ _ _ _)) (Is.k ?_)
  refine w_Model_wordOf_375 (fun c => ?_) (fun c => ?_)
  rotate_left
  · have e := lgc_eq.mp (show (lg_cmp z ((((0 * 32 + 0) * 32 + 0) * 32 + 3 : Int32).toInt64 * 1048576 + (((15 * 32 + 21) * 32 + 14) * 32 + 20 : Int32).toInt64)).toInt = 0 by first | exact c | exact Decidable.not_not.mp c)
    rw [hz, show (((((0 * 32 + 0) * 32 + 0) * 32 + 3 : Int32).toInt64 * 1048576 + (((15 * 32 + 21) * 32 + 14) * 32 + 20 : Int32).toInt64)).toInt = (3659220 : Int) from by decide] at e
    have ev : v = 3659220 := by omega
    refine w_Model_wordOf_379 ?_
    exact ⟨by rw [ev]; rfl, rfl⟩
  have n19 : ¬ v = 3659220 := fun ev => c (lgc_eq.mpr (show z.toInt = (((((0 * 32 + 0) * 32 + 0) * 32 + 3 : Int32).toInt64 * 1048576 + (((15 * 32 + 21) * 32 + 14) * 32 + 20 : Int32).toInt64)).toInt by rw [hz, ev]; decide))
  refine w_Model_wordOf_382 (Tc.wc (s_four _ _ _ _)) (Is.k ?_)
  refine w_Model_wordOf_392 (fun c => ?_) (fun c => ?_)
  rotate_left
  · have e := lgc_eq.mp (show (lg_cmp z (((0 * 32 + 11) * 32 + 5) * 32 + 25 : Int32).toInt64).toInt = 0 by first | exact c | exact Decidable.not_not.mp c)
    rw [hz, show ((((0 * 32 + 11) * 32 + 5) * 32 + 25 : Int32).toInt64).toInt = (11449 : Int) from by decide] at e
    have ev : v = 11449 := by omega
    refine w_Model_wordOf_396 ?_
    exact ⟨by rw [ev]; rfl, rfl⟩
  have n20 : ¬ v = 11449 := fun ev => c (lgc_eq.mpr (show z.toInt = ((((0 * 32 + 11) * 32 + 5) * 32 + 25 : Int32).toInt64).toInt by rw [hz, ev]; decide))
  refine w_Model_wordOf_399 (Tc.wc (s_eight _ _ _ _ _ _ _ _)) (Is.k ?_)
  refine w_Model_wordOf_416 (fun c => ?_) (fun c => ?_)
  rotate_left
  · have e := lgc_eq.mp (show (lg_cmp z ((((0 * 32 + 16) * 32 + 1) * 32 + 18 : Int32).toInt64 * 1048576 + (((20 * 32 + 9) * 32 + 5) * 32 + 19 : Int32).toInt64)).toInt = 0 by first | exact c | exact Decidable.not_not.mp c)
    rw [hz, show (((((0 * 32 + 16) * 32 + 1) * 32 + 18 : Int32).toInt64 * 1048576 + (((20 * 32 + 9) * 32 + 5) * 32 + 19 : Int32).toInt64)).toInt = (17232962739 : Int) from by decide] at e
    have ev : v = 17232962739 := by omega
    refine w_Model_wordOf_420 ?_
    exact ⟨by rw [ev]; rfl, rfl⟩
  have n21 : ¬ v = 17232962739 := fun ev => c (lgc_eq.mpr (show z.toInt = (((((0 * 32 + 16) * 32 + 1) * 32 + 18 : Int32).toInt64 * 1048576 + (((20 * 32 + 9) * 32 + 5) * 32 + 19 : Int32).toInt64)).toInt by rw [hz, ev]; decide))
  refine w_Model_wordOf_423 (Tc.wc (s_eight _ _ _ _ _ _ _ _)) (Is.k ?_)
  refine w_Model_wordOf_440 (fun c => ?_) (fun c => ?_)
  rotate_left
  · have e := lgc_eq.mp (show (lg_cmp z ((((0 * 32 + 0) * 32 + 0) * 32 + 23 : Int32).toInt64 * 1048576 + (((15 * 32 + 18) * 32 + 20) * 32 + 8 : Int32).toInt64)).toInt = 0 by first | exact c | exact Decidable.not_not.mp c)
    rw [hz, show (((((0 * 32 + 0) * 32 + 0) * 32 + 23 : Int32).toInt64 * 1048576 + (((15 * 32 + 18) * 32 + 20) * 32 + 8 : Int32).toInt64)).toInt = (24627848 : Int) from by decide] at e
    have ev : v = 24627848 := by omega
    refine w_Model_wordOf_444 ?_
    refine w_Model_wordOf_451 ?_
    exact ⟨by rw [ev]; rfl, rfl⟩
  have n22 : ¬ v = 24627848 := fun ev => c (lgc_eq.mpr (show z.toInt = (((((0 * 32 + 0) * 32 + 0) * 32 + 23 : Int32).toInt64 * 1048576 + (((15 * 32 + 18) * 32 + 20) * 32 + 8 : Int32).toInt64)).toInt by rw [hz, ev]; decide))
  refine w_Model_wordOf_449 ?_
  refine w_Model_wordOf_451 ?_
  refine ⟨?_, rfl⟩
  unfold wcod
  rw [if_neg n1, if_neg n2, if_neg n3, if_neg n4, if_neg n5, if_neg n6, if_neg n7, if_neg n8, if_neg n9, if_neg n10, if_neg n11, if_neg n12, if_neg n13, if_neg n14, if_neg n15, if_neg n16, if_neg n17, if_neg n18, if_neg n19, if_neg n20, if_neg n21, if_neg n22]
  rfl
end M91
