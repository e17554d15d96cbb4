/-! MONTHS: OPERATIONS plan, within -/
theorem planF_bd : ∀ n t, t ≤ 9 → planF n t ≤ 27 * n := by
  intro n
  induction n with
  | zero => intro t _; exact Nat.le_refl 0
  | succ n ih =>
    intro t ht
    have h1 := ih (t - 1) (by omega)
    have h2 := ih (min 9 (t + 1)) (by omega)
    have h3 := ih (t / 2) (by omega)
    simp only [planF]
    omega
def tA (e t : Nat) : Nat := if e = 0 then t - 1 else if e = 1 then min 9 (t + 1) else t / 2
def brN (e t : Nat) : Nat := if e = 0 then t else if e = 1 then 0 else 3 * t
theorem tA_9 {e t : Nat} (ht : t ≤ 9) : tA e t ≤ 9 := by
  unfold tA
  split
  · omega
  · split <;> omega
def byF (e n t : Nat) : Nat := brN e t + planF (n - 1) (tA e t)
theorem planF_by {n t : Nat} (hn : 1 ≤ n) : planF n t = max (max (byF 0 n t) (byF 1 n t)) (byF 2 n t) := by
  obtain ⟨m, rfl⟩ : ∃ m, n = m + 1 := ⟨n - 1, by omega⟩
  simp only [planF, byF, brN, tA, Nat.add_sub_cancel]
  simp
def fstF (n t : Nat) : Nat := if byF 0 n t = planF n t then 0 else if byF 1 n t = planF n t then 1 else 2
theorem fstF_2 {n t : Nat} (hn : 1 ≤ n) (h0 : ¬ byF 0 n t = planF n t) (h1 : ¬ byF 1 n t = planF n t) : byF 2 n t = planF n t := by
  have := planF_by (n := n) (t := t) hn
  omega
def walkT (n t : Nat) : Nat → Nat
  | 0 => t
  | m + 1 => tA (fstF (n - m) (walkT n t m)) (walkT n t m)
theorem walkT_9 {n t : Nat} (ht : t ≤ 9) : ∀ m, walkT n t m ≤ 9 := by
  intro m
  induction m with
  | zero => exact ht
  | succ m ih => exact tA_9 ih
theorem fstF_le {n t : Nat} : fstF n t ≤ 2 := by
  unfold fstF
  split
  · omega
  · split <;> omega
theorem byF_bd {e n t : Nat} (ht : t ≤ 9) (hn : n ≤ 20) : byF e n t ≤ 600 := by
  have h1 := planF_bd (n - 1) (tA e t) (tA_9 ht)
  have h2 : brN e t ≤ 27 := by
    unfold brN
    split
    · omega
    · split <;> omega
  unfold byF
  omega
section M47
variable {rod : Nat → Nat × (Nat → Int32)} {d : Nat} {h : MH} {a l : Nat}
theorem s_isTrust (x : Int32) (h : MH) : Tc rod (d + 1) 15 [.inl x] h (some (.inl (if 0 ≤ x.toInt ∧ x.toInt ≤ 9 then 1 else 0))) h := by
  apply Wc.tc
  refine n_Main_isTrust ?_
  refine w_Main_isTrust_0 (fun kc0 => ?_) (fun kc0 => ?_)
  · try simp only [ite01t, ite01v, Int32.reduceToInt, t_m1, t_m2, t_m1000, Decidable.not_not] at kc0
    refine w_Main_isTrust_14 ?_
    refine w_Main_isTrust_15 (by first | exact Or.inl rfl | exact Or.inr rfl | exact or01 | assumption) ?_
    exact ⟨by first | (exfalso; omega) | rw [if_pos (by omega)] | rw [if_neg (by omega)], rfl⟩
  · try simp only [ite01t, ite01v, Int32.reduceToInt, t_m1, t_m2, t_m1000, Decidable.not_not] at kc0
    refine w_Main_isTrust_4 (fun kc4 => ?_) (fun kc4 => ?_)
    · try simp only [ite01t, ite01v, Int32.reduceToInt, t_m1, t_m2, t_m1000, Decidable.not_not] at kc4
      refine w_Main_isTrust_14 ?_
      refine w_Main_isTrust_15 (by first | exact Or.inl rfl | exact Or.inr rfl | exact or01 | assumption) ?_
      exact ⟨by first | (exfalso; omega) | rw [if_pos (by omega)] | rw [if_neg (by omega)], rfl⟩
    · try simp only [ite01t, ite01v, Int32.reduceToInt, t_m1, t_m2, t_m1000, Decidable.not_not] at kc4
      refine w_Main_isTrust_10 ?_
      refine w_Main_isTrust_15 (by first | exact Or.inl rfl | exact Or.inr rfl | exact or01 | assumption) ?_
      exact ⟨by first | (exfalso; omega) | rw [if_pos (by omega)] | rw [if_neg (by omega)], rfl⟩
theorem s_most (I : INV h) (x y : Int32) (n t : Nat) (hx : x.toInt = (n : Int)) (hy : y.toInt = (t : Int)) (hn : n ≤ 20) (ht : t ≤ 9) : Tc rod (d + 2) 14 [.inr (.inr (.inl (some 82))), .inl x, .inl y] h (some (.inl (Int32.ofNat (planF n t)))) h := by
  have L := I.lay
  have e := (n_add (n_mul hx (show (10 : Int32).toInt = ((10 : Nat) : Int) from rfl) (by omega)) hy (by omega))
  have m : h.1 83 (10 * n + t) = Int32.ofNat (planF n t) := I.2.2.2.2.2.2 n t hn ht
  apply Wc.tc
  refine n_Months_most ?_
  refine w_Months_most_0 (fun kc0 => (by exfalso; omega)) (fun kc0 => ?_)
  try simp only [ite01t, ite01v, Int32.reduceToInt, t_m1, t_m2, t_m1000, Decidable.not_not] at kc0
  refine w_Months_most_4 (fun kc4 => (by exfalso; omega)) (fun kc4 => ?_)
  try simp only [ite01t, ite01v, Int32.reduceToInt, t_m1, t_m2, t_m1000, Decidable.not_not] at kc4
  refine w_Months_most_10 (Tc.wc (s_isTrust _ _)) (Is.k ?_)
  refine w_Months_most_14 (fun kc14 => (by exfalso; simp only [ite01t] at kc14; omega)) (fun kc14 => ?_)
  try simp only [ite01t, ite01v, Int32.reduceToInt, t_m1, t_m2, t_m1000, Decidable.not_not] at kc14
  refine w_Months_most_17 ?_
  refine w_Months_most_22 rfl (fun kc22 => absurd kc22 (by decide)) (fun kc22 => ?_)
  refine w_Months_most_27 L (by rw [e]; omega) ?_
  refine w_Months_most_42 ?_
  exact ⟨by rw [n_eq e, ← m, Nat.mul_comm], rfl⟩
theorem s_trustAfter (x y : Int32) (e t : Nat) (hx : x.toInt = (e : Int)) (hy : y.toInt = (t : Int)) (he : e ≤ 2) (ht : t ≤ 9) (h : MH) : Tc rod (d + 1) 13 [.inl x, .inl y] h (some (.inl (Int32.ofNat (tA e t)))) h := by
  apply Wc.tc
  refine n_Months_trustAfter ?_
  refine w_Months_trustAfter_0 (fun kc0 => ?_) (fun kc0 => ?_) (fun kc0_0 kc0_1 => ?_)
  · refine w_Months_trustAfter_28 ?_
    have q : (y - 1).toInt = (t : Int) - 1 := by rw [i32_sub (by rw [hy]; show _ ≤ _ - (1 : Int); omega) (by rw [hy]; show _ - (1 : Int) ≤ _; omega), hy]; rfl
    refine ⟨congrArg (fun z => some (Sum.inl z)) (i32_of ?_), rfl⟩
    rw [t_nat (by have := tA_9 (e := e) ht; omega), tA, if_pos (c := e = 0) (by omega)]
    simp only [Int32.lt_iff_toInt_lt, q]
    split
    · rename_i q2; have q2 : (0 : Int) < (t : Int) - 1 := q2; rw [q]; omega
    · rename_i q2; have q2 : ¬ (0 : Int) < (t : Int) - 1 := q2; show (0 : Int) = _; omega
  · refine w_Months_trustAfter_36 ?_
    have q : (y + 1).toInt = (t : Int) + 1 := by rw [i32_add (by rw [hy]; show _ ≤ _ + (1 : Int); omega) (by rw [hy]; show _ + (1 : Int) ≤ _; omega), hy]; rfl
    refine ⟨congrArg (fun z => some (Sum.inl z)) (i32_of ?_), rfl⟩
    rw [t_nat (by have := tA_9 (e := e) ht; omega), tA, if_neg (c := e = 0) (by omega), if_pos (c := e = 1) (by omega)]
    simp only [Int32.lt_iff_toInt_lt, q]
    split
    · rename_i q2; have q2 : (t : Int) + 1 < 9 := q2; rw [q]; omega
    · rename_i q2; have q2 : ¬ (t : Int) + 1 < 9 := q2; show (9 : Int) = _; omega
  · refine w_Months_trustAfter_45 ?_
    refine ⟨congrArg (fun z => some (Sum.inl z)) (i32_of ?_), rfl⟩
    rw [t_nat (by have := tA_9 (e := e) ht; omega), tA, if_neg (by omega), if_neg (by omega), dv_q (k := 2) (n := 2) rfl (by omega) (by omega), hy]
    omega
theorem s_mostBy (I : INV h) (z x y : Int32) (e n t : Nat) (hz : z.toInt = (e : Int)) (hn : x.toInt = (n : Int)) (hy : y.toInt = (t : Int)) (he : e ≤ 2) (h1 : 1 ≤ n) (h20 : n ≤ 20) (ht : t ≤ 9) : Tc rod (d + 3) 12 [.inr (.inr (.inl (some 82))), .inl z, .inl x, .inl y] h (some (.inl (Int32.ofNat (byF e n t)))) h := by
  have L := I.lay
  have b := byF_bd (e := e) ht h20
  have p := planF_bd (n - 1) (tA e t) (tA_9 ht)
  have a9 := tA_9 (e := e) ht
  apply Wc.tc
  refine n_Months_mostBy ?_
  refine w_Months_mostBy_0 (fun kc0 => ?_) (fun kc0 => ?_)
  · try simp only [ite01t, ite01v, Int32.reduceToInt, t_m1, t_m2, t_m1000, Decidable.not_not] at kc0
    refine w_Months_mostBy_8 (fun kc8 => ?_) (fun kc8 => ?_)
    · try simp only [ite01t, ite01v, Int32.reduceToInt, t_m1, t_m2, t_m1000, Decidable.not_not] at kc8
      refine w_Months_mostBy_19 ?_
      refine w_Months_mostBy_20 (Tc.wc (s_trustAfter z y e t hz hy he ht _)) (Is.k ?_)
      refine w_Months_mostBy_33 L (Tc.wc (s_most I _ _ (n - 1) (tA e t) (by rw [i32_sub (by rw [hn]; show _ ≤ _ - (1 : Int); omega) (by rw [hn]; show _ - (1 : Int) ≤ _; omega), hn]; show _ - (1 : Int) = _; omega) (t_nat (by omega)) (by omega) a9)) (Is.k ?_)
      refine w_Months_mostBy_36 ?_
      refine ⟨congrArg (fun z => some (Sum.inl z)) (i32_of ?_), rfl⟩
      rw [t_nat (by omega), byF, brN]
      first | (rw [if_pos (by omega), i32_add (by rw [t_nat (by omega), hy]; omega) (by rw [t_nat (by omega), hy]; omega), t_nat (by omega), hy]; omega) | (rw [if_neg (by omega), if_neg (by omega)]; rw [i32_add (by rw [t_nat (by omega), n_mul (m := 3) rfl hy (by omega)]; omega) (by rw [t_nat (by omega), n_mul (m := 3) rfl hy (by omega)]; omega), t_nat (by omega), n_mul (m := 3) rfl hy (by omega)]; omega) | (rw [if_neg (by omega), if_pos (by omega), Int32.zero_add, t_nat (by omega)]; omega)
    · try simp only [ite01t, ite01v, Int32.reduceToInt, t_m1, t_m2, t_m1000, Decidable.not_not] at kc8
      refine w_Months_mostBy_13 ?_
      refine w_Months_mostBy_20 (Tc.wc (s_trustAfter z y e t hz hy he ht _)) (Is.k ?_)
      refine w_Months_mostBy_33 L (Tc.wc (s_most I _ _ (n - 1) (tA e t) (by rw [i32_sub (by rw [hn]; show _ ≤ _ - (1 : Int); omega) (by rw [hn]; show _ - (1 : Int) ≤ _; omega), hn]; show _ - (1 : Int) = _; omega) (t_nat (by omega)) (by omega) a9)) (Is.k ?_)
      refine w_Months_mostBy_36 ?_
      refine ⟨congrArg (fun z => some (Sum.inl z)) (i32_of ?_), rfl⟩
      rw [t_nat (by omega), byF, brN]
      first | (rw [if_pos (by omega), i32_add (by rw [t_nat (by omega), hy]; omega) (by rw [t_nat (by omega), hy]; omega), t_nat (by omega), hy]; omega) | (rw [if_neg (by omega), if_neg (by omega)]; rw [i32_add (by rw [t_nat (by omega), n_mul (m := 3) rfl hy (by omega)]; omega) (by rw [t_nat (by omega), n_mul (m := 3) rfl hy (by omega)]; omega), t_nat (by omega), n_mul (m := 3) rfl hy (by omega)]; omega) | (rw [if_neg (by omega), if_pos (by omega), Int32.zero_add, t_nat (by omega)]; omega)
  · try simp only [ite01t, ite01v, Int32.reduceToInt, t_m1, t_m2, t_m1000, Decidable.not_not] at kc0
    refine w_Months_mostBy_4 ?_
    refine w_Months_mostBy_20 (Tc.wc (s_trustAfter z y e t hz hy he ht _)) (Is.k ?_)
    refine w_Months_mostBy_33 L (Tc.wc (s_most I _ _ (n - 1) (tA e t) (by rw [i32_sub (by rw [hn]; show _ ≤ _ - (1 : Int); omega) (by rw [hn]; show _ - (1 : Int) ≤ _; omega), hn]; show _ - (1 : Int) = _; omega) (t_nat (by omega)) (by omega) a9)) (Is.k ?_)
    refine w_Months_mostBy_36 ?_
    refine ⟨congrArg (fun z => some (Sum.inl z)) (i32_of ?_), rfl⟩
    rw [t_nat (by omega), byF, brN]
    first | (rw [if_pos (by omega), i32_add (by rw [t_nat (by omega), hy]; omega) (by rw [t_nat (by omega), hy]; omega), t_nat (by omega), hy]; omega) | (rw [if_neg (by omega), if_neg (by omega)]; rw [i32_add (by rw [t_nat (by omega), n_mul (m := 3) rfl hy (by omega)]; omega) (by rw [t_nat (by omega), n_mul (m := 3) rfl hy (by omega)]; omega), t_nat (by omega), n_mul (m := 3) rfl hy (by omega)]; omega) | (rw [if_neg (by omega), if_pos (by omega), Int32.zero_add, t_nat (by omega)]; omega)
theorem s_firstBest (I : INV h) (x y : Int32) (n t : Nat) (hn : x.toInt = (n : Int)) (hy : y.toInt = (t : Int)) (h1 : 1 ≤ n) (h20 : n ≤ 20) (ht : t ≤ 9) : Tc rod (d + 4) 114 [.inr (.inr (.inl (some 82))), .inl x, .inl y] h (some (.inl (Int32.ofNat (fstF n t)))) h := by
  have L := I.lay
  have pb := planF_bd n t ht
  apply Wc.tc
  refine n_Months_firstBest ?_
  refine w_Months_firstBest_0 rfl ?_
  refine Wb.upc 2 (fun j L' => ∃ (z : Int32), L' = [some (.inr (.inr (.inl (some 82)))), some (.inl x), some (.inl y), some (.inl z)] ∧ z.toInt = (j : Int) ∧ (1 ≤ j → ¬ byF 0 n t = planF n t) ∧ (2 ≤ j → ¬ byF 1 n t = planF n t)) ?_ (Nat.zero_le _) ⟨0, rfl, rfl, fun q => absurd q (by omega), fun q => absurd q (by omega)⟩
  rintro j _ hj ⟨z, rfl, hz, q0, q1⟩ ih
  have bb := byF_bd (e := j) ht h20
  refine w_Months_firstBest_2 (fun kc2 => ?_) (fun kc2 => ?_)
  · try simp only [ite01t, ite01v, Int32.reduceToInt, t_m1, t_m2, t_m1000, Decidable.not_not] at kc2
    refine w_Months_firstBest_31 ?_
    refine ⟨?_, rfl⟩
    rw [fstF, if_neg (q0 (by omega)), if_neg (q1 (by omega))]
    rfl
  · try simp only [ite01t, ite01v, Int32.reduceToInt, t_m1, t_m2, t_m1000, Decidable.not_not] at kc2
    refine w_Months_firstBest_7 L (Tc.wc (s_mostBy I z x y j n t hz hn hy (by omega) h1 h20 ht)) (Is.k ?_)
    refine w_Months_firstBest_14 L (Tc.wc (s_most I _ _ n t hn hy h20 ht)) (Is.k ?_)
    refine w_Months_firstBest_20 (fun kc20 => ?_) (fun kc20 => ?_)
    · try simp only [ite01t, ite01v, Int32.reduceToInt, t_m1, t_m2, t_m1000, Decidable.not_not] at kc20
      refine w_Months_firstBest_25 rfl ?_
      rw [t_nat (by omega), t_nat (by omega)] at kc20
      refine ih (by omega) _ ⟨_, rfl, t_succ hz (by omega), fun q => ?_, fun q => ?_⟩
      · rcases (show j = 0 ∨ j = 1 by omega) with rfl | rfl
        · omega
        · exact q0 (by omega)
      · have : j = 1 := by omega
        subst this
        omega
    · try simp only [ite01t, ite01v, Int32.reduceToInt, t_m1, t_m2, t_m1000, Decidable.not_not] at kc20
      refine w_Months_firstBest_23 ?_
      rw [t_nat (by omega), t_nat (by omega)] at kc20
      refine ⟨congrArg (fun z => some (Sum.inl z)) (i32_of ?_), rfl⟩
      rw [t_nat (by have := fstF_le (n := n) (t := t); omega), hz, fstF]
      rcases (show j = 0 ∨ j = 1 by omega) with rfl | rfl
      · rw [if_pos (by omega)]
      · rw [if_neg (q0 (by omega)), if_pos (by omega)]
theorem s_deedOf (I : INV h) (x y k : Int32) (n t : Nat) (hn : y.toInt = (n : Int)) (hx : x.toInt = (t : Int)) (h20 : n ≤ 20) (ht : t ≤ 9) : Tc rod (d + 5) 113 [.inr (.inr (.inl (some 82))), .inl x, .inl y, .inl k] h (some (.inl (if 0 ≤ k.toInt ∧ k.toInt < y.toInt then Int32.ofNat (fstF (n - k.toNatClampNeg) (walkT n t k.toNatClampNeg)) else -1))) h := by
  have L := I.lay
  apply Wc.tc
  refine n_Months_deedOf ?_
  refine w_Months_deedOf_0 (fun kc0 => ?_) (fun kc0 => ?_)
  · try simp only [ite01t, ite01v, Int32.reduceToInt, t_m1, t_m2, t_m1000, Decidable.not_not] at kc0
    refine w_Months_deedOf_9 ?_
    exact ⟨by rw [if_neg (by omega)], rfl⟩
  · try simp only [ite01t, ite01v, Int32.reduceToInt, t_m1, t_m2, t_m1000, Decidable.not_not] at kc0
    refine w_Months_deedOf_4 (fun kc4 => ?_) (fun kc4 => ?_)
    · try simp only [ite01t, ite01v, Int32.reduceToInt, t_m1, t_m2, t_m1000, Decidable.not_not] at kc4
      refine w_Months_deedOf_11 rfl ?_
      have ek := n_of (x := k) (by omega)
      generalize k.toNatClampNeg = kk at ek
      refine Wb.upc (kk + 1) (fun j L' => ∃ (m e w : Int32), L' = [some (.inr (.inr (.inl (some 82)))), some (.inl x), some (.inl y), some (.inl k), some (.inl w), some (.inl e), some (.inl m)] ∧ m.toInt = (j : Int) ∧ w.toInt = ((walkT n t j : Nat) : Int) ∧ (∀ i, j = i + 1 → e = Int32.ofNat (fstF (n - i) (walkT n t i)))) ?_ (Nat.zero_le _) ⟨0, -1, x, rfl, rfl, hx, fun i q => absurd q (by omega)⟩
      rintro j _ hj ⟨m, e, w, rfl, hm, hw, he⟩ ih
      have w9 := walkT_9 (n := n) ht j
      have f2 := fstF_le (n := n - j) (t := walkT n t j)
      refine w_Months_deedOf_20 (fun kc20 => ?_) (fun kc20 => ?_)
      · try simp only [ite01t, ite01v, Int32.reduceToInt, t_m1, t_m2, t_m1000, Decidable.not_not] at kc20
        refine w_Months_deedOf_53 ?_
        refine ⟨?_, rfl⟩
        rw [if_pos (by omega), he kk (by omega)]
      · try simp only [ite01t, ite01v, Int32.reduceToInt, t_m1, t_m2, t_m1000, Decidable.not_not] at kc20
        refine w_Months_deedOf_26 L (Tc.wc (s_firstBest I _ w (n - j) (walkT n t j) (by rw [i32_sub (by rw [hn, hm]; omega) (by rw [hn, hm]; omega), hn, hm]; omega) hw (by omega) (by omega) w9)) (Is.k ?_)
        refine w_Months_deedOf_36 (Tc.wc (s_trustAfter _ w (fstF (n - j) (walkT n t j)) (walkT n t j) (t_nat (by omega)) hw f2 w9 _)) (Is.k ?_)
        refine w_Months_deedOf_45 rfl rfl ?_
        refine ih (by omega) _ ⟨_, _, _, rfl, t_succ hm (by omega), ?_, fun i q => ?_⟩
        · rw [t_nat (by have := tA_9 (e := fstF (n - j) (walkT n t j)) w9; omega)]; rfl
        · rw [show i = j by omega]
    · try simp only [ite01t, ite01v, Int32.reduceToInt, t_m1, t_m2, t_m1000, Decidable.not_not] at kc4
      refine w_Months_deedOf_9 ?_
      exact ⟨by rw [if_neg (by omega)], rfl⟩
theorem s_mbrings (x y : Int32) (e t : Nat) (hx : x.toInt = (t : Int)) (hy : y.toInt = (e : Int)) (he : e ≤ 2) (ht : t ≤ 9) (h : MH) : Tc rod (d + 1) 270 [.inl x, .inl y] h (some (.inl (Int32.ofNat (brN e t)))) h := by
  apply Wc.tc
  refine n_Model_brings ?_
  refine w_Model_brings_0 (fun kc0 => ?_) (fun kc0 => ?_)
  · try simp only [ite01t, ite01v, Int32.reduceToInt, t_m1, t_m2, t_m1000, Decidable.not_not] at kc0
    refine w_Model_brings_8 (fun kc8 => ?_) (fun kc8 => ?_)
    · try simp only [ite01t, ite01v, Int32.reduceToInt, t_m1, t_m2, t_m1000, Decidable.not_not] at kc8
      refine w_Model_brings_17 ?_
      refine w_Model_brings_20 ?_
      refine ⟨congrArg (fun z => some (Sum.inl z)) (i32_of ?_), rfl⟩
      have b : brN e t ≤ 27 := by
        unfold brN
        split
        · omega
        · split <;> omega
      rw [t_nat (by omega), brN]
      first | (rw [if_pos (by omega)]; exact hx) | (rw [if_neg (by omega), if_pos (by omega)]; rfl) | (rw [if_neg (by omega), if_neg (by omega), n_mul (m := 3) rfl hx (by omega)])
    · try simp only [ite01t, ite01v, Int32.reduceToInt, t_m1, t_m2, t_m1000, Decidable.not_not] at kc8
      refine w_Model_brings_13 ?_
      refine w_Model_brings_20 ?_
      refine ⟨congrArg (fun z => some (Sum.inl z)) (i32_of ?_), rfl⟩
      have b : brN e t ≤ 27 := by
        unfold brN
        split
        · omega
        · split <;> omega
      rw [t_nat (by omega), brN]
      first | (rw [if_pos (by omega)]; exact hx) | (rw [if_neg (by omega), if_pos (by omega)]; rfl) | (rw [if_neg (by omega), if_neg (by omega), n_mul (m := 3) rfl hx (by omega)])
  · try simp only [ite01t, ite01v, Int32.reduceToInt, t_m1, t_m2, t_m1000, Decidable.not_not] at kc0
    refine w_Model_brings_4 ?_
    refine w_Model_brings_20 ?_
    refine ⟨congrArg (fun z => some (Sum.inl z)) (i32_of ?_), rfl⟩
    have b : brN e t ≤ 27 := by
      unfold brN
      split
      · omega
      · split <;> omega
    rw [t_nat (by omega), brN]
    first | (rw [if_pos (by omega)]; exact hx) | (rw [if_neg (by omega), if_pos (by omega)]; rfl) | (rw [if_neg (by omega), if_neg (by omega), n_mul (m := 3) rfl hx (by omega)])
theorem s_trustBy (x y : Int32) (e t : Nat) (hx : x.toInt = (t : Int)) (hy : y.toInt = (e : Int)) (he : e ≤ 2) (ht : t ≤ 9) (h : MH) : Tc rod (d + 1) 271 [.inl x, .inl y] h (some (.inl (Int32.ofNat (tA e t)))) h := by
  apply Wc.tc
  refine n_Model_trustBy ?_
  refine w_Model_trustBy_0 (fun kc0 => ?_) (fun kc0 => ?_)
  · try simp only [ite01t, ite01v, Int32.reduceToInt, t_m1, t_m2, t_m1000, Decidable.not_not] at kc0
    refine w_Model_trustBy_16 (fun kc16 => ?_) (fun kc16 => ?_)
    · try simp only [ite01t, ite01v, Int32.reduceToInt, t_m1, t_m2, t_m1000, Decidable.not_not] at kc16
      refine w_Model_trustBy_38 ?_
      refine w_Model_trustBy_41 ?_
      refine ⟨congrArg (fun z => some (Sum.inl z)) (i32_of ?_), rfl⟩
      rw [t_nat (by have := tA_9 (e := e) ht; omega), tA]
      first | (rw [if_pos (by omega), n_sub hx (show (1 : Int32).toInt = ((1 : Nat) : Int) from rfl) (by omega) (by omega)]; done) | (rw [if_pos (by omega)]; show (0 : Int) = _; omega) | (rw [if_neg (by omega), if_pos (by omega), n_add hx (show (1 : Int32).toInt = ((1 : Nat) : Int) from rfl) (by omega)]; omega) | (rw [if_neg (by omega), if_pos (by omega)]; show (9 : Int) = _; omega) | (rw [if_neg (by omega), if_neg (by omega), dv_q (k := 2) (n := 2) rfl (by omega) (by omega), hx]; omega)
    · try simp only [ite01t, ite01v, Int32.reduceToInt, t_m1, t_m2, t_m1000, Decidable.not_not] at kc16
      refine w_Model_trustBy_21 (fun kc21 => ?_) (fun kc21 => ?_)
      · try simp only [ite01t, ite01v, Int32.reduceToInt, t_m1, t_m2, t_m1000, Decidable.not_not] at kc21
        refine w_Model_trustBy_33 ?_
        refine w_Model_trustBy_41 ?_
        refine ⟨congrArg (fun z => some (Sum.inl z)) (i32_of ?_), rfl⟩
        rw [t_nat (by have := tA_9 (e := e) ht; omega), tA]
        first | (rw [if_pos (by omega), n_sub hx (show (1 : Int32).toInt = ((1 : Nat) : Int) from rfl) (by omega) (by omega)]; done) | (rw [if_pos (by omega)]; show (0 : Int) = _; omega) | (rw [if_neg (by omega), if_pos (by omega), n_add hx (show (1 : Int32).toInt = ((1 : Nat) : Int) from rfl) (by omega)]; omega) | (rw [if_neg (by omega), if_pos (by omega)]; show (9 : Int) = _; omega) | (rw [if_neg (by omega), if_neg (by omega), dv_q (k := 2) (n := 2) rfl (by omega) (by omega), hx]; omega)
      · try simp only [ite01t, ite01v, Int32.reduceToInt, t_m1, t_m2, t_m1000, Decidable.not_not] at kc21
        refine w_Model_trustBy_27 ?_
        refine w_Model_trustBy_41 ?_
        refine ⟨congrArg (fun z => some (Sum.inl z)) (i32_of ?_), rfl⟩
        rw [t_nat (by have := tA_9 (e := e) ht; omega), tA]
        first | (rw [if_pos (by omega), n_sub hx (show (1 : Int32).toInt = ((1 : Nat) : Int) from rfl) (by omega) (by omega)]; done) | (rw [if_pos (by omega)]; show (0 : Int) = _; omega) | (rw [if_neg (by omega), if_pos (by omega), n_add hx (show (1 : Int32).toInt = ((1 : Nat) : Int) from rfl) (by omega)]; omega) | (rw [if_neg (by omega), if_pos (by omega)]; show (9 : Int) = _; omega) | (rw [if_neg (by omega), if_neg (by omega), dv_q (k := 2) (n := 2) rfl (by omega) (by omega), hx]; omega)
  · try simp only [ite01t, ite01v, Int32.reduceToInt, t_m1, t_m2, t_m1000, Decidable.not_not] at kc0
    refine w_Model_trustBy_4 (fun kc4 => ?_) (fun kc4 => ?_)
    · try simp only [ite01t, ite01v, Int32.reduceToInt, t_m1, t_m2, t_m1000, Decidable.not_not] at kc4
      refine w_Model_trustBy_14 ?_
      refine w_Model_trustBy_15 ?_
      refine ⟨congrArg (fun z => some (Sum.inl z)) (i32_of ?_), rfl⟩
      rw [t_nat (by have := tA_9 (e := e) ht; omega), tA]
      first | (rw [if_pos (by omega), n_sub hx (show (1 : Int32).toInt = ((1 : Nat) : Int) from rfl) (by omega) (by omega)]; done) | (rw [if_pos (by omega)]; show (0 : Int) = _; omega) | (rw [if_neg (by omega), if_pos (by omega), n_add hx (show (1 : Int32).toInt = ((1 : Nat) : Int) from rfl) (by omega)]; omega) | (rw [if_neg (by omega), if_pos (by omega)]; show (9 : Int) = _; omega) | (rw [if_neg (by omega), if_neg (by omega), dv_q (k := 2) (n := 2) rfl (by omega) (by omega), hx]; omega)
    · try simp only [ite01t, ite01v, Int32.reduceToInt, t_m1, t_m2, t_m1000, Decidable.not_not] at kc4
      refine w_Model_trustBy_8 ?_
      refine w_Model_trustBy_15 ?_
      refine ⟨congrArg (fun z => some (Sum.inl z)) (i32_of ?_), rfl⟩
      rw [t_nat (by have := tA_9 (e := e) ht; omega), tA]
      first | (rw [if_pos (by omega), n_sub hx (show (1 : Int32).toInt = ((1 : Nat) : Int) from rfl) (by omega) (by omega)]; done) | (rw [if_pos (by omega)]; show (0 : Int) = _; omega) | (rw [if_neg (by omega), if_pos (by omega), n_add hx (show (1 : Int32).toInt = ((1 : Nat) : Int) from rfl) (by omega)]; omega) | (rw [if_neg (by omega), if_pos (by omega)]; show (9 : Int) = _; omega) | (rw [if_neg (by omega), if_neg (by omega), dv_q (k := 2) (n := 2) rfl (by omega) (by omega), hx]; omega)
end M47
