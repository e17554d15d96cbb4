/-! LOAN: both answer alike -/
theorem s_Model_isIn {rod : Nat → Nat × (Nat → Int32)} {d : Nat} (v lo hi : Int32) (h : MH) : Tc rod (d + 1) 193 [.inl v, .inl lo, .inl hi] h (some (.inl (if lo ≤ v ∧ v ≤ hi then 1 else 0))) h := by
  refine e_Model_isIn ?_
  refine b_Model_isIn_0 (fun c => ?_) (fun c => ?_)
  · have c := of_decide_eq_true c
    rw [if_neg (fun q => absurd q.1 (Int32.not_le.mpr c))]
    exact b_Model_isIn_14 (b_Model_isIn_15 rfl)
  · have c := of_decide_eq_false c
    refine b_Model_isIn_5 (fun e => ?_) (fun e => ?_)
    · have e := of_decide_eq_true e
      rw [if_neg (fun q => absurd q.2 (Int32.not_le.mpr e))]
      exact b_Model_isIn_14 (b_Model_isIn_15 rfl)
    · have e := of_decide_eq_false e
      rw [if_pos ⟨Int32.not_lt.mp c, Int32.not_lt.mp e⟩]
      exact b_Model_isIn_10 (b_Model_isIn_15 rfl)
theorem s_Model_atMost {rod : Nat → Nat × (Nat → Int32)} {d : Nat} (v m : Int32) (h : MH) : Tc rod (d + 1) 237 [.inl v, .inl m] h (some (.inl (if v < m then v else m))) h := by
  refine e_Model_atMost ?_
  refine b_Model_atMost_0 (fun c => ?_) (fun c => ?_)
  · have c := of_decide_eq_true c
    rw [if_neg (Int32.not_lt.mpr c)]
    exact b_Model_atMost_9 b_Model_atMost_10
  · have c := of_decide_eq_false c
    rw [if_pos (Int32.not_le.mp c)]
    exact b_Model_atMost_5 b_Model_atMost_10
theorem i32_pay (a p : Int32) : (if a < p then a else p) = if p < a then p else a := by
  by_cases h1 : a < p
  · rw [if_pos h1, if_neg (Int32.not_lt.mpr (Int32.le_of_lt h1))]
  · rw [if_neg h1]
    by_cases h2 : p < a
    · rw [if_pos h2]
    · rw [if_neg h2]
      exact Int32.le_antisymm (Int32.not_lt.mp h1) (Int32.not_lt.mp h2)
theorem i32_as (x y z : Int32) : x + (y - z) = x + y - z := by
  rw [Int32.sub_eq_add_neg, Int32.sub_eq_add_neg, Int32.add_assoc]
set_option maxHeartbeats 4000000 in
/-- the months of both, side by side -/
theorem loan_loop {rod : Nat → Nat × (Nat → Int32)} {d : Nat} (h : MH) (r p q : Int32) (hr0 : 0 ≤ r.toInt) (hr1 : r.toInt ≤ 50) (hp0 : 0 ≤ p.toInt) (hp1 : p.toInt ≤ 99) : ∀ (k : Nat) (owed sum month : Int32) (c0 c1 c8 c9 m0 m1 m8 m9 : Option MV), k ≤ 99 → month.toInt = 99 - (k : Int) → 0 ≤ owed.toInt → owed.toInt ≤ 999 →
    ∃ v : Int32, Tb rod (d + 1) B_Main_loan 42 [c0, c1, some (.inl r), some (.inl p), some (.inl q), some (.inl owed), some (.inl sum), some (.inl month), c8, c9] [] h (some (.inl v)) h ∧ Tb rod (d + 1) B_Model_loan 42 [m0, m1, some (.inl r), some (.inl p), some (.inl q), some (.inl owed), some (.inl sum), some (.inl month), m8, m9] [] h (some (.inl v)) h := by
  intro k
  induction k with
  | zero =>
    intro owed sum month c0 c1 c8 c9 m0 m1 m8 m9 hk hm ho0 ho1
    have hmM : ¬ (100 : Int32) ≤ month := by rw [Int32.le_iff_toInt_le]; show ¬ (100 : Int) ≤ _; omega
    have hmC : (99 : Int32) ≤ month := by rw [Int32.le_iff_toInt_le]; show (99 : Int) ≤ _; omega
    by_cases ho : owed = 0
    · subst ho
      by_cases hq : q = 0
      · refine ⟨month, b_Main_loan_42 (fun _ => b_Main_loan_105 (fun _ => b_Main_loan_112 (fun _ => b_Main_loan_122 b_Main_loan_124) (fun c => absurd hq (of_decide_eq_false c))) (fun c => absurd (by decide) (of_decide_eq_false c))) (fun c => absurd (by decide) (of_decide_eq_false c)), b_Model_loan_42 (fun c => absurd (of_decide_eq_true c) hmM) (fun _ => b_Model_loan_49 (fun c => by simp at c) (fun _ => b_Model_loan_54 (fun _ => b_Model_loan_64 b_Model_loan_66) (fun c => absurd hq (of_decide_eq_false c))))⟩
      · refine ⟨sum, b_Main_loan_42 (fun _ => b_Main_loan_105 (fun _ => b_Main_loan_112 (fun c => absurd (of_decide_eq_true c) hq) (fun _ => b_Main_loan_117 b_Main_loan_124)) (fun c => absurd (by decide) (of_decide_eq_false c))) (fun c => absurd (by decide) (of_decide_eq_false c)), b_Model_loan_42 (fun c => absurd (of_decide_eq_true c) hmM) (fun _ => b_Model_loan_49 (fun c => by simp at c) (fun _ => b_Model_loan_54 (fun c => absurd (of_decide_eq_true c) hq) (fun _ => b_Model_loan_59 b_Model_loan_66)))⟩
    · have hoP : ¬ owed ≤ 0 := by
        intro hle
        rw [Int32.le_iff_toInt_le] at hle
        have h0 : owed.toInt = 0 := by have : owed.toInt ≤ 0 := hle; omega
        exact ho (Int32.toInt_inj.mp h0)
      refine ⟨-1, b_Main_loan_42 (fun c => absurd (of_decide_eq_true c) hoP) (fun _ => b_Main_loan_47 (fun _ => b_Main_loan_105 (fun c => absurd (of_decide_eq_true c) hoP) (fun _ => b_Main_loan_110)) (fun c => absurd hmC (of_decide_eq_false c))), b_Model_loan_42 (fun c => absurd (of_decide_eq_true c) hmM) (fun _ => b_Model_loan_49 (fun _ => b_Model_loan_67 (by decide) rfl (fun _ => ?_) (fun _ => b_Model_loan_82)) (fun c => by simp [ho] at c))⟩
      refine b_Model_loan_84 rfl (s_Model_atMost _ _ _) ?_
      refine b_Model_loan_97 rfl rfl ?_
      refine b_Model_loan_42 (fun _ => b_Model_loan_119) (fun c => absurd ?_ (of_decide_eq_false c))
      rw [Int32.le_iff_toInt_le, i32_add (by rw [hm]; decide) (by rw [hm]; decide), hm]
      decide
  | succ k ih =>
    intro owed sum month c0 c1 c8 c9 m0 m1 m8 m9 hk hm ho0 ho1
    have hmM : ¬ (100 : Int32) ≤ month := by rw [Int32.le_iff_toInt_le]; show ¬ (100 : Int) ≤ _; omega
    have hmC : ¬ (99 : Int32) ≤ month := by rw [Int32.le_iff_toInt_le]; show ¬ (99 : Int) ≤ _; omega
    by_cases ho : owed = 0
    · subst ho
      by_cases hq : q = 0
      · refine ⟨month, b_Main_loan_42 (fun _ => b_Main_loan_105 (fun _ => b_Main_loan_112 (fun _ => b_Main_loan_122 b_Main_loan_124) (fun c => absurd hq (of_decide_eq_false c))) (fun c => absurd (by decide) (of_decide_eq_false c))) (fun c => absurd (by decide) (of_decide_eq_false c)), b_Model_loan_42 (fun c => absurd (of_decide_eq_true c) hmM) (fun _ => b_Model_loan_49 (fun c => by simp at c) (fun _ => b_Model_loan_54 (fun _ => b_Model_loan_64 b_Model_loan_66) (fun c => absurd hq (of_decide_eq_false c))))⟩
      · refine ⟨sum, b_Main_loan_42 (fun _ => b_Main_loan_105 (fun _ => b_Main_loan_112 (fun c => absurd (of_decide_eq_true c) hq) (fun _ => b_Main_loan_117 b_Main_loan_124)) (fun c => absurd (by decide) (of_decide_eq_false c))) (fun c => absurd (by decide) (of_decide_eq_false c)), b_Model_loan_42 (fun c => absurd (of_decide_eq_true c) hmM) (fun _ => b_Model_loan_49 (fun c => by simp at c) (fun _ => b_Model_loan_54 (fun c => absurd (of_decide_eq_true c) hq) (fun _ => b_Model_loan_59 b_Model_loan_66)))⟩
    · have hoP : ¬ owed ≤ 0 := by
        intro hle
        rw [Int32.le_iff_toInt_le] at hle
        have h0 : owed.toInt = 0 := by have : owed.toInt ≤ 0 := hle; omega
        exact ho (Int32.toInt_inj.mp h0)
      have hmul : (owed * r).toInt = owed.toInt * r.toInt := by
        have h1 : owed.toInt * r.toInt ≤ 999 * 50 := Int.mul_le_mul ho1 hr1 hr0 (by decide)
        have h2 : 0 ≤ owed.toInt * r.toInt := Int.mul_nonneg ho0 hr0
        exact i32_mul (by omega) (by omega)
      have hdiv : (owed * r / 100).toInt = (owed.toInt * r.toInt).tdiv 100 := by
        rw [i32_div (by decide), hmul]
        rfl
      have hm0 : 0 ≤ (owed * r / 100).toInt ∧ (owed * r / 100).toInt ≤ 499 := by
        have h1 : owed.toInt * r.toInt ≤ 999 * 50 := Int.mul_le_mul ho1 hr1 hr0 (by decide)
        have h2 : 0 ≤ owed.toInt * r.toInt := Int.mul_nonneg ho0 hr0
        rw [hdiv, Int.tdiv_eq_ediv_of_nonneg h2]
        omega
      by_cases hmp : owed * r / 100 < p
      · have hsum : (owed + owed * r / 100).toInt = owed.toInt + (owed * r / 100).toInt := i32_add (by omega) (by omega)
        have hmp' : (owed * r / 100).toInt < p.toInt := Int32.lt_iff_toInt_lt.mp hmp
        obtain ⟨pay, hpay⟩ : ∃ pay, pay = (if p < owed + owed * r / 100 then p else owed + owed * r / 100) := ⟨_, rfl⟩
        have hpb : pay.toInt = p.toInt ∧ p.toInt < owed.toInt + (owed * r / 100).toInt ∨ pay.toInt = owed.toInt + (owed * r / 100).toInt := by
          rw [hpay]
          by_cases hlt : p < owed + owed * r / 100
          · rw [if_pos hlt]
            rw [Int32.lt_iff_toInt_lt, hsum] at hlt
            exact Or.inl ⟨rfl, hlt⟩
          · rw [if_neg hlt]
            exact Or.inr hsum
        have hnew : (owed + owed * r / 100 - pay).toInt = owed.toInt + (owed * r / 100).toInt - pay.toInt := by
          rw [i32_sub (by rw [hsum]; omega) (by rw [hsum]; omega), hsum]
        have hmon : (month + 1).toInt = 99 - (k : Int) := by
          rw [i32_add (by rw [hm]; show _ ≤ _ + (1 : Int); omega) (by rw [hm]; show _ + (1 : Int) ≤ _; omega), hm]
          show (99 : Int) - ((k + 1 : Nat) : Int) + 1 = _
          omega
        obtain ⟨v, hC, hM⟩ := ih (owed + owed * r / 100 - pay) (sum + pay) (month + 1) c0 c1 (some (.inl (owed * r / 100))) (some (.inl pay)) m0 m1 (some (.inl (owed * r / 100))) (some (.inl pay)) (by omega) hmon (by rw [hnew]; omega) (by rw [hnew]; omega)
        refine ⟨v, b_Main_loan_42 (fun c => absurd (of_decide_eq_true c) hoP) (fun _ => b_Main_loan_47 (fun c => absurd (of_decide_eq_true c) hmC) (fun _ => b_Main_loan_54 (by decide) rfl (fun _ => ?_) (fun c => absurd hmp (of_decide_eq_false c)))), b_Model_loan_42 (fun c => absurd (of_decide_eq_true c) hmM) (fun _ => b_Model_loan_49 (fun _ => b_Model_loan_67 (by decide) rfl (fun _ => ?_) (fun c => absurd hmp (of_decide_eq_false c))) (fun c => by simp [ho] at c))⟩
        · refine b_Main_loan_71 rfl ?_
          rw [i32_pay, ← hpay, i32_as]
          exact hC
        · refine b_Model_loan_84 rfl (s_Model_atMost _ _ _) ?_
          rw [← hpay]
          exact b_Model_loan_97 rfl rfl hM
      · refine ⟨-1, b_Main_loan_42 (fun c => absurd (of_decide_eq_true c) hoP) (fun _ => b_Main_loan_47 (fun c => absurd (of_decide_eq_true c) hmC) (fun _ => b_Main_loan_54 (by decide) rfl (fun c => absurd (of_decide_eq_true c) hmp) (fun _ => b_Main_loan_69))), b_Model_loan_42 (fun c => absurd (of_decide_eq_true c) hmM) (fun _ => b_Model_loan_49 (fun _ => b_Model_loan_67 (by decide) rfl (fun c => absurd (of_decide_eq_true c) hmp) (fun _ => b_Model_loan_82)) (fun c => by simp [ho] at c))⟩
theorem bI_no {P : Prop} {_ : Decidable P} (c : decide ((if P then (1 : Int32) else 0) = 0) = true) : ¬ P := by
  intro hp
  rw [if_pos hp] at c
  exact absurd c (by decide)
theorem bI_yes {P : Prop} {_ : Decidable P} (c : decide ((if P then (1 : Int32) else 0) = 0) = false) : P := by
  by_cases hp : P
  · exact hp
  · rw [if_neg hp] at c
    exact absurd c (by decide)
theorem bN_yes {P : Prop} {_ : Decidable P} (c : (!(decide ((if P then (1 : Int32) else 0) = 0))) = true) : P := by
  rw [Bool.not_eq_true'] at c
  exact bI_yes c
theorem bN_no {P : Prop} {_ : Decidable P} (c : (!(decide ((if P then (1 : Int32) else 0) = 0))) = false) : ¬ P := by
  rw [Bool.not_eq_false'] at c
  exact bI_no c
set_option maxHeartbeats 4000000 in
/-- loan: whatever it is asked, both answer alike, and nothing changes -/
theorem op_loan {rod : Nat → Nat × (Nat → Int32)} {d : Nat} (h : MH) (oc om : Option Nat) (n r p q : Int32) : ∃ v : Int32, Tc rod (d + 2) 165 [.inr (.inr (.inl oc)), .inl n, .inl r, .inl p, .inl q] h (some (.inl v)) h ∧ Tc rod (d + 2) 273 [.inr (.inr (.inl om)), .inl n, .inl r, .inl p, .inl q] h (some (.inl v)) h := by
  by_cases hV : ((0 : Int32) ≤ n ∧ n ≤ 999) ∧ ((0 : Int32) ≤ r ∧ r ≤ 50) ∧ ((0 : Int32) ≤ p ∧ p ≤ 99)
  · obtain ⟨hn, hr, hp⟩ := hV
    have hn0 := Int32.le_iff_toInt_le.mp hn.1
    have hn1 := Int32.le_iff_toInt_le.mp hn.2
    have hr0 := Int32.le_iff_toInt_le.mp hr.1
    have hr1 := Int32.le_iff_toInt_le.mp hr.2
    have hp0 := Int32.le_iff_toInt_le.mp hp.1
    have hp1 := Int32.le_iff_toInt_le.mp hp.2
    obtain ⟨v, hC, hM⟩ := loan_loop (rod := rod) (d := d) h r p q hr0 hr1 hp0 hp1 99 n 0 0 (some (.inr (.inr (.inl oc)))) (some (.inl n)) none none (some (.inr (.inr (.inl om)))) (some (.inl n)) none none (by omega) rfl hn0 hn1
    refine ⟨v, e_Main_loan ?_, e_Model_loan ?_⟩
    · exact b_Main_loan_0 (fun c => absurd hn.1 (Int32.not_le.mpr (of_decide_eq_true c))) (fun _ => b_Main_loan_4 (fun c => absurd hn.2 (Int32.not_le.mpr (of_decide_eq_true c))) (fun _ => b_Main_loan_11 (fun c => absurd hr.1 (Int32.not_le.mpr (of_decide_eq_true c))) (fun _ => b_Main_loan_15 (fun c => absurd hr.2 (Int32.not_le.mpr (of_decide_eq_true c))) (fun _ => b_Main_loan_21 (fun c => absurd hp.1 (Int32.not_le.mpr (of_decide_eq_true c))) (fun _ => b_Main_loan_25 (fun _ => b_Main_loan_33 rfl hC) (fun c => absurd hp.2 (of_decide_eq_false c)))))))
    · exact b_Model_loan_0 (s_Model_isIn _ _ _ _) (b_Model_loan_8 (fun c => absurd hn (bI_no c)) (fun _ => b_Model_loan_11 (s_Model_isIn _ _ _ _) (b_Model_loan_18 (fun c => absurd hr (bI_no c)) (fun _ => b_Model_loan_21 (s_Model_isIn _ _ _ _) (b_Model_loan_28 (fun _ => b_Model_loan_33 rfl hM) (fun c => absurd hp (bN_no c)))))))
  · refine ⟨-1, e_Main_loan ?_, e_Model_loan ?_⟩
    · exact b_Main_loan_0 (fun _ => b_Main_loan_31) (fun c0 => b_Main_loan_4 (fun _ => b_Main_loan_31) (fun c1 => b_Main_loan_11 (fun _ => b_Main_loan_31) (fun c2 => b_Main_loan_15 (fun _ => b_Main_loan_31) (fun c3 => b_Main_loan_21 (fun _ => b_Main_loan_31) (fun c4 => b_Main_loan_25 (fun c5 => absurd ⟨⟨Int32.not_lt.mp (of_decide_eq_false c0), Int32.not_lt.mp (of_decide_eq_false c1)⟩, ⟨Int32.not_lt.mp (of_decide_eq_false c2), Int32.not_lt.mp (of_decide_eq_false c3)⟩, Int32.not_lt.mp (of_decide_eq_false c4), of_decide_eq_true c5⟩ hV) (fun _ => b_Main_loan_31))))))
    · exact b_Model_loan_0 (s_Model_isIn _ _ _ _) (b_Model_loan_8 (fun _ => b_Model_loan_31) (fun c0 => b_Model_loan_11 (s_Model_isIn _ _ _ _) (b_Model_loan_18 (fun _ => b_Model_loan_31) (fun c1 => b_Model_loan_21 (s_Model_isIn _ _ _ _) (b_Model_loan_28 (fun c2 => absurd ⟨bI_yes c0, bI_yes c1, bN_yes c2⟩ hV) (fun _ => b_Model_loan_31))))))
