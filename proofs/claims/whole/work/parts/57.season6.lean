/-! SEASONS: the reference shows -/
section M57
variable {rod : Nat → Nat × (Nat → Int32)} {d : Nat} {h : MH} {a l n k : Nat} {S : SSt}
theorem r_now (Q : SimM h S n) (M : MLand h a l) (L : Lay h.2) (hn : (h.1 a 4).toInt = (n : Int)) (n8 : n ≤ 8) (w : Int32) (hw : 0 ≤ w.toInt) : Tc rod (d + 3) 241 [.inr (.inr (.inl (some 84))), .inl w] h (some (.inl (showV n S w))) h := by
  have lt := w.toInt_lt
  have dr := dv_r (x := w) (k := 10) (n := 10) rfl (by omega) hw
  apply Wc.tc
  refine n_Model_nowOf ?_
  refine w_Model_nowOf_0 (fun kc0 => ?_) (fun kc0 => ?_) (fun kc0 => ?_) (fun kc0 => ?_) (fun kc0 => ?_) (fun kc0 => ?_) (fun kc0 => ?_) (fun kc0_0 kc0_1 kc0_2 kc0_3 kc0_4 kc0_5 kc0_6 => ?_)
  · (try simp only [hn] at kc0); (try simp only [dr] at kc0)
    refine w_Model_nowOf_44 L ?_
    exact ⟨by first | (rw [showV, if_pos (by omega), n_eq (x := w) (show w.toInt = ((0 : Nat) : Int) from kc0), ← Q.1 0 (by omega)]; done) | (rw [showV, if_pos (by omega), n_eq (x := w) (show w.toInt = ((1 : Nat) : Int) from kc0), ← Q.1 1 (by omega)]; done) | (rw [showV, if_pos (by omega), n_eq (x := w) (show w.toInt = ((2 : Nat) : Int) from kc0), ← Q.1 2 (by omega)]; done) | (rw [showV, if_pos (by omega), n_eq (x := w) (show w.toInt = ((3 : Nat) : Int) from kc0), ← Q.1 3 (by omega)]; done) | (rw [showV, if_pos (by omega), n_eq (x := w) (show w.toInt = ((4 : Nat) : Int) from kc0), ← Q.1 4 (by omega)]; done) | (rw [showV, if_pos (by omega), n_eq (x := w) (show w.toInt = ((5 : Nat) : Int) from kc0), ← Q.1 5 (by omega)]; done) | (rw [showV, if_pos (by omega), n_eq (x := w) (show w.toInt = ((6 : Nat) : Int) from kc0), ← Q.1 6 (by omega)]; done), rfl⟩
  · (try simp only [hn] at kc0); (try simp only [dr] at kc0)
    refine w_Model_nowOf_49 L ?_
    exact ⟨by first | (rw [showV, if_pos (by omega), n_eq (x := w) (show w.toInt = ((0 : Nat) : Int) from kc0), ← Q.1 0 (by omega)]; done) | (rw [showV, if_pos (by omega), n_eq (x := w) (show w.toInt = ((1 : Nat) : Int) from kc0), ← Q.1 1 (by omega)]; done) | (rw [showV, if_pos (by omega), n_eq (x := w) (show w.toInt = ((2 : Nat) : Int) from kc0), ← Q.1 2 (by omega)]; done) | (rw [showV, if_pos (by omega), n_eq (x := w) (show w.toInt = ((3 : Nat) : Int) from kc0), ← Q.1 3 (by omega)]; done) | (rw [showV, if_pos (by omega), n_eq (x := w) (show w.toInt = ((4 : Nat) : Int) from kc0), ← Q.1 4 (by omega)]; done) | (rw [showV, if_pos (by omega), n_eq (x := w) (show w.toInt = ((5 : Nat) : Int) from kc0), ← Q.1 5 (by omega)]; done) | (rw [showV, if_pos (by omega), n_eq (x := w) (show w.toInt = ((6 : Nat) : Int) from kc0), ← Q.1 6 (by omega)]; done), rfl⟩
  · (try simp only [hn] at kc0); (try simp only [dr] at kc0)
    refine w_Model_nowOf_54 L ?_
    exact ⟨by first | (rw [showV, if_pos (by omega), n_eq (x := w) (show w.toInt = ((0 : Nat) : Int) from kc0), ← Q.1 0 (by omega)]; done) | (rw [showV, if_pos (by omega), n_eq (x := w) (show w.toInt = ((1 : Nat) : Int) from kc0), ← Q.1 1 (by omega)]; done) | (rw [showV, if_pos (by omega), n_eq (x := w) (show w.toInt = ((2 : Nat) : Int) from kc0), ← Q.1 2 (by omega)]; done) | (rw [showV, if_pos (by omega), n_eq (x := w) (show w.toInt = ((3 : Nat) : Int) from kc0), ← Q.1 3 (by omega)]; done) | (rw [showV, if_pos (by omega), n_eq (x := w) (show w.toInt = ((4 : Nat) : Int) from kc0), ← Q.1 4 (by omega)]; done) | (rw [showV, if_pos (by omega), n_eq (x := w) (show w.toInt = ((5 : Nat) : Int) from kc0), ← Q.1 5 (by omega)]; done) | (rw [showV, if_pos (by omega), n_eq (x := w) (show w.toInt = ((6 : Nat) : Int) from kc0), ← Q.1 6 (by omega)]; done), rfl⟩
  · (try simp only [hn] at kc0); (try simp only [dr] at kc0)
    refine w_Model_nowOf_59 L ?_
    exact ⟨by first | (rw [showV, if_pos (by omega), n_eq (x := w) (show w.toInt = ((0 : Nat) : Int) from kc0), ← Q.1 0 (by omega)]; done) | (rw [showV, if_pos (by omega), n_eq (x := w) (show w.toInt = ((1 : Nat) : Int) from kc0), ← Q.1 1 (by omega)]; done) | (rw [showV, if_pos (by omega), n_eq (x := w) (show w.toInt = ((2 : Nat) : Int) from kc0), ← Q.1 2 (by omega)]; done) | (rw [showV, if_pos (by omega), n_eq (x := w) (show w.toInt = ((3 : Nat) : Int) from kc0), ← Q.1 3 (by omega)]; done) | (rw [showV, if_pos (by omega), n_eq (x := w) (show w.toInt = ((4 : Nat) : Int) from kc0), ← Q.1 4 (by omega)]; done) | (rw [showV, if_pos (by omega), n_eq (x := w) (show w.toInt = ((5 : Nat) : Int) from kc0), ← Q.1 5 (by omega)]; done) | (rw [showV, if_pos (by omega), n_eq (x := w) (show w.toInt = ((6 : Nat) : Int) from kc0), ← Q.1 6 (by omega)]; done), rfl⟩
  · (try simp only [hn] at kc0); (try simp only [dr] at kc0)
    refine w_Model_nowOf_64 L ?_
    exact ⟨by first | (rw [showV, if_pos (by omega), n_eq (x := w) (show w.toInt = ((0 : Nat) : Int) from kc0), ← Q.1 0 (by omega)]; done) | (rw [showV, if_pos (by omega), n_eq (x := w) (show w.toInt = ((1 : Nat) : Int) from kc0), ← Q.1 1 (by omega)]; done) | (rw [showV, if_pos (by omega), n_eq (x := w) (show w.toInt = ((2 : Nat) : Int) from kc0), ← Q.1 2 (by omega)]; done) | (rw [showV, if_pos (by omega), n_eq (x := w) (show w.toInt = ((3 : Nat) : Int) from kc0), ← Q.1 3 (by omega)]; done) | (rw [showV, if_pos (by omega), n_eq (x := w) (show w.toInt = ((4 : Nat) : Int) from kc0), ← Q.1 4 (by omega)]; done) | (rw [showV, if_pos (by omega), n_eq (x := w) (show w.toInt = ((5 : Nat) : Int) from kc0), ← Q.1 5 (by omega)]; done) | (rw [showV, if_pos (by omega), n_eq (x := w) (show w.toInt = ((6 : Nat) : Int) from kc0), ← Q.1 6 (by omega)]; done), rfl⟩
  · (try simp only [hn] at kc0); (try simp only [dr] at kc0)
    refine w_Model_nowOf_69 L ?_
    exact ⟨by first | (rw [showV, if_pos (by omega), n_eq (x := w) (show w.toInt = ((0 : Nat) : Int) from kc0), ← Q.1 0 (by omega)]; done) | (rw [showV, if_pos (by omega), n_eq (x := w) (show w.toInt = ((1 : Nat) : Int) from kc0), ← Q.1 1 (by omega)]; done) | (rw [showV, if_pos (by omega), n_eq (x := w) (show w.toInt = ((2 : Nat) : Int) from kc0), ← Q.1 2 (by omega)]; done) | (rw [showV, if_pos (by omega), n_eq (x := w) (show w.toInt = ((3 : Nat) : Int) from kc0), ← Q.1 3 (by omega)]; done) | (rw [showV, if_pos (by omega), n_eq (x := w) (show w.toInt = ((4 : Nat) : Int) from kc0), ← Q.1 4 (by omega)]; done) | (rw [showV, if_pos (by omega), n_eq (x := w) (show w.toInt = ((5 : Nat) : Int) from kc0), ← Q.1 5 (by omega)]; done) | (rw [showV, if_pos (by omega), n_eq (x := w) (show w.toInt = ((6 : Nat) : Int) from kc0), ← Q.1 6 (by omega)]; done), rfl⟩
  · (try simp only [hn] at kc0); (try simp only [dr] at kc0)
    refine w_Model_nowOf_74 L ?_
    exact ⟨by first | (rw [showV, if_pos (by omega), n_eq (x := w) (show w.toInt = ((0 : Nat) : Int) from kc0), ← Q.1 0 (by omega)]; done) | (rw [showV, if_pos (by omega), n_eq (x := w) (show w.toInt = ((1 : Nat) : Int) from kc0), ← Q.1 1 (by omega)]; done) | (rw [showV, if_pos (by omega), n_eq (x := w) (show w.toInt = ((2 : Nat) : Int) from kc0), ← Q.1 2 (by omega)]; done) | (rw [showV, if_pos (by omega), n_eq (x := w) (show w.toInt = ((3 : Nat) : Int) from kc0), ← Q.1 3 (by omega)]; done) | (rw [showV, if_pos (by omega), n_eq (x := w) (show w.toInt = ((4 : Nat) : Int) from kc0), ← Q.1 4 (by omega)]; done) | (rw [showV, if_pos (by omega), n_eq (x := w) (show w.toInt = ((5 : Nat) : Int) from kc0), ← Q.1 5 (by omega)]; done) | (rw [showV, if_pos (by omega), n_eq (x := w) (show w.toInt = ((6 : Nat) : Int) from kc0), ← Q.1 6 (by omega)]; done), rfl⟩
  · (try simp only [hn] at kc0_0 kc0_1 kc0_2 kc0_3 kc0_4 kc0_5 kc0_6); (try simp only [dr] at kc0_0 kc0_1 kc0_2 kc0_3 kc0_4 kc0_5 kc0_6)
    refine w_Model_nowOf_79 (Tc.wc (s_isIn _ _ _ _)) (Is.k ?_)
    refine w_Model_nowOf_92 (fun kc92 => ?_) (fun kc92 => ?_)
    · (try simp only [ite01t, ite01v, Int32.reduceToInt, t_m1, t_m2, t_m1000, Decidable.not_not] at kc92); (try simp only [hn] at kc92); (try simp only [dr] at kc92)
      refine w_Model_nowOf_103 ?_
      exact ⟨by rw [showV, if_neg (by omega), if_neg (by omega)], rfl⟩
    · (try simp only [ite01t, ite01v, Int32.reduceToInt, t_m1, t_m2, t_m1000, Decidable.not_not] at kc92); (try simp only [hn] at kc92); (try simp only [dr] at kc92)
      refine w_Model_nowOf_95 L (Tc.wc (s_misBuyer M L _)) (Is.k ?_)
      refine w_Model_nowOf_100 (fun kc100 => ?_) (fun kc100 => ?_)
      · (try simp only [ite01t, ite01v, Int32.reduceToInt, t_m1, t_m2, t_m1000, Decidable.not_not] at kc100); (try simp only [hn] at kc100); (try simp only [dr] at kc100)
        refine w_Model_nowOf_107 (fun kc107 => ?_) (fun kc107 => ?_)
        · (try simp only [ite01t, ite01v, Int32.reduceToInt, t_m1, t_m2, t_m1000, Decidable.not_not] at kc107); (try simp only [hn] at kc107); (try simp only [dr] at kc107)
          refine w_Model_nowOf_122 (fun kc122 => ?_) (fun kc122 => ?_)
          · (try simp only [ite01t, ite01v, Int32.reduceToInt, t_m1, t_m2, t_m1000, Decidable.not_not] at kc122); (try simp only [hn] at kc122); (try simp only [dr] at kc122)
            refine w_Model_nowOf_137 (fun kc137 => ?_) (fun kc137 => ?_)
            · (try simp only [ite01t, ite01v, Int32.reduceToInt, t_m1, t_m2, t_m1000, Decidable.not_not] at kc137); (try simp only [hn] at kc137); (try simp only [dr] at kc137)
              refine w_Model_nowOf_152 L (by rw [dr]; omega) ?_
              refine w_Model_nowOf_158 ?_
              refine ⟨?_, rfl⟩
              have dq : w.toInt / 10 = 4 := by omega
              rw [showV, if_neg (by omega), if_pos (by omega), clamp_eq dr, dq]
              exact congrArg (fun z => some (Sum.inl z)) (Q.2 3 (w.toInt % 10).toNat (by omega) (by omega))
            · (try simp only [ite01t, ite01v, Int32.reduceToInt, t_m1, t_m2, t_m1000, Decidable.not_not] at kc137); (try simp only [hn] at kc137); (try simp only [dr] at kc137)
              refine w_Model_nowOf_143 L (by rw [dr]; omega) ?_
              refine w_Model_nowOf_158 ?_
              refine ⟨?_, rfl⟩
              have dq : w.toInt / 10 = 3 := by omega
              rw [showV, if_neg (by omega), if_pos (by omega), clamp_eq dr, dq]
              exact congrArg (fun z => some (Sum.inl z)) (Q.2 2 (w.toInt % 10).toNat (by omega) (by omega))
          · (try simp only [ite01t, ite01v, Int32.reduceToInt, t_m1, t_m2, t_m1000, Decidable.not_not] at kc122); (try simp only [hn] at kc122); (try simp only [dr] at kc122)
            refine w_Model_nowOf_128 L (by rw [dr]; omega) ?_
            refine w_Model_nowOf_158 ?_
            refine ⟨?_, rfl⟩
            have dq : w.toInt / 10 = 2 := by omega
            rw [showV, if_neg (by omega), if_pos (by omega), clamp_eq dr, dq]
            exact congrArg (fun z => some (Sum.inl z)) (Q.2 1 (w.toInt % 10).toNat (by omega) (by omega))
        · (try simp only [ite01t, ite01v, Int32.reduceToInt, t_m1, t_m2, t_m1000, Decidable.not_not] at kc107); (try simp only [hn] at kc107); (try simp only [dr] at kc107)
          refine w_Model_nowOf_113 L (by rw [dr]; omega) ?_
          refine w_Model_nowOf_158 ?_
          refine ⟨?_, rfl⟩
          have dq : w.toInt / 10 = 1 := by omega
          rw [showV, if_neg (by omega), if_pos (by omega), clamp_eq dr, dq]
          exact congrArg (fun z => some (Sum.inl z)) (Q.2 0 (w.toInt % 10).toNat (by omega) (by omega))
      · (try simp only [ite01t, ite01v, Int32.reduceToInt, t_m1, t_m2, t_m1000, Decidable.not_not] at kc100); (try simp only [hn] at kc100); (try simp only [dr] at kc100)
        refine w_Model_nowOf_103 ?_
        exact ⟨by rw [showV, if_neg (by omega), if_neg (by omega)], rfl⟩
end M57
