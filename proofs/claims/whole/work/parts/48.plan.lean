/-! OPERATIONS plan, within: the reference's side -/
def PRow (h : MH) (j : Nat) : Prop := ∀ m, m ≤ j → ∀ t, t ≤ 9 → h.1 96 (10 * m + t) = Int32.ofNat (planF m t)
def planV (x y k : Int32) : Int32 := if (0 ≤ x.toInt ∧ x.toInt ≤ 9) ∧ (0 ≤ y.toInt ∧ y.toInt ≤ 20) ∧ -1 ≤ k.toInt ∧ k.toInt < y.toInt then (if k.toInt = -1 then Int32.ofNat (planF y.toNatClampNeg x.toNatClampNeg) else Int32.ofNat (fstF (y.toNatClampNeg - k.toNatClampNeg) (walkT y.toNatClampNeg x.toNatClampNeg k.toNatClampNeg))) else -1
section M48
variable {rod : Nat → Nat × (Nat → Int32)} {d : Nat} {h : MH} {a l : Nat}
theorem s_planned (L : Lay h.2) (x y z : Int32) (n t e : Nat) (hx : x.toInt = (n : Int)) (hy : y.toInt = (t : Int)) (hz : z.toInt = (e : Int)) (h1 : 1 ≤ n) (h20 : n ≤ 20) (ht : t ≤ 9) (he : e ≤ 2) (P : PRow h (n - 1)) : Tc rod (d + 2) 269 [.inr (.inr (.inl (some 84))), .inl x, .inl y, .inl z] h (some (.inl (Int32.ofNat (byF e n t)))) h := by
  have a9 := tA_9 (e := e) ht
  have pb := planF_bd (n - 1) (tA e t) a9
  have bb := byF_bd (e := e) ht h20
  have ei := (n_add (n_sub (n_mul (show (10 : Int32).toInt = ((10 : Nat) : Int) from rfl) hx (by omega)) (show (10 : Int32).toInt = ((10 : Nat) : Int) from rfl) (by omega) (by omega)) (t_nat (n := tA e t) (by omega)) (by omega))
  have b27 : brN e t ≤ 27 := by
    unfold brN
    split
    · omega
    · split <;> omega
  have pr := P (n - 1) (by omega) (tA e t) a9
  apply Wc.tc
  refine n_Model_planned ?_
  refine w_Model_planned_0 (Tc.wc (s_mbrings y z e t hy hz he ht _)) (Is.k ?_)
  refine w_Model_planned_5 L (Tc.wc (s_trustBy y z e t hy hz he ht _)) (Is.k ?_)
  refine w_Model_planned_21 (L.1 _ _ rfl) (by rw [ei]; omega) ?_
  refine ⟨congrArg (fun z => some (Sum.inl z)) (i32_of ?_), rfl⟩
  rw [n_eq ei, show 10 * n - 10 + tA e t = 10 * (n - 1) + tA e t by omega, pr, t_nat (by omega), i32_add (by rw [t_nat (by omega), t_nat (by omega)]; omega) (by rw [t_nat (by omega), t_nat (by omega)]; omega), t_nat (by omega), t_nat (by omega), byF]
  omega
theorem PRow.keep {h' : MH} {j : Nat} (P : PRow h j) (e : ∀ i, i < 10 * j + 10 → h'.1 96 i = h.1 96 i) : PRow h' j := fun m hm t ht => by rw [e _ (by omega)]; exact P m hm t ht
theorem mm_plan (I : INV h) (x y k : Int32) : Wc rod (d + 3) 268 [.inr (.inr (.inl (some 84))), .inl x, .inl y, .inl k] h (Ans (planV x y k) h) := by
  have L := I.lay
  refine n_Model_plan ?_
  refine w_Model_plan_0 (Tc.wc (s_isIn _ _ _ _)) (Is.k ?_)
  refine w_Model_plan_7 (fun kc7 => ?_) (fun kc7 => ?_)
  · (try simp only [ite01t, ite01v, Int32.reduceToInt, t_m1, t_m2, t_m1000, Decidable.not_not] at kc7); (try simp only [y1] at kc7)
    refine w_Model_plan_31 ?_
    exact ⟨by rw [planV, if_neg (by omega)], Keep.rfl⟩
  · (try simp only [ite01t, ite01v, Int32.reduceToInt, t_m1, t_m2, t_m1000, Decidable.not_not] at kc7); (try simp only [y1] at kc7)
    refine w_Model_plan_10 (Tc.wc (s_isIn _ _ _ _)) (Is.k ?_)
    refine w_Model_plan_17 (fun kc17 => ?_) (fun kc17 => ?_)
    · (try simp only [ite01t, ite01v, Int32.reduceToInt, t_m1, t_m2, t_m1000, Decidable.not_not] at kc17); (try simp only [y1] at kc17)
      refine w_Model_plan_31 ?_
      exact ⟨by rw [planV, if_neg (by omega)], Keep.rfl⟩
    · (try simp only [ite01t, ite01v, Int32.reduceToInt, t_m1, t_m2, t_m1000, Decidable.not_not] at kc17); (try simp only [y1] at kc17)
      have y1 : (y - 1).toInt = y.toInt - 1 := i32_sub (by show _ ≤ _ - (1 : Int); omega) (by show _ - (1 : Int) ≤ _; omega)
      refine w_Model_plan_20 (Tc.wc (s_isIn _ _ _ _)) (Is.k ?_)
      refine w_Model_plan_28 (fun kc28 => ?_) (fun kc28 => ?_)
      · (try simp only [ite01t, ite01v, Int32.reduceToInt, t_m1, t_m2, t_m1000, Decidable.not_not] at kc28); (try simp only [y1] at kc28)
        refine w_Model_plan_33 rfl ?_
        have hv : planV x y k = if k.toInt = -1 then Int32.ofNat (planF y.toNatClampNeg x.toNatClampNeg) else Int32.ofNat (fstF (y.toNatClampNeg - k.toNatClampNeg) (walkT y.toNatClampNeg x.toNatClampNeg k.toNatClampNeg)) := if_pos (by omega)
        have hx := n_of (x := x) (by omega)
        have hn := n_of (x := y) (by omega)
        generalize y.toNatClampNeg = n at hn hv
        generalize x.toNatClampNeg = t at hx hv
        have ht : t ≤ 9 := by omega
        have h20 : n ≤ 20 := by omega
        refine Wb.uph 10 (fun j L' h' => ∃ (z : Int32) (w u v : Option MV), L' = [some (.inr (.inr (.inl (some 84)))), some (.inl x), some (.inl y), some (.inl k), some (.inl z), w, u, v] ∧ z.toInt = (j : Int) ∧ Keep h h' ∧ ∀ t, t < j → h'.1 96 t = 0) ?_ (Nat.zero_le _) ⟨0, _, _, _, rfl, rfl, Keep.rfl, fun t q => absurd q (by omega)⟩
        rintro j _ ga hj ⟨z, w, u, v, rfl, hz, KA, QA⟩ ih
        have LA := (I.keep KA).lay
        refine w_Model_plan_36 (fun kc36 => ?_) (fun kc36 => ?_)
        · try simp only [ite01t, ite01v, Int32.reduceToInt, t_m1, t_m2, t_m1000, Decidable.not_not] at kc36
          refine w_Model_plan_57 rfl ?_
          have hj : j = 10 := by omega
          subst hj
          clear ih
          refine Wb.uph n (fun j L' h' => ∃ (z : Int32) (w u v : Option MV), L' = [some (.inr (.inr (.inl (some 84)))), some (.inl x), some (.inl y), some (.inl k), some (.inl z), w, u, v] ∧ z.toInt = ((j + 1 : Nat) : Int) ∧ Keep h h' ∧ PRow h' j) ?_ (Nat.zero_le _) ⟨1, _, _, _, rfl, rfl, KA, fun m hm t ht => by rw [show m = 0 by omega, show 10 * 0 + t = t by omega]; exact QA t (by omega)⟩
          rintro j _ h57 hj ⟨z, w, u, v, rfl, hz, KB, RB⟩ ih
          have LB := (I.keep KB).lay
          refine w_Model_plan_60 (fun kc60 => ?_) (fun kc60 => ?_)
          · try simp only [ite01t, ite01v, Int32.reduceToInt, t_m1, t_m2, t_m1000, Decidable.not_not] at kc60
            refine w_Model_plan_170 (fun kc170 => ?_) (fun kc170 => ?_)
            · try simp only [ite01t, ite01v, Int32.reduceToInt, t_m1, t_m2, t_m1000, Decidable.not_not] at kc170
              refine w_Model_plan_187 rfl ?_
              have L57 := LB
              have K57 := KB
              have R57 : PRow h57 n := by rw [show n = j by omega]; exact RB
              clear ih
              have ek := n_of (x := k) (by omega)
              generalize k.toNatClampNeg = kk at ek hv
              refine Wb.upc (kk + 1) (fun j L' => ∃ (m e s : Int32) (u : Option MV), L' = [some (.inr (.inr (.inl (some 84)))), some (.inl x), some (.inl y), some (.inl k), some (.inl s), some (.inl e), some (.inl m), u] ∧ m.toInt = (j : Int) ∧ s.toInt = ((walkT n t j : Nat) : Int) ∧ (∀ i, j = i + 1 → e = Int32.ofNat (fstF (n - i) (walkT n t i)))) ?_ (Nat.zero_le _) ⟨0, 0, x, _, rfl, rfl, hx, fun i q => absurd q (by omega)⟩
              rintro j _ hj ⟨m, e0, s, u, rfl, hm, hs, he⟩ ih
              have w9 := walkT_9 (n := n) ht j
              refine w_Model_plan_196 (fun kc196 => ?_) (fun kc196 => ?_)
              · try simp only [ite01t, ite01v, Int32.reduceToInt, t_m1, t_m2, t_m1000, Decidable.not_not] at kc196
                refine w_Model_plan_258 ?_
                exact ⟨by rw [hv, if_neg (by omega), he kk (by omega)], K57⟩
              · try simp only [ite01t, ite01v, Int32.reduceToInt, t_m1, t_m2, t_m1000, Decidable.not_not] at kc196
                have nj := n_sub hn hm (by omega) (by omega)
                refine w_Model_plan_202 rfl ?_
                refine Wb.upc 2 (fun e L' => ∃ (w : Int32), L' = [some (.inr (.inr (.inl (some 84)))), some (.inl x), some (.inl y), some (.inl k), some (.inl s), some (.inl w), some (.inl m), some (.inl (y - m))] ∧ w.toInt = (e : Int) ∧ (1 ≤ e → ¬ byF 0 (n - j) (walkT n t j) = planF (n - j) (walkT n t j)) ∧ (2 ≤ e → ¬ byF 1 (n - j) (walkT n t j) = planF (n - j) (walkT n t j))) ?_ (Nat.zero_le _) ⟨0, rfl, rfl, fun q => absurd q (by omega), fun q => absurd q (by omega)⟩
                rintro e _ hle ⟨w, rfl, hw, q0, q1⟩ ih2
                have bb := byF_bd (e := e) (n := n - j) w9 (by omega)
                have pb := planF_bd (n - j) (walkT n t j) w9
                refine w_Model_plan_211 L57 (Tc.wc (s_planned L57 _ s w (n - j) (walkT n t j) e nj hs hw (by omega) (by omega) w9 hle (fun m hm t ht => R57 m (by omega) t ht))) (Is.k ?_)
                have ei := (n_add (n_mul (show (10 : Int32).toInt = ((10 : Nat) : Int) from rfl) nj (by omega)) hs (by omega))
                have vv : h57.1 96 ((10 : Int32) * (y - m) + s).toNatClampNeg = Int32.ofNat (planF (n - j) (walkT n t j)) := by rw [n_eq ei]; exact R57 (n - j) (by omega) _ w9
                refine w_Model_plan_221 L57 (by rw [ei]; omega) (fun kc221 => ?_) (fun kc221 => ?_)
                · try simp only [ite01t, ite01v, Int32.reduceToInt, t_m1, t_m2, t_m1000, Decidable.not_not] at kc221
                  rw [t_nat (by omega), vv, t_nat (by omega)] at kc221
                  have fe : fstF (n - j) (walkT n t j) = e := by
                    unfold fstF
                    rcases (show e = 0 ∨ e = 1 ∨ e = 2 by omega) with rfl | rfl | rfl
                    · rw [if_pos (by omega)]
                    · rw [if_neg (q0 (by omega)), if_pos (by omega)]
                    · rw [if_neg (q0 (by omega)), if_neg (q1 (by omega))]
                  refine w_Model_plan_243 (Tc.wc (s_trustBy s w e (walkT n t j) hs hw hle w9 _)) (Is.k ?_)
                  refine w_Model_plan_250 rfl rfl ?_
                  refine ih (by omega) _ ⟨_, _, _, _, rfl, t_succ hm (by omega), ?_, fun i q => ?_⟩
                  · rw [t_nat (by have := tA_9 (e := e) w9; omega), walkT, fe]
                  · rw [show i = j by omega, fe]; exact ofN hw (by omega)
                · try simp only [ite01t, ite01v, Int32.reduceToInt, t_m1, t_m2, t_m1000, Decidable.not_not] at kc221
                  refine w_Model_plan_237 rfl ?_
                  rw [t_nat (by omega), vv, t_nat (by omega)] at kc221
                  refine ih2 (by have := fstF_2 (n := n - j) (t := walkT n t j) (by omega) ; rcases (show e = 0 ∨ e = 1 ∨ e = 2 by omega) with rfl | rfl | rfl; omega; omega; exfalso; have := this (q0 (by omega)) (q1 (by omega)); omega) _ ⟨_, rfl, t_succ hw (by omega), fun z1 => ?_, fun z2 => ?_⟩
                  · by_cases z : e = 0
                    · subst z; omega
                    · exact q0 (by omega)
                  · by_cases z : e = 1
                    · subst z; omega
                    · exact q1 (by omega)
            · try simp only [ite01t, ite01v, Int32.reduceToInt, t_m1, t_m2, t_m1000, Decidable.not_not] at kc170
              have ei := (n_add (n_mul (show (10 : Int32).toInt = ((10 : Nat) : Int) from rfl) hn (by omega)) hx (by omega))
              have R57 : PRow h57 n := by rw [show n = j by omega]; exact RB
              refine w_Model_plan_175 LB (by rw [ei]; omega) ?_
              exact ⟨by rw [hv, if_pos (by omega), n_eq ei, R57 n (by omega) t ht], KB⟩
          · try simp only [ite01t, ite01v, Int32.reduceToInt, t_m1, t_m2, t_m1000, Decidable.not_not] at kc60
            refine w_Model_plan_66 rfl ?_
            refine Wb.uph 10 (fun i L' h' => ∃ (w : Int32) (u : Option MV), L' = [some (.inr (.inr (.inl (some 84)))), some (.inl x), some (.inl y), some (.inl k), some (.inl z), some (.inl w), u, v] ∧ w.toInt = (i : Int) ∧ Keep h h' ∧ PRow h' j ∧ ∀ t, t < i → h'.1 96 (10 * (j + 1) + t) = Int32.ofNat (planF (j + 1) t)) ?_ (Nat.zero_le _) ⟨0, _, rfl, rfl, KB, RB, fun t q => absurd q (by omega)⟩
            rintro i _ hc hi ⟨w, u, rfl, hw, KC, RC, QC⟩ ih2
            have LC := (I.keep KC).lay
            have b0 := byF_bd (e := 0) (n := j + 1) (t := i)
            have b1 := byF_bd (e := 1) (n := j + 1) (t := i)
            have b2 := byF_bd (e := 2) (n := j + 1) (t := i)
            have pm := planF_by (n := j + 1) (t := i) (by omega)
            refine w_Model_plan_69 (fun kc69 => ?_) (fun kc69 => ?_)
            · try simp only [ite01t, ite01v, Int32.reduceToInt, t_m1, t_m2, t_m1000, Decidable.not_not] at kc69
              refine w_Model_plan_164 rfl ?_
              refine ih (by omega) _ _ ⟨_, _, _, _, rfl, t_succ hz (by omega), KC, fun m hm t ht => ?_⟩
              by_cases c : m = j + 1
              · subst c; exact QC t (by omega)
              · exact RC m (by omega) t ht
            · try simp only [ite01t, ite01v, Int32.reduceToInt, t_m1, t_m2, t_m1000, Decidable.not_not] at kc69
              refine w_Model_plan_76 LC (Tc.wc (s_planned LC z w _ (j + 1) i 0 hz hw rfl (by omega) (by omega) (by omega) (by omega) (fun m hm t ht => RC m (by omega) t ht))) (Is.k ?_)
              refine w_Model_plan_85 LC (Tc.wc (s_planned LC z w _ (j + 1) i 1 hz hw rfl (by omega) (by omega) (by omega) (by omega) (fun m hm t ht => RC m (by omega) t ht))) (Is.k ?_)
              refine w_Model_plan_96 (fun kc96 => ?_) (fun kc96 => ?_)
              · try simp only [ite01t, ite01v, Int32.reduceToInt, t_m1, t_m2, t_m1000, Decidable.not_not] at kc96
                refine w_Model_plan_113 ?_
                refine w_Model_plan_115 LC (Tc.wc (s_planned LC z w _ (j + 1) i 2 hz hw rfl (by omega) (by omega) (by omega) (by omega) (fun m hm t ht => RC m (by omega) t ht))) (Is.k ?_)
                refine w_Model_plan_138 (fun kc138 => ?_) (fun kc138 => ?_)
                · try simp only [ite01t, ite01v, Int32.reduceToInt, t_m1, t_m2, t_m1000, Decidable.not_not] at kc138
                  refine w_Model_plan_155 ?_
                  have ei := (n_add (n_mul (show (10 : Int32).toInt = ((10 : Nat) : Int) from rfl) hz (by omega)) hw (by omega))
                  refine w_Model_plan_157 (LC.1 _ _ rfl) (by rw [ei]; omega) ?_
                  refine w_Model_plan_158 rfl ?_
                  have b0 := b0 (by omega) (by omega)
                  have b1 := b1 (by omega) (by omega)
                  have b2 := b2 (by omega) (by omega)
                  try rw [t_nat (by omega), t_nat (by omega)] at kc96
                  try rw [t_nat (by omega), t_nat (by omega)] at kc138
                  rw [n_eq ei]
                  refine ih2 (by omega) _ _ ⟨_, _, rfl, t_succ hw (by omega), KC.si (scrI 96 (by omega)), RC.keep (fun i h1 => sI_nj (by omega)), fun t q => ?_⟩
                  by_cases c : t = i
                  · subst c; rw [sI_same]; exact i32_of (by rw [t_nat (by omega), t_nat (by omega)]; omega)
                  · rw [sI_nj (by omega)]; exact QC t (by omega)
                · try simp only [ite01t, ite01v, Int32.reduceToInt, t_m1, t_m2, t_m1000, Decidable.not_not] at kc138
                  refine w_Model_plan_143 LC (Tc.wc (s_planned LC z w _ (j + 1) i 2 hz hw rfl (by omega) (by omega) (by omega) (by omega) (fun m hm t ht => RC m (by omega) t ht))) (Is.k ?_)
                  refine w_Model_plan_152 ?_
                  have ei := (n_add (n_mul (show (10 : Int32).toInt = ((10 : Nat) : Int) from rfl) hz (by omega)) hw (by omega))
                  refine w_Model_plan_157 (LC.1 _ _ rfl) (by rw [ei]; omega) ?_
                  refine w_Model_plan_158 rfl ?_
                  have b0 := b0 (by omega) (by omega)
                  have b1 := b1 (by omega) (by omega)
                  have b2 := b2 (by omega) (by omega)
                  try rw [t_nat (by omega), t_nat (by omega)] at kc96
                  try rw [t_nat (by omega), t_nat (by omega)] at kc138
                  rw [n_eq ei]
                  refine ih2 (by omega) _ _ ⟨_, _, rfl, t_succ hw (by omega), KC.si (scrI 96 (by omega)), RC.keep (fun i h1 => sI_nj (by omega)), fun t q => ?_⟩
                  by_cases c : t = i
                  · subst c; rw [sI_same]; exact i32_of (by rw [t_nat (by omega), t_nat (by omega)]; omega)
                  · rw [sI_nj (by omega)]; exact QC t (by omega)
              · try simp only [ite01t, ite01v, Int32.reduceToInt, t_m1, t_m2, t_m1000, Decidable.not_not] at kc96
                refine w_Model_plan_101 LC (Tc.wc (s_planned LC z w _ (j + 1) i 1 hz hw rfl (by omega) (by omega) (by omega) (by omega) (fun m hm t ht => RC m (by omega) t ht))) (Is.k ?_)
                refine w_Model_plan_110 ?_
                refine w_Model_plan_115 LC (Tc.wc (s_planned LC z w _ (j + 1) i 2 hz hw rfl (by omega) (by omega) (by omega) (by omega) (fun m hm t ht => RC m (by omega) t ht))) (Is.k ?_)
                refine w_Model_plan_138 (fun kc138 => ?_) (fun kc138 => ?_)
                · try simp only [ite01t, ite01v, Int32.reduceToInt, t_m1, t_m2, t_m1000, Decidable.not_not] at kc138
                  refine w_Model_plan_155 ?_
                  have ei := (n_add (n_mul (show (10 : Int32).toInt = ((10 : Nat) : Int) from rfl) hz (by omega)) hw (by omega))
                  refine w_Model_plan_157 (LC.1 _ _ rfl) (by rw [ei]; omega) ?_
                  refine w_Model_plan_158 rfl ?_
                  have b0 := b0 (by omega) (by omega)
                  have b1 := b1 (by omega) (by omega)
                  have b2 := b2 (by omega) (by omega)
                  try rw [t_nat (by omega), t_nat (by omega)] at kc96
                  try rw [t_nat (by omega), t_nat (by omega)] at kc138
                  rw [n_eq ei]
                  refine ih2 (by omega) _ _ ⟨_, _, rfl, t_succ hw (by omega), KC.si (scrI 96 (by omega)), RC.keep (fun i h1 => sI_nj (by omega)), fun t q => ?_⟩
                  by_cases c : t = i
                  · subst c; rw [sI_same]; exact i32_of (by rw [t_nat (by omega), t_nat (by omega)]; omega)
                  · rw [sI_nj (by omega)]; exact QC t (by omega)
                · try simp only [ite01t, ite01v, Int32.reduceToInt, t_m1, t_m2, t_m1000, Decidable.not_not] at kc138
                  refine w_Model_plan_143 LC (Tc.wc (s_planned LC z w _ (j + 1) i 2 hz hw rfl (by omega) (by omega) (by omega) (by omega) (fun m hm t ht => RC m (by omega) t ht))) (Is.k ?_)
                  refine w_Model_plan_152 ?_
                  have ei := (n_add (n_mul (show (10 : Int32).toInt = ((10 : Nat) : Int) from rfl) hz (by omega)) hw (by omega))
                  refine w_Model_plan_157 (LC.1 _ _ rfl) (by rw [ei]; omega) ?_
                  refine w_Model_plan_158 rfl ?_
                  have b0 := b0 (by omega) (by omega)
                  have b1 := b1 (by omega) (by omega)
                  have b2 := b2 (by omega) (by omega)
                  try rw [t_nat (by omega), t_nat (by omega)] at kc96
                  try rw [t_nat (by omega), t_nat (by omega)] at kc138
                  rw [n_eq ei]
                  refine ih2 (by omega) _ _ ⟨_, _, rfl, t_succ hw (by omega), KC.si (scrI 96 (by omega)), RC.keep (fun i h1 => sI_nj (by omega)), fun t q => ?_⟩
                  by_cases c : t = i
                  · subst c; rw [sI_same]; exact i32_of (by rw [t_nat (by omega), t_nat (by omega)]; omega)
                  · rw [sI_nj (by omega)]; exact QC t (by omega)
        · try simp only [ite01t, ite01v, Int32.reduceToInt, t_m1, t_m2, t_m1000, Decidable.not_not] at kc36
          refine w_Model_plan_43 LA (by first | assumption | omega | (refine ⟨?_, ?_⟩ <;> first | assumption | omega)) ?_
          refine w_Model_plan_51 rfl ?_
          rw [n_eq hz]
          refine ih (by omega) _ _ ⟨_, _, _, _, rfl, t_succ hz (by omega), KA.si (scrI 96 (by omega)), fun t q => ?_⟩
          by_cases c : t = j
          · subst c; exact sI_same
          · rw [sI_nj c]; exact QA t (by omega)
      · (try simp only [ite01t, ite01v, Int32.reduceToInt, t_m1, t_m2, t_m1000, Decidable.not_not] at kc28); (try simp only [y1] at kc28)
        refine w_Model_plan_31 ?_
        exact ⟨by rw [planV, if_neg (by omega)], Keep.rfl⟩
theorem op_plan (x y k : Int32) : OpI INV rod 112 268 [x, y, k] := by
  refine OpI.mk fun h hI => ?_
  have L := hI.lay
  refine ⟨planV x y k, ?_, fun h1 I1 K1 => mm_plan I1 x y k⟩
  refine n_Main_plan ?_
  refine w_Main_plan_0 (Tc.wc (s_isTrust _ _)) (Is.k ?_)
  refine w_Main_plan_4 (fun kc4 => ?_) (fun kc4 => ?_)
  · try simp only [ite01t, ite01v, Int32.reduceToInt, t_m1, t_m2, t_m1000, Decidable.not_not] at kc4
    refine w_Main_plan_17 ?_
    exact ⟨by rw [planV, if_neg (by omega)], Keep.rfl⟩
  · try simp only [ite01t, ite01v, Int32.reduceToInt, t_m1, t_m2, t_m1000, Decidable.not_not] at kc4
    refine w_Main_plan_7 (fun kc7 => ?_) (fun kc7 => ?_)
    · try simp only [ite01t, ite01v, Int32.reduceToInt, t_m1, t_m2, t_m1000, Decidable.not_not] at kc7
      refine w_Main_plan_17 ?_
      exact ⟨by rw [planV, if_neg (by omega)], Keep.rfl⟩
    · try simp only [ite01t, ite01v, Int32.reduceToInt, t_m1, t_m2, t_m1000, Decidable.not_not] at kc7
      refine w_Main_plan_11 (fun kc11 => ?_) (fun kc11 => ?_)
      · try simp only [ite01t, ite01v, Int32.reduceToInt, t_m1, t_m2, t_m1000, Decidable.not_not] at kc11
        refine w_Main_plan_19 (fun kc19 => ?_) (fun kc19 => ?_)
        · try simp only [ite01t, ite01v, Int32.reduceToInt, t_m1, t_m2, t_m1000, Decidable.not_not] at kc19
          refine w_Main_plan_36 L (Tc.wc (s_deedOf hI _ _ _ y.toNatClampNeg x.toNatClampNeg (n_of (by omega)) (n_of (by omega)) (by have := n_of (x := y) (by omega); omega) (by have := n_of (x := x) (by omega); omega))) (Is.k ?_)
          refine w_Main_plan_46 ?_
          refine ⟨?_, Keep.rfl⟩
          by_cases c : 0 ≤ k.toInt ∧ k.toInt < y.toInt
          · rw [if_pos c, planV, if_pos (by omega), if_neg (by omega)]
          · rw [if_neg c, planV, if_neg (by omega)]
        · try simp only [ite01t, ite01v, Int32.reduceToInt, t_m1, t_m2, t_m1000, Decidable.not_not] at kc19
          refine w_Main_plan_24 L (Tc.wc (s_most hI _ _ y.toNatClampNeg x.toNatClampNeg (n_of (by omega)) (n_of (by omega)) (by have := n_of (x := y) (by omega); omega) (by have := n_of (x := x) (by omega); omega))) (Is.k ?_)
          refine w_Main_plan_33 ?_
          refine w_Main_plan_46 ?_
          exact ⟨by rw [planV, if_pos (by omega), if_pos (by omega)], Keep.rfl⟩
      · try simp only [ite01t, ite01v, Int32.reduceToInt, t_m1, t_m2, t_m1000, Decidable.not_not] at kc11
        refine w_Main_plan_17 ?_
        exact ⟨by rw [planV, if_neg (by omega)], Keep.rfl⟩
theorem op_within (x q : Int32) : OpI INV rod 180 272 [x, q] := by
  refine OpI.mk fun h hI => ?_
  have L := hI.lay
  have tt : (0 ≤ x.toInt ∧ x.toInt ≤ 9) → x.toInt = (x.toNatClampNeg : Int) := fun c => n_of c.1
  generalize x.toNatClampNeg = t at tt
  refine ⟨if (0 ≤ x.toInt ∧ x.toInt ≤ 9) ∧ 0 ≤ q.toInt ∧ q.toInt ≤ 999 then findF (fun n => decide (q.toInt ≤ ((planF n t : Nat) : Int))) 21 0 else -1, ?_, fun h1 I1 K1 => ?_⟩
  · refine n_Main_within ?_
    refine w_Main_within_0 (Tc.wc (s_isTrust _ _)) (Is.k ?_)
    refine w_Main_within_4 (fun kc4 => ?_) (fun kc4 => ?_)
    · try simp only [ite01t, ite01v, Int32.reduceToInt, t_m1, t_m2, t_m1000, Decidable.not_not] at kc4
      refine w_Main_within_18 ?_
      exact ⟨by rw [if_neg (by omega)], Keep.rfl⟩
    · try simp only [ite01t, ite01v, Int32.reduceToInt, t_m1, t_m2, t_m1000, Decidable.not_not] at kc4
      refine w_Main_within_7 (fun kc7 => ?_) (fun kc7 => ?_)
      · try simp only [ite01t, ite01v, Int32.reduceToInt, t_m1, t_m2, t_m1000, Decidable.not_not] at kc7
        refine w_Main_within_18 ?_
        exact ⟨by rw [if_neg (by omega)], Keep.rfl⟩
      · try simp only [ite01t, ite01v, Int32.reduceToInt, t_m1, t_m2, t_m1000, Decidable.not_not] at kc7
        refine w_Main_within_11 (fun kc11 => ?_) (fun kc11 => ?_)
        · try simp only [ite01t, ite01v, Int32.reduceToInt, t_m1, t_m2, t_m1000, Decidable.not_not] at kc11
          refine w_Main_within_20 rfl ?_
          have hx := tt (by omega)
          have ht : t ≤ 9 := by omega
          refine Wb.upc 21 (fun j L' => ∃ (z : Int32), L' = [some (.inr (.inr (.inl (some 0)))), some (.inl x), some (.inl q), some (.inl z)] ∧ z.toInt = (j : Int) ∧ findF (fun n => decide (q.toInt ≤ ((planF n t : Nat) : Int))) 21 0 = findF (fun n => decide (q.toInt ≤ ((planF n t : Nat) : Int))) (21 - j) j) ?_ (Nat.zero_le _) ⟨0, rfl, rfl, rfl⟩
          rintro j _ hj ⟨z, rfl, hz, hv⟩ ih
          have pb := planF_bd j t ht
          refine w_Main_within_22 (fun kc22 => ?_) (fun kc22 => ?_)
          · try simp only [ite01t, ite01v, Int32.reduceToInt, t_m1, t_m2, t_m1000, Decidable.not_not] at kc22
            refine w_Main_within_49 ?_
            exact ⟨by rw [if_pos (by omega), hv, show j = 21 by omega]; rfl, Keep.rfl⟩
          · try simp only [ite01t, ite01v, Int32.reduceToInt, t_m1, t_m2, t_m1000, Decidable.not_not] at kc22
            refine w_Main_within_28 L (Tc.wc (s_most hI _ _ j t hz hx (by omega) ht)) (Is.k ?_)
            refine w_Main_within_37 (fun kc37 => ?_) (fun kc37 => ?_)
            · try simp only [ite01t, ite01v, Int32.reduceToInt, t_m1, t_m2, t_m1000, Decidable.not_not] at kc37
              refine w_Main_within_43 rfl ?_
              rw [t_nat (by omega)] at kc37
              refine ih (by omega) _ ⟨_, rfl, t_succ hz (by omega), ?_⟩
              rw [hv, findF_no (by omega) (by rw [decide_eq_true_eq]; omega)]
            · try simp only [ite01t, ite01v, Int32.reduceToInt, t_m1, t_m2, t_m1000, Decidable.not_not] at kc37
              refine w_Main_within_41 ?_
              rw [t_nat (by omega)] at kc37
              refine ⟨?_, Keep.rfl⟩
              rw [if_pos (by omega), hv, findF_yes (by omega) (by rw [decide_eq_true_eq]; omega)]
              rw [ofN hz (by omega)]
        · try simp only [ite01t, ite01v, Int32.reduceToInt, t_m1, t_m2, t_m1000, Decidable.not_not] at kc11
          refine w_Main_within_18 ?_
          exact ⟨by rw [if_neg (by omega)], Keep.rfl⟩
  · have L1 := I1.lay
    refine n_Model_within ?_
    refine w_Model_within_0 (Tc.wc (s_isIn _ _ _ _)) (Is.k ?_)
    refine w_Model_within_7 (fun kc7 => ?_) (fun kc7 => ?_)
    · try simp only [ite01t, ite01v, Int32.reduceToInt, t_m1, t_m2, t_m1000, Decidable.not_not] at kc7
      refine w_Model_within_21 ?_
      exact ⟨by rw [if_neg (by omega)], Keep.rfl⟩
    · try simp only [ite01t, ite01v, Int32.reduceToInt, t_m1, t_m2, t_m1000, Decidable.not_not] at kc7
      refine w_Model_within_10 (Tc.wc (s_isIn _ _ _ _)) (Is.k ?_)
      refine w_Model_within_18 (fun kc18 => ?_) (fun kc18 => ?_)
      · try simp only [ite01t, ite01v, Int32.reduceToInt, t_m1, t_m2, t_m1000, Decidable.not_not] at kc18
        refine w_Model_within_23 rfl ?_
        have hx := tt (by omega)
        have ht : t ≤ 9 := by omega
        refine Wb.uph 21 (fun j L' h' => ∃ (z : Int32), L' = [some (.inr (.inr (.inl (some 84)))), some (.inl x), some (.inl q), some (.inl z)] ∧ z.toInt = (j : Int) ∧ Keep h1 h' ∧ findF (fun n => decide (q.toInt ≤ ((planF n t : Nat) : Int))) 21 0 = findF (fun n => decide (q.toInt ≤ ((planF n t : Nat) : Int))) (21 - j) j) ?_ (Nat.zero_le _) ⟨0, rfl, rfl, Keep.rfl, rfl⟩
        rintro j _ g hj ⟨z, rfl, hz, KK, hv⟩ ih
        have Lg := (I1.keep KK).lay
        have pb := planF_bd j t ht
        refine w_Model_within_25 (fun kc25 => ?_) (fun kc25 => ?_)
        · try simp only [ite01t, ite01v, Int32.reduceToInt, t_m1, t_m2, t_m1000, Decidable.not_not] at kc25
          refine w_Model_within_50 ?_
          exact ⟨by rw [if_pos (by omega), hv, show j = 21 by omega]; rfl, KK⟩
        · try simp only [ite01t, ite01v, Int32.reduceToInt, t_m1, t_m2, t_m1000, Decidable.not_not] at kc25
          refine w_Model_within_31 Lg (mm_plan (I1.keep KK) x z (-1)) ?_
          rintro _ h31 ⟨rfl, k31⟩
          have pv : planV x z (-1) = Int32.ofNat (planF j t) := by rw [planV, if_pos (by have : (-1 : Int32).toInt = -1 := rfl; omega), if_pos (show (-1 : Int32).toInt = -1 from rfl), n_eq hz, n_eq hx]
          rw [pv]
          refine w_Model_within_38 (fun kc38 => ?_) (fun kc38 => ?_)
          · try simp only [ite01t, ite01v, Int32.reduceToInt, t_m1, t_m2, t_m1000, Decidable.not_not] at kc38
            rw [t_nat (by omega)] at kc38
            refine w_Model_within_44 rfl ?_
            refine ih (by omega) _ _ ⟨_, rfl, t_succ hz (by omega), KK.trans k31, ?_⟩
            rw [hv, findF_no (by omega) (by rw [decide_eq_true_eq]; omega)]
          · try simp only [ite01t, ite01v, Int32.reduceToInt, t_m1, t_m2, t_m1000, Decidable.not_not] at kc38
            rw [t_nat (by omega)] at kc38
            refine w_Model_within_42 ?_
            refine ⟨?_, KK.trans k31⟩
            rw [if_pos (by omega), hv, findF_yes (by omega) (by rw [decide_eq_true_eq]; omega)]
            rw [ofN hz (by omega)]
      · try simp only [ite01t, ite01v, Int32.reduceToInt, t_m1, t_m2, t_m1000, Decidable.not_not] at kc18
        refine w_Model_within_21 ?_
        exact ⟨by rw [if_neg (by omega)], Keep.rfl⟩
end M48
