/-! SEASONS: the reference's side -/
theorem and1 (z : Int32) : (z &&& 1).toInt = 0 ∨ (z &&& 1).toInt = 1 := by
  have e : (z &&& 1).toBitVec.toNat = z.toBitVec.toNat % 2 := by
    show (z.toBitVec &&& 1#32).toNat = _
    rw [BitVec.toNat_and]
    exact Nat.and_one_is_mod _
  have t : (z &&& 1).toInt = (z &&& 1).toBitVec.toInt := rfl
  rw [t, BitVec.toInt_eq_toNat_of_lt (by omega)]
  omega
/-- numbers of buyers behind j deeds -/
def SBd (j n : Nat) (S : SSt) : Prop := ∀ b, b < n → (-60 * (j : Int) ≤ (S.2 0 b).toInt ∧ (S.2 0 b).toInt ≤ 99) ∧ (0 ≤ (S.2 2 b).toInt ∧ (S.2 2 b).toInt ≤ 9) ∧ 0 ≤ (S.2 3 b).toInt ∧ (S.2 3 b).toInt ≤ 60 * (j : Int)
theorem m0_fear {x : Int32} (h0 : 0 ≤ x.toInt) (h1 : x.toInt ≤ 9) : (¬ x.toInt ≤ 0 → x - 1 = m0 (x - 1)) ∧ (x.toInt ≤ 0 → x - 0 = m0 (x - 1)) := by
  have e : (x - 1).toInt = x.toInt - 1 := i32_sub (by show _ ≤ _ - (1 : Int); omega) (by show _ - (1 : Int) ≤ _; omega)
  have z0 : (0 : Int32).toInt = 0 := rfl
  constructor
  · intro c
    refine i32_of ?_
    rw [m0]
    simp only [Int32.lt_iff_toInt_lt, e, z0]
    split
    · rw [e]
    · rw [z0]; omega
  · intro c
    refine i32_of ?_
    rw [m0, Int32.sub_zero]
    simp only [Int32.lt_iff_toInt_lt, e, z0]
    rw [if_neg (by omega), z0]
    omega
theorem m0_sell {x : Int32} : (0 ≤ x.toInt → m0 x = x) ∧ (¬ 0 ≤ x.toInt → m0 x = 0) := by
  have z0 : (0 : Int32).toInt = 0 := rfl
  constructor
  · intro c
    refine i32_of ?_
    rw [m0]
    simp only [Int32.lt_iff_toInt_lt, z0]
    split
    · rfl
    · rw [z0]; omega
  · intro c
    rw [m0, if_neg (by rw [Int32.lt_iff_toInt_lt, z0]; omega)]
section M54
variable {rod : Nat → Nat × (Nat → Int32)} {d : Nat} {h : MH} {a l n k : Nat} {S : SSt}
theorem MLand.si84 {j : Nat} {v : Int32} (M : MLand h a l) (ha : a + 9 ≤ 45) (hj : 16 ≤ j) : MLand (sI h 84 j v) a l := M.keep (Keep.rfl.si (scrI 84 (by omega))) ha (sI_nj (by omega)) (sI_nj (by omega)) (sI_nj (by omega)) (sI_nj (by omega))
def PostM (h : MH) (a l n : Nat) (S : SSt) (o : Option SSt) (r : Option MV) (h' : MH) : Prop := Keep h h' ∧ r = some (.inl (if o.isSome = true then 1 else 0)) ∧ SimM h' (o.getD S) n ∧ MLand h' a l ∧ h'.1 84 20 = h.1 84 20 ∧ h'.1 84 28 = h.1 84 28
theorem PostM.no {o : Option SSt} (e : o = none) (Q : SimM h S n) (M : MLand h a l) : PostM h a l n S o (some (.inl 0)) h := ⟨Keep.rfl, by rw [e]; rfl, by rw [e]; exact Q, M, rfl, rfl⟩
theorem PostM.yes {o : Option SSt} {S' : SSt} {h' : MH} (e : o = some S') (K : Keep h h') (M : MLand h' a l) (e20 : h'.1 84 20 = h.1 84 20) (e28 : h'.1 84 28 = h.1 84 28) (Q : SimM h' S' n) : PostM h a l n S o (some (.inl 1)) h' := ⟨K, by rw [e]; rfl, by rw [e]; exact Q, M, e20, e28⟩
theorem r_isShut (Q : SimM h S n) (L : Lay h.2) (x : Int32) : Tc rod (d + 1) 236 [.inr (.inr (.inl (some 84))), .inl x] h (some (.inl (if ¬ ((S.1 2 >>> (x &&& 31)) &&& 1).toInt = 0 then 1 else 0))) h := by
  have q2 : h.1 84 23 = S.1 2 := Q.1 2 (by omega)
  have a1 := and1 (S.1 2 >>> (x &&& 31))
  apply Wc.tc
  refine n_Model_isShut ?_
  refine w_Model_isShut_0 L (fun kc0 => ?_) (fun kc0 => ?_)
  · (try simp only [ite01t, ite01v, Int32.reduceToInt, t_m1, t_m2, t_m1000, Decidable.not_not] at kc0); (try simp only [q2] at kc0)
    refine w_Model_isShut_16 ?_
    refine w_Model_isShut_17 (by first | exact Or.inl rfl | exact Or.inr rfl | exact or01 | assumption) ?_
    exact ⟨by first | rw [if_pos (by omega)] | rw [if_neg (by omega)], rfl⟩
  · (try simp only [ite01t, ite01v, Int32.reduceToInt, t_m1, t_m2, t_m1000, Decidable.not_not] at kc0); (try simp only [q2] at kc0)
    refine w_Model_isShut_12 ?_
    refine w_Model_isShut_17 (by first | exact Or.inl rfl | exact Or.inr rfl | exact or01 | assumption) ?_
    exact ⟨by first | rw [if_pos (by omega)] | rw [if_neg (by omega)], rfl⟩
theorem r_sells (Q : SimM h S n) (M : MLand h a l) (L : Lay h.2) (ha : a + 9 ≤ 45) (hn : (h.1 a 4).toInt = (n : Int)) (n8 : n ≤ 8) (hk : (h.1 a 5).toInt = (k : Int)) (k4 : k ≤ 4) (x y : Int32) : Wc rod (d + 3) 235 [.inr (.inr (.inl (some 84))), .inl x, .inl y] h (fun r h' => PostM h a l n S (sellF (ld h a) n k S x y) r h') := by
  have q1 : h.1 84 22 = S.1 1 := Q.1 1 (by omega)
  have hl := M.2.1
  have e3 := n_add M.2.2.1 (show (3 : Int32).toInt = ((3 : Nat) : Int) from rfl) (by have := M.2.1; omega)
  have e4 := n_add M.2.2.1 (show (4 : Int32).toInt = ((4 : Nat) : Int) from rfl) (by have := M.2.1; omega)
  have b3 : h.1 85 (h.1 84 12 + 3).toNatClampNeg = h.1 a 1 := by rw [n_eq e3]; exact M.1.2.2.2.1.symm
  have b4 : h.1 85 (h.1 84 12 + 4).toNatClampNeg = h.1 a 2 := by rw [n_eq e4]; exact M.1.2.2.2.2.1.symm
  refine n_Model_sells ?_
  refine w_Model_sells_0 L (Tc.wc (s_misBuyer M L _)) (Is.k ?_)
  refine w_Model_sells_5 (fun kc5 => ?_) (fun kc5 => ?_)
  · ((try simp only [ite01t, ite01v, Int32.reduceToInt, Decidable.not_not] at kc5)); (try simp only [hn, hk] at kc5); (try simp only [q1] at kc5)
    refine w_Model_sells_40 ?_
    refine PostM.no ?_ Q M
    rw [sellF, if_neg]
    rw [sellB, decide_eq_true_eq]
    first | (intro z; omega) | (intro z; exact kc22 z.2.2.1) | (intro z; exact kc37 z.2.2.2.1)
  · ((try simp only [ite01t, ite01v, Int32.reduceToInt, Decidable.not_not] at kc5)); (try simp only [hn, hk] at kc5); (try simp only [q1] at kc5)
    refine w_Model_sells_8 L (Tc.wc (s_misSheet M L _)) (Is.k ?_)
    refine w_Model_sells_13 (fun kc13 => ?_) (fun kc13 => ?_)
    · ((try simp only [ite01t, ite01v, Int32.reduceToInt, Decidable.not_not] at kc13)); (try simp only [hn, hk] at kc13); (try simp only [q1] at kc13)
      refine w_Model_sells_40 ?_
      refine PostM.no ?_ Q M
      rw [sellF, if_neg]
      rw [sellB, decide_eq_true_eq]
      first | (intro z; omega) | (intro z; exact kc22 z.2.2.1) | (intro z; exact kc37 z.2.2.2.1)
    · ((try simp only [ite01t, ite01v, Int32.reduceToInt, Decidable.not_not] at kc13)); (try simp only [hn, hk] at kc13); (try simp only [q1] at kc13)
      have ex := n_of (x := x) (by omega)
      have ey := n_of (x := y) (by omega)
      have lx := n_lt (x := x) (n := n) (by omega) (by omega)
      have Q0 : h.1 88 x.toNatClampNeg = S.2 0 x.toNatClampNeg := Q.2 0 _ (by omega) lx
      have Q1 : h.1 89 x.toNatClampNeg = S.2 1 x.toNatClampNeg := Q.2 1 _ (by omega) lx
      have Q2 : h.1 90 x.toNatClampNeg = S.2 2 x.toNatClampNeg := Q.2 2 _ (by omega) lx
      have Q3 : h.1 91 x.toNatClampNeg = S.2 3 x.toNatClampNeg := Q.2 3 _ (by omega) lx
      refine w_Model_sells_16 L (Tc.wc (s_of M L x 1 x.toNatClampNeg 1 (n_of (by omega)) rfl (by rw [hn]; omega) (by omega))) (Is.k ?_)
      refine w_Model_sells_22 L (fun kc22 => ?_) (fun kc22 => ?_)
      · ((try simp only [ite01t, ite01v, Int32.reduceToInt, Decidable.not_not] at kc22)); (try simp only [hn, hk] at kc22); (try simp only [q1] at kc22)
        refine w_Model_sells_40 ?_
        refine PostM.no ?_ Q M
        rw [sellF, if_neg]
        rw [sellB, decide_eq_true_eq]
        first | (intro z; omega) | (intro z; exact kc22 z.2.2.1) | (intro z; exact kc37 z.2.2.2.1)
      · ((try simp only [ite01t, ite01v, Int32.reduceToInt, Decidable.not_not] at kc22)); (try simp only [hn, hk] at kc22); (try simp only [q1] at kc22)
        refine w_Model_sells_29 L (Tc.wc (r_isShut Q L _)) (Is.k ?_)
        refine w_Model_sells_37 (fun kc37 => ?_) (fun kc37 => ?_)
        · ((try simp only [ite01t, ite01v, Int32.reduceToInt, Decidable.not_not] at kc37)); (try simp only [hn, hk] at kc37); (try simp only [q1] at kc37)
          refine w_Model_sells_42 L (Tc.wc (s_ofL0 M L y y.toNatClampNeg (n_of (by omega)) (by rw [hk]; omega))) (Is.k ?_)
          refine w_Model_sells_48 L (Tc.wc (s_ofL1 M L y y.toNatClampNeg (n_of (by omega)) (by rw [hk]; omega))) (Is.k ?_)
          refine w_Model_sells_55 L (Tc.wc (s_mwants M L x x.toNatClampNeg ex (by rw [hn]; omega) _ _)) (Is.k ?_)
          refine w_Model_sells_65 (fun kc65 => ?_) (fun kc65 => ?_)
          · ((try simp only [ite01t, ite01v, Int32.reduceToInt, Decidable.not_not] at kc65)); (try simp only [hn, hk] at kc65); (try simp only [q1] at kc65)
            rw [Q0, Q1, Q2] at kc65
            have ok : sellB (ld h a) n k S x y = true := by
              rw [sellB, decide_eq_true_eq]
              exact ⟨by omega, by omega, kc22, kc37, kc65⟩
            rw [sellF, if_pos ok]
            refine w_Model_sells_70 L (by first | assumption | omega | (refine ⟨?_, ?_⟩ <;> first | assumption | omega)) ?_
            refine w_Model_sells_81 L (by first | assumption | omega | (refine ⟨?_, ?_⟩ <;> first | assumption | omega)) ?_
            refine w_Model_sells_91 L (by first | assumption | omega | (refine ⟨?_, ?_⟩ <;> first | assumption | omega)) (fun kc91 => ?_) (fun kc91 => ?_)
            · ((try simp only [ite01t, ite01v, Int32.reduceToInt, Decidable.not_not] at kc91)); (try simp only [hn, hk] at kc91); (try simp only [q1] at kc91)
              simp (disch := omega) only [sI_same, sI_nc, sI_nj] at kc91
              refine w_Model_sells_117 L (by first | assumption | omega | (refine ⟨?_, ?_⟩ <;> first | assumption | omega)) ?_
              refine w_Model_sells_127 L ?_
              have em : ∀ v : Int32, True := fun _ => trivial
              refine w_Model_sells_137 L (by simp (disch := omega) only [sI_same, sI_nc, sI_nj]; rw [e3]; omega) (by simp (disch := omega) only [sI_same, sI_nc, sI_nj]; rw [e4]; omega) ?_
              refine w_Model_sells_186 L ?_
              refine w_Model_sells_197 L ?_
              refine w_Model_sells_214 ?_
              refine PostM.yes rfl (by repeat (first | exact Keep.rfl | refine Keep.si ?_ (scrI _ (by omega)))) (by repeat (first | exact M | refine MLand.si84 ?_ ha (by omega) | refine MLand.si ?_ ha (by omega))) (by simp (disch := omega) only [sI_same, sI_nc, sI_nj]) (by simp (disch := omega) only [sI_same, sI_nc, sI_nj]) ⟨fun i hi => ?_, fun c b hc hb => ?_⟩
              · rcases (show i = 0 ∨ i = 1 ∨ i = 2 ∨ i = 3 ∨ i = 4 ∨ i = 5 ∨ i = 6 by omega) with rfl | rfl | rfl | rfl | rfl | rfl | rfl
                · simp (disch := omega) only [sI_same, sI_nc, sI_nj]; exact Q.1 0 (by omega)
                · simp (disch := omega) only [sI_same, sI_nc, sI_nj]; exact Q.1 1 (by omega)
                · simp (disch := omega) only [sI_same, sI_nc, sI_nj]; exact Q.1 2 (by omega)
                · simp (disch := omega) only [sI_same, sI_nc, sI_nj]; rw [show h.1 84 24 = S.1 3 from Q.1 3 (by omega)]; rfl
                · simp (disch := omega) only [sI_same, sI_nc, sI_nj]; rw [b3, show h.1 84 25 = S.1 4 from Q.1 4 (by omega)]; rfl
                · simp (disch := omega) only [sI_same, sI_nc, sI_nj]; rw [b4, show h.1 84 26 = S.1 5 from Q.1 5 (by omega)]; rfl
                · simp (disch := omega) only [sI_same, sI_nc, sI_nj]; rw [b3, b4, show h.1 84 27 = S.1 6 from Q.1 6 (by omega)]; rfl
              · by_cases hb2 : b = x.toNatClampNeg
                · rw [hb2]
                  rcases (show c = 0 ∨ c = 1 ∨ c = 2 ∨ c = 3 by omega) with rfl | rfl | rfl | rfl
                  · simp (disch := omega) only [sI_same, sI_nc, sI_nj]; rw [sellS_0]; rw [Q0] at kc91; (try rw [Q0]); first | (rw [if_pos (show (ld h a 1 x.toNatClampNeg).toInt = 1 from kc106)]; rfl) | (rw [if_neg (show ¬ (ld h a 1 x.toNatClampNeg).toInt = 1 from kc106)]; exact (m0_sell.2 kc91).symm) | (have kc91 : 0 ≤ (S.2 0 x.toNatClampNeg - ld h a 6 y.toNatClampNeg).toInt := kc91; split; rfl; exact (m0_sell.1 kc91).symm)
                  · simp (disch := omega) only [sI_same, sI_nc, sI_nj]; rw [sellS_1, Q1]; rfl
                  · simp (disch := omega) only [sI_same, sI_nc, sI_nj]; rw [sellS_2, Q2]
                  · simp (disch := omega) only [sI_same, sI_nc, sI_nj]; rw [sellS_3, Q3]; rfl
                · rw [sellS_n hb2]
                  rcases (show c = 0 ∨ c = 1 ∨ c = 2 ∨ c = 3 by omega) with rfl | rfl | rfl | rfl
                  · simp (disch := omega) only [sI_same, sI_nc, sI_nj]; exact Q.2 0 b (by omega) hb
                  · simp (disch := omega) only [sI_same, sI_nc, sI_nj]; exact Q.2 1 b (by omega) hb
                  · simp (disch := omega) only [sI_same, sI_nc, sI_nj]; exact Q.2 2 b (by omega) hb
                  · simp (disch := omega) only [sI_same, sI_nc, sI_nj]; exact Q.2 3 b (by omega) hb
            · ((try simp only [ite01t, ite01v, Int32.reduceToInt, Decidable.not_not] at kc91)); (try simp only [hn, hk] at kc91); (try simp only [q1] at kc91)
              simp (disch := omega) only [sI_same, sI_nc, sI_nj] at kc91
              refine w_Model_sells_100 L (Tc.wc (s_of ((M.si ha (by omega)).si ha (by omega)) L x 0 x.toNatClampNeg 0 ex rfl (by rw [sI_nc (by omega), sI_nc (by omega), hn]; omega) (by omega))) (Is.k ?_)
              refine w_Model_sells_106 (fun kc106 => ?_) (fun kc106 => ?_)
              · ((try simp only [ite01t, ite01v, Int32.reduceToInt, Decidable.not_not] at kc106)); (try simp only [hn, hk] at kc106); (try simp only [q1] at kc106)
                simp (disch := omega) only [sI_same, sI_nc, sI_nj, Nat.add_zero] at kc106
                refine w_Model_sells_117 L (by first | assumption | omega | (refine ⟨?_, ?_⟩ <;> first | assumption | omega)) ?_
                refine w_Model_sells_127 L ?_
                have em : ∀ v : Int32, True := fun _ => trivial
                refine w_Model_sells_137 L (by simp (disch := omega) only [sI_same, sI_nc, sI_nj]; rw [e3]; omega) (by simp (disch := omega) only [sI_same, sI_nc, sI_nj]; rw [e4]; omega) ?_
                refine w_Model_sells_186 L ?_
                refine w_Model_sells_197 L ?_
                refine w_Model_sells_214 ?_
                refine PostM.yes rfl (by repeat (first | exact Keep.rfl | refine Keep.si ?_ (scrI _ (by omega)))) (by repeat (first | exact M | refine MLand.si84 ?_ ha (by omega) | refine MLand.si ?_ ha (by omega))) (by simp (disch := omega) only [sI_same, sI_nc, sI_nj]) (by simp (disch := omega) only [sI_same, sI_nc, sI_nj]) ⟨fun i hi => ?_, fun c b hc hb => ?_⟩
                · rcases (show i = 0 ∨ i = 1 ∨ i = 2 ∨ i = 3 ∨ i = 4 ∨ i = 5 ∨ i = 6 by omega) with rfl | rfl | rfl | rfl | rfl | rfl | rfl
                  · simp (disch := omega) only [sI_same, sI_nc, sI_nj]; exact Q.1 0 (by omega)
                  · simp (disch := omega) only [sI_same, sI_nc, sI_nj]; exact Q.1 1 (by omega)
                  · simp (disch := omega) only [sI_same, sI_nc, sI_nj]; exact Q.1 2 (by omega)
                  · simp (disch := omega) only [sI_same, sI_nc, sI_nj]; rw [show h.1 84 24 = S.1 3 from Q.1 3 (by omega)]; rfl
                  · simp (disch := omega) only [sI_same, sI_nc, sI_nj]; rw [b3, show h.1 84 25 = S.1 4 from Q.1 4 (by omega)]; rfl
                  · simp (disch := omega) only [sI_same, sI_nc, sI_nj]; rw [b4, show h.1 84 26 = S.1 5 from Q.1 5 (by omega)]; rfl
                  · simp (disch := omega) only [sI_same, sI_nc, sI_nj]; rw [b3, b4, show h.1 84 27 = S.1 6 from Q.1 6 (by omega)]; rfl
                · by_cases hb2 : b = x.toNatClampNeg
                  · rw [hb2]
                    rcases (show c = 0 ∨ c = 1 ∨ c = 2 ∨ c = 3 by omega) with rfl | rfl | rfl | rfl
                    · simp (disch := omega) only [sI_same, sI_nc, sI_nj]; rw [sellS_0]; rw [Q0] at kc91; (try rw [Q0]); first | (rw [if_pos (show (ld h a 1 x.toNatClampNeg).toInt = 1 from kc106)]; rfl) | (rw [if_neg (show ¬ (ld h a 1 x.toNatClampNeg).toInt = 1 from kc106)]; exact (m0_sell.2 kc91).symm) | (have kc91 : 0 ≤ (S.2 0 x.toNatClampNeg - ld h a 6 y.toNatClampNeg).toInt := kc91; split; rfl; exact (m0_sell.1 kc91).symm)
                    · simp (disch := omega) only [sI_same, sI_nc, sI_nj]; rw [sellS_1, Q1]; rfl
                    · simp (disch := omega) only [sI_same, sI_nc, sI_nj]; rw [sellS_2, Q2]
                    · simp (disch := omega) only [sI_same, sI_nc, sI_nj]; rw [sellS_3, Q3]; rfl
                  · rw [sellS_n hb2]
                    rcases (show c = 0 ∨ c = 1 ∨ c = 2 ∨ c = 3 by omega) with rfl | rfl | rfl | rfl
                    · simp (disch := omega) only [sI_same, sI_nc, sI_nj]; exact Q.2 0 b (by omega) hb
                    · simp (disch := omega) only [sI_same, sI_nc, sI_nj]; exact Q.2 1 b (by omega) hb
                    · simp (disch := omega) only [sI_same, sI_nc, sI_nj]; exact Q.2 2 b (by omega) hb
                    · simp (disch := omega) only [sI_same, sI_nc, sI_nj]; exact Q.2 3 b (by omega) hb
              · ((try simp only [ite01t, ite01v, Int32.reduceToInt, Decidable.not_not] at kc106)); (try simp only [hn, hk] at kc106); (try simp only [q1] at kc106)
                simp (disch := omega) only [sI_same, sI_nc, sI_nj, Nat.add_zero] at kc106
                refine w_Model_sells_110 L (by first | assumption | omega | (refine ⟨?_, ?_⟩ <;> first | assumption | omega)) ?_
                refine w_Model_sells_117 L (by first | assumption | omega | (refine ⟨?_, ?_⟩ <;> first | assumption | omega)) ?_
                refine w_Model_sells_127 L ?_
                have em : ∀ v : Int32, True := fun _ => trivial
                refine w_Model_sells_137 L (by simp (disch := omega) only [sI_same, sI_nc, sI_nj]; rw [e3]; omega) (by simp (disch := omega) only [sI_same, sI_nc, sI_nj]; rw [e4]; omega) ?_
                refine w_Model_sells_186 L ?_
                refine w_Model_sells_197 L ?_
                refine w_Model_sells_214 ?_
                refine PostM.yes rfl (by repeat (first | exact Keep.rfl | refine Keep.si ?_ (scrI _ (by omega)))) (by repeat (first | exact M | refine MLand.si84 ?_ ha (by omega) | refine MLand.si ?_ ha (by omega))) (by simp (disch := omega) only [sI_same, sI_nc, sI_nj]) (by simp (disch := omega) only [sI_same, sI_nc, sI_nj]) ⟨fun i hi => ?_, fun c b hc hb => ?_⟩
                · rcases (show i = 0 ∨ i = 1 ∨ i = 2 ∨ i = 3 ∨ i = 4 ∨ i = 5 ∨ i = 6 by omega) with rfl | rfl | rfl | rfl | rfl | rfl | rfl
                  · simp (disch := omega) only [sI_same, sI_nc, sI_nj]; exact Q.1 0 (by omega)
                  · simp (disch := omega) only [sI_same, sI_nc, sI_nj]; exact Q.1 1 (by omega)
                  · simp (disch := omega) only [sI_same, sI_nc, sI_nj]; exact Q.1 2 (by omega)
                  · simp (disch := omega) only [sI_same, sI_nc, sI_nj]; rw [show h.1 84 24 = S.1 3 from Q.1 3 (by omega)]; rfl
                  · simp (disch := omega) only [sI_same, sI_nc, sI_nj]; rw [b3, show h.1 84 25 = S.1 4 from Q.1 4 (by omega)]; rfl
                  · simp (disch := omega) only [sI_same, sI_nc, sI_nj]; rw [b4, show h.1 84 26 = S.1 5 from Q.1 5 (by omega)]; rfl
                  · simp (disch := omega) only [sI_same, sI_nc, sI_nj]; rw [b3, b4, show h.1 84 27 = S.1 6 from Q.1 6 (by omega)]; rfl
                · by_cases hb2 : b = x.toNatClampNeg
                  · rw [hb2]
                    rcases (show c = 0 ∨ c = 1 ∨ c = 2 ∨ c = 3 by omega) with rfl | rfl | rfl | rfl
                    · simp (disch := omega) only [sI_same, sI_nc, sI_nj]; rw [sellS_0]; rw [Q0] at kc91; (try rw [Q0]); first | (rw [if_pos (show (ld h a 1 x.toNatClampNeg).toInt = 1 from kc106)]; rfl) | (rw [if_neg (show ¬ (ld h a 1 x.toNatClampNeg).toInt = 1 from kc106)]; exact (m0_sell.2 kc91).symm) | (have kc91 : 0 ≤ (S.2 0 x.toNatClampNeg - ld h a 6 y.toNatClampNeg).toInt := kc91; split; rfl; exact (m0_sell.1 kc91).symm)
                    · simp (disch := omega) only [sI_same, sI_nc, sI_nj]; rw [sellS_1, Q1]; rfl
                    · simp (disch := omega) only [sI_same, sI_nc, sI_nj]; rw [sellS_2, Q2]
                    · simp (disch := omega) only [sI_same, sI_nc, sI_nj]; rw [sellS_3, Q3]; rfl
                  · rw [sellS_n hb2]
                    rcases (show c = 0 ∨ c = 1 ∨ c = 2 ∨ c = 3 by omega) with rfl | rfl | rfl | rfl
                    · simp (disch := omega) only [sI_same, sI_nc, sI_nj]; exact Q.2 0 b (by omega) hb
                    · simp (disch := omega) only [sI_same, sI_nc, sI_nj]; exact Q.2 1 b (by omega) hb
                    · simp (disch := omega) only [sI_same, sI_nc, sI_nj]; exact Q.2 2 b (by omega) hb
                    · simp (disch := omega) only [sI_same, sI_nc, sI_nj]; exact Q.2 3 b (by omega) hb
          · ((try simp only [ite01t, ite01v, Int32.reduceToInt, Decidable.not_not] at kc65)); (try simp only [hn, hk] at kc65); (try simp only [q1] at kc65)
            refine w_Model_sells_68 ?_
            refine PostM.no ?_ Q M
            rw [sellF, if_neg]
            rw [sellB, decide_eq_true_eq]
            intro z
            rw [Q0, Q1, Q2] at kc65
            exact kc65 z.2.2.2.2
        · ((try simp only [ite01t, ite01v, Int32.reduceToInt, Decidable.not_not] at kc37)); (try simp only [hn, hk] at kc37); (try simp only [q1] at kc37)
          refine w_Model_sells_40 ?_
          refine PostM.no ?_ Q M
          rw [sellF, if_neg]
          rw [sellB, decide_eq_true_eq]
          first | (intro z; omega) | (intro z; exact kc22 z.2.2.1) | (intro z; exact kc37 z.2.2.2.1)
theorem r_goes (Q : SimM h S n) (M : MLand h a l) (L : Lay h.2) (ha : a + 9 ≤ 45) (tw : 0 ≤ (S.1 1).toInt ∧ (S.1 1).toInt < (h.1 a 0).toInt) (x : Int32) : Wc rod (d + 3) 238 [.inr (.inr (.inl (some 84))), .inl x] h (fun r h' => PostM h a l n S (goF (ld h a) S x) r h') := by
  have q0 : h.1 84 21 = S.1 0 := Q.1 0 (by omega)
  have q1 : h.1 84 22 = S.1 1 := Q.1 1 (by omega)
  have t6 := M.1.tw
  have l1 := n_lt (x := S.1 1) (n := 6) (by omega) (by omega)
  refine n_Model_goesTo ?_
  refine w_Model_goesTo_0 L (Tc.wc (s_misTown M L _)) (Is.k ?_)
  refine w_Model_goesTo_5 (fun kc5 => ?_) (fun kc5 => ?_)
  · ((try simp only [ite01t, ite01v, Int32.reduceToInt, Decidable.not_not] at kc5)); (try simp only [q1] at kc5); (try simp only [q0] at kc5)
    refine w_Model_goesTo_47 ?_
    refine PostM.no ?_ Q M
    rw [goF, if_neg]
    rw [goOk, decide_eq_true_eq]
    first | (intro z; exact kc5 z.1) | (intro z; exact kc13 z.2.2.1) | (intro z; exact z.2.1 kc25) | (intro z; exact kc41 z.2.2.2)
  · ((try simp only [ite01t, ite01v, Int32.reduceToInt, Decidable.not_not] at kc5)); (try simp only [q1] at kc5); (try simp only [q0] at kc5)
    refine w_Model_goesTo_8 L (Tc.wc (r_isShut Q L _)) (Is.k ?_)
    refine w_Model_goesTo_13 (fun kc13 => ?_) (fun kc13 => ?_)
    · ((try simp only [ite01t, ite01v, Int32.reduceToInt, Decidable.not_not] at kc13)); (try simp only [q1] at kc13); (try simp only [q0] at kc13)
      refine w_Model_goesTo_47 ?_
      refine PostM.no ?_ Q M
      rw [goF, if_neg]
      rw [goOk, decide_eq_true_eq]
      first | (intro z; exact kc5 z.1) | (intro z; exact kc13 z.2.2.1) | (intro z; exact z.2.1 kc25) | (intro z; exact kc41 z.2.2.2)
    · ((try simp only [ite01t, ite01v, Int32.reduceToInt, Decidable.not_not] at kc13)); (try simp only [q1] at kc13); (try simp only [q0] at kc13)
      have l2 := n_lt (x := x) (n := 6) (by omega) (by omega)
      refine w_Model_goesTo_16 L (Tc.wc (s_mroad M L _ x (S.1 1).toNatClampNeg x.toNatClampNeg (by rw [q1]; exact n_of (by omega)) (n_of (by omega)) l1 l2)) (Is.k ?_)
      refine w_Model_goesTo_25 (fun kc25 => ?_) (fun kc25 => ?_)
      · ((try simp only [ite01t, ite01v, Int32.reduceToInt, Decidable.not_not] at kc25)); (try simp only [q1] at kc25); (try simp only [q0] at kc25)
        refine w_Model_goesTo_47 ?_
        refine PostM.no ?_ Q M
        rw [goF, if_neg]
        rw [goOk, decide_eq_true_eq]
        first | (intro z; exact kc5 z.1) | (intro z; exact kc13 z.2.2.1) | (intro z; exact z.2.1 kc25) | (intro z; exact kc41 z.2.2.2)
      · ((try simp only [ite01t, ite01v, Int32.reduceToInt, Decidable.not_not] at kc25)); (try simp only [q1] at kc25); (try simp only [q0] at kc25)
        refine w_Model_goesTo_28 L (Tc.wc (s_mroad M L _ x (S.1 1).toNatClampNeg x.toNatClampNeg (by rw [q1]; exact n_of (by omega)) (n_of (by omega)) l1 l2)) (Is.k ?_)
        refine w_Model_goesTo_41 (fun kc41 => ?_) (fun kc41 => ?_)
        · ((try simp only [ite01t, ite01v, Int32.reduceToInt, Decidable.not_not] at kc41)); (try simp only [q1] at kc41); (try simp only [q0] at kc41)
          refine w_Model_goesTo_49 L (Tc.wc (s_mroad M L _ x (S.1 1).toNatClampNeg x.toNatClampNeg (by rw [q1]; exact n_of (by omega)) (n_of (by omega)) l1 l2)) (Is.k ?_)
          refine w_Model_goesTo_63 L ?_
          refine w_Model_goesTo_67 L ?_
          refine w_Model_goesTo_72 ?_
          have ok : goOk (ld h a) S x = true := by
            rw [goOk, decide_eq_true_eq]
            exact ⟨kc5, kc25, kc13, kc41⟩
          rw [goF, if_pos ok]
          refine PostM.yes rfl (by repeat (first | exact Keep.rfl | refine Keep.si ?_ (scrI _ (by omega)))) (by repeat (first | exact M | refine MLand.si84 ?_ ha (by omega) | refine MLand.si ?_ ha (by omega))) (by simp (disch := omega) only [sI_same, sI_nc, sI_nj]) (by simp (disch := omega) only [sI_same, sI_nc, sI_nj]) ⟨fun i hi => ?_, fun c b hc hb => ?_⟩
          · rcases (show i = 0 ∨ i = 1 ∨ i = 2 ∨ i = 3 ∨ i = 4 ∨ i = 5 ∨ i = 6 by omega) with rfl | rfl | rfl | rfl | rfl | rfl | rfl
            · simp (disch := omega) only [sI_same, sI_nc, sI_nj]; rw [q0]; rfl
            · simp (disch := omega) only [sI_same, sI_nc, sI_nj]; rfl
            · simp (disch := omega) only [sI_same, sI_nc, sI_nj]; exact Q.1 2 (by omega)
            · simp (disch := omega) only [sI_same, sI_nc, sI_nj]; exact Q.1 3 (by omega)
            · simp (disch := omega) only [sI_same, sI_nc, sI_nj]; exact Q.1 4 (by omega)
            · simp (disch := omega) only [sI_same, sI_nc, sI_nj]; exact Q.1 5 (by omega)
            · simp (disch := omega) only [sI_same, sI_nc, sI_nj]; exact Q.1 6 (by omega)
          · rw [sI_nc (by omega), sI_nc (by omega)]; exact Q.2 c b hc hb
        · ((try simp only [ite01t, ite01v, Int32.reduceToInt, Decidable.not_not] at kc41)); (try simp only [q1] at kc41); (try simp only [q0] at kc41)
          refine w_Model_goesTo_47 ?_
          refine PostM.no ?_ Q M
          rw [goF, if_neg]
          rw [goOk, decide_eq_true_eq]
          first | (intro z; exact kc5 z.1) | (intro z; exact kc13 z.2.2.1) | (intro z; exact z.2.1 kc25) | (intro z; exact kc41 z.2.2.2)
theorem m99_id {x : Int32} (h1 : x.toInt ≤ 99) : m99 x = x := by
  refine i32_of ?_
  rw [m99]
  simp only [Int32.lt_iff_toInt_lt]
  rw [show (99 : Int32).toInt = 99 from rfl]
  split
  · rfl
  · show (99 : Int) = _; omega
theorem r_jub (Q : SimM h S n) (M : MLand h a l) (L : Lay h.2) (ha : a + 9 ≤ 45) (hn : (h.1 a 4).toInt = (n : Int)) (n8 : n ≤ 8) {w : Nat} (w99 : w ≤ 99) (B : SBd w n S) : Wc rod (d + 2) 239 [.inr (.inr (.inl (some 84)))] h (fun r h' => r = none ∧ Keep h h' ∧ SimM h' (jubS n S) n ∧ MLand h' a l ∧ h'.1 84 20 = h.1 84 20 ∧ h'.1 84 28 = h.1 84 28) := by
  refine n_Model_jubilee ?_
  refine w_Model_jubilee_0 rfl ?_
  refine Wb.uph n (fun j L' h' => ∃ (z : Int32), L' = [some (.inr (.inr (.inl (some 84)))), some (.inl z)] ∧ z.toInt = (j : Int) ∧ Keep h h' ∧ SimM h' (jubS j S) n ∧ MLand h' a l ∧ h'.1 84 20 = h.1 84 20 ∧ h'.1 84 28 = h.1 84 28) ?_ (Nat.zero_le _) ⟨0, rfl, rfl, Keep.rfl, by rw [c_jub_0]; exact Q, M, rfl, rfl⟩
  rintro j _ g hj ⟨z, rfl, hz, K, Qj, Mg, e20, e28⟩ ih
  have Lg := L.keep K
  have eg : (g.1 84 14).toInt = (n : Int) := by rw [Mg.2.2.2.2.1, K.c a (by omega)]; exact hn
  have ez := n_eq hz
  refine w_Model_jubilee_2 Lg (fun kc2 => ?_) (fun kc2 => ?_)
  · (try simp only [ite01t, ite01v, Int32.reduceToInt, t_m1, t_m2, t_m1000, Decidable.not_not] at kc2); (try simp only [eg] at kc2)
    refine w_Model_jubilee_79 ?_
    exact ⟨rfl, K, by rw [show n = j by omega] at Qj ⊢; exact Qj, Mg, e20, e28⟩
  · (try simp only [ite01t, ite01v, Int32.reduceToInt, t_m1, t_m2, t_m1000, Decidable.not_not] at kc2); (try simp only [eg] at kc2)
    have q3 : g.1 91 j = S.2 3 j := (Qj.2 3 j (by omega) (by omega)).trans (jubS_out (by omega))
    have q0 : g.1 88 j = S.2 0 j := (Qj.2 0 j (by omega) (by omega)).trans (jubS_out (by omega))
    have q1 : g.1 89 j = S.2 1 j := (Qj.2 1 j (by omega) (by omega)).trans (jubS_out (by omega))
    have q2 : g.1 90 j = S.2 2 j := (Qj.2 2 j (by omega) (by omega)).trans (jubS_out (by omega))
    have bj := B j (by omega)
    have mf := m0_fear (x := S.2 2 j) (by omega) (by omega)
    refine w_Model_jubilee_10 Lg (by first | assumption | omega | (refine ⟨?_, ?_⟩ <;> first | assumption | omega)) (Tc.wc (s_Model_atMost _ _ _)) (Is.k ?_)
    refine w_Model_jubilee_33 (Lg.1 _ _ rfl) (by first | assumption | omega | (refine ⟨?_, ?_⟩ <;> first | assumption | omega)) ?_
    refine w_Model_jubilee_34 Lg (by first | assumption | omega | (refine ⟨?_, ?_⟩ <;> first | assumption | omega)) (fun kc34 => ?_) (fun kc34 => ?_)
    · (try simp only [ite01t, ite01v, Int32.reduceToInt, t_m1, t_m2, t_m1000, Decidable.not_not] at kc34); (try simp only [eg] at kc34)
      refine w_Model_jubilee_63 ?_
      refine w_Model_jubilee_64 (Lg.1 _ _ rfl) (by first | assumption | omega | (refine ⟨?_, ?_⟩ <;> first | assumption | omega)) ?_
      refine w_Model_jubilee_66 Lg (by first | assumption | omega | (refine ⟨?_, ?_⟩ <;> first | assumption | omega)) ?_
      refine w_Model_jubilee_73 rfl ?_
      rw [ez]
      refine ih (by omega) _ _ ⟨_, rfl, t_succ hz (by omega), (by repeat (first | exact K | refine Keep.si ?_ (scrI _ (by omega)))), ⟨fun i hi => ?_, fun c b hc hb => ?_⟩, (by repeat (first | exact Mg | refine MLand.si ?_ ha (by omega))), by rw [sI_nc (by omega), sI_nc (by omega), sI_nc (by omega)]; exact e20, by rw [sI_nc (by omega), sI_nc (by omega), sI_nc (by omega)]; exact e28⟩
      · rw [sI_nc (by omega), sI_nc (by omega), sI_nc (by omega)]; exact Qj.1 i hi
      · by_cases e : b = j
        · rw [e]
          simp only [ez] at kc34
          simp (disch := omega) only [sI_same, sI_nc, sI_nj, q3] at kc34
          by_cases e3 : 0 < (S.2 3 j).toInt
          · rw [jubS_in ⟨by omega, e3⟩]
            rcases (show c = 0 ∨ c = 1 ∨ c = 2 ∨ c = 3 by omega) with rfl | rfl | rfl | rfl
            · simp (disch := omega) only [sI_same, sI_nc, sI_nj]; rw [q0, q3]; rfl
            · simp (disch := omega) only [sI_same, sI_nc, sI_nj]; rw [q1]; rfl
            · simp (disch := omega) only [sI_same, sI_nc, sI_nj]; rw [q2]; first | exact mf.1 (by simp only [ez] at kc50; simp (disch := omega) only [sI_same, sI_nc, sI_nj, q2] at kc50; exact kc50) | exact mf.2 (by simp only [ez] at kc50; simp (disch := omega) only [sI_same, sI_nc, sI_nj, q2] at kc50; exact kc50) | (exfalso; omega)
            · simp (disch := omega) only [sI_same, sI_nc, sI_nj]; rfl
          · rw [jubS_out (by omega)]
            have z3 : S.2 3 j = 0 := i32_of (by show _ = (0 : Int); omega)
            rcases (show c = 0 ∨ c = 1 ∨ c = 2 ∨ c = 3 by omega) with rfl | rfl | rfl | rfl
            · simp (disch := omega) only [sI_same, sI_nc, sI_nj]; rw [q0, q3, z3, Int32.add_zero]; exact m99_id bj.1.2
            · simp (disch := omega) only [sI_same, sI_nc, sI_nj]; exact q1
            · simp (disch := omega) only [sI_same, sI_nc, sI_nj]; rw [q2]; first | exact Int32.sub_zero _ | (exfalso; omega)
            · simp (disch := omega) only [sI_same, sI_nc, sI_nj]; exact z3.symm
        · have w3 : ∀ (v0 v2 v3 : Int32), (sI (sI (sI g 88 j v0) 90 j v2) 91 j v3).1 (88 + c) b = g.1 (88 + c) b := fun v0 v2 v3 => by rw [sI_ne (fun q => e q.2), sI_ne (fun q => e q.2), sI_ne (fun q => e q.2)]
          rw [w3, Qj.2 c b hc hb]
          by_cases e2 : b < j ∧ 0 < (S.2 3 b).toInt
          · rw [jubS_in e2, jubS_in (by omega)]
          · rw [jubS_out e2, jubS_out (by omega)]
    · (try simp only [ite01t, ite01v, Int32.reduceToInt, t_m1, t_m2, t_m1000, Decidable.not_not] at kc34); (try simp only [eg] at kc34)
      refine w_Model_jubilee_50 Lg (by first | assumption | omega | (refine ⟨?_, ?_⟩ <;> first | assumption | omega)) (fun kc50 => ?_) (fun kc50 => ?_)
      · (try simp only [ite01t, ite01v, Int32.reduceToInt, t_m1, t_m2, t_m1000, Decidable.not_not] at kc50); (try simp only [eg] at kc50)
        refine w_Model_jubilee_63 ?_
        refine w_Model_jubilee_64 (Lg.1 _ _ rfl) (by first | assumption | omega | (refine ⟨?_, ?_⟩ <;> first | assumption | omega)) ?_
        refine w_Model_jubilee_66 Lg (by first | assumption | omega | (refine ⟨?_, ?_⟩ <;> first | assumption | omega)) ?_
        refine w_Model_jubilee_73 rfl ?_
        rw [ez]
        refine ih (by omega) _ _ ⟨_, rfl, t_succ hz (by omega), (by repeat (first | exact K | refine Keep.si ?_ (scrI _ (by omega)))), ⟨fun i hi => ?_, fun c b hc hb => ?_⟩, (by repeat (first | exact Mg | refine MLand.si ?_ ha (by omega))), by rw [sI_nc (by omega), sI_nc (by omega), sI_nc (by omega)]; exact e20, by rw [sI_nc (by omega), sI_nc (by omega), sI_nc (by omega)]; exact e28⟩
        · rw [sI_nc (by omega), sI_nc (by omega), sI_nc (by omega)]; exact Qj.1 i hi
        · by_cases e : b = j
          · rw [e]
            simp only [ez] at kc34
            simp (disch := omega) only [sI_same, sI_nc, sI_nj, q3] at kc34
            by_cases e3 : 0 < (S.2 3 j).toInt
            · rw [jubS_in ⟨by omega, e3⟩]
              rcases (show c = 0 ∨ c = 1 ∨ c = 2 ∨ c = 3 by omega) with rfl | rfl | rfl | rfl
              · simp (disch := omega) only [sI_same, sI_nc, sI_nj]; rw [q0, q3]; rfl
              · simp (disch := omega) only [sI_same, sI_nc, sI_nj]; rw [q1]; rfl
              · simp (disch := omega) only [sI_same, sI_nc, sI_nj]; rw [q2]; first | exact mf.1 (by simp only [ez] at kc50; simp (disch := omega) only [sI_same, sI_nc, sI_nj, q2] at kc50; exact kc50) | exact mf.2 (by simp only [ez] at kc50; simp (disch := omega) only [sI_same, sI_nc, sI_nj, q2] at kc50; exact kc50) | (exfalso; omega)
              · simp (disch := omega) only [sI_same, sI_nc, sI_nj]; rfl
            · rw [jubS_out (by omega)]
              have z3 : S.2 3 j = 0 := i32_of (by show _ = (0 : Int); omega)
              rcases (show c = 0 ∨ c = 1 ∨ c = 2 ∨ c = 3 by omega) with rfl | rfl | rfl | rfl
              · simp (disch := omega) only [sI_same, sI_nc, sI_nj]; rw [q0, q3, z3, Int32.add_zero]; exact m99_id bj.1.2
              · simp (disch := omega) only [sI_same, sI_nc, sI_nj]; exact q1
              · simp (disch := omega) only [sI_same, sI_nc, sI_nj]; rw [q2]; first | exact Int32.sub_zero _ | (exfalso; omega)
              · simp (disch := omega) only [sI_same, sI_nc, sI_nj]; exact z3.symm
          · have w3 : ∀ (v0 v2 v3 : Int32), (sI (sI (sI g 88 j v0) 90 j v2) 91 j v3).1 (88 + c) b = g.1 (88 + c) b := fun v0 v2 v3 => by rw [sI_ne (fun q => e q.2), sI_ne (fun q => e q.2), sI_ne (fun q => e q.2)]
            rw [w3, Qj.2 c b hc hb]
            by_cases e2 : b < j ∧ 0 < (S.2 3 b).toInt
            · rw [jubS_in e2, jubS_in (by omega)]
            · rw [jubS_out e2, jubS_out (by omega)]
      · (try simp only [ite01t, ite01v, Int32.reduceToInt, t_m1, t_m2, t_m1000, Decidable.not_not] at kc50); (try simp only [eg] at kc50)
        refine w_Model_jubilee_59 ?_
        refine w_Model_jubilee_64 (Lg.1 _ _ rfl) (by first | assumption | omega | (refine ⟨?_, ?_⟩ <;> first | assumption | omega)) ?_
        refine w_Model_jubilee_66 Lg (by first | assumption | omega | (refine ⟨?_, ?_⟩ <;> first | assumption | omega)) ?_
        refine w_Model_jubilee_73 rfl ?_
        rw [ez]
        refine ih (by omega) _ _ ⟨_, rfl, t_succ hz (by omega), (by repeat (first | exact K | refine Keep.si ?_ (scrI _ (by omega)))), ⟨fun i hi => ?_, fun c b hc hb => ?_⟩, (by repeat (first | exact Mg | refine MLand.si ?_ ha (by omega))), by rw [sI_nc (by omega), sI_nc (by omega), sI_nc (by omega)]; exact e20, by rw [sI_nc (by omega), sI_nc (by omega), sI_nc (by omega)]; exact e28⟩
        · rw [sI_nc (by omega), sI_nc (by omega), sI_nc (by omega)]; exact Qj.1 i hi
        · by_cases e : b = j
          · rw [e]
            simp only [ez] at kc34
            simp (disch := omega) only [sI_same, sI_nc, sI_nj, q3] at kc34
            by_cases e3 : 0 < (S.2 3 j).toInt
            · rw [jubS_in ⟨by omega, e3⟩]
              rcases (show c = 0 ∨ c = 1 ∨ c = 2 ∨ c = 3 by omega) with rfl | rfl | rfl | rfl
              · simp (disch := omega) only [sI_same, sI_nc, sI_nj]; rw [q0, q3]; rfl
              · simp (disch := omega) only [sI_same, sI_nc, sI_nj]; rw [q1]; rfl
              · simp (disch := omega) only [sI_same, sI_nc, sI_nj]; rw [q2]; first | exact mf.1 (by simp only [ez] at kc50; simp (disch := omega) only [sI_same, sI_nc, sI_nj, q2] at kc50; exact kc50) | exact mf.2 (by simp only [ez] at kc50; simp (disch := omega) only [sI_same, sI_nc, sI_nj, q2] at kc50; exact kc50) | (exfalso; omega)
              · simp (disch := omega) only [sI_same, sI_nc, sI_nj]; rfl
            · rw [jubS_out (by omega)]
              have z3 : S.2 3 j = 0 := i32_of (by show _ = (0 : Int); omega)
              rcases (show c = 0 ∨ c = 1 ∨ c = 2 ∨ c = 3 by omega) with rfl | rfl | rfl | rfl
              · simp (disch := omega) only [sI_same, sI_nc, sI_nj]; rw [q0, q3, z3, Int32.add_zero]; exact m99_id bj.1.2
              · simp (disch := omega) only [sI_same, sI_nc, sI_nj]; exact q1
              · simp (disch := omega) only [sI_same, sI_nc, sI_nj]; rw [q2]; first | exact Int32.sub_zero _ | (exfalso; omega)
              · simp (disch := omega) only [sI_same, sI_nc, sI_nj]; exact z3.symm
          · have w3 : ∀ (v0 v2 v3 : Int32), (sI (sI (sI g 88 j v0) 90 j v2) 91 j v3).1 (88 + c) b = g.1 (88 + c) b := fun v0 v2 v3 => by rw [sI_ne (fun q => e q.2), sI_ne (fun q => e q.2), sI_ne (fun q => e q.2)]
            rw [w3, Qj.2 c b hc hb]
            by_cases e2 : b < j ∧ 0 < (S.2 3 b).toInt
            · rw [jubS_in e2, jubS_in (by omega)]
            · rw [jubS_out e2, jubS_out (by omega)]
theorem r_does (Q : SimM h S n) (M : MLand h a l) (L : Lay h.2) (ha : a + 9 ≤ 45) (hn : (h.1 a 4).toInt = (n : Int)) (n8 : n ≤ 8) (hk : (h.1 a 5).toInt = (k : Int)) (k4 : k ≤ 4) (tw : 0 ≤ (S.1 1).toInt ∧ (S.1 1).toInt < (h.1 a 0).toInt) {q : Nat} (q99 : q ≤ 99) (B : SBd q n S) (w x y : Int32) (hw : 0 ≤ w.toInt ∧ w.toInt ≤ 6) : Wc rod (d + 4) 234 [.inr (.inr (.inl (some 84))), .inl w, .inl x, .inl y] h (fun r h' => PostM h a l n S (actF (ld h a) n k w x y S) r h') := by
  refine n_Model_does ?_
  refine w_Model_does_0 (fun kc0 => ?_) (fun kc0 => ?_) (fun kc0 => ?_) (fun kc0 => ?_) (fun kc0 => ?_) (fun kc0 => ?_) (fun kc0_0 kc0_1 kc0_2 kc0_3 kc0_4 kc0_5 => ?_)
  · (try simp only [hn] at kc0)
    have ea : actF (ld h a) n k w x y S = sellF (ld h a) n k S x y := by rw [actF, if_pos kc0]
    refine w_Model_does_40 L (r_sells Q M L ha hn n8 hk k4 x y) ?_
    rintro _ h40 ⟨k40, rfl, Q40, M40, e40, f40⟩
    refine w_Model_does_46 (by first | exact Or.inl rfl | exact Or.inr rfl | exact or01 | assumption) ?_
    exact ⟨k40, by rw [ea], by rw [ea]; exact Q40, M40, e40, f40⟩
  · (try simp only [hn] at kc0)
    have ea : actF (ld h a) n k w x y S = sinF n S x y := by rw [actF, if_neg (by omega), if_pos kc0]
    refine w_Model_does_47 L (Tc.wc (s_misBuyer M L _)) (Is.k ?_)
    refine w_Model_does_52 (fun kc52 => ?_) (fun kc52 => ?_)
    · ((try simp only [ite01t, ite01v, Int32.reduceToInt, Decidable.not_not] at kc52)); (try simp only [hn] at kc52)
      have lx := n_lt (x := x) (n := n) (by omega) (by omega)
      refine w_Model_does_57 L (by first | assumption | omega | (refine ⟨?_, ?_⟩ <;> first | assumption | omega)) (Tc.wc (s_Model_atMost _ _ _)) (Is.k ?_)
      refine w_Model_does_75 (L.1 _ _ rfl) (by first | assumption | omega | (refine ⟨?_, ?_⟩ <;> first | assumption | omega)) ?_
      refine w_Model_does_76 ?_
      rw [ea, sinF, if_pos kc52]
      refine PostM.yes rfl (by repeat (first | exact Keep.rfl | refine Keep.si ?_ (scrI _ (by omega)))) (by repeat (first | exact M | refine MLand.si84 ?_ ha (by omega) | refine MLand.si ?_ ha (by omega))) (by simp (disch := omega) only [sI_same, sI_nc, sI_nj]) (by simp (disch := omega) only [sI_same, sI_nc, sI_nj]) ⟨fun i hi => ?_, fun c b hc hb => ?_⟩
      · rw [sI_nc (by omega)]; exact Q.1 i hi
      · by_cases e : c = 0 ∧ b = x.toNatClampNeg
        · rw [e.1, e.2]; show (sI h 88 _ _).1 88 _ = if _ then _ else _; rw [sI_same, if_pos (c := 0 = 0 ∧ x.toNatClampNeg = x.toNatClampNeg) ⟨rfl, rfl⟩, show h.1 88 x.toNatClampNeg = S.2 0 x.toNatClampNeg from Q.2 0 _ (by omega) lx]; rfl
        · show _ = if _ then _ else _; rw [if_neg e, sI_ne (fun q => e ⟨by omega, q.2⟩)]; exact Q.2 c b hc hb
    · ((try simp only [ite01t, ite01v, Int32.reduceToInt, Decidable.not_not] at kc52)); (try simp only [hn] at kc52)
      refine w_Model_does_55 ?_
      rw [ea]
      exact PostM.no (by rw [sinF, if_neg kc52]) Q M
  · (try simp only [hn] at kc0)
    have ea : actF (ld h a) n k w x y S = goF (ld h a) S x := by rw [actF, if_neg (by omega), if_neg (by omega), if_pos kc0]
    refine w_Model_does_78 L (r_goes Q M L ha tw x) ?_
    rintro _ h78 ⟨k78, rfl, Q78, M78, e78, f78⟩
    refine w_Model_does_83 (by first | exact Or.inl rfl | exact Or.inr rfl | exact or01 | assumption) ?_
    exact ⟨k78, by rw [ea], by rw [ea]; exact Q78, M78, e78, f78⟩
  · (try simp only [hn] at kc0)
    have l0 : (ld h a 0 0).toInt = (h.1 a 0).toInt := rfl
    first | (have ea : actF (ld h a) n k w x y S = turnF (ld h a) S x 0 := by rw [actF, if_neg (by omega), if_neg (by omega), if_neg (by omega), if_pos kc0]) | (have ea : actF (ld h a) n k w x y S = turnF (ld h a) S x 1 := by rw [actF, if_neg (by omega), if_neg (by omega), if_neg (by omega), if_neg (by omega), if_pos kc0])
    refine w_Model_does_84 L (Tc.wc (s_misTown M L _)) (Is.k ?_)
    refine w_Model_does_89 (fun kc89 => ?_) (fun kc89 => ?_)
    · ((try simp only [ite01t, ite01v, Int32.reduceToInt, Decidable.not_not] at kc89)); (try simp only [hn] at kc89)
      refine w_Model_does_110 ?_
      first | (exfalso; omega) | (rw [ea]; refine PostM.no ?_ Q M; rw [turnF, if_neg]; first | (intro z; exact kc89 (by rw [l0] at z; exact z.1)) | (intro z; exact kc107 (z.2.mpr rfl)) | (intro z; exact absurd (z.2.mp kc107) (by decide)))
    · ((try simp only [ite01t, ite01v, Int32.reduceToInt, Decidable.not_not] at kc89)); (try simp only [hn] at kc89)
      refine w_Model_does_92 L (Tc.wc (r_isShut Q L _)) (Is.k ?_)
      refine w_Model_does_97 (fun kc97 => ?_) (fun kc97 => ?_)
      · ((try simp only [ite01t, ite01v, Int32.reduceToInt, Decidable.not_not] at kc97)); (try simp only [hn] at kc97)
        refine w_Model_does_106 ?_
        refine w_Model_does_107 (fun kc107 => ?_) (fun kc107 => ?_)
        · ((try simp only [ite01t, ite01v, Int32.reduceToInt, Decidable.not_not] at kc107)); (try simp only [hn] at kc107)
          refine w_Model_does_112 L ?_
          refine w_Model_does_124 ?_
          have q2 : h.1 84 23 = S.1 2 := Q.1 2 (by omega)
          try (exfalso; omega)
          all_goals rw [ea, turnF, if_pos ⟨by rw [l0]; exact kc89, (by first | exact ⟨fun _ => rfl, fun _ => kc107⟩ | exact ⟨fun y => absurd y kc107, fun y => absurd y (by decide)⟩)⟩]
          all_goals refine PostM.yes rfl (by repeat (first | exact Keep.rfl | refine Keep.si ?_ (scrI _ (by omega)))) (by repeat (first | exact M | refine MLand.si84 ?_ ha (by omega) | refine MLand.si ?_ ha (by omega))) (by simp (disch := omega) only [sI_same, sI_nc, sI_nj]) (by simp (disch := omega) only [sI_same, sI_nc, sI_nj]) ⟨fun i hi => ?_, fun c b hc hb => ?_⟩
          all_goals first | (rw [sI_nc (by omega)]; exact Q.2 c b hc hb) | (rcases (show i = 0 ∨ i = 1 ∨ i = 2 ∨ i = 3 ∨ i = 4 ∨ i = 5 ∨ i = 6 by omega) with rfl | rfl | rfl | rfl | rfl | rfl | rfl <;> simp (disch := omega) only [sI_same, sI_nc, sI_nj] <;> first | exact Q.1 0 (by omega) | exact Q.1 1 (by omega) | (rw [q2]; rfl) | exact Q.1 3 (by omega) | exact Q.1 4 (by omega) | exact Q.1 5 (by omega) | exact Q.1 6 (by omega))
        · ((try simp only [ite01t, ite01v, Int32.reduceToInt, Decidable.not_not] at kc107)); (try simp only [hn] at kc107)
          refine w_Model_does_110 ?_
          first | (exfalso; omega) | (rw [ea]; refine PostM.no ?_ Q M; rw [turnF, if_neg]; first | (intro z; exact kc89 (by rw [l0] at z; exact z.1)) | (intro z; exact kc107 (z.2.mpr rfl)) | (intro z; exact absurd (z.2.mp kc107) (by decide)))
      · ((try simp only [ite01t, ite01v, Int32.reduceToInt, Decidable.not_not] at kc97)); (try simp only [hn] at kc97)
        refine w_Model_does_102 ?_
        refine w_Model_does_107 (fun kc107 => ?_) (fun kc107 => ?_)
        · ((try simp only [ite01t, ite01v, Int32.reduceToInt, Decidable.not_not] at kc107)); (try simp only [hn] at kc107)
          refine w_Model_does_112 L ?_
          refine w_Model_does_124 ?_
          have q2 : h.1 84 23 = S.1 2 := Q.1 2 (by omega)
          try (exfalso; omega)
          all_goals rw [ea, turnF, if_pos ⟨by rw [l0]; exact kc89, (by first | exact ⟨fun _ => rfl, fun _ => kc107⟩ | exact ⟨fun y => absurd y kc107, fun y => absurd y (by decide)⟩)⟩]
          all_goals refine PostM.yes rfl (by repeat (first | exact Keep.rfl | refine Keep.si ?_ (scrI _ (by omega)))) (by repeat (first | exact M | refine MLand.si84 ?_ ha (by omega) | refine MLand.si ?_ ha (by omega))) (by simp (disch := omega) only [sI_same, sI_nc, sI_nj]) (by simp (disch := omega) only [sI_same, sI_nc, sI_nj]) ⟨fun i hi => ?_, fun c b hc hb => ?_⟩
          all_goals first | (rw [sI_nc (by omega)]; exact Q.2 c b hc hb) | (rcases (show i = 0 ∨ i = 1 ∨ i = 2 ∨ i = 3 ∨ i = 4 ∨ i = 5 ∨ i = 6 by omega) with rfl | rfl | rfl | rfl | rfl | rfl | rfl <;> simp (disch := omega) only [sI_same, sI_nc, sI_nj] <;> first | exact Q.1 0 (by omega) | exact Q.1 1 (by omega) | (rw [q2]; rfl) | exact Q.1 3 (by omega) | exact Q.1 4 (by omega) | exact Q.1 5 (by omega) | exact Q.1 6 (by omega))
        · ((try simp only [ite01t, ite01v, Int32.reduceToInt, Decidable.not_not] at kc107)); (try simp only [hn] at kc107)
          refine w_Model_does_110 ?_
          first | (exfalso; omega) | (rw [ea]; refine PostM.no ?_ Q M; rw [turnF, if_neg]; first | (intro z; exact kc89 (by rw [l0] at z; exact z.1)) | (intro z; exact kc107 (z.2.mpr rfl)) | (intro z; exact absurd (z.2.mp kc107) (by decide)))
  · (try simp only [hn] at kc0)
    have l0 : (ld h a 0 0).toInt = (h.1 a 0).toInt := rfl
    first | (have ea : actF (ld h a) n k w x y S = turnF (ld h a) S x 0 := by rw [actF, if_neg (by omega), if_neg (by omega), if_neg (by omega), if_pos kc0]) | (have ea : actF (ld h a) n k w x y S = turnF (ld h a) S x 1 := by rw [actF, if_neg (by omega), if_neg (by omega), if_neg (by omega), if_neg (by omega), if_pos kc0])
    refine w_Model_does_84 L (Tc.wc (s_misTown M L _)) (Is.k ?_)
    refine w_Model_does_89 (fun kc89 => ?_) (fun kc89 => ?_)
    · ((try simp only [ite01t, ite01v, Int32.reduceToInt, Decidable.not_not] at kc89)); (try simp only [hn] at kc89)
      refine w_Model_does_110 ?_
      first | (exfalso; omega) | (rw [ea]; refine PostM.no ?_ Q M; rw [turnF, if_neg]; first | (intro z; exact kc89 (by rw [l0] at z; exact z.1)) | (intro z; exact kc107 (z.2.mpr rfl)) | (intro z; exact absurd (z.2.mp kc107) (by decide)))
    · ((try simp only [ite01t, ite01v, Int32.reduceToInt, Decidable.not_not] at kc89)); (try simp only [hn] at kc89)
      refine w_Model_does_92 L (Tc.wc (r_isShut Q L _)) (Is.k ?_)
      refine w_Model_does_97 (fun kc97 => ?_) (fun kc97 => ?_)
      · ((try simp only [ite01t, ite01v, Int32.reduceToInt, Decidable.not_not] at kc97)); (try simp only [hn] at kc97)
        refine w_Model_does_106 ?_
        refine w_Model_does_107 (fun kc107 => ?_) (fun kc107 => ?_)
        · ((try simp only [ite01t, ite01v, Int32.reduceToInt, Decidable.not_not] at kc107)); (try simp only [hn] at kc107)
          refine w_Model_does_112 L ?_
          refine w_Model_does_124 ?_
          have q2 : h.1 84 23 = S.1 2 := Q.1 2 (by omega)
          try (exfalso; omega)
          all_goals rw [ea, turnF, if_pos ⟨by rw [l0]; exact kc89, (by first | exact ⟨fun _ => rfl, fun _ => kc107⟩ | exact ⟨fun y => absurd y kc107, fun y => absurd y (by decide)⟩)⟩]
          all_goals refine PostM.yes rfl (by repeat (first | exact Keep.rfl | refine Keep.si ?_ (scrI _ (by omega)))) (by repeat (first | exact M | refine MLand.si84 ?_ ha (by omega) | refine MLand.si ?_ ha (by omega))) (by simp (disch := omega) only [sI_same, sI_nc, sI_nj]) (by simp (disch := omega) only [sI_same, sI_nc, sI_nj]) ⟨fun i hi => ?_, fun c b hc hb => ?_⟩
          all_goals first | (rw [sI_nc (by omega)]; exact Q.2 c b hc hb) | (rcases (show i = 0 ∨ i = 1 ∨ i = 2 ∨ i = 3 ∨ i = 4 ∨ i = 5 ∨ i = 6 by omega) with rfl | rfl | rfl | rfl | rfl | rfl | rfl <;> simp (disch := omega) only [sI_same, sI_nc, sI_nj] <;> first | exact Q.1 0 (by omega) | exact Q.1 1 (by omega) | (rw [q2]; rfl) | exact Q.1 3 (by omega) | exact Q.1 4 (by omega) | exact Q.1 5 (by omega) | exact Q.1 6 (by omega))
        · ((try simp only [ite01t, ite01v, Int32.reduceToInt, Decidable.not_not] at kc107)); (try simp only [hn] at kc107)
          refine w_Model_does_110 ?_
          first | (exfalso; omega) | (rw [ea]; refine PostM.no ?_ Q M; rw [turnF, if_neg]; first | (intro z; exact kc89 (by rw [l0] at z; exact z.1)) | (intro z; exact kc107 (z.2.mpr rfl)) | (intro z; exact absurd (z.2.mp kc107) (by decide)))
      · ((try simp only [ite01t, ite01v, Int32.reduceToInt, Decidable.not_not] at kc97)); (try simp only [hn] at kc97)
        refine w_Model_does_102 ?_
        refine w_Model_does_107 (fun kc107 => ?_) (fun kc107 => ?_)
        · ((try simp only [ite01t, ite01v, Int32.reduceToInt, Decidable.not_not] at kc107)); (try simp only [hn] at kc107)
          refine w_Model_does_112 L ?_
          refine w_Model_does_124 ?_
          have q2 : h.1 84 23 = S.1 2 := Q.1 2 (by omega)
          try (exfalso; omega)
          all_goals rw [ea, turnF, if_pos ⟨by rw [l0]; exact kc89, (by first | exact ⟨fun _ => rfl, fun _ => kc107⟩ | exact ⟨fun y => absurd y kc107, fun y => absurd y (by decide)⟩)⟩]
          all_goals refine PostM.yes rfl (by repeat (first | exact Keep.rfl | refine Keep.si ?_ (scrI _ (by omega)))) (by repeat (first | exact M | refine MLand.si84 ?_ ha (by omega) | refine MLand.si ?_ ha (by omega))) (by simp (disch := omega) only [sI_same, sI_nc, sI_nj]) (by simp (disch := omega) only [sI_same, sI_nc, sI_nj]) ⟨fun i hi => ?_, fun c b hc hb => ?_⟩
          all_goals first | (rw [sI_nc (by omega)]; exact Q.2 c b hc hb) | (rcases (show i = 0 ∨ i = 1 ∨ i = 2 ∨ i = 3 ∨ i = 4 ∨ i = 5 ∨ i = 6 by omega) with rfl | rfl | rfl | rfl | rfl | rfl | rfl <;> simp (disch := omega) only [sI_same, sI_nc, sI_nj] <;> first | exact Q.1 0 (by omega) | exact Q.1 1 (by omega) | (rw [q2]; rfl) | exact Q.1 3 (by omega) | exact Q.1 4 (by omega) | exact Q.1 5 (by omega) | exact Q.1 6 (by omega))
        · ((try simp only [ite01t, ite01v, Int32.reduceToInt, Decidable.not_not] at kc107)); (try simp only [hn] at kc107)
          refine w_Model_does_110 ?_
          first | (exfalso; omega) | (rw [ea]; refine PostM.no ?_ Q M; rw [turnF, if_neg]; first | (intro z; exact kc89 (by rw [l0] at z; exact z.1)) | (intro z; exact kc107 (z.2.mpr rfl)) | (intro z; exact absurd (z.2.mp kc107) (by decide)))
  · (try simp only [hn] at kc0)
    have ea : actF (ld h a) n k w x y S = some (doubtS n S) := by rw [actF, if_neg (by omega), if_neg (by omega), if_neg (by omega), if_neg (by omega), if_neg (by omega), if_pos kc0]
    refine w_Model_does_126 rfl ?_
    refine Wb.uph n (fun j L' h' => ∃ (z : Int32), L' = [some (.inr (.inr (.inl (some 84)))), some (.inl w), some (.inl x), some (.inl y), some (.inl z)] ∧ z.toInt = (j : Int) ∧ Keep h h' ∧ SimM h' (doubtS j S) n ∧ MLand h' a l ∧ h'.1 84 20 = h.1 84 20 ∧ h'.1 84 28 = h.1 84 28) ?_ (Nat.zero_le _) ⟨0, rfl, rfl, Keep.rfl, by rw [c_doubt_0]; exact Q, M, rfl, rfl⟩
    rintro j _ g hj ⟨z, rfl, hz, K, Qj, Mg, e20, e28⟩ ih
    have Lg := L.keep K
    have eg : (g.1 84 14).toInt = (n : Int) := by rw [Mg.2.2.2.2.1, K.c a (by omega)]; exact hn
    have ez := n_eq hz
    refine w_Model_does_129 Lg (fun kc129 => ?_) (fun kc129 => ?_)
    · (try simp only [ite01t, ite01v, Int32.reduceToInt, t_m1, t_m2, t_m1000, Decidable.not_not] at kc129); (try simp only [eg] at kc129)
      refine w_Model_does_169 ?_
      have hj : j = n := by omega
      subst hj
      rw [ea]
      exact PostM.yes rfl K Mg e20 e28 Qj
    · (try simp only [ite01t, ite01v, Int32.reduceToInt, t_m1, t_m2, t_m1000, Decidable.not_not] at kc129); (try simp only [eg] at kc129)
      have q2 : g.1 90 j = S.2 2 j := (Qj.2 2 j (by omega) (by omega)).trans (if_neg (by omega))
      have bj := B j (by omega)
      have mf := m0_fear (x := S.2 2 j) (by omega) (by omega)
      refine w_Model_does_138 Lg (by first | assumption | omega | (refine ⟨?_, ?_⟩ <;> first | assumption | omega)) (fun kc138 => ?_) (fun kc138 => ?_)
      · (try simp only [ite01t, ite01v, Int32.reduceToInt, t_m1, t_m2, t_m1000, Decidable.not_not] at kc138); (try simp only [eg] at kc138)
        refine w_Model_does_160 ?_
        refine w_Model_does_161 (Lg.1 _ _ rfl) (by first | assumption | omega | (refine ⟨?_, ?_⟩ <;> first | assumption | omega)) ?_
        refine w_Model_does_163 rfl ?_
        rw [ez]
        rw [ez, q2] at kc138
        refine ih (by omega) _ _ ⟨_, rfl, t_succ hz (by omega), K.si (scrI 90 (by omega)), ⟨fun i hi => ?_, fun c b hc hb => ?_⟩, Mg.si ha (by omega), by rw [sI_nc (by omega)]; exact e20, by rw [sI_nc (by omega)]; exact e28⟩
        · rw [sI_nc (by omega)]; exact Qj.1 i hi
        · by_cases e : c = 2 ∧ b = j
          · rw [e.1, e.2]; show (sI g 90 _ _).1 90 _ = if _ then _ else _; rw [sI_same, if_pos (c := 2 = 2 ∧ j < j + 1) (by omega), q2]; first | exact mf.1 kc138 | exact mf.2 kc138
          · rw [sI_ne (fun q => e ⟨by omega, q.2⟩), Qj.2 c b hc hb]; show (if _ then _ else _) = if _ then _ else _
            by_cases e2 : c = 2 ∧ b < j
            · rw [if_pos e2, if_pos (by omega)]
            · rw [if_neg e2, if_neg (by omega)]
      · (try simp only [ite01t, ite01v, Int32.reduceToInt, t_m1, t_m2, t_m1000, Decidable.not_not] at kc138); (try simp only [eg] at kc138)
        refine w_Model_does_156 ?_
        refine w_Model_does_161 (Lg.1 _ _ rfl) (by first | assumption | omega | (refine ⟨?_, ?_⟩ <;> first | assumption | omega)) ?_
        refine w_Model_does_163 rfl ?_
        rw [ez]
        rw [ez, q2] at kc138
        refine ih (by omega) _ _ ⟨_, rfl, t_succ hz (by omega), K.si (scrI 90 (by omega)), ⟨fun i hi => ?_, fun c b hc hb => ?_⟩, Mg.si ha (by omega), by rw [sI_nc (by omega)]; exact e20, by rw [sI_nc (by omega)]; exact e28⟩
        · rw [sI_nc (by omega)]; exact Qj.1 i hi
        · by_cases e : c = 2 ∧ b = j
          · rw [e.1, e.2]; show (sI g 90 _ _).1 90 _ = if _ then _ else _; rw [sI_same, if_pos (c := 2 = 2 ∧ j < j + 1) (by omega), q2]; first | exact mf.1 kc138 | exact mf.2 kc138
          · rw [sI_ne (fun q => e ⟨by omega, q.2⟩), Qj.2 c b hc hb]; show (if _ then _ else _) = if _ then _ else _
            by_cases e2 : c = 2 ∧ b < j
            · rw [if_pos e2, if_pos (by omega)]
            · rw [if_neg e2, if_neg (by omega)]
  · (try simp only [hn] at kc0_0 kc0_1 kc0_2 kc0_3 kc0_4 kc0_5)
    have ea : actF (ld h a) n k w x y S = some (jubS n S) := by rw [actF, if_neg (by omega), if_neg (by omega), if_neg (by omega), if_neg (by omega), if_neg (by omega), if_neg (by omega), if_pos (by omega)]
    refine w_Model_does_171 L (r_jub Q M L ha hn n8 q99 B) ?_
    rintro _ h171 ⟨rfl, k171, Q171, M171, e171, f171⟩
    refine w_Model_does_175 ?_
    rw [ea]
    exact PostM.yes rfl k171 M171 e171 f171 Q171
end M54
