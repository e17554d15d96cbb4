/-! THE REFERENCE'S LAND -/
section M34
variable {rod : Nat → Nat × (Nat → Int32)} {d : Nat} {h : MH} {a l : Nat}

theorem LandRel.tw (r : LandRel h a l) : 1 ≤ (h.1 a 0).toInt ∧ (h.1 a 0).toInt ≤ 6 := r.2.2.2.2.2.2.1
theorem LandRel.bu (r : LandRel h a l) : 0 ≤ (h.1 a 4).toInt ∧ (h.1 a 4).toInt ≤ 8 := r.2.2.2.2.2.2.2.1
theorem LandRel.le (r : LandRel h a l) : 0 ≤ (h.1 a 5).toInt ∧ (h.1 a 5).toInt ≤ 4 := r.2.2.2.2.2.2.2.2.1
theorem LandRel.bk (r : LandRel h a l) : 0 ≤ (h.1 a 1).toInt ∧ (h.1 a 1).toInt ≤ 5 := r.2.2.2.2.2.2.2.2.2.1
theorem LandRel.ru (r : LandRel h a l) : 0 ≤ (h.1 a 2).toInt ∧ (h.1 a 2).toInt ≤ 5 := r.2.2.2.2.2.2.2.2.2.2.1
theorem LandRel.sh (r : LandRel h a l) : 0 ≤ (h.1 a 3).toInt ∧ (h.1 a 3).toInt ≤ 63 := r.2.2.2.2.2.2.2.2.2.2.2.1
theorem LandRel.ofB (r : LandRel h a l) (b k : Nat) (hb : (b : Int) < (h.1 a 4).toInt) (hk : k < 5) : h.1 85 (l + 6 + 5 * b + k) = h.1 (a + 1 + k) b := ((r.2.2.2.2.2.2.2.2.2.2.2.2.1 b hb).1 k hk).symm
theorem LandRel.ofL (r : LandRel h a l) (t : Nat) (ht : (t : Int) < (h.1 a 5).toInt) : h.1 85 (l + 46 + 2 * t) = h.1 (a + 6) t ∧ h.1 85 (l + 47 + 2 * t) = h.1 (a + 7) t := by
  have q := r.2.2.2.2.2.2.2.2.2.2.2.2.2.1 t ht
  exact ⟨q.1.symm, q.2.1.symm⟩
theorem LandRel.ofR (r : LandRel h a l) (i : Nat) (hi : i < 36) : h.1 85 (l + 54 + i) = h.1 (a + 8) i := ((r.2.2.2.2.2.2.2.2.2.2.2.2.2.2) i hi).1.symm
/-- the reference has the land at hand -/
def MLand (h : MH) (a l : Nat) : Prop := LandRel h a l ∧ l ≤ 700 ∧ (h.1 84 12).toInt = (l : Int) ∧ h.1 84 13 = h.1 a 0 ∧ h.1 84 14 = h.1 a 4 ∧ h.1 84 15 = h.1 a 5
theorem MLand.keep {h' : MH} (M : MLand h a l) (k : Keep h h') (ha : a + 9 ≤ 45) (e12 : h'.1 84 12 = h.1 84 12) (e13 : h'.1 84 13 = h.1 84 13) (e14 : h'.1 84 14 = h.1 84 14) (e15 : h'.1 84 15 = h.1 84 15) : MLand h' a l := by
  obtain ⟨r, q, m1, m2, m3, m4⟩ := M
  have ea : h'.1 a = h.1 a := k.2 a (by simp only [Scr]; omega)
  refine ⟨r.keep (fun c h1 h2 => k.2 c (by simp only [Scr]; omega)) (k.2 85 (by simp only [Scr]; omega)), q, by rw [e12]; exact m1, by rw [e13, ea]; exact m2, by rw [e14, ea]; exact m3, by rw [e15, ea]; exact m4⟩
theorem s_of (M : MLand h a l) (L : Lay h.2) (x y : Int32) (b w : Nat) (hb : x.toInt = (b : Int)) (hw : y.toInt = (w : Int)) (hB : (b : Int) < (h.1 a 4).toInt) (hw5 : w < 5) : Tc rod (d + 1) 221 [.inr (.inr (.inl (some 84))), .inl x, .inl y] h (some (.inl (h.1 (a + 1 + w) b))) h := by
  have hl := M.2.1
  have B8 := M.1.bu
  have e := (n_add (n_add (n_add M.2.2.1 (show (6 : Int32).toInt = ((6 : Nat) : Int) from rfl) (by omega)) (n_mul (show (5 : Int32).toInt = ((5 : Nat) : Int) from rfl) hb (by omega)) (by omega)) hw (by omega))
  apply Wc.tc
  refine n_Model_of ?_
  refine w_Model_of_0 L (by rw [e]; omega) ?_
  exact ⟨by rw [n_eq e, ← M.1.ofB b w hB hw5], rfl⟩
theorem s_ofL0 (M : MLand h a l) (L : Lay h.2) (x : Int32) (b : Nat) (hb : x.toInt = (b : Int)) (hB : (b : Int) < (h.1 a 5).toInt) : Tc rod (d + 1) 223 [.inr (.inr (.inl (some 84))), .inl x, .inl 0] h (some (.inl (h.1 (a + 6) b))) h := by
  have hl := M.2.1
  have B8 := M.1.le
  have hw : (0 : Int32).toInt = ((0 : Nat) : Int) := rfl
  have e := (n_add (n_add (n_add M.2.2.1 (show (46 : Int32).toInt = ((46 : Nat) : Int) from rfl) (by omega)) (n_mul (show (2 : Int32).toInt = ((2 : Nat) : Int) from rfl) hb (by omega)) (by omega)) (show (0 : Int32).toInt = ((0 : Nat) : Int) from rfl) (by omega))
  apply Wc.tc
  refine n_Model_ofLetter ?_
  refine w_Model_ofLetter_0 L (by rw [e]; omega) ?_
  exact ⟨by rw [n_eq e, ← (M.1.ofL b hB).1, Nat.add_zero], rfl⟩
theorem s_ofL1 (M : MLand h a l) (L : Lay h.2) (x : Int32) (b : Nat) (hb : x.toInt = (b : Int)) (hB : (b : Int) < (h.1 a 5).toInt) : Tc rod (d + 1) 223 [.inr (.inr (.inl (some 84))), .inl x, .inl 1] h (some (.inl (h.1 (a + 7) b))) h := by
  have hl := M.2.1
  have B8 := M.1.le
  have e := (n_add (n_add (n_add M.2.2.1 (show (46 : Int32).toInt = ((46 : Nat) : Int) from rfl) (by omega)) (n_mul (show (2 : Int32).toInt = ((2 : Nat) : Int) from rfl) hb (by omega)) (by omega)) (show (1 : Int32).toInt = ((1 : Nat) : Int) from rfl) (by omega))
  apply Wc.tc
  refine n_Model_ofLetter ?_
  refine w_Model_ofLetter_0 L (by rw [e]; omega) ?_
  exact ⟨by rw [n_eq e, ← (M.1.ofL b hB).2, show l + 46 + 2 * b + 1 = l + 47 + 2 * b by omega], rfl⟩
theorem s_mroad (M : MLand h a l) (L : Lay h.2) (x y : Int32) (b w : Nat) (hb : x.toInt = (b : Int)) (hw : y.toInt = (w : Int)) (hB : b < 6) (hw5 : w < 6) : Tc rod (d + 1) 225 [.inr (.inr (.inl (some 84))), .inl x, .inl y] h (some (.inl (h.1 (a + 8) (6 * b + w)))) h := by
  have hl := M.2.1
  have e := (n_add (n_add (n_add M.2.2.1 (show (54 : Int32).toInt = ((54 : Nat) : Int) from rfl) (by omega)) (n_mul (show (6 : Int32).toInt = ((6 : Nat) : Int) from rfl) hb (by omega)) (by omega)) hw (by omega))
  apply Wc.tc
  refine n_Model_road ?_
  refine w_Model_road_0 L (by rw [e]; omega) ?_
  exact ⟨by rw [n_eq e, ← M.1.ofR (6 * b + w) (by omega), show l + 54 + (6 * b + w) = l + 54 + 6 * b + w by omega], rfl⟩
theorem s_misTown (M : MLand h a l) (L : Lay h.2) (x : Int32) : Tc rod (d + 2) 224 [.inr (.inr (.inl (some 84))), .inl x] h (some (.inl (if 0 ≤ x.toInt ∧ x.toInt < (h.1 a 0).toInt then 1 else 0))) h := by
  have B8 := M.1.tw
  have e : ((h.1 84 13) - (1 : Int32)).toInt = (h.1 a 0).toInt - 1 := by rw [M.2.2.2.1]; exact i32_sub (by show _ ≤ _ - (1 : Int); omega) (by show _ - (1 : Int) ≤ _; omega)
  have e0 : (0 : Int32).toInt = 0 := rfl
  apply Wc.tc
  refine n_Model_isTown ?_
  refine w_Model_isTown_0 L (Tc.wc (s_isIn _ _ _ _)) (Is.k ?_)
  refine w_Model_isTown_11 (by first | exact Or.inl rfl | exact Or.inr rfl | exact or01 | assumption) ?_
  exact ⟨by simp only [e, e0, Int.le_sub_one_iff], rfl⟩
theorem s_misBuyer (M : MLand h a l) (L : Lay h.2) (x : Int32) : Tc rod (d + 2) 220 [.inr (.inr (.inl (some 84))), .inl x] h (some (.inl (if 0 ≤ x.toInt ∧ x.toInt < (h.1 a 4).toInt then 1 else 0))) h := by
  have B8 := M.1.bu
  have e : ((h.1 84 14) - (1 : Int32)).toInt = (h.1 a 4).toInt - 1 := by rw [M.2.2.2.2.1]; exact i32_sub (by show _ ≤ _ - (1 : Int); omega) (by show _ - (1 : Int) ≤ _; omega)
  have e0 : (0 : Int32).toInt = 0 := rfl
  apply Wc.tc
  refine n_Model_isBuyer ?_
  refine w_Model_isBuyer_0 L (Tc.wc (s_isIn _ _ _ _)) (Is.k ?_)
  refine w_Model_isBuyer_11 (by first | exact Or.inl rfl | exact Or.inr rfl | exact or01 | assumption) ?_
  exact ⟨by simp only [e, e0, Int.le_sub_one_iff], rfl⟩
theorem s_misSheet (M : MLand h a l) (L : Lay h.2) (x : Int32) : Tc rod (d + 2) 222 [.inr (.inr (.inl (some 84))), .inl x] h (some (.inl (if 0 ≤ x.toInt ∧ x.toInt < (h.1 a 5).toInt then 1 else 0))) h := by
  have B8 := M.1.le
  have e : ((h.1 84 15) - (1 : Int32)).toInt = (h.1 a 5).toInt - 1 := by rw [M.2.2.2.2.2]; exact i32_sub (by show _ ≤ _ - (1 : Int); omega) (by show _ - (1 : Int) ≤ _; omega)
  have e0 : (0 : Int32).toInt = 0 := rfl
  apply Wc.tc
  refine n_Model_isSheet ?_
  refine w_Model_isSheet_0 L (Tc.wc (s_isIn _ _ _ _)) (Is.k ?_)
  refine w_Model_isSheet_11 (by first | exact Or.inl rfl | exact Or.inr rfl | exact or01 | assumption) ?_
  exact ⟨by simp only [e, e0, Int.le_sub_one_iff], rfl⟩
theorem scrI (c : Nat) (hc : 45 ≤ c ∧ c < 98 ∧ c ≠ 83 ∧ c ≠ 85 ∧ c ≠ 86) : Scr c := by simp only [Scr]; omega
theorem MLand.si {c j : Nat} {v : Int32} (M : MLand h a l) (ha : a + 9 ≤ 45) (hc : 87 ≤ c ∧ c < 98) : MLand (sI h c j v) a l := M.keep (Keep.rfl.si (scrI c (by omega))) ha (sI_ne (by omega)) (sI_ne (by omega)) (sI_ne (by omega)) (sI_ne (by omega))
theorem INV.landK (hI : INV h) {x : Int32} (hx : 0 ≤ x.toInt ∧ x.toInt < (h.1 3 0).toInt) : LandA h.2 (8 + 18 * x.toNatClampNeg) ∧ LandRel h (8 + 18 * x.toNatClampNeg) (610 + 90 * x.toNatClampNeg) ∧ 8 + 18 * x.toNatClampNeg + 9 ≤ 45 ∧ x.toNatClampNeg < 2 := by
  have q := hI.many 0 (by omega)
  have e := n_of hx.1
  have t := hI.land x.toNatClampNeg (by omega)
  exact ⟨t.1, t.2.1, by omega, by omega⟩
theorem s_place0 (x : Int32) (h : MH) : Tc rod (d + 1) 216 [.inl 0, .inl x] h (some (.inl (610 + 90 * x))) h := s_placeOf 0 x 0 rfl (by omega) h
theorem s_place1 (x : Int32) (h : MH) : Tc rod (d + 1) 216 [.inl 1, .inl x] h (some (.inl (790 + 121 * x))) h := s_placeOf 1 x 1 rfl (by omega) h
theorem s_place2 (x : Int32) (h : MH) : Tc rod (d + 1) 216 [.inl 2, .inl x] h (some (.inl (1032 + 41 * x))) h := s_placeOf 2 x 2 rfl (by omega) h
theorem s_place3 (x : Int32) (h : MH) : Tc rod (d + 1) 216 [.inl 3, .inl x] h (some (.inl (1114 + 16 * x))) h := s_placeOf 3 x 3 rfl (by omega) h
theorem s_isLand1 (hI : INV h) (x : Int32) (k : Nat) (ex : x.toInt = (k : Int)) (hk : (k : Int) < (h.1 3 0).toInt) : Wc rod (d + 3) 219 [.inr (.inr (.inl (some 84))), .inl x] h (fun r h' => r = some (.inl 1) ∧ Keep h h' ∧ MLand h' (8 + 18 * k) (610 + 90 * k)) := by
  have L := hI.lay
  have q := hI.many 0 (by omega)
  have r := (hI.land k hk).2.1
  have e := (n_add (show (610 : Int32).toInt = ((610 : Nat) : Int) from rfl) (n_mul (show (90 : Int32).toInt = ((90 : Nat) : Int) from rfl) ex (by omega)) (by omega))
  have e1 := n_add e (show (1 : Int32).toInt = ((1 : Nat) : Int) from rfl) (by omega)
  have e2 := n_add e (show (2 : Int32).toInt = ((2 : Nat) : Int) from rfl) (by omega)
  refine n_Model_isLand ?_
  refine w_Model_isLand_0 L (Tc.wc (s_isOf hI _ _ 0 rfl (by omega))) (Is.k ?_)
  refine w_Model_isLand_6 (fun c6 => ?_) (fun c6 => (by exfalso; simp only [ite01t] at c6; omega))
  try simp only [ite01t, ite01v, Int32.reduceToInt, t_m1, t_m2, t_m1000, Decidable.not_not] at c6
  refine w_Model_isLand_11 (Tc.wc (s_place0 _ _)) (Is.k ?_)
  refine w_Model_isLand_17 L ?_
  refine w_Model_isLand_20 L (by simp (disch := omega) only [sI_same, sI_nc, sI_nj]; rw [e]; omega) ?_
  refine w_Model_isLand_33 L (by simp (disch := omega) only [sI_same, sI_nc, sI_nj]; rw [e1]; omega) ?_
  refine w_Model_isLand_48 L (by simp (disch := omega) only [sI_same, sI_nc, sI_nj]; rw [e2]; omega) ?_
  refine w_Model_isLand_63 ?_
  refine ⟨rfl, (((Keep.rfl.si (scrI 84 (by omega))).si (scrI 84 (by omega))).si (scrI 84 (by omega))).si (scrI 84 (by omega)), ?_⟩
  refine ⟨r.keep (fun c h1 h2 => funext fun j => by simp (disch := omega) only [sI_same, sI_nc, sI_nj]) (funext fun j => by simp (disch := omega) only [sI_same, sI_nc, sI_nj]), by omega, ?_, ?_, ?_, ?_⟩
  · simp (disch := omega) only [sI_same, sI_nc, sI_nj]; exact e
  · simp (disch := omega) only [sI_same, sI_nc, sI_nj]; rw [n_eq e]; exact r.1.symm
  · simp (disch := omega) only [sI_same, sI_nc, sI_nj]; rw [n_eq e1]; exact r.2.1.symm
  · simp (disch := omega) only [sI_same, sI_nc, sI_nj]; rw [n_eq e2]; exact r.2.2.1.symm
theorem s_isLand0 (hI : INV h) (x : Int32) (hk : ¬ (0 ≤ x.toInt ∧ x.toInt < (h.1 3 0).toInt)) : Tc rod (d + 3) 219 [.inr (.inr (.inl (some 84))), .inl x] h (some (.inl (0))) h := by
  have L := hI.lay
  apply Wc.tc
  refine n_Model_isLand ?_
  refine w_Model_isLand_0 L (Tc.wc (s_isOf hI _ _ 0 rfl (by omega))) (Is.k ?_)
  refine w_Model_isLand_6 (fun c6 => (by exfalso; simp only [ite01t] at c6; omega)) (fun c6 => ?_)
  try simp only [ite01t, ite01v, Int32.reduceToInt, t_m1, t_m2, t_m1000, Decidable.not_not] at c6
  refine w_Model_isLand_9 ?_
  exact ⟨rfl, rfl⟩
/-- owes, means, fears, bought of the reference are as told -/
def ArrT (h : MH) (a : Nat) : Prop := ∀ b : Nat, (b : Int) < (h.1 a 4).toInt → h.1 88 b = h.1 (a + 3) b ∧ h.1 89 b = h.1 (a + 4) b ∧ h.1 90 b = h.1 (a + 5) b ∧ h.1 91 b = 0
theorem s_asTold (M : MLand h a l) (L : Lay h.2) (ha : a + 9 ≤ 45) : Wc rod (d + 2) 227 [.inr (.inr (.inl (some 84)))] h (fun r h' => r = none ∧ Keep h h' ∧ MLand h' a l ∧ ArrT h' a) := by
  have B8 := M.1.bu
  refine n_Model_asTold ?_
  refine w_Model_asTold_0 rfl ?_
  refine Wb.upf (R := h.2) (f := h.1) (h.1 a 4).toInt.toNat (fun j L' f => ∃ (x : Int32), L' = [some (.inr (.inr (.inl (some 84)))), some (.inl x)] ∧ x.toInt = (j : Int) ∧ Keep h (f, h.2) ∧ (∀ i, f 84 i = h.1 84 i) ∧ ∀ b, b < j → f 88 b = h.1 (a + 3) b ∧ f 89 b = h.1 (a + 4) b ∧ f 90 b = h.1 (a + 5) b ∧ f 91 b = 0) ?_ (Nat.zero_le _) ⟨0, rfl, rfl, Keep.rfl, fun _ => rfl, fun b hb => absurd hb (Nat.not_lt_zero b)⟩
  rintro j _ f hj ⟨x, rfl, hx, K, e84, arr⟩ ih
  have ex := n_eq hx
  have M : MLand (f, h.2) a l := M.keep K ha (e84 _) (e84 _) (e84 _) (e84 _)
  have ea : f a 4 = h.1 a 4 := by rw [show f a = h.1 a from K.2 a (by simp only [Scr]; omega)]
  have hB : f 84 14 = h.1 a 4 := (M.2.2.2.2.1).trans ea
  refine w_Model_asTold_2 L (fun c2 => ?_) (fun c2 => ?_)
  · try simp only [ite01t, ite01v, Int32.reduceToInt, t_m1, t_m2, t_m1000, Decidable.not_not] at c2
    simp only [hB] at c2
    refine w_Model_asTold_59 ?_
    have hj : j = (h.1 a 4).toInt.toNat := by omega
    refine ⟨rfl, K, M, fun b hb => ?_⟩
    have hb : (b : Int) < (f a 4).toInt := hb
    rw [ea] at hb
    have k3 : f (a + 3) = h.1 (a + 3) := K.2 _ (by simp only [Scr]; omega)
    have k4 : f (a + 4) = h.1 (a + 4) := K.2 _ (by simp only [Scr]; omega)
    have k5 : f (a + 5) = h.1 (a + 5) := K.2 _ (by simp only [Scr]; omega)
    have := arr b (by omega)
    show f 88 b = f (a + 3) b ∧ f 89 b = f (a + 4) b ∧ f 90 b = f (a + 5) b ∧ f 91 b = 0
    rw [k3, k4, k5]
    exact this
  · try simp only [ite01t, ite01v, Int32.reduceToInt, t_m1, t_m2, t_m1000, Decidable.not_not] at c2
    simp only [hB] at c2
    refine w_Model_asTold_10 L (Tc.wc (s_of M L x 2 j 2 hx rfl (by rw [show (f, h.2).1 a 4 = h.1 a 4 from ea]; omega) (by omega))) (Is.k ?_)
    refine w_Model_asTold_21 (L.1 _ _ rfl) (by first | assumption | omega | (refine ⟨?_, ?_⟩ <;> first | assumption | omega)) ?_
    refine w_Model_asTold_22 L (Tc.wc (s_of (M.si ha (by omega)) L x 3 j 3 hx rfl (by rw [sI_nc (by omega)]; rw [show (f, h.2).1 a 4 = h.1 a 4 from ea]; omega) (by omega))) (Is.k ?_)
    refine w_Model_asTold_33 (L.1 _ _ rfl) (by first | assumption | omega | (refine ⟨?_, ?_⟩ <;> first | assumption | omega)) ?_
    refine w_Model_asTold_34 L (Tc.wc (s_of ((M.si ha (by omega)).si ha (by omega)) L x 4 j 4 hx rfl (by rw [sI_nc (by omega), sI_nc (by omega)]; rw [show (f, h.2).1 a 4 = h.1 a 4 from ea]; omega) (by omega))) (Is.k ?_)
    refine w_Model_asTold_45 (L.1 _ _ rfl) (by first | assumption | omega | (refine ⟨?_, ?_⟩ <;> first | assumption | omega)) ?_
    refine w_Model_asTold_46 L (by first | assumption | omega | (refine ⟨?_, ?_⟩ <;> first | assumption | omega)) ?_
    refine w_Model_asTold_53 rfl ?_
    rw [ex]
    refine ih (by omega) _ _ ⟨_, rfl, t_succ hx (by omega), (((K.si (scrI 88 (by omega))).si (scrI 89 (by omega))).si (scrI 90 (by omega))).si (scrI 91 (by omega)), fun i => ?_, fun b hb => ?_⟩
    · have := e84 i; simp (disch := omega) only [sI_same, sI_nc, sI_nj, reduceIte, Nat.reduceEqDiff, and_true, and_false, true_and, false_and, and_self]; exact this
    · have k3 : f (a + 1 + 2) = h.1 (a + 3) := K.2 _ (by simp only [Scr]; omega)
      have k4 : f (a + 1 + 3) = h.1 (a + 4) := K.2 _ (by simp only [Scr]; omega)
      have k5 : f (a + 1 + 4) = h.1 (a + 5) := K.2 _ (by simp only [Scr]; omega)
      by_cases hbj : b = j
      · subst hbj; simp (disch := omega) only [sI_same, sI_nc, sI_nj, reduceIte, Nat.reduceEqDiff, and_true, and_false, true_and, false_and, and_self, k3, k4, k5]
      · have := arr b (by omega); simp (disch := omega) only [sI_same, sI_nc, sI_nj, reduceIte, Nat.reduceEqDiff, and_true, and_false, true_and, false_and, and_self, hbj]; exact this
theorem mn_le {o y : Int32} (c : o.toInt ≤ y.toInt) : (if o < y then o else y) = o := by
  by_cases q : o < y
  · rw [if_pos q]
  · rw [if_neg q]
    exact i32_of (by rw [Int32.lt_iff_toInt_lt] at q; omega)
theorem mn_gt {o y : Int32} (c : ¬ o.toInt ≤ y.toInt) : (if o < y then o else y) = y := by
  rw [if_neg (by rw [Int32.lt_iff_toInt_lt]; omega)]
theorem m2 (f o : Int32) : f * o * 2 = 2 * f * o := by rw [Int32.mul_comm (f * o) 2, Int32.mul_assoc]
theorem s_mwants (M : MLand h a l) (L : Lay h.2) (x : Int32) (b : Nat) (hb : x.toInt = (b : Int)) (hB : (b : Int) < (h.1 a 4).toInt) (y p : Int32) : Tc rod (d + 2) 228 [.inr (.inr (.inl (some 84))), .inl x, .inl y, .inl p] h (some (.inl (if wantsF (h.1 (a + 1) b) (h.1 88 b) (h.1 89 b) (h.1 90 b) y p = true then 1 else 0))) h := by
  have B8 := M.1.bu
  have ex := n_eq hb
  apply Wc.tc
  refine n_Model_wants ?_
  refine w_Model_wants_0 L (by first | assumption | omega | (refine ⟨?_, ?_⟩ <;> first | assumption | omega)) (fun c0 => ?_) (fun c0 => ?_)
  · try simp only [ite01t, ite01v, Int32.reduceToInt, t_m1, t_m2, t_m1000, Decidable.not_not, ex] at c0
    refine w_Model_wants_12 L (Tc.wc (s_of M L x 0 b 0 hb rfl hB (by omega))) (Is.k ?_)
    refine w_Model_wants_18 rfl (fun c18 => ?_) (fun c18 => ?_)
    · try simp only [ite01t, ite01v, Int32.reduceToInt, t_m1, t_m2, t_m1000, Decidable.not_not, ex] at c18
      refine w_Model_wants_44 L (by first | assumption | omega | (refine ⟨?_, ?_⟩ <;> first | assumption | omega)) (fun c44 => ?_) (fun c44 => ?_)
      · try simp only [ite01t, ite01v, Int32.reduceToInt, t_m1, t_m2, t_m1000, Decidable.not_not, ex] at c44
        refine w_Model_wants_55 L (by first | assumption | omega | (refine ⟨?_, ?_⟩ <;> first | assumption | omega)) (fun c55 => ?_) (fun c55 => ?_)
        · try simp only [ite01t, ite01v, Int32.reduceToInt, t_m1, t_m2, t_m1000, Decidable.not_not, ex] at c55
          refine w_Model_wants_69 L (by first | assumption | omega | (refine ⟨?_, ?_⟩ <;> first | assumption | omega)) ?_
          refine w_Model_wants_75 (fun c75 => ?_) (fun c75 => ?_)
          · try simp only [ite01t, ite01v, Int32.reduceToInt, t_m1, t_m2, t_m1000, Decidable.not_not, ex] at c75
            refine w_Model_wants_88 ?_
            refine w_Model_wants_89 L (by first | assumption | omega | (refine ⟨?_, ?_⟩ <;> first | assumption | omega)) (fun c89 => ?_) (fun c89 => ?_)
            · try simp only [ite01t, ite01v, Int32.reduceToInt, t_m1, t_m2, t_m1000, Decidable.not_not, ex] at c89
              refine w_Model_wants_109 ?_
              refine w_Model_wants_110 (fun c110 => ?_) (fun c110 => ?_)
              · try simp only [ite01t, ite01v, Int32.reduceToInt, t_m1, t_m2, t_m1000, Decidable.not_not, ex] at c110
                refine w_Model_wants_118 ?_
                refine w_Model_wants_119 (by first | exact Or.inl rfl | exact Or.inr rfl | exact or01 | assumption) ?_
                refine ⟨?_, rfl⟩
                simp only [ex, Nat.add_zero, Int32.mul_one, Int32.mul_comm _ 2, Int32.mul_assoc] at *
                simp only [wantsF, worthF, Bool.and_eq_true, decide_eq_true_eq, Int32.mul_assoc]
                first | rw [mn_le c55] | rw [mn_gt c55] | skip
                first | (exfalso; omega) | rw [if_pos (by omega)] | rw [if_neg (by omega)]
              · try simp only [ite01t, ite01v, Int32.reduceToInt, t_m1, t_m2, t_m1000, Decidable.not_not, ex] at c110
                refine w_Model_wants_114 ?_
                refine w_Model_wants_119 (by first | exact Or.inl rfl | exact Or.inr rfl | exact or01 | assumption) ?_
                refine ⟨?_, rfl⟩
                simp only [ex, Nat.add_zero, Int32.mul_one, Int32.mul_comm _ 2, Int32.mul_assoc] at *
                simp only [wantsF, worthF, Bool.and_eq_true, decide_eq_true_eq, Int32.mul_assoc]
                first | rw [mn_le c55] | rw [mn_gt c55] | skip
                first | (exfalso; omega) | rw [if_pos (by omega)] | rw [if_neg (by omega)]
            · try simp only [ite01t, ite01v, Int32.reduceToInt, t_m1, t_m2, t_m1000, Decidable.not_not, ex] at c89
              refine w_Model_wants_105 ?_
              refine w_Model_wants_110 (fun c110 => ?_) (fun c110 => ?_)
              · try simp only [ite01t, ite01v, Int32.reduceToInt, t_m1, t_m2, t_m1000, Decidable.not_not, ex] at c110
                refine w_Model_wants_118 ?_
                refine w_Model_wants_119 (by first | exact Or.inl rfl | exact Or.inr rfl | exact or01 | assumption) ?_
                refine ⟨?_, rfl⟩
                simp only [ex, Nat.add_zero, Int32.mul_one, Int32.mul_comm _ 2, Int32.mul_assoc] at *
                simp only [wantsF, worthF, Bool.and_eq_true, decide_eq_true_eq, Int32.mul_assoc]
                first | rw [mn_le c55] | rw [mn_gt c55] | skip
                first | (exfalso; omega) | rw [if_pos (by omega)] | rw [if_neg (by omega)]
              · try simp only [ite01t, ite01v, Int32.reduceToInt, t_m1, t_m2, t_m1000, Decidable.not_not, ex] at c110
                refine w_Model_wants_114 ?_
                refine w_Model_wants_119 (by first | exact Or.inl rfl | exact Or.inr rfl | exact or01 | assumption) ?_
                refine ⟨?_, rfl⟩
                simp only [ex, Nat.add_zero, Int32.mul_one, Int32.mul_comm _ 2, Int32.mul_assoc] at *
                simp only [wantsF, worthF, Bool.and_eq_true, decide_eq_true_eq, Int32.mul_assoc]
                first | rw [mn_le c55] | rw [mn_gt c55] | skip
                first | (exfalso; omega) | rw [if_pos (by omega)] | rw [if_neg (by omega)]
          · try simp only [ite01t, ite01v, Int32.reduceToInt, t_m1, t_m2, t_m1000, Decidable.not_not, ex] at c75
            refine w_Model_wants_84 ?_
            refine w_Model_wants_89 L (by first | assumption | omega | (refine ⟨?_, ?_⟩ <;> first | assumption | omega)) (fun c89 => ?_) (fun c89 => ?_)
            · try simp only [ite01t, ite01v, Int32.reduceToInt, t_m1, t_m2, t_m1000, Decidable.not_not, ex] at c89
              refine w_Model_wants_109 ?_
              refine w_Model_wants_110 (fun c110 => ?_) (fun c110 => ?_)
              · try simp only [ite01t, ite01v, Int32.reduceToInt, t_m1, t_m2, t_m1000, Decidable.not_not, ex] at c110
                refine w_Model_wants_118 ?_
                refine w_Model_wants_119 (by first | exact Or.inl rfl | exact Or.inr rfl | exact or01 | assumption) ?_
                refine ⟨?_, rfl⟩
                simp only [ex, Nat.add_zero, Int32.mul_one, Int32.mul_comm _ 2, Int32.mul_assoc] at *
                simp only [wantsF, worthF, Bool.and_eq_true, decide_eq_true_eq, Int32.mul_assoc]
                first | rw [mn_le c55] | rw [mn_gt c55] | skip
                first | (exfalso; omega) | rw [if_pos (by omega)] | rw [if_neg (by omega)]
              · try simp only [ite01t, ite01v, Int32.reduceToInt, t_m1, t_m2, t_m1000, Decidable.not_not, ex] at c110
                refine w_Model_wants_114 ?_
                refine w_Model_wants_119 (by first | exact Or.inl rfl | exact Or.inr rfl | exact or01 | assumption) ?_
                refine ⟨?_, rfl⟩
                simp only [ex, Nat.add_zero, Int32.mul_one, Int32.mul_comm _ 2, Int32.mul_assoc] at *
                simp only [wantsF, worthF, Bool.and_eq_true, decide_eq_true_eq, Int32.mul_assoc]
                first | rw [mn_le c55] | rw [mn_gt c55] | skip
                first | (exfalso; omega) | rw [if_pos (by omega)] | rw [if_neg (by omega)]
            · try simp only [ite01t, ite01v, Int32.reduceToInt, t_m1, t_m2, t_m1000, Decidable.not_not, ex] at c89
              refine w_Model_wants_105 ?_
              refine w_Model_wants_110 (fun c110 => ?_) (fun c110 => ?_)
              · try simp only [ite01t, ite01v, Int32.reduceToInt, t_m1, t_m2, t_m1000, Decidable.not_not, ex] at c110
                refine w_Model_wants_118 ?_
                refine w_Model_wants_119 (by first | exact Or.inl rfl | exact Or.inr rfl | exact or01 | assumption) ?_
                refine ⟨?_, rfl⟩
                simp only [ex, Nat.add_zero, Int32.mul_one, Int32.mul_comm _ 2, Int32.mul_assoc] at *
                simp only [wantsF, worthF, Bool.and_eq_true, decide_eq_true_eq, Int32.mul_assoc]
                first | rw [mn_le c55] | rw [mn_gt c55] | skip
                first | (exfalso; omega) | rw [if_pos (by omega)] | rw [if_neg (by omega)]
              · try simp only [ite01t, ite01v, Int32.reduceToInt, t_m1, t_m2, t_m1000, Decidable.not_not, ex] at c110
                refine w_Model_wants_114 ?_
                refine w_Model_wants_119 (by first | exact Or.inl rfl | exact Or.inr rfl | exact or01 | assumption) ?_
                refine ⟨?_, rfl⟩
                simp only [ex, Nat.add_zero, Int32.mul_one, Int32.mul_comm _ 2, Int32.mul_assoc] at *
                simp only [wantsF, worthF, Bool.and_eq_true, decide_eq_true_eq, Int32.mul_assoc]
                first | rw [mn_le c55] | rw [mn_gt c55] | skip
                first | (exfalso; omega) | rw [if_pos (by omega)] | rw [if_neg (by omega)]
        · try simp only [ite01t, ite01v, Int32.reduceToInt, t_m1, t_m2, t_m1000, Decidable.not_not, ex] at c55
          refine w_Model_wants_65 ?_
          refine w_Model_wants_75 (fun c75 => ?_) (fun c75 => ?_)
          · try simp only [ite01t, ite01v, Int32.reduceToInt, t_m1, t_m2, t_m1000, Decidable.not_not, ex] at c75
            refine w_Model_wants_88 ?_
            refine w_Model_wants_89 L (by first | assumption | omega | (refine ⟨?_, ?_⟩ <;> first | assumption | omega)) (fun c89 => ?_) (fun c89 => ?_)
            · try simp only [ite01t, ite01v, Int32.reduceToInt, t_m1, t_m2, t_m1000, Decidable.not_not, ex] at c89
              refine w_Model_wants_109 ?_
              refine w_Model_wants_110 (fun c110 => ?_) (fun c110 => ?_)
              · try simp only [ite01t, ite01v, Int32.reduceToInt, t_m1, t_m2, t_m1000, Decidable.not_not, ex] at c110
                refine w_Model_wants_118 ?_
                refine w_Model_wants_119 (by first | exact Or.inl rfl | exact Or.inr rfl | exact or01 | assumption) ?_
                refine ⟨?_, rfl⟩
                simp only [ex, Nat.add_zero, Int32.mul_one, Int32.mul_comm _ 2, Int32.mul_assoc] at *
                simp only [wantsF, worthF, Bool.and_eq_true, decide_eq_true_eq, Int32.mul_assoc]
                first | rw [mn_le c55] | rw [mn_gt c55] | skip
                first | (exfalso; omega) | rw [if_pos (by omega)] | rw [if_neg (by omega)]
              · try simp only [ite01t, ite01v, Int32.reduceToInt, t_m1, t_m2, t_m1000, Decidable.not_not, ex] at c110
                refine w_Model_wants_114 ?_
                refine w_Model_wants_119 (by first | exact Or.inl rfl | exact Or.inr rfl | exact or01 | assumption) ?_
                refine ⟨?_, rfl⟩
                simp only [ex, Nat.add_zero, Int32.mul_one, Int32.mul_comm _ 2, Int32.mul_assoc] at *
                simp only [wantsF, worthF, Bool.and_eq_true, decide_eq_true_eq, Int32.mul_assoc]
                first | rw [mn_le c55] | rw [mn_gt c55] | skip
                first | (exfalso; omega) | rw [if_pos (by omega)] | rw [if_neg (by omega)]
            · try simp only [ite01t, ite01v, Int32.reduceToInt, t_m1, t_m2, t_m1000, Decidable.not_not, ex] at c89
              refine w_Model_wants_105 ?_
              refine w_Model_wants_110 (fun c110 => ?_) (fun c110 => ?_)
              · try simp only [ite01t, ite01v, Int32.reduceToInt, t_m1, t_m2, t_m1000, Decidable.not_not, ex] at c110
                refine w_Model_wants_118 ?_
                refine w_Model_wants_119 (by first | exact Or.inl rfl | exact Or.inr rfl | exact or01 | assumption) ?_
                refine ⟨?_, rfl⟩
                simp only [ex, Nat.add_zero, Int32.mul_one, Int32.mul_comm _ 2, Int32.mul_assoc] at *
                simp only [wantsF, worthF, Bool.and_eq_true, decide_eq_true_eq, Int32.mul_assoc]
                first | rw [mn_le c55] | rw [mn_gt c55] | skip
                first | (exfalso; omega) | rw [if_pos (by omega)] | rw [if_neg (by omega)]
              · try simp only [ite01t, ite01v, Int32.reduceToInt, t_m1, t_m2, t_m1000, Decidable.not_not, ex] at c110
                refine w_Model_wants_114 ?_
                refine w_Model_wants_119 (by first | exact Or.inl rfl | exact Or.inr rfl | exact or01 | assumption) ?_
                refine ⟨?_, rfl⟩
                simp only [ex, Nat.add_zero, Int32.mul_one, Int32.mul_comm _ 2, Int32.mul_assoc] at *
                simp only [wantsF, worthF, Bool.and_eq_true, decide_eq_true_eq, Int32.mul_assoc]
                first | rw [mn_le c55] | rw [mn_gt c55] | skip
                first | (exfalso; omega) | rw [if_pos (by omega)] | rw [if_neg (by omega)]
          · try simp only [ite01t, ite01v, Int32.reduceToInt, t_m1, t_m2, t_m1000, Decidable.not_not, ex] at c75
            refine w_Model_wants_84 ?_
            refine w_Model_wants_89 L (by first | assumption | omega | (refine ⟨?_, ?_⟩ <;> first | assumption | omega)) (fun c89 => ?_) (fun c89 => ?_)
            · try simp only [ite01t, ite01v, Int32.reduceToInt, t_m1, t_m2, t_m1000, Decidable.not_not, ex] at c89
              refine w_Model_wants_109 ?_
              refine w_Model_wants_110 (fun c110 => ?_) (fun c110 => ?_)
              · try simp only [ite01t, ite01v, Int32.reduceToInt, t_m1, t_m2, t_m1000, Decidable.not_not, ex] at c110
                refine w_Model_wants_118 ?_
                refine w_Model_wants_119 (by first | exact Or.inl rfl | exact Or.inr rfl | exact or01 | assumption) ?_
                refine ⟨?_, rfl⟩
                simp only [ex, Nat.add_zero, Int32.mul_one, Int32.mul_comm _ 2, Int32.mul_assoc] at *
                simp only [wantsF, worthF, Bool.and_eq_true, decide_eq_true_eq, Int32.mul_assoc]
                first | rw [mn_le c55] | rw [mn_gt c55] | skip
                first | (exfalso; omega) | rw [if_pos (by omega)] | rw [if_neg (by omega)]
              · try simp only [ite01t, ite01v, Int32.reduceToInt, t_m1, t_m2, t_m1000, Decidable.not_not, ex] at c110
                refine w_Model_wants_114 ?_
                refine w_Model_wants_119 (by first | exact Or.inl rfl | exact Or.inr rfl | exact or01 | assumption) ?_
                refine ⟨?_, rfl⟩
                simp only [ex, Nat.add_zero, Int32.mul_one, Int32.mul_comm _ 2, Int32.mul_assoc] at *
                simp only [wantsF, worthF, Bool.and_eq_true, decide_eq_true_eq, Int32.mul_assoc]
                first | rw [mn_le c55] | rw [mn_gt c55] | skip
                first | (exfalso; omega) | rw [if_pos (by omega)] | rw [if_neg (by omega)]
            · try simp only [ite01t, ite01v, Int32.reduceToInt, t_m1, t_m2, t_m1000, Decidable.not_not, ex] at c89
              refine w_Model_wants_105 ?_
              refine w_Model_wants_110 (fun c110 => ?_) (fun c110 => ?_)
              · try simp only [ite01t, ite01v, Int32.reduceToInt, t_m1, t_m2, t_m1000, Decidable.not_not, ex] at c110
                refine w_Model_wants_118 ?_
                refine w_Model_wants_119 (by first | exact Or.inl rfl | exact Or.inr rfl | exact or01 | assumption) ?_
                refine ⟨?_, rfl⟩
                simp only [ex, Nat.add_zero, Int32.mul_one, Int32.mul_comm _ 2, Int32.mul_assoc] at *
                simp only [wantsF, worthF, Bool.and_eq_true, decide_eq_true_eq, Int32.mul_assoc]
                first | rw [mn_le c55] | rw [mn_gt c55] | skip
                first | (exfalso; omega) | rw [if_pos (by omega)] | rw [if_neg (by omega)]
              · try simp only [ite01t, ite01v, Int32.reduceToInt, t_m1, t_m2, t_m1000, Decidable.not_not, ex] at c110
                refine w_Model_wants_114 ?_
                refine w_Model_wants_119 (by first | exact Or.inl rfl | exact Or.inr rfl | exact or01 | assumption) ?_
                refine ⟨?_, rfl⟩
                simp only [ex, Nat.add_zero, Int32.mul_one, Int32.mul_comm _ 2, Int32.mul_assoc] at *
                simp only [wantsF, worthF, Bool.and_eq_true, decide_eq_true_eq, Int32.mul_assoc]
                first | rw [mn_le c55] | rw [mn_gt c55] | skip
                first | (exfalso; omega) | rw [if_pos (by omega)] | rw [if_neg (by omega)]
      · try simp only [ite01t, ite01v, Int32.reduceToInt, t_m1, t_m2, t_m1000, Decidable.not_not, ex] at c44
        refine w_Model_wants_53 ?_
        refine ⟨?_, rfl⟩
        simp only [ex, Nat.add_zero, Int32.mul_one, Int32.mul_comm _ 2, Int32.mul_assoc] at *
        simp only [wantsF, worthF, Bool.and_eq_true, decide_eq_true_eq, Int32.mul_assoc]
        first | rw [mn_le c55] | rw [mn_gt c55] | skip
        first | (exfalso; omega) | rw [if_pos (by omega)] | rw [if_neg (by omega)]
    · try simp only [ite01t, ite01v, Int32.reduceToInt, t_m1, t_m2, t_m1000, Decidable.not_not, ex] at c18
      refine w_Model_wants_26 L (by first | assumption | omega | (refine ⟨?_, ?_⟩ <;> first | assumption | omega)) (fun c26 => ?_) (fun c26 => ?_)
      · try simp only [ite01t, ite01v, Int32.reduceToInt, t_m1, t_m2, t_m1000, Decidable.not_not, ex] at c26
        refine w_Model_wants_42 ?_
        refine w_Model_wants_43 (by first | exact Or.inl rfl | exact Or.inr rfl | exact or01 | assumption) ?_
        refine ⟨?_, rfl⟩
        simp only [ex, Nat.add_zero, Int32.mul_one, Int32.mul_comm _ 2, Int32.mul_assoc] at *
        simp only [wantsF, worthF, Bool.and_eq_true, decide_eq_true_eq, Int32.mul_assoc]
        first | rw [mn_le c55] | rw [mn_gt c55] | skip
        first | (exfalso; omega) | rw [if_pos (by omega)] | rw [if_neg (by omega)]
      · try simp only [ite01t, ite01v, Int32.reduceToInt, t_m1, t_m2, t_m1000, Decidable.not_not, ex] at c26
        refine w_Model_wants_38 ?_
        refine w_Model_wants_43 (by first | exact Or.inl rfl | exact Or.inr rfl | exact or01 | assumption) ?_
        refine ⟨?_, rfl⟩
        simp only [ex, Nat.add_zero, Int32.mul_one, Int32.mul_comm _ 2, Int32.mul_assoc] at *
        simp only [wantsF, worthF, Bool.and_eq_true, decide_eq_true_eq, Int32.mul_assoc]
        first | rw [mn_le c55] | rw [mn_gt c55] | skip
        first | (exfalso; omega) | rw [if_pos (by omega)] | rw [if_neg (by omega)]
  · try simp only [ite01t, ite01v, Int32.reduceToInt, t_m1, t_m2, t_m1000, Decidable.not_not, ex] at c0
    refine w_Model_wants_10 ?_
    refine ⟨?_, rfl⟩
    simp only [ex, Nat.add_zero, Int32.mul_one, Int32.mul_comm _ 2, Int32.mul_assoc] at *
    simp only [wantsF, worthF, Bool.and_eq_true, decide_eq_true_eq, Int32.mul_assoc]
    first | rw [mn_le c55] | rw [mn_gt c55] | skip
    first | (exfalso; omega) | rw [if_pos (by omega)] | rw [if_neg (by omega)]
end M34
