/-! OPERATIONS fair, even -/
theorem td {x y : Int} : x.tdiv y = if 0 ≤ x then x.tdiv y else -((-x).tdiv y) := by
  split
  · rfl
  · rw [Int.neg_tdiv, Int.neg_neg]
theorem td2 {x y : Int} (hy : 0 ≤ y) : x.tdiv y = if 0 ≤ x then x / y else -((-x) / y) := by
  rw [td]
  split
  · rw [Int.tdiv_eq_ediv_of_nonneg (by assumption)]
  · rw [Int.tdiv_eq_ediv_of_nonneg (by omega)]
theorem sgn_msb (z : Int32) : 0 ≤ z.toInt ↔ z.toBitVec.msb = false := by
  have e : z.toInt = if z.toBitVec.msb then (z.toBitVec.toNat : Int) - (2 ^ 32 : Nat) else z.toBitVec.toNat := BitVec.toInt_eq_msb_cond z.toBitVec
  have lt := z.toBitVec.isLt
  rw [e]
  cases z.toBitVec.msb with
  | true => simp; omega
  | false => simp
theorem xor_sgn (x y : Int32) (hy : 0 ≤ y.toInt) : 0 ≤ (x ^^^ y).toInt ↔ 0 ≤ x.toInt := by
  have e : (x ^^^ y).toBitVec.msb = (x.toBitVec.msb ^^ y.toBitVec.msb) := BitVec.msb_xor
  rw [sgn_msb, sgn_msb, e, (sgn_msb y).mp hy, Bool.xor_false]
def DivOk (y : Int32) : Prop := y.toInt = 1 ∨ y.toInt = 2 ∨ y.toInt = 6 ∨ y.toInt = 24
theorem q_t {x y : Int32} (hy : DivOk y) : (x / y).toInt = if 0 ≤ x.toInt then x.toInt / y.toInt else -((-x.toInt) / y.toInt) := by
  have : 0 < y.toInt := by rcases hy with e | e | e | e <;> omega
  rw [i32_div this, td2 (by omega)]
theorem qm_t {x y : Int32} (hy : DivOk y) (hx : -30000 ≤ x.toInt ∧ x.toInt ≤ 30000) : (x / y * y).toInt = (x / y).toInt * y.toInt := by
  have q := q_t (x := x) hy
  refine i32_mul ?_ ?_
  · rcases hy with e | e | e | e <;> rw [e] at q ⊢ <;> rw [q] <;> split <;> omega
  · rcases hy with e | e | e | e <;> rw [e] at q ⊢ <;> rw [q] <;> split <;> omega
theorem r_t {x y : Int32} (hy : DivOk y) (hx : -30000 ≤ x.toInt ∧ x.toInt ≤ 30000) : (x - x / y * y).toInt = x.toInt - (x / y).toInt * y.toInt := by
  have q := q_t (x := x) hy
  have m := qm_t hy hx
  rw [i32_sub, m]
  · rw [m]
    rcases hy with e | e | e | e <;> rw [e] at q ⊢ <;> rw [q] <;> split <;> omega
  · rw [m]
    rcases hy with e | e | e | e <;> rw [e] at q ⊢ <;> rw [q] <;> split <;> omega
theorem ofI_t {z : Int} (h1 : -2147483648 ≤ z) (h2 : z ≤ 2147483647) : (Int32.ofInt z).toInt = z := by
  exact Int32.toInt_ofInt_of_le (by omega) (by omega)
section M50
variable {rod : Nat → Nat × (Nat → Int32)} {d : Nat} {h : MH} {a l : Nat}
theorem s_floorMod (x y : Int32) (hy : DivOk y) (hx : -30000 ≤ x.toInt ∧ x.toInt ≤ 30000) (h : MH) : Tc rod (d + 1) 183 [.inl x, .inl y] h (some (.inl (Int32.ofInt (x.toInt % y.toInt)))) h := by
  have y0 : y ≠ 0 := fun q => by rw [q] at hy; rcases hy with e | e | e | e <;> exact absurd e (by decide)
  have em : -2147483648 ≤ x.toInt % y.toInt ∧ x.toInt % y.toInt ≤ 2147483647 := by rcases hy with e | e | e | e <;> rw [e] <;> omega
  apply Wc.tc
  refine n_Math_floorMod ?_
  refine w_Math_floorMod_0 (by first | assumption | omega) (fun kc0 => ?_) (fun kc0 => ?_)
  · try simp only [ite01t, ite01v, Int32.reduceToInt, t_m1, t_m2, t_m1000, Decidable.not_not] at kc0
    refine w_Math_floorMod_18 ?_
    have q := q_t (x := x) hy
    have rr := r_t hy hx
    have qm := qm_t hy hx
    have xs := xor_sgn x y (by rcases hy with e | e | e | e <;> omega)
    refine ⟨congrArg (fun z => some (Sum.inl z)) (i32_of ?_), rfl⟩
    rw [ofI_t em.1 em.2, rr]
    first | (rw [rr] at kc10; rcases hy with e | e | e | e <;> rw [e] at q kc10 ⊢ <;> rw [q] at kc10 ⊢ <;> (split at kc10) <;> split <;> omega) | (rcases hy with e | e | e | e <;> rw [e] at q ⊢ <;> rw [q] <;> split <;> omega)
  · try simp only [ite01t, ite01v, Int32.reduceToInt, t_m1, t_m2, t_m1000, Decidable.not_not] at kc0
    refine w_Math_floorMod_10 (fun kc10 => ?_) (fun kc10 => ?_)
    · try simp only [ite01t, ite01v, Int32.reduceToInt, t_m1, t_m2, t_m1000, Decidable.not_not] at kc10
      refine w_Math_floorMod_18 ?_
      have q := q_t (x := x) hy
      have rr := r_t hy hx
      have qm := qm_t hy hx
      have xs := xor_sgn x y (by rcases hy with e | e | e | e <;> omega)
      refine ⟨congrArg (fun z => some (Sum.inl z)) (i32_of ?_), rfl⟩
      rw [ofI_t em.1 em.2, rr]
      first | (rw [rr] at kc10; rcases hy with e | e | e | e <;> rw [e] at q kc10 ⊢ <;> rw [q] at kc10 ⊢ <;> (split at kc10) <;> split <;> omega) | (rcases hy with e | e | e | e <;> rw [e] at q ⊢ <;> rw [q] <;> split <;> omega)
    · try simp only [ite01t, ite01v, Int32.reduceToInt, t_m1, t_m2, t_m1000, Decidable.not_not] at kc10
      refine w_Math_floorMod_14 ?_
      have q := q_t (x := x) hy
      have rr := r_t hy hx
      have qm := qm_t hy hx
      have xs := xor_sgn x y (by rcases hy with e | e | e | e <;> omega)
      refine ⟨congrArg (fun z => some (Sum.inl z)) (i32_of ?_), rfl⟩
      rw [ofI_t em.1 em.2, i32_add (by rw [rr]; rcases hy with e | e | e | e <;> rw [e] at q ⊢ <;> rw [q] <;> split <;> omega) (by rw [rr]; rcases hy with e | e | e | e <;> rw [e] at q ⊢ <;> rw [q] <;> split <;> omega), rr]
      rw [rr] at kc10
      rcases hy with e | e | e | e <;> rw [e] at q kc10 ⊢ <;> rw [q] at kc10 ⊢ <;> (split at kc10) <;> split <;> omega
theorem s_floorDiv (x y : Int32) (hy : DivOk y) (hx : -30000 ≤ x.toInt ∧ x.toInt ≤ 30000) (h : MH) : Tc rod (d + 1) 184 [.inl x, .inl y] h (some (.inl (Int32.ofInt (x.toInt / y.toInt)))) h := by
  have y0 : y ≠ 0 := fun q => by rw [q] at hy; rcases hy with e | e | e | e <;> exact absurd e (by decide)
  have em : -2147483648 ≤ x.toInt / y.toInt ∧ x.toInt / y.toInt ≤ 2147483647 := by rcases hy with e | e | e | e <;> rw [e] <;> omega
  apply Wc.tc
  refine n_Math_floorDiv ?_
  refine w_Math_floorDiv_0 (by first | assumption | omega) (fun kc0 => ?_) (fun kc0 => ?_)
  · try simp only [ite01t, ite01v, Int32.reduceToInt, t_m1, t_m2, t_m1000, Decidable.not_not] at kc0
    refine w_Math_floorDiv_21 ?_
    have q := q_t (x := x) hy
    have rr := r_t hy hx
    have qm := qm_t hy hx
    have xs := xor_sgn x y (by rcases hy with e | e | e | e <;> omega)
    refine ⟨congrArg (fun z => some (Sum.inl z)) (i32_of ?_), rfl⟩
    rw [ofI_t em.1 em.2]
    first | (rw [qm] at kc10; rcases hy with e | e | e | e <;> rw [e] at q kc10 ⊢ <;> rw [q] at kc10 ⊢ <;> (split at kc10) <;> split <;> omega) | (rcases hy with e | e | e | e <;> rw [e] at q ⊢ <;> rw [q] <;> split <;> omega)
  · try simp only [ite01t, ite01v, Int32.reduceToInt, t_m1, t_m2, t_m1000, Decidable.not_not] at kc0
    refine w_Math_floorDiv_10 (fun kc10 => ?_) (fun kc10 => ?_)
    · try simp only [ite01t, ite01v, Int32.reduceToInt, t_m1, t_m2, t_m1000, Decidable.not_not] at kc10
      refine w_Math_floorDiv_21 ?_
      have q := q_t (x := x) hy
      have rr := r_t hy hx
      have qm := qm_t hy hx
      have xs := xor_sgn x y (by rcases hy with e | e | e | e <;> omega)
      refine ⟨congrArg (fun z => some (Sum.inl z)) (i32_of ?_), rfl⟩
      rw [ofI_t em.1 em.2]
      first | (rw [qm] at kc10; rcases hy with e | e | e | e <;> rw [e] at q kc10 ⊢ <;> rw [q] at kc10 ⊢ <;> (split at kc10) <;> split <;> omega) | (rcases hy with e | e | e | e <;> rw [e] at q ⊢ <;> rw [q] <;> split <;> omega)
    · try simp only [ite01t, ite01v, Int32.reduceToInt, t_m1, t_m2, t_m1000, Decidable.not_not] at kc10
      refine w_Math_floorDiv_17 ?_
      have q := q_t (x := x) hy
      have rr := r_t hy hx
      have qm := qm_t hy hx
      have xs := xor_sgn x y (by rcases hy with e | e | e | e <;> omega)
      refine ⟨congrArg (fun z => some (Sum.inl z)) (i32_of ?_), rfl⟩
      rw [ofI_t em.1 em.2, i32_sub (by show _ ≤ _ - (1 : Int); rcases hy with e | e | e | e <;> rw [e] at q <;> rw [q] <;> split <;> omega) (by show _ - (1 : Int) ≤ _; rcases hy with e | e | e | e <;> rw [e] at q <;> rw [q] <;> split <;> omega)]
      show _ - (1 : Int) = _
      rw [qm] at kc10
      rcases hy with e | e | e | e <;> rw [e] at q kc10 ⊢ <;> rw [q] at kc10 ⊢ <;> (split at kc10) <;> split <;> omega
theorem DivOk.f {p : Nat} (p1 : 1 ≤ p ∧ p ≤ 4) : DivOk (Int32.ofNat (fctN p)) := by
  rcases (show p = 1 ∨ p = 2 ∨ p = 3 ∨ p = 4 by omega) with rfl | rfl | rfl | rfl
  · exact Or.inl rfl
  · exact Or.inr (Or.inl rfl)
  · exact Or.inr (Or.inr (Or.inl rfl))
  · exact Or.inr (Or.inr (Or.inr rfl))
theorem BargRel.wb (r : BargRel h a l) : ∀ s, s < 16 → 0 ≤ (h.1 (a + 1) s).toInt ∧ (h.1 (a + 1) s).toInt ≤ 40 := by
  intro s hs
  by_cases c : s = 0
  · rw [c, r.2.2.1]; exact ⟨by decide, by decide⟩
  · exact (r.2.2.2 s (by omega) hs).2
def SG (W : Nat → Int32) (p j : Nat) : Int32 := sumG W p j (2 ^ p)
def offF (W : Nat → Int32) (p j : Nat) : Int32 := Int32.ofInt ((SG W p j).toInt % (Int32.ofNat (fctN p)).toInt)
def dvF (W : Nat → Int32) (p j : Nat) : Int32 := Int32.ofInt ((SG W p j).toInt / (Int32.ofNat (fctN p)).toInt)
def leftF (W : Nat → Int32) (p : Nat) : Nat → Int32
  | 0 => W (2 ^ p - 1)
  | j + 1 => leftF W p j - dvF W p j
def aheadF (W : Nat → Int32) (p i n : Nat) : Int32 := sumF (fun j => if (offF W p i).toInt < (offF W p j).toInt ∨ ((offF W p j).toInt = (offF W p i).toInt ∧ j < i) then 1 else 0) n
theorem aheadF_succ (W : Nat → Int32) (p i n : Nat) : aheadF W p i (n + 1) = aheadF W p i n + (if (offF W p i).toInt < (offF W p n).toInt ∨ ((offF W p n).toInt = (offF W p i).toInt ∧ n < i) then 1 else 0) := rfl
def evenV (W : Nat → Int32) (p i : Nat) : Int32 := dvF W p i + (if (aheadF W p i p).toInt < (leftF W p p).toInt then 1 else 0)
theorem SG_bd {W : Nat → Int32} {p j : Nat} (hW : ∀ s, s < 16 → 0 ≤ (W s).toInt ∧ (W s).toInt ≤ 40) (p1 : 1 ≤ p ∧ p ≤ 4) (hj : j < p) : -30000 ≤ (SG W p j).toInt ∧ (SG W p j).toInt ≤ 30000 := by
  have q := p16 p1.1 p1.2
  have := sumG_bd (W := W) (p := p) (i := j) hW p1.2 q.2 hj (2 ^ p) (Nat.le_refl _)
  rw [SG]
  omega
theorem s_evenShare (A : BargA h.2 a) (L : Lay h.2) (hr : Rok4 rod) (hW : ∀ s, s < 16 → 0 ≤ (h.1 (a + 1) s).toInt ∧ (h.1 (a + 1) s).toInt ≤ 40) {p : Nat} (hp : (h.1 a 0).toInt = (p : Int)) (p1 : 1 ≤ p ∧ p ≤ 4) (x : Int32) (i : Nat) (hx : x.toInt = (i : Int)) (hi : i < p) : Tc rod (d + 4) 182 [.inr (.inr (.inl (some 78))), .inr (.inr (.inl (some a))), .inl x] h (some (.inl (evenV (h.1 (a + 1)) p i))) h := by
  have ev := ev_t hp p1
  apply Wc.tc
  refine n_Sharing_evenShare ?_
  refine w_Sharing_evenShare_0 L (Tc.wc (s_cOrders A hr hp p1)) (Is.k ?_)
  refine w_Sharing_evenShare_5 A rfl (Tc.wc (s_everybody A)) (Is.k ?_)
  refine w_Sharing_evenShare_11 A (Tc.wc (s_worth1 A _ (2 ^ p - 1) ev.1 (by omega))) (Is.k ?_)
  refine w_Sharing_evenShare_14 L rfl (Tc.wc (s_sumGains A hr hp p1 x i hx hi)) (Is.k ?_)
  refine w_Sharing_evenShare_25 (Tc.wc (s_floorMod _ _ (DivOk.f p1) (SG_bd hW p1 (by omega)) _)) (Is.k ?_)
  refine w_Sharing_evenShare_29 rfl ?_
  refine Wb.upc p (fun j L' => ∃ (z l e : Int32) (u v : Option MV), L' = [some (.inr (.inr (.inl (some 78)))), some (.inr (.inr (.inl (some a)))), some (.inl x), some (.inl (Int32.ofNat (fctN p))), some (.inl l), some (.inl e), some (.inl (offF (h.1 (a + 1)) p i)), some (.inl z), u, v] ∧ z.toInt = (j : Int) ∧ l = leftF (h.1 (a + 1)) p j ∧ e = aheadF (h.1 (a + 1)) p i j) ?_ (Nat.zero_le _) ⟨0, _, 0, _, _, rfl, rfl, rfl, rfl⟩
  rintro j _ hj ⟨z, l, e, u, v, rfl, hz, hl, he⟩ ih
  refine w_Sharing_evenShare_34 A (fun kc34 => ?_) (fun kc34 => ?_)
  · try simp only [ite01t, ite01v, Int32.reduceToInt, t_m1, t_m2, t_m1000, Decidable.not_not] at kc34
    refine w_Sharing_evenShare_100 L (Tc.wc (s_sumGains A hr hp p1 x i hx hi)) (Is.k ?_)
    refine w_Sharing_evenShare_106 (Tc.wc (s_floorDiv _ _ (DivOk.f p1) (SG_bd hW p1 (by omega)) _)) (Is.k ?_)
    refine w_Sharing_evenShare_110 (fun kc110 => ?_) (fun kc110 => ?_)
    · try simp only [ite01t, ite01v, Int32.reduceToInt, t_m1, t_m2, t_m1000, Decidable.not_not] at kc110
      refine w_Sharing_evenShare_121 ?_
      refine w_Sharing_evenShare_122 ?_
      have hj : j = p := by omega
      subst hj
      refine ⟨?_, rfl⟩
      rw [hl, he] at kc110
      rw [evenV]
      first | (rw [if_pos (by omega)]; rfl) | (rw [if_neg (by omega)]; rfl)
    · try simp only [ite01t, ite01v, Int32.reduceToInt, t_m1, t_m2, t_m1000, Decidable.not_not] at kc110
      refine w_Sharing_evenShare_117 ?_
      refine w_Sharing_evenShare_122 ?_
      have hj : j = p := by omega
      subst hj
      refine ⟨?_, rfl⟩
      rw [hl, he] at kc110
      rw [evenV]
      first | (rw [if_pos (by omega)]; rfl) | (rw [if_neg (by omega)]; rfl)
  · try simp only [ite01t, ite01v, Int32.reduceToInt, t_m1, t_m2, t_m1000, Decidable.not_not] at kc34
    refine w_Sharing_evenShare_43 L (Tc.wc (s_sumGains A hr hp p1 z j hz (by omega))) (Is.k ?_)
    refine w_Sharing_evenShare_50 rfl (Tc.wc (s_floorMod _ _ (DivOk.f p1) (SG_bd hW p1 (by omega)) _)) (Is.k ?_)
    refine w_Sharing_evenShare_58 (Tc.wc (s_floorDiv _ _ (DivOk.f p1) (SG_bd hW p1 (by omega)) _)) (Is.k ?_)
    refine w_Sharing_evenShare_68 rfl (fun kc68 => ?_) (fun kc68 => ?_)
    · try simp only [ite01t, ite01v, Int32.reduceToInt, t_m1, t_m2, t_m1000, Decidable.not_not] at kc68
      refine w_Sharing_evenShare_91 rfl ?_
      refine w_Sharing_evenShare_94 rfl ?_
      refine ih (by omega) _ ⟨_, _, _, _, _, rfl, t_succ hz (by omega), ?_, ?_⟩
      · rw [leftF, ← hl]; rfl
      · rw [aheadF_succ, ← he]
        first | have e68 : (offF (h.1 (a + 1)) p i).toInt < (offF (h.1 (a + 1)) p j).toInt := kc68 | have e68 : ¬ (offF (h.1 (a + 1)) p i).toInt < (offF (h.1 (a + 1)) p j).toInt := kc68
        try (first | have e78 : (offF (h.1 (a + 1)) p j).toInt = (offF (h.1 (a + 1)) p i).toInt := kc78 | have e78 : ¬ (offF (h.1 (a + 1)) p j).toInt = (offF (h.1 (a + 1)) p i).toInt := kc78)
        first | (rw [if_pos (by omega)]; done) | (rw [if_neg (by omega), Int32.add_zero]; done)
    · try simp only [ite01t, ite01v, Int32.reduceToInt, t_m1, t_m2, t_m1000, Decidable.not_not] at kc68
      refine w_Sharing_evenShare_78 (fun kc78 => ?_) (fun kc78 => ?_)
      · try simp only [ite01t, ite01v, Int32.reduceToInt, t_m1, t_m2, t_m1000, Decidable.not_not] at kc78
        refine w_Sharing_evenShare_94 rfl ?_
        refine ih (by omega) _ ⟨_, _, _, _, _, rfl, t_succ hz (by omega), ?_, ?_⟩
        · rw [leftF, ← hl]; rfl
        · rw [aheadF_succ, ← he]
          first | have e68 : (offF (h.1 (a + 1)) p i).toInt < (offF (h.1 (a + 1)) p j).toInt := kc68 | have e68 : ¬ (offF (h.1 (a + 1)) p i).toInt < (offF (h.1 (a + 1)) p j).toInt := kc68
          try (first | have e78 : (offF (h.1 (a + 1)) p j).toInt = (offF (h.1 (a + 1)) p i).toInt := kc78 | have e78 : ¬ (offF (h.1 (a + 1)) p j).toInt = (offF (h.1 (a + 1)) p i).toInt := kc78)
          first | (rw [if_pos (by omega)]; done) | (rw [if_neg (by omega), Int32.add_zero]; done)
      · try simp only [ite01t, ite01v, Int32.reduceToInt, t_m1, t_m2, t_m1000, Decidable.not_not] at kc78
        refine w_Sharing_evenShare_85 (fun kc85 => ?_) (fun kc85 => ?_)
        · try simp only [ite01t, ite01v, Int32.reduceToInt, t_m1, t_m2, t_m1000, Decidable.not_not] at kc85
          refine w_Sharing_evenShare_94 rfl ?_
          refine ih (by omega) _ ⟨_, _, _, _, _, rfl, t_succ hz (by omega), ?_, ?_⟩
          · rw [leftF, ← hl]; rfl
          · rw [aheadF_succ, ← he]
            first | have e68 : (offF (h.1 (a + 1)) p i).toInt < (offF (h.1 (a + 1)) p j).toInt := kc68 | have e68 : ¬ (offF (h.1 (a + 1)) p i).toInt < (offF (h.1 (a + 1)) p j).toInt := kc68
            try (first | have e78 : (offF (h.1 (a + 1)) p j).toInt = (offF (h.1 (a + 1)) p i).toInt := kc78 | have e78 : ¬ (offF (h.1 (a + 1)) p j).toInt = (offF (h.1 (a + 1)) p i).toInt := kc78)
            first | (rw [if_pos (by omega)]; done) | (rw [if_neg (by omega), Int32.add_zero]; done)
        · try simp only [ite01t, ite01v, Int32.reduceToInt, t_m1, t_m2, t_m1000, Decidable.not_not] at kc85
          refine w_Sharing_evenShare_91 rfl ?_
          refine w_Sharing_evenShare_94 rfl ?_
          refine ih (by omega) _ ⟨_, _, _, _, _, rfl, t_succ hz (by omega), ?_, ?_⟩
          · rw [leftF, ← hl]; rfl
          · rw [aheadF_succ, ← he]
            first | have e68 : (offF (h.1 (a + 1)) p i).toInt < (offF (h.1 (a + 1)) p j).toInt := kc68 | have e68 : ¬ (offF (h.1 (a + 1)) p i).toInt < (offF (h.1 (a + 1)) p j).toInt := kc68
            try (first | have e78 : (offF (h.1 (a + 1)) p j).toInt = (offF (h.1 (a + 1)) p i).toInt := kc78 | have e78 : ¬ (offF (h.1 (a + 1)) p j).toInt = (offF (h.1 (a + 1)) p i).toInt := kc78)
            first | (rw [if_pos (by omega)]; done) | (rw [if_neg (by omega), Int32.add_zero]; done)
theorem s_offOf (M : MBarg h a l) (L : Lay h.2) {p : Nat} (hp : (h.1 a 0).toInt = (p : Int)) (p1 : 1 ≤ p ∧ p ≤ 4) (x : Int32) (j : Nat) (hx : x.toInt = (j : Int)) (hj : j < p) : Tc rod (d + 3) 293 [.inr (.inr (.inl (some 84))), .inl x] h (some (.inl (offF (h.1 (a + 1)) p j))) h := by
  have hy := DivOk.f p1
  have hb := SG_bd M.1.wb p1 hj
  have q := q_t (x := SG (h.1 (a + 1)) p j) hy
  have rr := r_t hy hb
  have em : -2147483648 ≤ (SG (h.1 (a + 1)) p j).toInt % (Int32.ofNat (fctN p)).toInt ∧ (SG (h.1 (a + 1)) p j).toInt % (Int32.ofNat (fctN p)).toInt ≤ 2147483647 := by rcases hy with e | e | e | e <;> rw [e] <;> omega
  have fin := ofI_t em.1 em.2
  apply Wc.tc
  refine n_Model_offOf ?_
  refine w_Model_offOf_0 L (Tc.wc (s_orders _ p (by rw [M.2.2.2]; exact hp) p1.2 _)) (Is.k ?_)
  refine w_Model_offOf_7 L (Tc.wc (s_sumOf M L hp p1 x j hx hj)) (Is.k ?_)
  refine w_Model_offOf_13 (fun q => by have := DivOk.f p1; rw [q] at this; rcases this with e | e | e | e <;> exact absurd e (by decide)) (fun kc13 => ?_) (fun kc13 => ?_)
  · try simp only [ite01t, ite01v, Int32.reduceToInt, t_m1, t_m2, t_m1000, Decidable.not_not] at kc13
    refine w_Model_offOf_26 ?_
    refine w_Model_offOf_27 ?_
    refine ⟨congrArg (fun z => some (Sum.inl z)) (i32_of ?_), rfl⟩
    rw [offF, fin]
    have kc13 := kc13
    rw [show sumG (h.1 (a + 1)) p j (2 ^ p) = SG (h.1 (a + 1)) p j from rfl] at kc13 ⊢
    rw [rr] at kc13
    first | (rw [rr]; rcases hy with e | e | e | e <;> rw [e] at q kc13 ⊢ <;> rw [q] at kc13 ⊢ <;> (split at kc13) <;> split <;> omega) | (rw [i32_add (by rw [rr]; rcases hy with e | e | e | e <;> rw [e] at q ⊢ <;> rw [q] <;> split <;> omega) (by rw [rr]; rcases hy with e | e | e | e <;> rw [e] at q ⊢ <;> rw [q] <;> split <;> omega), rr]; rcases hy with e | e | e | e <;> rw [e] at q kc13 ⊢ <;> rw [q] at kc13 ⊢ <;> (split at kc13) <;> split <;> omega)
  · try simp only [ite01t, ite01v, Int32.reduceToInt, t_m1, t_m2, t_m1000, Decidable.not_not] at kc13
    refine w_Model_offOf_20 ?_
    refine w_Model_offOf_27 ?_
    refine ⟨congrArg (fun z => some (Sum.inl z)) (i32_of ?_), rfl⟩
    rw [offF, fin]
    have kc13 := kc13
    rw [show sumG (h.1 (a + 1)) p j (2 ^ p) = SG (h.1 (a + 1)) p j from rfl] at kc13 ⊢
    rw [rr] at kc13
    first | (rw [rr]; rcases hy with e | e | e | e <;> rw [e] at q kc13 ⊢ <;> rw [q] at kc13 ⊢ <;> (split at kc13) <;> split <;> omega) | (rw [i32_add (by rw [rr]; rcases hy with e | e | e | e <;> rw [e] at q ⊢ <;> rw [q] <;> split <;> omega) (by rw [rr]; rcases hy with e | e | e | e <;> rw [e] at q ⊢ <;> rw [q] <;> split <;> omega), rr]; rcases hy with e | e | e | e <;> rw [e] at q kc13 ⊢ <;> rw [q] at kc13 ⊢ <;> (split at kc13) <;> split <;> omega)
theorem dv_eq {W : Nat → Int32} {p j : Nat} (hW : ∀ s, s < 16 → 0 ≤ (W s).toInt ∧ (W s).toInt ≤ 40) (p1 : 1 ≤ p ∧ p ≤ 4) (hj : j < p) : (SG W p j - offF W p j) / Int32.ofNat (fctN p) = dvF W p j := by
  have hy := DivOk.f p1
  have hb := SG_bd hW p1 hj
  have em : -2147483648 ≤ (SG W p j).toInt % (Int32.ofNat (fctN p)).toInt ∧ (SG W p j).toInt % (Int32.ofNat (fctN p)).toInt ≤ 2147483647 := by rcases hy with e | e | e | e <;> rw [e] <;> omega
  have ed : -2147483648 ≤ (SG W p j).toInt / (Int32.ofNat (fctN p)).toInt ∧ (SG W p j).toInt / (Int32.ofNat (fctN p)).toInt ≤ 2147483647 := by rcases hy with e | e | e | e <;> rw [e] <;> omega
  have fo : (offF W p j).toInt = (SG W p j).toInt % (Int32.ofNat (fctN p)).toInt := ofI_t em.1 em.2
  have s1 : (SG W p j - offF W p j).toInt = (SG W p j).toInt - (SG W p j).toInt % (Int32.ofNat (fctN p)).toInt := by
    rw [i32_sub, fo]
    · rw [fo]; rcases hy with e | e | e | e <;> rw [e] <;> omega
    · rw [fo]; rcases hy with e | e | e | e <;> rw [e] <;> omega
  refine i32_of ?_
  rw [q_t hy, s1, dvF, ofI_t ed.1 ed.2]
  rcases hy with e | e | e | e <;> rw [e] <;> split <;> omega
theorem op_even (hr : Rok4 rod) (k x : Int32) : OpI INV rod 181 292 [k, x] := by
  refine OpI.mk fun h hI => ?_
  have L := hI.lay
  by_cases hk : 0 ≤ k.toInt ∧ k.toInt < (h.1 3 3).toInt
  · obtain ⟨A, R, hk2⟩ := hI.bargK hk
    have ek := n_of hk.1
    have at1 := fun (d : Nat) => s_bargainAt1 (rod := rod) (d := d) hI hk
    generalize k.toNatClampNeg = kk at ek hk2 A R at1
    have pa := R.pa
    obtain ⟨p, hp⟩ := Int.eq_ofNat_of_zero_le (show 0 ≤ (h.1 (24 + 18 * kk) 0).toInt by omega)
    have p1 : 1 ≤ p ∧ p ≤ 4 := by omega
    have hW := R.wb
    refine ⟨if 0 ≤ x.toInt ∧ x.toInt < (p : Int) then evenV (h.1 ((24 + 18 * kk) + 1)) p x.toNatClampNeg else -1000, ?_, fun h1 I1 K1 => ?_⟩
    · refine n_Main_even ?_
      refine w_Main_even_0 L (Tc.wc (at1 _)) (Is.k ?_)
      refine w_Main_even_8 rfl (fun c => nomatch c) (fun _ _ => ?_)
      refine w_Main_even_13 A (Tc.wc (s_hasParty A _)) (Is.k ?_)
      refine w_Main_even_18 (fun kc18 => ?_) (fun kc18 => ?_)
      · (try simp only [ite01t, ite01v, Int32.reduceToInt, t_m1, t_m2, t_m1000, Decidable.not_not] at kc18); (try simp only [hp] at kc18)
        refine w_Main_even_27 L (Tc.wc (s_evenShare A L hr hW hp p1 x x.toNatClampNeg (n_of (by omega)) (by have := n_of (x := x) (by omega); omega))) (Is.k ?_)
        refine w_Main_even_36 ?_
        exact ⟨by rw [if_pos (by omega)], Keep.rfl⟩
      · (try simp only [ite01t, ite01v, Int32.reduceToInt, t_m1, t_m2, t_m1000, Decidable.not_not] at kc18); (try simp only [hp] at kc18)
        refine w_Main_even_21 ?_
        refine w_Main_even_36 ?_
        exact ⟨by rw [if_neg (by omega)], Keep.rfl⟩
    · have L1 := I1.lay
      have hk1 : (kk : Int) < (h1.1 3 3).toInt := by rw [K1.c 3 (by omega)]; omega
      have is1 := fun (d : Nat) => s_isBargain1 (rod := rod) (d := d) I1 k kk ek hk1
      have R1 := (I1.barg kk hk1).2.1
      refine n_Model_even ?_
      refine w_Model_even_0 L1 (is1 _) ?_
      rintro _ h0 ⟨rfl, k0, M0⟩
      have I0 := I1.keep k0
      have L0 := I0.lay
      have K0 := (Keep.rfl (h := h1)).trans k0
      have e0 : h0.1 (24 + 18 * kk) = h.1 (24 + 18 * kk) := (K1.trans K0).c _ (by omega)
      have f0 : h0.1 (24 + 18 * kk + 1) = h.1 (24 + 18 * kk + 1) := (K1.trans K0).c _ (by omega)
      have hp0 : (h0.1 (24 + 18 * kk) 0).toInt = (p : Int) := by rw [e0]; exact hp
      have pe : (h0.1 84 43).toInt = (p : Int) := by rw [M0.2.2.2]; exact hp0
      have p9 : (h0.1 84 43 - 1).toInt = (p : Int) - 1 := by rw [i32_sub (by rw [pe]; show _ ≤ _ - (1 : Int); omega) (by rw [pe]; show _ - (1 : Int) ≤ _; omega), pe]; rfl
      refine w_Model_even_5 (fun kc5 => absurd kc5 (by decide)) (fun kc5 => ?_)
      refine w_Model_even_8 L0 (Tc.wc (s_isIn _ _ _ _)) (Is.k ?_)
      refine w_Model_even_19 (fun kc19 => ?_) (fun kc19 => ?_)
      · (try simp only [ite01t, ite01v, Int32.reduceToInt, t_m1, t_m2, t_m1000, Decidable.not_not] at kc19); (try simp only [p9] at kc19)
        refine w_Model_even_26 L0 (Tc.wc (s_orders _ p pe p1.2 _)) (Is.k ?_)
        have ev := ev_t hp0 p1
        refine w_Model_even_33 L0 rfl (Tc.wc (s_mworthOf M0 L0 _ (2 ^ p - 1) (by rw [M0.2.2.2]; exact ev.1) (by omega))) (Is.k ?_)
        refine w_Model_even_46 rfl ?_
        have ev := ev_t hp0 p1
        have hx := n_of (x := x) (by omega)
        generalize x.toNatClampNeg = i at hx
        have hi : i < p := by omega
        have sd := fun (d : Nat) => s_offOf (rod := rod) (d := d) M0 L0 hp0 p1 x i hx hi
        refine Wb.upc p (fun j L' => ∃ (z l e : Int32), L' = [some (.inr (.inr (.inl (some 84)))), some (.inl k), some (.inl x), some (.inl (Int32.ofNat (fctN p))), some (.inl l), some (.inl e), some (.inl z)] ∧ z.toInt = (j : Int) ∧ l = leftF (h.1 ((24 + 18 * kk) + 1)) p j ∧ e = aheadF (h.1 ((24 + 18 * kk) + 1)) p i j) ?_ (Nat.zero_le _) ⟨0, _, 0, rfl, rfl, by rw [f0]; rfl, rfl⟩
        rintro j _ hj ⟨z, l, e, rfl, hz, hl, he⟩ ih
        refine w_Model_even_54 L0 (fun kc54 => ?_) (fun kc54 => ?_)
        · (try simp only [ite01t, ite01v, Int32.reduceToInt, t_m1, t_m2, t_m1000, Decidable.not_not] at kc54); (try simp only [pe] at kc54); (try simp only [f0] at kc54)
          refine w_Model_even_133 L0 (Tc.wc (s_sumOf M0 L0 hp0 p1 x i hx hi)) (Is.k ?_)
          refine w_Model_even_138 L0 (Tc.wc (sd _)) (Is.k ?_)
          refine w_Model_even_143 (fun q => by have := DivOk.f p1; rw [q] at this; rcases this with e | e | e | e <;> exact absurd e (by decide)) (fun kc143 => ?_) (fun kc143 => ?_)
          · (try simp only [ite01t, ite01v, Int32.reduceToInt, t_m1, t_m2, t_m1000, Decidable.not_not] at kc143); (try simp only [pe] at kc143); (try simp only [f0] at kc143)
            refine w_Model_even_157 ?_
            refine w_Model_even_158 ?_
            have hj : j = p := by omega
            subst hj
            refine ⟨?_, K0⟩
            rw [hl, he] at kc143
            rw [f0, if_pos (by omega), evenV, ← dv_eq hW p1 hi]
            first | (rw [if_pos (by omega)]; rfl) | (rw [if_neg (by omega)]; rfl)
          · (try simp only [ite01t, ite01v, Int32.reduceToInt, t_m1, t_m2, t_m1000, Decidable.not_not] at kc143); (try simp only [pe] at kc143); (try simp only [f0] at kc143)
            refine w_Model_even_153 ?_
            refine w_Model_even_158 ?_
            have hj : j = p := by omega
            subst hj
            refine ⟨?_, K0⟩
            rw [hl, he] at kc143
            rw [f0, if_pos (by omega), evenV, ← dv_eq hW p1 hi]
            first | (rw [if_pos (by omega)]; rfl) | (rw [if_neg (by omega)]; rfl)
        · (try simp only [ite01t, ite01v, Int32.reduceToInt, t_m1, t_m2, t_m1000, Decidable.not_not] at kc54); (try simp only [pe] at kc54); (try simp only [f0] at kc54)
          refine w_Model_even_63 L0 (Tc.wc (s_sumOf M0 L0 hp0 p1 z j hz (by omega))) (Is.k ?_)
          refine w_Model_even_71 L0 (Tc.wc (s_offOf M0 L0 hp0 p1 z j hz (by omega))) (Is.k ?_)
          refine w_Model_even_77 L0 (fun q => by have := DivOk.f p1; rw [q] at this; rcases this with e | e | e | e <;> exact absurd e (by decide)) (Tc.wc (s_offOf M0 L0 hp0 p1 z j hz (by omega))) (Is.k ?_)
          refine w_Model_even_91 L0 (Tc.wc (sd _)) (Is.k ?_)
          refine w_Model_even_96 (fun kc96 => ?_) (fun kc96 => ?_)
          · (try simp only [ite01t, ite01v, Int32.reduceToInt, t_m1, t_m2, t_m1000, Decidable.not_not] at kc96); (try simp only [pe] at kc96); (try simp only [f0] at kc96)
            refine w_Model_even_119 ?_
            refine w_Model_even_124 rfl ?_
            refine ih (by omega) _ ⟨_, _, _, rfl, t_succ hz (by omega), ?_, ?_⟩
            · rw [leftF, ← hl, ← dv_eq hW p1 (by omega), ← f0]; rfl
            · rw [aheadF_succ, ← he]
              first | (rw [if_pos (by omega)]; done) | (rw [if_neg (by omega)]; done)
          · (try simp only [ite01t, ite01v, Int32.reduceToInt, t_m1, t_m2, t_m1000, Decidable.not_not] at kc96); (try simp only [pe] at kc96); (try simp only [f0] at kc96)
            refine w_Model_even_99 L0 (Tc.wc (s_offOf M0 L0 hp0 p1 z j hz (by omega))) (Is.k ?_)
            refine w_Model_even_105 L0 (Tc.wc (sd _)) (Is.k ?_)
            refine w_Model_even_110 (fun kc110 => ?_) (fun kc110 => ?_)
            · (try simp only [ite01t, ite01v, Int32.reduceToInt, t_m1, t_m2, t_m1000, Decidable.not_not] at kc110); (try simp only [pe] at kc110); (try simp only [f0] at kc110)
              refine w_Model_even_123 ?_
              refine w_Model_even_124 rfl ?_
              refine ih (by omega) _ ⟨_, _, _, rfl, t_succ hz (by omega), ?_, ?_⟩
              · rw [leftF, ← hl, ← dv_eq hW p1 (by omega), ← f0]; rfl
              · rw [aheadF_succ, ← he]
                first | (rw [if_pos (by omega)]; done) | (rw [if_neg (by omega)]; done)
            · (try simp only [ite01t, ite01v, Int32.reduceToInt, t_m1, t_m2, t_m1000, Decidable.not_not] at kc110); (try simp only [pe] at kc110); (try simp only [f0] at kc110)
              refine w_Model_even_113 (fun kc113 => ?_) (fun kc113 => ?_)
              · (try simp only [ite01t, ite01v, Int32.reduceToInt, t_m1, t_m2, t_m1000, Decidable.not_not] at kc113); (try simp only [pe] at kc113); (try simp only [f0] at kc113)
                refine w_Model_even_123 ?_
                refine w_Model_even_124 rfl ?_
                refine ih (by omega) _ ⟨_, _, _, rfl, t_succ hz (by omega), ?_, ?_⟩
                · rw [leftF, ← hl, ← dv_eq hW p1 (by omega), ← f0]; rfl
                · rw [aheadF_succ, ← he]
                  first | (rw [if_pos (by omega)]; done) | (rw [if_neg (by omega)]; done)
              · (try simp only [ite01t, ite01v, Int32.reduceToInt, t_m1, t_m2, t_m1000, Decidable.not_not] at kc113); (try simp only [pe] at kc113); (try simp only [f0] at kc113)
                refine w_Model_even_119 ?_
                refine w_Model_even_124 rfl ?_
                refine ih (by omega) _ ⟨_, _, _, rfl, t_succ hz (by omega), ?_, ?_⟩
                · rw [leftF, ← hl, ← dv_eq hW p1 (by omega), ← f0]; rfl
                · rw [aheadF_succ, ← he]
                  first | (rw [if_pos (by omega)]; done) | (rw [if_neg (by omega)]; done)
      · (try simp only [ite01t, ite01v, Int32.reduceToInt, t_m1, t_m2, t_m1000, Decidable.not_not] at kc19); (try simp only [p9] at kc19)
        refine w_Model_even_22 ?_
        exact ⟨by rw [if_neg (by omega)], K0⟩
  · refine ⟨-1000, ?_, fun h1 I1 K1 => ?_⟩
    · refine n_Main_even ?_
      refine w_Main_even_0 L (Tc.wc (s_bargainAt0 hI hk)) (Is.k ?_)
      refine w_Main_even_8 rfl (fun _ => ?_) (fun _ c => nomatch c)
      refine w_Main_even_21 ?_
      refine w_Main_even_36 ?_
      exact ⟨rfl, Keep.rfl⟩
    · have L1 := I1.lay
      have hk1 : ¬ (0 ≤ k.toInt ∧ k.toInt < (h1.1 3 3).toInt) := by rw [K1.c 3 (by omega)]; exact hk
      refine n_Model_even ?_
      refine w_Model_even_0 L1 (Tc.wc (s_isBargain0 I1 k hk1)) (Is.k ?_)
      refine w_Model_even_5 (fun kc5 => ?_) (fun kc5 => absurd kc5 (by decide))
      refine w_Model_even_22 ?_
      exact ⟨rfl, Keep.rfl⟩
end M50
