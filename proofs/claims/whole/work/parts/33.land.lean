/-! NUMBERS, LOOPS, what a land says, of both -/
theorem t_succ {i : Int32} {k : Nat} (e : i.toInt = (k : Int)) (hk : k < 2147483647) : (i + 1).toInt = ((k + 1 : Nat) : Int) := by
  rw [i32_add (by rw [e]; show _ ≤ _ + (1 : Int); omega) (by rw [e]; show _ + (1 : Int) ≤ _; omega), e]
  rfl
theorem n_add {x y : Int32} {m n : Nat} (hx : x.toInt = (m : Int)) (hy : y.toInt = (n : Int)) (hb : m + n < 2147483648) : (x + y).toInt = ((m + n : Nat) : Int) := by
  rw [i32_add (by omega) (by omega), hx, hy]
  omega
theorem n_mul {x y : Int32} {m n : Nat} (hx : x.toInt = (m : Int)) (hy : y.toInt = (n : Int)) (hb : m * n < 2147483648) : (x * y).toInt = ((m * n : Nat) : Int) := by
  have e : (m : Int) * (n : Int) = ((m * n : Nat) : Int) := (Int.natCast_mul m n).symm
  rw [i32_mul (by rw [hx, hy, e]; omega) (by rw [hx, hy, e]; omega), hx, hy, e]
theorem n_sub {x y : Int32} {m n : Nat} (hx : x.toInt = (m : Int)) (hy : y.toInt = (n : Int)) (hm : m < 2147483648) (hb : n ≤ m) : (x - y).toInt = ((m - n : Nat) : Int) := by
  rw [i32_sub (by omega) (by omega), hx, hy]
  omega
theorem n_of {x : Int32} (h0 : 0 ≤ x.toInt) : x.toInt = (x.toNatClampNeg : Int) := by
  show _ = ((x.toInt.toNat : Nat) : Int)
  omega
theorem n_lt {x : Int32} {n : Nat} (h0 : 0 ≤ x.toInt) (h1 : x.toInt < (n : Int)) : x.toNatClampNeg < n := by
  show x.toInt.toNat < n
  omega
theorem n_eq {x : Int32} {n : Nat} (e : x.toInt = (n : Int)) : x.toNatClampNeg = n := clampK e
def sumF (g : Nat → Int32) : Nat → Int32
  | 0 => 0
  | n + 1 => sumF g n + g n
theorem sumF_ext {g g' : Nat → Int32} {n : Nat} (e : ∀ b, b < n → g b = g' b) : sumF g n = sumF g' n := by
  induction n with
  | zero => rfl
  | succ n ih => rw [sumF, sumF, ih (fun b hb => e b (by omega)), e n (by omega)]
theorem Is.k {v : MV} {h : MH} {P : Option MV → MH → Prop} (p : P (some v) h) : ∀ r h2, Is v h r h2 → P r h2 := by
  rintro _ _ ⟨rfl, rfl⟩
  exact p
theorem sI_nc {h : MH} {a i b j : Nat} {x : Int32} (n : b ≠ a) : (sI h a i x).1 b j = h.1 b j := sI_ne (fun q => n q.1)
theorem sI_nj {h : MH} {a i j : Nat} {x : Int32} (n : j ≠ i) : (sI h a i x).1 a j = h.1 a j := sI_ne (fun q => n q.2)
section LP33
variable {rod : Nat → Nat × (Nat → Int32)} {d : Nat} {B : MB} {pc : Nat} {st : List MV} {Q : Option MV → MH → Prop}
/-- a loop that leaves the heap -/
theorem Wb.upc {h : MH} (n : Nat) (P : Nat → ML → Prop) (step : ∀ k L, k ≤ n → P k L → (k < n → ∀ L', P (k + 1) L' → Wb rod d B pc L' st h Q) → Wb rod d B pc L st h Q) {k : Nat} {L : ML} (hk : k ≤ n) (H : P k L) : Wb rod d B pc L st h Q := by
  have : ∀ j k L, k + j = n → P k L → Wb rod d B pc L st h Q := by
    intro j
    induction j with
    | zero => intro k L e H; exact step k L (by omega) H (fun q => absurd q (by omega))
    | succ j ih => intro k L e H; exact step k L (by omega) H (fun _ L' H' => ih (k + 1) L' (by omega) H')
  exact this (n - k) k L (by omega) H
/-- a loop that writes numbers -/
theorem Wb.upf {R : MR2} (n : Nat) (P : Nat → ML → (Nat → Nat → Int32) → Prop) (step : ∀ k L f, k ≤ n → P k L f → (k < n → ∀ L' f', P (k + 1) L' f' → Wb rod d B pc L' st (f', R) Q) → Wb rod d B pc L st (f, R) Q) {k : Nat} {L : ML} {f : Nat → Nat → Int32} (hk : k ≤ n) (H : P k L f) : Wb rod d B pc L st (f, R) Q := by
  have : ∀ j k L f, k + j = n → P k L f → Wb rod d B pc L st (f, R) Q := by
    intro j
    induction j with
    | zero => intro k L f e H; exact step k L f (by omega) H (fun q => absurd q (by omega))
    | succ j ih => intro k L f e H; exact step k L f (by omega) H (fun _ L' f' H' => ih (k + 1) L' f' (by omega) H')
  exact this (n - k) k L f (by omega) H
end LP33
/-- what a land, a season, a ledger, a bargain of the class says -/
def ld (h : MH) (a : Nat) : Nat → Nat → Int32 := fun c j => if c < 9 then h.1 (a + c) j else 0
def sd (h : MH) (a : Nat) : Nat → Nat → Int32 := fun c j => if c < 4 then h.1 (a + c) j else 0
def gd (h : MH) (a : Nat) : Nat → Nat → Int32 := fun c j => if c < 3 then h.1 (a + c) j else 0
def bd (h : MH) (a : Nat) : Nat → Nat → Int32 := fun c j => if c < 2 then h.1 (a + c) j else 0
theorem ldk {h h' : MH} {a : Nat} (k : Keep h h') (ha : a + 9 ≤ 45) : ld h' a = ld h a := by
  funext c j
  simp only [ld]
  split
  · rw [k.2 _ (by simp only [Scr]; omega)]
  · rfl
theorem sdk {h h' : MH} {a : Nat} (k : Keep h h') (ha : a + 4 ≤ 45) : sd h' a = sd h a := by
  funext c j
  simp only [sd]
  split
  · rw [k.2 _ (by simp only [Scr]; omega)]
  · rfl
theorem gdk {h h' : MH} {a : Nat} (k : Keep h h') (ha : a + 3 ≤ 45) : gd h' a = gd h a := by
  funext c j
  simp only [gd]
  split
  · rw [k.2 _ (by simp only [Scr]; omega)]
  · rfl
theorem bdk {h h' : MH} {a : Nat} (k : Keep h h') (ha : a + 2 ≤ 45) : bd h' a = bd h a := by
  funext c j
  simp only [bd]
  split
  · rw [k.2 _ (by simp only [Scr]; omega)]
  · rfl
/-- would one who owes and fears so much pay so much for so many years -/
def worthF (k o f y p : Int32) : Bool := decide ((k.toInt = 1 ∧ p.toInt ≤ (f * y).toInt) ∨ (k.toInt = 3 ∧ 0 < o.toInt ∧ (2 * p).toInt ≤ (f * (if o < y then o else y)).toInt) ∨ (k.toInt = 2 ∧ 0 < o.toInt ∧ p.toInt ≤ (2 * f * (if o < y then o else y)).toInt) ∨ (k.toInt ≠ 1 ∧ k.toInt ≠ 2 ∧ k.toInt ≠ 3 ∧ 0 < o.toInt ∧ p.toInt ≤ (f * (if o < y then o else y)).toInt))
def wantsF (k o m f y p : Int32) : Bool := decide (p.toInt ≤ m.toInt) && worthF k o f y p
/-- buyer b of a land, as told -/
def lw (D : Nat → Nat → Int32) (y p : Int32) (b : Nat) : Bool := wantsF (D 1 b) (D 3 b) (D 4 b) (D 5 b) y p
/-- how many of a land's first n buyers would buy -/
def cntW (D : Nat → Nat → Int32) (n : Nat) (y kd p : Int32) : Int32 := sumF (fun b => if (kd.toInt = -1 ∨ (D 1 b).toInt = kd.toInt) ∧ lw D y p b = true then 1 else 0) n
theorem cntW_succ (D : Nat → Nat → Int32) (n : Nat) (y kd p : Int32) : cntW D (n + 1) y kd p = cntW D n y kd p + (if (kd.toInt = -1 ∨ (D 1 n).toInt = kd.toInt) ∧ lw D y p n = true then 1 else 0) := rfl
def brF (D : Nat → Nat → Int32) (n : Nat) (y kd p : Int32) : Int32 := p * cntW D n y kd p
/-- the first price at which most comes in -/
def bestF (g : Int32 → Int32) : Nat → Int32
  | 0 => 0
  | n + 1 => if g (bestF g n) < g (Int32.ofNat (n + 1)) then Int32.ofNat (n + 1) else bestF g n
section M33
variable {rod : Nat → Nat × (Nat → Int32)} {d : Nat} {h : MH} {a l : Nat}
theorem s_hasTown (A : LandA h.2 a) (x : Int32) : Tc rod (d + 1) 65 [.inr (.inr (.inl (some a))), .inl x] h (some (.inl (if 0 ≤ x.toInt ∧ x.toInt < (h.1 a 0).toInt then 1 else 0))) h := by
  apply Wc.tc
  refine n_Land_hasTown ?_
  refine w_Land_hasTown_0 (fun c0 => ?_) (fun c0 => ?_)
  · try simp only [ite01t, ite01v, Int32.reduceToInt, t_m1, t_m2, t_m1000, Decidable.not_not] at c0
    refine w_Land_hasTown_16 ?_
    refine w_Land_hasTown_17 (by first | exact Or.inl rfl | exact Or.inr rfl | exact or01 | assumption) ?_
    exact ⟨by first | (exfalso; omega) | rw [if_pos (by omega)] | rw [if_neg (by omega)], rfl⟩
  · try simp only [ite01t, ite01v, Int32.reduceToInt, t_m1, t_m2, t_m1000, Decidable.not_not] at c0
    refine w_Land_hasTown_4 A (fun c4 => ?_) (fun c4 => ?_)
    · try simp only [ite01t, ite01v, Int32.reduceToInt, t_m1, t_m2, t_m1000, Decidable.not_not] at c4
      refine w_Land_hasTown_16 ?_
      refine w_Land_hasTown_17 (by first | exact Or.inl rfl | exact Or.inr rfl | exact or01 | assumption) ?_
      exact ⟨by first | (exfalso; omega) | rw [if_pos (by omega)] | rw [if_neg (by omega)], rfl⟩
    · try simp only [ite01t, ite01v, Int32.reduceToInt, t_m1, t_m2, t_m1000, Decidable.not_not] at c4
      refine w_Land_hasTown_12 ?_
      refine w_Land_hasTown_17 (by first | exact Or.inl rfl | exact Or.inr rfl | exact or01 | assumption) ?_
      exact ⟨by first | (exfalso; omega) | rw [if_pos (by omega)] | rw [if_neg (by omega)], rfl⟩
theorem s_hasBuyer (A : LandA h.2 a) (x : Int32) : Tc rod (d + 1) 70 [.inr (.inr (.inl (some a))), .inl x] h (some (.inl (if 0 ≤ x.toInt ∧ x.toInt < (h.1 a 4).toInt then 1 else 0))) h := by
  apply Wc.tc
  refine n_Land_hasBuyer ?_
  refine w_Land_hasBuyer_0 (fun c0 => ?_) (fun c0 => ?_)
  · try simp only [ite01t, ite01v, Int32.reduceToInt, t_m1, t_m2, t_m1000, Decidable.not_not] at c0
    refine w_Land_hasBuyer_16 ?_
    refine w_Land_hasBuyer_17 (by first | exact Or.inl rfl | exact Or.inr rfl | exact or01 | assumption) ?_
    exact ⟨by first | (exfalso; omega) | rw [if_pos (by omega)] | rw [if_neg (by omega)], rfl⟩
  · try simp only [ite01t, ite01v, Int32.reduceToInt, t_m1, t_m2, t_m1000, Decidable.not_not] at c0
    refine w_Land_hasBuyer_4 A (fun c4 => ?_) (fun c4 => ?_)
    · try simp only [ite01t, ite01v, Int32.reduceToInt, t_m1, t_m2, t_m1000, Decidable.not_not] at c4
      refine w_Land_hasBuyer_16 ?_
      refine w_Land_hasBuyer_17 (by first | exact Or.inl rfl | exact Or.inr rfl | exact or01 | assumption) ?_
      exact ⟨by first | (exfalso; omega) | rw [if_pos (by omega)] | rw [if_neg (by omega)], rfl⟩
    · try simp only [ite01t, ite01v, Int32.reduceToInt, t_m1, t_m2, t_m1000, Decidable.not_not] at c4
      refine w_Land_hasBuyer_12 ?_
      refine w_Land_hasBuyer_17 (by first | exact Or.inl rfl | exact Or.inr rfl | exact or01 | assumption) ?_
      exact ⟨by first | (exfalso; omega) | rw [if_pos (by omega)] | rw [if_neg (by omega)], rfl⟩
theorem s_hasLetter (A : LandA h.2 a) (x : Int32) : Tc rod (d + 1) 68 [.inr (.inr (.inl (some a))), .inl x] h (some (.inl (if 0 ≤ x.toInt ∧ x.toInt < (h.1 a 5).toInt then 1 else 0))) h := by
  apply Wc.tc
  refine n_Land_hasLetter ?_
  refine w_Land_hasLetter_0 (fun c0 => ?_) (fun c0 => ?_)
  · try simp only [ite01t, ite01v, Int32.reduceToInt, t_m1, t_m2, t_m1000, Decidable.not_not] at c0
    refine w_Land_hasLetter_16 ?_
    refine w_Land_hasLetter_17 (by first | exact Or.inl rfl | exact Or.inr rfl | exact or01 | assumption) ?_
    exact ⟨by first | (exfalso; omega) | rw [if_pos (by omega)] | rw [if_neg (by omega)], rfl⟩
  · try simp only [ite01t, ite01v, Int32.reduceToInt, t_m1, t_m2, t_m1000, Decidable.not_not] at c0
    refine w_Land_hasLetter_4 A (fun c4 => ?_) (fun c4 => ?_)
    · try simp only [ite01t, ite01v, Int32.reduceToInt, t_m1, t_m2, t_m1000, Decidable.not_not] at c4
      refine w_Land_hasLetter_16 ?_
      refine w_Land_hasLetter_17 (by first | exact Or.inl rfl | exact Or.inr rfl | exact or01 | assumption) ?_
      exact ⟨by first | (exfalso; omega) | rw [if_pos (by omega)] | rw [if_neg (by omega)], rfl⟩
    · try simp only [ite01t, ite01v, Int32.reduceToInt, t_m1, t_m2, t_m1000, Decidable.not_not] at c4
      refine w_Land_hasLetter_12 ?_
      refine w_Land_hasLetter_17 (by first | exact Or.inl rfl | exact Or.inr rfl | exact or01 | assumption) ?_
      exact ⟨by first | (exfalso; omega) | rw [if_pos (by omega)] | rw [if_neg (by omega)], rfl⟩
theorem s_isOffer (y p : Int32) (h : MH) : Tc rod (d + 1) 92 [.inl y, .inl p] h (some (.inl (if (1 ≤ y.toInt ∧ y.toInt ≤ 60) ∧ 0 ≤ p.toInt ∧ p.toInt ≤ 99 then 1 else 0))) h := by
  apply Wc.tc
  refine n_Main_isOffer ?_
  refine w_Main_isOffer_0 (fun c0 => ?_) (fun c0 => ?_)
  · try simp only [ite01t, ite01v, Int32.reduceToInt, t_m1, t_m2, t_m1000, Decidable.not_not] at c0
    refine w_Main_isOffer_25 ?_
    refine w_Main_isOffer_26 (by first | exact Or.inl rfl | exact Or.inr rfl | exact or01 | assumption) ?_
    exact ⟨by first | (exfalso; omega) | rw [if_pos (by omega)] | rw [if_neg (by omega)], rfl⟩
  · try simp only [ite01t, ite01v, Int32.reduceToInt, t_m1, t_m2, t_m1000, Decidable.not_not] at c0
    refine w_Main_isOffer_5 (fun c5 => ?_) (fun c5 => ?_)
    · try simp only [ite01t, ite01v, Int32.reduceToInt, t_m1, t_m2, t_m1000, Decidable.not_not] at c5
      refine w_Main_isOffer_25 ?_
      refine w_Main_isOffer_26 (by first | exact Or.inl rfl | exact Or.inr rfl | exact or01 | assumption) ?_
      exact ⟨by first | (exfalso; omega) | rw [if_pos (by omega)] | rw [if_neg (by omega)], rfl⟩
    · try simp only [ite01t, ite01v, Int32.reduceToInt, t_m1, t_m2, t_m1000, Decidable.not_not] at c5
      refine w_Main_isOffer_11 (fun c11 => ?_) (fun c11 => ?_)
      · try simp only [ite01t, ite01v, Int32.reduceToInt, t_m1, t_m2, t_m1000, Decidable.not_not] at c11
        refine w_Main_isOffer_25 ?_
        refine w_Main_isOffer_26 (by first | exact Or.inl rfl | exact Or.inr rfl | exact or01 | assumption) ?_
        exact ⟨by first | (exfalso; omega) | rw [if_pos (by omega)] | rw [if_neg (by omega)], rfl⟩
      · try simp only [ite01t, ite01v, Int32.reduceToInt, t_m1, t_m2, t_m1000, Decidable.not_not] at c11
        refine w_Main_isOffer_15 (fun c15 => ?_) (fun c15 => ?_)
        · try simp only [ite01t, ite01v, Int32.reduceToInt, t_m1, t_m2, t_m1000, Decidable.not_not] at c15
          refine w_Main_isOffer_25 ?_
          refine w_Main_isOffer_26 (by first | exact Or.inl rfl | exact Or.inr rfl | exact or01 | assumption) ?_
          exact ⟨by first | (exfalso; omega) | rw [if_pos (by omega)] | rw [if_neg (by omega)], rfl⟩
        · try simp only [ite01t, ite01v, Int32.reduceToInt, t_m1, t_m2, t_m1000, Decidable.not_not] at c15
          refine w_Main_isOffer_21 ?_
          refine w_Main_isOffer_26 (by first | exact Or.inl rfl | exact Or.inr rfl | exact or01 | assumption) ?_
          exact ⟨by first | (exfalso; omega) | rw [if_pos (by omega)] | rw [if_neg (by omega)], rfl⟩
theorem s_worth (k o f y p : Int32) (h : MH) : Tc rod (d + 1) 82 [.inl k, .inl o, .inl f, .inl y, .inl p] h (some (.inl (if worthF k o f y p = true then 1 else 0))) h := by
  apply Wc.tc
  refine n_Land_isWorthIt ?_
  refine w_Land_isWorthIt_0 (fun c0 => ?_) (fun c0 => ?_)
  · try simp only [ite01t, ite01v, Int32.reduceToInt, t_m1, t_m2, t_m1000, Decidable.not_not] at c0
    refine w_Land_isWorthIt_19 (fun c19 => ?_) (fun c19 => ?_)
    · try simp only [ite01t, ite01v, Int32.reduceToInt, t_m1, t_m2, t_m1000, Decidable.not_not] at c19
      refine w_Land_isWorthIt_31 ?_
      refine w_Land_isWorthIt_33 rfl (fun c33 => ?_) (fun c33 => ?_)
      · try simp only [ite01t, ite01v, Int32.reduceToInt, t_m1, t_m2, t_m1000, Decidable.not_not] at c33
        refine w_Land_isWorthIt_46 ?_
        refine w_Land_isWorthIt_47 rfl (fun c47 => ?_) (fun c47 => ?_)
        · try simp only [ite01t, ite01v, Int32.reduceToInt, t_m1, t_m2, t_m1000, Decidable.not_not] at c47
          refine w_Land_isWorthIt_70 ?_
          refine w_Land_isWorthIt_71 (by first | exact Or.inl rfl | exact Or.inr rfl | exact or01 | assumption) ?_
          exact ⟨by first | (exfalso; omega) | rw [if_pos (by simp only [worthF, decide_eq_true_eq]; omega)] | rw [if_neg (by simp only [worthF, decide_eq_true_eq]; omega)], rfl⟩
        · try simp only [ite01t, ite01v, Int32.reduceToInt, t_m1, t_m2, t_m1000, Decidable.not_not] at c47
          refine w_Land_isWorthIt_53 (fun c53 => ?_) (fun c53 => ?_)
          · try simp only [ite01t, ite01v, Int32.reduceToInt, t_m1, t_m2, t_m1000, Decidable.not_not] at c53
            refine w_Land_isWorthIt_70 ?_
            refine w_Land_isWorthIt_71 (by first | exact Or.inl rfl | exact Or.inr rfl | exact or01 | assumption) ?_
            exact ⟨by first | (exfalso; omega) | rw [if_pos (by simp only [worthF, decide_eq_true_eq]; omega)] | rw [if_neg (by simp only [worthF, decide_eq_true_eq]; omega)], rfl⟩
          · try simp only [ite01t, ite01v, Int32.reduceToInt, t_m1, t_m2, t_m1000, Decidable.not_not] at c53
            refine w_Land_isWorthIt_66 ?_
            refine w_Land_isWorthIt_71 (by first | exact Or.inl rfl | exact Or.inr rfl | exact or01 | assumption) ?_
            exact ⟨by first | (exfalso; omega) | rw [if_pos (by simp only [worthF, decide_eq_true_eq]; omega)] | rw [if_neg (by simp only [worthF, decide_eq_true_eq]; omega)], rfl⟩
      · try simp only [ite01t, ite01v, Int32.reduceToInt, t_m1, t_m2, t_m1000, Decidable.not_not] at c33
        refine w_Land_isWorthIt_40 ?_
        refine w_Land_isWorthIt_47 rfl (fun c47 => ?_) (fun c47 => ?_)
        · try simp only [ite01t, ite01v, Int32.reduceToInt, t_m1, t_m2, t_m1000, Decidable.not_not] at c47
          refine w_Land_isWorthIt_70 ?_
          refine w_Land_isWorthIt_71 (by first | exact Or.inl rfl | exact Or.inr rfl | exact or01 | assumption) ?_
          exact ⟨by first | (exfalso; omega) | rw [if_pos (by simp only [worthF, decide_eq_true_eq]; omega)] | rw [if_neg (by simp only [worthF, decide_eq_true_eq]; omega)], rfl⟩
        · try simp only [ite01t, ite01v, Int32.reduceToInt, t_m1, t_m2, t_m1000, Decidable.not_not] at c47
          refine w_Land_isWorthIt_53 (fun c53 => ?_) (fun c53 => ?_)
          · try simp only [ite01t, ite01v, Int32.reduceToInt, t_m1, t_m2, t_m1000, Decidable.not_not] at c53
            refine w_Land_isWorthIt_70 ?_
            refine w_Land_isWorthIt_71 (by first | exact Or.inl rfl | exact Or.inr rfl | exact or01 | assumption) ?_
            exact ⟨by first | (exfalso; omega) | rw [if_pos (by simp only [worthF, decide_eq_true_eq]; omega)] | rw [if_neg (by simp only [worthF, decide_eq_true_eq]; omega)], rfl⟩
          · try simp only [ite01t, ite01v, Int32.reduceToInt, t_m1, t_m2, t_m1000, Decidable.not_not] at c53
            refine w_Land_isWorthIt_66 ?_
            refine w_Land_isWorthIt_71 (by first | exact Or.inl rfl | exact Or.inr rfl | exact or01 | assumption) ?_
            exact ⟨by first | (exfalso; omega) | rw [if_pos (by simp only [worthF, decide_eq_true_eq]; omega)] | rw [if_neg (by simp only [worthF, decide_eq_true_eq]; omega)], rfl⟩
    · try simp only [ite01t, ite01v, Int32.reduceToInt, t_m1, t_m2, t_m1000, Decidable.not_not] at c19
      refine w_Land_isWorthIt_24 ?_
      refine w_Land_isWorthIt_33 rfl (fun c33 => ?_) (fun c33 => ?_)
      · try simp only [ite01t, ite01v, Int32.reduceToInt, t_m1, t_m2, t_m1000, Decidable.not_not] at c33
        refine w_Land_isWorthIt_46 ?_
        refine w_Land_isWorthIt_47 rfl (fun c47 => ?_) (fun c47 => ?_)
        · try simp only [ite01t, ite01v, Int32.reduceToInt, t_m1, t_m2, t_m1000, Decidable.not_not] at c47
          refine w_Land_isWorthIt_70 ?_
          refine w_Land_isWorthIt_71 (by first | exact Or.inl rfl | exact Or.inr rfl | exact or01 | assumption) ?_
          exact ⟨by first | (exfalso; omega) | rw [if_pos (by simp only [worthF, decide_eq_true_eq]; omega)] | rw [if_neg (by simp only [worthF, decide_eq_true_eq]; omega)], rfl⟩
        · try simp only [ite01t, ite01v, Int32.reduceToInt, t_m1, t_m2, t_m1000, Decidable.not_not] at c47
          refine w_Land_isWorthIt_53 (fun c53 => ?_) (fun c53 => ?_)
          · try simp only [ite01t, ite01v, Int32.reduceToInt, t_m1, t_m2, t_m1000, Decidable.not_not] at c53
            refine w_Land_isWorthIt_70 ?_
            refine w_Land_isWorthIt_71 (by first | exact Or.inl rfl | exact Or.inr rfl | exact or01 | assumption) ?_
            exact ⟨by first | (exfalso; omega) | rw [if_pos (by simp only [worthF, decide_eq_true_eq]; omega)] | rw [if_neg (by simp only [worthF, decide_eq_true_eq]; omega)], rfl⟩
          · try simp only [ite01t, ite01v, Int32.reduceToInt, t_m1, t_m2, t_m1000, Decidable.not_not] at c53
            refine w_Land_isWorthIt_66 ?_
            refine w_Land_isWorthIt_71 (by first | exact Or.inl rfl | exact Or.inr rfl | exact or01 | assumption) ?_
            exact ⟨by first | (exfalso; omega) | rw [if_pos (by simp only [worthF, decide_eq_true_eq]; omega)] | rw [if_neg (by simp only [worthF, decide_eq_true_eq]; omega)], rfl⟩
      · try simp only [ite01t, ite01v, Int32.reduceToInt, t_m1, t_m2, t_m1000, Decidable.not_not] at c33
        refine w_Land_isWorthIt_40 ?_
        refine w_Land_isWorthIt_47 rfl (fun c47 => ?_) (fun c47 => ?_)
        · try simp only [ite01t, ite01v, Int32.reduceToInt, t_m1, t_m2, t_m1000, Decidable.not_not] at c47
          refine w_Land_isWorthIt_70 ?_
          refine w_Land_isWorthIt_71 (by first | exact Or.inl rfl | exact Or.inr rfl | exact or01 | assumption) ?_
          exact ⟨by first | (exfalso; omega) | rw [if_pos (by simp only [worthF, decide_eq_true_eq]; omega)] | rw [if_neg (by simp only [worthF, decide_eq_true_eq]; omega)], rfl⟩
        · try simp only [ite01t, ite01v, Int32.reduceToInt, t_m1, t_m2, t_m1000, Decidable.not_not] at c47
          refine w_Land_isWorthIt_53 (fun c53 => ?_) (fun c53 => ?_)
          · try simp only [ite01t, ite01v, Int32.reduceToInt, t_m1, t_m2, t_m1000, Decidable.not_not] at c53
            refine w_Land_isWorthIt_70 ?_
            refine w_Land_isWorthIt_71 (by first | exact Or.inl rfl | exact Or.inr rfl | exact or01 | assumption) ?_
            exact ⟨by first | (exfalso; omega) | rw [if_pos (by simp only [worthF, decide_eq_true_eq]; omega)] | rw [if_neg (by simp only [worthF, decide_eq_true_eq]; omega)], rfl⟩
          · try simp only [ite01t, ite01v, Int32.reduceToInt, t_m1, t_m2, t_m1000, Decidable.not_not] at c53
            refine w_Land_isWorthIt_66 ?_
            refine w_Land_isWorthIt_71 (by first | exact Or.inl rfl | exact Or.inr rfl | exact or01 | assumption) ?_
            exact ⟨by first | (exfalso; omega) | rw [if_pos (by simp only [worthF, decide_eq_true_eq]; omega)] | rw [if_neg (by simp only [worthF, decide_eq_true_eq]; omega)], rfl⟩
  · try simp only [ite01t, ite01v, Int32.reduceToInt, t_m1, t_m2, t_m1000, Decidable.not_not] at c0
    refine w_Land_isWorthIt_5 (fun c5 => ?_) (fun c5 => ?_)
    · try simp only [ite01t, ite01v, Int32.reduceToInt, t_m1, t_m2, t_m1000, Decidable.not_not] at c5
      refine w_Land_isWorthIt_17 ?_
      refine w_Land_isWorthIt_18 (by first | exact Or.inl rfl | exact Or.inr rfl | exact or01 | assumption) ?_
      exact ⟨by first | (exfalso; omega) | rw [if_pos (by simp only [worthF, decide_eq_true_eq]; omega)] | rw [if_neg (by simp only [worthF, decide_eq_true_eq]; omega)], rfl⟩
    · try simp only [ite01t, ite01v, Int32.reduceToInt, t_m1, t_m2, t_m1000, Decidable.not_not] at c5
      refine w_Land_isWorthIt_13 ?_
      refine w_Land_isWorthIt_18 (by first | exact Or.inl rfl | exact Or.inr rfl | exact or01 | assumption) ?_
      exact ⟨by first | (exfalso; omega) | rw [if_pos (by simp only [worthF, decide_eq_true_eq]; omega)] | rw [if_neg (by simp only [worthF, decide_eq_true_eq]; omega)], rfl⟩
theorem s_wants (A : LandA h.2 a) (hB : (h.1 a 4).toInt ≤ 8) (b y p : Int32) : Tc rod (d + 2) 93 [.inr (.inr (.inl (some a))), .inl b, .inl y, .inl p] h (some (.inl (if (0 ≤ b.toInt ∧ b.toInt < (h.1 a 4).toInt) ∧ lw (ld h a) y p b.toNatClampNeg = true then 1 else 0))) h := by
  apply Wc.tc
  refine n_Land_wants ?_
  refine w_Land_wants_0 A (Tc.wc (s_hasBuyer A _)) (Is.k ?_)
  refine w_Land_wants_5 (fun c5 => ?_) (fun c5 => ?_)
  · try simp only [ite01t, ite01v, Int32.reduceToInt, t_m1, t_m2, t_m1000, Decidable.not_not] at c5
    refine w_Land_wants_48 ?_
    refine w_Land_wants_49 (by first | exact Or.inl rfl | exact Or.inr rfl | exact or01 | assumption) ?_
    exact ⟨by simp only [lw, wantsF, Bool.and_eq_true, decide_eq_true_eq]; first | rw [if_pos (by refine ⟨by omega, Int.not_lt.mp c8, by assumption⟩)] | rw [if_neg (fun q => by first | omega | exact absurd q.2.1 (Int.not_le.mpr c8) | exact c41 q.2.2)], rfl⟩
  · try simp only [ite01t, ite01v, Int32.reduceToInt, t_m1, t_m2, t_m1000, Decidable.not_not] at c5
    refine w_Land_wants_8 A (by first | assumption | omega | (refine ⟨?_, ?_⟩ <;> first | assumption | omega)) (fun c8 => ?_) (fun c8 => ?_)
    · try simp only [ite01t, ite01v, Int32.reduceToInt, t_m1, t_m2, t_m1000, Decidable.not_not] at c8
      refine w_Land_wants_48 ?_
      refine w_Land_wants_49 (by first | exact Or.inl rfl | exact Or.inr rfl | exact or01 | assumption) ?_
      exact ⟨by simp only [lw, wantsF, Bool.and_eq_true, decide_eq_true_eq]; first | rw [if_pos (by refine ⟨by omega, Int.not_lt.mp c8, by assumption⟩)] | rw [if_neg (fun q => by first | omega | exact absurd q.2.1 (Int.not_le.mpr c8) | exact c41 q.2.2)], rfl⟩
    · try simp only [ite01t, ite01v, Int32.reduceToInt, t_m1, t_m2, t_m1000, Decidable.not_not] at c8
      refine w_Land_wants_18 A (by first | assumption | omega | (refine ⟨?_, ?_⟩ <;> first | assumption | omega)) (Tc.wc (s_worth _ _ _ _ _ _)) (Is.k ?_)
      refine w_Land_wants_41 (fun c41 => ?_) (fun c41 => ?_)
      · try simp only [ite01t, ite01v, Int32.reduceToInt, t_m1, t_m2, t_m1000, Decidable.not_not] at c41
        refine w_Land_wants_48 ?_
        refine w_Land_wants_49 (by first | exact Or.inl rfl | exact Or.inr rfl | exact or01 | assumption) ?_
        exact ⟨by simp only [lw, wantsF, Bool.and_eq_true, decide_eq_true_eq]; first | rw [if_pos (by refine ⟨by omega, Int.not_lt.mp c8, by assumption⟩)] | rw [if_neg (fun q => by first | omega | exact absurd q.2.1 (Int.not_le.mpr c8) | exact c41 q.2.2)], rfl⟩
      · try simp only [ite01t, ite01v, Int32.reduceToInt, t_m1, t_m2, t_m1000, Decidable.not_not] at c41
        refine w_Land_wants_44 ?_
        refine w_Land_wants_49 (by first | exact Or.inl rfl | exact Or.inr rfl | exact or01 | assumption) ?_
        exact ⟨by simp only [lw, wantsF, Bool.and_eq_true, decide_eq_true_eq]; first | rw [if_pos (by refine ⟨by omega, Int.not_lt.mp c8, by assumption⟩)] | rw [if_neg (fun q => by first | omega | exact absurd q.2.1 (Int.not_le.mpr c8) | exact c41 q.2.2)], rfl⟩
theorem s_road (A : LandA h.2 a) (hT : (h.1 a 0).toInt ≤ 6) (x y : Int32) : Tc rod (d + 2) 66 [.inr (.inr (.inl (some a))), .inl x, .inl y] h (some (.inl (if (0 ≤ x.toInt ∧ x.toInt < (h.1 a 0).toInt) ∧ 0 ≤ y.toInt ∧ y.toInt < (h.1 a 0).toInt then h.1 (a + 8) (x * 6 + y).toNatClampNeg else 0))) h := by
  apply Wc.tc
  refine n_Land_roadBetween ?_
  refine w_Land_roadBetween_0 A (Tc.wc (s_hasTown A _)) (Is.k ?_)
  refine w_Land_roadBetween_5 (fun c5 => ?_) (fun c5 => ?_)
  · try simp only [ite01t, ite01v, Int32.reduceToInt, t_m1, t_m2, t_m1000, Decidable.not_not] at c5
    refine w_Land_roadBetween_30 ?_
    refine w_Land_roadBetween_31 ?_
    exact ⟨by first | (exfalso; omega) | rw [if_pos (by omega)] | rw [if_neg (by omega)], rfl⟩
  · try simp only [ite01t, ite01v, Int32.reduceToInt, t_m1, t_m2, t_m1000, Decidable.not_not] at c5
    refine w_Land_roadBetween_8 A (Tc.wc (s_hasTown A _)) (Is.k ?_)
    refine w_Land_roadBetween_13 (fun c13 => ?_) (fun c13 => ?_)
    · try simp only [ite01t, ite01v, Int32.reduceToInt, t_m1, t_m2, t_m1000, Decidable.not_not] at c13
      refine w_Land_roadBetween_30 ?_
      refine w_Land_roadBetween_31 ?_
      exact ⟨by first | (exfalso; omega) | rw [if_pos (by omega)] | rw [if_neg (by omega)], rfl⟩
    · try simp only [ite01t, ite01v, Int32.reduceToInt, t_m1, t_m2, t_m1000, Decidable.not_not] at c13
      refine w_Land_roadBetween_16 A (by have h1 := n_lt (x := x) (n := 6) (by omega) (by omega); have h2 := n_lt (x := y) (n := 6) (by omega) (by omega); have e := n_add (n_mul (n_of (x := x) (by omega)) (show (6 : Int32).toInt = ((6 : Nat) : Int) from rfl) (by omega)) (n_of (x := y) (by omega)) (by omega); rw [e]; omega) ?_
      refine w_Land_roadBetween_31 ?_
      exact ⟨by first | (exfalso; omega) | rw [if_pos (by omega)] | rw [if_neg (by omega)], rfl⟩
theorem s_howMany (A : LandA h.2 a) (hB : (h.1 a 4).toInt ≤ 8) (n : Nat) (hn : (h.1 a 4).toInt = (n : Int)) (y k p : Int32) : Tc rod (d + 3) 97 [.inr (.inr (.inl (some a))), .inl y, .inl k, .inl p] h (some (.inl (cntW (ld h a) n y k p))) h := by
  apply Wc.tc
  refine n_Land_howManyWant ?_
  refine w_Land_howManyWant_0 rfl ?_
  refine Wb.upc n (fun j L' => ∃ (x m : Int32), L' = [some (.inr (.inr (.inl (some a)))), some (.inl y), some (.inl k), some (.inl p), some (.inl m), some (.inl x)] ∧ x.toInt = (j : Int) ∧ m = cntW (ld h a) j y k p) ?_ (Nat.zero_le n) ⟨0, 0, rfl, rfl, rfl⟩
  rintro j _ hj ⟨x, m, rfl, hx, hm⟩ ih
  have ex := n_eq hx
  have l1 : ld h a 1 j = h.1 (a + 1) j := rfl
  refine w_Land_howManyWant_6 A (fun c6 => ?_) (fun c6 => ?_)
  · try simp only [ite01t, ite01v, Int32.reduceToInt, t_m1, t_m2, t_m1000, Decidable.not_not, ex] at c6
    refine w_Land_howManyWant_51 ?_
    exact ⟨by rw [hm, show j = n by omega], rfl⟩
  · try simp only [ite01t, ite01v, Int32.reduceToInt, t_m1, t_m2, t_m1000, Decidable.not_not, ex] at c6
    refine w_Land_howManyWant_15 (fun c15 => ?_) (fun c15 => ?_)
    · try simp only [ite01t, ite01v, Int32.reduceToInt, t_m1, t_m2, t_m1000, Decidable.not_not, ex] at c15
      refine w_Land_howManyWant_31 A (Tc.wc (s_wants A hB _ _ _)) (Is.k ?_)
      refine w_Land_howManyWant_39 (fun c39 => ?_) (fun c39 => ?_)
      · try simp only [ite01t, ite01v, Int32.reduceToInt, t_m1, t_m2, t_m1000, Decidable.not_not, ex] at c39
        refine w_Land_howManyWant_45 rfl ?_
        refine ih (by omega) _ ⟨_, _, rfl, t_succ hx (by omega), ?_⟩
        clear ih
        rw [cntW_succ, ← hm]
        split
        · first | rfl | (exfalso; grind)
        · first | exact (Int32.add_zero _).symm | (exfalso; grind)
      · try simp only [ite01t, ite01v, Int32.reduceToInt, t_m1, t_m2, t_m1000, Decidable.not_not, ex] at c39
        refine w_Land_howManyWant_42 rfl ?_
        refine w_Land_howManyWant_45 rfl ?_
        refine ih (by omega) _ ⟨_, _, rfl, t_succ hx (by omega), ?_⟩
        clear ih
        rw [cntW_succ, ← hm]
        split
        · first | rfl | (exfalso; grind)
        · first | exact (Int32.add_zero _).symm | (exfalso; grind)
    · try simp only [ite01t, ite01v, Int32.reduceToInt, t_m1, t_m2, t_m1000, Decidable.not_not, ex] at c15
      refine w_Land_howManyWant_20 A (by first | assumption | omega | (refine ⟨?_, ?_⟩ <;> first | assumption | omega)) (fun c20 => ?_) (fun c20 => ?_)
      · try simp only [ite01t, ite01v, Int32.reduceToInt, t_m1, t_m2, t_m1000, Decidable.not_not, ex] at c20
        refine w_Land_howManyWant_45 rfl ?_
        refine ih (by omega) _ ⟨_, _, rfl, t_succ hx (by omega), ?_⟩
        clear ih
        rw [cntW_succ, ← hm]
        split
        · first | rfl | (exfalso; grind)
        · first | exact (Int32.add_zero _).symm | (exfalso; grind)
      · try simp only [ite01t, ite01v, Int32.reduceToInt, t_m1, t_m2, t_m1000, Decidable.not_not, ex] at c20
        refine w_Land_howManyWant_31 A (Tc.wc (s_wants A hB _ _ _)) (Is.k ?_)
        refine w_Land_howManyWant_39 (fun c39 => ?_) (fun c39 => ?_)
        · try simp only [ite01t, ite01v, Int32.reduceToInt, t_m1, t_m2, t_m1000, Decidable.not_not, ex] at c39
          refine w_Land_howManyWant_45 rfl ?_
          refine ih (by omega) _ ⟨_, _, rfl, t_succ hx (by omega), ?_⟩
          clear ih
          rw [cntW_succ, ← hm]
          split
          · first | rfl | (exfalso; grind)
          · first | exact (Int32.add_zero _).symm | (exfalso; grind)
        · try simp only [ite01t, ite01v, Int32.reduceToInt, t_m1, t_m2, t_m1000, Decidable.not_not, ex] at c39
          refine w_Land_howManyWant_42 rfl ?_
          refine w_Land_howManyWant_45 rfl ?_
          refine ih (by omega) _ ⟨_, _, rfl, t_succ hx (by omega), ?_⟩
          clear ih
          rw [cntW_succ, ← hm]
          split
          · first | rfl | (exfalso; grind)
          · first | exact (Int32.add_zero _).symm | (exfalso; grind)
theorem s_brings (A : LandA h.2 a) (hB : (h.1 a 4).toInt ≤ 8) (n : Nat) (hn : (h.1 a 4).toInt = (n : Int)) (y k p : Int32) : Tc rod (d + 4) 96 [.inr (.inr (.inl (some a))), .inl y, .inl k, .inl p] h (some (.inl (brF (ld h a) n y k p))) h := by
  apply Wc.tc
  refine n_Land_brings ?_
  refine w_Land_brings_0 A (Tc.wc (s_howMany A hB n hn _ _ _)) (Is.k ?_)
  refine w_Land_brings_8 ?_
  exact ⟨rfl, rfl⟩
theorem s_bestPrice (A : LandA h.2 a) (hB : (h.1 a 4).toInt ≤ 8) (n : Nat) (hn : (h.1 a 4).toInt = (n : Int)) (y kd : Int32) : Tc rod (d + 5) 95 [.inr (.inr (.inl (some a))), .inl y, .inl kd] h (some (.inl (bestF (brF (ld h a) n y kd) 99))) h := by
  apply Wc.tc
  refine n_Land_bestPrice ?_
  refine w_Land_bestPrice_0 rfl ?_
  refine Wb.upc 99 (fun j L' => ∃ (x b m : Int32) (u : Option MV), L' = [some (.inr (.inr (.inl (some a)))), some (.inl y), some (.inl kd), some (.inl b), some (.inl m), some (.inl x), u] ∧ x.toInt = ((j + 1 : Nat) : Int) ∧ b = bestF (brF (ld h a) n y kd) j ∧ m = brF (ld h a) n y kd b) ?_ (Nat.zero_le _) ⟨1, 0, 0, _, rfl, rfl, rfl, (Int32.zero_mul).symm⟩
  rintro j _ hj ⟨x, b, m, u, rfl, hx, hb, hm⟩ ih
  have ex : x = Int32.ofNat (j + 1) := i32_of (by rw [hx, t_nat (by omega)])
  refine w_Land_bestPrice_8 (fun c8 => ?_) (fun c8 => ?_)
  · try simp only [ite01t, ite01v, Int32.reduceToInt, t_m1, t_m2, t_m1000, Decidable.not_not] at c8
    refine w_Land_bestPrice_45 ?_
    exact ⟨by rw [hb, show j = 99 by omega], rfl⟩
  · try simp only [ite01t, ite01v, Int32.reduceToInt, t_m1, t_m2, t_m1000, Decidable.not_not] at c8
    refine w_Land_bestPrice_15 A (Tc.wc (s_brings A hB n hn _ _ _)) (Is.k ?_)
    refine w_Land_bestPrice_23 rfl (fun c23 => ?_) (fun c23 => ?_)
    · try simp only [ite01t, ite01v, Int32.reduceToInt, t_m1, t_m2, t_m1000, Decidable.not_not] at c23
      refine w_Land_bestPrice_39 rfl ?_
      refine ih (by omega) _ ⟨_, _, _, _, rfl, t_succ hx (by omega), ?_, ?_⟩
      · simp only [bestF]
        rw [← hb, ← ex]
        first | rw [if_pos (by rw [Int32.lt_iff_toInt_lt, ← hm]; omega)] | rw [if_neg (by rw [Int32.lt_iff_toInt_lt, ← hm]; omega)]
      · first | rfl | exact hm
    · try simp only [ite01t, ite01v, Int32.reduceToInt, t_m1, t_m2, t_m1000, Decidable.not_not] at c23
      refine w_Land_bestPrice_32 rfl rfl ?_
      refine w_Land_bestPrice_39 rfl ?_
      refine ih (by omega) _ ⟨_, _, _, _, rfl, t_succ hx (by omega), ?_, ?_⟩
      · simp only [bestF]
        rw [← hb, ← ex]
        first | rw [if_pos (by rw [Int32.lt_iff_toInt_lt, ← hm]; omega)] | rw [if_neg (by rw [Int32.lt_iff_toInt_lt, ← hm]; omega)]
      · first | rfl | exact hm
end M33
