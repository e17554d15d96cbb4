/-! NUMBERS, LOOPS, what a land says, of both -/
theorem t_succ {i : Int32} {k : Nat} (e : i.toInt = (k : Int)) (hk : k < 2147483647) : (i + 1).toInt = ((k + 1 : Nat) : Int) := by
  rw [i32_add (by rw [e]; show _ ≤ _ + (1 : Int); omega) (by rw [e]; show _ + (1 : Int) ≤ _; omega), e]
  rfl
theorem n_add {x y : Int32} {m n : Nat} (hx : x.toInt = (m : Int)) (hy : y.toInt = (n : Int)) (hb : m + n < 2147483648) : (x + y).toInt = ((m + n : Nat) : Int) := by
  rw [i32_add (by omega) (by omega), hx, hy]
  omega
theorem n_mul {x y : Int32} {m n : Nat} (hx : x.toInt = (m : Int)) (hy : y.toInt = (n : Int)) (hb : m * n < 2147483648) : (x * y).toInt = ((m * n : Nat) : Int) := by
  have e : (m : Int) * (n : Int) = ((m * n : Nat) : Int) := (Int.natCast_mul m n).symm
  rw [i32_mul (by rw [hx, hy, e]; omega) (by rw [hx, hy, e]; omega), hx, hy, e]
theorem n_sub {x y : Int32} {m n : Nat} (hx : x.toInt = (m : Int)) (hy : y.toInt = (n : Int)) (hm : m < 2147483648) (hb : n ≤ m) : (x - y).toInt = ((m - n : Nat) : Int) := by
  rw [i32_sub (by omega) (by omega), hx, hy]
  omega
theorem n_of {x : Int32} (h0 : 0 ≤ x.toInt) : x.toInt = (x.toNatClampNeg : Int) := by
  show _ = ((x.toInt.toNat : Nat) : Int)
  omega
theorem n_lt {x : Int32} {n : Nat} (h0 : 0 ≤ x.toInt) (h1 : x.toInt < (n : Int)) : x.toNatClampNeg < n := by
  show x.toInt.toNat < n
  omega
theorem n_eq {x : Int32} {n : Nat} (e : x.toInt = (n : Int)) : x.toNatClampNeg = n := clampK e
def sumF (g : Nat → Int32) : Nat → Int32
  | 0 => 0
  | n + 1 => sumF g n + g n
theorem sumF_ext {g g' : Nat → Int32} {n : Nat} (e : ∀ b, b < n → g b = g' b) : sumF g n = sumF g' n := by
  induction n with
  | zero => rfl
  | succ n ih => rw [sumF, sumF, ih (fun b hb => e b (by omega)), e n (by omega)]
section LP33
variable {rod : Nat → Nat × (Nat → Int32)} {d : Nat} {B : MB} {pc : Nat} {st : List MV} {Q : Option MV → MH → Prop}
/-- a loop that leaves the heap -/
theorem Wb.upc {h : MH} (n : Nat) (P : Nat → ML → Prop) (step : ∀ k L, k ≤ n → P k L → (k < n → ∀ L', P (k + 1) L' → Wb rod d B pc L' st h Q) → Wb rod d B pc L st h Q) {k : Nat} {L : ML} (hk : k ≤ n) (H : P k L) : Wb rod d B pc L st h Q := by
  have : ∀ j k L, k + j = n → P k L → Wb rod d B pc L st h Q := by
    intro j
    induction j with
    | zero => intro k L e H; exact step k L (by omega) H (fun q => absurd q (by omega))
    | succ j ih => intro k L e H; exact step k L (by omega) H (fun _ L' H' => ih (k + 1) L' (by omega) H')
  exact this (n - k) k L (by omega) H
/-- a loop that writes numbers -/
theorem Wb.upf {R : MR2} (n : Nat) (P : Nat → ML → (Nat → Nat → Int32) → Prop) (step : ∀ k L f, k ≤ n → P k L f → (k < n → ∀ L' f', P (k + 1) L' f' → Wb rod d B pc L' st (f', R) Q) → Wb rod d B pc L st (f, R) Q) {k : Nat} {L : ML} {f : Nat → Nat → Int32} (hk : k ≤ n) (H : P k L f) : Wb rod d B pc L st (f, R) Q := by
  have : ∀ j k L f, k + j = n → P k L f → Wb rod d B pc L st (f, R) Q := by
    intro j
    induction j with
    | zero => intro k L f e H; exact step k L f (by omega) H (fun q => absurd q (by omega))
    | succ j ih => intro k L f e H; exact step k L f (by omega) H (fun _ L' f' H' => ih (k + 1) L' f' (by omega) H')
  exact this (n - k) k L f (by omega) H
end LP33
/-- what a land, a season, a ledger, a bargain of the class says -/
def ld (h : MH) (a : Nat) : Nat → Nat → Int32 := fun c j => if c < 9 then h.1 (a + c) j else 0
def sd (h : MH) (a : Nat) : Nat → Nat → Int32 := fun c j => if c < 4 then h.1 (a + c) j else 0
def gd (h : MH) (a : Nat) : Nat → Nat → Int32 := fun c j => if c < 3 then h.1 (a + c) j else 0
def bd (h : MH) (a : Nat) : Nat → Nat → Int32 := fun c j => if c < 2 then h.1 (a + c) j else 0
theorem ldk {h h' : MH} {a : Nat} (k : Keep h h') (ha : a + 9 ≤ 45) : ld h' a = ld h a := by
  funext c j
  simp only [ld]
  split
  · rw [k.2 _ (by simp only [Scr]; omega)]
  · rfl
theorem sdk {h h' : MH} {a : Nat} (k : Keep h h') (ha : a + 4 ≤ 45) : sd h' a = sd h a := by
  funext c j
  simp only [sd]
  split
  · rw [k.2 _ (by simp only [Scr]; omega)]
  · rfl
theorem gdk {h h' : MH} {a : Nat} (k : Keep h h') (ha : a + 3 ≤ 45) : gd h' a = gd h a := by
  funext c j
  simp only [gd]
  split
  · rw [k.2 _ (by simp only [Scr]; omega)]
  · rfl
theorem bdk {h h' : MH} {a : Nat} (k : Keep h h') (ha : a + 2 ≤ 45) : bd h' a = bd h a := by
  funext c j
  simp only [bd]
  split
  · rw [k.2 _ (by simp only [Scr]; omega)]
  · rfl
/-- would one who owes and fears so much pay so much for so many years -/
def worthF (k o f y p : Int32) : Bool := decide ((k.toInt = 1 ∧ p.toInt ≤ (f * y).toInt) ∨ (k.toInt = 3 ∧ 0 < o.toInt ∧ (2 * p).toInt ≤ (f * (if o < y then o else y)).toInt) ∨ (k.toInt = 2 ∧ 0 < o.toInt ∧ p.toInt ≤ (2 * f * (if o < y then o else y)).toInt) ∨ (k.toInt ≠ 1 ∧ k.toInt ≠ 2 ∧ k.toInt ≠ 3 ∧ 0 < o.toInt ∧ p.toInt ≤ (f * (if o < y then o else y)).toInt))
def wantsF (k o m f y p : Int32) : Bool := decide (p.toInt ≤ m.toInt) && worthF k o f y p
/-- buyer b of a land, as told -/
def lw (D : Nat → Nat → Int32) (y p : Int32) (b : Nat) : Bool := wantsF (D 1 b) (D 3 b) (D 4 b) (D 5 b) y p
section M33
variable {rod : Nat → Nat × (Nat → Int32)} {d : Nat} {h : MH} {a l : Nat}
theorem s_hasTown (A : LandA h.2 a) (x : Int32) : Tc rod (d + 1) 65 [.inr (.inr (.inl (some a))), .inl x] h (some (.inl (if 0 ≤ x.toInt ∧ x.toInt < (h.1 a 0).toInt then 1 else 0))) h := by
  apply Wc.tc
  refine n_Land_hasTown ?_
  refine w_Land_hasTown_0 (fun c0 => ?_) (fun c0 => ?_)
  · try simp only [ite01t, ite01v, Decidable.not_not] at c0
    refine w_Land_hasTown_16 ?_
    refine w_Land_hasTown_17 (by first | exact Or.inl rfl | exact Or.inr rfl | exact or01 | assumption) ?_
    exact ⟨by first | (exfalso; omega) | rw [if_pos (by omega)] | rw [if_neg (by omega)], rfl⟩
  · try simp only [ite01t, ite01v, Decidable.not_not] at c0
    refine w_Land_hasTown_4 A (fun c4 => ?_) (fun c4 => ?_)
    · try simp only [ite01t, ite01v, Decidable.not_not] at c4
      refine w_Land_hasTown_16 ?_
      refine w_Land_hasTown_17 (by first | exact Or.inl rfl | exact Or.inr rfl | exact or01 | assumption) ?_
      exact ⟨by first | (exfalso; omega) | rw [if_pos (by omega)] | rw [if_neg (by omega)], rfl⟩
    · try simp only [ite01t, ite01v, Decidable.not_not] at c4
      refine w_Land_hasTown_12 ?_
      refine w_Land_hasTown_17 (by first | exact Or.inl rfl | exact Or.inr rfl | exact or01 | assumption) ?_
      exact ⟨by first | (exfalso; omega) | rw [if_pos (by omega)] | rw [if_neg (by omega)], rfl⟩
theorem s_hasBuyer (A : LandA h.2 a) (x : Int32) : Tc rod (d + 1) 70 [.inr (.inr (.inl (some a))), .inl x] h (some (.inl (if 0 ≤ x.toInt ∧ x.toInt < (h.1 a 4).toInt then 1 else 0))) h := by
  apply Wc.tc
  refine n_Land_hasBuyer ?_
  refine w_Land_hasBuyer_0 (fun c0 => ?_) (fun c0 => ?_)
  · try simp only [ite01t, ite01v, Decidable.not_not] at c0
    refine w_Land_hasBuyer_16 ?_
    refine w_Land_hasBuyer_17 (by first | exact Or.inl rfl | exact Or.inr rfl | exact or01 | assumption) ?_
    exact ⟨by first | (exfalso; omega) | rw [if_pos (by omega)] | rw [if_neg (by omega)], rfl⟩
  · try simp only [ite01t, ite01v, Decidable.not_not] at c0
    refine w_Land_hasBuyer_4 A (fun c4 => ?_) (fun c4 => ?_)
    · try simp only [ite01t, ite01v, Decidable.not_not] at c4
      refine w_Land_hasBuyer_16 ?_
      refine w_Land_hasBuyer_17 (by first | exact Or.inl rfl | exact Or.inr rfl | exact or01 | assumption) ?_
      exact ⟨by first | (exfalso; omega) | rw [if_pos (by omega)] | rw [if_neg (by omega)], rfl⟩
    · try simp only [ite01t, ite01v, Decidable.not_not] at c4
      refine w_Land_hasBuyer_12 ?_
      refine w_Land_hasBuyer_17 (by first | exact Or.inl rfl | exact Or.inr rfl | exact or01 | assumption) ?_
      exact ⟨by first | (exfalso; omega) | rw [if_pos (by omega)] | rw [if_neg (by omega)], rfl⟩
theorem s_hasLetter (A : LandA h.2 a) (x : Int32) : Tc rod (d + 1) 68 [.inr (.inr (.inl (some a))), .inl x] h (some (.inl (if 0 ≤ x.toInt ∧ x.toInt < (h.1 a 5).toInt then 1 else 0))) h := by
  apply Wc.tc
  refine n_Land_hasLetter ?_
  refine w_Land_hasLetter_0 (fun c0 => ?_) (fun c0 => ?_)
  · try simp only [ite01t, ite01v, Decidable.not_not] at c0
    refine w_Land_hasLetter_16 ?_
    refine w_Land_hasLetter_17 (by first | exact Or.inl rfl | exact Or.inr rfl | exact or01 | assumption) ?_
    exact ⟨by first | (exfalso; omega) | rw [if_pos (by omega)] | rw [if_neg (by omega)], rfl⟩
  · try simp only [ite01t, ite01v, Decidable.not_not] at c0
    refine w_Land_hasLetter_4 A (fun c4 => ?_) (fun c4 => ?_)
    · try simp only [ite01t, ite01v, Decidable.not_not] at c4
      refine w_Land_hasLetter_16 ?_
      refine w_Land_hasLetter_17 (by first | exact Or.inl rfl | exact Or.inr rfl | exact or01 | assumption) ?_
      exact ⟨by first | (exfalso; omega) | rw [if_pos (by omega)] | rw [if_neg (by omega)], rfl⟩
    · try simp only [ite01t, ite01v, Decidable.not_not] at c4
      refine w_Land_hasLetter_12 ?_
      refine w_Land_hasLetter_17 (by first | exact Or.inl rfl | exact Or.inr rfl | exact or01 | assumption) ?_
      exact ⟨by first | (exfalso; omega) | rw [if_pos (by omega)] | rw [if_neg (by omega)], rfl⟩
theorem s_isOffer (y p : Int32) (h : MH) : Tc rod (d + 1) 92 [.inl y, .inl p] h (some (.inl (if (1 ≤ y.toInt ∧ y.toInt ≤ 60) ∧ 0 ≤ p.toInt ∧ p.toInt ≤ 99 then 1 else 0))) h := by
  apply Wc.tc
  refine n_Main_isOffer ?_
  refine w_Main_isOffer_0 (fun c0 => ?_) (fun c0 => ?_)
  · try simp only [ite01t, ite01v, Decidable.not_not] at c0
    refine w_Main_isOffer_25 ?_
    refine w_Main_isOffer_26 (by first | exact Or.inl rfl | exact Or.inr rfl | exact or01 | assumption) ?_
    exact ⟨by first | (exfalso; omega) | rw [if_pos (by omega)] | rw [if_neg (by omega)], rfl⟩
  · try simp only [ite01t, ite01v, Decidable.not_not] at c0
    refine w_Main_isOffer_5 (fun c5 => ?_) (fun c5 => ?_)
    · try simp only [ite01t, ite01v, Decidable.not_not] at c5
      refine w_Main_isOffer_25 ?_
      refine w_Main_isOffer_26 (by first | exact Or.inl rfl | exact Or.inr rfl | exact or01 | assumption) ?_
      exact ⟨by first | (exfalso; omega) | rw [if_pos (by omega)] | rw [if_neg (by omega)], rfl⟩
    · try simp only [ite01t, ite01v, Decidable.not_not] at c5
      refine w_Main_isOffer_11 (fun c11 => ?_) (fun c11 => ?_)
      · try simp only [ite01t, ite01v, Decidable.not_not] at c11
        refine w_Main_isOffer_25 ?_
        refine w_Main_isOffer_26 (by first | exact Or.inl rfl | exact Or.inr rfl | exact or01 | assumption) ?_
        exact ⟨by first | (exfalso; omega) | rw [if_pos (by omega)] | rw [if_neg (by omega)], rfl⟩
      · try simp only [ite01t, ite01v, Decidable.not_not] at c11
        refine w_Main_isOffer_15 (fun c15 => ?_) (fun c15 => ?_)
        · try simp only [ite01t, ite01v, Decidable.not_not] at c15
          refine w_Main_isOffer_25 ?_
          refine w_Main_isOffer_26 (by first | exact Or.inl rfl | exact Or.inr rfl | exact or01 | assumption) ?_
          exact ⟨by first | (exfalso; omega) | rw [if_pos (by omega)] | rw [if_neg (by omega)], rfl⟩
        · try simp only [ite01t, ite01v, Decidable.not_not] at c15
          refine w_Main_isOffer_21 ?_
          refine w_Main_isOffer_26 (by first | exact Or.inl rfl | exact Or.inr rfl | exact or01 | assumption) ?_
          exact ⟨by first | (exfalso; omega) | rw [if_pos (by omega)] | rw [if_neg (by omega)], rfl⟩
theorem s_worth (k o f y p : Int32) (h : MH) : Tc rod (d + 1) 82 [.inl k, .inl o, .inl f, .inl y, .inl p] h (some (.inl (if worthF k o f y p = true then 1 else 0))) h := by
  apply Wc.tc
  refine n_Land_isWorthIt ?_
  refine w_Land_isWorthIt_0 (fun c0 => ?_) (fun c0 => ?_)
  · try simp only [ite01t, ite01v, Decidable.not_not] at c0
    refine w_Land_isWorthIt_19 (fun c19 => ?_) (fun c19 => ?_)
    · try simp only [ite01t, ite01v, Decidable.not_not] at c19
      refine w_Land_isWorthIt_31 ?_
      refine w_Land_isWorthIt_33 rfl (fun c33 => ?_) (fun c33 => ?_)
      · try simp only [ite01t, ite01v, Decidable.not_not] at c33
        refine w_Land_isWorthIt_46 ?_
        refine w_Land_isWorthIt_47 rfl (fun c47 => ?_) (fun c47 => ?_)
        · try simp only [ite01t, ite01v, Decidable.not_not] at c47
          refine w_Land_isWorthIt_70 ?_
          refine w_Land_isWorthIt_71 (by first | exact Or.inl rfl | exact Or.inr rfl | exact or01 | assumption) ?_
          exact ⟨by first | (exfalso; omega) | rw [if_pos (by simp only [worthF, decide_eq_true_eq]; omega)] | rw [if_neg (by simp only [worthF, decide_eq_true_eq]; omega)], rfl⟩
        · try simp only [ite01t, ite01v, Decidable.not_not] at c47
          refine w_Land_isWorthIt_53 (fun c53 => ?_) (fun c53 => ?_)
          · try simp only [ite01t, ite01v, Decidable.not_not] at c53
            refine w_Land_isWorthIt_70 ?_
            refine w_Land_isWorthIt_71 (by first | exact Or.inl rfl | exact Or.inr rfl | exact or01 | assumption) ?_
            exact ⟨by first | (exfalso; omega) | rw [if_pos (by simp only [worthF, decide_eq_true_eq]; omega)] | rw [if_neg (by simp only [worthF, decide_eq_true_eq]; omega)], rfl⟩
          · try simp only [ite01t, ite01v, Decidable.not_not] at c53
            refine w_Land_isWorthIt_66 ?_
            refine w_Land_isWorthIt_71 (by first | exact Or.inl rfl | exact Or.inr rfl | exact or01 | assumption) ?_
            exact ⟨by first | (exfalso; omega) | rw [if_pos (by simp only [worthF, decide_eq_true_eq]; omega)] | rw [if_neg (by simp only [worthF, decide_eq_true_eq]; omega)], rfl⟩
      · try simp only [ite01t, ite01v, Decidable.not_not] at c33
        refine w_Land_isWorthIt_40 ?_
        refine w_Land_isWorthIt_47 rfl (fun c47 => ?_) (fun c47 => ?_)
        · try simp only [ite01t, ite01v, Decidable.not_not] at c47
          refine w_Land_isWorthIt_70 ?_
          refine w_Land_isWorthIt_71 (by first | exact Or.inl rfl | exact Or.inr rfl | exact or01 | assumption) ?_
          exact ⟨by first | (exfalso; omega) | rw [if_pos (by simp only [worthF, decide_eq_true_eq]; omega)] | rw [if_neg (by simp only [worthF, decide_eq_true_eq]; omega)], rfl⟩
        · try simp only [ite01t, ite01v, Decidable.not_not] at c47
          refine w_Land_isWorthIt_53 (fun c53 => ?_) (fun c53 => ?_)
          · try simp only [ite01t, ite01v, Decidable.not_not] at c53
            refine w_Land_isWorthIt_70 ?_
            refine w_Land_isWorthIt_71 (by first | exact Or.inl rfl | exact Or.inr rfl | exact or01 | assumption) ?_
            exact ⟨by first | (exfalso; omega) | rw [if_pos (by simp only [worthF, decide_eq_true_eq]; omega)] | rw [if_neg (by simp only [worthF, decide_eq_true_eq]; omega)], rfl⟩
          · try simp only [ite01t, ite01v, Decidable.not_not] at c53
            refine w_Land_isWorthIt_66 ?_
            refine w_Land_isWorthIt_71 (by first | exact Or.inl rfl | exact Or.inr rfl | exact or01 | assumption) ?_
            exact ⟨by first | (exfalso; omega) | rw [if_pos (by simp only [worthF, decide_eq_true_eq]; omega)] | rw [if_neg (by simp only [worthF, decide_eq_true_eq]; omega)], rfl⟩
    · try simp only [ite01t, ite01v, Decidable.not_not] at c19
      refine w_Land_isWorthIt_24 ?_
      refine w_Land_isWorthIt_33 rfl (fun c33 => ?_) (fun c33 => ?_)
      · try simp only [ite01t, ite01v, Decidable.not_not] at c33
        refine w_Land_isWorthIt_46 ?_
        refine w_Land_isWorthIt_47 rfl (fun c47 => ?_) (fun c47 => ?_)
        · try simp only [ite01t, ite01v, Decidable.not_not] at c47
          refine w_Land_isWorthIt_70 ?_
          refine w_Land_isWorthIt_71 (by first | exact Or.inl rfl | exact Or.inr rfl | exact or01 | assumption) ?_
          exact ⟨by first | (exfalso; omega) | rw [if_pos (by simp only [worthF, decide_eq_true_eq]; omega)] | rw [if_neg (by simp only [worthF, decide_eq_true_eq]; omega)], rfl⟩
        · try simp only [ite01t, ite01v, Decidable.not_not] at c47
          refine w_Land_isWorthIt_53 (fun c53 => ?_) (fun c53 => ?_)
          · try simp only [ite01t, ite01v, Decidable.not_not] at c53
            refine w_Land_isWorthIt_70 ?_
            refine w_Land_isWorthIt_71 (by first | exact Or.inl rfl | exact Or.inr rfl | exact or01 | assumption) ?_
            exact ⟨by first | (exfalso; omega) | rw [if_pos (by simp only [worthF, decide_eq_true_eq]; omega)] | rw [if_neg (by simp only [worthF, decide_eq_true_eq]; omega)], rfl⟩
          · try simp only [ite01t, ite01v, Decidable.not_not] at c53
            refine w_Land_isWorthIt_66 ?_
            refine w_Land_isWorthIt_71 (by first | exact Or.inl rfl | exact Or.inr rfl | exact or01 | assumption) ?_
            exact ⟨by first | (exfalso; omega) | rw [if_pos (by simp only [worthF, decide_eq_true_eq]; omega)] | rw [if_neg (by simp only [worthF, decide_eq_true_eq]; omega)], rfl⟩
      · try simp only [ite01t, ite01v, Decidable.not_not] at c33
        refine w_Land_isWorthIt_40 ?_
        refine w_Land_isWorthIt_47 rfl (fun c47 => ?_) (fun c47 => ?_)
        · try simp only [ite01t, ite01v, Decidable.not_not] at c47
          refine w_Land_isWorthIt_70 ?_
          refine w_Land_isWorthIt_71 (by first | exact Or.inl rfl | exact Or.inr rfl | exact or01 | assumption) ?_
          exact ⟨by first | (exfalso; omega) | rw [if_pos (by simp only [worthF, decide_eq_true_eq]; omega)] | rw [if_neg (by simp only [worthF, decide_eq_true_eq]; omega)], rfl⟩
        · try simp only [ite01t, ite01v, Decidable.not_not] at c47
          refine w_Land_isWorthIt_53 (fun c53 => ?_) (fun c53 => ?_)
          · try simp only [ite01t, ite01v, Decidable.not_not] at c53
            refine w_Land_isWorthIt_70 ?_
            refine w_Land_isWorthIt_71 (by first | exact Or.inl rfl | exact Or.inr rfl | exact or01 | assumption) ?_
            exact ⟨by first | (exfalso; omega) | rw [if_pos (by simp only [worthF, decide_eq_true_eq]; omega)] | rw [if_neg (by simp only [worthF, decide_eq_true_eq]; omega)], rfl⟩
          · try simp only [ite01t, ite01v, Decidable.not_not] at c53
            refine w_Land_isWorthIt_66 ?_
            refine w_Land_isWorthIt_71 (by first | exact Or.inl rfl | exact Or.inr rfl | exact or01 | assumption) ?_
            exact ⟨by first | (exfalso; omega) | rw [if_pos (by simp only [worthF, decide_eq_true_eq]; omega)] | rw [if_neg (by simp only [worthF, decide_eq_true_eq]; omega)], rfl⟩
  · try simp only [ite01t, ite01v, Decidable.not_not] at c0
    refine w_Land_isWorthIt_5 (fun c5 => ?_) (fun c5 => ?_)
    · try simp only [ite01t, ite01v, Decidable.not_not] at c5
      refine w_Land_isWorthIt_17 ?_
      refine w_Land_isWorthIt_18 (by first | exact Or.inl rfl | exact Or.inr rfl | exact or01 | assumption) ?_
      exact ⟨by first | (exfalso; omega) | rw [if_pos (by simp only [worthF, decide_eq_true_eq]; omega)] | rw [if_neg (by simp only [worthF, decide_eq_true_eq]; omega)], rfl⟩
    · try simp only [ite01t, ite01v, Decidable.not_not] at c5
      refine w_Land_isWorthIt_13 ?_
      refine w_Land_isWorthIt_18 (by first | exact Or.inl rfl | exact Or.inr rfl | exact or01 | assumption) ?_
      exact ⟨by first | (exfalso; omega) | rw [if_pos (by simp only [worthF, decide_eq_true_eq]; omega)] | rw [if_neg (by simp only [worthF, decide_eq_true_eq]; omega)], rfl⟩
theorem s_wants (A : LandA h.2 a) (hB : (h.1 a 4).toInt ≤ 8) (b y p : Int32) : Tc rod (d + 2) 93 [.inr (.inr (.inl (some a))), .inl b, .inl y, .inl p] h (some (.inl (if (0 ≤ b.toInt ∧ b.toInt < (h.1 a 4).toInt) ∧ lw (ld h a) y p b.toNatClampNeg = true then 1 else 0))) h := by
  apply Wc.tc
  refine n_Land_wants ?_
  refine w_Land_wants_0 A (Tc.wc (s_hasBuyer A _)) ?_
  rintro _ _ ⟨rfl, rfl⟩
  refine w_Land_wants_5 (fun c5 => ?_) (fun c5 => ?_)
  · try simp only [ite01t, ite01v, Decidable.not_not] at c5
    refine w_Land_wants_48 ?_
    refine w_Land_wants_49 (by first | exact Or.inl rfl | exact Or.inr rfl | exact or01 | assumption) ?_
    exact ⟨by simp only [lw, wantsF, Bool.and_eq_true, decide_eq_true_eq]; first | rw [if_pos (by refine ⟨by omega, Int.not_lt.mp c8, by assumption⟩)] | rw [if_neg (fun q => by first | omega | exact absurd q.2.1 (Int.not_le.mpr c8) | exact c41 q.2.2)], rfl⟩
  · try simp only [ite01t, ite01v, Decidable.not_not] at c5
    refine w_Land_wants_8 A (by first | assumption | omega | (refine ⟨?_, ?_⟩ <;> first | assumption | omega)) (fun c8 => ?_) (fun c8 => ?_)
    · try simp only [ite01t, ite01v, Decidable.not_not] at c8
      refine w_Land_wants_48 ?_
      refine w_Land_wants_49 (by first | exact Or.inl rfl | exact Or.inr rfl | exact or01 | assumption) ?_
      exact ⟨by simp only [lw, wantsF, Bool.and_eq_true, decide_eq_true_eq]; first | rw [if_pos (by refine ⟨by omega, Int.not_lt.mp c8, by assumption⟩)] | rw [if_neg (fun q => by first | omega | exact absurd q.2.1 (Int.not_le.mpr c8) | exact c41 q.2.2)], rfl⟩
    · try simp only [ite01t, ite01v, Decidable.not_not] at c8
      refine w_Land_wants_18 A (by first | assumption | omega | (refine ⟨?_, ?_⟩ <;> first | assumption | omega)) (Tc.wc (s_worth _ _ _ _ _ _)) ?_
      rintro _ _ ⟨rfl, rfl⟩
      refine w_Land_wants_41 (fun c41 => ?_) (fun c41 => ?_)
      · try simp only [ite01t, ite01v, Decidable.not_not] at c41
        refine w_Land_wants_48 ?_
        refine w_Land_wants_49 (by first | exact Or.inl rfl | exact Or.inr rfl | exact or01 | assumption) ?_
        exact ⟨by simp only [lw, wantsF, Bool.and_eq_true, decide_eq_true_eq]; first | rw [if_pos (by refine ⟨by omega, Int.not_lt.mp c8, by assumption⟩)] | rw [if_neg (fun q => by first | omega | exact absurd q.2.1 (Int.not_le.mpr c8) | exact c41 q.2.2)], rfl⟩
      · try simp only [ite01t, ite01v, Decidable.not_not] at c41
        refine w_Land_wants_44 ?_
        refine w_Land_wants_49 (by first | exact Or.inl rfl | exact Or.inr rfl | exact or01 | assumption) ?_
        exact ⟨by simp only [lw, wantsF, Bool.and_eq_true, decide_eq_true_eq]; first | rw [if_pos (by refine ⟨by omega, Int.not_lt.mp c8, by assumption⟩)] | rw [if_neg (fun q => by first | omega | exact absurd q.2.1 (Int.not_le.mpr c8) | exact c41 q.2.2)], rfl⟩
theorem s_road (A : LandA h.2 a) (hT : (h.1 a 0).toInt ≤ 6) (x y : Int32) : Tc rod (d + 2) 66 [.inr (.inr (.inl (some a))), .inl x, .inl y] h (some (.inl (if (0 ≤ x.toInt ∧ x.toInt < (h.1 a 0).toInt) ∧ 0 ≤ y.toInt ∧ y.toInt < (h.1 a 0).toInt then h.1 (a + 8) (x * 6 + y).toNatClampNeg else 0))) h := by
  apply Wc.tc
  refine n_Land_roadBetween ?_
  refine w_Land_roadBetween_0 A (Tc.wc (s_hasTown A _)) ?_
  rintro _ _ ⟨rfl, rfl⟩
  refine w_Land_roadBetween_5 (fun c5 => ?_) (fun c5 => ?_)
  · try simp only [ite01t, ite01v, Decidable.not_not] at c5
    refine w_Land_roadBetween_30 ?_
    refine w_Land_roadBetween_31 ?_
    exact ⟨by first | (exfalso; omega) | rw [if_pos (by omega)] | rw [if_neg (by omega)], rfl⟩
  · try simp only [ite01t, ite01v, Decidable.not_not] at c5
    refine w_Land_roadBetween_8 A (Tc.wc (s_hasTown A _)) ?_
    rintro _ _ ⟨rfl, rfl⟩
    refine w_Land_roadBetween_13 (fun c13 => ?_) (fun c13 => ?_)
    · try simp only [ite01t, ite01v, Decidable.not_not] at c13
      refine w_Land_roadBetween_30 ?_
      refine w_Land_roadBetween_31 ?_
      exact ⟨by first | (exfalso; omega) | rw [if_pos (by omega)] | rw [if_neg (by omega)], rfl⟩
    · try simp only [ite01t, ite01v, Decidable.not_not] at c13
      refine w_Land_roadBetween_16 A (by have e := n_add (n_mul (n_of (x := x) (by omega)) (show (6 : Int32).toInt = ((6 : Nat) : Int) from rfl) (by have := n_lt (x := x) (n := 6) (by omega) (by omega); omega)) (n_of (x := y) (by omega)) (by have := n_lt (x := x) (n := 6) (by omega) (by omega); have := n_lt (x := y) (n := 6) (by omega) (by omega); omega); have := n_lt (x := x) (n := 6) (by omega) (by omega); have := n_lt (x := y) (n := 6) (by omega) (by omega); rw [e]; omega) ?_
      refine w_Land_roadBetween_31 ?_
      exact ⟨by first | (exfalso; omega) | rw [if_pos (by omega)] | rw [if_neg (by omega)], rfl⟩
theorem s_howMany (A : LandA h.2 a) (hB : (h.1 a 4).toInt ≤ 8) (n : Nat) (hn : (h.1 a 4).toInt = (n : Int)) (y k p : Int32) : Tc rod (d + 3) 97 [.inr (.inr (.inl (some a))), .inl y, .inl k, .inl p] h (some (.inl (sumF (fun b => if (k.toInt = -1 ∨ (ld h a 1 b).toInt = k.toInt) ∧ lw (ld h a) y p b = true then 1 else 0) n))) h := by
  apply Wc.tc
  refine n_Land_howManyWant ?_
  refine w_Land_howManyWant_0 rfl ?_
  refine Wb.upc n (fun j L' => ∃ (x m : Int32), L' = [some (.inr (.inr (.inl (some a)))), some (.inl y), some (.inl k), some (.inl p), some (.inl m), some (.inl x)] ∧ x.toInt = (j : Int) ∧ m = sumF (fun b => if (k.toInt = -1 ∨ (ld h a 1 b).toInt = k.toInt) ∧ lw (ld h a) y p b = true then 1 else 0) j) ?_ (Nat.zero_le n) ⟨0, 0, rfl, rfl, rfl⟩
  rintro j _ hj ⟨x, m, rfl, hx, hm⟩ ih
  have ex := n_eq hx
  refine w_Land_howManyWant_6 A (fun c6 => ?_) (fun c6 => ?_)
  · try simp only [ite01t, ite01v, Decidable.not_not] at c6
    refine w_Land_howManyWant_51 ?_
    exact ⟨by rw [hm, show j = n by omega], rfl⟩
  · try simp only [ite01t, ite01v, Decidable.not_not] at c6
    refine w_Land_howManyWant_15 (fun c15 => ?_) (fun c15 => ?_)
    · try simp only [ite01t, ite01v, Decidable.not_not] at c15
      refine w_Land_howManyWant_31 A (Tc.wc (s_wants A hB _ _ _)) ?_
      rintro _ _ ⟨rfl, rfl⟩
      refine w_Land_howManyWant_39 (fun c39 => ?_) (fun c39 => ?_)
      · try simp only [ite01t, ite01v, Decidable.not_not] at c39
        refine w_Land_howManyWant_45 rfl ?_
        refine ih (by omega) _ ⟨_, _, rfl, t_succ hx (by omega), ?_⟩
        rw [hm, sumF]
        simp only [ex] at *
        first | rw [if_pos (by refine ⟨?_, ?_⟩ <;> first | omega | (first | exact Or.inl (by assumption) | exact Or.inr (by assumption)) | exact (And.right (by assumption)))] | rw [if_neg (fun q => by grind), Int32.add_zero]
      · try simp only [ite01t, ite01v, Decidable.not_not] at c39
        refine w_Land_howManyWant_42 rfl ?_
        refine w_Land_howManyWant_45 rfl ?_
        refine ih (by omega) _ ⟨_, _, rfl, t_succ hx (by omega), ?_⟩
        rw [hm, sumF]
        simp only [ex] at *
        first | rw [if_pos (by refine ⟨?_, ?_⟩ <;> first | omega | (first | exact Or.inl (by assumption) | exact Or.inr (by assumption)) | exact (And.right (by assumption)))] | rw [if_neg (fun q => by grind), Int32.add_zero]
    · try simp only [ite01t, ite01v, Decidable.not_not] at c15
      refine w_Land_howManyWant_20 A (by first | assumption | omega | (refine ⟨?_, ?_⟩ <;> first | assumption | omega)) (fun c20 => ?_) (fun c20 => ?_)
      · try simp only [ite01t, ite01v, Decidable.not_not] at c20
        refine w_Land_howManyWant_45 rfl ?_
        refine ih (by omega) _ ⟨_, _, rfl, t_succ hx (by omega), ?_⟩
        rw [hm, sumF]
        simp only [ex] at *
        first | rw [if_pos (by refine ⟨?_, ?_⟩ <;> first | omega | (first | exact Or.inl (by assumption) | exact Or.inr (by assumption)) | exact (And.right (by assumption)))] | rw [if_neg (fun q => by grind), Int32.add_zero]
      · try simp only [ite01t, ite01v, Decidable.not_not] at c20
        refine w_Land_howManyWant_31 A (Tc.wc (s_wants A hB _ _ _)) ?_
        rintro _ _ ⟨rfl, rfl⟩
        refine w_Land_howManyWant_39 (fun c39 => ?_) (fun c39 => ?_)
        · try simp only [ite01t, ite01v, Decidable.not_not] at c39
          refine w_Land_howManyWant_45 rfl ?_
          refine ih (by omega) _ ⟨_, _, rfl, t_succ hx (by omega), ?_⟩
          rw [hm, sumF]
          simp only [ex] at *
          first | rw [if_pos (by refine ⟨?_, ?_⟩ <;> first | omega | (first | exact Or.inl (by assumption) | exact Or.inr (by assumption)) | exact (And.right (by assumption)))] | rw [if_neg (fun q => by grind), Int32.add_zero]
        · try simp only [ite01t, ite01v, Decidable.not_not] at c39
          refine w_Land_howManyWant_42 rfl ?_
          refine w_Land_howManyWant_45 rfl ?_
          refine ih (by omega) _ ⟨_, _, rfl, t_succ hx (by omega), ?_⟩
          rw [hm, sumF]
          simp only [ex] at *
          first | rw [if_pos (by refine ⟨?_, ?_⟩ <;> first | omega | (first | exact Or.inl (by assumption) | exact Or.inr (by assumption)) | exact (And.right (by assumption)))] | rw [if_neg (fun q => by grind), Int32.add_zero]
end M33
