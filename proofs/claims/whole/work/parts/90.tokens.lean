/-! THE READER: tokens -/
section M90
variable {rod : Nat → Nat × (Nat → Int32)} {d : Nat} {h : MH} {len : Nat} {T : Nat → Int} {P : Nat → Bool}
theorem nar_byte {x : Int32} (hx : -128 ≤ x.toInt ∧ x.toInt ≤ 127) : mdef x 1 = x := by
  apply i32_of
  show (x.toInt8.toInt32).toInt = x.toInt
  rw [Int8.toInt_toInt32, Int32.toInt_toInt8]
  exact Int.bmod_eq_of_le (by omega) (by omega)
def isLt (x : Int) : Bool := decide (97 ≤ x ∧ x ≤ 122)
def isDg (x : Int) : Bool := decide (48 ≤ x ∧ x ≤ 57)
def isBl (x : Int) : Bool := decide (x = 32 ∨ x = 10)
/-- how far a run goes -/
def runE (P : Nat → Bool) : Nat → Nat → Nat
  | 0, p => p
  | k + 1, p => if P p = true then runE P k (p + 1) else p
def runT (P : Nat → Bool) (len p : Nat) : Nat := runE P (len - p) p
theorem runT_go {p : Nat} (hp : p < len) (q : P p = true) : runT P len p = runT P len (p + 1) := by
  rw [runT, runT, show len - p = (len - (p + 1)) + 1 by omega, runE, if_pos q]
theorem runT_no {p : Nat} (q : len ≤ p ∨ P p = false) : runT P len p = p := by
  rw [runT]
  cases hk : len - p with
  | zero => rfl
  | succ k =>
    rw [runE, if_neg]
    rcases q with q | q
    · omega
    · rw [q]; decide
theorem runE_bd : ∀ (k p : Nat), p ≤ runE P k p ∧ runE P k p ≤ p + k := by
  intro k
  induction k with
  | zero => intro p; exact ⟨Nat.le_refl _, Nat.le_refl _⟩
  | succ k ih =>
    intro p
    rw [runE]
    split
    · have := ih (p + 1); omega
    · omega
theorem runT_bd {p : Nat} (hp : p ≤ len) : p ≤ runT P len p ∧ runT P len p ≤ len := by
  have := runE_bd (P := P) (len - p) p
  rw [runT]
  omega
def sttF (T : Nat → Int) (len p : Nat) : Nat := runT (fun i => isBl (T i)) len p
def kdF (T : Nat → Int) (len s : Nat) : Nat := if len ≤ s then 0 else if isLt (T s) = true then 1 else if isDg (T s) = true then (if runT (fun i => isDg (T i)) len s - s ≤ 2 then 2 else 4) else if T s = 59 then 3 else 4
def nxF (T : Nat → Int) (len s : Nat) : Nat := if len ≤ s then s else if isLt (T s) = true then runT (fun i => isLt (T i)) len s else if isDg (T s) = true then runT (fun i => isDg (T i)) len s else s + 1
def vlF (T : Nat → Int) (len s : Nat) : Int := if runT (fun i => isDg (T i)) len s - s = 1 then T s - 48 else 10 * (T s - 48) + T (s + 1) - 48
def EnvT (h : MH) (T : Nat → Int) (len : Nat) : Prop := (h.1 1 1).toInt = (len : Int) ∧ len ≤ 600 ∧ ∀ p, p < len → (h.1 2 p).toInt = T p ∧ -128 ≤ T p ∧ T p ≤ 127
theorem EnvT.of {g : MH} (E : EnvT h T len) (e1 : g.1 1 = h.1 1) (e2 : g.1 2 = h.1 2) : EnvT g T len := ⟨by rw [e1]; exact E.1, E.2.1, fun p hp => by rw [e2]; exact E.2.2 p hp⟩
theorem s_rbyte (L : Lay h.2) (E : EnvT h T len) {x : Int32} {p : Nat} (hx : x.toInt = (p : Int)) (hp : p < len) : Tc rod (d + 1) 27 [.inr (.inr (.inl (some 45))), .inl x] h (some (.inl (h.1 2 p))) h := by
  have l6 := E.2.1
  have e := E.2.2 p hp
  apply Wc.tc
  refine n_Reader_byteAt ?_
  refine w_Reader_byteAt_0 (fun c => absurd c (by rw [hx]; omega)) (fun _ => ?_)
  refine w_Reader_byteAt_4 L (fun c => absurd c (by rw [hx, E.1]; omega)) (fun _ => ?_)
  refine w_Reader_byteAt_15 (fun c => absurd (show (600 : Int) ≤ x.toInt from c) (by omega)) (fun _ => ?_)
  refine w_Reader_byteAt_22 L (by omega) ?_
  rw [n_eq hx, nar_byte (by rw [e.1]; exact e.2)]
  refine w_Reader_byteAt_35 ?_
  exact ⟨rfl, rfl⟩
theorem s_rbyte0 (L : Lay h.2) (E : EnvT h T len) {x : Int32} (hx : (len : Int) ≤ x.toInt) : Tc rod (d + 1) 27 [.inr (.inr (.inl (some 45))), .inl x] h (some (.inl 0)) h := by
  apply Wc.tc
  refine n_Reader_byteAt ?_
  refine w_Reader_byteAt_0 (fun c => absurd c (by omega)) (fun _ => ?_)
  refine w_Reader_byteAt_4 L (fun c => ?_) (fun c => absurd (by rw [E.1]; exact hx) c)
  refine w_Reader_byteAt_34 ?_
  refine w_Reader_byteAt_35 ?_
  exact ⟨rfl, rfl⟩
theorem s_rlet (x : Int32) : Tc rod (d + 1) 28 [.inl x] h (some (.inl (if isLt x.toInt = true then 1 else 0))) h := by
  apply Wc.tc
  refine n_Reader_isLetter ?_
  refine w_Reader_isLetter_0 (fun c => ?_) (fun c => ?_)
  · have c' : x.toInt < 97 := c
    refine w_Reader_isLetter_16 ?_
    refine w_Reader_isLetter_17 (Or.inl rfl) ?_
    exact ⟨by rw [if_neg (fun q => by have := of_decide_eq_true q; omega)], rfl⟩
  · have c' : ¬ x.toInt < 97 := c
    refine w_Reader_isLetter_6 (fun w => ?_) (fun w => ?_)
    · have w' : 122 < x.toInt := w
      refine w_Reader_isLetter_16 ?_
      refine w_Reader_isLetter_17 (Or.inl rfl) ?_
      exact ⟨by rw [if_neg (fun q => by have := of_decide_eq_true q; omega)], rfl⟩
    · have w' : ¬ 122 < x.toInt := w
      refine w_Reader_isLetter_12 ?_
      refine w_Reader_isLetter_17 (Or.inr rfl) ?_
      exact ⟨by rw [if_pos (show isLt x.toInt = true from decide_eq_true (by omega))], rfl⟩
theorem s_rdig (x : Int32) : Tc rod (d + 1) 29 [.inl x] h (some (.inl (if isDg x.toInt = true then 1 else 0))) h := by
  apply Wc.tc
  refine n_Reader_isDigit ?_
  refine w_Reader_isDigit_0 (fun c => ?_) (fun c => ?_)
  · have c' : x.toInt < 48 := c
    refine w_Reader_isDigit_16 ?_
    refine w_Reader_isDigit_17 (Or.inl rfl) ?_
    exact ⟨by rw [if_neg (fun q => by have := of_decide_eq_true q; omega)], rfl⟩
  · have c' : ¬ x.toInt < 48 := c
    refine w_Reader_isDigit_6 (fun w => ?_) (fun w => ?_)
    · have w' : 57 < x.toInt := w
      refine w_Reader_isDigit_16 ?_
      refine w_Reader_isDigit_17 (Or.inl rfl) ?_
      exact ⟨by rw [if_neg (fun q => by have := of_decide_eq_true q; omega)], rfl⟩
    · have w' : ¬ 57 < x.toInt := w
      refine w_Reader_isDigit_12 ?_
      refine w_Reader_isDigit_17 (Or.inr rfl) ?_
      exact ⟨by rw [if_pos (show isDg x.toInt = true from decide_eq_true (by omega))], rfl⟩
/-- what else the reader's own cell may have changed in -/
def Rd (h g : MH) : Prop := g.2 = h.2 ∧ (∀ c, c ≠ 45 → g.1 c = h.1 c) ∧ ∀ j, (j < 6 ∨ 9 < j) → g.1 45 j = h.1 45 j
theorem Rd.rfl : Rd h h := ⟨Eq.refl _, fun _ _ => Eq.refl _, fun _ _ => Eq.refl _⟩
theorem Rd.si {g : MH} {j : Nat} {v : Int32} (k : Rd h g) (hj : 6 ≤ j ∧ j ≤ 9) : Rd h (sI g 45 j v) := ⟨k.1, fun c hc => by rw [sI_cell hc]; exact k.2.1 c hc, fun i hi => by rw [sI_nj (by omega)]; exact k.2.2 i hi⟩
theorem Rd.env {g : MH} (k : Rd h g) (E : EnvT h T len) : EnvT g T len := E.of (k.2.1 1 (by omega)) (k.2.1 2 (by omega))
/-- the token that begins here -/
theorem c_tok {g : MH} (K : Rd h g) (L : Lay h.2) (E : EnvT h T len) {s : Nat} {u1 : Option MV} (g6 : (g.1 45 6).toInt = (s : Int)) (sl : s ≤ len) : Wb rod (d + 1) B_Reader_goOn 53 [some (.inr (.inr (.inl (some 45)))), u1] [] g (fun r h' => r = none ∧ Rd h h' ∧ (h'.1 45 8).toInt = (s : Int) ∧ (h'.1 45 6).toInt = (nxF T len s : Int) ∧ (h'.1 45 7).toInt = (kdF T len s : Int) ∧ (kdF T len s = 2 → (h'.1 45 9).toInt = vlF T len s)) := by
  have l6 := E.2.1
  have Lg : Lay g.2 := K.1.symm ▸ L
  refine w_Reader_goOn_53 Lg ?_
  refine w_Reader_goOn_61 (h := sI g 45 8 (g.1 45 6)) Lg ?_
  have K2 : Rd h (sI (sI g 45 8 (g.1 45 6)) 45 9 0) := (K.si (by omega)).si (by omega)
  have a6 : ((sI (sI g 45 8 (g.1 45 6)) 45 9 0).1 45 6).toInt = (s : Int) := by rw [sI_nj (by omega), sI_nj (by omega)]; exact g6
  have a8 : ((sI (sI g 45 8 (g.1 45 6)) 45 9 0).1 45 8).toInt = (s : Int) := by rw [sI_nj (by omega), sI_same]; exact g6
  have a9 : (sI (sI g 45 8 (g.1 45 6)) 45 9 0).1 45 9 = 0 := by rw [sI_same]
  generalize sI (sI g 45 8 (g.1 45 6)) 45 9 0 = f at K2 a6 a8 a9
  have Lf : Lay f.2 := K2.1.symm ▸ L
  have Ef := K2.env E
  by_cases sn : ¬ s < len
  · refine w_Reader_goOn_66 Lf (Tc.wc (s_rbyte0 Lf Ef (by rw [a6]; omega))) (Is.k ?_)
    refine w_Reader_goOn_74 Lf (fun c => absurd c (by rw [a6, Ef.1]; omega)) (fun _ => ?_)
    refine w_Reader_goOn_89 Lf ?_
    refine w_Reader_goOn_94 ?_
    refine w_Reader_goOn_271 ?_
    refine ⟨rfl, K2.si (by omega), by rw [sI_nj (by omega)]; exact a8, by rw [sI_nj (by omega), nxF, if_pos (by omega)]; exact a6, by rw [sI_same, kdF, if_pos (by omega)]; rfl, fun q => ?_⟩
    rw [kdF, if_pos (by omega)] at q
    exact absurd q (by omega)
  rw [Decidable.not_not] at sn
  have et := (Ef.2.2 s sn).1
  refine w_Reader_goOn_66 Lf (Tc.wc (s_rbyte Lf Ef a6 sn)) (Is.k ?_)
  refine w_Reader_goOn_74 Lf (fun _ => ?_) (fun c => absurd (by rw [a6, Ef.1]; omega) c)
  refine w_Reader_goOn_97 (Tc.wc (s_rlet _)) (Is.k ?_)
  rw [et]
  by_cases lt : isLt (T s) = true
  · rw [if_pos lt]
    refine w_Reader_goOn_101 (fun q => absurd q (by decide)) (fun _ => ?_)
    refine w_Reader_goOn_104 Lf ?_
    refine Wb.uph (len - s) (fun k L' g => L' = [some (.inr (.inr (.inl (some 45)))), some (.inl (f.1 2 s))] ∧ Rd h g ∧ (g.1 45 6).toInt = ((s + k : Nat) : Int) ∧ (g.1 45 8).toInt = (s : Int) ∧ g.1 45 7 = 1 ∧ runT (fun i => isLt (T i)) len (s + k) = runT (fun i => isLt (T i)) len s) ?_ (Nat.zero_le _) ⟨rfl, K2.si (by omega), by rw [sI_nj (by omega)]; exact a6, by rw [sI_nj (by omega)]; exact a8, sI_same, rfl⟩
    rintro k _ e hk ⟨rfl, Ke, e6, e8, e7, ek⟩ ih
    have Le : Lay e.2 := Ke.1.symm ▸ L
    have Ee := Ke.env E
    have fin : runT (fun i => isLt (T i)) len s = s + k → Wb rod (d + 1) B_Reader_goOn 271 [some (.inr (.inr (.inl (some 45)))), some (.inl (f.1 2 s))] [] e (fun r h' => r = none ∧ Rd h h' ∧ (h'.1 45 8).toInt = (s : Int) ∧ (h'.1 45 6).toInt = (nxF T len s : Int) ∧ (h'.1 45 7).toInt = (kdF T len s : Int) ∧ (kdF T len s = 2 → (h'.1 45 9).toInt = vlF T len s)) := by
      intro r
      refine w_Reader_goOn_271 ?_
      refine ⟨rfl, Ke, e8, by rw [nxF, if_neg (by omega), if_pos lt, r]; exact e6, by rw [e7, kdF, if_neg (by omega), if_pos lt]; rfl, fun q => ?_⟩
      rw [kdF, if_neg (by omega), if_pos lt] at q
      exact absurd q (by omega)
    refine w_Reader_goOn_109 Le (fun c => ?_) (fun c => ?_)
    · rw [Ee.1, e6] at c
      exact fin (by rw [← ek]; exact runT_no (Or.inl (by omega)))
    · rw [Ee.1, e6] at c
      have pk : s + k < len := by omega
      have ee := (Ee.2.2 (s + k) pk).1
      refine w_Reader_goOn_123 Le (Tc.wc (s_rbyte Le Ee e6 pk)) (Is.k ?_)
      refine w_Reader_goOn_131 (Tc.wc (s_rlet _)) (Is.k ?_)
      rw [ee]
      by_cases l2 : isLt (T (s + k)) = true
      · rw [if_pos l2]
        refine w_Reader_goOn_134 (fun q => absurd q (by decide)) (fun _ => ?_)
        refine w_Reader_goOn_137 Le ?_
        refine w_Reader_goOn_147 ?_
        exact ih (by omega) _ _ ⟨rfl, Ke.si (by omega), by rw [sI_same, ← Nat.add_assoc]; exact t_succ e6 (by omega), by rw [sI_nj (by omega)]; exact e8, by rw [sI_nj (by omega)]; exact e7, by rw [← ek]; exact (runT_go (P := fun i => isLt (T i)) pk l2).symm⟩
      · rw [if_neg l2]
        refine w_Reader_goOn_134 (fun _ => ?_) (fun q => absurd (by decide) q)
        exact fin (by rw [← ek]; exact runT_no (Or.inr (Bool.not_eq_true _ ▸ l2)))
  rw [if_neg lt]
  refine w_Reader_goOn_101 (fun _ => ?_) (fun q => absurd (by decide) q)
  refine w_Reader_goOn_150 (Tc.wc (s_rdig _)) (Is.k ?_)
  rw [et]
  by_cases dg : isDg (T s) = true
  · rw [if_pos dg]
    refine w_Reader_goOn_154 (fun q => absurd q (by decide)) (fun _ => ?_)
    have T9 : ∀ q, isDg (T q) = true → 48 ≤ T q ∧ T q ≤ 57 := fun q w => of_decide_eq_true w
    have t0 := T9 s dg
    refine Wb.uph (len - s) (fun k L' g => L' = [some (.inr (.inr (.inl (some 45)))), some (.inl (f.1 2 s))] ∧ Rd h g ∧ (g.1 45 6).toInt = ((s + k : Nat) : Int) ∧ (g.1 45 8).toInt = (s : Int) ∧ runT (fun i => isDg (T i)) len (s + k) = runT (fun i => isDg (T i)) len s ∧ (k = 0 → (g.1 45 9).toInt = 0) ∧ (k = 1 → (g.1 45 9).toInt = T s - 48) ∧ (k = 2 → (g.1 45 9).toInt = 10 * (T s - 48) + T (s + 1) - 48)) ?_ (Nat.zero_le _) ⟨rfl, K2, a6, a8, rfl, fun _ => by rw [a9]; rfl, fun q => absurd q (by omega), fun q => absurd q (by omega)⟩
    rintro k _ e hk ⟨rfl, Ke, e6, e8, ek, v0, v1, v2⟩ ih
    have Le : Lay e.2 := Ke.1.symm ▸ L
    have Ee := Ke.env E
    have fin : runT (fun i => isDg (T i)) len s = s + k → 1 ≤ k → Wb rod (d + 1) B_Reader_goOn 221 [some (.inr (.inr (.inl (some 45)))), some (.inl (f.1 2 s))] [] e (fun r h' => r = none ∧ Rd h h' ∧ (h'.1 45 8).toInt = (s : Int) ∧ (h'.1 45 6).toInt = (nxF T len s : Int) ∧ (h'.1 45 7).toInt = (kdF T len s : Int) ∧ (kdF T len s = 2 → (h'.1 45 9).toInt = vlF T len s)) := by
      intro r k1
      have df := n_sub e6 e8 (by omega) (by omega)
      rw [show s + k - s = k by omega] at df
      refine w_Reader_goOn_221 Le (fun c => ?_) (fun c => ?_)
      · have c' : (2 : Int) < (e.1 45 6 - e.1 45 8).toInt := c
        rw [df] at c'
        refine w_Reader_goOn_239 ?_
        refine w_Reader_goOn_240 Le ?_
        refine w_Reader_goOn_243 ?_
        refine w_Reader_goOn_271 ?_
        refine ⟨rfl, Ke.si (by omega), by rw [sI_nj (by omega)]; exact e8, by rw [sI_nj (by omega), nxF, if_neg (by omega), if_neg lt, if_pos dg, r]; exact e6, by rw [sI_same, kdF, if_neg (by omega), if_neg lt, if_pos dg, r, if_neg (by omega)]; rfl, fun q => ?_⟩
        rw [kdF, if_neg (by omega), if_neg lt, if_pos dg, r, if_neg (by omega)] at q
        exact absurd q (by omega)
      · have c' : ¬ (2 : Int) < (e.1 45 6 - e.1 45 8).toInt := c
        rw [df] at c'
        refine w_Reader_goOn_235 ?_
        refine w_Reader_goOn_240 Le ?_
        refine w_Reader_goOn_243 ?_
        refine w_Reader_goOn_271 ?_
        refine ⟨rfl, Ke.si (by omega), by rw [sI_nj (by omega)]; exact e8, by rw [sI_nj (by omega), nxF, if_neg (by omega), if_neg lt, if_pos dg, r]; exact e6, by rw [sI_same, kdF, if_neg (by omega), if_neg lt, if_pos dg, r, if_pos (by omega)]; rfl, fun _ => ?_⟩
        rw [sI_nj (by omega), vlF, r]
        by_cases k2 : k = 1
        · rw [if_pos (by omega)]; exact v1 k2
        · rw [if_neg (by omega)]; exact v2 (by omega)
    have one : runT (fun i => isDg (T i)) len s ≠ s + 0 := fun q => by
      have z := runT_go (P := fun i => isDg (T i)) sn dg
      have b := runT_bd (P := fun i => isDg (T i)) (len := len) (p := s + 1) (by omega)
      omega
    refine w_Reader_goOn_157 Le (fun c => ?_) (fun c => ?_)
    · rw [Ee.1, e6] at c
      exact fin (by rw [← ek]; exact runT_no (Or.inl (by omega))) (by omega)
    · rw [Ee.1, e6] at c
      have pk : s + k < len := by omega
      have ee := (Ee.2.2 (s + k) pk).1
      refine w_Reader_goOn_171 Le (Tc.wc (s_rbyte Le Ee e6 pk)) (Is.k ?_)
      refine w_Reader_goOn_179 (Tc.wc (s_rdig _)) (Is.k ?_)
      rw [ee]
      by_cases l2 : isDg (T (s + k)) = true
      · rw [if_pos l2]
        refine w_Reader_goOn_182 (fun q => absurd q (by decide)) (fun _ => ?_)
        refine w_Reader_goOn_185 Le (Tc.wc (s_rbyte Le Ee e6 pk)) (Is.k ?_)
        refine w_Reader_goOn_201 Le ?_
        refine w_Reader_goOn_208 (h := sI e 45 9 (e.1 45 9 * 10 + e.1 2 (s + k) - 48)) Le ?_
        refine w_Reader_goOn_218 ?_
        have tk := T9 _ l2
        have acc : ∀ v : Int, 0 ≤ v → v ≤ 9 → (e.1 45 9).toInt = v → (e.1 45 9 * 10 + e.1 2 (s + k) - 48).toInt = 10 * v + T (s + k) - 48 := fun v q1 q2 q => by
          have m1 : (e.1 45 9 * 10).toInt = v * 10 := by rw [i32_mul (by rw [q]; show _ ≤ v * (10 : Int); omega) (by rw [q]; show v * (10 : Int) ≤ _; omega), q]; rfl
          have m2 : (e.1 45 9 * 10 + e.1 2 (s + k)).toInt = v * 10 + T (s + k) := by rw [i32_add (by rw [m1, ee]; omega) (by rw [m1, ee]; omega), m1, ee]
          rw [i32_sub (by rw [m2]; show _ ≤ _ - (48 : Int); omega) (by rw [m2]; show _ - (48 : Int) ≤ _; omega), m2]
          show v * 10 + T (s + k) - (48 : Int) = _
          omega
        refine ih (by omega) _ _ ⟨rfl, (Ke.si (by omega)).si (by omega), by rw [sI_same, sI_nj (by omega), ← Nat.add_assoc]; exact t_succ e6 (by omega), by rw [sI_nj (by omega), sI_nj (by omega)]; exact e8, by rw [← ek]; exact (runT_go (P := fun i => isDg (T i)) pk l2).symm, fun q => absurd q (by omega), fun q => ?_, fun q => ?_⟩
        · have k0 : k = 0 := by omega
          have := acc 0 (by omega) (by omega) (v0 k0)
          rw [sI_nj (by omega), sI_same, this, k0, Nat.add_zero]
          omega
        · have k0 : k = 1 := by omega
          have := acc (T s - 48) (by omega) (by omega) (v1 k0)
          rw [sI_nj (by omega), sI_same, this, k0]
      · rw [if_neg l2]
        refine w_Reader_goOn_182 (fun _ => ?_) (fun q => absurd (by decide) q)
        have rr : runT (fun i => isDg (T i)) len s = s + k := by rw [← ek]; exact runT_no (Or.inr (Bool.not_eq_true _ ▸ l2))
        refine fin rr ?_
        by_cases k0 : k = 0
        · subst k0; exact absurd rr one
        · omega
  rw [if_neg dg]
  refine w_Reader_goOn_154 (fun _ => ?_) (fun q => absurd (by decide) q)
  refine w_Reader_goOn_246 (fun c => ?_) (fun c => ?_)
  · have c' : ¬ (f.1 2 s).toInt = 59 := c
    rw [et] at c'
    refine w_Reader_goOn_257 ?_
    refine w_Reader_goOn_258 Lf ?_
    refine w_Reader_goOn_261 (h := sI f 45 7 4) Lf ?_
    refine w_Reader_goOn_271 ?_
    refine ⟨rfl, (K2.si (by omega)).si (by omega), by rw [sI_nj (by omega), sI_nj (by omega)]; exact a8, by rw [sI_same, sI_nj (by omega), nxF, if_neg (by omega), if_neg lt, if_neg dg]; exact t_succ a6 (by omega), by rw [sI_nj (by omega), sI_same, kdF, if_neg (by omega), if_neg lt, if_neg dg, if_neg c']; rfl, fun q => ?_⟩
    rw [kdF, if_neg (by omega), if_neg lt, if_neg dg, if_neg c'] at q
    exact absurd q (by omega)
  · have c' : (f.1 2 s).toInt = 59 := by first | exact c | exact Decidable.not_not.mp c
    rw [et] at c'
    refine w_Reader_goOn_253 ?_
    refine w_Reader_goOn_258 Lf ?_
    refine w_Reader_goOn_261 (h := sI f 45 7 3) Lf ?_
    refine w_Reader_goOn_271 ?_
    refine ⟨rfl, (K2.si (by omega)).si (by omega), by rw [sI_nj (by omega), sI_nj (by omega)]; exact a8, by rw [sI_same, sI_nj (by omega), nxF, if_neg (by omega), if_neg lt, if_neg dg]; exact t_succ a6 (by omega), by rw [sI_nj (by omega), sI_same, kdF, if_neg (by omega), if_neg lt, if_neg dg, if_pos c']; rfl, fun q => ?_⟩
    rw [kdF, if_neg (by omega), if_neg lt, if_neg dg, if_pos c'] at q
    exact absurd q (by omega)
/-- the class goes on to the next token -/
theorem c_goOn (L : Lay h.2) (E : EnvT h T len) {p : Nat} (hp : (h.1 45 6).toInt = (p : Int)) (pl : p ≤ len) : Wc rod (d + 2) 26 [.inr (.inr (.inl (some 45)))] h (fun r h' => r = none ∧ Rd h h' ∧ (h'.1 45 8).toInt = (sttF T len p : Int) ∧ (h'.1 45 6).toInt = (nxF T len (sttF T len p) : Int) ∧ (h'.1 45 7).toInt = (kdF T len (sttF T len p) : Int) ∧ (kdF T len (sttF T len p) = 2 → (h'.1 45 9).toInt = vlF T len (sttF T len p))) := by
  have l6 := E.2.1
  refine n_Reader_goOn ?_
  refine Wb.uph (len - p) (fun k L' g => L' = [some (.inr (.inr (.inl (some 45)))), none] ∧ Rd h g ∧ (g.1 45 6).toInt = ((p + k : Nat) : Int) ∧ sttF T len (p + k) = sttF T len p) ?_ (Nat.zero_le _) ⟨rfl, Rd.rfl, hp, rfl⟩
  rintro k _ g hk ⟨rfl, K, g6, sk⟩ ih
  have Lg : Lay g.2 := K.1.symm ▸ L
  have Eg := K.env E
  have on : sttF T len p = p + k → Wb rod (d + 1) B_Reader_goOn 53 [some (.inr (.inr (.inl (some 45)))), none] [] g (fun r h' => r = none ∧ Rd h h' ∧ (h'.1 45 8).toInt = (sttF T len p : Int) ∧ (h'.1 45 6).toInt = (nxF T len (sttF T len p) : Int) ∧ (h'.1 45 7).toInt = (kdF T len (sttF T len p) : Int) ∧ (kdF T len (sttF T len p) = 2 → (h'.1 45 9).toInt = vlF T len (sttF T len p))) := by
    intro es
    rw [es]
    exact c_tok K L E g6 (by omega)
  refine w_Reader_goOn_0 Lg (fun c => ?_) (fun c => ?_)
  · rw [Eg.1, g6] at c
    exact on (by rw [← sk]; exact runT_no (Or.inl (by omega)))
  rw [Eg.1, g6] at c
  have pk : p + k < len := by omega
  have et := (Eg.2.2 (p + k) pk).1
  have go : isBl (T (p + k)) = true → Wb rod (d + 1) B_Reader_goOn 40 [some (.inr (.inr (.inl (some 45)))), none] [] g (fun r h' => r = none ∧ Rd h h' ∧ (h'.1 45 8).toInt = (sttF T len p : Int) ∧ (h'.1 45 6).toInt = (nxF T len (sttF T len p) : Int) ∧ (h'.1 45 7).toInt = (kdF T len (sttF T len p) : Int) ∧ (kdF T len (sttF T len p) = 2 → (h'.1 45 9).toInt = vlF T len (sttF T len p))) := by
    intro b
    refine w_Reader_goOn_40 Lg ?_
    refine w_Reader_goOn_50 ?_
    exact ih (by omega) _ _ ⟨rfl, K.si (by omega), by rw [sI_same, ← Nat.add_assoc]; exact t_succ g6 (by omega), by rw [← sk]; exact (runT_go pk b).symm⟩
  refine w_Reader_goOn_14 Lg (Tc.wc (s_rbyte Lg Eg g6 pk)) (Is.k ?_)
  refine w_Reader_goOn_22 (fun w => ?_) (fun w => ?_)
  · have w' : (g.1 2 (p + k)).toInt = 32 := w
    exact go (decide_eq_true (by omega))
  · have w' : ¬ (g.1 2 (p + k)).toInt = 32 := w
    refine w_Reader_goOn_27 Lg (Tc.wc (s_rbyte Lg Eg g6 pk)) (Is.k ?_)
    refine w_Reader_goOn_35 (fun y => ?_) (fun y => ?_)
    · have y' : ¬ (g.1 2 (p + k)).toInt = 10 := y
      exact on (by rw [← sk]; exact runT_no (Or.inr (decide_eq_false (by omega))))
    · have y' : (g.1 2 (p + k)).toInt = 10 := by first | exact y | exact Decidable.not_not.mp y
      exact go (decide_eq_true (by omega))
end M90
