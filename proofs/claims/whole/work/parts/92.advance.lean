/-! THE READER: tokens, in the reference -/
section M92
variable {rod : Nat → Nat × (Nat → Int32)} {d : Nat} {h : MH} {len : Nat} {T : Nat → Int} {P : Nat → Bool}
def ub (x : Int) : Int := if x < 0 then x + 256 else x
theorem ub_bd {x : Int} (hx : -128 ≤ x ∧ x ≤ 127) : 0 ≤ ub x ∧ (ub x = x ∨ (x < 0 ∧ 128 ≤ ub x)) := by
  unfold ub
  split <;> omega
theorem ub_lt {x : Int} (hx : -128 ≤ x ∧ x ≤ 127) : isLt (ub x) = isLt x := by
  have := ub_bd hx
  unfold isLt
  exact decide_eq_decide.mpr (by omega)
theorem ub_dg {x : Int} (hx : -128 ≤ x ∧ x ≤ 127) : isDg (ub x) = isDg x := by
  have := ub_bd hx
  unfold isDg
  exact decide_eq_decide.mpr (by omega)
def EnvA (h : MH) (T : Nat → Int) (len : Nat) : Prop := (h.1 84 2).toInt = (len : Int) ∧ len ≤ 600 ∧ ∀ p, p < len → (h.1 85 (10 + p)).toInt = ub (T p) ∧ -128 ≤ T p ∧ T p ≤ 127
def LR (T : Nat → Int) (s : Nat) : Nat → List Nat
  | 0 => []
  | k + 1 => (T (s + k) - 96).toNat :: LR T s k
theorem LR_ok {s k : Nat} (q : ∀ i, i < k → isLt (T (s + i)) = true) : ∀ x ∈ LR T s k, 1 ≤ x ∧ x < 32 := by
  induction k with
  | zero => intro x hx; exact nomatch hx
  | succ k ih =>
    intro x hx
    rcases List.mem_cons.mp hx with e | e
    · have := of_decide_eq_true (q k (by omega))
      rw [e]
      omega
    · exact ih (fun i hi => q i (by omega)) x e
theorem hr_lt {s k : Nat} (q : ∀ i, i < k → isLt (T (s + i)) = true) : hr (LR T s k) < 32 ^ k := by
  induction k with
  | zero => exact (by decide : (0 : Nat) < 32 ^ 0)
  | succ k ih =>
    have := ih (fun i hi => q i (by omega))
    have := LR_ok q (T (s + k) - 96).toNat List.mem_cons_self
    rw [LR, hr, Nat.pow_succ]
    omega
theorem ite_lt {c : Prop} [Decidable c] {a b n : Nat} (h1 : a < n) (h2 : b < n) : (if c then a else b) < n := by
  split
  · exact h1
  · exact h2
theorem wcod_lt (v : Nat) : wcod v < 100 := by
  unfold wcod
  refine ite_lt (by omega) ?_
  refine ite_lt (by omega) ?_
  refine ite_lt (by omega) ?_
  refine ite_lt (by omega) ?_
  refine ite_lt (by omega) ?_
  refine ite_lt (by omega) ?_
  refine ite_lt (by omega) ?_
  refine ite_lt (by omega) ?_
  refine ite_lt (by omega) ?_
  refine ite_lt (by omega) ?_
  refine ite_lt (by omega) ?_
  refine ite_lt (by omega) ?_
  refine ite_lt (by omega) ?_
  refine ite_lt (by omega) ?_
  refine ite_lt (by omega) ?_
  refine ite_lt (by omega) ?_
  refine ite_lt (by omega) ?_
  refine ite_lt (by omega) ?_
  refine ite_lt (by omega) ?_
  refine ite_lt (by omega) ?_
  refine ite_lt (by omega) ?_
  refine ite_lt (by omega) ?_
  omega
def wdF (T : Nat → Int) (len s : Nat) : Nat := if runT (fun i => isLt (T i)) len s - s ≤ 8 then wcL (LR T s (runT (fun i => isLt (T i)) len s - s)) else 99
def tkF (T : Nat → Int) (len s : Nat) : Nat := if kdF T len s = 1 then (if wdF T len s = 99 then 4 else 3) else if kdF T len s = 2 then 1 else if kdF T len s = 3 then 2 else kdF T len s
def Ad (h g : MH) : Prop := g.2 = h.2 ∧ (∀ c, c ≠ 84 → g.1 c = h.1 c) ∧ ∀ j, (j < 3 ∨ 7 < j) → g.1 84 j = h.1 84 j
theorem Ad.rfl : Ad h h := ⟨Eq.refl _, fun _ _ => Eq.refl _, fun _ _ => Eq.refl _⟩
theorem Ad.si {g : MH} {j : Nat} {v : Int32} (k : Ad h g) (hj : 3 ≤ j ∧ j ≤ 7) : Ad h (sI g 84 j v) := ⟨k.1, fun c hc => by rw [sI_cell hc]; exact k.2.1 c hc, fun i hi => by rw [sI_nj (by omega)]; exact k.2.2 i hi⟩
theorem Ad.env {g : MH} (k : Ad h g) (E : EnvA h T len) : EnvA g T len := ⟨by rw [k.2.2 2 (by omega)]; exact E.1, E.2.1, fun p hp => by rw [k.2.1 85 (by omega)]; exact E.2.2 p hp⟩
theorem s_mbyte (L : Lay h.2) (E : EnvA h T len) {x : Int32} {p : Nat} (hx : x.toInt = (p : Int)) (hp : p < len) : Tc rod (d + 1) 196 [.inr (.inr (.inl (some 84))), .inl x] h (some (.inl (h.1 85 (10 + p)))) h := by
  have l6 := E.2.1
  have a1 : ((10 : Int32) + x).toInt = ((10 + p : Nat) : Int) := n_add (show (10 : Int32).toInt = ((10 : Nat) : Int) from rfl) hx (by omega)
  apply Wc.tc
  refine n_Model_byteAt ?_
  refine w_Model_byteAt_0 L (fun c => absurd c (by rw [hx, E.1]; omega)) (fun _ => ?_)
  refine w_Model_byteAt_8 L (by omega) ?_
  rw [n_eq a1]
  refine w_Model_byteAt_21 ?_
  exact ⟨rfl, rfl⟩
theorem s_mbyte0 (L : Lay h.2) (E : EnvA h T len) {x : Int32} (hx : (len : Int) ≤ x.toInt) : Tc rod (d + 1) 196 [.inr (.inr (.inl (some 84))), .inl x] h (some (.inl (-1))) h := by
  apply Wc.tc
  refine n_Model_byteAt ?_
  refine w_Model_byteAt_0 L (fun c => ?_) (fun c => absurd (by rw [E.1]; exact hx) c)
  refine w_Model_byteAt_20 ?_
  refine w_Model_byteAt_21 ?_
  exact ⟨rfl, rfl⟩
theorem s_mlet (x : Int32) : Tc rod (d + 1) 197 [.inl x] h (some (.inl (if isLt x.toInt = true then 1 else 0))) h := by
  apply Wc.tc
  refine n_Model_isLetter ?_
  refine w_Model_isLetter_0 (fun c => ?_) (fun c => ?_)
  · have c' : x.toInt < 97 := c
    refine w_Model_isLetter_16 ?_
    refine w_Model_isLetter_17 (Or.inl rfl) ?_
    exact ⟨by rw [if_neg (fun q => by have := of_decide_eq_true q; omega)], rfl⟩
  · have c' : ¬ x.toInt < 97 := c
    refine w_Model_isLetter_6 (fun w => ?_) (fun w => ?_)
    · have w' : 122 < x.toInt := w
      refine w_Model_isLetter_16 ?_
      refine w_Model_isLetter_17 (Or.inl rfl) ?_
      exact ⟨by rw [if_neg (fun q => by have := of_decide_eq_true q; omega)], rfl⟩
    · have w' : ¬ 122 < x.toInt := w
      refine w_Model_isLetter_12 ?_
      refine w_Model_isLetter_17 (Or.inr rfl) ?_
      exact ⟨by rw [if_pos (show isLt x.toInt = true from decide_eq_true (by omega))], rfl⟩
theorem s_mdig (x : Int32) : Tc rod (d + 1) 201 [.inl x] h (some (.inl (if isDg x.toInt = true then 1 else 0))) h := by
  apply Wc.tc
  refine n_Model_isDigit ?_
  refine w_Model_isDigit_0 (fun c => ?_) (fun c => ?_)
  · have c' : x.toInt < 48 := c
    refine w_Model_isDigit_16 ?_
    refine w_Model_isDigit_17 (Or.inl rfl) ?_
    exact ⟨by rw [if_neg (fun q => by have := of_decide_eq_true q; omega)], rfl⟩
  · have c' : ¬ x.toInt < 48 := c
    refine w_Model_isDigit_6 (fun w => ?_) (fun w => ?_)
    · have w' : 57 < x.toInt := w
      refine w_Model_isDigit_16 ?_
      refine w_Model_isDigit_17 (Or.inl rfl) ?_
      exact ⟨by rw [if_neg (fun q => by have := of_decide_eq_true q; omega)], rfl⟩
    · have w' : ¬ 57 < x.toInt := w
      refine w_Model_isDigit_12 ?_
      refine w_Model_isDigit_17 (Or.inr rfl) ?_
      exact ⟨by rw [if_pos (show isDg x.toInt = true from decide_eq_true (by omega))], rfl⟩
theorem r_tokW {f : MH} (K2 : Ad h f) (L : Lay h.2) (E : EnvA h T len) {s : Nat} {x1 : Int32} (a6 : (f.1 84 3).toInt = (s : Int)) (a8 : (f.1 84 4).toInt = (s : Int)) (sn : s < len) (lt : isLt (T s) = true) : Wb rod (d + 3) B_Model_advance 75 [some (.inr (.inr (.inl (some 84)))), some (.inl x1), none, none] [] f (fun r h' => r = none ∧ Ad h h' ∧ (h'.1 84 4).toInt = (s : Int) ∧ (h'.1 84 3).toInt = (nxF T len s : Int) ∧ (h'.1 84 5).toInt = (tkF T len s : Int) ∧ (kdF T len s = 2 → (h'.1 84 6).toInt = vlF T len s) ∧ (kdF T len s = 1 → h'.1 84 7 = Int32.ofNat (wdF T len s))) := by
  have l6 := E.2.1
  have Lf : Lay f.2 := K2.1.symm ▸ L
  have kd : kdF T len s = 1 := by rw [kdF, if_neg (by omega), if_pos lt]
  refine w_Model_advance_75 rfl ?_
  refine Wb.uph (len - s) (fun k L' g => ∃ z : Int64, L' = [some (.inr (.inr (.inl (some 84)))), some (.inl x1), some (.inr (.inl z)), none] ∧ Ad h g ∧ (g.1 84 3).toInt = ((s + k : Nat) : Int) ∧ (g.1 84 4).toInt = (s : Int) ∧ runT (fun i => isLt (T i)) len (s + k) = runT (fun i => isLt (T i)) len s ∧ (∀ i, i < k → isLt (T (s + i)) = true) ∧ z.toInt = (hr (LR T s (min k 8)) : Int)) ?_ (Nat.zero_le _) ⟨0, rfl, K2, a6, a8, rfl, fun i hi => absurd hi (by omega), rfl⟩
  rintro k _ e hk ⟨z, rfl, Ke, e6, e8, ek, al, ez⟩ ih
  have Le : Lay e.2 := Ke.1.symm ▸ L
  have Ee := Ke.env E
  have df := n_sub e6 e8 (by omega) (by omega)
  rw [show s + k - s = k by omega] at df
  have fin : runT (fun i => isLt (T i)) len s = s + k → Wb rod (d + 3) B_Model_advance 138 [some (.inr (.inr (.inl (some 84)))), some (.inl x1), some (.inr (.inl z)), none] [] e (fun r h' => r = none ∧ Ad h h' ∧ (h'.1 84 4).toInt = (s : Int) ∧ (h'.1 84 3).toInt = (nxF T len s : Int) ∧ (h'.1 84 5).toInt = (tkF T len s : Int) ∧ (kdF T len s = 2 → (h'.1 84 6).toInt = vlF T len s) ∧ (kdF T len s = 1 → h'.1 84 7 = Int32.ofNat (wdF T len s))) := by
    intro r
    have nx : nxF T len s = s + k := by rw [nxF, if_neg (by omega), if_pos lt, r]
    have last : ∀ w : Nat, w < 100 → wdF T len s = w → Wb rod (d + 3) B_Model_advance 162 [some (.inr (.inr (.inl (some 84)))), some (.inl x1), some (.inr (.inl z)), none] [.inl (Int32.ofNat w), .inr (.inr (.inl (some 84)))] e (fun r h' => r = none ∧ Ad h h' ∧ (h'.1 84 4).toInt = (s : Int) ∧ (h'.1 84 3).toInt = (nxF T len s : Int) ∧ (h'.1 84 5).toInt = (tkF T len s : Int) ∧ (kdF T len s = 2 → (h'.1 84 6).toInt = vlF T len s) ∧ (kdF T len s = 1 → h'.1 84 7 = Int32.ofNat (wdF T len s))) := by
      intro w w1 ew
      have tw := t_nat (n := w) (by omega)
      refine w_Model_advance_162 Le ?_
      refine w_Model_advance_165 (h := sI e 84 7 (Int32.ofNat w)) Le (fun c => ?_) (fun c => ?_)
      · have c' : ¬ ((sI e 84 7 (Int32.ofNat w)).1 84 7).toInt = 99 := c
        rw [sI_same, tw] at c'
        refine w_Model_advance_179 ?_
        refine w_Model_advance_180 (h := sI e 84 7 (Int32.ofNat w)) Le ?_
        refine w_Model_advance_183 ?_
        refine w_Model_advance_311 ?_
        refine ⟨rfl, (Ke.si (by omega)).si (by omega), by rw [sI_nj (by omega), sI_nj (by omega)]; exact e8, by rw [sI_nj (by omega), sI_nj (by omega), nx]; exact e6, by rw [sI_same, tkF, if_pos kd, ew, if_neg (by omega)]; rfl, fun q => by rw [kd] at q; exact absurd q (by omega), fun _ => by rw [sI_nj (by omega), sI_same, ew]⟩
      · have c' : ((sI e 84 7 (Int32.ofNat w)).1 84 7).toInt = 99 := by first | exact c | exact Decidable.not_not.mp c
        rw [sI_same, tw] at c'
        refine w_Model_advance_175 ?_
        refine w_Model_advance_180 (h := sI e 84 7 (Int32.ofNat w)) Le ?_
        refine w_Model_advance_183 ?_
        refine w_Model_advance_311 ?_
        refine ⟨rfl, (Ke.si (by omega)).si (by omega), by rw [sI_nj (by omega), sI_nj (by omega)]; exact e8, by rw [sI_nj (by omega), sI_nj (by omega), nx]; exact e6, by rw [sI_same, tkF, if_pos kd, ew, if_pos (by omega)]; rfl, fun q => by rw [kd] at q; exact absurd q (by omega), fun _ => by rw [sI_nj (by omega), sI_same, ew]⟩
    refine w_Model_advance_138 Le (fun c => ?_) (fun c => ?_)
    · have c' : (e.1 84 3 - e.1 84 4).toInt ≤ 8 := c
      rw [df] at c'
      rw [show min k 8 = k by omega] at ez
      refine w_Model_advance_158 (Tc.wc (s_wordOf ez)) (Is.k ?_)
      refine last _ (wcod_lt _) ?_
      rw [wdF, r, show s + k - s = k by omega, if_pos (by omega), wcod_hr (LR_ok al)]
    · have c' : ¬ (e.1 84 3 - e.1 84 4).toInt ≤ 8 := c
      rw [df] at c'
      refine w_Model_advance_153 ?_
      refine last 99 (by omega) ?_
      rw [wdF, r, if_neg (by omega)]
  by_cases pk : ¬ s + k < len
  · refine w_Model_advance_77 Le (Tc.wc (s_mbyte0 Le Ee (by rw [e6]; omega))) (Is.k ?_)
    refine w_Model_advance_85 (Tc.wc (s_mlet _)) (Is.k ?_)
    rw [if_neg (by decide)]
    refine w_Model_advance_88 (fun _ => ?_) (fun q => absurd (by decide) q)
    exact fin (by rw [← ek]; exact runT_no (Or.inl (by omega)))
  rw [Decidable.not_not] at pk
  obtain ⟨ee, tk⟩ := Ee.2.2 (s + k) pk
  refine w_Model_advance_77 Le (Tc.wc (s_mbyte Le Ee e6 pk)) (Is.k ?_)
  refine w_Model_advance_85 (Tc.wc (s_mlet _)) (Is.k ?_)
  rw [ee, ub_lt tk]
  by_cases l2 : isLt (T (s + k)) = true
  · rw [if_pos l2]
    have lb := of_decide_eq_true l2
    have uk := ub_bd tk
    have al' : ∀ i, i < k + 1 → isLt (T (s + i)) = true := fun i hi => by
      by_cases q : i = k
      · subst q; exact l2
      · exact al i (by omega)
    refine w_Model_advance_88 (fun q => absurd q (by decide)) (fun _ => ?_)
    have step : ∀ z2 : Int64, z2.toInt = (hr (LR T s (min (k + 1) 8)) : Int) → Wb rod (d + 3) B_Model_advance 125 [some (.inr (.inr (.inl (some 84)))), some (.inl x1), some (.inr (.inl z2)), none] [] e (fun r h' => r = none ∧ Ad h h' ∧ (h'.1 84 4).toInt = (s : Int) ∧ (h'.1 84 3).toInt = (nxF T len s : Int) ∧ (h'.1 84 5).toInt = (tkF T len s : Int) ∧ (kdF T len s = 2 → (h'.1 84 6).toInt = vlF T len s) ∧ (kdF T len s = 1 → h'.1 84 7 = Int32.ofNat (wdF T len s))) := by
      intro z2 hz2
      refine w_Model_advance_125 Le ?_
      refine w_Model_advance_135 ?_
      exact ih (by omega) _ _ ⟨z2, rfl, Ke.si (by omega), by rw [sI_same, ← Nat.add_assoc]; exact t_succ e6 (by omega), by rw [sI_nj (by omega)]; exact e8, by rw [← ek]; exact (runT_go (P := fun i => isLt (T i)) pk l2).symm, al', hz2⟩
    refine w_Model_advance_91 Le (fun c => ?_) (fun c => ?_)
    · have c' : 8 ≤ (e.1 84 3 - e.1 84 4).toInt := c
      rw [df] at c'
      exact step z (by rw [ez, show min k 8 = min (k + 1) 8 by omega])
    · have c' : ¬ 8 ≤ (e.1 84 3 - e.1 84 4).toInt := c
      rw [df] at c'
      rw [show min k 8 = k by omega] at ez
      have hb := hr_lt al
      have hb2 : 32 ^ k ≤ 32 ^ 7 := Nat.pow_le_pow_right (by omega) (by omega)
      have hb3 : (32 : Nat) ^ 7 = 34359738368 := by decide
      refine w_Model_advance_105 Le (Tc.wc (s_mbyte Le Ee e6 pk)) (Is.k ?_)
      refine w_Model_advance_118 rfl ?_
      refine step _ ?_
      have m1 : ((32 : Int64) * z).toInt = 32 * (hr (LR T s k) : Int) := by
        rw [j_mul (by rw [ez]; show _ ≤ (32 : Int) * _; omega) (by rw [ez]; show (32 : Int) * _ ≤ _; omega), ez]
        rfl
      have m0 : ((e.1 85 (10 + (s + k))).toInt64).toInt = T (s + k) := by
        rw [Int32.toInt_toInt64, ee]
        omega
      have m2 : ((32 : Int64) * z + (e.1 85 (10 + (s + k))).toInt64).toInt = 32 * (hr (LR T s k) : Int) + T (s + k) := by
        rw [j_add (by rw [m1, m0]; omega) (by rw [m1, m0]; omega), m1, m0]
      rw [j_sub (by rw [m2]; show _ ≤ _ - (96 : Int); omega) (by rw [m2]; show _ - (96 : Int) ≤ _; omega), m2, show min (k + 1) 8 = k + 1 by omega, LR, hr]
      show _ - (96 : Int) = _
      omega
  · rw [if_neg l2]
    refine w_Model_advance_88 (fun _ => ?_) (fun q => absurd (by decide) q)
    exact fin (by rw [← ek]; exact runT_no (Or.inr (Bool.not_eq_true _ ▸ l2)))
theorem r_tokD {f : MH} (K2 : Ad h f) (L : Lay h.2) (E : EnvA h T len) {s : Nat} {x1 : Int32} (a6 : (f.1 84 3).toInt = (s : Int)) (a8 : (f.1 84 4).toInt = (s : Int)) (sn : s < len) (lt : ¬ isLt (T s) = true) (dg : isDg (T s) = true) : Wb rod (d + 3) B_Model_advance 193 [some (.inr (.inr (.inl (some 84)))), some (.inl x1), none, none] [] f (fun r h' => r = none ∧ Ad h h' ∧ (h'.1 84 4).toInt = (s : Int) ∧ (h'.1 84 3).toInt = (nxF T len s : Int) ∧ (h'.1 84 5).toInt = (tkF T len s : Int) ∧ (kdF T len s = 2 → (h'.1 84 6).toInt = vlF T len s) ∧ (kdF T len s = 1 → h'.1 84 7 = Int32.ofNat (wdF T len s))) := by
  have l6 := E.2.1
  have Lf : Lay f.2 := K2.1.symm ▸ L
  have k1 : ¬ kdF T len s = 1 := by
    rw [kdF, if_neg (by omega), if_neg lt, if_pos dg]
    split <;> omega
  refine w_Model_advance_193 Lf ?_
  have T9 : ∀ q, isDg (T q) = true → 48 ≤ T q ∧ T q ≤ 57 := fun q w => of_decide_eq_true w
  have t0 := T9 s dg
  refine Wb.uph (len - s) (fun k L' g => L' = [some (.inr (.inr (.inl (some 84)))), some (.inl x1), none, none] ∧ Ad h g ∧ (g.1 84 3).toInt = ((s + k : Nat) : Int) ∧ (g.1 84 4).toInt = (s : Int) ∧ runT (fun i => isDg (T i)) len (s + k) = runT (fun i => isDg (T i)) len s ∧ (k = 0 → (g.1 84 6).toInt = 0) ∧ (k = 1 → (g.1 84 6).toInt = T s - 48) ∧ (k = 2 → (g.1 84 6).toInt = 10 * (T s - 48) + T (s + 1) - 48)) ?_ (Nat.zero_le _) ⟨rfl, K2.si (by omega), by rw [sI_nj (by omega)]; exact a6, by rw [sI_nj (by omega)]; exact a8, rfl, fun _ => by rw [sI_same]; rfl, fun q => absurd q (by omega), fun q => absurd q (by omega)⟩
  rintro k _ e hk ⟨rfl, Ke, e6, e8, ek, v0, v1, v2⟩ ih
  have Le : Lay e.2 := Ke.1.symm ▸ L
  have Ee := Ke.env E
  have df := n_sub e6 e8 (by omega) (by omega)
  rw [show s + k - s = k by omega] at df
  have one : runT (fun i => isDg (T i)) len s ≠ s + 0 := fun q => by
    have z := runT_go (P := fun i => isDg (T i)) sn dg
    have b := runT_bd (P := fun i => isDg (T i)) (len := len) (p := s + 1) (by omega)
    omega
  have fin : runT (fun i => isDg (T i)) len s = s + k → Wb rod (d + 3) B_Model_advance 261 [some (.inr (.inr (.inl (some 84)))), some (.inl x1), none, none] [] e (fun r h' => r = none ∧ Ad h h' ∧ (h'.1 84 4).toInt = (s : Int) ∧ (h'.1 84 3).toInt = (nxF T len s : Int) ∧ (h'.1 84 5).toInt = (tkF T len s : Int) ∧ (kdF T len s = 2 → (h'.1 84 6).toInt = vlF T len s) ∧ (kdF T len s = 1 → h'.1 84 7 = Int32.ofNat (wdF T len s))) := by
    intro r
    have k0 : k ≠ 0 := fun q => by subst q; exact one r
    have nx : nxF T len s = s + k := by rw [nxF, if_neg (by omega), if_neg lt, if_pos dg, r]
    refine w_Model_advance_261 Le (fun c => ?_) (fun c => ?_)
    · have c' : (e.1 84 3 - e.1 84 4).toInt ≤ 2 := c
      rw [df] at c'
      have kd : kdF T len s = 2 := by rw [kdF, if_neg (by omega), if_neg lt, if_pos dg, r, if_pos (by omega)]
      refine w_Model_advance_279 ?_
      refine w_Model_advance_280 Le ?_
      refine w_Model_advance_283 ?_
      refine w_Model_advance_311 ?_
      refine ⟨rfl, Ke.si (by omega), by rw [sI_nj (by omega)]; exact e8, by rw [sI_nj (by omega), nx]; exact e6, by rw [sI_same, tkF, kd]; rfl, fun _ => ?_, fun q => absurd q k1⟩
      rw [sI_nj (by omega), vlF, r]
      by_cases k2 : k = 1
      · rw [if_pos (by omega)]; exact v1 k2
      · rw [if_neg (by omega)]; exact v2 (by omega)
    · have c' : ¬ (e.1 84 3 - e.1 84 4).toInt ≤ 2 := c
      rw [df] at c'
      have kd : kdF T len s = 4 := by rw [kdF, if_neg (by omega), if_neg lt, if_pos dg, r, if_neg (by omega)]
      refine w_Model_advance_275 ?_
      refine w_Model_advance_280 Le ?_
      refine w_Model_advance_283 ?_
      refine w_Model_advance_311 ?_
      exact ⟨rfl, Ke.si (by omega), by rw [sI_nj (by omega)]; exact e8, by rw [sI_nj (by omega), nx]; exact e6, by rw [sI_same, tkF, kd]; rfl, fun q => by rw [kd] at q; exact absurd q (by omega), fun q => absurd q k1⟩
  by_cases pk : ¬ s + k < len
  · refine w_Model_advance_198 Le (Tc.wc (s_mbyte0 Le Ee (by rw [e6]; omega))) (Is.k ?_)
    refine w_Model_advance_206 (Tc.wc (s_mdig _)) (Is.k ?_)
    rw [if_neg (by decide)]
    refine w_Model_advance_209 (fun _ => ?_) (fun q => absurd (by decide) q)
    exact fin (by rw [← ek]; exact runT_no (Or.inl (by omega)))
  rw [Decidable.not_not] at pk
  obtain ⟨ee, tk⟩ := Ee.2.2 (s + k) pk
  refine w_Model_advance_198 Le (Tc.wc (s_mbyte Le Ee e6 pk)) (Is.k ?_)
  refine w_Model_advance_206 (Tc.wc (s_mdig _)) (Is.k ?_)
  rw [ee, ub_dg tk]
  by_cases l2 : isDg (T (s + k)) = true
  · rw [if_pos l2]
    have lb := T9 _ l2
    have uk := ub_bd tk
    refine w_Model_advance_209 (fun q => absurd q (by decide)) (fun _ => ?_)
    have step : ∀ e2 : MH, Ad h e2 → (e2.1 84 3).toInt = ((s + k : Nat) : Int) → (e2.1 84 4).toInt = (s : Int) → (k + 1 = 1 → (e2.1 84 6).toInt = T s - 48) → (k + 1 = 2 → (e2.1 84 6).toInt = 10 * (T s - 48) + T (s + 1) - 48) → Wb rod (d + 3) B_Model_advance 248 [some (.inr (.inr (.inl (some 84)))), some (.inl x1), none, none] [] e2 (fun r h' => r = none ∧ Ad h h' ∧ (h'.1 84 4).toInt = (s : Int) ∧ (h'.1 84 3).toInt = (nxF T len s : Int) ∧ (h'.1 84 5).toInt = (tkF T len s : Int) ∧ (kdF T len s = 2 → (h'.1 84 6).toInt = vlF T len s) ∧ (kdF T len s = 1 → h'.1 84 7 = Int32.ofNat (wdF T len s))) := by
      intro e2 A2 b6 b8 w1 w2
      refine w_Model_advance_248 (A2.1.symm ▸ L) ?_
      refine w_Model_advance_258 ?_
      exact ih (by omega) _ _ ⟨rfl, A2.si (by omega), by rw [sI_same, ← Nat.add_assoc]; exact t_succ b6 (by omega), by rw [sI_nj (by omega)]; exact b8, by rw [← ek]; exact (runT_go (P := fun i => isDg (T i)) pk l2).symm, fun q => absurd q (by omega), fun q => by rw [sI_nj (by omega)]; exact w1 q, fun q => by rw [sI_nj (by omega)]; exact w2 q⟩
    refine w_Model_advance_212 Le (fun c => ?_) (fun c => ?_)
    · have c' : 2 ≤ (e.1 84 3 - e.1 84 4).toInt := c
      rw [df] at c'
      exact step e Ke e6 e8 (fun q => absurd q (by omega)) (fun q => absurd q (by omega))
    · have c' : ¬ 2 ≤ (e.1 84 3 - e.1 84 4).toInt := c
      rw [df] at c'
      refine w_Model_advance_225 Le (Tc.wc (s_mbyte Le Ee e6 pk)) (Is.k ?_)
      refine w_Model_advance_241 Le ?_
      have acc : ∀ v : Int, 0 ≤ v → v ≤ 9 → (e.1 84 6).toInt = v → (10 * e.1 84 6 + e.1 85 (10 + (s + k)) - 48).toInt = 10 * v + T (s + k) - 48 := fun v q1 q2 q => by
        have m1 : (10 * e.1 84 6).toInt = 10 * v := by rw [i32_mul (by rw [q]; show _ ≤ (10 : Int) * v; omega) (by rw [q]; show (10 : Int) * v ≤ _; omega), q]; rfl
        have e2 : (e.1 85 (10 + (s + k))).toInt = T (s + k) := by rw [ee]; omega
        have m2 : (10 * e.1 84 6 + e.1 85 (10 + (s + k))).toInt = 10 * v + T (s + k) := by rw [i32_add (by rw [m1, e2]; omega) (by rw [m1, e2]; omega), m1, e2]
        rw [i32_sub (by rw [m2]; show _ ≤ _ - (48 : Int); omega) (by rw [m2]; show _ - (48 : Int) ≤ _; omega), m2]
        rfl
      refine step _ (Ke.si (by omega)) (by rw [sI_nj (by omega)]; exact e6) (by rw [sI_nj (by omega)]; exact e8) (fun q => ?_) (fun q => ?_)
      · have k0 : k = 0 := by omega
        have := acc 0 (by omega) (by omega) (v0 k0)
        rw [sI_same, this, k0, Nat.add_zero]
        omega
      · have k0 : k = 1 := by omega
        have := acc (T s - 48) (by omega) (by omega) (v1 k0)
        rw [sI_same, this, k0]
  · rw [if_neg l2]
    refine w_Model_advance_209 (fun _ => ?_) (fun q => absurd (by decide) q)
    exact fin (by rw [← ek]; exact runT_no (Or.inr (Bool.not_eq_true _ ▸ l2)))
/-- the token that begins here -/
theorem r_tok {g : MH} (K : Ad h g) (L : Lay h.2) (E : EnvA h T len) {s : Nat} (g6 : (g.1 84 3).toInt = (s : Int)) (sl : s ≤ len) : Wb rod (d + 3) B_Model_advance 39 [some (.inr (.inr (.inl (some 84)))), none, none, none] [] g (fun r h' => r = none ∧ Ad h h' ∧ (h'.1 84 4).toInt = (s : Int) ∧ (h'.1 84 3).toInt = (nxF T len s : Int) ∧ (h'.1 84 5).toInt = (tkF T len s : Int) ∧ (kdF T len s = 2 → (h'.1 84 6).toInt = vlF T len s) ∧ (kdF T len s = 1 → h'.1 84 7 = Int32.ofNat (wdF T len s))) := by
  have l6 := E.2.1
  have Lg : Lay g.2 := K.1.symm ▸ L
  refine w_Model_advance_39 Lg ?_
  have K2 : Ad h (sI g 84 4 (g.1 84 3)) := K.si (by omega)
  have a6 : ((sI g 84 4 (g.1 84 3)).1 84 3).toInt = (s : Int) := by rw [sI_nj (by omega)]; exact g6
  have a8 : ((sI g 84 4 (g.1 84 3)).1 84 4).toInt = (s : Int) := by rw [sI_same]; exact g6
  generalize sI g 84 4 (g.1 84 3) = f at K2 a6 a8
  have Lf : Lay f.2 := K2.1.symm ▸ L
  have Ef := K2.env E
  by_cases sn : ¬ s < len
  · have kd : kdF T len s = 0 := if_pos (by omega)
    refine w_Model_advance_47 Lf (Tc.wc (s_mbyte0 Lf Ef (by rw [a6]; omega))) (Is.k ?_)
    refine w_Model_advance_55 rfl (fun c => absurd (show (0 : Int) ≤ -1 from c) (by omega)) (fun _ => ?_)
    refine w_Model_advance_60 Lf ?_
    refine w_Model_advance_65 ?_
    refine w_Model_advance_311 ?_
    refine ⟨rfl, K2.si (by omega), by rw [sI_nj (by omega)]; exact a8, by rw [sI_nj (by omega), nxF, if_pos (by omega)]; exact a6, by rw [sI_same, tkF, kd]; rfl, fun q => ?_, fun q => ?_⟩
    · rw [kd] at q; exact absurd q (by omega)
    · rw [kd] at q; exact absurd q (by omega)
  rw [Decidable.not_not] at sn
  obtain ⟨et, tb⟩ := Ef.2.2 s sn
  have ubs := ub_bd tb
  refine w_Model_advance_47 Lf (Tc.wc (s_mbyte Lf Ef a6 sn)) (Is.k ?_)
  refine w_Model_advance_55 rfl (fun _ => ?_) (fun c => absurd (show (0 : Int) ≤ (f.1 85 (10 + s)).toInt by rw [et]; exact ubs.1) c)
  refine w_Model_advance_68 (Tc.wc (s_mlet _)) (Is.k ?_)
  rw [et, ub_lt tb]
  by_cases lt : isLt (T s) = true
  · rw [if_pos lt]
    refine w_Model_advance_72 (fun q => absurd q (by decide)) (fun _ => ?_)
    exact r_tokW K2 L E a6 a8 sn lt
  rw [if_neg lt]
  refine w_Model_advance_72 (fun _ => ?_) (fun q => absurd (by decide) q)
  refine w_Model_advance_186 (Tc.wc (s_mdig _)) (Is.k ?_)
  rw [et, ub_dg tb]
  by_cases dg : isDg (T s) = true
  · rw [if_pos dg]
    refine w_Model_advance_190 (fun q => absurd q (by decide)) (fun _ => ?_)
    exact r_tokD K2 L E a6 a8 sn lt dg
  rw [if_neg dg]
  refine w_Model_advance_190 (fun _ => ?_) (fun q => absurd (by decide) q)
  refine w_Model_advance_286 Lf ?_
  have nx : nxF T len s = s + 1 := by rw [nxF, if_neg (by omega), if_neg lt, if_neg dg]
  refine w_Model_advance_296 (fun c => ?_) (fun c => ?_)
  · have c' : ¬ (f.1 85 (10 + s)).toInt = 59 := c
    rw [et] at c'
    have kd : kdF T len s = 4 := by rw [kdF, if_neg (by omega), if_neg lt, if_neg dg, if_neg (by omega)]
    refine w_Model_advance_307 ?_
    refine w_Model_advance_308 (h := sI f 84 3 (f.1 84 3 + 1)) Lf ?_
    refine w_Model_advance_311 ?_
    exact ⟨rfl, (K2.si (by omega)).si (by omega), by rw [sI_nj (by omega), sI_nj (by omega)]; exact a8, by rw [sI_nj (by omega), sI_same, nx]; exact t_succ a6 (by omega), by rw [sI_same, tkF, kd]; rfl, fun q => by rw [kd] at q; exact absurd q (by omega), fun q => by rw [kd] at q; exact absurd q (by omega)⟩
  · have c' : (f.1 85 (10 + s)).toInt = 59 := by first | exact c | exact Decidable.not_not.mp c
    rw [et] at c'
    have kd : kdF T len s = 3 := by rw [kdF, if_neg (by omega), if_neg lt, if_neg dg, if_pos (by omega)]
    refine w_Model_advance_303 ?_
    refine w_Model_advance_308 (h := sI f 84 3 (f.1 84 3 + 1)) Lf ?_
    refine w_Model_advance_311 ?_
    exact ⟨rfl, (K2.si (by omega)).si (by omega), by rw [sI_nj (by omega), sI_nj (by omega)]; exact a8, by rw [sI_nj (by omega), sI_same, nx]; exact t_succ a6 (by omega), by rw [sI_same, tkF, kd]; rfl, fun q => by rw [kd] at q; exact absurd q (by omega), fun q => by rw [kd] at q; exact absurd q (by omega)⟩
/-- the reference goes on to the next token -/
theorem r_advance (L : Lay h.2) (E : EnvA h T len) {p : Nat} (hp : (h.1 84 3).toInt = (p : Int)) (pl : p ≤ len) : Wc rod (d + 4) 195 [.inr (.inr (.inl (some 84)))] h (fun r h' => r = none ∧ Ad h h' ∧ (h'.1 84 4).toInt = (sttF T len p : Int) ∧ (h'.1 84 3).toInt = (nxF T len (sttF T len p) : Int) ∧ (h'.1 84 5).toInt = (tkF T len (sttF T len p) : Int) ∧ (kdF T len (sttF T len p) = 2 → (h'.1 84 6).toInt = vlF T len (sttF T len p)) ∧ (kdF T len (sttF T len p) = 1 → h'.1 84 7 = Int32.ofNat (wdF T len (sttF T len p)))) := by
  have l6 := E.2.1
  refine n_Model_advance ?_
  refine Wb.uph (len - p) (fun k L' g => L' = [some (.inr (.inr (.inl (some 84)))), none, none, none] ∧ Ad h g ∧ (g.1 84 3).toInt = ((p + k : Nat) : Int) ∧ sttF T len (p + k) = sttF T len p) ?_ (Nat.zero_le _) ⟨rfl, Ad.rfl, hp, rfl⟩
  rintro k _ g hk ⟨rfl, K, g6, sk⟩ ih
  have Lg : Lay g.2 := K.1.symm ▸ L
  have Eg := K.env E
  have on : sttF T len p = p + k → Wb rod (d + 3) B_Model_advance 39 [some (.inr (.inr (.inl (some 84)))), none, none, none] [] g (fun r h' => r = none ∧ Ad h h' ∧ (h'.1 84 4).toInt = (sttF T len p : Int) ∧ (h'.1 84 3).toInt = (nxF T len (sttF T len p) : Int) ∧ (h'.1 84 5).toInt = (tkF T len (sttF T len p) : Int) ∧ (kdF T len (sttF T len p) = 2 → (h'.1 84 6).toInt = vlF T len (sttF T len p)) ∧ (kdF T len (sttF T len p) = 1 → h'.1 84 7 = Int32.ofNat (wdF T len (sttF T len p)))) := by
    intro es
    rw [es]
    exact r_tok K L E g6 (by omega)
  by_cases pk : ¬ p + k < len
  · refine w_Model_advance_0 Lg (Tc.wc (s_mbyte0 Lg Eg (by rw [g6]; omega))) (Is.k ?_)
    refine w_Model_advance_8 (fun c => absurd c (by decide)) (fun _ => ?_)
    refine w_Model_advance_13 Lg (Tc.wc (s_mbyte0 Lg Eg (by rw [g6]; omega))) (Is.k ?_)
    refine w_Model_advance_21 (fun _ => ?_) (fun c => absurd c (by decide))
    exact on (by rw [← sk]; exact runT_no (Or.inl (by omega)))
  rw [Decidable.not_not] at pk
  obtain ⟨et, tb⟩ := Eg.2.2 (p + k) pk
  have ubs := ub_bd tb
  have go : isBl (T (p + k)) = true → Wb rod (d + 3) B_Model_advance 26 [some (.inr (.inr (.inl (some 84)))), none, none, none] [] g (fun r h' => r = none ∧ Ad h h' ∧ (h'.1 84 4).toInt = (sttF T len p : Int) ∧ (h'.1 84 3).toInt = (nxF T len (sttF T len p) : Int) ∧ (h'.1 84 5).toInt = (tkF T len (sttF T len p) : Int) ∧ (kdF T len (sttF T len p) = 2 → (h'.1 84 6).toInt = vlF T len (sttF T len p)) ∧ (kdF T len (sttF T len p) = 1 → h'.1 84 7 = Int32.ofNat (wdF T len (sttF T len p)))) := by
    intro b
    refine w_Model_advance_26 Lg ?_
    refine w_Model_advance_36 ?_
    exact ih (by omega) _ _ ⟨rfl, K.si (by omega), by rw [sI_same, ← Nat.add_assoc]; exact t_succ g6 (by omega), by rw [← sk]; exact (runT_go pk b).symm⟩
  refine w_Model_advance_0 Lg (Tc.wc (s_mbyte Lg Eg g6 pk)) (Is.k ?_)
  refine w_Model_advance_8 (fun w => ?_) (fun w => ?_)
  · have w' : (g.1 85 (10 + (p + k))).toInt = 10 := w
    rw [et] at w'
    exact go (decide_eq_true (by omega))
  · have w' : ¬ (g.1 85 (10 + (p + k))).toInt = 10 := w
    rw [et] at w'
    refine w_Model_advance_13 Lg (Tc.wc (s_mbyte Lg Eg g6 pk)) (Is.k ?_)
    refine w_Model_advance_21 (fun y => ?_) (fun y => ?_)
    · have y' : ¬ (g.1 85 (10 + (p + k))).toInt = 32 := y
      rw [et] at y'
      exact on (by rw [← sk]; exact runT_no (Or.inr (decide_eq_false (by omega))))
    · have y' : (g.1 85 (10 + (p + k))).toInt = 32 := by first | exact y | exact Decidable.not_not.mp y
      rw [et] at y'
      exact go (decide_eq_true (by omega))
end M92
