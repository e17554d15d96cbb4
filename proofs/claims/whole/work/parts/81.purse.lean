/-! THE CLASS'S PURSE -/
section M81
variable {rod : Nat → Nat × (Nat → Int32)} {d : Nat} {h : MH} {a m O Mn : Nat} {Y C : Nat → Nat}
/-- what a row of figures, the first letter's first, comes to -/
def sD (Y : Nat → Nat) : Nat → Nat → Nat
  | 0, _ => 0
  | m + 1, c => sD Y m (c / 10) + c % 10 * Y m
theorem sD_le (hy : ∀ t, Y t ≤ 60) : ∀ (m c : Nat), sD Y m c ≤ 540 * m := by
  intro m
  induction m with
  | zero => intro c; exact Nat.le_refl _
  | succ m ih =>
    intro c
    have x := ih (c / 10)
    have y : c % 10 * Y m ≤ 9 * 60 := Nat.mul_le_mul (by omega) (hy m)
    rw [sD]
    omega
theorem div10 (F j : Nat) : F / 10 / 10 ^ j = F / 10 ^ (j + 1) := by rw [Nat.div_div_eq_div_mul, Nat.pow_succ, Nat.mul_comm]
theorem div10' (F j : Nat) : F / 10 ^ j / 10 = F / 10 ^ (j + 1) := by rw [Nat.div_div_eq_div_mul, Nat.pow_succ]
theorem sD_ge (i : Nat) : ∀ (j F : Nat), sD Y i (F / 10 ^ j) ≤ sD Y (i + j) F := by
  intro j
  induction j with
  | zero => intro F; rw [Nat.pow_zero, Nat.div_one]; exact Nat.le_refl _
  | succ j ih =>
    intro F
    have x := ih (F / 10)
    rw [div10] at x
    rw [← Nat.add_assoc, sD]
    omega
theorem sD_z (i c : Nat) : ∀ j, sD Y (i + j) (c * 10 ^ j) = sD Y i c := by
  intro j
  induction j with
  | zero => rw [Nat.pow_zero, Nat.mul_one, Nat.add_zero]
  | succ j ih =>
    have e : c * 10 ^ (j + 1) = c * 10 ^ j * 10 := by rw [Nat.pow_succ, Nat.mul_assoc]
    rw [← Nat.add_assoc, sD, e, Nat.mul_div_cancel _ (by omega), ih, Nat.mul_mod_left, Nat.zero_mul, Nat.add_zero]
theorem sD_ext (i c : Nat) {n : Nat} (hn : n ≤ 9) : sD Y (i + 1) (10 * c + n) = sD Y i c + n * Y i := by
  rw [sD, show (10 * c + n) / 10 = c by omega, show (10 * c + n) % 10 = n by omega]
def Gk (Y C : Nat → Nat) (O m b F : Nat) : Prop := min (sD Y m F) O < min (sD Y m b) O ∨ (min (sD Y m F) O = min (sD Y m b) O ∧ (sD C m b < sD C m F ∨ (sD C m b = sD C m F ∧ b ≤ F)))
theorem Gk.rfl {b : Nat} : Gk Y C O m b b := Or.inr ⟨Eq.refl _, Or.inr ⟨Eq.refl _, Nat.le_refl _⟩⟩
theorem Gk.trans {x y z : Nat} (p : Gk Y C O m x y) (q : Gk Y C O m y z) : Gk Y C O m x z := by
  unfold Gk at *
  omega
def Vk (C : Nat → Nat) (Mn m F : Nat) : Prop := F < 10 ^ m ∧ sD C m F ≤ Mn
def dgt (m b t : Nat) : Nat := b / 10 ^ (m - 1 - t) % 10
def BestP (h : MH) (Y C : Nat → Nat) (O m b : Nat) : Prop := h.1 75 2 = Int32.ofNat (min (sD Y m b) O) ∧ h.1 75 3 = Int32.ofNat (sD C m b) ∧ ∀ t, t < m → h.1 77 t = Int32.ofNat (dgt m b t)
def BeP (h : MH) (Y C : Nat → Nat) (O m : Nat) (B : Option Nat) : Prop := match B with
  | none => h.1 75 2 = -1
  | some b => BestP h Y C O m b
theorem BeP.of {g : MH} {B : Option Nat} (p : BeP h Y C O m B) (e5 : g.1 75 = h.1 75) (e7 : g.1 77 = h.1 77) : BeP g Y C O m B := by
  cases B with
  | none => show g.1 75 2 = -1; rw [e5]; exact p
  | some b => exact ⟨by rw [e5]; exact p.1, by rw [e5]; exact p.2.1, fun t ht => by rw [e7]; exact p.2.2 t ht⟩
def EnvP (h : MH) (a m : Nat) (Y C : Nat → Nat) : Prop := LandA h.2 a ∧ (h.1 a 5).toInt = (m : Int) ∧ ∀ t, t < m → (h.1 (a + 6) t).toInt = (Y t : Int) ∧ (h.1 (a + 7) t).toInt = (C t : Int)
theorem EnvP.keep {g : MH} (E : EnvP h a m Y C) (ha : a + 9 ≤ 45) (K : Keep h g) : EnvP g a m Y C := ⟨K.1.symm ▸ E.1, by rw [K.c a (by omega)]; exact E.2.1, fun t ht => by rw [K.c (a + 6) (by omega), K.c (a + 7) (by omega)]; exact E.2.2 t ht⟩
/-- the row so far -/
def RowP (h : MH) (i c : Nat) : Prop := ∀ t, t < 4 → h.1 76 t = Int32.ofNat (if t < i then c / 10 ^ (i - 1 - t) % 10 else 0)
def RowN (h : MH) (i c : Nat) : Prop := ∀ t, t < 4 → t ≠ i → h.1 76 t = Int32.ofNat (if t < i then c / 10 ^ (i - 1 - t) % 10 else 0)
theorem row_dig {i c n t : Nat} (hn : n ≤ 9) (ht : t < i) : (10 * c + n) / 10 ^ (i + 1 - 1 - t) % 10 = c / 10 ^ (i - 1 - t) % 10 := by
  have e : i + 1 - 1 - t = (i - 1 - t) + 1 := by omega
  rw [e, ← div10, show (10 * c + n) / 10 = c by omega]
theorem RowP.n {g : MH} {i c n : Nat} (hn : n ≤ 9) (R : RowP g (i + 1) (10 * c + n)) : RowN g i c := by
  intro t t4 ti
  rw [R t t4]
  by_cases q : t < i
  · rw [if_pos q, if_pos (by omega), row_dig hn q]
  · rw [if_neg q, if_neg (by omega)]
theorem RowN.p {g : MH} {i c n : Nat} (hn : n ≤ 9) (R : RowN g i c) : RowP (sI g 76 i (Int32.ofNat n)) (i + 1) (10 * c + n) := by
  intro t t4
  by_cases q : t = i
  · subst q
    rw [sI_same, if_pos (by omega), show t + 1 - 1 - t = 0 by omega, Nat.pow_zero, Nat.div_one, show (10 * c + n) % 10 = n by omega]
  · rw [sI_nj q, R t t4 q]
    by_cases w : t < i
    · rw [if_pos w, if_pos (by omega), row_dig hn w]
    · rw [if_neg w, if_neg (by omega)]
theorem RowN.z {g : MH} {i c : Nat} (R : RowN g i c) : RowP (sI g 76 i 0) i c := by
  intro t t4
  by_cases q : t = i
  · subst q
    rw [sI_same, if_neg (by omega)]
    rfl
  · rw [sI_nj q, R t t4 q]
theorem RowP.dg {g : MH} {i j c t : Nat} (m4 : m ≤ 4) (hm : i + j = m) (R : RowP g i c) (ht : t < m) : g.1 76 t = Int32.ofNat (dgt m (c * 10 ^ j) t) := by
  rw [R t (by omega), dgt]
  congr 1
  by_cases q : t < i
  · rw [if_pos q, show m - 1 - t = j + (i - 1 - t) by omega, Nat.pow_add, ← Nat.div_div_eq_div_mul, Nat.mul_div_cancel _ (Nat.pow_pos (by omega))]
  · rw [if_neg q, show j = (m - 1 - t) + ((t - i) + 1) by omega, Nat.pow_add, ← Nat.mul_assoc, Nat.mul_right_comm, Nat.mul_div_cancel _ (Nat.pow_pos (by omega)), Nat.pow_succ, ← Nat.mul_assoc, Nat.mul_mod_left]
theorem c_keepB (L : Lay h.2) (x1 x2 : Int32) : Wc rod (d + 1) 111 [.inr (.inr (.inl (some 75))), .inl x1, .inl x2] h (fun r h' => r = none ∧ Keep h h' ∧ h'.1 76 = h.1 76 ∧ (((h.1 75 2).toInt < x1.toInt ∨ (x1.toInt = (h.1 75 2).toInt ∧ x2.toInt < (h.1 75 3).toInt)) ∧ h'.1 75 2 = x1 ∧ h'.1 75 3 = x2 ∧ (∀ t, t < 4 → h'.1 77 t = h.1 76 t) ∨ ¬ ((h.1 75 2).toInt < x1.toInt ∨ (x1.toInt = (h.1 75 2).toInt ∧ x2.toInt < (h.1 75 3).toInt)) ∧ h' = h)) := by
  have up : ((h.1 75 2).toInt < x1.toInt ∨ (x1.toInt = (h.1 75 2).toInt ∧ x2.toInt < (h.1 75 3).toInt)) → Wb rod d B_Purse_keepIfBetter 24 [some (.inr (.inr (.inl (some 75)))), some (.inl x1), some (.inl x2)] [] h (fun r h' => r = none ∧ Keep h h' ∧ h'.1 76 = h.1 76 ∧ (((h.1 75 2).toInt < x1.toInt ∨ (x1.toInt = (h.1 75 2).toInt ∧ x2.toInt < (h.1 75 3).toInt)) ∧ h'.1 75 2 = x1 ∧ h'.1 75 3 = x2 ∧ (∀ t, t < 4 → h'.1 77 t = h.1 76 t) ∨ ¬ ((h.1 75 2).toInt < x1.toInt ∨ (x1.toInt = (h.1 75 2).toInt ∧ x2.toInt < (h.1 75 3).toInt)) ∧ h' = h)) := by
    intro b
    refine w_Purse_keepIfBetter_24 L ?_
    refine w_Purse_keepIfBetter_29 (h := sI h 75 2 x1) L ?_
    refine w_Purse_keepIfBetter_34 (h := sI (sI h 75 2 x1) 75 3 x2) L ?_
    refine w_Purse_keepIfBetter_48 ?_
    refine ⟨rfl, ((Keep.rfl.si (scrI 75 (by omega))).si (scrI 75 (by omega))).sc (scrI 77 (by omega)), by rw [sC_cell (by omega), sI_cell (by omega), sI_cell (by omega)], Or.inl ⟨b, by rw [sC_nc (by omega), sI_nj (by omega), sI_same], by rw [sC_nc (by omega), sI_same], fun t ht => ?_⟩⟩
    rw [sC_in (sp := (0 : Int32).toNatClampNeg) (dp := (0 : Int32).toNatClampNeg) rfl rfl (show t < (4 : Int32).toNatClampNeg from ht), sI_nc (by omega), sI_nc (by omega)]
  have no : ¬ ((h.1 75 2).toInt < x1.toInt ∨ (x1.toInt = (h.1 75 2).toInt ∧ x2.toInt < (h.1 75 3).toInt)) → Wb rod d B_Purse_keepIfBetter 48 [some (.inr (.inr (.inl (some 75)))), some (.inl x1), some (.inl x2)] [] h (fun r h' => r = none ∧ Keep h h' ∧ h'.1 76 = h.1 76 ∧ (((h.1 75 2).toInt < x1.toInt ∨ (x1.toInt = (h.1 75 2).toInt ∧ x2.toInt < (h.1 75 3).toInt)) ∧ h'.1 75 2 = x1 ∧ h'.1 75 3 = x2 ∧ (∀ t, t < 4 → h'.1 77 t = h.1 76 t) ∨ ¬ ((h.1 75 2).toInt < x1.toInt ∨ (x1.toInt = (h.1 75 2).toInt ∧ x2.toInt < (h.1 75 3).toInt)) ∧ h' = h)) := by
    intro b
    refine w_Purse_keepIfBetter_48 ?_
    exact ⟨rfl, Keep.rfl, rfl, Or.inr ⟨b, rfl⟩⟩
  refine n_Purse_keepIfBetter ?_
  refine w_Purse_keepIfBetter_0 L (fun c => ?_) (fun c => ?_)
  · exact up (Or.inl c)
  · refine w_Purse_keepIfBetter_8 L (fun kc2 => ?_) (fun kc2 => ?_)
    · exact no (by omega)
    · refine w_Purse_keepIfBetter_16 L (fun kc3 => ?_) (fun kc3 => ?_)
      · exact no (by omega)
      · exact up (by omega)
theorem min32 {x3 x5 : Int32} {y : Nat} (h3 : x3.toInt = (O : Int)) (h5 : x5.toInt = (y : Int)) : (if x3 < x5 then x3 else x5).toInt = ((min y O : Nat) : Int) := by
  by_cases q : x3 < x5
  · rw [if_pos q, h3]
    have := Int32.lt_iff_toInt_lt.mp q
    omega
  · rw [if_neg q, h5]
    have : ¬ x3.toInt < x5.toInt := fun w => q (Int32.lt_iff_toInt_lt.mpr w)
    omega
theorem pref {j c F : Nat} (e : F / 10 ^ j = c) : c * 10 ^ j ≤ F := by
  rw [← e]
  exact Nat.div_mul_le_self _ _
/-- nothing behind a row that has enough is better -/
theorem Gk.pre {i j c F : Nat} (hm : i + j = m) (e : F / 10 ^ j = c) (q : O ≤ sD Y i c ∨ j = 0) : Gk Y C O m (c * 10 ^ j) F := by
  subst hm
  have x := sD_ge (Y := Y) i j F
  have y := sD_ge (Y := C) i j F
  have z := pref e
  have zy := sD_z (Y := Y) i c j
  have zc := sD_z (Y := C) i c j
  rw [e] at x y
  unfold Gk
  rcases q with q | q
  · omega
  · subst q
    rw [Nat.pow_zero, Nat.div_one] at e
    subst e
    rw [Nat.pow_zero, Nat.mul_one]
    omega
theorem purse_keep {i j c : Nat} {B : Option Nat} {u7 u8 u9 : Option MV} (hy : ∀ t, Y t ≤ 60) (hc : ∀ t, C t ≤ 60) (m4 : m ≤ 4) (O9 : O ≤ 99) (hm : i + j = m) (ci : c < 10 ^ i) (L : Lay h.2) (R : RowP h i c) {x2 x3 x4 x5 x6 : Int32} (h3 : x3.toInt = (O : Int)) (h5 : x5.toInt = (sD Y i c : Int)) (h6 : x6.toInt = (sD C i c : Int)) (cm : sD C i c ≤ Mn) (hB : BeP h Y C O m B) (hv : ∀ b, B = some b → Vk C Mn m b ∧ b < c * 10 ^ j) (en : O ≤ sD Y i c ∨ j = 0) : Wb rod (d + 1) B_Purse_chooseOn 32 [some (.inr (.inr (.inl (some 75)))), some (.inr (.inr (.inl (some a)))), some (.inl x2), some (.inl x3), some (.inl x4), some (.inl x5), some (.inl x6), u7, u8, u9] [] h (fun r h' => r = none ∧ Keep h h' ∧ RowP h' i c ∧ ∃ B', BeP h' Y C O m B' ∧ (∀ b, B' = some b → Vk C Mn m b ∧ b < (c + 1) * 10 ^ j) ∧ (∀ b, B = some b → ∃ b', B' = some b' ∧ Gk Y C O m b' b) ∧ ∀ F, F / 10 ^ j = c → Vk C Mn m F → ∃ b', B' = some b' ∧ Gk Y C O m b' F) := by
  have z : c * 10 ^ j < (c + 1) * 10 ^ j := by rw [Nat.add_mul, Nat.one_mul]; have := Nat.pow_pos (n := j) (show 0 < 10 by omega); omega
  have yl := sD_le hy i c
  have cl := sD_le hc i c
  have zy := sD_z (Y := Y) i c j
  have zc := sD_z (Y := C) i c j
  rw [hm] at zy zc
  have v0 : Vk C Mn m (c * 10 ^ j) := ⟨by rw [← hm, Nat.pow_add]; exact Nat.mul_lt_mul_of_pos_right ci (Nat.pow_pos (by omega)), by omega⟩
  have m1 := min32 h3 h5
  refine w_Purse_chooseOn_32 L (c_keepB L _ _) ?_
  rintro _ g ⟨rfl, K, e76, ⟨b, q1, q2, q3⟩ | ⟨b, rfl⟩⟩
  · refine w_Purse_chooseOn_44 ?_
    refine ⟨rfl, K, fun t ht => by rw [e76]; exact R t ht, some (c * 10 ^ j), ⟨by rw [q1, zy]; exact ofN m1 (by omega), by rw [q2, zc]; exact ofN h6 (by omega), fun t ht => by rw [q3 t (by omega)]; exact R.dg m4 hm ht⟩, fun b e => by cases e; exact ⟨v0, z⟩, fun b' e => ⟨_, rfl, ?_⟩, fun F e _ => ⟨_, rfl, Gk.pre hm e en⟩⟩
    rw [e] at hB
    have w := sD_le hy m b'
    have w2 := sD_le hc m b'
    rw [hB.1, hB.2.1, m1, h6, t_nat (by omega), t_nat (by omega)] at b
    unfold Gk
    omega
  · refine w_Purse_chooseOn_44 ?_
    refine ⟨rfl, K, R, B, hB, fun b' e => ⟨(hv b' e).1, by have := (hv b' e).2; omega⟩, fun b' e => ⟨b', e, Gk.rfl⟩, fun F e _ => ?_⟩
    rw [m1, h6] at b
    cases hb : B with
    | none =>
      rw [hb] at hB
      rw [show g.1 75 2 = -1 from hB] at b
      exact absurd (Or.inl (show (-1 : Int) < ((min (sD Y i c) O : Nat) : Int) by omega)) b
    | some b' =>
      have lt := (hv b' hb).2
      rw [hb] at hB
      have w := sD_le hy m b'
      have w2 := sD_le hc m b'
      rw [hB.1, hB.2.1, t_nat (by omega), t_nat (by omega)] at b
      refine ⟨b', rfl, Gk.trans ?_ (Gk.pre hm e en)⟩
      unfold Gk
      omega
/-- the first part: can it be better, has it enough -/
theorem purse_first {i j c : Nat} {B : Option Nat} {u7 u8 u9 : Option MV} (hy : ∀ t, Y t ≤ 60) (hc : ∀ t, C t ≤ 60) (m4 : m ≤ 4) (O9 : O ≤ 99) (hm : i + j = m) (ci : c < 10 ^ i) (L : Lay h.2) (E : EnvP h a m Y C) (R : RowP h i c) {x2 x3 x4 x5 x6 : Int32} (h2 : x2.toInt = (i : Int)) (h3 : x3.toInt = (O : Int)) (h5 : x5.toInt = (sD Y i c : Int)) (h6 : x6.toInt = (sD C i c : Int)) (cm : sD C i c ≤ Mn) (hB : BeP h Y C O m B) (hv : ∀ b, B = some b → Vk C Mn m b ∧ b < c * 10 ^ j)
    (K : j ≠ 0 → sD Y i c < O → Wb rod (d + 1) B_Purse_chooseOn 45 [some (.inr (.inr (.inl (some 75)))), some (.inr (.inr (.inl (some a)))), some (.inl x2), some (.inl x3), some (.inl x4), some (.inl x5), some (.inl x6), u7, u8, u9] [] h (fun r h' => r = none ∧ Keep h h' ∧ RowP h' i c ∧ ∃ B', BeP h' Y C O m B' ∧ (∀ b, B' = some b → Vk C Mn m b ∧ b < (c + 1) * 10 ^ j) ∧ (∀ b, B = some b → ∃ b', B' = some b' ∧ Gk Y C O m b' b) ∧ ∀ F, F / 10 ^ j = c → Vk C Mn m F → ∃ b', B' = some b' ∧ Gk Y C O m b' F)) : Wb rod (d + 1) B_Purse_chooseOn 0 [some (.inr (.inr (.inl (some 75)))), some (.inr (.inr (.inl (some a)))), some (.inl x2), some (.inl x3), some (.inl x4), some (.inl x5), some (.inl x6), u7, u8, u9] [] h (fun r h' => r = none ∧ Keep h h' ∧ RowP h' i c ∧ ∃ B', BeP h' Y C O m B' ∧ (∀ b, B' = some b → Vk C Mn m b ∧ b < (c + 1) * 10 ^ j) ∧ (∀ b, B = some b → ∃ b', B' = some b' ∧ Gk Y C O m b' b) ∧ ∀ F, F / 10 ^ j = c → Vk C Mn m F → ∃ b', B' = some b' ∧ Gk Y C O m b' F) := by
  have z : c * 10 ^ j < (c + 1) * 10 ^ j := by rw [Nat.add_mul, Nat.one_mul]; have := Nat.pow_pos (n := j) (show 0 < 10 by omega); omega
  have go : Wb rod (d + 1) B_Purse_chooseOn 18 [some (.inr (.inr (.inl (some 75)))), some (.inr (.inr (.inl (some a)))), some (.inl x2), some (.inl x3), some (.inl x4), some (.inl x5), some (.inl x6), u7, u8, u9] [] h (fun r h' => r = none ∧ Keep h h' ∧ RowP h' i c ∧ ∃ B', BeP h' Y C O m B' ∧ (∀ b, B' = some b → Vk C Mn m b ∧ b < (c + 1) * 10 ^ j) ∧ (∀ b, B = some b → ∃ b', B' = some b' ∧ Gk Y C O m b' b) ∧ ∀ F, F / 10 ^ j = c → Vk C Mn m F → ∃ b', B' = some b' ∧ Gk Y C O m b' F) := by
    refine w_Purse_chooseOn_18 (fun q => ?_) (fun q => ?_)
    · exact purse_keep hy hc m4 O9 hm ci L R h3 h5 h6 cm hB hv (Or.inl (by omega))
    · refine w_Purse_chooseOn_24 E.1 (Tc.wc (s_hasLetter E.1 _)) (Is.k ?_)
      refine w_Purse_chooseOn_29 (fun w => ?_) (fun w => ?_)
      · have jn : j ≠ 0 := fun e => by
          apply w
          rw [if_neg (by rw [E.2.1]; omega)]
          rfl
        exact K jn (by omega)
      · have j0 : j = 0 := by
          by_cases e : j = 0
          · exact e
          · exfalso
            rw [if_pos (by rw [E.2.1]; omega)] at w
            first | exact absurd w (by decide) | exact w (by decide)
        exact purse_keep hy hc m4 O9 hm ci L R h3 h5 h6 cm hB hv (Or.inr j0)
  refine w_Purse_chooseOn_0 L (fun _ => go) (fun q1 => ?_)
  refine w_Purse_chooseOn_8 L (fun _ => go) (fun q2 => ?_)
  refine w_Purse_chooseOn_17 ?_
  refine ⟨rfl, Keep.rfl, R, B, hB, fun b' e => ⟨(hv b' e).1, by have := (hv b' e).2; omega⟩, fun b' e => ⟨b', e, Gk.rfl⟩, fun F e _ => ?_⟩
  rw [h3] at q1
  rw [h6] at q2
  cases hb : B with
  | none =>
    rw [hb] at hB
    rw [show h.1 75 2 = -1 from hB] at q1
    have q : (-1 : Int) = (O : Int) := q1
    omega
  | some b =>
    have lt := (hv b hb).2
    rw [hb] at hB
    have w := sD_le hy m b
    have w2 := sD_le hc m b
    rw [hB.1, t_nat (by omega)] at q1
    rw [hB.2.1, t_nat (by omega)] at q2
    have x := sD_ge (Y := C) i j F
    rw [e, hm] at x
    have := pref e
    refine ⟨b, rfl, ?_⟩
    unfold Gk
    omega
theorem c_chooseOn (hy : ∀ t, Y t ≤ 60) (hc : ∀ t, C t ≤ 60) (m4 : m ≤ 4) (O9 : O ≤ 99) (Mb : Mn ≤ 1000000) (ha : a + 9 ≤ 45) {x3 x4 : Int32} (h3 : x3.toInt = (O : Int)) (h4 : x4.toInt = (Mn : Int)) : ∀ (j i c : Nat) (h : MH) (x2 x5 x6 : Int32) (B : Option Nat), i + j = m → c < 10 ^ i → Lay h.2 → EnvP h a m Y C → RowP h i c → x2.toInt = (i : Int) → x5.toInt = (sD Y i c : Int) → x6.toInt = (sD C i c : Int) → sD C i c ≤ Mn → BeP h Y C O m B → (∀ b, B = some b → Vk C Mn m b ∧ b < c * 10 ^ j) → Wc rod (d + j + 2) 110 [.inr (.inr (.inl (some 75))), .inr (.inr (.inl (some a))), .inl x2, .inl x3, .inl x4, .inl x5, .inl x6] h (fun r h' => r = none ∧ Keep h h' ∧ RowP h' i c ∧ ∃ B', BeP h' Y C O m B' ∧ (∀ b, B' = some b → Vk C Mn m b ∧ b < (c + 1) * 10 ^ j) ∧ (∀ b, B = some b → ∃ b', B' = some b' ∧ Gk Y C O m b' b) ∧ ∀ F, F / 10 ^ j = c → Vk C Mn m F → ∃ b', B' = some b' ∧ Gk Y C O m b' F) := by
  intro j
  induction j with
  | zero =>
    intro i c h x2 x5 x6 B hm ci L E R h2 h5 h6 cm hB hv
    refine n_Purse_chooseOn ?_
    exact purse_first hy hc m4 O9 hm ci L E R h2 h3 h5 h6 cm hB hv (fun q => absurd rfl q)
  | succ j ihj =>
    intro i c h x2 x5 x6 B hm ci L E R h2 h5 h6 cm hB hv
    have i4 : i < 4 := by omega
    have ex2 := n_eq h2
    have yl := sD_le hy i c
    have cl := sD_le hc i c
    have yi := hy i
    have cci := hc i
    have Ei := E.2.2 i (by omega)
    have p10 := Nat.pow_pos (n := j) (show 0 < 10 by omega)
    refine n_Purse_chooseOn ?_
    refine purse_first hy hc m4 O9 hm ci L E R h2 h3 h5 h6 cm hB hv (fun _ yO => ?_)
    have fin : ∀ (g : MH) (B' : Option Nat) (u7 u8 u9 : Option MV), Keep h g → RowN g i c → BeP g Y C O m B' → (∀ b, B' = some b → Vk C Mn m b ∧ b < (c + 1) * 10 ^ (j + 1)) → (∀ b, B = some b → ∃ b', B' = some b' ∧ Gk Y C O m b' b) → (∀ F n, n ≤ 9 → F / 10 ^ j = 10 * c + n → Vk C Mn m F → ∃ b', B' = some b' ∧ Gk Y C O m b' F) → Wb rod (d + j + 1 + 1) B_Purse_chooseOn 131 [some (.inr (.inr (.inl (some 75)))), some (.inr (.inr (.inl (some a)))), some (.inl x2), some (.inl x3), some (.inl x4), some (.inl x5), some (.inl x6), u7, u8, u9] [] g (fun r h' => r = none ∧ Keep h h' ∧ RowP h' i c ∧ ∃ B', BeP h' Y C O m B' ∧ (∀ b, B' = some b → Vk C Mn m b ∧ b < (c + 1) * 10 ^ (j + 1)) ∧ (∀ b, B = some b → ∃ b', B' = some b' ∧ Gk Y C O m b' b) ∧ ∀ F, F / 10 ^ (j + 1) = c → Vk C Mn m F → ∃ b', B' = some b' ∧ Gk Y C O m b' F) := by
      intro g B' u7 u8 u9 K Rn Bg bv gb gF
      refine w_Purse_chooseOn_131 (L.keep K) (by omega) ?_
      rw [ex2]
      refine w_Purse_chooseOn_138 ?_
      refine ⟨rfl, K.si (scrI 76 (by omega)), Rn.z, B', Bg.of (sI_cell (by omega)) (sI_cell (by omega)), bv, gb, fun F e v => gF F (F / 10 ^ j % 10) (by omega) ?_ v⟩
      rw [← div10'] at e
      omega
    refine w_Purse_chooseOn_45 rfl ?_
    refine Wb.uph 10 (fun k L' g => ∃ (z : Int32) (u8 u9 : Option MV) (B' : Option Nat), L' = [some (.inr (.inr (.inl (some 75)))), some (.inr (.inr (.inl (some a)))), some (.inl x2), some (.inl x3), some (.inl x4), some (.inl x5), some (.inl x6), some (.inl z), u8, u9] ∧ z.toInt = (k : Int) ∧ Keep h g ∧ RowN g i c ∧ BeP g Y C O m B' ∧ (∀ b, B' = some b → Vk C Mn m b ∧ b < (10 * c + k) * 10 ^ j) ∧ (∀ b, B = some b → ∃ b', B' = some b' ∧ Gk Y C O m b' b) ∧ ∀ F n, n < k → F / 10 ^ j = 10 * c + n → Vk C Mn m F → ∃ b', B' = some b' ∧ Gk Y C O m b' F) ?_ (Nat.zero_le _) ⟨0, _, _, B, rfl, rfl, Keep.rfl, fun t t4 _ => R t t4, hB, fun b e => ⟨(hv b e).1, ?_⟩, fun b e => ⟨b, e, Gk.rfl⟩, fun F n hn => absurd hn (by omega)⟩
    · rintro k _ g hk ⟨z, u8, u9, B1, rfl, hz, K, Rn, Bg, bv, gb, gF⟩ ih
      have Lg := L.keep K
      have Eg := E.keep ha K
      have Egi := Eg.2.2 i (by omega)
      have top : ∀ n, n ≤ 10 → (10 * c + n) * 10 ^ j ≤ (c + 1) * 10 ^ (j + 1) := fun n hn => by
        rw [Nat.pow_succ, Nat.mul_comm (10 ^ j) 10, ← Nat.mul_assoc]
        exact Nat.mul_le_mul_right _ (by omega)
      refine w_Purse_chooseOn_48 (fun q => ?_) (fun q => ?_)
      · have q' : (9 : Int) < z.toInt := q
        exact fin g B1 _ _ _ K Rn Bg (fun b e => ⟨(bv b e).1, Nat.lt_of_lt_of_le (bv b e).2 (top k hk)⟩) gb (fun F n hn e v => gF F n (by omega) e v)
      · have q' : ¬ (9 : Int) < z.toInt := q
        have k9 : k ≤ 9 := by omega
        have kc : k * C i ≤ 9 * 60 := Nat.mul_le_mul k9 cci
        have ky : k * Y i ≤ 9 * 60 := Nat.mul_le_mul k9 yi
        have my := n_add h5 (n_mul hz Egi.1 (by omega)) (by omega)
        have mc := n_add h6 (n_mul hz Egi.2 (by omega)) (by omega)
        have sy := sD_ext (Y := Y) i c k9
        have sc := sD_ext (Y := C) i c k9
        have cn : 10 * c + k < 10 ^ (i + 1) := by rw [Nat.pow_succ]; omega
        refine w_Purse_chooseOn_55 Eg.1 (by omega) (fun w => ?_) (fun w => ?_)
        · rw [ex2, mc, h4] at w
          rw [ex2]
          refine w_Purse_chooseOn_93 Lg (by omega) ?_
          rw [ex2, ofN hz (by omega)]
          have Kz := K.si (i := i) (x := Int32.ofNat k) (scrI 76 (by omega))
          refine w_Purse_chooseOn_101 (h := sI g 76 i (Int32.ofNat k)) (L.keep Kz) (ihj (i + 1) (10 * c + k) (sI g 76 i (Int32.ofNat k)) _ _ _ B1 (by omega) cn (L.keep Kz) (E.keep ha Kz) (Rn.p k9) (t_succ h2 (by omega)) (by rw [sy, ← ofN hz (by omega)]; exact my) (by rw [sc, ← ofN hz (by omega)]; exact mc) (by rw [sc]; omega) (Bg.of (sI_cell (by omega)) (sI_cell (by omega))) bv) ?_
          rintro _ f ⟨rfl, Kf, Rf, B2, Bf, b2, g2, g3⟩
          have up : ∀ r, (∃ b, B1 = some b ∧ Gk Y C O m b r) → ∃ b', B2 = some b' ∧ Gk Y C O m b' r := fun r ⟨b, e, y⟩ => by
            obtain ⟨b', e', y'⟩ := g2 b e
            exact ⟨b', e', y'.trans y⟩
          have K2 := Kz.trans Kf
          refine w_Purse_chooseOn_116 (fun y => ?_) (fun y => ?_)
          · refine w_Purse_chooseOn_125 rfl ?_
            rw [← ofN hz (by omega)]
            refine ih (by omega) _ _ ⟨_, _, _, B2, rfl, t_succ hz (by omega), K2, Rf.n k9, Bf, fun b e => ⟨(b2 b e).1, by have := (b2 b e).2; rw [show 10 * c + (k + 1) = 10 * c + k + 1 by omega]; exact this⟩, fun b e => up b (gb b e), fun F n hn e v => ?_⟩
            by_cases en : n = k
            · subst en; exact g3 F e v
            · exact up F (gF F n (by omega) e v)
          · rw [← ofN hz (by omega), my, h3] at y
            refine w_Purse_chooseOn_122 ?_
            refine fin f B2 _ _ _ K2 (Rf.n k9) Bf (fun b e => ⟨(b2 b e).1, Nat.lt_of_lt_of_le (b2 b e).2 (by rw [show 10 * c + k + 1 = 10 * c + (k + 1) by omega]; exact top (k + 1) (by omega))⟩) (fun b e => up b (gb b e)) (fun F n hn e v => ?_)
            by_cases en : n < k
            · exact up F (gF F n en e v)
            · by_cases en2 : n = k
              · subst en2; exact g3 F e v
              · have z0 := sD_z (Y := C) (i + 1) (10 * c + k) j
                have z1 := sD_z (Y := Y) (i + 1) (10 * c + k) j
                rw [show i + 1 + j = m by omega] at z0 z1
                obtain ⟨b', e', y'⟩ := g3 ((10 * c + k) * 10 ^ j) (Nat.mul_div_cancel _ p10) ⟨by rw [show m = (i + 1) + j by omega, Nat.pow_add]; exact Nat.mul_lt_mul_of_pos_right cn p10, by omega⟩
                refine ⟨b', e', y'.trans ?_⟩
                have x1 := sD_ge (Y := Y) (i + 1) j F
                have x2 := sD_ge (Y := C) (i + 1) j F
                rw [e, sD_ext i c hn, show i + 1 + j = m by omega] at x1 x2
                have n1 : k * Y i ≤ n * Y i := Nat.mul_le_mul_right _ (by omega)
                have n2 : k * C i ≤ n * C i := Nat.mul_le_mul_right _ (by omega)
                have n3 := pref e
                have n4 : (10 * c + k) * 10 ^ j ≤ (10 * c + n) * 10 ^ j := Nat.mul_le_mul_right _ (by omega)
                unfold Gk
                omega
        · rw [ex2, mc, h4] at w
          rw [ex2]
          refine w_Purse_chooseOn_90 ?_
          refine fin g B1 _ _ _ K Rn Bg (fun b e => ⟨(bv b e).1, Nat.lt_of_lt_of_le (bv b e).2 (top k hk)⟩) gb (fun F n hn e v => ?_)
          by_cases en : n < k
          · exact gF F n en e v
          · exfalso
            have x2 := sD_ge (Y := C) (i + 1) j F
            rw [e, sD_ext i c hn, show i + 1 + j = m by omega] at x2
            have n2 : k * C i ≤ n * C i := Nat.mul_le_mul_right _ (by omega)
            have := v.2
            omega
    · have := (hv b e).2
      rw [Nat.pow_succ, Nat.mul_comm (10 ^ j) 10, ← Nat.mul_assoc, Nat.mul_comm c 10] at this
      exact this
def BsP (Y C : Nat → Nat) (O Mn m : Nat) (B : Option Nat) : Prop := (∀ b, B = some b → Vk C Mn m b) ∧ ∀ F, Vk C Mn m F → ∃ b, B = some b ∧ Gk Y C O m b F
theorem BsP.eq {B B2 : Option Nat} (p : BsP Y C O Mn m B) (q : BsP Y C O Mn m B2) : B = B2 := by
  have an : ∀ b c, Gk Y C O m b c → Gk Y C O m c b → b = c := fun b c x y => by
    unfold Gk at *
    omega
  cases hB : B with
  | none =>
    cases h2 : B2 with
    | none => rfl
    | some c =>
      obtain ⟨b, e, _⟩ := p.2 c (q.1 c h2)
      rw [hB] at e
      exact nomatch e
  | some b =>
    obtain ⟨c, e, x⟩ := q.2 b (p.1 b hB)
    obtain ⟨b', e', y⟩ := p.2 c (q.1 c e)
    rw [hB] at e'
    cases e'
    rw [e, an b c y x]
theorem c_choose (hy : ∀ t, Y t ≤ 60) (hc : ∀ t, C t ≤ 60) (m4 : m ≤ 4) (O9 : O ≤ 99) (Mb : Mn ≤ 1000000) (ha : a + 9 ≤ 45) (L : Lay h.2) (E : EnvP h a m Y C) (x3 x4 : Int32) (h3 : x3.toInt = (O : Int)) (h4 : x4.toInt = (Mn : Int)) : Wc rod (d + 7) 109 [.inr (.inr (.inl (some 75))), .inr (.inr (.inl (some a))), .inl x3, .inl x4] h (fun r h' => r = none ∧ Keep h h' ∧ ∃ b, BestP h' Y C O m b ∧ BsP Y C O Mn m (some b)) := by
  have L1 : Lay (sI h 75 2 (-1)).2 := L
  have L2 : Lay (sI (sI h 75 2 (-1)) 75 3 0).2 := L
  refine n_Purse_choose ?_
  refine w_Purse_choose_0 L ?_
  refine w_Purse_choose_5 L1 ?_
  refine w_Purse_choose_10 L2 (s_fill 76 0 4 (L2.1 76 _ rfl) (by omega)) ?_
  rintro _ g ⟨rfl, q1, q2, q3⟩
  have K : Keep h g := ((Keep.rfl.si (scrI 75 (by omega))).si (scrI 75 (by omega))).trans ⟨q1, fun c hc => q3 c (fun e => hc (e ▸ scrI 76 (by omega)))⟩
  have Lg := L.keep K
  have z0 : sD Y 0 0 = 0 := rfl
  have ch := c_chooseOn (rod := rod) (d := 4 - m + d) hy hc m4 O9 Mb ha h3 h4 m 0 0 g 0 0 0 none (by omega) (by decide) Lg (E.keep ha K) (fun t ht => by rw [q2 t ht, if_neg (by omega)]; rfl) rfl rfl rfl (Nat.zero_le _) (show g.1 75 2 = -1 by rw [q3 75 (by omega), sI_nj (by omega), sI_same]) (fun b e => nomatch e)
  rw [show 4 - m + d + m + 2 = d + 6 by omega] at ch
  refine w_Purse_choose_18 Lg ch ?_
  rintro _ f ⟨rfl, Kf, _, B, Bf, bv, _, gF⟩
  have fF : ∀ F, Vk C Mn m F → ∃ b, B = some b ∧ Gk Y C O m b F := fun F v => gF F (Nat.div_eq_of_lt v.1) v
  obtain ⟨b, e, _⟩ := fF 0 ⟨Nat.pow_pos (by omega), by have := sD_z (Y := C) 0 0 m; rw [Nat.zero_mul, Nat.zero_add] at this; rw [this]; exact Nat.zero_le _⟩
  subst e
  refine w_Purse_choose_28 ?_
  exact ⟨rfl, K.trans Kf, b, Bf, fun b e => (bv b e).1, fF⟩
end M81
