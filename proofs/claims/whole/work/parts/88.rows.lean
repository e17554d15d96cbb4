/-! OPERATION rows -/
section M88
variable {rod : Nat → Nat × (Nat → Int32)} {d : Nat} {h : MH} {a l n B V : Nat} {W f : Nat → Nat}
theorem t_divB {x y : Int32} {c b : Nat} (hx : x.toInt = (c : Int)) (hy : y.toInt = (b : Int)) (b0 : 0 < b) : (x / y).toInt = ((c / b : Nat) : Int) := by
  rw [i32_div (by rw [hy]; omega), hx, hy]
  rfl
theorem t_modB {x y : Int32} {c b : Nat} (hx : x.toInt = (c : Int)) (hy : y.toInt = (b : Int)) (b0 : 0 < b) (hc : c < 2147483648) : (x - x / y * y).toInt = ((c % b : Nat) : Int) := by
  have z := Nat.div_mul_le_self c b
  have a1 := n_mul (t_divB hx hy b0) hy (by omega)
  have a2 := n_sub hx a1 hc z
  rw [a2]
  have := Nat.mod_eq_sub_div_mul (x := c) (k := b)
  omega
theorem MBarg.k97 {g : MH} (M : MBarg h a l) (ha : a + 2 ≤ 45) (e : ∀ c, c ≠ 97 → g.1 c = h.1 c) : MBarg g a l := ⟨M.1.keep (fun c _ _ => e c (by omega)) (e 85 (by omega)), M.2.1, by rw [e 84 (by omega)]; exact M.2.2.1, by rw [e 84 (by omega), e a (by omega)]; exact M.2.2.2⟩
/-- one row of shares, written down -/
theorem r_shared (M : MBarg h a l) (L : Lay h.2) (hn : (h.1 a 0).toInt = (n : Int)) (n1 : 1 ≤ n) (n4 : n ≤ 4) (hB : B = V + 1) (V4 : V ≤ 40) (x1 x2 : Int32) {c : Nat} (h1 : x1.toInt = (c : Int)) (cl : c < 100000) (h2 : x2.toInt = (V : Int)) : Wc rod (d + 1) 285 [.inr (.inr (.inl (some 84))), .inl x1, .inl x2] h (fun r h' => Keep h h' ∧ (∀ c, c ≠ 97 → h'.1 c = h.1 c) ∧ (pS (pd B (n - 1) c) (n - 1) ≤ V ∧ r = some (.inl 1) ∧ (∀ t, t < n → h'.1 97 t = Int32.ofNat (rowC B V n c t)) ∨ ¬ pS (pd B (n - 1) c) (n - 1) ≤ V ∧ r = some (.inl 0))) := by
  have B0 : 0 < B := by omega
  have e43 : (h.1 84 43).toInt = (n : Int) := by rw [M.2.2.2]; exact hn
  have bl : pS (pd B (n - 1) c) (n - 1) ≤ 200 := by
    have q : ∀ p, pS (pd B (n - 1) c) p ≤ 40 * p := fun p => by
      induction p with
      | zero => exact Nat.le_refl _
      | succ p ih => have := pd_lt (p := n - 1) (q := c) (t := p) B0; rw [pS]; omega
    have := q (n - 1)
    omega
  have tB : (x2 + 1).toInt = (B : Int) := by rw [t_succ h2 (by omega)]; omega
  refine n_Model_isShared ?_
  refine w_Model_isShared_0 L rfl ?_
  have s5 : (h.1 84 43 - 2).toInt = (n : Int) - 2 := by
    rw [i32_sub (by rw [e43]; show _ ≤ _ - (2 : Int); omega) (by rw [e43]; show _ - (2 : Int) ≤ _; omega), e43]
    rfl
  refine Wb.uph (n - 1) (fun k L' g => ∃ (x3 x4 x5 : Int32) (y : Nat), L' = [some (.inr (.inr (.inl (some 84)))), some (.inl x1), some (.inl x2), some (.inl x3), some (.inl x4), some (.inl x5)] ∧ x3.toInt = ((c / B ^ k : Nat) : Int) ∧ x4.toInt = (y : Int) ∧ x5.toInt = ((n - 1 - k : Nat) : Int) - 1 ∧ y + pS (pd B (n - 1) c) (n - 1 - k) = pS (pd B (n - 1) c) (n - 1) ∧ Keep h g ∧ (∀ c, c ≠ 97 → g.1 c = h.1 c) ∧ ∀ t, t < n - 1 → n - 1 - k ≤ t → g.1 97 t = Int32.ofNat (pd B (n - 1) c t)) ?_ (Nat.zero_le _) ⟨_, 0, _, 0, rfl, by rw [Nat.pow_zero, Nat.div_one]; exact h1, rfl, by rw [s5]; omega, by rw [Nat.zero_add]; rfl, Keep.rfl, fun _ _ => rfl, fun t h1 h2 => absurd h1 (by omega)⟩
  rintro k _ g hk ⟨x3, x4, x5, y, rfl, e3, e4, e5, ey, K, gc, g97⟩ ih
  have Lg := L.keep K
  refine w_Model_isShared_13 (fun q => ?_) (fun q => ?_)
  · have kn : n - 1 - k = 0 := by omega
    rw [kn] at ey
    rw [pS, Nat.add_zero] at ey
    have g43 : (g.1 84 43 - 1).toInt = ((n - 1 : Nat) : Int) := by
      rw [gc 84 (by omega)]
      exact n_sub e43 (show (1 : Int32).toInt = ((1 : Nat) : Int) from rfl) (by omega) n1
    refine w_Model_isShared_54 Lg (by omega) ?_
    rw [n_eq g43]
    have KK : Keep h (sI g 97 (n - 1) (x2 - x4)) := K.si (scrI 97 (by omega))
    have cc : ∀ c, c ≠ 97 → (sI g 97 (n - 1) (x2 - x4)).1 c = h.1 c := fun c hc => by rw [sI_cell hc]; exact gc c hc
    refine w_Model_isShared_69 (fun w => ?_) (fun w => ?_)
    · rw [e4, h2] at w
      refine w_Model_isShared_79 ?_
      refine w_Model_isShared_80 (Or.inl rfl) ?_
      exact ⟨KK, cc, Or.inr ⟨by omega, rfl⟩⟩
    · rw [e4, h2] at w
      refine w_Model_isShared_75 ?_
      refine w_Model_isShared_80 (Or.inr rfl) ?_
      refine ⟨KK, cc, Or.inl ⟨by omega, rfl, fun t ht => ?_⟩⟩
      by_cases kc1 : t = n - 1
      · subst kc1
        rw [sI_same, rowC, if_neg (by omega), ← ey]
        exact ofN (n_sub h2 e4 (by omega) (by omega)) (by omega)
      · rw [sI_nj kc1, rowC, if_pos (by omega)]
        exact g97 t (by omega) (by omega)
  · obtain ⟨i, hi⟩ : ∃ i, n - 1 - k = i + 1 := ⟨n - 1 - k - 1, by omega⟩
    rw [hi, pS] at ey
    rw [hi] at e5
    have i5 : x5.toInt = (i : Int) := by omega
    have kc1 : c / B ^ k ≤ c := Nat.div_le_self _ _
    have md := t_modB e3 tB B0 (by omega)
    have pdi : pd B (n - 1) c i = c / B ^ k % B := by rw [pd, show n - 1 - 1 - i = k by omega]
    have lt := Nat.mod_lt (c / B ^ k) B0
    have nz : x2 + 1 ≠ 0 := fun z => by
      rw [z] at tB
      have : (0 : Int) = (B : Int) := tB
      omega
    refine w_Model_isShared_18 Lg nz (by omega) ?_
    rw [n_eq i5]
    refine w_Model_isShared_30 (h := sI g 97 i (x3 - x3 / (x2 + 1) * (x2 + 1))) Lg nz (by omega) ?_
    rw [n_eq i5, sI_same]
    refine ih (by omega) _ _ ⟨_, _, _, y + c / B ^ k % B, rfl, by rw [Nat.pow_succ, ← Nat.div_div_eq_div_mul]; exact t_divB e3 tB B0, n_add e4 md (by omega), by rw [show n - 1 - (k + 1) = i by omega]; exact t_pre e5 (by omega), by rw [show n - 1 - (k + 1) = i by omega, ← pdi]; omega, K.si (scrI 97 (by omega)), fun c hc => by rw [sI_cell hc]; exact gc c hc, fun t t1 t2 => ?_⟩
    by_cases e : t = i
    · subst e
      rw [sI_same, pdi]
      exact ofN md (by omega)
    · rw [sI_nj e]
      exact g97 t t1 (by omega)
def tS (f : Nat → Nat) (s : Nat) : Nat → Nat
  | 0 => 0
  | k + 1 => tS f s k + (if s.testBit k = true then f k else 0)
theorem tS_all {s : Nat} (n4 : n ≤ 4) (hs : s < 2 ^ n) : tS f s n = sS f s := by
  have z : ∀ r, tS f s (n + r) = tS f s n := fun r => by
    induction r with
    | zero => rfl
    | succ r ih =>
      have : ¬ s.testBit (n + r) = true := fun q => by have := tb_lt hs q; omega
      rw [← Nat.add_assoc, tS, if_neg this, ih, Nat.add_zero]
  have e := z (4 - n)
  rw [show n + (4 - n) = 4 by omega] at e
  rw [← e]
  simp only [tS, sS, Nat.zero_add]
theorem r_stands (M : MBarg h a l) (L : Lay h.2) (hn : (h.1 a 0).toInt = (n : Int)) (n1 : 1 ≤ n) (n4 : n ≤ 4) (hW : ∀ s, s < 16 → (h.1 (a + 1) s).toInt = (W s : Int)) (W0 : W 0 = 0) (fl : ∀ t, f t ≤ 40) (hf : ∀ t, t < n → h.1 97 t = Int32.ofNat (f t)) : Wc rod (d + 2) 286 [.inr (.inr (.inl (some 84)))] h (fun r h' => h = h' ∧ ((∀ s, s < 2 ^ n → W s ≤ sS f s) ∧ r = some (.inl 1) ∨ ¬ (∀ s, s < 2 ^ n → W s ≤ sS f s) ∧ r = some (.inl 0))) := by
  have e43 : (h.1 84 43).toInt = (n : Int) := by rw [M.2.2.2]; exact hn
  have ev := (ev_of n1 n4 e43).2
  have n16 : 2 ^ n ≤ 16 := Nat.pow_le_pow_right (n := 2) (by omega) n4
  have t16 := t_nat (n := 2 ^ n) (by omega)
  have p0 := Nat.pow_pos (n := n) (show 0 < 2 by omega)
  refine n_Model_stands ?_
  refine w_Model_stands_0 rfl ?_
  refine Wb.upc (2 ^ n - 1) (fun k L' => ∃ (x1 x2 : Int32) (u3 u4 : Option MV), L' = [some (.inr (.inr (.inl (some 84)))), some (.inl x1), some (.inl x2), u3, u4] ∧ x2.toInt = ((k + 1 : Nat) : Int) ∧ ((x1 = 1 ∧ ∀ s, s < k + 1 → W s ≤ sS f s) ∨ (x1 = 0 ∧ ∃ s, s < 2 ^ n ∧ ¬ W s ≤ sS f s))) ?_ (Nat.zero_le _) ⟨1, 1, _, _, rfl, rfl, Or.inl ⟨rfl, fun s hs => by rw [show s = 0 by omega, W0]; exact Nat.zero_le _⟩⟩
  rintro k _ hk ⟨x1, x2, u3, u4, rfl, h2, hx⟩ ih
  have fin : (x1 = 0 ∨ k + 1 = 2 ^ n) → Wb rod (d + 1) B_Model_stands 83 [some (.inr (.inr (.inl (some 84)))), some (.inl x1), some (.inl x2), u3, u4] [] h (fun r h' => h = h' ∧ ((∀ s, s < 2 ^ n → W s ≤ sS f s) ∧ r = some (.inl 1) ∨ ¬ (∀ s, s < 2 ^ n → W s ≤ sS f s) ∧ r = some (.inl 0))) := by
    intro w
    refine w_Model_stands_83 (by rcases hx with ⟨e, _⟩ | ⟨e, _⟩ <;> simp [e]) ?_
    refine ⟨rfl, ?_⟩
    rcases hx with ⟨e, q⟩ | ⟨e, s, q1, q2⟩
    · left
      have kn : k + 1 = 2 ^ n := by
        rcases w with w | w
        · rw [e] at w; exact absurd w (by decide)
        · exact w
      exact ⟨fun s hs => q s (by omega), by rw [e]⟩
    · right
      exact ⟨fun z => q2 (z s q1), by rw [e]⟩
  refine w_Model_stands_4 L (fun q => ?_) (fun q => ?_)
  · rw [ev, t16, h2] at q
    exact fin (Or.inr (by omega))
  rw [ev, t16, h2] at q
  have o2 := ofN h2 (by omega)
  refine w_Model_stands_14 (fun w => ?_) (fun w => ?_)
  · refine fin (Or.inl (i32_of ?_))
    exact w
  obtain ⟨e1, al⟩ : x1 = 1 ∧ ∀ s, s < k + 1 → W s ≤ sS f s := by
    rcases hx with x | ⟨e, _⟩
    · exact x
    · exact absurd (by rw [e]; rfl) w
  refine w_Model_stands_18 rfl ?_
  refine Wb.upc n (fun i L' => ∃ (x3 x4 : Int32), L' = [some (.inr (.inr (.inl (some 84)))), some (.inl x1), some (.inl x2), some (.inl x3), some (.inl x4)] ∧ x4.toInt = (i : Int) ∧ x3.toInt = (tS f (k + 1) i : Int) ∧ tS f (k + 1) i ≤ 40 * i) ?_ (Nat.zero_le _) ⟨0, 0, rfl, rfl, rfl, Nat.le_refl _⟩
  rintro i _ hi ⟨x3, x4, rfl, h4, h3, tl⟩ ihi
  refine w_Model_stands_23 L (fun z => ?_) (fun z => ?_)
  · rw [e43, h4] at z
    have : i = n := by omega
    subst this
    rw [tS_all n4 (by omega)] at h3
    have wv := hW (k + 1) (by omega)
    refine w_Model_stands_62 L (Tc.wc (s_mworthOf M L x2 (k + 1) h2 (by omega))) (Is.k ?_)
    refine w_Model_stands_68 (fun y => ?_) (fun y => ?_)
    · rw [h3, wv] at y
      refine w_Model_stands_75 ?_
      refine w_Model_stands_76 rfl ?_
      exact ih (by omega) _ ⟨_, _, _, _, rfl, t_succ h2 (by omega), Or.inr ⟨rfl, k + 1, by omega, by omega⟩⟩
    · rw [h3, wv] at y
      refine w_Model_stands_71 ?_
      refine w_Model_stands_76 rfl ?_
      refine ih (by omega) _ ⟨_, _, _, _, rfl, t_succ h2 (by omega), Or.inl ⟨rfl, fun s hs => ?_⟩⟩
      by_cases e : s = k + 1
      · subst e; omega
      · exact al s (by omega)
  · rw [e43, h4] at z
    have b := (bt (s := k + 1) (i := i) (by omega) (by omega)).1
    have o4 := ofN h4 (by omega)
    have fi := fl i
    have go : ∀ y : Nat, (y = if (k + 1).testBit i = true then f i else 0) → Wb rod (d + 1) B_Model_stands 54 [some (.inr (.inr (.inl (some 84)))), some (.inl x1), some (.inl x2), some (.inl x3), some (.inl x4)] [.inl (Int32.ofNat y), .inl x3] h (fun r h' => h = h' ∧ ((∀ s, s < 2 ^ n → W s ≤ sS f s) ∧ r = some (.inl 1) ∨ ¬ (∀ s, s < 2 ^ n → W s ≤ sS f s) ∧ r = some (.inl 0))) := by
      intro y ey
      have yl : y ≤ 40 := by rw [ey]; split <;> omega
      refine w_Model_stands_54 rfl ?_
      refine ihi (by omega) _ ⟨_, _, rfl, t_succ h4 (by omega), ?_, by rw [tS, ← ey]; omega⟩
      rw [tS, ← ey]
      exact n_add h3 (t_nat (by omega)) (by omega)
    refine w_Model_stands_32 (fun y => ?_) (fun y => ?_)
    · rw [o2, o4, b] at y
      refine w_Model_stands_53 ?_
      refine go 0 ?_
      by_cases tb : (k + 1).testBit i = true
      · rw [if_pos tb] at y
        exact absurd rfl y
      · rw [if_neg tb]
    · rw [o2, o4, b] at y
      refine w_Model_stands_43 L (by omega) ?_
      rw [n_eq h4, hf i (by omega)]
      refine go (f i) ?_
      by_cases tb : (k + 1).testBit i = true
      · rw [if_pos tb]
      · rw [if_neg tb] at y
        first | exact absurd y (by decide) | exact absurd (by decide) y
theorem fstN_mono {ok : Nat → Bool} {N c : Nat} (e : fstN ok N = some c) : ∀ r, fstN ok (N + r) = some c := by
  intro r
  induction r with
  | zero => exact e
  | succ r ih => rw [← Nat.add_assoc, fstN, ih]
end M88
