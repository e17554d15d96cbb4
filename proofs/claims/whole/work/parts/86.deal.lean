/-! ROWS OF SHARES: the class deals -/
section M86
variable {rod : Nat → Nat × (Nat → Int32)} {d : Nat} {h : MH} {a n B V : Nat} {W f g : Nat → Nat}
def EnvB (h : MH) (a n : Nat) (W : Nat → Nat) : Prop := BargA h.2 a ∧ (h.1 a 0).toInt = (n : Int) ∧ ∀ s, s < 16 → (h.1 (a + 1) s).toInt = (W s : Int)
theorem EnvB.keep {g : MH} (E : EnvB h a n W) (ha : a + 2 ≤ 45) (K : Keep h g) : EnvB g a n W := ⟨K.1.symm ▸ E.1, by rw [K.c a (by omega)]; exact E.2.1, fun s hs => by rw [K.c (a + 1) (by omega)]; exact E.2.2 s hs⟩
/-- parties below p have theirs, and no set of them has less than it is worth -/
def PreD (h : MH) (W : Nat → Nat) (B V p q left : Nat) : Prop := (∀ t, t < p → h.1 79 t = Int32.ofNat (pd B p q t)) ∧ (∀ s, s < 2 ^ p → h.1 81 s = Int32.ofNat (sS (pd B p q) s)) ∧ (∀ s, s < 2 ^ p → W s ≤ sS (pd B p q) s) ∧ pS (pd B p q) p + left = V
/-- what is found below row N -/
def FU (h : MH) (W : Nat → Nat) (B V n N : Nat) : Prop := h.1 78 0 = Int32.ofNat (cntN (okb W B V n) N) ∧ ∀ c, fstN (okb W B V n) N = some c → ∀ t, t < n → h.1 80 t = Int32.ofNat (rowC B V n c t)
theorem FU.skip {N N' : Nat} (x : FU h W B V n N) (le : N ≤ N') (q : ∀ c, N ≤ c → c < N' → okb W B V n c = false) : FU h W B V n N' := by
  have z := str_none le q
  exact ⟨by rw [z.1]; exact x.1, fun c e => x.2 c (by rw [← z.2]; exact e)⟩
theorem row_pre {p r c t : Nat} (hn : n = p + 1 + r) (ht : t < p) : rowC B V n c t = pd B p (c / B ^ r) t := by
  rw [rowC, if_pos (by omega), show n - 1 = p + r by omega, pd_pre r ht]
theorem dead {p j q c i left least : Nat} (hB : 0 < B) (p2 : p ≤ 2) (hn : p + 2 + j = n) (e : c / B ^ j = q * B + i) (hi : i < B) (sm : pS (pd B p q) p + left = V) (lv : ∀ v, least ≤ v ↔ ∀ s, s < 2 ^ p → W (s ||| 2 ^ p) ≤ sS (pd B p q) s + v) (w : i < least ∨ left < i) : okb W B V n c = false := by
  cases hb : okb W B V n c with
  | false => rfl
  | true =>
    exfalso
    obtain ⟨o1, o2⟩ := okb_iff.mp hb
    have dg : ∀ t, t < p → pd B (n - 1) c t = pd B p q t := fun t ht => by
      rw [show n - 1 = (p + 1) + j by omega, pd_pre j (by omega), e, pd_one hB hi ht]
    have dp : pd B (n - 1) c p = i := by rw [show n - 1 = (p + 1) + j by omega, pd_pre j (by omega), e, pd_last hi]
    rcases w with w | w
    · have : least ≤ i := (lv i).mpr (fun s hs => by
        have bb := bits_at (show p < 4 by omega) hs
        have lt : 2 ^ p + s < 2 ^ n := Nat.lt_of_lt_of_le (show 2 ^ p + s < 2 ^ (p + 1) by rw [Nat.pow_succ]; omega) (Nat.pow_le_pow_right (by omega) (by omega))
        have x := o2 (2 ^ p + s) lt
        rw [sS_add (by omega) hs, sS_congr (g := pd B p q) (fun t ht => by
          have := tb_lt hs ht
          rw [rowC, if_pos (by omega), dg t this])] at x
        rw [bb.1]
        rw [show rowC B V n c p = i by rw [rowC, if_pos (by omega)]; exact dp] at x
        exact x)
      omega
    · have x := pS_le (f := pd B (n - 1) c) (p := p + 1) j
      rw [show p + 1 + j = n - 1 by omega, pS, pS_congr dg, dp] at x
      omega
theorem last_iff {p q i left least l2 l3 : Nat} (hB : 0 < B) (p2 : p ≤ 2) (hn : p + 2 = n) (hi : i < B) (sm : pS (pd B p q) p + left = V) (vd : ∀ s, s < 2 ^ p → W s ≤ sS (pd B p q) s) (lv : ∀ v, least ≤ v ↔ ∀ s, s < 2 ^ p → W (s ||| 2 ^ p) ≤ sS (pd B p q) s + v) (lv2 : ∀ v, l2 ≤ v ↔ ∀ s, s < 2 ^ p → W (s ||| 2 ^ (p + 1)) ≤ sS (pd B p q) s + v) (lv3 : ∀ v, l3 ≤ v ↔ ∀ s, s < 2 ^ p → W (s ||| (2 ^ p ||| 2 ^ (p + 1))) ≤ sS (pd B p q) s + v) : okb W B V n (q * B + i) = true ↔ i ≤ left ∧ least ≤ i ∧ l2 ≤ left - i ∧ l3 ≤ left := by
  subst hn
  have e1 : pS (pd B (p + 1) (q * B + i)) (p + 1) = pS (pd B p q) p + i := by
    rw [pS, pS_congr (g := pd B p q) (fun t ht => pd_one hB hi ht), pd_last hi]
  have r0 : ∀ t, t < p → rowC B V (p + 2) (q * B + i) t = pd B p q t := fun t ht => by
    rw [rowC, if_pos (by omega), show p + 2 - 1 = p + 1 by omega, pd_one hB hi ht]
  have r1 : rowC B V (p + 2) (q * B + i) p = i := by rw [rowC, if_pos (by omega), show p + 2 - 1 = p + 1 by omega, pd_last hi]
  have r2 : rowC B V (p + 2) (q * B + i) (p + 1) = left - i := by
    rw [rowC, if_neg (by omega), show p + 2 - 1 = p + 1 by omega, e1]
    omega
  have s0 : ∀ s, s < 2 ^ p → sS (rowC B V (p + 2) (q * B + i)) s = sS (pd B p q) s := fun s hs => sS_congr (fun t ht => r0 t (tb_lt hs ht))
  have w2 : 2 ^ (p + 1) = 2 ^ p * 2 := Nat.pow_succ ..
  have w3 : 2 ^ (p + 2) = 2 ^ p * 4 := by rw [Nat.pow_add]
  have s1 : ∀ s, s < 2 ^ p → sS (rowC B V (p + 2) (q * B + i)) (2 ^ p + s) = sS (pd B p q) s + i := fun s hs => by rw [sS_add (by omega) hs, s0 s hs, r1]
  have s2 : ∀ s, s < 2 ^ p → sS (rowC B V (p + 2) (q * B + i)) (2 ^ (p + 1) + s) = sS (pd B p q) s + (left - i) := fun s hs => by rw [sS_add (by omega) (by omega), s0 s hs, r2]
  have s3 : ∀ s, s < 2 ^ p → sS (rowC B V (p + 2) (q * B + i)) (2 ^ (p + 1) + (2 ^ p + s)) = sS (pd B p q) s + i + (left - i) := fun s hs => by rw [sS_add (by omega) (by omega), s1 s hs, r2]
  have b1 : ∀ s, s < 2 ^ p → s ||| 2 ^ p = 2 ^ p + s := fun s hs => (bits_at (by omega) hs).1
  have b2 : ∀ s, s < 2 ^ p → s ||| 2 ^ (p + 1) = 2 ^ (p + 1) + s := fun s hs => (bits_at (show p + 1 < 4 by omega) (by omega)).1
  have b3 : ∀ s, s < 2 ^ p → s ||| (2 ^ p ||| 2 ^ (p + 1)) = 2 ^ (p + 1) + (2 ^ p + s) := fun s hs => by
    rw [← Nat.or_assoc, b1 s hs]
    exact (bits_at (show p + 1 < 4 by omega) (by omega)).1
  rw [okb_iff, show p + 2 - 1 = p + 1 by omega, e1]
  constructor
  · rintro ⟨o1, o2⟩
    refine ⟨by omega, (lv i).mpr (fun s hs => ?_), (lv2 _).mpr (fun s hs => ?_), (lv3 _).mpr (fun s hs => ?_)⟩
    · rw [b1 s hs, ← s1 s hs]; exact o2 _ (by omega)
    · rw [b2 s hs, ← s2 s hs]; exact o2 _ (by omega)
    · have := o2 (2 ^ (p + 1) + (2 ^ p + s)) (by omega)
      rw [s3 s hs] at this
      rw [b3 s hs]
      omega
  · rintro ⟨k1, k2, k3, k4⟩
    refine ⟨by omega, fun s hs => ?_⟩
    have a1 := (lv i).mp k2
    have a2 := (lv2 _).mp k3
    have a3 := (lv3 _).mp k4
    by_cases kc1 : s < 2 ^ p
    · rw [s0 s kc1]; exact vd s kc1
    · by_cases kc2 : s < 2 ^ (p + 1)
      · obtain ⟨u, rfl⟩ : ∃ u, s = 2 ^ p + u := ⟨s - 2 ^ p, by omega⟩
        have := a1 u (by omega)
        rw [b1 u (by omega)] at this
        rw [s1 u (by omega)]
        exact this
      · by_cases kc3 : s < 2 ^ (p + 1) + 2 ^ p
        · obtain ⟨u, rfl⟩ : ∃ u, s = 2 ^ (p + 1) + u := ⟨s - 2 ^ (p + 1), by omega⟩
          have := a2 u (by omega)
          rw [b2 u (by omega)] at this
          rw [s2 u (by omega)]
          exact this
        · obtain ⟨u, rfl⟩ : ∃ u, s = 2 ^ (p + 1) + (2 ^ p + u) := ⟨s - 2 ^ (p + 1) - 2 ^ p, by omega⟩
          have := a3 u (by omega)
          rw [b3 u (by omega)] at this
          rw [s3 u (by omega)]
          omega
theorem PreD.of {g : MH} {p q left : Nat} (P : PreD h W B V p q left) (e9 : g.1 79 = h.1 79) (e1 : g.1 81 = h.1 81) : PreD g W B V p q left := ⟨fun t ht => by rw [e9]; exact P.1 t ht, fun s hs => by rw [e1]; exact P.2.1 s hs, P.2.2⟩
theorem FU.of {g : MH} {N : Nat} (x : FU h W B V n N) (e8 : g.1 78 = h.1 78) (e0 : g.1 80 = h.1 80) : FU g W B V n N := ⟨by rw [e8]; exact x.1, fun c e t ht => by rw [e0]; exact x.2 c e t ht⟩
theorem c_last2 (E : EnvB h a n W) (L : Lay h.2) (ha : a + 2 ≤ 45) (W4 : ∀ s, s < 16 → W s ≤ 40) (hB : B = V + 1) (V4 : V ≤ 40) {p q left least : Nat} (p2 : p ≤ 2) (hn : p + 2 = n) (qb : q < 1681) (P : PreD h W B V p q left) (F : FU h W B V n (q * B)) (ll : least ≤ 40) (lv : ∀ v, least ≤ v ↔ ∀ s, s < 2 ^ p → W (s ||| 2 ^ p) ≤ sS (pd B p q) s + v) (x2 x4 : Int32) (h2 : x2 = Int32.ofNat p) (h4 : x4.toInt = (left : Int)) : Wc rod (d + 3) 136 [.inr (.inr (.inl (some 78))), .inr (.inr (.inl (some a))), .inl x2, .inl (Int32.ofNat least), .inl x4] h (fun r h' => r = none ∧ Keep h h' ∧ PreD h' W B V p q left ∧ FU h' W B V n (q * B + B)) := by
  have B0 : 0 < B := by omega
  have lV : left ≤ V := by have := P.2.2.2; omega
  have fl : ∀ s, sS (pd B p q) s ≤ 200 := fun s => by
    have := sS_le (f := pd B p q) (s := s) (v := 40) (fun t => by have := pd_lt (p := p) (q := q) (t := t) B0; omega)
    omega
  have tl := t_nat (n := least) (by omega)
  have e2 : x2.toInt = (p : Int) := by rw [h2]; exact t_nat (by omega)
  have x5 : x2 + 1 = Int32.ofNat (p + 1) := ofN (t_succ e2 (by omega)) (by omega)
  have b0 := (bt (s := 0) (by omega) (show p < 4 by omega)).2.1
  have b1 := (bt (s := 0) (by omega) (show p + 1 < 4 by omega)).2.1
  have q0 : 2 ^ p < 16 := Nat.lt_of_lt_of_le (Nat.pow_lt_pow_right (by omega) (show p < 3 by omega)) (by decide)
  have q1 : 2 ^ (p + 1) < 16 := Nat.lt_of_lt_of_le (Nat.pow_lt_pow_right (by omega) (show p + 1 < 4 by omega)) (by decide)
  have oo := or16 q0 q1
  refine n_Sharing_dealToLastTwo ?_
  refine w_Sharing_dealToLastTwo_0 L (Q1 := fun r g => ∃ m, h = g ∧ r = some (.inl (Int32.ofNat m)) ∧ m ≤ 40 ∧ ∀ v, m ≤ v ↔ ∀ s, s < 2 ^ p → W (s ||| 2 ^ (p + 1)) ≤ sS (pd B p q) s + v) ?_ ?_
  · rw [x5, b1]
    refine (c_least E.1 L E.2.2 W4 p2 q1 P.2.1 fl x2 h2).imp ?_
    rintro r g ⟨rfl, m, e, m1, m2⟩
    exact ⟨m, rfl, e, m1, m2⟩
  rintro _ _ ⟨l2, rfl, rfl, l24, lv2⟩
  have t2 := t_nat (n := l2) (by omega)
  have ms : (x4 - Int32.ofNat l2).toInt = (left : Int) - (l2 : Int) := by rw [i32_sub (by rw [h4, t2]; omega) (by rw [h4, t2]; omega), h4, t2]
  refine w_Sharing_dealToLastTwo_17 L (Q1 := fun r g => ∃ m, h = g ∧ r = some (.inl (Int32.ofNat m)) ∧ m ≤ 40 ∧ ∀ v, m ≤ v ↔ ∀ s, s < 2 ^ p → W (s ||| (2 ^ p ||| 2 ^ (p + 1))) ≤ sS (pd B p q) s + v) ?_ ?_
  · rw [x5, b1, h2, b0, oo.1]
    refine (c_least E.1 L E.2.2 W4 p2 oo.2 P.2.1 fl _ rfl).imp ?_
    rintro r g ⟨rfl, m, e, m1, m2⟩
    exact ⟨m, rfl, e, m1, m2⟩
  rintro _ _ ⟨l3, rfl, rfl, l34, lv3⟩
  have t3 := t_nat (n := l3) (by omega)
  have iff := fun i (hi : i < B) => last_iff (i := i) B0 p2 hn hi P.2.2.2 P.2.2.1 lv lv2 lv3
  have none_ : ¬ (l3 ≤ left ∧ least + l2 ≤ left) → ∀ u0 u1 u2 u3 u4 u5 u6 u7, Wb rod (d + 2) B_Sharing_dealToLastTwo 85 [u0, u1, u2, u3, u4, u5, u6, u7] [] h (fun r h' => r = none ∧ Keep h h' ∧ PreD h' W B V p q left ∧ FU h' W B V n (q * B + B)) := by
    intro no u0 u1 u2 u3 u4 u5 u6 u7
    refine w_Sharing_dealToLastTwo_85 ?_
    refine ⟨rfl, Keep.rfl, P, F.skip (by omega) (fun c kc1 kc2 => ?_)⟩
    obtain ⟨i, rfl⟩ : ∃ i, c = q * B + i := ⟨c - q * B, by omega⟩
    cases hb : okb W B V n (q * B + i) with
    | false => rfl
    | true =>
      have := (iff i (by omega)).mp hb
      omega
  refine w_Sharing_dealToLastTwo_34 (fun c => ?_) (fun c => ?_)
  · rw [t3, h4] at c
    refine w_Sharing_dealToLastTwo_43 ?_
    refine w_Sharing_dealToLastTwo_44 rfl (fun _ => none_ (by omega) _ _ _ _ _ _ _ _) (fun q => absurd (by decide) q)
  · rw [t3, h4] at c
    refine w_Sharing_dealToLastTwo_39 ?_
    refine w_Sharing_dealToLastTwo_44 rfl (fun q => absurd q (by decide)) (fun _ => ?_)
    refine w_Sharing_dealToLastTwo_51 (fun w => ?_) (fun w => ?_)
    · rw [tl, ms] at w
      exact none_ (by omega) _ _ _ _ _ _ _ _
    · rw [tl, ms] at w
      have ex2 := n_eq e2
      refine w_Sharing_dealToLastTwo_57 L (by omega) ?_
      rw [ex2]
      have t5 : (x2 + 1).toInt = ((p + 1 : Nat) : Int) := t_succ e2 (by omega)
      refine w_Sharing_dealToLastTwo_64 (h := sI h 79 p (Int32.ofNat least)) L (by omega) ?_
      rw [n_eq t5]
      have ls : x4 - Int32.ofNat least = Int32.ofNat (left - least) := ofN (n_sub h4 tl (by omega) (by omega)) (by omega)
      rw [ls]
      have m1 : x4 - Int32.ofNat l2 = Int32.ofNat (left - l2) := ofN (n_sub h4 t2 (by omega) (by omega)) (by omega)
      have more : x4 - Int32.ofNat l2 - Int32.ofNat least + 1 = Int32.ofNat (left - l2 + 1 - least) := by
        rw [m1]
        refine ofN ?_ (by omega)
        have y1 := n_sub (t_nat (n := left - l2) (by omega)) tl (by omega) (by omega)
        have y2 := t_succ y1 (by omega)
        rw [y2]
        omega
      have L2 : Lay (sI (sI h 79 p (Int32.ofNat least)) 79 (p + 1) (Int32.ofNat (left - least))).2 := L
      refine w_Sharing_dealToLastTwo_75 L2 (c_count L2 _) ?_
      rintro _ g ⟨rfl, Kg, g79, g81, g78, ga, gb⟩
      rw [sI_cell (by omega), sI_cell (by omega), more] at g78
      rw [sI_cell (b := 78) (by omega), sI_cell (b := 78) (by omega)] at ga gb
      refine w_Sharing_dealToLastTwo_85 ?_
      have K1 : Keep h g := ((Keep.rfl.si (scrI 79 (by omega))).si (scrI 79 (by omega))).trans Kg
      have st := str_all (ok := okb W B V n) (lo := least) (hi := left - l2) (b := q * B) B (fun i hi => by
        have y := iff i hi
        by_cases z : least ≤ i ∧ i ≤ left - l2
        · rw [y.mpr (by omega)]; exact (decide_eq_true z).symm
        · rw [decide_eq_false z]
          cases hb : okb W B V n (q * B + i) with
          | false => rfl
          | true => have := y.mp hb; omega)
      have cl := cntN_le (ok := okb W B V n) (q * B)
      have qB : q * B ≤ 1681 * 41 := Nat.mul_le_mul (by omega) (by omega)
      have tc := t_nat (n := cntN (okb W B V n) (q * B)) (by omega)
      refine ⟨rfl, K1, ⟨fun t ht => by rw [g79, sI_nj (by omega), sI_nj (by omega)]; exact P.1 t ht, fun s hs => by rw [g81, sI_cell (by omega), sI_cell (by omega)]; exact P.2.1 s hs, P.2.2⟩, ?_, fun c e => ?_⟩
      · rw [g78, F.1, st.1]
        refine ofN ?_ (by omega)
        rw [n_add tc (t_nat (n := left - l2 + 1 - least) (by omega)) (by omega)]
        omega
      · rw [st.2] at e
        rw [F.1, tc] at ga gb
        cases hf : fstN (okb W B V n) (q * B) with
        | some kc0 =>
          rw [hf] at e
          cases e
          have ne : ¬ ((cntN (okb W B V n) (q * B) : Int) = 0) := fun z => by
            have := (fstN_none (ok := okb W B V n) (q * B)).mpr (by omega)
            rw [hf] at this
            exact nomatch this
          rw [gb ne, sI_cell (by omega), sI_cell (by omega)]
          exact F.2 _ hf
        | none =>
          rw [hf] at e
          have e' : (if least < B ∧ least ≤ left - l2 then some (q * B + least) else none) = some c := e
          rw [if_pos (by omega)] at e'
          cases e'
          have z0 := (fstN_none (ok := okb W B V n) (q * B)).mp hf
          intro t ht
          rw [ga (by omega) t (by omega)]
          by_cases kc1 : t = p + 1
          · subst kc1
            rw [sI_same, rowC, if_neg (by omega), show n - 1 = p + 1 by omega, pS, pS_congr (g := pd B p q) (fun t ht => pd_one B0 (by omega) ht), pd_last (by omega)]
            congr 1
            have := P.2.2.2
            omega
          · by_cases kc2 : t = p
            · subst kc2
              rw [sI_nj (by omega), sI_same, rowC, if_pos (by omega), show n - 1 = t + 1 by omega, pd_last (by omega)]
            · rw [sI_nj (by omega), sI_nj (by omega), P.1 t (by omega), rowC, if_pos (by omega), show n - 1 = p + 1 by omega, pd_one B0 (by omega) (by omega)]
end M86
