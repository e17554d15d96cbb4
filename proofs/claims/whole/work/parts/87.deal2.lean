/-! ROWS OF SHARES: the class deals to all -/
section M87
variable {rod : Nat → Nat × (Nat → Int32)} {d : Nat} {h : MH} {a n B V : Nat} {W f g : Nat → Nat}
theorem PreD.up {g g' : MH} {p q left i : Nat} (B0 : 0 < B) (p2 : p ≤ 1) (P : PreD g W B V p q left) (hi : i < B) (il : i ≤ left) (ok : ∀ s, s < 2 ^ p → W (s ||| 2 ^ p) ≤ sS (pd B p q) s + i) (r0 : ∀ t, t < p → g'.1 79 t = g.1 79 t) (r1 : g'.1 79 p = Int32.ofNat i) (su : ∀ s, s < 2 ^ p → g'.1 81 s = Int32.ofNat (sS (pd B p q) s) ∧ g'.1 81 (2 ^ p + s) = Int32.ofNat (sS (pd B p q) s + i)) : PreD g' W B V (p + 1) (q * B + i) (left - i) := by
  have sp : ∀ s, s < 2 ^ p → sS (pd B (p + 1) (q * B + i)) s = sS (pd B p q) s := fun s hs => sS_congr (fun t ht => pd_one B0 hi (tb_lt hs ht))
  have sq : ∀ s, s < 2 ^ p → sS (pd B (p + 1) (q * B + i)) (2 ^ p + s) = sS (pd B p q) s + i := fun s hs => by rw [sS_add (by omega) hs, sp s hs, pd_last hi]
  have w2 : 2 ^ (p + 1) = 2 ^ p * 2 := Nat.pow_succ ..
  refine ⟨fun t ht => ?_, fun s hs => ?_, fun s hs => ?_, ?_⟩
  · by_cases c : t = p
    · subst c; rw [r1, pd_last hi]
    · rw [r0 t (by omega), P.1 t (by omega), pd_one B0 hi (by omega)]
  · by_cases c : s < 2 ^ p
    · rw [(su s c).1, sp s c]
    · obtain ⟨u, rfl⟩ : ∃ u, s = 2 ^ p + u := ⟨s - 2 ^ p, by omega⟩
      rw [(su u (by omega)).2, sq u (by omega)]
  · by_cases c : s < 2 ^ p
    · rw [sp s c]; exact P.2.2.1 s c
    · obtain ⟨u, rfl⟩ : ∃ u, s = 2 ^ p + u := ⟨s - 2 ^ p, by omega⟩
      have := ok u (by omega)
      rw [(bits_at (show p < 4 by omega) (show u < 2 ^ p by omega)).1] at this
      rw [sq u (by omega)]
      exact this
  · have := P.2.2.2
    rw [pS, pS_congr (g := pd B p q) (fun t ht => pd_one B0 hi ht), pd_last hi]
    omega
theorem PreD.down {g : MH} {h0 : MH} {p q left left' i : Nat} (B0 : 0 < B) (P : PreD h0 W B V p q left) (hi : i < B) (Q : PreD g W B V (p + 1) (q * B + i) left') : PreD g W B V p q left := by
  have w2 : 2 ^ (p + 1) = 2 ^ p * 2 := Nat.pow_succ ..
  refine ⟨fun t ht => by rw [Q.1 t (by omega), pd_one B0 hi ht], fun s hs => ?_, P.2.2⟩
  rw [Q.2.1 s (by omega), sS_congr (fun t ht => pd_one B0 hi (tb_lt hs ht))]
theorem c_deal (ha : a + 2 ≤ 45) (W4 : ∀ s, s < 16 → W s ≤ 40) (hB : B = V + 1) (V4 : V ≤ 40) (n4 : n ≤ 4) : ∀ (j p q left : Nat) (h : MH) (x3 : Int32), p + 2 + j = n → Lay h.2 → EnvB h a n W → PreD h W B V p q left → q < B ^ p → FU h W B V n (q * B ^ (j + 1)) → x3.toInt = (left : Int) → Wc rod (d + j + 4) 133 [.inr (.inr (.inl (some 78))), .inr (.inr (.inl (some a))), .inl (Int32.ofNat p), .inl x3] h (fun r h' => r = none ∧ Keep h h' ∧ PreD h' W B V p q left ∧ FU h' W B V n ((q + 1) * B ^ (j + 1))) := by
  have B0 : 0 < B := by omega
  intro j
  induction j with
  | zero =>
    intro p q left h x3 hn L E P qB F h3
    have p2 : p ≤ 2 := by omega
    have tp := t_nat (n := p) (by omega)
    have ep := n_eq tp
    have b0 := (bt (s := 0) (by omega) (show p < 4 by omega)).2.1
    have q0 : 2 ^ p < 16 := Nat.lt_of_lt_of_le (Nat.pow_lt_pow_right (by omega) (show p < 3 by omega)) (by decide)
    have fl : ∀ s, sS (pd B p q) s ≤ 200 := fun s => by
      have := sS_le (f := pd B p q) (s := s) (v := 40) (fun t => by have := pd_lt (p := p) (q := q) (t := t) B0; omega)
      omega
    refine n_Sharing_deal ?_
    refine w_Sharing_deal_0 E.1 (Tc.wc (s_hasParty E.1 _)) (Is.k ?_)
    rw [if_pos (by rw [E.2.1, t_succ tp (by omega)]; omega)]
    refine w_Sharing_deal_7 (fun _ => ?_) (fun q => absurd q (by decide))
    refine w_Sharing_deal_11 L (Q1 := fun r g => ∃ m, h = g ∧ r = some (.inl (Int32.ofNat m)) ∧ m ≤ 40 ∧ ∀ v, m ≤ v ↔ ∀ s, s < 2 ^ p → W (s ||| 2 ^ p) ≤ sS (pd B p q) s + v) ?_ ?_
    · rw [b0]
      refine (c_least E.1 L E.2.2 W4 p2 q0 P.2.1 fl _ rfl).imp ?_
      rintro r g ⟨rfl, m, e, m1, m2⟩
      exact ⟨m, rfl, e, m1, m2⟩
    rintro _ _ ⟨least, rfl, rfl, ll, lv⟩
    have tl := t_nat (n := least) (by omega)
    have t2 : (Int32.ofNat p + 2).toInt = ((p + 2 : Nat) : Int) := n_add tp (show (2 : Int32).toInt = ((2 : Nat) : Int) from rfl) (by omega)
    refine w_Sharing_deal_20 E.1 rfl (fun c => ?_) (fun c => ?_)
    · exfalso
      rw [t2, E.2.1] at c
      omega
    · rw [Nat.zero_add, Nat.pow_one] at F ⊢
      have qb : q < 1681 := Nat.lt_of_lt_of_le qB (Nat.le_trans (Nat.pow_le_pow_left (show B ≤ 41 by omega) p) (Nat.le_trans (Nat.pow_le_pow_right (by omega) (show p ≤ 2 by omega)) (by decide)))
      refine w_Sharing_deal_32 L (c_last2 E L ha W4 hB V4 (by omega) (by omega) qb P F ll lv _ _ rfl h3) ?_
      rintro _ g ⟨rfl, K, Pg, Fg⟩
      refine w_Sharing_deal_41 ?_
      exact ⟨rfl, K, Pg, by rw [Nat.add_mul, Nat.one_mul]; exact Fg⟩
  | succ j ihj =>
    intro p q left h x3 hn L E P qB F h3
    have p2 : p ≤ 2 := by omega
    have tp := t_nat (n := p) (by omega)
    have ep := n_eq tp
    have b0 := (bt (s := 0) (by omega) (show p < 4 by omega)).2.1
    have q0 : 2 ^ p < 16 := Nat.lt_of_lt_of_le (Nat.pow_lt_pow_right (by omega) (show p < 3 by omega)) (by decide)
    have fl : ∀ s, sS (pd B p q) s ≤ 200 := fun s => by
      have := sS_le (f := pd B p q) (s := s) (v := 40) (fun t => by have := pd_lt (p := p) (q := q) (t := t) B0; omega)
      omega
    refine n_Sharing_deal ?_
    refine w_Sharing_deal_0 E.1 (Tc.wc (s_hasParty E.1 _)) (Is.k ?_)
    rw [if_pos (by rw [E.2.1, t_succ tp (by omega)]; omega)]
    refine w_Sharing_deal_7 (fun _ => ?_) (fun q => absurd q (by decide))
    refine w_Sharing_deal_11 L (Q1 := fun r g => ∃ m, h = g ∧ r = some (.inl (Int32.ofNat m)) ∧ m ≤ 40 ∧ ∀ v, m ≤ v ↔ ∀ s, s < 2 ^ p → W (s ||| 2 ^ p) ≤ sS (pd B p q) s + v) ?_ ?_
    · rw [b0]
      refine (c_least E.1 L E.2.2 W4 p2 q0 P.2.1 fl _ rfl).imp ?_
      rintro r g ⟨rfl, m, e, m1, m2⟩
      exact ⟨m, rfl, e, m1, m2⟩
    rintro _ _ ⟨least, rfl, rfl, ll, lv⟩
    have tl := t_nat (n := least) (by omega)
    have t2 : (Int32.ofNat p + 2).toInt = ((p + 2 : Nat) : Int) := n_add tp (show (2 : Int32).toInt = ((2 : Nat) : Int) from rfl) (by omega)
    refine w_Sharing_deal_20 E.1 rfl (fun c => ?_) (fun c => ?_)
    · have lV : left ≤ V := by have := P.2.2.2; omega
      have e1 : ∀ i, (q * B + i) * B ^ (j + 1) ≤ (q * B + i + 1) * B ^ (j + 1) := fun i => Nat.mul_le_mul_right _ (by omega)
      have eA : q * B ^ (j + 1 + 1) = (q * B + 0) * B ^ (j + 1) := by rw [Nat.pow_succ B (j + 1), Nat.mul_comm (B ^ (j + 1)) B, ← Nat.mul_assoc, Nat.add_zero (q * B)]
      have eB : (q + 1) * B ^ (j + 1 + 1) = (q * B + B) * B ^ (j + 1) := by rw [Nat.pow_succ B (j + 1), Nat.mul_comm (B ^ (j + 1)) B, ← Nat.mul_assoc, Nat.add_mul q 1 B, Nat.one_mul]
      have pj := Nat.pow_pos (n := j + 1) B0
      have skip : ∀ (g : MH) (lo hi : Nat), lo ≤ hi → hi ≤ B → (∀ i, lo ≤ i → i < hi → i < least ∨ left < i) → FU g W B V n ((q * B + lo) * B ^ (j + 1)) → FU g W B V n ((q * B + hi) * B ^ (j + 1)) := by
        intro g lo hi lh hB2 w G
        refine G.skip (Nat.mul_le_mul_right _ (by omega)) (fun c kc1 kc2 => ?_)
        have d1 := (Nat.le_div_iff_mul_le pj).mpr kc1
        have d2 := (Nat.div_lt_iff_lt_mul pj).mpr kc2
        obtain ⟨i, hi⟩ : ∃ i, c / B ^ (j + 1) = q * B + i := ⟨c / B ^ (j + 1) - q * B, by omega⟩
        exact dead (j := j + 1) B0 (by omega) (by omega) hi (by omega) P.2.2.2 lv (w i (by omega) (by omega))
      rw [eA] at F
      rw [eB]
      refine w_Sharing_deal_42 ?_
      by_cases le : least ≤ left
      · refine Wb.uph (left + 1 - least) (fun k L' g => ∃ (x5 : Int32), L' = [some (.inr (.inr (.inl (some 78)))), some (.inr (.inr (.inl (some a)))), some (.inl (Int32.ofNat p)), some (.inl x3), some (.inl (Int32.ofNat least)), some (.inl x5)] ∧ x5.toInt = ((least + k : Nat) : Int) ∧ Keep h g ∧ PreD g W B V p q left ∧ FU g W B V n ((q * B + (least + k)) * B ^ (j + 1))) ?_ (Nat.zero_le _) ⟨_, rfl, tl, Keep.rfl, P, skip h 0 least (by omega) (by omega) (fun i _ hi => Or.inl hi) F⟩
        rintro k _ g hk ⟨x5, rfl, h5, K, Pg, Fg⟩ ih
        have Lg := L.keep K
        refine w_Sharing_deal_46 (fun kc2 => ?_) (fun kc2 => ?_)
        · rw [h3, h5] at kc2
          refine w_Sharing_deal_85 ?_
          exact ⟨rfl, K, Pg, skip g (least + k) B (by omega) (Nat.le_refl _) (fun i hi _ => Or.inr (by omega)) Fg⟩
        · rw [h3, h5] at kc2
          have iB : least + k < B := by omega
          refine w_Sharing_deal_52 Lg (by omega) ?_
          rw [ep]
          have L1 : Lay (sI g 79 p x5).2 := Lg
          refine w_Sharing_deal_60 (h := sI g 79 p x5) L1 (c_give L1 (show p ≤ 2 by omega) (fun s hs => by rw [sI_cell (by omega)]; exact Pg.2.1 s hs) fl (v := least + k) (by omega) _ _ rfl h5) ?_
          rintro _ g2 ⟨rfl, K2, g2c, g2s⟩
          have KK : Keep h g2 := (K.si (scrI 79 (by omega))).trans K2
          have P2 : PreD g2 W B V (p + 1) (q * B + (least + k)) (left - (least + k)) := PreD.up B0 (by omega) Pg iB (by omega) ((lv _).mp (by omega)) (fun t ht => by rw [g2c 79 (by omega), sI_nj (by omega)]) (by rw [g2c 79 (by omega), sI_same]; exact ofN h5 (by omega)) g2s
          have L2 := L.keep KK
          have ps : Int32.ofNat p + 1 = Int32.ofNat (p + 1) := ofN (t_succ tp (by omega)) (by omega)
          refine w_Sharing_deal_67 L2 (by rw [ps]; exact ihj (p + 1) (q * B + (least + k)) (left - (least + k)) g2 _ (by omega) L2 (E.keep ha KK) P2 (by rw [Nat.pow_succ]; exact Nat.lt_of_lt_of_le (show q * B + (least + k) < (q + 1) * B by rw [Nat.add_mul, Nat.one_mul]; omega) (Nat.mul_le_mul_right _ qB)) (Fg.of (by rw [g2c 78 (by omega), sI_cell (by omega)]) (by rw [g2c 80 (by omega), sI_cell (by omega)])) (n_sub h3 h5 (by omega) (by omega))) ?_
          rintro _ g3 ⟨rfl, K3, P3, F3⟩
          refine w_Sharing_deal_79 rfl ?_
          exact ih (by omega) _ _ ⟨_, rfl, by rw [← Nat.add_assoc]; exact t_succ h5 (by omega), KK.trans K3, PreD.down B0 P iB P3, F3⟩
      · refine w_Sharing_deal_46 (fun _ => ?_) (fun kc2 => absurd (show x3.toInt < (Int32.ofNat least).toInt by rw [h3, tl]; omega) kc2)
        refine w_Sharing_deal_85 ?_
        exact ⟨rfl, Keep.rfl, P, skip h 0 B (by omega) (Nat.le_refl _) (fun i _ _ => by omega) F⟩
    · exfalso
      rw [t2, E.2.1] at c
      omega
theorem ev_of {x : Int32} (n1 : 1 ≤ n) (n4 : n ≤ 4) (hx : x.toInt = (n : Int)) : (1 : Int32) <<< (x &&& 31) - 1 = Int32.ofNat (2 ^ n - 1) ∧ (1 : Int32) <<< (x &&& 31) = Int32.ofNat (2 ^ n) := by
  have e := ofN hx (by omega)
  have : n = 1 ∨ n = 2 ∨ n = 3 ∨ n = 4 := by omega
  rcases this with q | q | q | q <;> subst q <;> rw [e] <;> decide
theorem c_standing (E : EnvB h a n W) (L : Lay h.2) (ha : a + 2 ≤ 45) (W4 : ∀ s, s < 16 → W s ≤ 40) (W0 : W 0 = 0) (n1 : 1 ≤ n) (n4 : n ≤ 4) (hV : W (2 ^ n - 1) = V) (hB : B = V + 1) : Wc rod (d + 7) 131 [.inr (.inr (.inl (some 78))), .inr (.inr (.inl (some a)))] h (fun r h' => r = none ∧ Keep h h' ∧ FU h' W B V n (B ^ (n - 1))) := by
  have n16 : 2 ^ n - 1 < 16 := by have := Nat.pow_le_pow_right (n := 2) (by omega) n4; omega
  have V4 : V ≤ 40 := by rw [← hV]; exact W4 _ n16
  have K : Keep h (sI (sI h 78 0 0) 81 0 0) := (Keep.rfl.si (scrI 78 (by omega))).si (scrI 81 (by omega))
  refine n_Sharing_standing ?_
  refine w_Sharing_standing_0 L ?_
  refine w_Sharing_standing_5 (h := sI h 78 0 0) L ?_
  have E2 := E.keep ha K
  have L2 := L.keep K
  have z78 : (sI (sI h 78 0 0) 81 0 0).1 78 0 = 0 := by rw [sI_cell (by omega), sI_same]
  have z81 : (sI (sI h 78 0 0) 81 0 0).1 81 0 = 0 := by rw [sI_same]
  show Wb _ _ _ _ _ _ (sI (sI h 78 0 0) 81 0 0) _
  generalize sI (sI h 78 0 0) 81 0 0 = g at K E2 L2 z78 z81
  have ev := (ev_of n1 n4 E2.2.1).1
  have wv := E2.2.2 _ n16
  rw [hV] at wv
  refine w_Sharing_standing_12 E2.1 (Tc.wc (s_everybody E2.1)) (Is.k ?_)
  rw [ev]
  refine w_Sharing_standing_17 E2.1 (Tc.wc (s_worth1 E2.1 _ (2 ^ n - 1) (t_nat (by omega)) n16)) (Is.k ?_)
  have F0 : FU g W B V n 0 := ⟨by rw [z78]; rfl, fun c e => nomatch e⟩
  refine w_Sharing_standing_20 E2.1 (fun c => ?_) (fun c => ?_)
  · rw [E2.2.1] at c
    have c' : ¬ (n : Int) = 1 := c
    obtain ⟨j, hj⟩ : ∃ j, n = j + 2 := ⟨n - 2, by omega⟩
    have s0 : ∀ s, s < 2 ^ 0 → s = 0 := fun s hs => by
      rw [Nat.pow_zero] at hs
      omega
    have P0 : PreD g W B V 0 0 V := ⟨fun t ht => absurd ht (by omega), fun s hs => by rw [s0 s hs, z81]; rfl, fun s hs => by rw [s0 s hs, W0]; exact Nat.zero_le _, by rw [pS]; omega⟩
    have cd := c_deal (rod := rod) (d := 2 - j + d) (a := a) (n := n) (B := B) (V := V) (W := W) ha W4 hB V4 n4 j 0 0 V g (g.1 (a + 1) (2 ^ n - 1)) (by omega) L2 E2 P0 (by rw [Nat.pow_zero]; omega) (by rw [Nat.zero_mul]; exact F0) wv
    rw [show 2 - j + d + j + 4 = d + 6 by omega] at cd
    refine w_Sharing_standing_44 L2 cd ?_
    rintro _ f ⟨rfl, Kf, _, Ff⟩
    refine w_Sharing_standing_51 ?_
    refine ⟨rfl, K.trans Kf, ?_⟩
    rw [show n - 1 = j + 1 by omega]
    rw [Nat.zero_add, Nat.one_mul] at Ff
    exact Ff
  · rw [E2.2.1] at c
    have c' : (n : Int) = 1 := c
    have n1' : n = 1 := by omega
    subst n1'
    refine w_Sharing_standing_29 L2 ?_
    have L3 : Lay (sI g 79 (0 : Int32).toNatClampNeg (g.1 (a + 1) (2 ^ 1 - 1))).2 := L2
    refine w_Sharing_standing_36 L3 (c_count L3 _) ?_
    rintro _ f ⟨rfl, Kf, f79, f81, f78, fa, fb⟩
    refine w_Sharing_standing_41 ?_
    refine w_Sharing_standing_51 ?_
    refine ⟨rfl, (K.si (scrI 79 (by omega))).trans Kf, ?_⟩
    rw [sI_cell (by omega), z78] at f78 fa
    have o0 : okb W B V 1 0 = true := okb_iff.mpr ⟨Nat.zero_le _, fun s hs => by
      have : s = 0 ∨ s = 1 := by omega
      rcases this with q | q
      · subst q; rw [W0]; exact Nat.zero_le _
      · subst q
        rw [show W 1 = V from hV]
        show V ≤ (V - 0) + 0 + 0 + 0
        omega⟩
    have kc1 : cntN (okb W B V 1) (B ^ (1 - 1)) = 1 := by
      show 0 + (if okb W B V 1 0 = true then 1 else 0) = 1
      rw [if_pos o0]
    refine ⟨by rw [f78, kc1]; rfl, fun c e t ht => ?_⟩
    have e' : (if okb W B V 1 0 = true then some 0 else none) = some c := e
    rw [if_pos o0] at e'
    cases e'
    have t0 : t = 0 := by omega
    subst t0
    rw [fa rfl 0 (by omega)]
    show (sI g 79 0 _).1 79 0 = _
    rw [sI_same]
    have vv := ofN (n := V) wv (by omega)
    exact vv
end M87
