/-! OPERATION feed -/
section M63
variable {rod : Nat → Nat × (Nat → Int32)} {d : Nat} {h : MH}
theorem OpI.mkW {yc ym : Nat} {as : List Int32} (H : ∀ h, INV h → ∃ v, Wc rod 99 yc (.inr (.inr (.inl (some 0))) :: as.map Sum.inl) h (fun r h1 => r = some (.inl v) ∧ gO h1 (some 84) 22 = true ∧ Wc rod 99 ym (.inr (.inr (.inl (some 84))) :: as.map Sum.inl) h1 (fun r h2 => r = some (.inl v) ∧ INV h2))) : OpI INV rod yc ym as := by
  intro h hI
  obtain ⟨v, r1, h1, k1, rfl, g, r2, h2, k2, rfl, I2⟩ := H h hI
  exact ⟨v, h1, h2, g, k1, k2, I2⟩
theorem i8and (v : Int32) : v.toInt8.toInt32 &&& 255 = v &&& 255 := by
  apply Int32.toBitVec.inj
  rw [Int32.toBitVec_and, Int32.toBitVec_and, Int8.toBitVec_toInt32, Int32.toBitVec_toInt8]
  apply BitVec.eq_of_getLsbD_eq
  intro i hi
  have hc : (255 : Int32).toBitVec.getLsbD i = decide (i < 8) := by
    have q : (List.range 32).all (fun i => (255 : Int32).toBitVec.getLsbD i == decide (i < 8)) = true := by decide
    have z := List.all_eq_true.mp q i (List.mem_range.mpr hi)
    exact beq_iff_eq.mp z
  rw [BitVec.getLsbD_and, BitVec.getLsbD_and, hc]
  by_cases h8 : i < 8
  · rw [BitVec.getLsbD_signExtend, BitVec.getLsbD_signExtend]
    simp [h8, hi]
  · simp [h8]
theorem i8b (v : Int32) : bw v.toInt8.toInt32 (-128) 127 := by
  have e := Int8.toInt_toInt32 v.toInt8
  have a := v.toInt8.le_toInt
  have b := v.toInt8.toInt_lt
  simp only [bw]
  omega
def byteF (x : Int32) (j : Nat) : Int32 := x >>> (Int32.ofNat (24 - 8 * j) &&& 31)
def wF (a b c d e : Int32) (i : Nat) : Int32 := if i < 4 then a else if i < 8 then b else if i < 12 then c else if i < 16 then d else e
/-- behind some bytes more, from p on -/
def Fed (h h' : MH) (p m : Nat) (B : Nat → Int32) : Prop := h'.2 = h.2 ∧ (h'.1 1 1).toInt = ((p + m : Nat) : Int) ∧ (∀ j, j ≠ 1 → h'.1 1 j = h.1 1 j) ∧ (∀ c, c ≠ 1 → c ≠ 2 → h'.1 c = h.1 c) ∧ (∀ i, i < p → h'.1 2 i = h.1 2 i) ∧ ∀ j, j < m → h'.1 2 (p + j) = B j
theorem Fed.more {h h1 h2 : MH} {p m m' : Nat} {B B' : Nat → Int32} (k : Fed h h1 p m B) (q : Fed h1 h2 (p + m) m' B') : Fed h h2 p (m + m') (fun j => if j < m then B j else B' (j - m)) := by
  obtain ⟨k1, k2, k3, k4, k5, k6⟩ := k
  obtain ⟨q1, q2, q3, q4, q5, q6⟩ := q
  refine ⟨q1.trans k1, by rw [q2, Nat.add_assoc], fun j hj => (q3 j hj).trans (k3 j hj), fun c h1 h2 => (q4 c h1 h2).trans (k4 c h1 h2), fun i hi => (q5 i (by omega)).trans (k5 i hi), fun j hj => ?_⟩
  by_cases c : j < m
  · rw [q5 _ (by omega), k6 j c]
    simp only [c, if_true]
  · have := q6 (j - m) (by omega)
    rw [show p + m + (j - m) = p + j by omega] at this
    rw [this]
    simp only [c, if_false]
theorem c_append (L : Lay h.2) (x : Int32) (p : Nat) (hp : (h.1 1 1).toInt = (p : Int)) (h6 : p + 4 ≤ 600) : Wc rod (d + 1) 17 [.inr (.inr (.inl (some 1))), .inl x] h (fun r h' => r = none ∧ Fed h h' p 4 (fun j => (byteF x j).toInt8.toInt32)) := by
  refine n_Told_append ?_
  refine w_Told_append_0 rfl ?_
  refine Wb.uph 4 (fun k L' h' => ∃ (z : Int32), L' = [some (.inr (.inr (.inl (some 1)))), some (.inl x), some (.inl z)] ∧ z.toInt = 24 - 8 * (k : Int) ∧ Fed h h' p k (fun j => (byteF x j).toInt8.toInt32)) ?_ (Nat.zero_le _) ⟨24, rfl, rfl, rfl, hp, fun _ _ => rfl, fun _ _ _ => rfl, fun _ _ => rfl, fun j hj => absurd hj (by omega)⟩
  rintro k _ g hk ⟨z, rfl, hz, F⟩ ih
  have Lg : Lay g.2 := F.1.symm ▸ L
  have hg := F.2.1
  refine w_Told_append_3 (fun kc3 => ?_) (fun kc3 => ?_)
  · (try simp only [ite01t, ite01v, Int32.reduceToInt, t_m1, t_m2, t_m1000, Decidable.not_not] at kc3); (try simp only [hg] at kc3)
    refine w_Told_append_46 ?_
    have : k = 4 := by omega
    subst this
    exact ⟨rfl, F⟩
  · (try simp only [ite01t, ite01v, Int32.reduceToInt, t_m1, t_m2, t_m1000, Decidable.not_not] at kc3); (try simp only [hg] at kc3)
    refine w_Told_append_7 Lg (fun kc7 => ?_) (fun kc7 => ?_)
    · (try simp only [ite01t, ite01v, Int32.reduceToInt, t_m1, t_m2, t_m1000, Decidable.not_not] at kc7); (try simp only [hg] at kc7)
      refine w_Told_append_46 ?_
      have : k = 4 := by omega
      subst this
      exact ⟨rfl, F⟩
    · (try simp only [ite01t, ite01v, Int32.reduceToInt, t_m1, t_m2, t_m1000, Decidable.not_not] at kc7); (try simp only [hg] at kc7)
      refine w_Told_append_17 Lg (by rw [hg]; omega) ?_
      refine w_Told_append_30 Lg ?_
      refine w_Told_append_40 rfl ?_
      refine ih (by omega) _ _ ⟨_, rfl, ?_, ?_⟩
      · rw [i32_add (by show _ ≤ _ + (-8 : Int); omega) (by show _ + (-8 : Int) ≤ _; omega)]
        show _ + (-8 : Int) = _
        omega
      · have oz : z = Int32.ofNat (24 - 8 * k) := ofN (by omega) (by omega)
        obtain ⟨f1, f2, f3, f4, f5, f6⟩ := F
        have el := n_eq hg
        refine ⟨f1, ?_, fun j hj => ?_, fun c h1 h2 => ?_, fun i hi => ?_, fun j hj => ?_⟩
        · rw [sI_same, sI_nc (by omega)]; exact t_succ (k := p + k) hg (by omega)
        · rw [sI_nj hj, sI_nc (by omega)]; exact f3 j hj
        · rw [sI_cell h1, sI_cell h2]; exact f4 c h1 h2
        · rw [sI_nc (by omega), el, sI_nj (by omega)]; exact f5 i hi
        · rw [sI_nc (by omega), el]
          by_cases c : j = k
          · subst c
            rw [sI_same, oz]
            rfl
          · rw [sI_nj (by omega)]; exact f6 j (by omega)
theorem feed_bd {x : Int32} {p : Nat} (hp : x.toInt = (p : Int)) (h6 : p ≤ 600) : (x + 20).toInt = (p : Int) + 20 := by
  rw [i32_add (by show _ ≤ _ + (20 : Int); omega) (by show _ + (20 : Int) ≤ _; omega), hp]
  rfl
theorem op_feed (a b c e f : Int32) : OpI INV rod 16 190 [a, b, c, e, f] := by
  refine OpI.mkW fun h hI => ?_
  have L := hI.lay
  have T := hI.rel
  have b6 := T.2.2.2.1
  simp only [bw] at b6
  obtain ⟨p, hp⟩ := Int.eq_ofNat_of_zero_le b6.1
  have e20 := feed_bd hp (by omega)
  have m4 : h.1 85 4 = h.1 1 1 := T.1.symm
  have tape : ∀ q : Nat, (q : Int) < (h.1 1 1).toInt → h.1 85 (10 + q) = (h.1 2 q) &&& 255 ∧ bw (h.1 2 q) (-128) 127 := fun q hq => by
    have := T.2.2.2.2.2.1 q hq
    simp only [Nat.zero_add] at this
    exact this
  by_cases full : p + 20 ≤ 600
  · refine ⟨Int32.ofNat (p + 20), ?_⟩
    refine n_Main_feed ?_
    refine w_Main_feed_0 L (fun kc0 => ?_) (fun kc0 => (by exfalso; simp only [e20, Int32.reduceToInt] at kc0; omega))
    (try simp only [ite01t, ite01v, Int32.reduceToInt, t_m1, t_m2, t_m1000, Decidable.not_not] at kc0); (try simp only [e20] at kc0)
    refine w_Main_feed_18 L (c_append L a (p) (hp) (by omega)) ?_
    rintro _ h18 ⟨rfl, F18⟩
    have L18 : Lay h18.2 := F18.1.symm ▸ L
    refine w_Main_feed_26 L18 (c_append L18 b (p + 4) (F18.2.1) (by omega)) ?_
    rintro _ h26 ⟨rfl, F26⟩
    replace F26 := F18.more F26
    have L26 : Lay h26.2 := F26.1.symm ▸ L
    refine w_Main_feed_34 L26 (c_append L26 c (p + 8) (F26.2.1) (by omega)) ?_
    rintro _ h34 ⟨rfl, F34⟩
    replace F34 := F26.more F34
    have L34 : Lay h34.2 := F34.1.symm ▸ L
    refine w_Main_feed_42 L34 (c_append L34 e (p + 12) (F34.2.1) (by omega)) ?_
    rintro _ h42 ⟨rfl, F42⟩
    replace F42 := F34.more F42
    have L42 : Lay h42.2 := F42.1.symm ▸ L
    refine w_Main_feed_51 L42 (c_append L42 f (p + 16) (F42.2.1) (by omega)) ?_
    rintro _ h51 ⟨rfl, F51⟩
    replace F51 := F42.more F51
    have L51 : Lay h51.2 := F51.1.symm ▸ L
    refine w_Main_feed_60 L51 ?_
    refine ⟨congrArg (fun z => some (Sum.inl z)) (ofN F51.2.1 (by omega)), Lay.o84 L51, ?_⟩
    have tp : ∀ i, i < 20 → h51.1 2 (p + i) = (byteF (wF a b c e f i) (i % 4)).toInt8.toInt32 := by
      intro i hi
      rw [F51.2.2.2.2.2 i (by omega)]
      simp only [wF]
      rcases (show i < 4 ∨ (4 ≤ i ∧ i < 8) ∨ (8 ≤ i ∧ i < 12) ∨ (12 ≤ i ∧ i < 16) ∨ 16 ≤ i by omega) with q | q | q | q | q
      · rw [if_pos (by omega), if_pos (by omega), if_pos (by omega), if_pos (by omega), if_pos (by omega), show i % 4 = i by omega]
      · rw [if_pos (by omega), if_pos (by omega), if_pos (by omega), if_neg (by omega), if_neg (by omega), if_pos (by omega), show i % 4 = i - 4 by omega]
      · rw [if_pos (by omega), if_pos (by omega), if_neg (by omega), if_neg (by omega), if_neg (by omega), if_pos (by omega), show i % 4 = i - 8 by omega]
      · rw [if_pos (by omega), if_neg (by omega), if_neg (by omega), if_neg (by omega), if_neg (by omega), if_pos (by omega), show i % 4 = i - 12 by omega]
      · rw [if_neg (by omega), if_neg (by omega), if_neg (by omega), if_neg (by omega), if_neg (by omega), show i % 4 = i - 16 by omega]
    obtain ⟨g1, g2, g3, g4, g5, -⟩ := F51
    have L1 := L51
    have n4 : h51.1 85 4 = h.1 1 1 := by rw [g4 85 (by omega) (by omega)]; exact m4
    have n20 := feed_bd (x := h51.1 85 4) (p := p) (by rw [n4]; exact hp) (by omega)
    refine n_Model_feed ?_
    refine w_Model_feed_0 L1 (fun kc0 => ?_) (fun kc0 => (by exfalso; simp only [show (4 : Int32).toNatClampNeg = 4 from rfl, n20, Int32.reduceToInt] at kc0; omega))
    (try simp only [ite01t, ite01v, Int32.reduceToInt, t_m1, t_m2, t_m1000, Decidable.not_not] at kc0); (try simp only [n20] at kc0)
    refine w_Model_feed_17 rfl ?_
    refine Wb.uph 20 (fun i L' h' => ∃ (z : Int32) (u : Option MV), L' = [some (.inr (.inr (.inl (some 84)))), some (.inl a), some (.inl b), some (.inl c), some (.inl e), some (.inl f), some (.inl z), u] ∧ z.toInt = (i : Int) ∧ h'.2 = h51.2 ∧ (∀ s, s ≠ 85 → h'.1 s = h51.1 s) ∧ (h'.1 85 4).toInt = ((p + i : Nat) : Int) ∧ (∀ j, j ≠ 4 → j < 10 + p ∨ 610 ≤ j → h'.1 85 j = h51.1 85 j) ∧ ∀ j, j < i → h'.1 85 (10 + p + j) = byteF (wF a b c e f j) (j % 4) &&& 255) ?_ (Nat.zero_le _) ⟨0, _, rfl, rfl, rfl, fun _ _ => rfl, by rw [n4]; exact hp, fun _ _ _ => rfl, fun j hj => absurd hj (by omega)⟩
    rintro i _ g hi ⟨z, u, rfl, hz, f1, f2, f3, f4, f5⟩ ih
    have Lg : Lay g.2 := f1.symm ▸ L1
    have ez : ((10 : Int32) + g.1 85 (4 : Int32).toNatClampNeg).toInt = ((10 + (p + i) : Nat) : Int) := n_add (show (10 : Int32).toInt = ((10 : Nat) : Int) from rfl) f3 (by omega)
    have sh : (24 : Int32) - 8 * (z - z / 4 * 4) = Int32.ofNat (24 - 8 * (i % 4)) := by
      have r4 := dv_r (x := z) (k := 4) (n := 4) rfl (by omega) (by omega)
      rw [hz] at r4
      have m8 : ((8 : Int32) * (z - z / 4 * 4)).toInt = 8 * ((i : Int) % 4) := by
        rw [i32_mul (by rw [r4]; show _ ≤ (8 : Int) * _; omega) (by rw [r4]; show (8 : Int) * _ ≤ _; omega), r4]
        rfl
      refine ofN ?_ (by omega)
      rw [i32_sub (by rw [m8]; show _ ≤ (24 : Int) - _; omega) (by rw [m8]; show (24 : Int) - _ ≤ _; omega), m8]
      show (24 : Int) - _ = _
      omega
    refine w_Model_feed_20 (fun kc20 => ?_) (fun kc20 => ?_)
    · try simp only [ite01t, ite01v, Int32.reduceToInt, t_m1, t_m2, t_m1000, Decidable.not_not] at kc20
      refine w_Model_feed_122 Lg ?_
      have i20 : i = 20 := by omega
      subst i20
      refine ⟨congrArg (fun z => some (Sum.inl z)) (ofN f3 (by omega)), ?_⟩
      have s85 : ∀ j, j < 4 ∨ 610 ≤ j → g.1 85 j = h.1 85 j := fun j hj => by rw [f4 j (by omega) (by omega), g4 85 (by omega) (by omega)]
      have s5 : ∀ j, 5 ≤ j → j < 10 → g.1 85 j = h.1 85 j := fun j h5 hj => by rw [f4 j (by omega) (by omega), g4 85 (by omega) (by omega)]
      refine hI.tape (f1.trans g1) (fun s _ h1 h2 h3 => by rw [f2 s h3, g4 s h1 h2]) s85 ?_ ?_ ?_ ?_ ?_
      · rw [f2 1 (by omega)]; exact i32_of (by rw [g2, f3])
      · rw [f2 1 (by omega), g3 2 (by omega), s5 5 (by omega) (by omega)]; exact T.2.1
      · rw [f2 1 (by omega), g3 3 (by omega), s5 6 (by omega) (by omega)]; exact T.2.2.1
      · rw [f2 1 (by omega)]; simp only [bw]; rw [g2]; omega
      · intro q hq
        rw [f2 1 (by omega), g2] at hq
        rw [f2 2 (by omega)]
        by_cases c : q < p
        · rw [g5 q c, f4 _ (by omega) (by omega), g4 85 (by omega) (by omega)]; exact tape q (by omega)
        · have z1 := f5 (q - p) (by omega)
          have z2 := tp (q - p) (by omega)
          rw [show 10 + p + (q - p) = 10 + q by omega] at z1
          rw [show p + (q - p) = q by omega] at z2
          rw [z1, z2, i8and]
          exact ⟨rfl, i8b _⟩
    · try simp only [ite01t, ite01v, Int32.reduceToInt, t_m1, t_m2, t_m1000, Decidable.not_not] at kc20
      refine w_Model_feed_27 (fun kc27 => ?_) (fun kc27 => ?_)
      · try simp only [ite01t, ite01v, Int32.reduceToInt, t_m1, t_m2, t_m1000, Decidable.not_not] at kc27
        refine w_Model_feed_37 (fun kc37 => ?_) (fun kc37 => ?_)
        · try simp only [ite01t, ite01v, Int32.reduceToInt, t_m1, t_m2, t_m1000, Decidable.not_not] at kc37
          refine w_Model_feed_48 (fun kc48 => ?_) (fun kc48 => ?_)
          · try simp only [ite01t, ite01v, Int32.reduceToInt, t_m1, t_m2, t_m1000, Decidable.not_not] at kc48
            refine w_Model_feed_59 (fun kc59 => ?_) (fun kc59 => ?_)
            · try simp only [ite01t, ite01v, Int32.reduceToInt, t_m1, t_m2, t_m1000, Decidable.not_not] at kc59
              refine w_Model_feed_71 ?_
              refine w_Model_feed_73 Lg (by rw [ez]; omega) ?_
              refine w_Model_feed_106 Lg ?_
              refine w_Model_feed_116 rfl ?_
              refine ih (by omega) _ _ ⟨_, _, rfl, t_succ hz (by omega), f1, fun s hs => ?_, ?_, fun j h4 hj => ?_, fun j hj => ?_⟩
              · rw [sI_cell hs, sI_cell hs]; exact f2 s hs
              · rw [n_eq ez, show (4 : Int32).toNatClampNeg = 4 from rfl, sI_same, sI_nj (by omega)]; exact t_succ (k := p + i) f3 (by omega)
              · rw [n_eq ez, show (4 : Int32).toNatClampNeg = 4 from rfl, sI_nj h4, sI_nj (by omega)]; exact f4 j h4 hj
              · rw [n_eq ez, show (4 : Int32).toNatClampNeg = 4 from rfl, sI_nj (by omega), sh]
                by_cases q : j = i
                · subst q
                  rw [show 10 + p + j = 10 + (p + j) by omega, sI_same]
                  have wv : wF a b c e f j = f := by rw [wF]; first | (rw [if_pos (by omega)]; done) | (rw [if_neg (by omega), if_pos (by omega)]; done) | (rw [if_neg (by omega), if_neg (by omega), if_pos (by omega)]; done) | (rw [if_neg (by omega), if_neg (by omega), if_neg (by omega), if_pos (by omega)]; done) | (rw [if_neg (by omega), if_neg (by omega), if_neg (by omega), if_neg (by omega)]; done)
                  rw [wv]
                  rfl
                · rw [sI_nj (by omega)]; exact f5 j (by omega)
            · try simp only [ite01t, ite01v, Int32.reduceToInt, t_m1, t_m2, t_m1000, Decidable.not_not] at kc59
              refine w_Model_feed_66 ?_
              refine w_Model_feed_73 Lg (by rw [ez]; omega) ?_
              refine w_Model_feed_106 Lg ?_
              refine w_Model_feed_116 rfl ?_
              refine ih (by omega) _ _ ⟨_, _, rfl, t_succ hz (by omega), f1, fun s hs => ?_, ?_, fun j h4 hj => ?_, fun j hj => ?_⟩
              · rw [sI_cell hs, sI_cell hs]; exact f2 s hs
              · rw [n_eq ez, show (4 : Int32).toNatClampNeg = 4 from rfl, sI_same, sI_nj (by omega)]; exact t_succ (k := p + i) f3 (by omega)
              · rw [n_eq ez, show (4 : Int32).toNatClampNeg = 4 from rfl, sI_nj h4, sI_nj (by omega)]; exact f4 j h4 hj
              · rw [n_eq ez, show (4 : Int32).toNatClampNeg = 4 from rfl, sI_nj (by omega), sh]
                by_cases q : j = i
                · subst q
                  rw [show 10 + p + j = 10 + (p + j) by omega, sI_same]
                  have wv : wF a b c e f j = e := by rw [wF]; first | (rw [if_pos (by omega)]; done) | (rw [if_neg (by omega), if_pos (by omega)]; done) | (rw [if_neg (by omega), if_neg (by omega), if_pos (by omega)]; done) | (rw [if_neg (by omega), if_neg (by omega), if_neg (by omega), if_pos (by omega)]; done) | (rw [if_neg (by omega), if_neg (by omega), if_neg (by omega), if_neg (by omega)]; done)
                  rw [wv]
                  rfl
                · rw [sI_nj (by omega)]; exact f5 j (by omega)
          · try simp only [ite01t, ite01v, Int32.reduceToInt, t_m1, t_m2, t_m1000, Decidable.not_not] at kc48
            refine w_Model_feed_55 ?_
            refine w_Model_feed_73 Lg (by rw [ez]; omega) ?_
            refine w_Model_feed_106 Lg ?_
            refine w_Model_feed_116 rfl ?_
            refine ih (by omega) _ _ ⟨_, _, rfl, t_succ hz (by omega), f1, fun s hs => ?_, ?_, fun j h4 hj => ?_, fun j hj => ?_⟩
            · rw [sI_cell hs, sI_cell hs]; exact f2 s hs
            · rw [n_eq ez, show (4 : Int32).toNatClampNeg = 4 from rfl, sI_same, sI_nj (by omega)]; exact t_succ (k := p + i) f3 (by omega)
            · rw [n_eq ez, show (4 : Int32).toNatClampNeg = 4 from rfl, sI_nj h4, sI_nj (by omega)]; exact f4 j h4 hj
            · rw [n_eq ez, show (4 : Int32).toNatClampNeg = 4 from rfl, sI_nj (by omega), sh]
              by_cases q : j = i
              · subst q
                rw [show 10 + p + j = 10 + (p + j) by omega, sI_same]
                have wv : wF a b c e f j = c := by rw [wF]; first | (rw [if_pos (by omega)]; done) | (rw [if_neg (by omega), if_pos (by omega)]; done) | (rw [if_neg (by omega), if_neg (by omega), if_pos (by omega)]; done) | (rw [if_neg (by omega), if_neg (by omega), if_neg (by omega), if_pos (by omega)]; done) | (rw [if_neg (by omega), if_neg (by omega), if_neg (by omega), if_neg (by omega)]; done)
                rw [wv]
                rfl
              · rw [sI_nj (by omega)]; exact f5 j (by omega)
        · try simp only [ite01t, ite01v, Int32.reduceToInt, t_m1, t_m2, t_m1000, Decidable.not_not] at kc37
          refine w_Model_feed_44 ?_
          refine w_Model_feed_73 Lg (by rw [ez]; omega) ?_
          refine w_Model_feed_106 Lg ?_
          refine w_Model_feed_116 rfl ?_
          refine ih (by omega) _ _ ⟨_, _, rfl, t_succ hz (by omega), f1, fun s hs => ?_, ?_, fun j h4 hj => ?_, fun j hj => ?_⟩
          · rw [sI_cell hs, sI_cell hs]; exact f2 s hs
          · rw [n_eq ez, show (4 : Int32).toNatClampNeg = 4 from rfl, sI_same, sI_nj (by omega)]; exact t_succ (k := p + i) f3 (by omega)
          · rw [n_eq ez, show (4 : Int32).toNatClampNeg = 4 from rfl, sI_nj h4, sI_nj (by omega)]; exact f4 j h4 hj
          · rw [n_eq ez, show (4 : Int32).toNatClampNeg = 4 from rfl, sI_nj (by omega), sh]
            by_cases q : j = i
            · subst q
              rw [show 10 + p + j = 10 + (p + j) by omega, sI_same]
              have wv : wF a b c e f j = b := by rw [wF]; first | (rw [if_pos (by omega)]; done) | (rw [if_neg (by omega), if_pos (by omega)]; done) | (rw [if_neg (by omega), if_neg (by omega), if_pos (by omega)]; done) | (rw [if_neg (by omega), if_neg (by omega), if_neg (by omega), if_pos (by omega)]; done) | (rw [if_neg (by omega), if_neg (by omega), if_neg (by omega), if_neg (by omega)]; done)
              rw [wv]
              rfl
            · rw [sI_nj (by omega)]; exact f5 j (by omega)
      · try simp only [ite01t, ite01v, Int32.reduceToInt, t_m1, t_m2, t_m1000, Decidable.not_not] at kc27
        refine w_Model_feed_33 ?_
        refine w_Model_feed_73 Lg (by rw [ez]; omega) ?_
        refine w_Model_feed_106 Lg ?_
        refine w_Model_feed_116 rfl ?_
        refine ih (by omega) _ _ ⟨_, _, rfl, t_succ hz (by omega), f1, fun s hs => ?_, ?_, fun j h4 hj => ?_, fun j hj => ?_⟩
        · rw [sI_cell hs, sI_cell hs]; exact f2 s hs
        · rw [n_eq ez, show (4 : Int32).toNatClampNeg = 4 from rfl, sI_same, sI_nj (by omega)]; exact t_succ (k := p + i) f3 (by omega)
        · rw [n_eq ez, show (4 : Int32).toNatClampNeg = 4 from rfl, sI_nj h4, sI_nj (by omega)]; exact f4 j h4 hj
        · rw [n_eq ez, show (4 : Int32).toNatClampNeg = 4 from rfl, sI_nj (by omega), sh]
          by_cases q : j = i
          · subst q
            rw [show 10 + p + j = 10 + (p + j) by omega, sI_same]
            have wv : wF a b c e f j = a := by rw [wF]; first | (rw [if_pos (by omega)]; done) | (rw [if_neg (by omega), if_pos (by omega)]; done) | (rw [if_neg (by omega), if_neg (by omega), if_pos (by omega)]; done) | (rw [if_neg (by omega), if_neg (by omega), if_neg (by omega), if_pos (by omega)]; done) | (rw [if_neg (by omega), if_neg (by omega), if_neg (by omega), if_neg (by omega)]; done)
            rw [wv]
            rfl
          · rw [sI_nj (by omega)]; exact f5 j (by omega)
    
    
  · refine ⟨-1, ?_⟩
    refine n_Main_feed ?_
    refine w_Main_feed_0 L (fun kc0 => (by exfalso; simp only [e20, Int32.reduceToInt] at kc0; omega)) (fun kc0 => ?_)
    (try simp only [ite01t, ite01v, Int32.reduceToInt, t_m1, t_m2, t_m1000, Decidable.not_not] at kc0); (try simp only [e20] at kc0)
    refine w_Main_feed_16 ?_
    refine ⟨rfl, Lay.o84 L, ?_⟩
    refine n_Model_feed ?_
    refine w_Model_feed_0 L (fun kc0 => (by exfalso; simp only [show (4 : Int32).toNatClampNeg = 4 from rfl, m4, e20, Int32.reduceToInt] at kc0; omega)) (fun kc0 => ?_)
    try simp only [ite01t, ite01v, Int32.reduceToInt, t_m1, t_m2, t_m1000, Decidable.not_not] at kc0
    refine w_Model_feed_15 ?_
    exact ⟨rfl, hI⟩
    
end M63
