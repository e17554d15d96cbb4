/-! THE READER: a text, of both -/
section M97g
variable {rod : Nat → Nat × (Nat → Int32)} {d : Nat} {h g g1 g2 : MH} {T : Nat → Int} {len : Nat} {t k a n i m q : Nat} {R v : Nat → Int} {S : LnS} {x1 x2 : Int32}
/-- which place a text takes -/
def VQ (x2 : Int32) (m q : Nat) : Prop := (x2.toInt = -1 ∧ q = m ∧ m < 2) ∨ (x2.toInt = (q : Int) ∧ q < m)
def RT (T : Nat → Int) (len t q m : Nat) (g : MH) (r : Option MV) (g' : MH) : Prop := g'.2 = g.2 ∧ (∀ c, c ≠ 84 → c ≠ 85 → c ≠ 87 → g'.1 c = g.1 c) ∧ g'.1 85 4 = 0 ∧ (g'.1 85 5).toInt = ((fpX len (finS T len t)).1 : Int) ∧ (g'.1 85 6).toInt = (fpX len (finS T len t)).2 ∧ (((fpX len (finS T len t)).1 ≠ 0 ∧ r = some (.inl (-1)) ∧ ∀ j, j < 4 ∨ 7 ≤ j → g'.1 85 j = g.1 85 j) ∨ ((fpX len (finS T len t)).1 = 0 ∧ r = some (.inl (Int32.ofNat q)) ∧ (∀ j, (j < 4 ∧ j ≠ t) ∨ (7 ≤ j ∧ (j < plF t q ∨ plF t q + szF t ≤ j)) → g'.1 85 j = g.1 85 j) ∧ (g'.1 85 t).toInt = ((max m (q + 1) : Nat) : Int) ∧ ∀ j, j < szF t → (g'.1 85 (plF t q + j)).toInt = (finS T len t).2.1 j))
def hdH (g : MH) : MH := sI (sI (sI (sI g 84 2 (g.1 85 4)) 85 4 0) 85 5 0) 85 6 (-1)
theorem hdH_85 (j : Nat) (hj : j ≠ 4 ∧ j ≠ 5 ∧ j ≠ 6) : (hdH g).1 85 j = g.1 85 j := by
  unfold hdH
  rw [sI_nj hj.2.2, sI_nj hj.2.1, sI_nj hj.1, sI_nc (by decide)]
theorem hdH_c (c : Nat) (h1 : c ≠ 84) (h2 : c ≠ 85) : (hdH g).1 c = g.1 c := by
  unfold hdH
  rw [sI_cell h2, sI_cell h2, sI_cell h2, sI_cell h1]
theorem hdH_4 : (hdH g).1 85 4 = 0 := by unfold hdH; simp (disch := omega) only [sI_same, sI_nj]
theorem hdH_5 : (hdH g).1 85 5 = 0 := by unfold hdH; simp (disch := omega) only [sI_same, sI_nj]
theorem hdH_6 : (hdH g).1 85 6 = -1 := by unfold hdH; simp (disch := omega) only [sI_same, sI_nj]
theorem hdH_2 : (hdH g).1 84 2 = g.1 85 4 := by unfold hdH; simp (disch := omega) only [sI_same, sI_nc]
theorem r_head (L : Lay g.2) {Q : Option MV → MH → Prop} (K : Wb rod (d + 8) B_Model_text 32 [some (.inr (.inr (.inl (some 84)))), some (.inl x1), some (.inl x2), none, none] [] (hdH g) Q) : Wc rod (d + 9) 192 [.inr (.inr (.inl (some 84))), .inl x1, .inl x2] g Q := by
  refine n_Model_text ?_
  refine w_Model_text_0 L ?_
  refine w_Model_text_10 (h := sI g 84 2 (g.1 85 4)) L ?_
  refine w_Model_text_17 (h := sI (sI g 84 2 (g.1 85 4)) 85 4 0) L ?_
  refine w_Model_text_24 (h := sI (sI (sI g 84 2 (g.1 85 4)) 85 4 0) 85 5 0) L ?_
  exact K
theorem r_text_yes (L : Lay g.2) (ht : t < 4) (e1 : x1.toInt = (t : Int)) (em : (g.1 85 t).toInt = (m : Int)) (m2 : m ≤ 2) (hq : VQ x2 m q) (hl : (g.1 85 4).toInt = (len : Int)) (l6 : len ≤ 600) (hb : ∀ p, p < len → (g.1 85 (10 + p)).toInt = ub (T p) ∧ -128 ≤ T p ∧ T p ≤ 127) : Wc rod (d + 9) 192 [.inr (.inr (.inl (some 84))), .inl x1, .inl x2] g (fun r g' => RT T len t q m g r g') := by
  have q2 : q < 2 := by unfold VQ at hq; omega
  have L2 : Lay (hdH g).2 := L
  have E2 : EnvA (hdH g) T len := ⟨by rw [hdH_2]; exact hl, l6, fun p hp => by rw [hdH_85 (10 + p) (by omega)]; exact hb p hp⟩
  have em2 : ((hdH g).1 85 t).toInt = (m : Int) := by rw [hdH_85 t (by omega)]; exact em
  have ps := plsz ht q2
  -- behind the check
  have go : Wb rod (d + 8) B_Model_text 71 [some (.inr (.inr (.inl (some 84)))), some (.inl x1), some (.inl x2), none, none] [] (hdH g) (fun r g' => RT T len t q m g r g') := by
    refine r_init L2 E2 e1 ht hdH_5 hdH_6 ?_
    intro g3 u3 F3 M3
    refine r_mloop (L2.fr F3) (E2.fl F3) e1 ht M3 ?_
    intro g4 F4 M4 w4 B4 en4
    have F24 := F3.trans F4
    refine r_after (L2.fr F24) e1 ht M4 w4 B4 en4 ?_
    intro g5 F5 m5 m6 q87
    have F25 := F24.trans F5.py.pl
    have L5 := L2.fr F25
    have s85 : ∀ j, j ≠ 4 ∧ j ≠ 5 ∧ j ≠ 6 → g5.1 85 j = g.1 85 j := fun j hj => by rw [F25.2 85 j (by unfold PL PY PX; omega), hdH_85 j hj]
    have s4 : g5.1 85 4 = 0 := by rw [F25.2 85 4 (by unfold PL PY PX; omega)]; exact hdH_4
    have sc : ∀ c, c ≠ 84 → c ≠ 85 → c ≠ 87 → g5.1 c = g.1 c := fun c a b e => by rw [F25.cell c (fun j => by unfold PL PY PX; omega), hdH_c c a b]
    by_cases f0 : ¬ (fpX len (finS T len t)).1 = 0
    · refine w_Model_text_280 L5 (fun z => absurd z (by rw [k5, m5]; omega)) (fun _ => ?_)
      refine w_Model_text_289 ?_
      exact ⟨F25.1, sc, s4, m5, m6, Or.inl ⟨f0, rfl, fun j hj => s85 j (by omega)⟩⟩
    rw [Decidable.not_not] at f0
    have q87 := q87 f0
    refine w_Model_text_280 L5 (fun _ => ?_) (fun z => absurd (by rw [k5, m5, f0]; rfl) z)
    have em5 : (g5.1 85 t).toInt = (m : Int) := by rw [s85 t (by omega)]; exact em
    have cpy : ∀ (x3 : Int32) g6, x3.toInt = (q : Int) → g6.2 = g5.2 → (∀ c, c ≠ 85 → g6.1 c = g5.1 c) → (∀ j, j ≠ t → g6.1 85 j = g5.1 85 j) → (g6.1 85 t).toInt = ((max m (q + 1) : Nat) : Int) → Wb rod (d + 8) B_Model_text 322 [some (.inr (.inr (.inl (some 84)))), some (.inl x1), some (.inl x2), some (.inl x3), none] [] g6 (fun r g' => RT T len t q m g r g') := by
      intro x3 g6 e3 b1 b2 b3 b4
      refine w_Model_text_322 rfl ?_
      refine r_copy (b1.symm ▸ L5) e1 ht e3 q2 ?_
      intro g7 kc1 kc2 kc3 kc4
      have lo : ∀ j, j < 610 → g7.1 85 j = g6.1 85 j := fun j hj => kc3 j (by omega)
      refine ⟨kc1.trans (b1.trans F25.1), fun c h1 h2 h3 => by rw [kc2 c h2, b2 c h2, sc c h1 h2 h3], ?_, ?_, ?_, Or.inr ⟨f0, ?_, fun j hj => ?_, ?_, fun j hj => ?_⟩⟩
      · rw [lo 4 (by decide), b3 4 (by omega)]; exact s4
      · rw [lo 5 (by decide), b3 5 (by omega)]; exact m5
      · rw [lo 6 (by decide), b3 6 (by omega)]; exact m6
      · rw [ofN e3 (by omega)]
      · rw [kc3 j (by omega), b3 j (by omega), s85 j (by omega)]
      · rw [lo t (by omega)]; exact b4
      · rw [kc4 j hj, b2 87 (by decide)]
        exact q87 j (by omega)
    rcases hq with ⟨hx, hqm, hm⟩ | ⟨hx, hm⟩
    · refine w_Model_text_291 (fun z => absurd hx z) (fun _ => ?_)
      refine w_Model_text_296 L5 (by omega) ?_
      refine w_Model_text_306 (fun z => absurd hx z) (fun _ => ?_)
      refine w_Model_text_312 L5 (by omega) ?_
      rw [n_eq e1]
      refine cpy _ _ (by rw [em5, hqm]) rfl (fun c hc => sI_cell hc) (fun j hj => sI_nj hj) ?_
      rw [sI_same, t_succ em5 (by omega), hqm]
      congr 1
      omega
    · refine w_Model_text_291 (fun _ => ?_) (fun z => absurd z (by omega))
      refine w_Model_text_305 ?_
      refine w_Model_text_306 (fun _ => ?_) (fun z => absurd z (by omega))
      refine cpy x2 g5 hx rfl (fun _ _ => rfl) (fun _ _ => rfl) ?_
      rw [em5]
      congr 1
      omega
  refine r_head L ?_
  refine w_Model_text_32 (Tc.wc (s_isIn _ _ _ _)) (Is.k ?_)
  rw [if_pos (by rw [e1]; show (0 : Int) ≤ (t : Int) ∧ (t : Int) ≤ 3; omega)]
  refine w_Model_text_38 (fun z => absurd z (by decide)) (fun _ => ?_)
  rcases hq with ⟨hx, hqm, hm⟩ | ⟨hx, hm⟩
  · refine w_Model_text_41 (fun z => absurd hx z) (fun _ => ?_)
    refine w_Model_text_46 L2 (by omega) (fun _ => go) (fun z => absurd (by rw [n_eq e1, em2]; show (m : Int) < 2; omega) z)
  · refine w_Model_text_41 (fun _ => ?_) (fun z => absurd z (by omega))
    refine w_Model_text_59 L2 (Tc.wc (s_isOf2 L2 x1 x2 e1 ht (by omega))) (Is.k ?_)
    rw [if_pos (by omega)]
    exact w_Model_text_65 (fun _ => go) (fun z => absurd z (by decide))
theorem r_text_no (L : Lay g.2) (bad : ¬ (0 ≤ x1.toInt ∧ x1.toInt < 4) ∨ ∃ t m : Nat, t < 4 ∧ x1.toInt = (t : Int) ∧ (g.1 85 t).toInt = (m : Int) ∧ m ≤ 2 ∧ ((x2.toInt = -1 ∧ ¬ m < 2) ∨ (x2.toInt ≠ -1 ∧ ¬ (0 ≤ x2.toInt ∧ x2.toInt < (m : Int))))) : Wc rod (d + 9) 192 [.inr (.inr (.inl (some 84))), .inl x1, .inl x2] g (fun r g' => r = some (.inl (-2)) ∧ g' = hdH g) := by
  have L2 : Lay (hdH g).2 := L
  refine r_head L ?_
  refine w_Model_text_32 (Tc.wc (s_isIn _ _ _ _)) (Is.k ?_)
  rcases bad with b | ⟨t, m, ht, e1, em, m2, b⟩
  · rw [if_neg (fun z => b (by have z : (0 : Int) ≤ x1.toInt ∧ x1.toInt ≤ 3 := z; omega))]
    refine w_Model_text_38 (fun _ => ?_) (fun z => absurd rfl z)
    exact w_Model_text_68 ⟨rfl, rfl⟩
  · have em2 : ((hdH g).1 85 t).toInt = (m : Int) := by rw [hdH_85 t (by omega)]; exact em
    rw [if_pos (by rw [e1]; show (0 : Int) ≤ (t : Int) ∧ (t : Int) ≤ 3; omega)]
    refine w_Model_text_38 (fun z => absurd z (by decide)) (fun _ => ?_)
    rcases b with ⟨hx, hm⟩ | ⟨hx, hm⟩
    · refine w_Model_text_41 (fun z => absurd hx z) (fun _ => ?_)
      refine w_Model_text_46 L2 (by omega) (fun z => absurd z (by rw [n_eq e1, em2]; show ¬ (m : Int) < 2; omega)) (fun _ => ?_)
      refine w_Model_text_56 ?_
      exact w_Model_text_68 ⟨rfl, rfl⟩
    · refine w_Model_text_41 (fun _ => ?_) (fun z => absurd z hx)
      refine w_Model_text_59 L2 (Tc.wc (s_isOf2 L2 x1 x2 e1 ht (by omega))) (Is.k ?_)
      rw [if_neg (by rw [em2]; exact hm)]
      refine w_Model_text_65 (fun z => absurd rfl z) (fun _ => ?_)
      exact w_Model_text_68 ⟨rfl, rfl⟩
/-! the class -/
def bsF (t q : Nat) : Nat := (if t = 0 then 8 else if t = 1 then 17 else if t = 2 then 21 else 24) + 18 * q
def bzF (t : Nat) : Nat := if t = 0 then 9 else if t = 1 then 4 else if t = 2 then 3 else 2
def SmT (t q : Nat) (g g' : MH) : Prop := (t = 0 → LandSm g g' 46 (8 + 18 * q)) ∧ (t = 1 → SeasonSm g g' 55 (17 + 18 * q)) ∧ (t = 2 → LedgerSm g g' 59 (21 + 18 * q)) ∧ (t = 3 → BargSm g g' 62 (24 + 18 * q))
def CT (T : Nat → Int) (len t q m : Nat) (g : MH) (r : Option MV) (g' : MH) : Prop := g'.2 = g.2 ∧ g'.1 1 1 = 0 ∧ (g'.1 1 2).toInt = ((fpX len (finS T len t)).1 : Int) ∧ (g'.1 1 3).toInt = (fpX len (finS T len t)).2 ∧ (((fpX len (finS T len t)).1 ≠ 0 ∧ r = some (.inl (-1)) ∧ ∀ c, c ≠ 1 → ¬ (45 ≤ c ∧ c ≤ 64) → g'.1 c = g.1 c) ∨ ((fpX len (finS T len t)).1 = 0 ∧ r = some (.inl (Int32.ofNat q)) ∧ (∀ c, c ≠ 1 → c ≠ 3 → ¬ (45 ≤ c ∧ c ≤ 64) → (c < bsF t q ∨ bsF t q + bzF t ≤ c) → g'.1 c = g.1 c) ∧ (∀ j, j ≠ t → g'.1 3 j = g.1 3 j) ∧ (g'.1 3 t).toInt = ((max m (q + 1) : Nat) : Int) ∧ ∃ gA, RecC t gA (finS T len t).2.1 (finS T len t).2.2 ∧ ovB (finS T len t) = false ∧ SmT t q gA g'))
theorem RecC.f1 (r : RecC t h R n) (e : ∀ c, 45 ≤ c → g.1 c = h.1 c) : RecC t g R n := by
  simp only [RecC, LandC, HeadC, BuyC, LetC, RoadC, SeasC, LedC, BargC, e 45 (by omega), e 46 (by omega), e 47 (by omega), e 48 (by omega), e 49 (by omega), e 50 (by omega), e 51 (by omega), e 52 (by omega), e 53 (by omega), e 54 (by omega), e 55 (by omega), e 56 (by omega), e 57 (by omega), e 58 (by omega), e 59 (by omega), e 60 (by omega), e 61 (by omega), e 62 (by omega), e 63 (by omega)]
  exact r
theorem c_keepAs (L : Lay g.2) (D : ToldAt g 1) (e1 : x1.toInt = (t : Int)) (ht : t < 4) (e2 : x2.toInt = (q : Int)) (q2 : q < 2) : Wc rod (d + 2) 54 [.inr (.inr (.inl (some 45))), .inl x1, .inl x2] g (fun r g' => r = none ∧ Mv g g' (bsF t q) (bsF t q + bzF t) ∧ SmT t q g g') := by
  have D2 := D.2.2.2 q q2
  refine n_Reader_keepAs ?_
  refine w_Reader_keepAs_0 (fun c => absurd c (by omega)) (fun _ => ?_)
  refine w_Reader_keepAs_4 (fun _ => ?_) (fun c => absurd (by omega) c)
  refine w_Reader_keepAs_10 (fun c => ?_) (fun c => ?_) (fun c => ?_) ?_
  · obtain rfl : t = 0 := by omega
    have e4 : g.2.1 4 x2.toNatClampNeg = some (8 + 18 * q) := by rw [n_eq e2]; exact D2.1
    have la : LandA g.2 (8 + 18 * q) := D2.2.1.a
    refine w_Reader_keepAs_36 L (by omega) (by rw [e4]; exact gO_of (la.1 0 _ rfl)) (Q1 := fun r g' => r = none ∧ Mv g g' (8 + 18 * q) (8 + 18 * q + 9) ∧ LandSm g g' 46 (8 + 18 * q)) (Wc.recv e4 (c_landB la L.la (by omega))) ?_
    rintro _ g' ⟨rfl, M, s⟩
    refine w_Reader_keepAs_52 ?_
    refine w_Reader_keepAs_109 ?_
    exact ⟨rfl, M, fun _ => s, fun z => absurd z (by decide), fun z => absurd z (by decide), fun z => absurd z (by decide)⟩
  · obtain rfl : t = 1 := by rw [e1] at c; have c : (t : Int) = 1 := c; omega
    have e4 : g.2.1 5 x2.toNatClampNeg = some (17 + 18 * q) := by rw [n_eq e2]; exact D2.2.2.1
    have la : SeasonA g.2 (17 + 18 * q) := D2.2.2.2.1.a
    refine w_Reader_keepAs_55 L (by omega) (by rw [e4]; exact gO_of (la.1 0 _ rfl)) (Q1 := fun r g' => r = none ∧ Mv g g' (17 + 18 * q) (17 + 18 * q + 4) ∧ SeasonSm g g' 55 (17 + 18 * q)) (Wc.recv e4 (c_seasonB la L.sea (by omega))) ?_
    rintro _ g' ⟨rfl, M, s⟩
    refine w_Reader_keepAs_71 ?_
    refine w_Reader_keepAs_109 ?_
    exact ⟨rfl, M, fun z => absurd z (by decide), fun _ => s, fun z => absurd z (by decide), fun z => absurd z (by decide)⟩
  · obtain rfl : t = 2 := by rw [e1] at c; have c : (t : Int) = 2 := c; omega
    have e4 : g.2.1 6 x2.toNatClampNeg = some (21 + 18 * q) := by rw [n_eq e2]; exact D2.2.2.2.2.1
    have la : LedgerA g.2 (21 + 18 * q) := D2.2.2.2.2.2.1.a
    refine w_Reader_keepAs_74 L (by omega) (by rw [e4]; exact gO_of (la.1 0 _ rfl)) (Q1 := fun r g' => r = none ∧ Mv g g' (21 + 18 * q) (21 + 18 * q + 3) ∧ LedgerSm g g' 59 (21 + 18 * q)) (Wc.recv e4 (c_ledgerB la L.led (by omega))) ?_
    rintro _ g' ⟨rfl, M, s⟩
    refine w_Reader_keepAs_90 ?_
    refine w_Reader_keepAs_109 ?_
    exact ⟨rfl, M, fun z => absurd z (by decide), fun z => absurd z (by decide), fun _ => s, fun z => absurd z (by decide)⟩
  · intro n0 n1 n2
    rw [e1] at n0 n1 n2
    have n1 : (t : Int) ≠ 1 := n1
    have n2 : (t : Int) ≠ 2 := n2
    obtain rfl : t = 3 := by omega
    have e4 : g.2.1 7 x2.toNatClampNeg = some (24 + 18 * q) := by rw [n_eq e2]; exact D2.2.2.2.2.2.2.1
    have la : BargA g.2 (24 + 18 * q) := D2.2.2.2.2.2.2.2.a
    refine w_Reader_keepAs_93 L (by omega) (by rw [e4]; exact gO_of (la.1 0 _ rfl)) (Q1 := fun r g' => r = none ∧ Mv g g' (24 + 18 * q) (24 + 18 * q + 2) ∧ BargSm g g' 62 (24 + 18 * q)) (Wc.recv e4 (c_bargB la L.bar (by omega))) ?_
    rintro _ g' ⟨rfl, M, s⟩
    refine w_Reader_keepAs_109 ?_
    exact ⟨rfl, M, fun z => absurd z (by decide), fun z => absurd z (by decide), fun z => absurd z (by decide), fun _ => s⟩
theorem s_placeQ (L : Lay g.2) (ht : t < 4) (e1 : x1.toInt = (t : Int)) (em : (g.1 3 t).toInt = (m : Int)) (m2 : m ≤ 2) (hq : VQ x2 m q) : Tc rod (d + 1) 20 [.inr (.inr (.inl (some 1))), .inl x1, .inl x2] g (some (.inl (Int32.ofNat q))) g := by
  apply Wc.tc
  refine n_Told_placeFor ?_
  refine w_Told_placeFor_0 (fun c => absurd c (by omega)) (fun _ => ?_)
  refine w_Told_placeFor_4 (fun _ => ?_) (fun c => absurd (by omega) c)
  rcases hq with ⟨hx, hqm, hm⟩ | ⟨hx, hm⟩
  · refine w_Told_placeFor_12 (fun z => absurd hx z) (fun _ => ?_)
    refine w_Told_placeFor_17 L (by omega) ?_
    rw [n_eq e1]
    refine w_Told_placeFor_27 (fun z => absurd hx z) (fun _ => ?_)
    refine w_Told_placeFor_33 ?_
    refine w_Told_placeFor_43 (fun c => absurd c (by omega)) (fun _ => ?_)
    refine w_Told_placeFor_49 (fun c => absurd c (by rw [em]; show ¬ (2 : Int) ≤ (m : Int); omega)) (fun _ => ?_)
    refine w_Told_placeFor_55 ?_
    refine w_Told_placeFor_61 ?_
    exact ⟨by rw [ofN em (by omega), hqm], rfl⟩
  · refine w_Told_placeFor_12 (fun _ => ?_) (fun z => absurd z (by omega))
    refine w_Told_placeFor_26 ?_
    refine w_Told_placeFor_27 (fun _ => ?_) (fun z => absurd z (by omega))
    refine w_Told_placeFor_37 L (by omega) ?_
    rw [n_eq e1]
    refine w_Told_placeFor_43 (fun c => absurd c (by omega)) (fun _ => ?_)
    refine w_Told_placeFor_49 (fun c => absurd c (by omega)) (fun _ => ?_)
    refine w_Told_placeFor_55 ?_
    refine w_Told_placeFor_61 ?_
    exact ⟨by rw [ofN hx (by omega)], rfl⟩
theorem s_placeN (L : Lay g.2) (bad : ¬ (0 ≤ x1.toInt ∧ x1.toInt < 4) ∨ ∃ t m : Nat, t < 4 ∧ x1.toInt = (t : Int) ∧ (g.1 3 t).toInt = (m : Int) ∧ m ≤ 2 ∧ ((x2.toInt = -1 ∧ ¬ m < 2) ∨ (x2.toInt ≠ -1 ∧ ¬ (0 ≤ x2.toInt ∧ x2.toInt < (m : Int))))) : Tc rod (d + 1) 20 [.inr (.inr (.inl (some 1))), .inl x1, .inl x2] g (some (.inl (-2))) g := by
  apply Wc.tc
  refine n_Told_placeFor ?_
  rcases bad with b | ⟨t, m, ht, e1, em, m2, b⟩
  · refine w_Told_placeFor_0 (fun _ => ?_) (fun _ => ?_)
    · exact w_Told_placeFor_9 ⟨rfl, rfl⟩
    · refine w_Told_placeFor_4 (fun c => absurd c (by omega)) (fun _ => ?_)
      exact w_Told_placeFor_9 ⟨rfl, rfl⟩
  · refine w_Told_placeFor_0 (fun c => absurd c (by omega)) (fun _ => ?_)
    refine w_Told_placeFor_4 (fun _ => ?_) (fun c => absurd (by omega) c)
    rcases b with ⟨hx, hm⟩ | ⟨hx, hm⟩
    · refine w_Told_placeFor_12 (fun z => absurd hx z) (fun _ => ?_)
      refine w_Told_placeFor_17 L (by omega) ?_
      rw [n_eq e1]
      refine w_Told_placeFor_27 (fun z => absurd hx z) (fun _ => ?_)
      refine w_Told_placeFor_33 ?_
      refine w_Told_placeFor_43 (fun c => absurd c (by omega)) (fun _ => ?_)
      refine w_Told_placeFor_49 (fun _ => ?_) (fun c => absurd (by rw [em]; show (2 : Int) ≤ (m : Int); omega) c)
      refine w_Told_placeFor_59 ?_
      exact w_Told_placeFor_61 ⟨rfl, rfl⟩
    · refine w_Told_placeFor_12 (fun _ => ?_) (fun z => absurd z hx)
      refine w_Told_placeFor_26 ?_
      refine w_Told_placeFor_27 (fun _ => ?_) (fun z => absurd z hx)
      refine w_Told_placeFor_37 L (by omega) ?_
      rw [n_eq e1]
      refine w_Told_placeFor_43 (fun _ => ?_) (fun c => ?_)
      · refine w_Told_placeFor_59 ?_
        exact w_Told_placeFor_61 ⟨rfl, rfl⟩
      · refine w_Told_placeFor_49 (fun _ => ?_) (fun kc2 => absurd (show (g.1 3 t).toInt ≤ x2.toInt by omega) kc2)
        refine w_Told_placeFor_59 ?_
        exact w_Told_placeFor_61 ⟨rfl, rfl⟩
theorem c_takeTape (L : Lay g.2) {y1 y2 : Int32} : Wc rod (d + 1) 21 [.inr (.inr (.inl (some 1))), .inl y1, .inl y2] g (fun r g' => r = none ∧ g' = sI (sI (sI g 1 1 0) 1 2 y1) 1 3 y2) := by
  refine n_Told_takeTape ?_
  refine w_Told_takeTape_0 L ?_
  refine w_Told_takeTape_5 (h := sI g 1 1 0) L ?_
  refine w_Told_takeTape_10 (h := sI (sI g 1 1 0) 1 2 y1) L ?_
  refine w_Told_takeTape_15 ?_
  exact ⟨rfl, rfl⟩
theorem c_text_no (L : Lay g.2) (bad : ¬ (0 ≤ x1.toInt ∧ x1.toInt < 4) ∨ ∃ t m : Nat, t < 4 ∧ x1.toInt = (t : Int) ∧ (g.1 3 t).toInt = (m : Int) ∧ m ≤ 2 ∧ ((x2.toInt = -1 ∧ ¬ m < 2) ∨ (x2.toInt ≠ -1 ∧ ¬ (0 ≤ x2.toInt ∧ x2.toInt < (m : Int))))) : Wc rod (d + 9) 19 [.inr (.inr (.inl (some 0))), .inl x1, .inl x2] g (fun r g' => r = some (.inl (-2)) ∧ g' = sI (sI (sI g 1 1 0) 1 2 0) 1 3 (-1)) := by
  refine n_Main_text ?_
  refine w_Main_text_0 L (Tc.wc (s_placeN L bad)) (Is.k ?_)
  refine w_Main_text_9 rfl (fun z => absurd rfl z) (fun _ => ?_)
  refine w_Main_text_16 L (c_takeTape L) ?_
  rintro _ g' ⟨rfl, rfl⟩
  refine w_Main_text_25 ?_
  exact ⟨rfl, rfl⟩
theorem c_text_yes (hr : RokT rod) (L : Lay g.2) (D : ToldAt g 1) (E : EnvT g T len) (ht : t < 4) (e1 : x1.toInt = (t : Int)) (em : (g.1 3 t).toInt = (m : Int)) (m2 : m ≤ 2) (hq : VQ x2 m q) : Wc rod (d + 9) 19 [.inr (.inr (.inl (some 0))), .inl x1, .inl x2] g (fun r g' => CT T len t q m g r g') := by
  have q2 : q < 2 := by unfold VQ at hq; omega
  have eq : (Int32.ofNat q).toInt = (q : Int) := t_nat (by omega)
  refine n_Main_text ?_
  refine w_Main_text_0 L (Tc.wc (s_placeQ L ht e1 em m2 hq)) (Is.k ?_)
  refine w_Main_text_9 rfl (fun _ => ?_) (fun z => absurd z (by rw [eq]; show ¬ (q : Int) = -2; omega))
  refine w_Main_text_28 L (c_readTape hr L E ht e1) ?_
  rintro _ g1 ⟨rfl, F1, r11, r12, rc⟩
  have L1 := L.fr F1
  refine w_Main_text_36 L1 (c_takeTape L1) ?_
  rintro _ g2 ⟨rfl, hg2⟩
  have b2 : g2.2 = g1.2 := by rw [hg2]; rfl
  have o1 : g2.1 1 1 = 0 := by rw [hg2]; simp (disch := omega) only [sI_same, sI_nj]
  have o2 : g2.1 1 2 = g1.1 45 11 := by rw [hg2]; simp (disch := omega) only [sI_same, sI_nj]
  have o3 : g2.1 1 3 = g1.1 45 12 := by rw [hg2]; simp (disch := omega) only [sI_same, sI_nj]
  have oc : ∀ c, c ≠ 1 → g2.1 c = g1.1 c := fun c hc => by rw [hg2, sI_cell hc, sI_cell hc, sI_cell hc]
  have e2 : g2.2 = g.2 := b2.trans F1.1
  have L2 : Lay g2.2 := e2.symm ▸ L
  have sc : ∀ c, c ≠ 1 → ¬ (45 ≤ c ∧ c ≤ 64) → g2.1 c = g.1 c := fun c h1 h2 => by rw [oc c h1, F1.cell c (fun j => by unfold PK; omega)]
  by_cases f0 : ¬ (fpX len (finS T len t)).1 = 0
  · refine w_Main_text_57 L2 (fun z => absurd z (by rw [oc 45 (by decide), r11]; omega)) (fun _ => ?_)
    refine w_Main_text_67 ?_
    exact ⟨e2, o1, by rw [o2]; exact r11, by rw [o3]; exact r12, Or.inl ⟨f0, rfl, sc⟩⟩
  rw [Decidable.not_not] at f0
  have rc := rc f0
  refine w_Main_text_57 L2 (fun _ => ?_) (fun z => absurd (by rw [oc 45 (by decide), r11, f0]; rfl) z)
  have rc2 : RecC t g2 (finS T len t).2.1 (finS T len t).2.2 := rc.1.f1 (fun c hc => oc c (by omega))
  refine w_Main_text_69 L2 (c_keepAs L2 (D.kp e2) e1 ht eq q2) ?_
  rintro _ g3 ⟨rfl, M3, S3⟩
  have e3 : g3.2 = g.2 := M3.1.trans e2
  have bs : 8 ≤ bsF t q ∧ bsF t q + bzF t ≤ 44 := by
    unfold bsF bzF
    repeat' split
    all_goals omega
  have em3 : (g3.1 3 t).toInt = (m : Int) := by rw [M3.2 3 (by omega), sc 3 (by decide) (by decide)]; exact em
  refine w_Main_text_78 (e3.symm ▸ L) (by omega) ?_
  rw [n_eq e1]
  refine w_Main_text_102 ?_
  have k3 : ∀ c, c ≠ 3 → (sI g3 3 t (if (g3.1 3 t) < (Int32.ofNat q + (1 : Int32)) then (Int32.ofNat q + (1 : Int32)) else (g3.1 3 t))).1 c = g3.1 c := fun c hc => sI_cell hc
  refine ⟨e3, ?_, ?_, ?_, Or.inr ⟨f0, rfl, fun c h1 h3 h4 h5 => ?_, fun j hj => ?_, ?_, g2, rc2, rc.2, ?_⟩⟩
  · rw [k3 1 (by decide), M3.2 1 (by omega)]; exact o1
  · rw [k3 1 (by decide), M3.2 1 (by omega), o2]; exact r11
  · rw [k3 1 (by decide), M3.2 1 (by omega), o3]; exact r12
  · rw [k3 c h3, M3.2 c h5, sc c h1 h4]
  · rw [sI_nj hj, M3.2 3 (by omega), sc 3 (by decide) (by decide)]
  · rw [sI_same]
    have es := t_succ eq (by omega)
    by_cases z : m < q + 1
    · rw [if_pos (Int32.lt_iff_toInt_lt.mpr (by rw [em3, es]; omega)), es]
      congr 1
      omega
    · rw [if_neg (fun y => by have := Int32.lt_iff_toInt_lt.mp y; rw [em3, es] at this; omega), em3]
      congr 1
      omega
  · refine ⟨fun z => (S3.1 z).kp (fun _ _ _ => rfl) (fun c h1 h2 => k3 c (by omega)), fun z => (S3.2.1 z).kp (fun _ _ _ => rfl) (fun c h1 h2 => k3 c (by omega)), fun z => (S3.2.2.1 z).kp (fun _ _ _ => rfl) (fun c h1 h2 => k3 c (by omega)), fun z => (S3.2.2.2 z).kp (fun _ _ _ => rfl) (fun c h1 h2 => k3 c (by omega))⟩
end M97g
