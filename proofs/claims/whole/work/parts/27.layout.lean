/-! WHERE EVERYTHING LIES, and how the class's numbers agree with the reference's -/
def blkLand : List (Nat × Nat) := [(11, 14), (0, 8), (0, 8), (0, 8), (0, 8), (0, 8), (0, 4), (0, 4), (0, 36)]
def blkSeason : List (Nat × Nat) := [(16, 4), (0, 40), (0, 40), (0, 40)]
def blkLedger : List (Nat × Nat) := [(12, 3), (0, 20), (0, 20)]
def blkBarg : List (Nat × Nat) := [(10, 2), (0, 16)]
def blkHalf : List (Nat × Nat) := blkLand ++ (blkSeason ++ (blkLedger ++ blkBarg))
def blkTold : List (Nat × Nat) := [(18, 9), (1, 600), (0, 4), (4, 2), (5, 2), (6, 2), (7, 2)] ++ (blkHalf ++ blkHalf)
def blkModel : List (Nat × Nat) := [(22, 46), (0, 4584), (2, 3), (0, 121), (0, 8), (0, 8), (0, 8), (0, 8), (0, 36), (0, 5), (0, 5), (0, 4), (0, 210), (0, 4)]
def blkRest : List (Nat × Nat) := [(19, 12), (0, 8), (0, 8), (0, 8), (0, 8), (20, 8), (0, 36), (0, 6), (0, 6), (0, 6), (14, 4), (0, 4), (0, 4), (17, 4), (0, 4), (0, 4), (0, 16), (13, 1), (0, 210)]
def SH0 : List (Nat × Nat) := [(21, 8)] ++ (blkTold ++ ([(3, 3), (15, 13)] ++ (blkHalf ++ ([(0, 4)] ++ (blkRest ++ blkModel)))))
theorem SH0_len : SH0.length = 98 := by decide
theorem blkTold_len : blkTold.length = 43 := by decide
/-- cells of these shapes lie from a on -/
def ShAt (h : MH) (a : Nat) (S : List (Nat × Nat)) : Prop := ∀ (j : Nat) (q : Nat × Nat), S[j]? = some q → h.2.2[a + j]? = some q
def LandAt (h : MH) (a : Nat) : Prop := ShAt h a blkLand ∧ ∀ k, k < 8 → h.2.1 a (6 + k) = some (a + 1 + k)
def SeasonAt (h : MH) (a : Nat) : Prop := ShAt h a blkSeason ∧ ∀ k, k < 3 → h.2.1 a (1 + k) = some (a + 1 + k)
def LedgerAt (h : MH) (a : Nat) : Prop := ShAt h a blkLedger ∧ ∀ k, k < 2 → h.2.1 a (1 + k) = some (a + 1 + k)
def BargAt (h : MH) (a : Nat) : Prop := ShAt h a blkBarg ∧ h.2.1 a 1 = some (a + 1)
def ToldAt (h : MH) (T : Nat) : Prop := ShAt h T [(18, 9), (1, 600), (0, 4), (4, 2), (5, 2), (6, 2), (7, 2)] ∧ h.2.1 T 0 = some (T + 1) ∧ (∀ k, k < 5 → h.2.1 T (4 + k) = some (T + 2 + k)) ∧
  ∀ k, k < 2 → h.2.1 (T + 3) k = some (T + 7 + 18 * k) ∧ LandAt h (T + 7 + 18 * k) ∧ h.2.1 (T + 4) k = some (T + 16 + 18 * k) ∧ SeasonAt h (T + 16 + 18 * k) ∧ h.2.1 (T + 5) k = some (T + 20 + 18 * k) ∧ LedgerAt h (T + 20 + 18 * k) ∧ h.2.1 (T + 6) k = some (T + 23 + 18 * k) ∧ BargAt h (T + 23 + 18 * k)
/-- the class's own objects, the images apart -/
def MainAt (h : MH) : Prop := ShAt h 0 [(21, 8)] ∧ h.2.1 0 0 = some 1 ∧ h.2.1 0 1 = some 44 ∧ h.2.1 0 2 = some 45 ∧ h.2.1 0 3 = some 65 ∧ h.2.1 0 4 = some 70 ∧ h.2.1 0 5 = some 75 ∧ h.2.1 0 6 = some 78 ∧ h.2.1 0 7 = some 82 ∧ ToldAt h 1 ∧ ShAt h 44 [(3, 3), (15, 13)] ∧
  h.2.1 45 0 = some 1 ∧ h.2.1 45 1 = some 46 ∧ h.2.1 45 2 = some 55 ∧ h.2.1 45 3 = some 59 ∧ h.2.1 45 4 = some 62 ∧ h.2.1 45 5 = some 64 ∧ LandAt h 46 ∧ SeasonAt h 55 ∧ LedgerAt h 59 ∧ BargAt h 62 ∧ ShAt h 64 ((0, 4) :: blkRest) ∧
  (∀ k, k < 4 → h.2.1 65 (8 + k) = some (66 + k)) ∧ (∀ k, k < 4 → h.2.1 70 (1 + k) = some (71 + k)) ∧ (∀ k, k < 2 → h.2.1 75 k = some (76 + k)) ∧ (∀ k, k < 3 → h.2.1 78 (1 + k) = some (79 + k)) ∧ h.2.1 82 0 = some 83
/-- the reference's own -/
def ModelAt (h : MH) : Prop := ShAt h 84 blkModel ∧ h.2.1 84 0 = some 85 ∧ h.2.1 84 1 = some 86 ∧ h.2.1 84 10 = some 87 ∧ (∀ k, k < 4 → h.2.1 84 (16 + k) = some (88 + k)) ∧ (∀ k, k < 3 → h.2.1 84 (29 + k) = some (92 + k)) ∧ h.2.1 84 34 = some 95 ∧ h.2.1 84 37 = some 96 ∧ h.2.1 84 44 = some 97
/-- a number from .. to .. -/
def bw (x : Int32) (lo hi : Int) : Prop := lo ≤ x.toInt ∧ x.toInt ≤ hi
/-- a land of the class at a, of the reference at l of 'all' -/
def LandRel (h : MH) (a l : Nat) : Prop :=
  h.1 a 0 = h.1 85 l ∧ h.1 a 4 = h.1 85 (l + 1) ∧ h.1 a 5 = h.1 85 (l + 2) ∧ h.1 a 1 = h.1 85 (l + 3) ∧ h.1 a 2 = h.1 85 (l + 4) ∧ h.1 a 3 = h.1 85 (l + 5) ∧
  bw (h.1 a 0) 1 6 ∧ bw (h.1 a 4) 0 8 ∧ bw (h.1 a 5) 0 4 ∧ bw (h.1 a 1) 0 5 ∧ bw (h.1 a 2) 0 5 ∧ bw (h.1 a 3) 0 63 ∧
  (∀ b : Nat, (b : Int) < (h.1 a 4).toInt → (∀ k, k < 5 → h.1 (a + 1 + k) b = h.1 85 (l + 6 + 5 * b + k)) ∧ bw (h.1 (a + 1) b) 0 3 ∧ bw (h.1 (a + 2) b) 0 5 ∧ bw (h.1 (a + 3) b) 0 99 ∧ bw (h.1 (a + 4) b) 0 99 ∧ bw (h.1 (a + 5) b) 0 9 ∧ (h.1 (a + 2) b).toInt < (h.1 a 0).toInt) ∧
  (∀ t : Nat, (t : Int) < (h.1 a 5).toInt → h.1 (a + 6) t = h.1 85 (l + 46 + 2 * t) ∧ h.1 (a + 7) t = h.1 85 (l + 47 + 2 * t) ∧ bw (h.1 (a + 6) t) 1 60 ∧ bw (h.1 (a + 7) t) 0 60) ∧
  ∀ i : Nat, i < 36 → h.1 (a + 8) i = h.1 85 (l + 54 + i) ∧ bw (h.1 (a + 8) i) 0 9
def SeasonRel (h : MH) (a l : Nat) : Prop := h.1 a 0 = h.1 85 l ∧ bw (h.1 a 0) 0 40 ∧ ∀ k : Nat, (k : Int) < (h.1 a 0).toInt → h.1 (a + 1) k = h.1 85 (l + 1 + 3 * k) ∧ h.1 (a + 2) k = h.1 85 (l + 2 + 3 * k) ∧ h.1 (a + 3) k = h.1 85 (l + 3 + 3 * k) ∧ bw (h.1 (a + 1) k) 0 6 ∧ bw (h.1 (a + 2) k) (-1) 7 ∧ bw (h.1 (a + 3) k) (-1) 60 ∧
  (((h.1 (a + 1) k).toInt < 5 → 0 ≤ (h.1 (a + 2) k).toInt) ∧ (2 ≤ (h.1 (a + 1) k).toInt → (h.1 (a + 2) k).toInt ≤ 5) ∧ ((h.1 (a + 1) k).toInt = 0 → bw (h.1 (a + 3) k) 0 3) ∧ ((h.1 (a + 1) k).toInt = 1 → bw (h.1 (a + 3) k) 1 60))
def LedgerRel (h : MH) (a l : Nat) : Prop := h.1 a 0 = h.1 85 l ∧ bw (h.1 a 0) 0 20 ∧ ∀ k : Nat, (k : Int) < (h.1 a 0).toInt → h.1 (a + 1) k = h.1 85 (l + 1 + 2 * k) ∧ h.1 (a + 2) k = h.1 85 (l + 2 + 2 * k) ∧ bw (h.1 (a + 1) k) 0 3 ∧ bw (h.1 (a + 2) k) 0 99 ∧ ((h.1 (a + 1) k).toInt = 3 → (h.1 (a + 2) k).toInt ≤ 5)
def BargRel (h : MH) (a l : Nat) : Prop := h.1 a 0 = h.1 85 l ∧ bw (h.1 a 0) 1 4 ∧ h.1 (a + 1) 0 = 0 ∧ ∀ s : Nat, 1 ≤ s → s < 16 → h.1 (a + 1) s = h.1 85 (l + s) ∧ bw (h.1 (a + 1) s) 0 40
/-- all that is told, of the class at T, of the reference from M on in 'all' -/
def TRel (h : MH) (T M : Nat) : Prop :=
  h.1 T 1 = h.1 85 (M + 4) ∧ h.1 T 2 = h.1 85 (M + 5) ∧ h.1 T 3 = h.1 85 (M + 6) ∧ bw (h.1 T 1) 0 600 ∧ (∀ s, s < 4 → h.1 (T + 2) s = h.1 85 (M + s) ∧ bw (h.1 (T + 2) s) 0 2) ∧
  (∀ p : Nat, (p : Int) < (h.1 T 1).toInt → h.1 85 (M + 10 + p) = (h.1 (T + 1) p) &&& 255 ∧ bw (h.1 (T + 1) p) (-128) 127) ∧
  (∀ k : Nat, (k : Int) < (h.1 (T + 2) 0).toInt → LandRel h (T + 7 + 18 * k) (M + 610 + 90 * k)) ∧ (∀ k : Nat, (k : Int) < (h.1 (T + 2) 1).toInt → SeasonRel h (T + 16 + 18 * k) (M + 790 + 121 * k)) ∧ (∀ k : Nat, (k : Int) < (h.1 (T + 2) 2).toInt → LedgerRel h (T + 20 + 18 * k) (M + 1032 + 41 * k)) ∧ ∀ k : Nat, (k : Int) < (h.1 (T + 2) 3).toInt → BargRel h (T + 23 + 18 * k) (M + 1114 + 16 * k)
/-- most coins in n months by trust t -/
def planF : Nat → Nat → Nat
  | 0, _ => 0
  | n + 1, t => max (max (t + planF n (t - 1)) (planF n (min 9 (t + 1)))) (3 * t + planF n (t / 2))
/-- image k: not made yet, or Told cells of its own, which agree -/
def ImgRel (h : MH) (k : Nat) : Prop := (h.2.1 44 k = none ∧ h.1 86 k = 0) ∨ ∃ T, h.2.1 44 k = some T ∧ 98 ≤ T ∧ h.1 86 k = 1 ∧ ToldAt h T ∧ TRel h T (1146 * (k + 1))
def INV (h : MH) : Prop := (∃ m, m ≤ 3 ∧ h.2.2 = SH0 ++ (List.replicate m blkTold).flatten) ∧ MainAt h ∧ ModelAt h ∧ TRel h 1 0 ∧ (∀ k, k < 3 → ImgRel h k) ∧ (∀ i j T U, i < 3 → j < 3 → i ≠ j → h.2.1 44 i = some T → h.2.1 44 j = some U → T + 43 ≤ U ∨ U + 43 ≤ T) ∧ ∀ n t, n ≤ 20 → t ≤ 9 → h.1 83 (10 * n + t) = Int32.ofNat (planF n t)
set_option maxRecDepth 20000 in
theorem INV_bd {h : MH} (hI : INV h) : h.2.2.length ≤ 600000 ∧ slo h.2.2 ≤ 7302250 := by
  obtain ⟨⟨m, hm, hs⟩, -⟩ := hI
  rw [hs]
  rcases (show m = 0 ∨ m = 1 ∨ m = 2 ∨ m = 3 by omega) with rfl | rfl | rfl | rfl <;> decide
theorem ShAt.get {h : MH} {a : Nat} {S : List (Nat × Nat)} (hs : ShAt h a S) (j : Nat) {k n : Nat} (hj : S[j]? = some (k, n)) : h.2.2[a + j]? = some (k, n) := hs j (k, n) hj
theorem INV_g0 {h : MH} (hI : INV h) : gO h (some 0) 21 = true := gO_of (hI.2.1.1.get 0 rfl)
theorem INV_g84 {h : MH} (hI : INV h) : gO h (some 84) 22 = true := gO_of (hI.2.2.1.1.get 0 rfl)
/-- loan -/
theorem opI_loan {rod : Nat → Nat × (Nat → Int32)} (a b c e : Int32) : OpI INV rod 165 273 [a, b, c, e] := by
  intro h hI
  obtain ⟨v, hc, hm⟩ := op_loan (rod := rod) (d := 97) h (some 0) (some 84) a b c e
  exact ⟨v, h, h, INV_g84 hI, hc, hm, hI⟩
