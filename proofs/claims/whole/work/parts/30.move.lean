/-! WHAT IS TOLD MOVES: the same numbers elsewhere agree as well -/
section S30
variable {h h' : MH} {a a' l l' T T' M M' : Nat}
theorem LandRel.mv (r : LandRel h a l) (f0 : ∀ j, j < 6 → h'.1 a' j = h.1 a j) (f1 : ∀ c j, c < 5 → j < 8 → h'.1 (a' + 1 + c) j = h.1 (a + 1 + c) j) (f2 : ∀ c j, c < 2 → j < 4 → h'.1 (a' + 6 + c) j = h.1 (a + 6 + c) j) (f3 : ∀ j, j < 36 → h'.1 (a' + 8) j = h.1 (a + 8) j) (h85 : ∀ j, j < 90 → h'.1 85 (l' + j) = h.1 85 (l + j)) : LandRel h' a' l' := by
  obtain ⟨r1, r2, r3, r4, r5, r6, r7, r8, r9, r10, r11, r12, r13, r14, r15⟩ := r
  have z := h85 0 (by omega)
  simp only [Nat.add_zero] at z
  simp only [LandRel, f0 0 (by omega), f0 1 (by omega), f0 2 (by omega), f0 3 (by omega), f0 4 (by omega), f0 5 (by omega), z, h85 1 (by omega), h85 2 (by omega), h85 3 (by omega), h85 4 (by omega), h85 5 (by omega)]
  refine ⟨r1, r2, r3, r4, r5, r6, r7, r8, r9, r10, r11, r12, fun b hb => ?_, fun t ht => ?_, fun i hi => ?_⟩
  · obtain ⟨q, q1, q2, q3, q4, q5, q6⟩ := r13 b hb
    have hb8 : b < 8 := by have := r8.2; omega
    have e1 := f1 0 b (by omega) hb8
    have e2 : h'.1 (a' + 2) b = h.1 (a + 2) b := f1 1 b (by omega) hb8
    have e3 : h'.1 (a' + 3) b = h.1 (a + 3) b := f1 2 b (by omega) hb8
    have e4 : h'.1 (a' + 4) b = h.1 (a + 4) b := f1 3 b (by omega) hb8
    have e5 : h'.1 (a' + 5) b = h.1 (a + 5) b := f1 4 b (by omega) hb8
    simp only [Nat.add_zero] at e1
    rw [e1, e2, e3, e4, e5]
    refine ⟨fun k hk => ?_, q1, q2, q3, q4, q5, q6⟩
    rw [f1 k b hk hb8, q k hk]
    have := h85 (6 + 5 * b + k) (by omega)
    simp only [← Nat.add_assoc] at this
    exact this.symm
  · obtain ⟨q1, q2, q3, q4⟩ := r14 t ht
    have ht4 : t < 4 := by have := r9.2; omega
    have e1 : h'.1 (a' + 6) t = h.1 (a + 6) t := f2 0 t (by omega) ht4
    have e2 : h'.1 (a' + 7) t = h.1 (a + 7) t := f2 1 t (by omega) ht4
    rw [e1, e2]
    have z1 := h85 (46 + 2 * t) (by omega)
    have z2 := h85 (47 + 2 * t) (by omega)
    simp only [← Nat.add_assoc] at z1 z2
    rw [z1, z2]
    exact ⟨q1, q2, q3, q4⟩
  · rw [f3 i hi]
    have z := h85 (54 + i) (by omega)
    simp only [← Nat.add_assoc] at z
    rw [z]
    exact r15 i hi
theorem SeasonRel.mv (r : SeasonRel h a l) (f0 : h'.1 a' 0 = h.1 a 0) (f1 : ∀ c j, c < 3 → j < 40 → h'.1 (a' + 1 + c) j = h.1 (a + 1 + c) j) (h85 : ∀ j, j < 121 → h'.1 85 (l' + j) = h.1 85 (l + j)) : SeasonRel h' a' l' := by
  obtain ⟨r1, r2, r3⟩ := r
  have z := h85 0 (by omega)
  simp only [Nat.add_zero] at z
  simp only [SeasonRel, f0, z]
  refine ⟨r1, r2, fun k hk => ?_⟩
  have hk4 : k < 40 := by have := r2.2; omega
  have e1 : h'.1 (a' + 1) k = h.1 (a + 1) k := f1 0 k (by omega) hk4
  have e2 : h'.1 (a' + 2) k = h.1 (a + 2) k := f1 1 k (by omega) hk4
  have e3 : h'.1 (a' + 3) k = h.1 (a + 3) k := f1 2 k (by omega) hk4
  have z1 := h85 (1 + 3 * k) (by omega)
  have z2 := h85 (2 + 3 * k) (by omega)
  have z3 := h85 (3 + 3 * k) (by omega)
  simp only [← Nat.add_assoc] at z1 z2 z3
  rw [e1, e2, e3, z1, z2, z3]
  exact r3 k hk
theorem LedgerRel.mv (r : LedgerRel h a l) (f0 : h'.1 a' 0 = h.1 a 0) (f1 : ∀ c j, c < 2 → j < 20 → h'.1 (a' + 1 + c) j = h.1 (a + 1 + c) j) (h85 : ∀ j, j < 41 → h'.1 85 (l' + j) = h.1 85 (l + j)) : LedgerRel h' a' l' := by
  obtain ⟨r1, r2, r3⟩ := r
  have z := h85 0 (by omega)
  simp only [Nat.add_zero] at z
  simp only [LedgerRel, f0, z]
  refine ⟨r1, r2, fun k hk => ?_⟩
  have hk4 : k < 20 := by have := r2.2; omega
  have e1 : h'.1 (a' + 1) k = h.1 (a + 1) k := f1 0 k (by omega) hk4
  have e2 : h'.1 (a' + 2) k = h.1 (a + 2) k := f1 1 k (by omega) hk4
  have z1 := h85 (1 + 2 * k) (by omega)
  have z2 := h85 (2 + 2 * k) (by omega)
  simp only [← Nat.add_assoc] at z1 z2
  rw [e1, e2, z1, z2]
  exact r3 k hk
theorem BargRel.mv (r : BargRel h a l) (f0 : h'.1 a' 0 = h.1 a 0) (f1 : ∀ j, j < 16 → h'.1 (a' + 1) j = h.1 (a + 1) j) (h85 : ∀ j, j < 16 → h'.1 85 (l' + j) = h.1 85 (l + j)) : BargRel h' a' l' := by
  obtain ⟨r1, r2, r3, r4⟩ := r
  have z := h85 0 (by omega)
  simp only [Nat.add_zero] at z
  simp only [BargRel, f0, z, f1 0 (by omega)]
  refine ⟨r1, r2, r3, fun s h1 h2 => ?_⟩
  rw [f1 s h2, h85 s h2]
  exact r4 s h1 h2
/-- the same numbers of all that is told, the tape and its three numbers apart -/
def TSame (h h' : MH) (T T' : Nat) : Prop := (∀ j, j < 4 → h'.1 (T' + 2) j = h.1 (T + 2) j) ∧ ∀ k, k < 2 →
  (∀ j, j < 6 → h'.1 (T' + 7 + 18 * k) j = h.1 (T + 7 + 18 * k) j) ∧ (∀ c j, c < 5 → j < 8 → h'.1 (T' + 7 + 18 * k + 1 + c) j = h.1 (T + 7 + 18 * k + 1 + c) j) ∧ (∀ c j, c < 2 → j < 4 → h'.1 (T' + 7 + 18 * k + 6 + c) j = h.1 (T + 7 + 18 * k + 6 + c) j) ∧ (∀ j, j < 36 → h'.1 (T' + 7 + 18 * k + 8) j = h.1 (T + 7 + 18 * k + 8) j) ∧
  (h'.1 (T' + 16 + 18 * k) 0 = h.1 (T + 16 + 18 * k) 0) ∧ (∀ c j, c < 3 → j < 40 → h'.1 (T' + 16 + 18 * k + 1 + c) j = h.1 (T + 16 + 18 * k + 1 + c) j) ∧
  (h'.1 (T' + 20 + 18 * k) 0 = h.1 (T + 20 + 18 * k) 0) ∧ (∀ c j, c < 2 → j < 20 → h'.1 (T' + 20 + 18 * k + 1 + c) j = h.1 (T + 20 + 18 * k + 1 + c) j) ∧
  (h'.1 (T' + 23 + 18 * k) 0 = h.1 (T + 23 + 18 * k) 0) ∧ (∀ j, j < 16 → h'.1 (T' + 23 + 18 * k + 1) j = h.1 (T + 23 + 18 * k + 1) j)
theorem TRel.mv (r : TRel h T M) (s : TSame h h' T T') (m : ∀ j, j < 4 → h'.1 85 (M' + j) = h.1 85 (M + j)) (h85 : ∀ j, 610 ≤ j → j < 1146 → h'.1 85 (M' + j) = h.1 85 (M + j)) (t1 : h'.1 T' 1 = h'.1 85 (M' + 4)) (t2 : h'.1 T' 2 = h'.1 85 (M' + 5)) (t3 : h'.1 T' 3 = h'.1 85 (M' + 6)) (t4 : bw (h'.1 T' 1) 0 600) (t5 : ∀ p : Nat, (p : Int) < (h'.1 T' 1).toInt → h'.1 85 (M' + 10 + p) = (h'.1 (T' + 1) p) &&& 255 ∧ bw (h'.1 (T' + 1) p) (-128) 127) : TRel h' T' M' := by
  obtain ⟨r1, r2, r3, r4, r5, r6, r7, r8, r9, r10⟩ := r
  obtain ⟨s0, s1⟩ := s
  refine ⟨t1, t2, t3, t4, fun j hj => ?_, t5, fun k hk => ?_, fun k hk => ?_, fun k hk => ?_, fun k hk => ?_⟩
  · rw [s0 j hj, m j hj]
    exact r5 j hj
  · rw [s0 0 (by omega)] at hk
    have hk2 : k < 2 := by have := (r5 0 (by omega)).2.2; omega
    obtain ⟨z1, z2, z3, z4, z5, z6, z7, z8, z9, z10⟩ := s1 k hk2
    exact (r7 k hk).mv z1 z2 z3 z4 (fun j hj => by have := h85 (610 + 90 * k + j) (by omega) (by omega); simp only [← Nat.add_assoc] at this; exact this)
  · rw [s0 1 (by omega)] at hk
    have hk2 : k < 2 := by have := (r5 1 (by omega)).2.2; omega
    obtain ⟨z1, z2, z3, z4, z5, z6, z7, z8, z9, z10⟩ := s1 k hk2
    exact (r8 k hk).mv z5 z6 (fun j hj => by have := h85 (790 + 121 * k + j) (by omega) (by omega); simp only [← Nat.add_assoc] at this; exact this)
  · rw [s0 2 (by omega)] at hk
    have hk2 : k < 2 := by have := (r5 2 (by omega)).2.2; omega
    obtain ⟨z1, z2, z3, z4, z5, z6, z7, z8, z9, z10⟩ := s1 k hk2
    exact (r9 k hk).mv z7 z8 (fun j hj => by have := h85 (1032 + 41 * k + j) (by omega) (by omega); simp only [← Nat.add_assoc] at this; exact this)
  · rw [s0 3 (by omega)] at hk
    have hk2 : k < 2 := by have := (r5 3 (by omega)).2.2; omega
    obtain ⟨z1, z2, z3, z4, z5, z6, z7, z8, z9, z10⟩ := s1 k hk2
    exact (r10 k hk).mv z9 z10 (fun j hj => by have := h85 (1114 + 16 * k + j) (by omega) (by omega); simp only [← Nat.add_assoc] at this; exact this)
theorem TSame.cells (f : ∀ c, T + 2 ≤ c → c < T + 43 → h'.1 c = h.1 c) : TSame h h' T T := by
  refine ⟨fun j hj => by rw [f _ (by omega) (by omega)], fun k hk => ?_⟩
  exact ⟨fun j hj => by rw [f _ (by omega) (by omega)], fun c j hc hj => by rw [f _ (by omega) (by omega)], fun c j hc hj => by rw [f _ (by omega) (by omega)], fun j hj => by rw [f _ (by omega) (by omega)], by rw [f _ (by omega) (by omega)], fun c j hc hj => by rw [f _ (by omega) (by omega)], by rw [f _ (by omega) (by omega)], fun c j hc hj => by rw [f _ (by omega) (by omega)], by rw [f _ (by omega) (by omega)], fun j hj => by rw [f _ (by omega) (by omega)]⟩
/-- the tape and its numbers changed, in both alike -/
theorem INV.tape (hI : INV h) (e : h'.2 = h.2) (f : ∀ c, ¬ Scr c → c ≠ 1 → c ≠ 2 → c ≠ 85 → h'.1 c = h.1 c) (f85 : ∀ j, j < 4 ∨ 610 ≤ j → h'.1 85 j = h.1 85 j) (t1 : h'.1 1 1 = h'.1 85 4) (t2 : h'.1 1 2 = h'.1 85 5) (t3 : h'.1 1 3 = h'.1 85 6) (t4 : bw (h'.1 1 1) 0 600) (t5 : ∀ p : Nat, (p : Int) < (h'.1 1 1).toInt → h'.1 85 (10 + p) = (h'.1 2 p) &&& 255 ∧ bw (h'.1 2 p) (-128) 127) : INV h' := by
  obtain ⟨i1, i2, i3, i4, i5, i6, i7⟩ := hI
  have e83 : h'.1 83 = h.1 83 := f 83 (by simp only [Scr]; omega) (by omega) (by omega) (by omega)
  have e86 : h'.1 86 = h.1 86 := f 86 (by simp only [Scr]; omega) (by omega) (by omega) (by omega)
  refine ⟨by rw [e]; exact i1, ?_, ?_, ?_, ?_, by rw [e]; exact i6, by rw [e83]; exact i7⟩
  · simp only [MainAt, ToldAt, LandAt, SeasonAt, LedgerAt, BargAt, ShAt, e] at i2 ⊢
    exact i2
  · simp only [ModelAt, ShAt, e] at i3 ⊢
    exact i3
  · refine i4.mv (TSame.cells (fun c h1 h2 => f c (by simp only [Scr]; omega) (by omega) (by omega) (by omega))) (fun j hj => ?_) (fun j h1 h2 => ?_) t1 t2 t3 t4 (fun p hp => ?_)
    · exact f85 _ (by omega)
    · exact f85 _ (by omega)
    · simp only [Nat.zero_add]
      exact t5 p hp
  · intro k hk
    rcases i5 k hk with ⟨a, b⟩ | ⟨T, a, b, c, t, r⟩
    · exact Or.inl ⟨by rw [e]; exact a, by rw [e86]; exact b⟩
    · have fT : ∀ c, T ≤ c → c < T + 43 → h'.1 c = h.1 c := fun c h1 h2 => f c (by simp only [Scr]; omega) (by omega) (by omega) (by omega)
      have g85 : ∀ j, h'.1 85 (1146 * (k + 1) + j) = h.1 85 (1146 * (k + 1) + j) := fun j => f85 _ (by omega)
      have eT := fT T (by omega) (by omega)
      have eT1 := fT (T + 1) (by omega) (by omega)
      obtain ⟨q1, q2, q3, q4, q5, q6, q7⟩ := r
      refine Or.inr ⟨T, by rw [e]; exact a, b, by rw [e86]; exact c, ?_, ?_⟩
      · simp only [ToldAt, LandAt, SeasonAt, LedgerAt, BargAt, ShAt, e] at t ⊢
        exact t
      · refine TRel.mv ⟨q1, q2, q3, q4, q5, q6, q7⟩ (TSame.cells (fun c h1 h2 => fT c (by omega) h2)) (fun j _ => g85 j) (fun j _ _ => g85 j) ?_ ?_ ?_ ?_ ?_
        · rw [eT, g85]; exact q1
        · rw [eT, g85]; exact q2
        · rw [eT, g85]; exact q3
        · rw [eT]; exact q4
        · intro p hp
          rw [eT] at hp
          have := g85 (10 + p)
          simp only [← Nat.add_assoc] at this
          rw [eT1, this]
          exact q6 p hp
end S30
/-- an answer, and only scratch has changed -/
def Ans (v : Int32) (h : MH) (r : Option MV) (h' : MH) : Prop := r = some (.inl v) ∧ Keep h h'
theorem OpI.mk {rod : Nat → Nat × (Nat → Int32)} {yc ym : Nat} {as : List Int32} (H : ∀ h, INV h → ∃ v, Wc rod 99 yc (.inr (.inr (.inl (some 0))) :: as.map Sum.inl) h (Ans v h) ∧ ∀ h1, INV h1 → Keep h h1 → Wc rod 99 ym (.inr (.inr (.inl (some 84))) :: as.map Sum.inl) h1 (Ans v h1)) : OpI INV rod yc ym as := by
  intro h hI
  obtain ⟨v, ⟨r1, h1, c1, rfl, k1⟩, hm⟩ := H h hI
  have I1 := hI.keep k1
  obtain ⟨r2, h2, c2, rfl, k2⟩ := hm h1 I1 k1
  exact ⟨v, h1, h2, INV_g84 I1, c1, c2, I1.keep k2⟩
