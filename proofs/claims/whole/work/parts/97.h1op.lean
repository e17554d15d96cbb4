/-! text -/
section M97h
variable {rod : Nat → Nat × (Nat → Int32)} {d : Nat} {h g gA h1 h2 : MH} {T : Nat → Int} {len : Nat} {t k a l n i m q : Nat} {R v : Nat → Int} {S : LnS} {x1 x2 : Int32}
theorem land_new (C : LandC gA R n) (ov : ¬ 2 ^ (R 0).toNat ≤ n) (s : LandSm gA h2 46 a) (rc : ∀ j, j < 90 → (h2.1 85 (l + j)).toInt = R j) : LandRel h2 a l := by
  obtain ⟨⟨hd, r0, r1, r2, r3, r4, r5⟩, B, Lt, Rd, nm0, n64⟩ := C
  obtain ⟨s1, s2, s3, s4⟩ := s
  have f0 := s1 0 (by decide)
  have f1 := s1 1 (by decide)
  have f2 := s1 2 (by decide)
  have f3 := s1 3 (by decide)
  have f4 := s1 4 (by decide)
  have f5 := s1 5 (by decide)
  refine ⟨?_, ?_, ?_, ?_, ?_, ?_, ?_, ?_, ?_, ?_, ?_, ?_, fun b hb => ?_, fun b hb => ?_, fun i hi => ?_⟩
  · exact i32_of (by rw [f0, hd.1]; exact (rc 0 (by decide)).symm)
  · exact i32_of (by rw [f4, hd.2.1]; exact (rc 1 (by decide)).symm)
  · exact i32_of (by rw [f5, hd.2.2.1]; exact (rc 2 (by decide)).symm)
  · exact i32_of (by rw [f1, hd.2.2.2.1]; exact (rc 3 (by decide)).symm)
  · exact i32_of (by rw [f2, hd.2.2.2.2.1]; exact (rc 4 (by decide)).symm)
  · exact i32_of (by rw [f3, hd.2.2.2.2.2]; exact (rc 5 (by decide)).symm)
  · rw [bw, f0, hd.1]; exact r0
  · rw [bw, f4, hd.2.1]; exact r1
  · rw [bw, f5, hd.2.2.1]; exact r2
  · rw [bw, f1, hd.2.2.2.1]; exact r3
  · rw [bw, f2, hd.2.2.2.2.1]; exact r4
  · rw [bw, f3, hd.2.2.2.2.2]; exact r5
  · rw [f4, hd.2.1] at hb
    have b8 : b < 8 := by omega
    have q := B b hb
    have e1 : h2.1 (a + 1) b = gA.1 47 b := s2 0 b (by decide) b8
    have e2 : h2.1 (a + 2) b = gA.1 48 b := s2 1 b (by decide) b8
    have e3 : h2.1 (a + 3) b = gA.1 49 b := s2 2 b (by decide) b8
    have e4 : h2.1 (a + 4) b = gA.1 50 b := s2 3 b (by decide) b8
    have e5 : h2.1 (a + 5) b = gA.1 51 b := s2 4 b (by decide) b8
    refine ⟨fun k hk => ?_, ?_, ?_, ?_, ?_, ?_, ?_⟩
    · refine i32_of ?_
      rw [show l + 6 + 5 * b + k = l + (6 + 5 * b + k) by omega, rc (6 + 5 * b + k) (by omega)]
      rcases (show k = 0 ∨ k = 1 ∨ k = 2 ∨ k = 3 ∨ k = 4 by omega) with rfl | rfl | rfl | rfl | rfl
      · show (h2.1 (a + 1) b).toInt = R (6 + 5 * b)
        rw [e1]; exact q.1.1
      · show (h2.1 (a + 2) b).toInt = _
        rw [e2]; exact q.1.2.1
      · show (h2.1 (a + 3) b).toInt = _
        rw [e3]; exact q.1.2.2.1
      · show (h2.1 (a + 4) b).toInt = _
        rw [e4]; exact q.1.2.2.2.1
      · show (h2.1 (a + 5) b).toInt = _
        rw [e5]; exact q.1.2.2.2.2
    · rw [bw, e1, q.1.1]; exact q.2.1
    · rw [bw, e2, q.1.2.1]; exact q.2.2.1
    · rw [bw, e3, q.1.2.2.1]; exact q.2.2.2.1
    · rw [bw, e4, q.1.2.2.2.1]; exact q.2.2.2.2.1
    · rw [bw, e5, q.1.2.2.2.2]; exact q.2.2.2.2.2.1
    · rw [e2, q.1.2.1, f0, hd.1]
      have p := q.2.2.2.2.2.2
      have b1 := q.2.2.1
      by_cases z : R (6 + 5 * b + 1) < R 0
      · exact z
      · exact absurd (Nat.le_trans (Nat.pow_le_pow_right (by decide) (by omega)) p) ov
  · rw [f5, hd.2.2.1] at hb
    have b4 : b < 4 := by omega
    have q := Lt b hb
    have e1 : h2.1 (a + 6) b = gA.1 52 b := s3 0 b (by decide) b4
    have e2 : h2.1 (a + 7) b = gA.1 53 b := s3 1 b (by decide) b4
    refine ⟨i32_of ?_, i32_of ?_, ?_, ?_⟩
    · rw [e1, q.1, show l + 46 + 2 * b = l + (46 + 2 * b) by omega, rc (46 + 2 * b) (by omega)]
    · rw [e2, q.2.1, show l + 47 + 2 * b = l + (46 + 2 * b + 1) by omega, rc (46 + 2 * b + 1) (by omega)]
    · rw [bw, e1, q.1]; exact q.2.2.1
    · rw [bw, e2, q.2.1]; exact q.2.2.2
  · have q := Rd i hi
    have e1 : h2.1 (a + 8) i = gA.1 54 i := s4 i hi
    refine ⟨i32_of ?_, ?_⟩
    · rw [e1, q.1, show l + 54 + i = l + (54 + i) by omega, rc (54 + i) (by omega)]
    · rw [bw, e1, q.1]; exact q.2
theorem seas_new (C : SeasC gA R n) (s : SeasonSm gA h2 55 a) (rc : ∀ j, j < 121 → (h2.1 85 (l + j)).toInt = R j) : SeasonRel h2 a l := by
  obtain ⟨h0, r0, B, nm0, n0⟩ := C
  obtain ⟨s1, s2⟩ := s
  refine ⟨?_, ?_, fun b hb => ?_⟩
  · exact i32_of (by rw [s1, h0]; exact (rc 0 (by decide)).symm)
  · rw [bw, s1, h0]; exact r0
  · rw [s1, h0] at hb
    have b4 : b < 40 := by omega
    have q := B b hb
    have e1 : h2.1 (a + 1) b = gA.1 56 b := s2 0 b (by decide) b4
    have e2 : h2.1 (a + 2) b = gA.1 57 b := s2 1 b (by decide) b4
    have e3 : h2.1 (a + 3) b = gA.1 58 b := s2 2 b (by decide) b4
    obtain ⟨q1, q2, q3, q4, q5, q6, q7, q8, q9, q10⟩ := q
    refine ⟨i32_of ?_, i32_of ?_, i32_of ?_, ?_, ?_, ?_, ?_, ?_, ?_, ?_⟩
    · rw [e1, q1, show l + 1 + 3 * b = l + (1 + 3 * b) by omega, rc (1 + 3 * b) (by omega)]
    · rw [e2, q2, show l + 2 + 3 * b = l + (1 + 3 * b + 1) by omega, rc (1 + 3 * b + 1) (by omega)]
    · rw [e3, q3, show l + 3 + 3 * b = l + (1 + 3 * b + 2) by omega, rc (1 + 3 * b + 2) (by omega)]
    · rw [bw, e1, q1]; exact q4
    · rw [bw, e2, q2]; exact q5
    · rw [bw, e3, q3]; exact q6
    · rw [e1, e2, q1, q2]; exact q7
    · rw [e1, e2, q1, q2]; exact q8
    · rw [bw, e1, e3, q1, q3]; exact q9
    · rw [bw, e1, e3, q1, q3]; exact q10
theorem led_new (C : LedC gA R n) (s : LedgerSm gA h2 59 a) (rc : ∀ j, j < 41 → (h2.1 85 (l + j)).toInt = R j) : LedgerRel h2 a l := by
  obtain ⟨h0, r0, B, nm0, n0⟩ := C
  obtain ⟨s1, s2⟩ := s
  refine ⟨?_, ?_, fun b hb => ?_⟩
  · exact i32_of (by rw [s1, h0]; exact (rc 0 (by decide)).symm)
  · rw [bw, s1, h0]; exact r0
  · rw [s1, h0] at hb
    have b4 : b < 20 := by omega
    have q := B b hb
    have e1 : h2.1 (a + 1) b = gA.1 60 b := s2 0 b (by decide) b4
    have e2 : h2.1 (a + 2) b = gA.1 61 b := s2 1 b (by decide) b4
    obtain ⟨q1, q2, q4, q5, q7⟩ := q
    refine ⟨i32_of ?_, i32_of ?_, ?_, ?_, ?_⟩
    · rw [e1, q1, show l + 1 + 2 * b = l + (1 + 2 * b) by omega, rc (1 + 2 * b) (by omega)]
    · rw [e2, q2, show l + 2 + 2 * b = l + (1 + 2 * b + 1) by omega, rc (1 + 2 * b + 1) (by omega)]
    · rw [bw, e1, q1]; exact q4
    · rw [bw, e2, q2]; exact q5
    · rw [e1, e2, q1, q2]; exact q7
theorem barg_new (C : BargC gA R n) (s : BargSm gA h2 62 a) (rc : ∀ j, j < 16 → (h2.1 85 (l + j)).toInt = R j) : BargRel h2 a l := by
  obtain ⟨h0, r0, z0, B, nm0, n0⟩ := C
  obtain ⟨s1, s2⟩ := s
  refine ⟨?_, ?_, ?_, fun b b1 b2 => ?_⟩
  · exact i32_of (by rw [s1, h0]; exact (rc 0 (by decide)).symm)
  · rw [bw, s1, h0]; exact r0
  · rw [s2 0 (by decide)]; exact z0
  · have q := B b b1 b2
    have e1 : h2.1 (a + 1) b = gA.1 63 b := s2 b b2
    refine ⟨i32_of ?_, ?_⟩
    · rw [e1, q.1, rc b b2]
    · rw [bw, e1, q.1]; exact q.2
theorem inv_ok (hI : INV h) (ht : t < 4) (q2 : q < 2) (em : (h.1 3 t).toInt = (m : Int)) (qm : q ≤ m) (m2 : m ≤ 2) (e : h2.2 = h.2) (f : ∀ c, c ≠ 1 → c ≠ 3 → ¬ (45 ≤ c ∧ c ≤ 64) → c ≠ 84 → c ≠ 85 → c ≠ 87 → (c < bsF t q ∨ bsF t q + bzF t ≤ c) → h2.1 c = h.1 c) (f3 : ∀ j, j ≠ t → h2.1 3 j = h.1 3 j) (n3 : (h2.1 3 t).toInt = ((max m (q + 1) : Nat) : Int)) (f85 : ∀ j, (j < 4 ∧ j ≠ t) ∨ (7 ≤ j ∧ (j < plF t q ∨ plF t q + szF t ≤ j)) → h2.1 85 j = h.1 85 j) (n85 : (h2.1 85 t).toInt = ((max m (q + 1) : Nat) : Int)) (rc : ∀ j, j < szF t → (h2.1 85 (plF t q + j)).toInt = R j) (t1 : h2.1 1 1 = 0) (t1' : h2.1 85 4 = 0) (t2 : h2.1 1 2 = h2.1 85 5) (t3 : h2.1 1 3 = h2.1 85 6) (C : RecC t gA R n) (ov : ¬ 2 ^ (R 0).toNat ≤ n) (s : SmT t q gA h2) : INV h2 := by
  have many := hI.many
  obtain ⟨i1, i2, i3, i4, i5, i6, i7⟩ := hI
  have ps := plsz ht q2
  have bs : 8 ≤ bsF t q ∧ bsF t q + bzF t ≤ 44 := by
    unfold bsF bzF
    repeat' split
    all_goals omega
  have mq : max m (q + 1) ≤ 2 := by omega
  have e83 : h2.1 83 = h.1 83 := f 83 (by omega) (by omega) (by omega) (by omega) (by omega) (by omega) (by omega)
  have e86 : h2.1 86 = h.1 86 := f 86 (by omega) (by omega) (by omega) (by omega) (by omega) (by omega) (by omega)
  refine ⟨by rw [e]; exact i1, ?_, ?_, ?_, ?_, by rw [e]; exact i6, by rw [e83]; exact i7⟩
  · simp only [MainAt, ToldAt, LandAt, SeasonAt, LedgerAt, BargAt, ShAt, e] at i2 ⊢
    exact i2
  · simp only [ModelAt, ShAt, e] at i3 ⊢
    exact i3
  · obtain ⟨r1, r2, r3, r4, r5, r6, r7, r8, r9, r10⟩ := i4
    have cnt : ∀ (s k : Nat), s < 4 → (k : Int) < (h2.1 3 s).toInt → ¬ (s = t ∧ k = q) → (k : Int) < (h.1 3 s).toInt := by
      intro s k hs hk hn
      by_cases z : s = t
      · subst z
        rw [n3] at hk
        rw [em]
        omega
      · rw [f3 s z] at hk
        exact hk
    have k2 : ∀ (s k : Nat), s < 4 → (k : Int) < (h2.1 3 s).toInt → k < 2 := by
      intro s k hs hk
      by_cases z : s = t
      · subst z
        rw [n3] at hk
        omega
      · rw [f3 s z] at hk
        have := (many s hs).2.2
        omega
    refine ⟨by rw [t1, t1'], t2, t3, by rw [t1]; unfold bw; decide, fun s hs => ?_, fun p hp => ?_, fun k hk => ?_, fun k hk => ?_, fun k hk => ?_, fun k hk => ?_⟩
    · show h2.1 3 s = h2.1 85 (0 + s) ∧ bw (h2.1 3 s) 0 2
      rw [Nat.zero_add]
      by_cases z : s = t
      · subst z
        exact ⟨i32_of (by rw [n3, n85]), by rw [bw, n3]; omega⟩
      · have := r5 s hs
        rw [f3 s z, f85 s (Or.inl ⟨hs, z⟩)]
        have this : h.1 3 s = h.1 85 (0 + s) ∧ bw (h.1 3 s) 0 2 := this
        rw [Nat.zero_add] at this
        exact this
    · rw [t1] at hp
      exact absurd hp (by show ¬ (p : Int) < 0; omega)
    · have hk : (k : Int) < (h2.1 3 0).toInt := hk
      have kk := k2 0 k (by decide) hk
      by_cases z : 0 = t ∧ k = q
      · obtain ⟨rfl, rfl⟩ := z
        have l0 := land_new (a := 8 + 18 * k) (l := 610 + 90 * k) (C.1 rfl) ov (s.1 rfl) rc
        rw [show 1 + 7 + 18 * k = 8 + 18 * k by omega, show 0 + 610 + 90 * k = 610 + 90 * k by omega]
        exact l0
      · have b : bsF t q + bzF t ≤ 8 + 18 * k ∨ 8 + 18 * k + 9 ≤ bsF t q := by
          unfold bsF bzF
          repeat' split
          all_goals omega
        have p : plF t q + szF t ≤ 610 + 90 * k ∨ 610 + 90 * k + 90 ≤ plF t q := by
          unfold plF szF
          repeat' split
          all_goals omega
        have fc : ∀ c, 8 + 18 * k ≤ c → c < 8 + 18 * k + 9 → h2.1 c = h.1 c := fun c kc1 kc2 => f c (by omega) (by omega) (by omega) (by omega) (by omega) (by omega) (by omega)
        exact (r7 k (cnt 0 k (by decide) hk z)).mv (fun j hj => by rw [fc _ (by omega) (by omega)]) (fun c j hc hj => by rw [fc _ (by omega) (by omega)]) (fun c j hc hj => by rw [fc _ (by omega) (by omega)]) (fun j hj => by rw [fc _ (by omega) (by omega)]) (fun j hj => f85 _ (by omega))
    · have hk : (k : Int) < (h2.1 3 1).toInt := hk
      have kk := k2 1 k (by decide) hk
      by_cases z : 1 = t ∧ k = q
      · obtain ⟨rfl, rfl⟩ := z
        have l0 := seas_new (a := 17 + 18 * k) (l := 790 + 121 * k) (C.2.1 rfl) (s.2.1 rfl) rc
        rw [show 1 + 16 + 18 * k = 17 + 18 * k by omega, show 0 + 790 + 121 * k = 790 + 121 * k by omega]
        exact l0
      · have b : bsF t q + bzF t ≤ 17 + 18 * k ∨ 17 + 18 * k + 4 ≤ bsF t q := by
          unfold bsF bzF
          repeat' split
          all_goals omega
        have p : plF t q + szF t ≤ 790 + 121 * k ∨ 790 + 121 * k + 121 ≤ plF t q := by
          unfold plF szF
          repeat' split
          all_goals omega
        have fc : ∀ c, 17 + 18 * k ≤ c → c < 17 + 18 * k + 4 → h2.1 c = h.1 c := fun c kc1 kc2 => f c (by omega) (by omega) (by omega) (by omega) (by omega) (by omega) (by omega)
        exact (r8 k (cnt 1 k (by decide) hk z)).mv (by rw [fc _ (by omega) (by omega)]) (fun c j hc hj => by rw [fc _ (by omega) (by omega)]) (fun j hj => f85 _ (by omega))
    · have hk : (k : Int) < (h2.1 3 2).toInt := hk
      have kk := k2 2 k (by decide) hk
      by_cases z : 2 = t ∧ k = q
      · obtain ⟨rfl, rfl⟩ := z
        have l0 := led_new (a := 21 + 18 * k) (l := 1032 + 41 * k) (C.2.2.1 rfl) (s.2.2.1 rfl) rc
        rw [show 1 + 20 + 18 * k = 21 + 18 * k by omega, show 0 + 1032 + 41 * k = 1032 + 41 * k by omega]
        exact l0
      · have b : bsF t q + bzF t ≤ 21 + 18 * k ∨ 21 + 18 * k + 3 ≤ bsF t q := by
          unfold bsF bzF
          repeat' split
          all_goals omega
        have p : plF t q + szF t ≤ 1032 + 41 * k ∨ 1032 + 41 * k + 41 ≤ plF t q := by
          unfold plF szF
          repeat' split
          all_goals omega
        have fc : ∀ c, 21 + 18 * k ≤ c → c < 21 + 18 * k + 3 → h2.1 c = h.1 c := fun c kc1 kc2 => f c (by omega) (by omega) (by omega) (by omega) (by omega) (by omega) (by omega)
        exact (r9 k (cnt 2 k (by decide) hk z)).mv (by rw [fc _ (by omega) (by omega)]) (fun c j hc hj => by rw [fc _ (by omega) (by omega)]) (fun j hj => f85 _ (by omega))
    · have hk : (k : Int) < (h2.1 3 3).toInt := hk
      have kk := k2 3 k (by decide) hk
      by_cases z : 3 = t ∧ k = q
      · obtain ⟨rfl, rfl⟩ := z
        have l0 := barg_new (a := 24 + 18 * k) (l := 1114 + 16 * k) (C.2.2.2 rfl) (s.2.2.2 rfl) rc
        rw [show 1 + 23 + 18 * k = 24 + 18 * k by omega, show 0 + 1114 + 16 * k = 1114 + 16 * k by omega]
        exact l0
      · have b : bsF t q + bzF t ≤ 24 + 18 * k ∨ 24 + 18 * k + 2 ≤ bsF t q := by
          unfold bsF bzF
          repeat' split
          all_goals omega
        have p : plF t q + szF t ≤ 1114 + 16 * k ∨ 1114 + 16 * k + 16 ≤ plF t q := by
          unfold plF szF
          repeat' split
          all_goals omega
        have fc : ∀ c, 24 + 18 * k ≤ c → c < 24 + 18 * k + 2 → h2.1 c = h.1 c := fun c kc1 kc2 => f c (by omega) (by omega) (by omega) (by omega) (by omega) (by omega) (by omega)
        exact (r10 k (cnt 3 k (by decide) hk z)).mv (by rw [fc _ (by omega) (by omega)]) (fun j hj => by rw [fc _ (by omega) (by omega)]) (fun j hj => f85 _ (by omega))
  · intro k hk
    rcases i5 k hk with ⟨a, b⟩ | ⟨U, a, b, c, tt, r⟩
    · exact Or.inl ⟨by rw [e]; exact a, by rw [e86]; exact b⟩
    · refine Or.inr ⟨U, by rw [e]; exact a, b, by rw [e86]; exact c, tt.kp e, r.stay (fun c h1 h2 => f c (by omega) (by omega) (by omega) (by omega) (by omega) (by omega) (by omega)) (fun i hi => f85 _ (by omega))⟩
theorem and_ub : ∀ i : Nat, i < 256 → (Int32.ofInt ((i : Int) - 128) &&& 255).toInt = ub ((i : Int) - 128) := by decide +kernel
theorem and_u {x : Int32} (b : bw x (-128) 127) : (x &&& 255).toInt = ub x.toInt := by
  unfold bw at b
  have q := and_ub (x.toInt + 128).toNat (by omega)
  rw [show (((x.toInt + 128).toNat : Nat) : Int) - 128 = x.toInt by omega, Int32.ofInt_toInt] at q
  exact q
theorem op_text (hr : RokT rod) (x1 x2 : Int32) : OpI INV rod 19 192 [x1, x2] := by
  refine OpI.mkW fun h hI => ?_
  have L := hI.lay
  have TR := hI.rel
  have b6 := TR.2.2.2.1
  simp only [bw] at b6
  obtain ⟨len, hp⟩ := Int.eq_ofNat_of_zero_le b6.1
  have m4 : h.1 85 4 = h.1 1 1 := TR.1.symm
  have tape : ∀ q : Nat, q < len → h.1 85 (10 + q) = (h.1 2 q) &&& 255 ∧ bw (h.1 2 q) (-128) 127 := fun q hq => by
    have := TR.2.2.2.2.2.1 q (by rw [hp]; omega)
    simp only [Nat.zero_add] at this
    exact this
  have E : EnvT h (fun p => (h.1 2 p).toInt) len := ⟨hp, by omega, fun p hp => ⟨rfl, (tape p hp).2⟩⟩
  by_cases ok : ∃ t m q : Nat, t < 4 ∧ x1.toInt = (t : Int) ∧ (h.1 3 t).toInt = (m : Int) ∧ m ≤ 2 ∧ VQ x2 m q
  · obtain ⟨t, m, q, ht, e1, em, m2, hq⟩ := ok
    have q2 : q < 2 := by unfold VQ at hq; omega
    have qm : q ≤ m := by unfold VQ at hq; omega
    have em85 : (h.1 85 t).toInt = (m : Int) := by rw [← (hI.many t ht).1]; exact em
    have bs : 8 ≤ bsF t q ∧ bsF t q + bzF t ≤ 44 := by
      unfold bsF bzF
      repeat' split
      all_goals omega
    have ref : ∀ h1 : MH, h1.2 = h.2 → h1.1 85 = h.1 85 → Wc rod 99 192 [.inr (.inr (.inl (some 84))), .inl x1, .inl x2] h1 (fun r h2 => RT (fun p => (h.1 2 p).toInt) len t q m h1 r h2) := fun h1 e kc85 => by
      refine r_text_yes (d := 90) (e.symm ▸ L) ht e1 (by rw [kc85]; exact em85) m2 hq (by rw [kc85, m4]; exact hp) (by omega) (fun p hp => ?_)
      rw [kc85, (tape p hp).1, and_u (tape p hp).2]
      exact ⟨rfl, (tape p hp).2⟩
    by_cases f0 : (fpX len (finS (fun p => (h.1 2 p).toInt) len t)).1 = 0
    · refine ⟨Int32.ofNat q, (c_text_yes (d := 90) hr L hI.told E ht e1 em m2 hq).imp ?_⟩
      rintro r h1 ⟨e, a1, a2, a3, ⟨n0, -⟩ | ⟨-, rfl, ac, aj, an, gA, C, ov, s⟩⟩
      · exact absurd f0 n0
      have kc85 : h1.1 85 = h.1 85 := ac 85 (by decide) (by decide) (by decide) (by omega)
      refine ⟨rfl, Lay.o84 (h := h1) (e.symm ▸ L), (ref h1 e kc85).imp ?_⟩
      rintro r h2 ⟨e2, rc, r4, r5, r6, ⟨n0, -⟩ | ⟨-, rfl, rj, rn, rr⟩⟩
      · exact absurd f0 n0
      refine ⟨rfl, inv_ok hI ht q2 em qm m2 (e2.trans e) (fun c h1' h3 h4 h5 h6 h7 h8 => ?_) (fun j hj => ?_) ?_ (fun j hj => ?_) rn rr ?_ r4 (i32_of ?_) (i32_of ?_) C (fun z => ?_) ?_⟩
      · rw [rc c h5 h6 h7, ac c h1' h3 h4 h8]
      · rw [rc 3 (by decide) (by decide) (by decide), aj j hj]
      · rw [rc 3 (by decide) (by decide) (by decide)]; exact an
      · rw [rj j hj, kc85]
      · rw [rc 1 (by decide) (by decide) (by decide)]; exact a1
      · rw [rc 1 (by decide) (by decide) (by decide), a2, r5]
      · rw [rc 1 (by decide) (by decide) (by decide), a3, r6]
      · rw [ovB, decide_eq_true z] at ov
        exact absurd ov (by decide)
      · have rcc : ∀ c, c < 45 → h2.1 c = h1.1 c := fun c hc => rc c (by omega) (by omega) (by omega)
        exact ⟨fun z => (s.1 z).kp (fun _ _ _ => rfl) (fun c d1 d2 => rcc c (by omega)), fun z => (s.2.1 z).kp (fun _ _ _ => rfl) (fun c d1 d2 => rcc c (by omega)), fun z => (s.2.2.1 z).kp (fun _ _ _ => rfl) (fun c d1 d2 => rcc c (by omega)), fun z => (s.2.2.2 z).kp (fun _ _ _ => rfl) (fun c d1 d2 => rcc c (by omega))⟩
    · refine ⟨-1, (c_text_yes (d := 90) hr L hI.told E ht e1 em m2 hq).imp ?_⟩
      rintro r h1 ⟨e, a1, a2, a3, ⟨-, rfl, ac⟩ | ⟨n0, -⟩⟩
      · have kc85 : h1.1 85 = h.1 85 := ac 85 (by decide) (by decide)
        refine ⟨rfl, Lay.o84 (h := h1) (e.symm ▸ L), (ref h1 e kc85).imp ?_⟩
        rintro r h2 ⟨e2, rc, r4, r5, r6, ⟨-, rfl, rj⟩ | ⟨n0, -⟩⟩
        · have o1 : h2.1 1 = h1.1 1 := rc 1 (by decide) (by decide) (by decide)
          refine ⟨rfl, hI.tape (e2.trans e) (fun c hs h1' h2' h3' => ?_) (fun j hj => ?_) ?_ (i32_of ?_) (i32_of ?_) ?_ (fun p hp => ?_)⟩
          · rw [rc c (fun z => hs (by unfold Scr; omega)) h3' (fun z => hs (by unfold Scr; omega)), ac c h1' (fun z => hs (by unfold Scr; omega))]
          · rw [rj j (by omega), kc85]
          · rw [o1, a1, r4]
          · rw [o1, a2, r5]
          · rw [o1, a3, r6]
          · rw [o1, a1]; unfold bw; decide
          · rw [o1, a1] at hp
            exact absurd hp (by show ¬ (p : Int) < 0; omega)
        · exact absurd n0 f0
      · exact absurd n0 f0
  · have mm : ∀ t, t < 4 → ∃ m : Nat, (h.1 3 t).toInt = (m : Int) ∧ m ≤ 2 := fun t ht => by
      have := hI.many t ht
      obtain ⟨m, hm⟩ := Int.eq_ofNat_of_zero_le this.2.1
      exact ⟨m, hm, by omega⟩
    have bad : ¬ (0 ≤ x1.toInt ∧ x1.toInt < 4) ∨ ∃ t m : Nat, t < 4 ∧ x1.toInt = (t : Int) ∧ (h.1 3 t).toInt = (m : Int) ∧ m ≤ 2 ∧ ((x2.toInt = -1 ∧ ¬ m < 2) ∨ (x2.toInt ≠ -1 ∧ ¬ (0 ≤ x2.toInt ∧ x2.toInt < (m : Int)))) := by
      by_cases c : 0 ≤ x1.toInt ∧ x1.toInt < 4
      · right
        obtain ⟨t, e1⟩ := Int.eq_ofNat_of_zero_le c.1
        have ht : t < 4 := by omega
        obtain ⟨m, em, m2⟩ := mm t ht
        refine ⟨t, m, ht, e1, em, m2, ?_⟩
        by_cases z : x2.toInt = -1
        · refine Or.inl ⟨z, fun y => ok ⟨t, m, m, ht, e1, em, m2, Or.inl ⟨z, rfl, y⟩⟩⟩
        · refine Or.inr ⟨z, fun y => ?_⟩
          obtain ⟨q, hq⟩ := Int.eq_ofNat_of_zero_le y.1
          exact ok ⟨t, m, q, ht, e1, em, m2, Or.inr ⟨hq, by omega⟩⟩
      · exact Or.inl c
    refine ⟨-2, (c_text_no (d := 90) L bad).imp ?_⟩
    rintro r h1 ⟨rfl, hh1⟩
    have e : h1.2 = h.2 := by rw [hh1]; rfl
    have oc : ∀ c, c ≠ 1 → h1.1 c = h.1 c := fun c hc => by rw [hh1, sI_cell hc, sI_cell hc, sI_cell hc]
    have kc85 := oc 85 (by decide)
    refine ⟨rfl, Lay.o84 (h := h1) (e.symm ▸ L), (r_text_no (d := 90) (g := h1) (e.symm ▸ L) ?_).imp ?_⟩
    · rcases bad with b | ⟨t, m, ht, e1, em, m2, b⟩
      · exact Or.inl b
      · exact Or.inr ⟨t, m, ht, e1, by rw [kc85, ← (hI.many t ht).1]; exact em, m2, b⟩
    · rintro r h2 ⟨rfl, rfl⟩
      have o1 : (hdH h1).1 1 = h1.1 1 := hdH_c 1 (by decide) (by decide)
      have a1 : h1.1 1 1 = 0 := by rw [hh1]; simp (disch := omega) only [sI_same, sI_nj]
      have a2 : h1.1 1 2 = 0 := by rw [hh1]; simp (disch := omega) only [sI_same, sI_nj]
      have a3 : h1.1 1 3 = -1 := by rw [hh1]; simp (disch := omega) only [sI_same, sI_nj]
      refine ⟨rfl, hI.tape e (fun c hs h1' h2' h3' => ?_) (fun j hj => ?_) ?_ ?_ ?_ ?_ (fun p hp => ?_)⟩
      · rw [hdH_c c (fun z => hs (by unfold Scr; omega)) h3', oc c h1']
      · rw [hdH_85 j (by omega), kc85]
      · rw [o1, a1, hdH_4]
      · rw [o1, a2, hdH_5]
      · rw [o1, a3, hdH_6]
      · rw [o1, a1]; unfold bw; decide
      · rw [o1, a1] at hp
        exact absurd hp (by show ¬ (p : Int) < 0; omega)
end M97h
