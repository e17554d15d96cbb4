/-! THE READER: the reference's lines of seasons, ledgers, bargains -/
section M96d
variable {rod : Nat → Nat × (Nat → Int32)} {d : Nat} {h g g1 g2 : MH} {T : Nat → Int} {len : Nat} {X Y Z : XS} {lo hi : Int} {t k a s0 n n0 : Nat} {R : Nat → Int} {S : LnS}
theorem nums_0 {c : Bool} (w : WF len Y) (h1 : Y.1 = false) (hs : Y.2.1 = tpI T len s0 1) (ha : a < Y.2.1) (q : (numsX T len k s0 (nbh k) (ntX c 3 a Y)).2.2.1 = 0) : c = false := by
  have s0' : (ntX c 3 a Y).2.1 = tpI T len s0 1 := by rw [(nt_1 _ _ _).2]; exact hs
  rcases nums_f0 (w.n3 h1 ha c) s0' _ q with z | z
  · exact (nt3_f0 (by decide) z.2.1).1
  · have := z.2
    rw [(nt_1 _ _ _).1, h1] at this
    exact absurd this (by decide)
theorem seas_w (L4 : Lay g.2) (e0 : (g.1 87 0).toInt = (n0 : Int)) (l : n0 < 40) {xe va vb : Int32} {u1 u2 : Option MV} {Q : Option MV → MH → Prop} (hq : ∀ u6, Wb rod d B_Model_seasonLine 183 [some (.inr (.inr (.inl (some 84)))), u1, u2, some (.inl xe), some (.inl va), some (.inl vb), u6] [] (sI (sI (sI (sI g 87 (1 + 3 * n0) xe) 87 (1 + 3 * n0 + 1) va) 87 (1 + 3 * n0 + 2) vb) 87 0 (g.1 87 0 + 1)) Q) : Wb rod d B_Model_seasonLine 131 [some (.inr (.inr (.inl (some 84)))), u1, u2, some (.inl xe), some (.inl va), some (.inl vb), none] [] g Q := by
  have e8 : ((1 : Int32) + ((3 : Int32) * (g.1 87 0))).toInt = ((1 + 3 * n0 : Nat) : Int) := n_add (m := 1) rfl (n_mul (m := 3) rfl e0 (by omega)) (by omega)
  have f1 := n_add (y := 1) (n := 1) e8 rfl (by omega)
  have f2 := n_add (y := 2) (n := 2) e8 rfl (by omega)
  refine w_Model_seasonLine_131 L4 rfl (by rw [k0, e8]; omega) ?_
  rw [k0, n_eq e8]
  refine w_Model_seasonLine_151 (h := sI g 87 (1 + 3 * n0) xe) L4 (by rw [f1]; omega) ?_
  rw [n_eq f1]
  refine w_Model_seasonLine_162 (h := sI (sI g 87 (1 + 3 * n0) xe) 87 (1 + 3 * n0 + 1) va) L4 (by rw [f2]; omega) ?_
  rw [n_eq f2]
  refine w_Model_seasonLine_173 (h := sI (sI (sI g 87 (1 + 3 * n0) xe) 87 (1 + 3 * n0 + 1) va) 87 (1 + 3 * n0 + 2) vb) L4 ?_
  rw [k0]
  simp (disch := omega) only [sI_nj]
  exact hq _
theorem seas_post (P : PreB T len 1 s0 a g Y) (hk : 10 ≤ k ∧ k < 17) {c : Bool} (hc : c = true ↔ 40 ≤ (g.1 87 0).toInt) (F : Fr PX g g2) (M2 : MrX T len g2 (numsX T len k s0 (nbh k) (ntX c 3 a Y))) {xe va vb : Int32} (ee : xe.toInt = (k : Int) - 10) (ea : (numsX T len k s0 (nbh k) (ntX c 3 a Y)).2.2.1 = 0 → va.toInt = if 0 < nbh k then vlI T len s0 0 else -1) (eb : (numsX T len k s0 (nbh k) (ntX c 3 a Y)).2.2.1 = 0 → vb.toInt = if 1 < nbh k then vlI T len s0 1 else -1) (e0 : (g2.1 87 0).toInt = (n0 : Int)) : (40 ≤ n0 → PostB T len 1 k s0 a g Y g2) ∧ (n0 < 40 → PostB T len 1 k s0 a g Y (sI (sI (sI (sI g2 87 (1 + 3 * n0) xe) 87 (1 + 3 * n0 + 1) va) 87 (1 + 3 * n0 + 2) vb) 87 0 (g2.1 87 0 + 1))) := by
  obtain ⟨L, E, M, w, h1, hs, rn, ha, pa⟩ := P
  have e0g : (g.1 87 0).toInt = (n0 : Int) := by rw [← F.py.kc87]; exact e0
  have tm : ∀ R n, RR 1 g R n → c = tooM k R := fun R n rr => by
    have e := rr.1 0 (by decide)
    rw [tooM, if_neg (by omega), if_neg (by omega), if_neg (by omega), if_pos (by omega)]
    cases c with
    | true => exact (decide_eq_true (by have := hc.mp rfl; omega)).symm
    | false => exact (decide_eq_false (fun z => absurd (hc.mpr (by omega)) (by decide))).symm
  constructor
  · intro l
    refine ⟨F.py.pl, c, tm, M2, rn.fy F.py, fun q => ?_⟩
    have := nums_0 w h1 hs ha q
    have cc := hc.mpr (by omega)
    rw [this] at cc
    exact absurd cc (by decide)
  · intro l
    refine ⟨(((F.py.pl.si (PL.s _)).si (PL.s _)).si (PL.s _)).si (PL.s _), c, tm, (((M2.s87 _ _).s87 _ _).s87 _ _).s87 _ _, ⟨fun q => absurd q (by decide), fun _ => ?_, fun q => absurd q (by decide)⟩, fun q R n rr => ?_⟩
    · rw [sI_same, bw, t_succ e0 (by omega)]
      omega
    · have r0 : R 0 = (n0 : Int) := by rw [← rr.1 0 (by decide)]; exact e0g
      have rt : (R 0).toNat = n0 := by omega
      refine ⟨?_, fun z => absurd z (by decide), fun z => absurd z (by decide)⟩
      rw [tellR, if_neg (by omega), if_neg (by omega), if_neg (by omega), if_neg (by omega), if_neg (by omega), if_neg (by omega), if_neg (by omega), if_pos (by omega), rt]
      refine ((((rr.1.fy F.py).up ee _).up (ea q) _).up (eb q) _).up ?_ 0
      rw [t_succ e0 (by omega), r0]
      rfl
theorem one_f0 {l1 h1 : Int} {e1 : Bool} (w : WF len Y) (hs : Y.2.1 = tpI T len s0 1) (q : (numX T len l1 h1 e1 Y).2.2.1 = 0) : nvX T len l1 h1 Y = vlI T len s0 0 := by
  rw [nv_f0 w q, hs]; rfl
theorem seas_body (P : PreB T len 1 s0 a g Y) {e : Nat} (he : e < 7) {xe x1 x2 : Int32} (hx : xe.toInt = (e : Int)) {c : Bool} (hc : c = true ↔ 40 ≤ (g.1 87 0).toInt) (F1 : Fr PX g g1) (M1 : MrX T len g1 (ntX c 3 a Y)) {Q : Option MV → MH → Prop} (K : ∀ l3 l4 l5 l6 g', PostB T len 1 (10 + e) s0 a g Y g' → Wb rod (d + 5) B_Model_seasonLine 183 [some (.inr (.inr (.inl (some 84)))), some (.inl x1), some (.inl x2), l3, l4, l5, l6] [] g' Q) : Wb rod (d + 5) B_Model_seasonLine 61 [some (.inr (.inr (.inl (some 84)))), some (.inl x1), some (.inl x2), none, none, none, none] [.inl xe] g1 Q := by
  have P0 := P
  obtain ⟨L, E, M, w, h1, hs, rn, ha, pa⟩ := P
  have b0 := (rn.2.1 rfl)
  have nn := n_of (x := g.1 87 0) b0.1
  have w0 := w.n3 h1 ha c
  have s0' : (ntX c 3 a Y).2.1 = tpI T len s0 1 := by rw [(nt_1 _ _ _).2]; exact hs
  have tail : ∀ g2 (va vb : Int32), Fr PX g g2 → MrX T len g2 (numsX T len (10 + e) s0 (nbh (10 + e)) (ntX c 3 a Y)) → ((numsX T len (10 + e) s0 (nbh (10 + e)) (ntX c 3 a Y)).2.2.1 = 0 → va.toInt = if 0 < nbh (10 + e) then vlI T len s0 0 else -1) → ((numsX T len (10 + e) s0 (nbh (10 + e)) (ntX c 3 a Y)).2.2.1 = 0 → vb.toInt = if 1 < nbh (10 + e) then vlI T len s0 1 else -1) → Wb rod (d + 5) B_Model_seasonLine 118 [some (.inr (.inr (.inl (some 84)))), some (.inl x1), some (.inl x2), some (.inl xe), some (.inl va), none, none] [.inl vb] g2 Q := by
    intro g2 va vb F2 M2 ea eb
    have e0 : (g2.1 87 0).toInt = ((g.1 87 0).toNatClampNeg : Int) := by rw [F2.py.kc87]; exact nn
    have pp := seas_post P0 (k := 10 + e) (by omega) hc F2 M2 (xe := xe) (by omega) ea eb e0
    refine w_Model_seasonLine_118 (L.fr F2) rfl (fun z => ?_) (fun z => ?_)
    · rw [k0, e0] at z
      exact K _ _ _ _ _ (pp.1 (by omega))
    · rw [k0, e0] at z
      exact seas_w (L.fr F2) e0 (by omega) (fun u6 => K _ _ _ _ _ (pp.2 (by omega)))
  have L1 := L.fr F1
  have E1 := E.fr F1
  have w1 := fun lo hi => w0.num (T := T) (lo := lo) (hi := hi) (ex := false)
  rcases (show e = 0 ∨ e = 1 ∨ e = 2 ∨ e = 3 ∨ e = 4 ∨ e = 5 ∨ e = 6 by omega) with rfl | rfl | rfl | rfl | rfl | rfl | rfl
  · have en : numsX T len 10 s0 (nbh 10) (ntX c 3 a Y) = numX T len 0 3 false (numX T len 0 7 false (ntX c 3 a Y)) := by
      show numX T len _ _ (exX T len 10 1 s0) (numX T len _ _ (exX T len 10 0 s0) _) = _
      rw [ex_no (Or.inl (by decide)), ex_no (Or.inl (by decide))]
      rfl
    refine w_Model_seasonLine_61 rfl (fun z => absurd z (by omega)) (fun _ => ?_)
    refine w_Model_seasonLine_67 (fun z => absurd z (by omega)) (fun _ => ?_)
    refine w_Model_seasonLine_74 ?_
    refine w_Model_seasonLine_80 L1 (r_numbered L1 E1 M1 w0 (lo := 0) (hi := 7) rfl rfl) ?_
    rintro _ g2 ⟨va, rfl, F2, M2, ev0⟩
    refine w_Model_seasonLine_83 ?_
    have F12 := F1.trans F2
    refine w_Model_seasonLine_87 (fun z => absurd (by omega) z) (fun _ => ?_)
    refine w_Model_seasonLine_93 (L.fr F12) (r_numbered (L.fr F12) (E.fr F12) M2 (w1 0 7) (lo := 0) (hi := 3) rfl rfl) ?_
    rintro _ g3 ⟨vb, rfl, F3, M3, ev1⟩
    refine w_Model_seasonLine_99 ?_
    refine tail g3 va vb (F12.trans F3) (by rw [en]; exact M3) (fun q => ?_) (fun q => ?_)
    · rw [en] at q
      exact ev0.trans (two_f0 w0 s0' q).1
    · rw [en] at q
      exact ev1.trans (two_f0 w0 s0' q).2.1
  · have en : numsX T len 11 s0 (nbh 11) (ntX c 3 a Y) = numX T len 1 60 false (numX T len 0 7 false (ntX c 3 a Y)) := by
      show numX T len _ _ (exX T len 11 1 s0) (numX T len _ _ (exX T len 11 0 s0) _) = _
      rw [ex_no (Or.inl (by decide)), ex_no (Or.inl (by decide))]
      rfl
    refine w_Model_seasonLine_61 rfl (fun z => absurd z (by omega)) (fun _ => ?_)
    refine w_Model_seasonLine_67 (fun z => absurd z (by omega)) (fun _ => ?_)
    refine w_Model_seasonLine_74 ?_
    refine w_Model_seasonLine_80 L1 (r_numbered L1 E1 M1 w0 (lo := 0) (hi := 7) rfl rfl) ?_
    rintro _ g2 ⟨va, rfl, F2, M2, ev0⟩
    refine w_Model_seasonLine_83 ?_
    have F12 := F1.trans F2
    refine w_Model_seasonLine_87 (fun _ => ?_) (fun z => absurd z (by omega))
    refine w_Model_seasonLine_102 (fun z => absurd (by omega) z) (fun _ => ?_)
    refine w_Model_seasonLine_107 (L.fr F12) (r_numbered (L.fr F12) (E.fr F12) M2 (w1 0 7) (lo := 1) (hi := 60) rfl rfl) ?_
    rintro _ g3 ⟨vb, rfl, F3, M3, ev1⟩
    refine w_Model_seasonLine_114 ?_
    refine tail g3 va vb (F12.trans F3) (by rw [en]; exact M3) (fun q => ?_) (fun q => ?_)
    · rw [en] at q
      exact ev0.trans (two_f0 w0 s0' q).1
    · rw [en] at q
      exact ev1.trans (two_f0 w0 s0' q).2.1
  · have en : numsX T len 12 s0 (nbh 12) (ntX c 3 a Y) = numX T len 0 5 false (ntX c 3 a Y) := by
      show numX T len _ _ (exX T len 12 0 s0) _ = _
      rw [ex_no (Or.inl (by decide))]
      rfl
    refine w_Model_seasonLine_61 rfl (fun z => absurd z (by omega)) (fun _ => ?_)
    refine w_Model_seasonLine_67 (fun _ => ?_) (fun z => absurd (by omega) z)
    refine w_Model_seasonLine_79 ?_
    refine w_Model_seasonLine_80 L1 (r_numbered L1 E1 M1 w0 (lo := 0) (hi := 5) rfl rfl) ?_
    rintro _ g2 ⟨va, rfl, F2, M2, ev0⟩
    refine w_Model_seasonLine_83 ?_
    refine w_Model_seasonLine_87 (fun _ => ?_) (fun z => absurd z (by omega))
    refine w_Model_seasonLine_102 (fun _ => ?_) (fun z => absurd z (by omega))
    refine w_Model_seasonLine_117 ?_
    refine tail g2 va (-1) (F1.trans F2) (by rw [en]; exact M2) (fun q => ?_) (fun q => rfl)
    rw [en] at q
    exact ev0.trans (one_f0 w0 s0' q)
  · have en : numsX T len 13 s0 (nbh 13) (ntX c 3 a Y) = numX T len 0 5 false (ntX c 3 a Y) := by
      show numX T len _ _ (exX T len 13 0 s0) _ = _
      rw [ex_no (Or.inl (by decide))]
      rfl
    refine w_Model_seasonLine_61 rfl (fun z => absurd z (by omega)) (fun _ => ?_)
    refine w_Model_seasonLine_67 (fun _ => ?_) (fun z => absurd (by omega) z)
    refine w_Model_seasonLine_79 ?_
    refine w_Model_seasonLine_80 L1 (r_numbered L1 E1 M1 w0 (lo := 0) (hi := 5) rfl rfl) ?_
    rintro _ g2 ⟨va, rfl, F2, M2, ev0⟩
    refine w_Model_seasonLine_83 ?_
    refine w_Model_seasonLine_87 (fun _ => ?_) (fun z => absurd z (by omega))
    refine w_Model_seasonLine_102 (fun _ => ?_) (fun z => absurd z (by omega))
    refine w_Model_seasonLine_117 ?_
    refine tail g2 va (-1) (F1.trans F2) (by rw [en]; exact M2) (fun q => ?_) (fun q => rfl)
    rw [en] at q
    exact ev0.trans (one_f0 w0 s0' q)
  · have en : numsX T len 14 s0 (nbh 14) (ntX c 3 a Y) = numX T len 0 5 false (ntX c 3 a Y) := by
      show numX T len _ _ (exX T len 14 0 s0) _ = _
      rw [ex_no (Or.inl (by decide))]
      rfl
    refine w_Model_seasonLine_61 rfl (fun z => absurd z (by omega)) (fun _ => ?_)
    refine w_Model_seasonLine_67 (fun _ => ?_) (fun z => absurd (by omega) z)
    refine w_Model_seasonLine_79 ?_
    refine w_Model_seasonLine_80 L1 (r_numbered L1 E1 M1 w0 (lo := 0) (hi := 5) rfl rfl) ?_
    rintro _ g2 ⟨va, rfl, F2, M2, ev0⟩
    refine w_Model_seasonLine_83 ?_
    refine w_Model_seasonLine_87 (fun _ => ?_) (fun z => absurd z (by omega))
    refine w_Model_seasonLine_102 (fun _ => ?_) (fun z => absurd z (by omega))
    refine w_Model_seasonLine_117 ?_
    refine tail g2 va (-1) (F1.trans F2) (by rw [en]; exact M2) (fun q => ?_) (fun q => rfl)
    rw [en] at q
    exact ev0.trans (one_f0 w0 s0' q)
  · refine w_Model_seasonLine_61 rfl (fun _ => ?_) (fun z => absurd (by omega) z)
    refine w_Model_seasonLine_86 ?_
    refine w_Model_seasonLine_87 (fun _ => ?_) (fun z => absurd z (by omega))
    refine w_Model_seasonLine_102 (fun _ => ?_) (fun z => absurd z (by omega))
    refine w_Model_seasonLine_117 ?_
    exact tail g1 (-1) (-1) F1 M1 (fun q => rfl) (fun q => rfl)
  · refine w_Model_seasonLine_61 rfl (fun _ => ?_) (fun z => absurd (by omega) z)
    refine w_Model_seasonLine_86 ?_
    refine w_Model_seasonLine_87 (fun _ => ?_) (fun z => absurd z (by omega))
    refine w_Model_seasonLine_102 (fun _ => ?_) (fun z => absurd z (by omega))
    refine w_Model_seasonLine_117 ?_
    exact tail g1 (-1) (-1) F1 M1 (fun q => rfl) (fun q => rfl)
theorem r_seasonLine (L : Lay g.2) (E : EnvA g T len) (M : MS T len 1 g S) (w : WF len S.1) (h1 : S.1.1 = false) : Wc rod (d + 6) 212 [.inr (.inr (.inl (some 84)))] g (fun r g' => r = none ∧ Fr PL g g' ∧ MS T len 1 g' (lineX T len 1 S)) := by
  have tk := M.1.2.2.2 h1
  have b0 := (M.2.2 h1).2.1 rfl
  have nn := n_of (x := g.1 87 0) b0.1
  refine n_Model_seasonLine ?_
  refine w_Model_seasonLine_0 L (r_wordIn L E M.1 w h1 (a := 10) (b := 16) rfl rfl (by decide)) ?_
  rintro r g1 ⟨F1, ⟨kd, iw, rfl, M1⟩ | ⟨bad, rfl, M1⟩⟩
  · have iw' : inW 1 (wdF T len S.1.2.1) = true := decide_eq_true iw
    have hl := kd_lt (by omega : kdF T len S.1.2.1 ≠ 0)
    have P := pre_of L E M w h1 hl F1 M1
    have L1 := L.fr F1
    have en : (Int32.ofNat (wdF T len S.1.2.1)).toInt = (wdF T len S.1.2.1 : Int) := t_nat (by omega)
    have e10 := n_sub (y := 10) (n := 10) en rfl (by omega) iw.1
    have fin : ∀ e l3 l4 l5 l6 g2, 10 + e = kw 1 (wdF T len S.1.2.1) → PostB T len 1 (10 + e) S.1.2.1 S.1.2.1 g1 (nxX T len S.1) g2 → Wb rod (d + 5) B_Model_seasonLine 183 [some (.inr (.inr (.inl (some 84)))), some (.inl (g.1 84 4)), some (.inl (Int32.ofNat (wdF T len S.1.2.1) - 10)), l3, l4, l5, l6] [] g2 (fun r g' => r = none ∧ Fr PL g g' ∧ MS T len 1 g' (lineX T len 1 S)) := by
      intro e l3 l4 l5 l6 g2 hk P2
      obtain ⟨Z, MZ, wz, hz⟩ := fin_of E M w h1 kd iw' hk F1 P2
      have FL := F1.py.pl.trans P2.1
      refine w_Model_seasonLine_183 (L.fr FL) (r_endsLine (L.fr FL) (E.fl FL) MZ wz) ?_
      rintro _ g3 ⟨rfl, F3, M3⟩
      refine w_Model_seasonLine_187 ?_
      have := hz g3 F3 M3
      exact ⟨rfl, this.2, this.1⟩
    have on : ∀ (c : Bool) g2, (c = true ↔ 40 ≤ (g1.1 87 0).toInt) → Fr PX g1 g2 → MrX T len g2 (ntX c 3 S.1.2.1 (nxX T len S.1)) → Wb rod (d + 5) B_Model_seasonLine 41 [some (.inr (.inr (.inl (some 84)))), some (.inl (g.1 84 4)), some (.inl (Int32.ofNat (wdF T len S.1.2.1) - 10)), none, none, none, none] [] g2 (fun r g' => r = none ∧ Fr PL g g' ∧ MS T len 1 g' (lineX T len 1 S)) := by
      intro c g2 hc F2 M2
      refine w_Model_seasonLine_41 (fun z => ?_) (fun z => ?_)
      · rw [e10] at z
        refine w_Model_seasonLine_49 (fun y => ?_) (fun y => ?_)
        · rw [e10] at y
          refine w_Model_seasonLine_60 ?_
          exact seas_body P (e := wdF T len S.1.2.1 - 10) (by omega) e10 hc F2 M2 (fun l3 l4 l5 l6 g' P2 => fin _ _ _ _ _ _ (by rw [kw, if_neg (by decide), if_pos rfl, if_neg (by omega), if_neg (by omega)]; omega) P2)
        · rw [e10] at y
          refine w_Model_seasonLine_54 ?_
          exact seas_body P (e := wdF T len S.1.2.1 - 10 - 1) (by omega) (n_sub (y := 1) (n := 1) e10 rfl (by omega) (by omega)) hc F2 M2 (fun l3 l4 l5 l6 g' P2 => fin _ _ _ _ _ _ (by rw [kw, if_neg (by decide), if_pos rfl, if_neg (by omega), if_pos (by omega)]; omega) P2)
      · rw [e10] at z
        refine w_Model_seasonLine_45 ?_
        exact seas_body P (e := 3) (by omega) rfl hc F2 M2 (fun l3 l4 l5 l6 g' P2 => fin _ _ _ _ _ _ (by rw [kw, if_neg (by decide), if_pos rfl, if_pos (by omega)]) P2)
    refine w_Model_seasonLine_13 L1 rfl (fun c => absurd (M1.w0 h1) c) (fun _ => ?_)
    refine w_Model_seasonLine_24 L1 (fun z => ?_) (fun z => ?_)
    · exact on false g1 ⟨fun y => absurd y (by decide), fun y => absurd z (by rw [k0]; omega)⟩ Fr.rfl (by rw [nt_false]; exact M1)
    · refine w_Model_seasonLine_35 L1 (r_too L1 M1 P.2.2.2.1 h1 P.2.2.2.2.2.2.2.1 P.2.2.2.2.2.2.2.2 tk.1) ?_
      rintro _ g2 ⟨rfl, F2, M2⟩
      exact on true g2 ⟨fun _ => by rw [k0] at z; omega, fun _ => rfl⟩ F2 M2
  · have bad' : ¬ (kdF T len S.1.2.1 = 1 ∧ inW 1 (wdF T len S.1.2.1) = true) := fun z => bad ⟨z.1, of_decide_eq_true z.2⟩
    have L1 := L.fr F1
    have we := w.ende
    have wr := end_1 h1
    refine w_Model_seasonLine_13 L1 rfl (fun _ => ?_) (fun c => absurd c (by rw [M1.w1 wr]; decide))
    refine w_Model_seasonLine_41 (fun _ => ?_) (fun z => absurd z (by decide))
    refine w_Model_seasonLine_49 (fun z => absurd z (by decide)) (fun _ => ?_)
    refine w_Model_seasonLine_54 ?_
    refine w_Model_seasonLine_61 rfl (fun z => absurd z (by decide)) (fun _ => ?_)
    refine w_Model_seasonLine_67 (fun z => absurd z (by decide)) (fun _ => ?_)
    refine w_Model_seasonLine_74 ?_
    refine w_Model_seasonLine_80 L1 (r_numbered L1 (E.fr F1) M1 we (lo := 0) (hi := 7) rfl rfl) ?_
    rintro _ g2 ⟨va, rfl, F2, M2, ev0⟩
    rw [num_wr wr] at M2
    refine w_Model_seasonLine_83 ?_
    refine w_Model_seasonLine_87 (fun _ => ?_) (fun z => absurd z (by decide))
    refine w_Model_seasonLine_102 (fun _ => ?_) (fun z => absurd z (by decide))
    refine w_Model_seasonLine_117 ?_
    have F12 := F1.trans F2
    have e0 : (g2.1 87 0).toInt = ((g.1 87 0).toNatClampNeg : Int) := by rw [F12.py.kc87]; exact nn
    have fin : ∀ l3 l4 l5 l6 g3, Fr PL g g3 → MrX T len g3 (endX S.1) → Wb rod (d + 5) B_Model_seasonLine 183 [some (.inr (.inr (.inl (some 84)))), some (.inl (g.1 84 4)), some (.inl (0 - 10)), l3, l4, l5, l6] [] g3 (fun r g' => r = none ∧ Fr PL g g' ∧ MS T len 1 g' (lineX T len 1 S)) := by
      intro l3 l4 l5 l6 g3 F3 M3
      refine w_Model_seasonLine_183 (L.fr F3) (r_endsLine (L.fr F3) (E.fl F3) M3 we) ?_
      rintro _ g4 ⟨rfl, F4, M4⟩
      refine w_Model_seasonLine_187 ?_
      rw [sem_wr wr] at M4
      exact ⟨rfl, F3.trans F4.py.pl, bad_of E h1 bad' M4⟩
    refine w_Model_seasonLine_118 (L.fr F12) rfl (fun z => fin _ _ _ _ _ F12.py.pl M2) (fun z => ?_)
    rw [k0, e0] at z
    exact seas_w (L.fr F12) e0 (by omega) (fun u6 => fin _ _ _ _ _ ((((F12.py.pl.si (PL.s _)).si (PL.s _)).si (PL.s _)).si (PL.s _)) ((((M2.s87 _ _).s87 _ _).s87 _ _).s87 _ _))
/-! ledgers -/
theorem led_w (L4 : Lay g.2) (e0 : (g.1 87 0).toInt = (n0 : Int)) (l : n0 < 20) {xe va : Int32} {u1 : Option MV} {Q : Option MV → MH → Prop} (hq : Wb rod d B_Model_ledgerLine 111 [some (.inr (.inr (.inl (some 84)))), u1, some (.inl xe), some (.inl va)] [] (sI (sI (sI g 87 (1 + 2 * n0) xe) 87 (1 + 2 * n0 + 1) va) 87 0 (g.1 87 0 + 1)) Q) : Wb rod d B_Model_ledgerLine 69 [some (.inr (.inr (.inl (some 84)))), u1, some (.inl xe), some (.inl va)] [] g Q := by
  have e8 : ((1 : Int32) + ((2 : Int32) * (g.1 87 0))).toInt = ((1 + 2 * n0 : Nat) : Int) := n_add (m := 1) rfl (n_mul (m := 2) rfl e0 (by omega)) (by omega)
  have f1 : ((2 : Int32) + ((2 : Int32) * (g.1 87 0))).toInt = ((1 + 2 * n0 + 1 : Nat) : Int) := by
    rw [show 1 + 2 * n0 + 1 = 2 + 2 * n0 by omega]
    exact n_add (m := 2) rfl (n_mul (m := 2) rfl e0 (by omega)) (by omega)
  refine w_Model_ledgerLine_69 L4 (by rw [k0, e8]; omega) ?_
  rw [k0, n_eq e8]
  have e2 : (sI g 87 (1 + 2 * n0) xe).1 87 0 = g.1 87 0 := sI_nj (by omega)
  refine w_Model_ledgerLine_85 (h := sI g 87 (1 + 2 * n0) xe) L4 (by rw [k0, e2, f1]; omega) ?_
  rw [k0, e2, n_eq f1]
  refine w_Model_ledgerLine_101 (h := sI (sI g 87 (1 + 2 * n0) xe) 87 (1 + 2 * n0 + 1) va) L4 ?_
  rw [k0]
  simp (disch := omega) only [sI_nj]
  exact hq
theorem led_post (P : PreB T len 2 s0 a g Y) (hk : 17 ≤ k ∧ k < 21) {c : Bool} (hc : c = true ↔ 20 ≤ (g.1 87 0).toInt) (F : Fr PX g g2) (M2 : MrX T len g2 (numsX T len k s0 (nbh k) (ntX c 3 a Y))) {xe va : Int32} (ee : xe.toInt = (k : Int) - 17) (ea : (numsX T len k s0 (nbh k) (ntX c 3 a Y)).2.2.1 = 0 → va.toInt = vlI T len s0 0) (e0 : (g2.1 87 0).toInt = (n0 : Int)) : (20 ≤ n0 → PostB T len 2 k s0 a g Y g2) ∧ (n0 < 20 → PostB T len 2 k s0 a g Y (sI (sI (sI g2 87 (1 + 2 * n0) xe) 87 (1 + 2 * n0 + 1) va) 87 0 (g2.1 87 0 + 1))) := by
  obtain ⟨L, E, M, w, h1, hs, rn, ha, pa⟩ := P
  have e0g : (g.1 87 0).toInt = (n0 : Int) := by rw [← F.py.kc87]; exact e0
  have tm : ∀ R n, RR 2 g R n → c = tooM k R := fun R n rr => by
    have e := rr.1 0 (by decide)
    rw [tooM, if_neg (by omega), if_neg (by omega), if_neg (by omega), if_neg (by omega), if_pos (by omega)]
    cases c with
    | true => exact (decide_eq_true (by have := hc.mp rfl; omega)).symm
    | false => exact (decide_eq_false (fun z => absurd (hc.mpr (by omega)) (by decide))).symm
  constructor
  · intro l
    refine ⟨F.py.pl, c, tm, M2, rn.fy F.py, fun q => ?_⟩
    have := nums_0 w h1 hs ha q
    have cc := hc.mpr (by omega)
    rw [this] at cc
    exact absurd cc (by decide)
  · intro l
    refine ⟨((F.py.pl.si (PL.s _)).si (PL.s _)).si (PL.s _), c, tm, ((M2.s87 _ _).s87 _ _).s87 _ _, ⟨fun q => absurd q (by decide), fun q => absurd q (by decide), fun _ => ?_⟩, fun q R n rr => ?_⟩
    · rw [sI_same, bw, t_succ e0 (by omega)]
      omega
    · have r0 : R 0 = (n0 : Int) := by rw [← rr.1 0 (by decide)]; exact e0g
      have rt : (R 0).toNat = n0 := by omega
      refine ⟨?_, fun z => absurd z (by decide), fun z => absurd z (by decide)⟩
      rw [tellR, if_neg (by omega), if_neg (by omega), if_neg (by omega), if_neg (by omega), if_neg (by omega), if_neg (by omega), if_neg (by omega), if_neg (by omega), if_pos (by omega), rt]
      refine (((rr.1.fy F.py).up ee _).up (ea q) _).up ?_ 0
      rw [t_succ e0 (by omega), r0]
      rfl
theorem r_ledgerLine (L : Lay g.2) (E : EnvA g T len) (M : MS T len 2 g S) (w : WF len S.1) (h1 : S.1.1 = false) : Wc rod (d + 6) 213 [.inr (.inr (.inl (some 84)))] g (fun r g' => r = none ∧ Fr PL g g' ∧ MS T len 2 g' (lineX T len 2 S)) := by
  have tk := M.1.2.2.2 h1
  have b0 := (M.2.2 h1).2.2 rfl
  have nn := n_of (x := g.1 87 0) b0.1
  refine n_Model_ledgerLine ?_
  refine w_Model_ledgerLine_0 L (r_wordIn L E M.1 w h1 (a := 17) (b := 20) rfl rfl (by decide)) ?_
  rintro r g1 ⟨F1, ⟨kd, iw, rfl, M1⟩ | ⟨bad, rfl, M1⟩⟩
  · have iw' : inW 2 (wdF T len S.1.2.1) = true := decide_eq_true iw
    have hl := kd_lt (by omega : kdF T len S.1.2.1 ≠ 0)
    have P := pre_of L E M w h1 hl F1 M1
    have L1 := L.fr F1
    have en : (Int32.ofNat (wdF T len S.1.2.1)).toInt = (wdF T len S.1.2.1 : Int) := t_nat (by omega)
    have e10 := n_sub (y := 17) (n := 17) en rfl (by omega) iw.1
    have kk : wdF T len S.1.2.1 = kw 2 (wdF T len S.1.2.1) := by rw [kw, if_neg (by decide), if_neg (by decide)]
    have nn1 : (g1.1 87 0).toInt = ((g.1 87 0).toNatClampNeg : Int) := by rw [F1.py.kc87]; exact nn
    have fin : ∀ l3 g2, PostB T len 2 (wdF T len S.1.2.1) S.1.2.1 S.1.2.1 g1 (nxX T len S.1) g2 → Wb rod (d + 5) B_Model_ledgerLine 111 [some (.inr (.inr (.inl (some 84)))), some (.inl (g.1 84 4)), some (.inl (Int32.ofNat (wdF T len S.1.2.1) - 17)), l3] [] g2 (fun r g' => r = none ∧ Fr PL g g' ∧ MS T len 2 g' (lineX T len 2 S)) := by
      intro l3 g2 P2
      obtain ⟨Z, MZ, wz, hz⟩ := fin_of E M w h1 kd iw' kk F1 P2
      have FL := F1.py.pl.trans P2.1
      refine w_Model_ledgerLine_111 (L.fr FL) (r_endsLine (L.fr FL) (E.fl FL) MZ wz) ?_
      rintro _ g3 ⟨rfl, F3, M3⟩
      refine w_Model_ledgerLine_115 ?_
      have := hz g3 F3 M3
      exact ⟨rfl, this.2, this.1⟩
    have on : ∀ (c : Bool) g2, (c = true ↔ 20 ≤ (g1.1 87 0).toInt) → Fr PX g1 g2 → MrX T len g2 (ntX c 3 S.1.2.1 (nxX T len S.1)) → Wb rod (d + 5) B_Model_ledgerLine 41 [some (.inr (.inr (.inl (some 84)))), some (.inl (g.1 84 4)), some (.inl (Int32.ofNat (wdF T len S.1.2.1) - 17)), none] [] g2 (fun r g' => r = none ∧ Fr PL g g' ∧ MS T len 2 g' (lineX T len 2 S)) := by
      intro c g2 hc F2 M2
      have w0 := P.2.2.2.1.n3 h1 (a := S.1.2.1) P.2.2.2.2.2.2.2.1 c
      have s0' : (ntX c 3 S.1.2.1 (nxX T len S.1)).2.1 = tpI T len S.1.2.1 1 := by rw [(nt_1 _ _ _).2]; rfl
      have tail : ∀ (hi : Int) (xh : Int32), xh.toInt = hi → numsX T len (wdF T len S.1.2.1) S.1.2.1 (nbh (wdF T len S.1.2.1)) (ntX c 3 S.1.2.1 (nxX T len S.1)) = numX T len 0 hi false (ntX c 3 S.1.2.1 (nxX T len S.1)) → Wb rod (d + 5) B_Model_ledgerLine 54 [some (.inr (.inr (.inl (some 84)))), some (.inl (g.1 84 4)), some (.inl (Int32.ofNat (wdF T len S.1.2.1) - 17)), none] [.inl xh, .inl 0, .inr (.inr (.inl (some 84)))] g2 (fun r g' => r = none ∧ Fr PL g g' ∧ MS T len 2 g' (lineX T len 2 S)) := by
        intro hi xh eh en2
        refine w_Model_ledgerLine_54 (L1.fr F2) (r_numbered (L1.fr F2) (P.2.1.fr F2) M2 w0 (lo := 0) rfl eh) ?_
        rintro _ g3 ⟨va, rfl, F3, M3, ev0⟩
        have F13 := F2.trans F3
        have e0 : (g3.1 87 0).toInt = ((g.1 87 0).toNatClampNeg : Int) := by rw [F13.py.kc87]; exact nn1
        have pp := led_post P (k := wdF T len S.1.2.1) (by omega) hc F13 (by rw [en2]; exact M3) (xe := Int32.ofNat (wdF T len S.1.2.1) - 17) (by rw [e10]; omega) (va := va) (fun q => by rw [en2] at q; exact ev0.trans (one_f0 w0 s0' q)) e0
        refine w_Model_ledgerLine_57 (L1.fr F13) rfl (fun z => ?_) (fun z => ?_)
        · rw [k0, e0] at z
          exact fin _ _ (pp.1 (by omega))
        · rw [k0, e0] at z
          exact led_w (L1.fr F13) e0 (by omega) (fin _ _ (pp.2 (by omega)))
      refine w_Model_ledgerLine_41 (fun z => ?_) (fun z => ?_)
      · rw [e10] at z
        refine w_Model_ledgerLine_52 ?_
        refine tail 99 99 rfl ?_
        rcases (show wdF T len S.1.2.1 = 17 ∨ wdF T len S.1.2.1 = 18 ∨ wdF T len S.1.2.1 = 19 by omega) with e | e | e
        · rw [e]
          show numX T len _ _ (exX T len 17 0 S.1.2.1) _ = _
          rw [ex_no (Or.inl (by decide))]
          rfl
        · rw [e]
          show numX T len _ _ (exX T len 18 0 S.1.2.1) _ = _
          rw [ex_no (Or.inl (by decide))]
          rfl
        · rw [e]
          show numX T len _ _ (exX T len 19 0 S.1.2.1) _ = _
          rw [ex_no (Or.inl (by decide))]
          rfl
      · rw [e10] at z
        refine w_Model_ledgerLine_48 ?_
        refine tail 5 5 rfl ?_
        rw [show wdF T len S.1.2.1 = 20 by omega]
        show numX T len _ _ (exX T len 20 0 S.1.2.1) _ = _
        rw [ex_no (Or.inl (by decide))]
        rfl
    refine w_Model_ledgerLine_13 L1 rfl (fun c => absurd (M1.w0 h1) c) (fun _ => ?_)
    refine w_Model_ledgerLine_24 L1 (fun z => ?_) (fun z => ?_)
    · exact on false g1 ⟨fun y => absurd y (by decide), fun y => absurd z (by rw [k0]; omega)⟩ Fr.rfl (by rw [nt_false]; exact M1)
    · refine w_Model_ledgerLine_35 L1 (r_too L1 M1 P.2.2.2.1 h1 P.2.2.2.2.2.2.2.1 P.2.2.2.2.2.2.2.2 tk.1) ?_
      rintro _ g2 ⟨rfl, F2, M2⟩
      exact on true g2 ⟨fun _ => by rw [k0] at z; omega, fun _ => rfl⟩ F2 M2
  · have bad' : ¬ (kdF T len S.1.2.1 = 1 ∧ inW 2 (wdF T len S.1.2.1) = true) := fun z => bad ⟨z.1, of_decide_eq_true z.2⟩
    have L1 := L.fr F1
    have we := w.ende
    have wr := end_1 h1
    refine w_Model_ledgerLine_13 L1 rfl (fun _ => ?_) (fun c => absurd c (by rw [M1.w1 wr]; decide))
    refine w_Model_ledgerLine_41 (fun _ => ?_) (fun z => absurd z (by decide))
    refine w_Model_ledgerLine_52 ?_
    refine w_Model_ledgerLine_54 L1 (r_numbered L1 (E.fr F1) M1 we (lo := 0) (hi := 99) rfl rfl) ?_
    rintro _ g2 ⟨va, rfl, F2, M2, ev0⟩
    rw [num_wr wr] at M2
    have F12 := F1.trans F2
    have e0 : (g2.1 87 0).toInt = ((g.1 87 0).toNatClampNeg : Int) := by rw [F12.py.kc87]; exact nn
    have fin : ∀ l3 g3, Fr PL g g3 → MrX T len g3 (endX S.1) → Wb rod (d + 5) B_Model_ledgerLine 111 [some (.inr (.inr (.inl (some 84)))), some (.inl (g.1 84 4)), some (.inl (0 - 17)), l3] [] g3 (fun r g' => r = none ∧ Fr PL g g' ∧ MS T len 2 g' (lineX T len 2 S)) := by
      intro l3 g3 F3 M3
      refine w_Model_ledgerLine_111 (L.fr F3) (r_endsLine (L.fr F3) (E.fl F3) M3 we) ?_
      rintro _ g4 ⟨rfl, F4, M4⟩
      refine w_Model_ledgerLine_115 ?_
      rw [sem_wr wr] at M4
      exact ⟨rfl, F3.trans F4.py.pl, bad_of E h1 bad' M4⟩
    refine w_Model_ledgerLine_57 (L.fr F12) rfl (fun z => fin _ _ F12.py.pl M2) (fun z => ?_)
    rw [k0, e0] at z
    exact led_w (L.fr F12) e0 (by omega) (fin _ _ (((F12.py.pl.si (PL.s _)).si (PL.s _)).si (PL.s _)) (((M2.s87 _ _).s87 _ _).s87 _ _))
/-! bargains -/
theorem r_bargainLine (L : Lay g.2) (E : EnvA g T len) (M : MS T len 3 g S) (w : WF len S.1) (h1 : S.1.1 = false) : Wc rod (d + 6) 214 [.inr (.inr (.inl (some 84)))] g (fun r g' => r = none ∧ Fr PL g g' ∧ MS T len 3 g' (lineX T len 3 S)) := by
  refine n_Model_bargainLine ?_
  refine w_Model_bargainLine_0 L (r_wordIn L E M.1 w h1 (a := 21) (b := 22) rfl rfl (by decide)) ?_
  rintro r g1 ⟨F1, ⟨kd, iw, rfl, M1⟩ | ⟨bad, rfl, M1⟩⟩
  · have iw' : inW 3 (wdF T len S.1.2.1) = true := decide_eq_true iw
    have hl := kd_lt (by omega : kdF T len S.1.2.1 ≠ 0)
    have P := pre_of L E M w h1 hl F1 M1
    have L1 := L.fr F1
    have en : (Int32.ofNat (wdF T len S.1.2.1)).toInt = (wdF T len S.1.2.1 : Int) := t_nat (by omega)
    have fin : ∀ k l1 l2 l3 g2, k = kw 3 (wdF T len S.1.2.1) → PostB T len 3 k S.1.2.1 S.1.2.1 g1 (nxX T len S.1) g2 → Wb rod (d + 5) B_Model_bargainLine 81 [some (.inr (.inr (.inl (some 84)))), l1, l2, l3] [] g2 (fun r g' => r = none ∧ Fr PL g g' ∧ MS T len 3 g' (lineX T len 3 S)) := by
      intro k l1 l2 l3 g2 hk P2
      obtain ⟨Z, MZ, wz, hz⟩ := fin_of E M w h1 kd iw' hk F1 P2
      have FL := F1.py.pl.trans P2.1
      refine w_Model_bargainLine_81 (L.fr FL) (r_endsLine (L.fr FL) (E.fl FL) MZ wz) ?_
      rintro _ g3 ⟨rfl, F3, M3⟩
      refine w_Model_bargainLine_85 ?_
      have := hz g3 F3 M3
      exact ⟨rfl, this.2, this.1⟩
    refine w_Model_bargainLine_8 rfl (fun c => ?_) (fun c => ?_)
    · rw [en] at c
      have e : wdF T len S.1.2.1 = 22 := by omega
      have w0 := P.2.2.2.1
      refine w_Model_bargainLine_30 L1 (r_numbered L1 P.2.1 M1 w0 (lo := 1) (hi := 15) rfl rfl) ?_
      rintro _ g2 ⟨v0, rfl, F2, M2, ev0⟩
      have w1 := w0.num (T := T) (lo := 1) (hi := 15) (ex := false)
      refine w_Model_bargainLine_37 (L1.fr F2) rfl (r_numbered (L1.fr F2) (P.2.1.fr F2) M2 w1 (lo := 0) (hi := 40) rfl rfl) ?_
      rintro _ g3 ⟨v1, rfl, F3, M3, ev1⟩
      have F13 := F2.trans F3
      have L3 := L1.fr F13
      have en2 : numsX T len 22 S.1.2.1 (nbh 22) (ntX false 3 S.1.2.1 (nxX T len S.1)) = numX T len 0 40 false (numX T len 1 15 false (nxX T len S.1)) := by
        rw [nt_false]
        show numX T len _ _ (exX T len 22 1 S.1.2.1) (numX T len _ _ (exX T len 22 0 S.1.2.1) _) = _
        rw [ex_no (Or.inl (by decide)), ex_no (Or.inl (by decide))]
        rfl
      have b0 := nv_bd (T := T) (len := len) (X := nxX T len S.1) (show (1 : Int) ≤ 15 by decide)
      have o0 := n_of (x := v0) (by omega)
      have rn3 : ∀ g', RN 3 g' := fun g' => ⟨fun q => absurd q (by decide), fun q => absurd q (by decide), fun q => absurd q (by decide)⟩
      cases hw : (numX T len 0 40 false (numX T len 1 15 false (nxX T len S.1))).1 with
      | true =>
        refine w_Model_bargainLine_45 L3 rfl (fun z => absurd z (by rw [M3.w1 hw]; decide)) (fun _ => ?_)
        refine w_Model_bargainLine_58 ?_
        refine w_Model_bargainLine_63 L3 ?_
        have M4 := M3.s11 (g3.1 84 11 ||| 0)
        refine w_Model_bargainLine_67 (h := sI g3 84 11 (g3.1 84 11 ||| 0)) L3 (fun _ => ?_) (fun z => absurd z (by rw [M4.w1 hw]; decide))
        refine fin 22 _ _ _ _ (by rw [e]; rfl) ?_
        refine ⟨F13.py.pl.si (Or.inr (Or.inl ⟨rfl, rfl⟩)), false, fun _ _ _ => rfl, by rw [en2]; exact M4, rn3 _, fun q => ?_⟩
        rw [en2] at q
        have := (w1.num (T := T) (lo := 0) (hi := 40) (ex := false)).1 hw
        exact absurd (q.symm.trans this) (by decide)
      | false =>
        refine w_Model_bargainLine_45 L3 rfl (fun _ => ?_) (fun z => absurd (M3.w0 hw) z)
        refine w_Model_bargainLine_62 ?_
        refine w_Model_bargainLine_63 L3 ?_
        have M4 := M3.s11 (g3.1 84 11 ||| v0)
        refine w_Model_bargainLine_67 (h := sI g3 84 11 (g3.1 84 11 ||| v0)) L3 (fun z => absurd (M4.w0 hw) z) (fun _ => ?_)
        refine w_Model_bargainLine_74 (h := sI g3 84 11 (g3.1 84 11 ||| v0)) L3 (by omega) ?_
        refine fin 22 _ _ _ _ (by rw [e]; rfl) ?_
        refine ⟨(F13.py.pl.si (Or.inr (Or.inl ⟨rfl, rfl⟩))).si (PL.s _), false, fun _ _ _ => rfl, by rw [en2]; exact M4.s87 _ _, rn3 _, fun q R n rr => ?_⟩
        rw [en2] at q
        have f := two_f0 w0 rfl q
        have a0 : v0.toInt = vlI T len S.1.2.1 0 := ev0.trans f.1
        have a1 : v1.toInt = vlI T len S.1.2.1 1 := ev1.trans f.2.1
        have t0 : (vlI T len S.1.2.1 0).toNat = v0.toNatClampNeg := by omega
        refine ⟨?_, fun z => absurd z (by decide), fun z => ?_⟩
        · show Q87 _ (updR R (vlI T len S.1.2.1 0).toNat (vlI T len S.1.2.1 1))
          rw [t0]
          refine Q87.up ?_ a1 _
          intro j hj
          rw [sI_nc (by omega)]
          exact (rr.1.fy F13.py) j hj
        · show _ = ((n ||| (vlI T len S.1.2.1 0).toNat : Nat) : Int) ∧ (n ||| (vlI T len S.1.2.1 0).toNat) < 16
          rw [sI_nc (by omega), sI_same, t0, F13.2 84 11 (by unfold PX; omega)]
          have r3 := rr.2.2 z
          have o := or16 r3.2 (show v0.toNatClampNeg < 16 by omega)
          rw [ofN r3.1 (by omega), ofN o0 (by omega), n_eq (t_nat (by omega)), o.1]
          exact ⟨t_nat (by omega), o.2⟩
    · rw [en] at c
      have e : wdF T len S.1.2.1 = 21 := by omega
      refine w_Model_bargainLine_15 L1 (r_numbered L1 P.2.1 M1 P.2.2.2.1 (lo := 1) (hi := 4) rfl rfl) ?_
      rintro _ g2 ⟨v, rfl, F2, M2, ev⟩
      refine w_Model_bargainLine_26 (ncs0 := 121) ((L1.fr F2).1 87 _ rfl) (by decide) ?_
      refine w_Model_bargainLine_27 ?_
      exact fin 21 _ _ _ _ (by rw [e]; rfl) (post_one P F2 M2 ev (i := 0) rfl rfl rfl (fun _ => rfl) (fun _ _ => rfl) (fun _ _ => rfl) (Or.inr rfl) (by decide))
  · have bad' : ¬ (kdF T len S.1.2.1 = 1 ∧ inW 3 (wdF T len S.1.2.1) = true) := fun z => bad ⟨z.1, of_decide_eq_true z.2⟩
    have L1 := L.fr F1
    have we := w.ende
    have wr := end_1 h1
    refine w_Model_bargainLine_8 rfl (fun c => ?_) (fun c => absurd c (by decide))
    refine w_Model_bargainLine_30 L1 (r_numbered L1 (E.fr F1) M1 we (lo := 1) (hi := 15) rfl rfl) ?_
    rintro _ g2 ⟨v0, rfl, F2, M2, ev0⟩
    rw [num_wr wr] at M2
    have F12 := F1.trans F2
    refine w_Model_bargainLine_37 (L.fr F12) rfl (r_numbered (L.fr F12) (E.fr F12) M2 we (lo := 0) (hi := 40) rfl rfl) ?_
    rintro _ g3 ⟨v1, rfl, F3, M3, ev1⟩
    rw [num_wr wr] at M3
    have F13 := F12.trans F3
    have L3 := L.fr F13
    refine w_Model_bargainLine_45 L3 rfl (fun z => absurd z (by rw [M3.w1 wr]; decide)) (fun _ => ?_)
    refine w_Model_bargainLine_58 ?_
    refine w_Model_bargainLine_63 L3 ?_
    have M4 := M3.s11 (g3.1 84 11 ||| 0)
    refine w_Model_bargainLine_67 (h := sI g3 84 11 (g3.1 84 11 ||| 0)) L3 (fun _ => ?_) (fun z => absurd z (by rw [M4.w1 wr]; decide))
    have F4 : Fr PL g (sI g3 84 11 (g3.1 84 11 ||| 0)) := F13.py.pl.si (Or.inr (Or.inl ⟨rfl, rfl⟩))
    refine w_Model_bargainLine_81 (L.fr F4) (r_endsLine (L.fr F4) (E.fl F4) M4 we) ?_
    rintro _ g5 ⟨rfl, F5, M5⟩
    refine w_Model_bargainLine_85 ?_
    rw [sem_wr wr] at M5
    exact ⟨rfl, F4.trans F5.py.pl, bad_of E h1 bad' M5⟩
end M96d
