/-! THE READER: the reference's lines -/
section M96c
variable {rod : Nat → Nat × (Nat → Int32)} {d : Nat} {h g g1 g2 : MH} {T : Nat → Int} {len : Nat} {X Y Z : XS} {lo hi : Int} {t k a s0 n : Nat} {R : Nat → Int} {S : LnS}
theorem nums_r (Y : XS) : numsX T len 4 s0 (nbh 4) Y = numX T len 1 9 false (numX T len 0 5 (exX T len 4 1 s0) (numX T len 0 5 false Y)) := by
  show numX T len _ _ (exX T len 4 2 s0) (numX T len _ _ (exX T len 4 1 s0) (numX T len _ _ (exX T len 4 0 s0) Y)) = _
  rw [ex_no (i := 2) (Or.inr (by decide)), ex_no (i := 0) (Or.inr (by decide))]
  rfl
theorem road_w {g4 : MH} {p q : Nat} (L4 : Lay g4.2) (p6 : p < 6) (q6 : q < 6) {v0 v1 v2 : Int32} (e0 : v0.toInt = (p : Int)) (e1 : v1.toInt = (q : Int)) {Q : Option MV → MH → Prop} (hq : Q none (sI (sI g4 87 (54 + 6 * p + q) v2) 87 (54 + 6 * q + p) v2)) : Wb rod d B_Model_roadLine 49 [some (.inr (.inr (.inl (some 84)))), some (.inl v0), some (.inl v1), none] [.inl v2] g4 Q := by
  have f1 : (((54 : Int32) + ((6 : Int32) * v0)) + v1).toInt = ((54 + 6 * p + q : Nat) : Int) := n_add (n_add (m := 54) rfl (n_mul (m := 6) rfl e0 (by omega)) (by omega)) e1 (by omega)
  have f2 : (((54 : Int32) + ((6 : Int32) * v1)) + v0).toInt = ((54 + 6 * q + p : Nat) : Int) := n_add (n_add (m := 54) rfl (n_mul (m := 6) rfl e1 (by omega)) (by omega)) e0 (by omega)
  refine w_Model_roadLine_49 L4 (by rw [f1]; omega) ?_
  rw [n_eq f1]
  refine w_Model_roadLine_65 (h := sI g4 87 (54 + 6 * p + q) v2) L4 (by rw [f2]; omega) ?_
  rw [n_eq f2]
  refine w_Model_roadLine_80 ?_
  exact hq
theorem r_road (P : PreB T len 0 s0 a g Y) : Wc rod (d + 7) 205 [.inr (.inr (.inl (some 84)))] g (fun r g' => r = none ∧ PostB T len 0 4 s0 a g Y g') := by
  obtain ⟨L, E, M, w, h1, hs, rn, ha, pa⟩ := P
  refine n_Model_roadLine ?_
  refine w_Model_roadLine_0 L (r_townTold L E M w) ?_
  rintro _ g1 ⟨v0, rfl, F1, M1, ev0, e9⟩
  have w1 := w.num (T := T) (lo := 0) (hi := 5) (ex := false)
  have L1 := L.fr F1
  have b0 := nv_bd (T := T) (len := len) (X := Y) (show (0 : Int) ≤ 5 by decide)
  have y1 : (numX T len 0 5 false Y).2.2.1 = 0 → (numX T len 0 5 false Y).2.1 = tpI T len s0 2 ∧ v0.toInt = vlI T len s0 0 := fun q => by
    have n := num_f0 w q
    refine ⟨by rw [n.2.2.2.2.2.2, hs]; rfl, ?_⟩
    rw [ev0, nv_f0 w q, hs]
    rfl
  have go : ∀ (Z : XS) (g2 : MH), Fr PX g1 g2 → MrX T len g2 Z → WF len Z → numX T len 0 5 false Z = numX T len 0 5 (exX T len 4 1 s0) (numX T len 0 5 false Y) → nvX T len 0 5 Z = nvX T len 0 5 (numX T len 0 5 false Y) → Wb rod (d + 6) B_Model_roadLine 37 [some (.inr (.inr (.inl (some 84)))), some (.inl v0), none, none] [] g2 (fun r g' => r = none ∧ PostB T len 0 4 s0 a g Y g') := by
    intro Z g2 F2 M2 w2 eZ nZ
    have F12 := F1.trans F2.py
    refine w_Model_roadLine_37 (L.fr F12) (r_townTold (L.fr F12) (E.fy F12) M2 w2) ?_
    rintro _ g3 ⟨v1, rfl, F3, M3, ev1, f9⟩
    rw [eZ] at M3
    rw [nZ] at ev1
    have F13 := F12.trans F3
    have w3 := w1.num (T := T) (lo := 0) (hi := 5) (ex := exX T len 4 1 s0)
    refine w_Model_roadLine_41 (L.fr F13) rfl (r_numbered (L.fr F13) (E.fy F13) M3 w3 (lo := 1) (hi := 9) rfl rfl) ?_
    rintro _ g4 ⟨v2, rfl, F4, M4, ev2⟩
    have F14 := F13.trans F4.py
    have b1 := nv_bd (T := T) (len := len) (X := numX T len 0 5 false Y) (show (0 : Int) ≤ 5 by decide)
    have o0 := n_of (x := v0) (by omega)
    have o1 := n_of (x := v1) (by omega)
    refine road_w (L.fr F14) (by omega) (by omega) o0 o1 ⟨rfl, ?_⟩
    refine ⟨(F14.pl.si (PL.s _)).si (PL.s _), false, fun R n _ => rfl, ?_, ?_, ?_⟩
    · rw [nt_false, nums_r]; exact (M4.s87 _ _).s87 _ _
    · have r := rn.fy F14
      refine ⟨fun q => ?_, fun q => absurd q (by decide), fun q => absurd q (by decide)⟩
      simp (disch := omega) only [sI_nj]
      exact r.1 q
    · rw [nt_false, nums_r]
      intro q R n rr
      have n3 := num_f0 w3 q
      have n2 := num_f0 w1 n3.2.1
      have y := y1 n2.2.1
      have a1 : v1.toInt = vlI T len s0 1 := by rw [ev1, nv_f0 w1 n3.2.1, y.1]; rfl
      have a2 : v2.toInt = vlI T len s0 2 := by
        rw [ev2, nv_f0 w3 q, n2.2.2.2.2.2.2, y.1]
        rfl
      have t0 : (vlI T len s0 0).toNat = v0.toNatClampNeg := by omega
      have t1 : (vlI T len s0 1).toNat = v1.toNatClampNeg := by omega
      refine ⟨?_, fun z => ?_, fun z => absurd z (by decide)⟩
      · show Q87 _ (updR (updR R (54 + 6 * (vlI T len s0 0).toNat + (vlI T len s0 1).toNat) (vlI T len s0 2)) (54 + 6 * (vlI T len s0 1).toNat + (vlI T len s0 0).toNat) (vlI T len s0 2))
        rw [t0, t1]
        exact ((rr.1.fy F14).up a2 _).up a2 _
      · show FT (n ||| (2 ^ (vlI T len s0 0).toNat ||| 2 ^ (vlI T len s0 1).toNat)) _
        simp (disch := omega) only [sI_nc]
        rw [F4.2 84 9 (by unfold PX; omega), f9, F2.2 84 9 (by unfold PX; omega), e9, t0, t1, ← Nat.or_assoc, o0, o1]
        exact ((rr.2.1 z).or (by omega)).or (by omega)
  cases hw : (numX T len 0 5 false Y).1 with
  | true =>
    refine w_Model_roadLine_4 L1 (fun _ => ?_) (fun c => absurd c (by rw [M1.w1 hw]; decide))
    exact go _ g1 Fr.rfl M1 w1 (by rw [num_wr hw, num_wr hw]) rfl
  | false =>
    have tk := M1.2.2.2 hw
    have te := tk_eq T len (numX T len 0 5 false Y).2.1
    refine w_Model_roadLine_4 L1 (fun c => absurd (M1.w0 hw) c) (fun _ => ?_)
    refine w_Model_roadLine_12 L1 (fun c => ?_) (fun c => ?_)
    · have kd : ¬ kdF T len (numX T len 0 5 false Y).2.1 = 2 := fun z => c (by rw [tk.2.2.1]; have := te.1.mpr z; omega)
      exact go _ g1 Fr.rfl M1 w1 (by rw [num_no hw kd, num_no hw kd]) rfl
    · have kd : kdF T len (numX T len 0 5 false Y).2.1 = 2 := te.1.mp (by rw [tk.2.2.1] at c; omega)
      have ev := tk.2.2.2.1 kd
      refine w_Model_roadLine_20 L1 (fun z => ?_) (fun z => ?_)
      · refine go _ g1 Fr.rfl M1 w1 (num_ne ?_) rfl
        by_cases f0 : (numX T len 0 5 false Y).2.2.1 = 0
        · right
          have y := y1 f0
          refine (decide_eq_false fun q => z ?_).symm
          rw [ev, y.1, y.2]
          exact q.2.2
        · exact Or.inl f0
      · have ww := (w1.2 hw).2.2
        refine w_Model_roadLine_28 L1 (r_also L1 M1 hw (k := 2) rfl tk.1 (by omega)) ?_
        rintro _ g2 ⟨rfl, F2, M2⟩
        refine go _ g2 F2 M2 (w1.nt hw true) ?_ ?_
        · rw [num_ex hw kd]
          refine num_ne ?_
          by_cases f0 : (numX T len 0 5 false Y).2.2.1 = 0
          · right
            have y := y1 f0
            refine (decide_eq_true ⟨rfl, rfl, ?_⟩).symm
            rw [ev, y.1, y.2] at z
            exact z
          · exact Or.inl f0
        · rw [nvX, nvX, (nt_1 _ _ _).1, (nt_1 _ _ _).2]
def MS (T : Nat → Int) (len t : Nat) (g : MH) (S : LnS) : Prop := MrX T len g S.1 ∧ (S.1.2.2.1 = 0 → RR t g S.2.1 S.2.2) ∧ (S.1.1 = false → RN t g)
theorem pre_of (L : Lay g.2) (E : EnvA g T len) (M : MS T len t g S) (w : WF len S.1) (h1 : S.1.1 = false) (hl : S.1.2.1 < len) (F : Fr PX g g1) (M1 : MrX T len g1 (nxX T len S.1)) : PreB T len t S.1.2.1 S.1.2.1 g1 (nxX T len S.1) := by
  have tb := (tp_bd (T := T) (Nat.le_of_lt hl)).2 hl
  exact ⟨L.fr F, E.fr F, M1, w.nx hl, h1, rfl, (M.2.2 h1).fy F.py, tb, (w.2 h1).2.2⟩
theorem fin_of (E : EnvA g T len) (M : MS T len t g S) (w : WF len S.1) (h1 : S.1.1 = false) (kd : kdF T len S.1.2.1 = 1) (iw : inW t (wdF T len S.1.2.1) = true) (hk : k = kw t (wdF T len S.1.2.1)) (F : Fr PX g g1) (P : PostB T len t k S.1.2.1 S.1.2.1 g1 (nxX T len S.1) g2) : ∃ Z, MrX T len g2 Z ∧ WF len Z ∧ ∀ g3, Fr PX g2 g3 → MrX T len g3 (semX T len Z) → MS T len t g3 (lineX T len t S) ∧ Fr PL g g3 := by
  obtain ⟨F2, c, tm, M2, rn, tell⟩ := P
  have hl := kd_lt (by omega : kdF T len S.1.2.1 ≠ 0)
  have tb := (tp_bd (T := T) (Nat.le_of_lt hl)).2 hl
  have en : nxX T len (ntX (tooM k S.2.1) 3 S.1.2.1 S.1) = ntX c 3 S.1.2.1 (nxX T len S.1) := by
    rw [nt_nx]
    refine nt_ne ?_
    by_cases f0 : S.1.2.2.1 = 0
    · exact Or.inr (tm _ _ ((M.2.1 f0).fx F)).symm
    · exact Or.inl f0
  have wz := ((w.nx (T := T) hl).n3 h1 (a := S.1.2.1) tb c).nums (T := T) k S.1.2.1 (nbh k)
  refine ⟨_, M2, wz, fun g3 F3 M3 => ⟨?_, (F.py.pl.trans F2).trans F3.py.pl⟩⟩
  have el : lineX T len t S = lnX T len k S := by rw [lineX, if_pos ⟨kd, iw⟩, hk]
  have ew : wX T len k S = semX T len (numsX T len k S.1.2.1 (nbh k) (ntX c 3 S.1.2.1 (nxX T len S.1))) := by rw [wX, en]
  rw [el]
  refine ⟨by show MrX T len g3 (wX T len k S); rw [ew]; exact M3, fun q => ?_, fun _ => rn.fy F3.py⟩
  have q : (wX T len k S).2.2.1 = 0 := q
  have f0 := ln_f0 w h1 hl q
  rw [lnX, if_pos q]
  rw [ew] at q
  have z := sem_f0 wz q
  exact (tell z.2.1 _ _ ((M.2.1 f0.1).fx F)).fx F3
theorem bad_of (E : EnvA g T len) (h1 : S.1.1 = false) (bad : ¬ (kdF T len S.1.2.1 = 1 ∧ inW t (wdF T len S.1.2.1) = true)) {g3 : MH} (M3 : MrX T len g3 (endX S.1)) : MS T len t g3 (lineX T len t S) := by
  have e : endX S.1 = (true, S.1.2.1, 1, (S.1.2.1 : Int)) := by rw [endX, if_neg (by rw [h1]; decide)]
  rw [lineX, if_neg bad]
  refine ⟨M3, fun q => ?_, fun q => ?_⟩
  · have q : (endX S.1).2.2.1 = 0 := q
    rw [e] at q
    exact absurd q (by show ¬ (1 : Nat) = 0; decide)
  · have q : (endX S.1).1 = false := q
    rw [e] at q
    exact absurd q (by show ¬ true = false; decide)
theorem end_1 (h1 : X.1 = false) : (endX X).1 = true := by rw [endX, if_neg (by rw [h1]; decide)]
theorem r_landLine (L : Lay g.2) (E : EnvA g T len) (M : MS T len 0 g S) (w : WF len S.1) (h1 : S.1.1 = false) : Wc rod (d + 8) 202 [.inr (.inr (.inl (some 84)))] g (fun r g' => r = none ∧ Fr PL g g' ∧ MS T len 0 g' (lineX T len 0 S)) := by
  have tk := M.1.2.2.2 h1
  refine n_Model_landLine ?_
  refine w_Model_landLine_0 L (r_wordIn L E M.1 w h1 (a := 1) (b := 10) rfl rfl (by decide)) ?_
  rintro r g1 ⟨F1, ⟨kd, iw, rfl, M1⟩ | ⟨bad, rfl, M1⟩⟩
  · have iw' : inW 0 (wdF T len S.1.2.1) = true := decide_eq_true iw
    have hl := kd_lt (by omega : kdF T len S.1.2.1 ≠ 0)
    have P := pre_of L E M w h1 hl F1 M1
    have L1 := L.fr F1
    have en : (Int32.ofNat (wdF T len S.1.2.1)).toInt = (wdF T len S.1.2.1 : Int) := t_nat (by omega)
    have fin : ∀ k u2 g2, k = kw 0 (wdF T len S.1.2.1) → PostB T len 0 k S.1.2.1 S.1.2.1 g1 (nxX T len S.1) g2 → Wb rod (d + 7) B_Model_landLine 162 [some (.inr (.inr (.inl (some 84)))), some (.inl (g.1 84 4)), u2] [] g2 (fun r g' => r = none ∧ Fr PL g g' ∧ MS T len 0 g' (lineX T len 0 S)) := by
      intro k u2 g2 hk P2
      obtain ⟨Z, MZ, wz, hz⟩ := fin_of E M w h1 kd iw' hk F1 P2
      have FL := F1.py.pl.trans P2.1
      refine w_Model_landLine_162 (L.fr FL) (r_endsLine (L.fr FL) (E.fl FL) MZ wz) ?_
      rintro _ g3 ⟨rfl, F3, M3⟩
      refine w_Model_landLine_166 ?_
      have := hz g3 F3 M3
      exact ⟨rfl, this.2, this.1⟩
    have buy : ∀ k, k < 4 → wdF T len S.1.2.1 = k + 1 → Wb rod (d + 7) B_Model_landLine 154 [some (.inr (.inr (.inl (some 84)))), some (.inl (g.1 84 4)), some (.inl (Int32.ofNat (wdF T len S.1.2.1)))] [] g1 (fun r g' => r = none ∧ Fr PL g g' ∧ MS T len 0 g' (lineX T len 0 S)) := by
      intro k hk e
      refine w_Model_landLine_154 L1 (r_buyer P hk tk.1 (n_sub (m := k + 1) (n := 1) (by rw [en, e]) rfl (by omega) (by omega))) ?_
      rintro _ g2 ⟨rfl, P2⟩
      exact fin k _ g2 (by rw [e]; rcases (show k = 0 ∨ k = 1 ∨ k = 2 ∨ k = 3 by omega) with rfl | rfl | rfl | rfl <;> rfl) P2
    refine w_Model_landLine_12 rfl (fun c => ?_) (fun c => ?_) (fun c => ?_) (fun c => ?_) (fun c => ?_) (fun c => ?_) (fun c => ?_) (fun c => ?_) (fun c => ?_) (fun c => ?_) (fun c => ?_) ?_
    · rw [en] at c; omega
    · exact buy 0 (by omega) (by rw [en] at c; omega)
    · exact buy 1 (by omega) (by rw [en] at c; omega)
    · exact buy 2 (by omega) (by rw [en] at c; omega)
    · exact buy 3 (by omega) (by rw [en] at c; omega)
    · have e : wdF T len S.1.2.1 = 5 := by rw [en] at c; omega
      refine w_Model_landLine_75 L1 (r_road P) ?_
      rintro _ g2 ⟨rfl, P2⟩
      refine w_Model_landLine_79 ?_
      exact fin 4 _ g2 (by rw [e]; rfl) P2
    · have e : wdF T len S.1.2.1 = 6 := by rw [en] at c; omega
      refine w_Model_landLine_82 L1 (r_letter P tk.1) ?_
      rintro _ g2 ⟨rfl, P2⟩
      refine w_Model_landLine_87 ?_
      exact fin 5 _ g2 (by rw [e]; rfl) P2
    · have e : wdF T len S.1.2.1 = 7 := by rw [en] at c; omega
      refine w_Model_landLine_90 L1 (r_numbered L1 P.2.1 M1 P.2.2.2.1 (lo := 1) (hi := 6) rfl rfl) ?_
      rintro _ g2 ⟨v, rfl, F2, M2, ev⟩
      refine w_Model_landLine_102 (ncs0 := 121) ((L1.fr F2).1 87 _ rfl) (by decide) ?_
      refine w_Model_landLine_103 ?_
      exact fin 6 _ _ (by rw [e]; rfl) (post_one P F2 M2 ev (i := 0) rfl rfl rfl (fun _ => rfl) (fun _ _ => rfl) (fun _ _ => rfl) (Or.inl rfl) (by decide))
    · have e : wdF T len S.1.2.1 = 8 := by rw [en] at c; omega
      refine w_Model_landLine_106 L1 (r_numbered L1 P.2.1 M1 P.2.2.2.1 (lo := 0) (hi := 5) rfl rfl) ?_
      rintro _ g2 ⟨v, rfl, F2, M2, ev⟩
      refine w_Model_landLine_117 (ncs0 := 121) ((L1.fr F2).1 87 _ rfl) (by decide) ?_
      refine w_Model_landLine_118 ?_
      exact fin 8 _ _ (by rw [e]; rfl) (post_one P F2 M2 ev (i := 3) rfl rfl rfl (fun _ => rfl) (fun _ _ => rfl) (fun _ _ => rfl) (Or.inl rfl) (by decide))
    · have e : wdF T len S.1.2.1 = 9 := by rw [en] at c; omega
      refine w_Model_landLine_121 L1 (r_numbered L1 P.2.1 M1 P.2.2.2.1 (lo := 0) (hi := 5) rfl rfl) ?_
      rintro _ g2 ⟨v, rfl, F2, M2, ev⟩
      refine w_Model_landLine_132 (ncs0 := 121) ((L1.fr F2).1 87 _ rfl) (by decide) ?_
      refine w_Model_landLine_133 ?_
      exact fin 9 _ _ (by rw [e]; rfl) (post_one P F2 M2 ev (i := 4) rfl rfl rfl (fun _ => rfl) (fun _ _ => rfl) (fun _ _ => rfl) (Or.inl rfl) (by decide))
    · have e : wdF T len S.1.2.1 = 10 := by rw [en] at c; omega
      refine w_Model_landLine_136 L1 (r_townTold L1 P.2.1 M1 P.2.2.2.1) ?_
      rintro _ g2 ⟨v, rfl, F2, M2, ev, e9⟩
      refine w_Model_landLine_148 (ncs0 := 121) ((L1.fr F2).1 87 _ rfl) (by decide) ?_
      refine w_Model_landLine_151 ?_
      exact fin 7 _ _ (by rw [e]; rfl) (post_shut P F2 M2 ev e9)
    · intros
      omega
  · have bad' : ¬ (kdF T len S.1.2.1 = 1 ∧ inW 0 (wdF T len S.1.2.1) = true) := fun z => bad ⟨z.1, of_decide_eq_true z.2⟩
    refine w_Model_landLine_12 rfl (fun c => ?_) (fun c => absurd c (by decide)) (fun c => absurd c (by decide)) (fun c => absurd c (by decide)) (fun c => absurd c (by decide)) (fun c => absurd c (by decide)) (fun c => absurd c (by decide)) (fun c => absurd c (by decide)) (fun c => absurd c (by decide)) (fun c => absurd c (by decide)) (fun c => absurd c (by decide)) (fun c => absurd rfl c)
    refine w_Model_landLine_72 ?_
    refine w_Model_landLine_162 (L.fr F1) (r_endsLine (L.fr F1) (E.fr F1) M1 w.ende) ?_
    rintro _ g3 ⟨rfl, F3, M3⟩
    refine w_Model_landLine_166 ?_
    rw [sem_wr (end_1 h1)] at M3
    exact ⟨rfl, (F1.trans F3).py.pl, bad_of E h1 bad' M3⟩
end M96c
