/-! THE READER: the class's lines -/
section M97d
variable {rod : Nat → Nat × (Nat → Int32)} {d : Nat} {h g g1 g2 : MH} {T : Nat → Int} {len : Nat} {X Y : XS} {t k a s0 n i n1 : Nat} {R v : Nat → Int} {S : LnS}
def PK (c j : Nat) : Prop := (c = 45 ∧ 6 ≤ j) ∨ (46 ≤ c ∧ c ≤ 64)
theorem Fr.pk (F : Fr PN h g) : Fr PK h g := F.mono fun _ _ q => by unfold PN PC at q; unfold PK; omega
theorem Fr.tk (F : Fr PT h g) : Fr PK h g := F.mono fun _ _ q => by unfold PT at q; unfold PK; omega
theorem EnvT.fk (E : EnvT h T len) (F : Fr PK h g) : EnvT g T len := E.of (F.cell 1 (fun j => by unfold PK; omega)) (F.cell 2 (fun j => by unfold PK; omega))
theorem RecC.fn (r : RecC t h R n) (F : Fr PN h g) : RecC t g R n := by
  have e (c : Nat) (hc : 46 ≤ c ∧ c ≤ 63) : g.1 c = h.1 c := F.cell c (fun j => by unfold PN PC; omega)
  have e10 : g.1 45 10 = h.1 45 10 := F.2 45 10 (by unfold PN PC; omega)
  simp only [RecC, LandC, HeadC, BuyC, LetC, RoadC, SeasC, LedC, BargC, e10, e 46 (by omega), e 47 (by omega), e 48 (by omega), e 49 (by omega), e 50 (by omega), e 51 (by omega), e 52 (by omega), e 53 (by omega), e 54 (by omega), e 55 (by omega), e 56 (by omega), e 57 (by omega), e 58 (by omega), e 59 (by omega), e 60 (by omega), e 61 (by omega), e 62 (by omega), e 63 (by omega)]
  exact r
theorem CX.ft (M : CX T len h X) (F : Fr PT h g) : CX T len g X := by
  have e (j : Nat) (hj : j ≠ 10) : g.1 45 j = h.1 45 j := F.2 45 j (by unfold PT; omega)
  simp only [CX, TokC, e 11 (by omega), e 12 (by omega), e 8 (by omega), e 6 (by omega), e 7 (by omega), e 9 (by omega)]
  exact M
theorem cmB_eq (C : RecC t g R n) (ht : t < 4) (kt : fw t ≤ k ∧ k < fw (t + 1)) : cmB k g = tooM k R := by
  rcases (show t = 0 ∨ t = 1 ∨ t = 2 ∨ t = 3 by omega) with rfl | rfl | rfl | rfl
  · have kt : 0 ≤ k ∧ k < 10 := kt
    have C := C.1 rfl
    rw [cmB, tooM, C.1.1.2.1, C.1.1.2.2.1, if_pos kt.2, if_pos kt.2]
  · have kt : 10 ≤ k ∧ k < 17 := kt
    have C := C.2.1 rfl
    rw [cmB, tooM, C.1, if_neg (by omega), if_neg (by omega), if_neg (by omega), if_pos kt.2, if_neg (by omega), if_neg (by omega), if_neg (by omega), if_pos kt.2]
  · have kt : 17 ≤ k ∧ k < 21 := kt
    have C := C.2.2.1 rfl
    simp only [cmB, tooM, C.1, if_neg (show ¬ k < 4 by omega), if_neg (show ¬ k = 5 by omega), if_neg (show ¬ k < 10 by omega), if_neg (show ¬ k < 17 by omega), if_pos kt.2]
  · have kt : 21 ≤ k ∧ k < 23 := kt
    simp only [cmB, tooM, if_neg (show ¬ k < 4 by omega), if_neg (show ¬ k = 5 by omega), if_neg (show ¬ k < 10 by omega), if_neg (show ¬ k < 17 by omega), if_neg (show ¬ k < 21 by omega)]
def CS (T : Nat → Int) (len t : Nat) (g : MH) (S : LnS) : Prop := CX T len g S.1 ∧ (S.1.2.2.1 = 0 → RecC t g S.2.1 S.2.2)
theorem c_readLine (hr : RokT rod) (L : Lay g.2) (E : EnvT g T len) (M : CS T len t g S) (w : WF len S.1) (h1 : S.1.1 = false) (ht : t < 4) {xt : Int32} (et : xt.toInt = (t : Int)) : Wc rod (d + 7) 30 [.inr (.inr (.inl (some 45))), .inl xt] g (fun r g' => r = none ∧ Fr PK g g' ∧ CS T len t g' (lineX T len t S)) := by
  have tk := M.1.2.2 h1
  have r1 := hr 1 (by decide) (by decide)
  have l1 : (rod 1).1 = 23 := by rw [r1]; rfl
  have bad : ∀ u2, ¬ (kdF T len S.1.2.1 = 1 ∧ inW t (wdF T len S.1.2.1) = true) → Wb rod (d + 6) B_Reader_readLine 30 [some (.inr (.inr (.inl (some 45)))), some (.inl xt), u2, none] [] g (fun r g' => r = none ∧ Fr PK g g' ∧ CS T len t g' (lineX T len t S)) := fun u2 b => by
    refine w_Reader_readLine_30 L (c_refuse L M.1 h1) ?_
    rintro _ g1 ⟨rfl, F, M1⟩
    refine w_Reader_readLine_34 ?_
    rw [lineX, if_neg b]
    refine ⟨rfl, F.pn.pk, M1, fun q => ?_⟩
    have q : (endX S.1).2.2.1 = 0 := q
    rw [endX, if_neg (by rw [h1]; decide)] at q
    exact absurd q (by show ¬ (1 : Nat) = 0; decide)
  refine n_Reader_readLine ?_
  refine w_Reader_readLine_0 L (fun c => ?_) (fun c => ?_)
  · rw [tk.2.2.1] at c
    refine w_Reader_readLine_16 ?_
    refine w_Reader_readLine_17 rfl (fun _ => bad _ (fun z => c (by rw [z.1]; rfl))) (fun z => absurd (by decide) z)
  rw [tk.2.2.1] at c
  have kd : kdF T len S.1.2.1 = 1 := by omega
  have hl := kd_lt (T := T) (by omega : kdF T len S.1.2.1 ≠ 0)
  obtain ⟨m, nx, sm, lt, wd⟩ := wdF_L kd
  refine w_Reader_readLine_8 L (s_wordRead hr L E et ht tk.1 (by rw [tk.2.1, nx]) sm lt) ?_
  rintro _ _ ⟨rfl, x, rfl, ex⟩
  rw [wrF, ← wd] at ex
  refine w_Reader_readLine_13 ?_
  by_cases iw : ¬ inW t (wdF T len S.1.2.1) = true
  · rw [if_neg iw] at ex
    refine w_Reader_readLine_17 rfl (fun _ => bad _ (fun z => iw z.2)) (fun z => absurd (by omega) z)
  rw [Decidable.not_not] at iw
  rw [if_pos iw] at ex
  have kt0 := wcL_in ht (l := LR T S.1.2.1 m) (by rw [← wd]; exact iw)
  rw [← wd] at kt0
  generalize hk : kw t (wdF T len S.1.2.1) = k at ex kt0
  have kt : fw t ≤ k ∧ k < fw (t + 1) := ⟨kt0.1, kt0.2.1⟩
  have k23 : k < 23 := by have := (fw_bd t ht).2; omega
  have el : lineX T len t S = lnX T len k S := by rw [lineX, if_pos ⟨kd, iw⟩, hk]
  rw [el]
  refine w_Reader_readLine_17 rfl (fun z => absurd z (by omega)) (fun _ => ?_)
  refine w_Reader_readLine_22 (fun _ => ?_) (fun z => absurd (by rw [l1]; show x.toInt < 23; omega) z)
  have on : ∀ (c : Bool) g1, c = cmB k g → Fr PC g g1 → CX T len g1 (ntX c 3 S.1.2.1 S.1) → Wb rod (d + 6) B_Reader_readLine 52 [some (.inr (.inr (.inl (some 45)))), some (.inl xt), some (.inl x), none] [] g1 (fun r g' => r = none ∧ Fr PK g g' ∧ CS T len t g' (lnX T len k S)) := by
    intro c g1 hc F1 M1
    have L1 := L.fr F1
    have en : ntX c 3 S.1.2.1 S.1 = ntX (tooM k S.2.1) 3 S.1.2.1 S.1 := by
      refine nt_ne ?_
      by_cases f0 : S.1.2.2.1 = 0
      · exact Or.inr (by rw [hc, cmB_eq (M.2 f0) ht kt])
      · exact Or.inl f0
    have M1' := M1
    rw [en] at M1'
    have h1' : (ntX (tooM k S.2.1) 3 S.1.2.1 S.1).1 = false := (nt_1 _ _ _).1.trans h1
    have tkk := M1'.2.2 h1'
    have nb := nx_bd (T := T) (w.2 h1).2.1
    refine w_Reader_readLine_52 L1 (Q1 := fun r g' => r = none ∧ Fr PC g1 g' ∧ CX T len g' (nxX T len (ntX (tooM k S.2.1) 3 S.1.2.1 S.1))) ?_ ?_
    · rw [(nt_1 _ _ _).2] at tkk
      refine (c_goOn L1 (E.fc F1) tkk.2.1 nb.1).imp ?_
      rintro r g' ⟨rfl, A, a8, a6, a7, a9⟩
      refine ⟨rfl, ⟨A.1, fun c j hc => ?_⟩, ?_, ?_, fun _ => ?_⟩
      · by_cases e : c = 45
        · subst e
          exact A.2.2 j (by unfold PC at hc; omega)
        · rw [A.2.1 c e]
      · rw [A.2.2 11 (by omega)]; exact M1'.1
      · rw [A.2.2 12 (by omega)]; exact M1'.2.1
      · show TokC T len g' (tp T len (ntX (tooM k S.2.1) 3 S.1.2.1 S.1).2.1)
        rw [(nt_1 _ _ _).2]
        exact ⟨a8, a6, a7, a9⟩
    rintro _ g2 ⟨rfl, F2, M2⟩
    have wy := w.wd (T := T) h1 hl (tooM k S.2.1)
    have sy : (nxX T len (ntX (tooM k S.2.1) 3 S.1.2.1 S.1)).2.1 = tpI T len S.1.2.1 1 := by show tp T len _ = tp T len _; rw [(nt_1 _ _ _).2]; rfl
    have F12 := F1.trans F2
    have ew : wX T len k S = semX T len (numsX T len k S.1.2.1 (nbh k) (nxX T len (ntX (tooM k S.2.1) 3 S.1.2.1 S.1))) := rfl
    generalize hy : nxX T len (ntX (tooM k S.2.1) 3 S.1.2.1 S.1) = Y at M2 wy sy ew
    have y1 : Y.1 = false := by rw [← hy]; exact h1'
    -- a fault that ends it
    have fin1 : ∀ g3, Fr PK g g3 → CX T len g3 (wX T len k S) → (wX T len k S).2.2.1 ≠ 0 → Fr PK g g3 ∧ CS T len t g3 (lnX T len k S) := by
      intro g3 F3 M3 z
      refine ⟨F3, M3, fun q => absurd q z⟩
    refine w_Reader_readLine_56 rfl ?_
    refine Wb.uph (nbh k) (fun i L' g' => ∃ xi : Int32, xi.toInt = (i : Int) ∧ L' = [some (.inr (.inr (.inl (some 45)))), some (.inl xt), some (.inl x), some (.inl xi)] ∧ Fr PN g g' ∧ CX T len g' (numsX T len k S.1.2.1 i Y) ∧ (numsX T len k S.1.2.1 i Y).1 = false ∧ ∀ j, j < i → (g'.1 64 j).toInt = vlI T len S.1.2.1 j) ?_ (Nat.zero_le _) ⟨0, rfl, rfl, F12.pn, M2, y1, fun j hj => absurd hj (by omega)⟩
    rintro i _ g3 hi ⟨xi, exi, rfl, F3, M3, hw, e64⟩ ih
    have L3 := L.fr F3
    have w3 := wy.nums (T := T) k S.1.2.1 i
    have s3 := (nums_s wy sy i hw).1
    have tk3 := M3.2.2 hw
    have eN : ((rod 1).2 x.toNatClampNeg).toInt = (nbh k : Int) := by rw [r1, n_eq ex]; exact nb_eq k k23
    refine w_Reader_readLine_58 (inB_of (by omega) (by rw [l1]; omega)) (fun z => ?_) (fun z => ?_)
    · rw [eN, exi] at z
      have ei : i = nbh k := by omega
      rw [ei] at M3 hw w3 s3 tk3 e64
      refine w_Reader_readLine_92 L3 (fun y => ?_) (fun y => ?_)
      · rw [tk3.2.2.1] at y
        have kd3 : kdF T len (numsX T len k S.1.2.1 (nbh k) Y).2.1 = 3 := by have y : (kdF T len (numsX T len k S.1.2.1 (nbh k) Y).2.1 : Int) = 3 := y; omega
        refine w_Reader_readLine_105 L3 (c_onX L3 (E.fn F3) M3 w3 hw) ?_
        rintro _ g4 ⟨rfl, F4, M4⟩
        have F14 := F3.trans F4.pn
        have e4 : wX T len k S = nxX T len (numsX T len k S.1.2.1 (nbh k) Y) := by rw [ew, sem_go hw kd3]
        rw [← e4] at M4
        refine w_Reader_readLine_109 (L.fr F14) (fun q => ?_) (fun q => ?_)
        · rw [M4.1] at q
          refine w_Reader_readLine_121 ?_
          exact ⟨rfl, fin1 g4 F14.pk M4 (fun z => q (by rw [z]; rfl))⟩
        · rw [M4.1] at q
          have q0 : (wX T len k S).2.2.1 = 0 := by omega
          have f0 := ln_f0 w h1 hl q0
          have C4 := (M.2 f0.1).fn F14
          have e64' : g4.1 64 = g3.1 64 := F4.cell 64 (fun j => by unfold PC; omega)
          refine w_Reader_readLine_116 (L.fr F14) (c_tell hr (L.fr F14) C4 ht kt ex (v := vlI T len S.1.2.1) (fun j hj => by rw [e64']; exact e64 j hj) (fun j hj => ⟨(f0.2.2 j hj).1, (f0.2.2 j hj).2.1⟩) f0.2.1) ?_
          rintro _ g5 ⟨rfl, F5, C5⟩
          refine w_Reader_readLine_121 ?_
          refine ⟨rfl, F14.pk.trans F5.tk, M4.ft F5, fun _ => ?_⟩
          rw [lnX, if_pos q0]
          exact C5
      · rw [tk3.2.2.1] at y
        have kd3 : ¬ kdF T len (numsX T len k S.1.2.1 (nbh k) Y).2.1 = 3 := fun z => y (by rw [z]; rfl)
        refine w_Reader_readLine_100 L3 (c_refuse L3 M3 hw) ?_
        rintro _ g4 ⟨rfl, F4, M4⟩
        refine w_Reader_readLine_104 ?_
        have e4 : wX T len k S = endX (numsX T len k S.1.2.1 (nbh k) Y) := by rw [ew, sem_no hw kd3, endX, if_neg (by rw [hw]; decide)]
        refine ⟨rfl, fin1 g4 (F3.trans F4.pn).pk (by rw [e4]; exact M4) ?_⟩
        rw [e4, endX, if_neg (by rw [hw]; decide)]
        show (1 : Nat) ≠ 0
        decide
    · rw [eN, exi] at z
      refine w_Reader_readLine_67 L3 (fun y => ?_) (fun y => ?_)
      · rw [tk3.2.2.1] at y
        have kd3 : kdF T len (numsX T len k S.1.2.1 i Y).2.1 = 2 := by have y : (kdF T len (numsX T len k S.1.2.1 i Y).2.1 : Int) = 2 := y; omega
        refine w_Reader_readLine_80 L3 (c_take hr L3 (E.fn F3) M3 w3 hw kd3 k23 (by omega) s3 (fun h0 => e64 0 h0) ex exi) ?_
        rintro _ g4 ⟨rfl, F4, M4, v4, o4⟩
        refine w_Reader_readLine_86 rfl ?_
        refine ih (by omega) _ _ ⟨xi + 1, t_succ exi (by have := nb4 k k23; omega), rfl, F3.trans F4, M4, ?_, fun j hj => ?_⟩
        · show (numX T len _ _ _ (numsX T len k S.1.2.1 i Y)).1 = false
          rw [num_go hw kd3]
          exact (nt_1 _ _ _).1.trans hw
        · by_cases e : j = i
          · rw [e]; exact v4
          · rw [o4 j e]; exact e64 j (by omega)
      · rw [tk3.2.2.1] at y
        have kd3 : ¬ kdF T len (numsX T len k S.1.2.1 i Y).2.1 = 2 := fun z => y (by rw [z]; rfl)
        refine w_Reader_readLine_75 L3 (c_refuse L3 M3 hw) ?_
        rintro _ g4 ⟨rfl, F4, M4⟩
        refine w_Reader_readLine_79 ?_
        have e5 : numsX T len k S.1.2.1 (i + 1) Y = (true, (numsX T len k S.1.2.1 i Y).2.1, 1, ((numsX T len k S.1.2.1 i Y).2.1 : Int)) := by
          show numX T len _ _ _ (numsX T len k S.1.2.1 i Y) = _
          rw [num_no hw kd3]
        have e6 := nums_wr (T := T) (len := len) (k := k) (s := S.1.2.1) (i := i + 1) (X := Y) (by rw [e5]) (nbh k - (i + 1))
        rw [show i + 1 + (nbh k - (i + 1)) = nbh k by omega] at e6
        have e4 : wX T len k S = endX (numsX T len k S.1.2.1 i Y) := by
          rw [ew, e6, sem_wr (by rw [e5]), e5, endX, if_neg (by rw [hw]; decide)]
        refine ⟨rfl, fin1 g4 (F3.trans F4.pn).pk (by rw [e4]; exact M4) ?_⟩
        rw [e4, endX, if_neg (by rw [hw]; decide)]
        show (1 : Nat) ≠ 0
        decide
  refine w_Reader_readLine_35 L (Tc.wc (c_many L ex)) (Is.k ?_)
  cases hc : cmB k g with
  | true =>
    rw [if_pos rfl]
    refine w_Reader_readLine_40 (fun z => absurd z (by decide)) (fun _ => ?_)
    refine w_Reader_readLine_43 L (c_note L M.1 (k := 3) rfl tk.1) ?_
    rintro _ g1 ⟨rfl, F1, M1⟩
    exact on true g1 hc.symm F1 M1
  | false =>
    rw [if_neg (by decide)]
    refine w_Reader_readLine_40 (fun _ => ?_) (fun z => absurd rfl z)
    exact on false g hc.symm Fr.rfl (by rw [nt_false]; exact M.1)
end M97d
