/-! THE READER: the class reads a tape -/
section M97e
variable {rod : Nat → Nat × (Nat → Int32)} {d : Nat} {h g g1 g2 : MH} {T : Nat → Int} {len : Nat} {X Y : XS} {t k a s0 n i n1 : Nat} {R v : Nat → Int} {S : LnS}
def R0 (t j : Nat) : Int := if j = 0 then (if t = 0 then 3 else if t = 3 then 2 else 0) else 0
def S0 (T : Nat → Int) (len t : Nat) : LnS := ((false, sttF T len 0, 0, -1), R0 t, 0)
def finS (T : Nat → Int) (len t : Nat) : LnS := loopX T len t 601 (S0 T len t)
def ovB (S : LnS) : Bool := decide (2 ^ (S.2.1 0).toNat ≤ S.2.2)
def fpX (len : Nat) (S : LnS) : Nat × Int := if S.1.2.2.1 = 0 ∧ ovB S = true then (4, (len : Int)) else (S.1.2.2.1, S.1.2.2.2)
theorem S0_wf : WF len (S0 T len t).1 := ⟨fun q => absurd q (by show ¬ false = true; decide), fun _ => ⟨by show (0 : Nat) ≠ 1; decide, (runT_bd (Nat.zero_le _)).2, Or.inl rfl⟩⟩
theorem c_landF (L : Lay g.2) : Wc rod (d + 2) 23 [.inr (.inr (.inl (some 46)))] g (fun r g' => r = none ∧ g'.2 = g.2 ∧ (∀ c, c ≠ 46 → c ≠ 54 → g'.1 c = g.1 c) ∧ (g'.1 46 0 = 3 ∧ g'.1 46 1 = 0 ∧ g'.1 46 2 = 0 ∧ g'.1 46 3 = 0 ∧ g'.1 46 4 = 0 ∧ g'.1 46 5 = 0) ∧ ∀ j, j < 36 → g'.1 54 j = 0) := by
  have la := L.la
  refine n_Land_forget ?_
  refine w_Land_forget_0 la ?_
  refine w_Land_forget_5 (h := sI g 46 0 3) la ?_
  refine w_Land_forget_10 (h := sI (sI g 46 0 3) 46 1 0) la ?_
  refine w_Land_forget_15 (h := sI (sI (sI g 46 0 3) 46 1 0) 46 2 0) la ?_
  refine w_Land_forget_20 (h := sI (sI (sI (sI g 46 0 3) 46 1 0) 46 2 0) 46 3 0) la ?_
  refine w_Land_forget_25 (h := sI (sI (sI (sI (sI g 46 0 3) 46 1 0) 46 2 0) 46 3 0) 46 4 0) la ?_
  refine w_Land_forget_30 (h := sI (sI (sI (sI (sI (sI g 46 0 3) 46 1 0) 46 2 0) 46 3 0) 46 4 0) 46 5 0) la (s_fill 54 0 36 (L.1 54 _ rfl) (by decide)) ?_
  rintro _ g1 ⟨rfl, e2, e54, ec⟩
  refine w_Land_forget_38 ?_
  refine ⟨rfl, e2, fun c h1 h2 => ?_, ?_, e54⟩
  · rw [ec c h2]
    simp (disch := omega) only [sI_cell]
  · rw [ec 46 (by decide)]
    simp (disch := omega) only [sI_same, sI_nj, and_self]
theorem c_bargF (L : Lay g.2) : Wc rod (d + 2) 25 [.inr (.inr (.inl (some 62)))] g (fun r g' => r = none ∧ g'.2 = g.2 ∧ (∀ c, c ≠ 62 → c ≠ 63 → g'.1 c = g.1 c) ∧ g'.1 62 0 = 2 ∧ ∀ j, j < 16 → g'.1 63 j = 0) := by
  have la := L.bar
  refine n_Bargain_forget ?_
  refine w_Bargain_forget_0 la ?_
  refine w_Bargain_forget_5 (h := sI g 62 0 2) la (s_fill 63 0 16 (L.1 63 _ rfl) (by decide)) ?_
  rintro _ g1 ⟨rfl, e2, e63, ec⟩
  refine w_Bargain_forget_13 ?_
  refine ⟨rfl, e2, fun c h1 h2 => ?_, ?_, e63⟩
  · rw [ec c h2, sI_cell h1]
  · rw [ec 62 (by decide), sI_same]
theorem shr_all : ∀ n, n < 64 → ∀ m, m < 7 → ((Int32.ofNat n >>> (Int32.ofNat m &&& 31)).toInt = 0 ↔ ¬ 2 ^ m ≤ n) := by decide +kernel
theorem shr_0 (x : Int32) : ((0 : Int32) >>> (x &&& 31)).toInt = 0 := by simp
theorem c_loop (hr : RokT rod) (L : Lay g.2) (E : EnvT g T len) (M : CS T len t g (S0 T len t)) (ht : t < 4) {xt : Int32} (et : xt.toInt = (t : Int)) {Q : Option MV → MH → Prop} (K : ∀ g' u2, Fr PK g g' → CS T len t g' (finS T len t) → WF len (finS T len t).1 → Wb rod (d + 7) B_Reader_readTape 89 [some (.inr (.inr (.inl (some 45)))), some (.inl xt), u2] [] g' Q) : Wb rod (d + 7) B_Reader_readTape 56 [some (.inr (.inr (.inl (some 45)))), some (.inl xt), some (.inl 0)] [] g Q := by
  have l6 := E.2.1
  refine Wb.uph 601 (fun k L' g' => ∃ (S : LnS) (x : Int32), x.toInt = (k : Int) ∧ L' = [some (.inr (.inr (.inl (some 45)))), some (.inl xt), some (.inl x)] ∧ Fr PK g g' ∧ CS T len t g' S ∧ WF len S.1 ∧ loopX T len t (601 - k) S = finS T len t ∧ (S.1.1 = false → k ≤ S.1.2.1)) ?_ (Nat.zero_le _) ⟨_, 0, rfl, rfl, Fr.rfl, M, S0_wf, rfl, fun _ => Nat.zero_le _⟩
  rintro k _ g1 hk ⟨S, x, hx, rfl, F1, M1, w, el, ks⟩ ih
  have L1 := L.fr F1
  have out : ∀ u2, endedX T len S = true → Wb rod (d + 7) B_Reader_readTape 89 [some (.inr (.inr (.inl (some 45)))), some (.inl xt), u2] [] g1 Q := fun u2 z => by
    rw [loop_end z] at el
    rw [el] at M1 w
    exact K g1 u2 F1 M1 w
  have wr1 : S.1.1 = true → endedX T len S = true := fun z => by rw [endedX, z]; rfl
  refine w_Reader_readTape_56 (fun c => ?_) (fun c => ?_)
  · rw [hx] at c
    have c : (600 : Int) < (k : Int) := c
    refine out _ ?_
    cases hw : S.1.1 with
    | true => exact wr1 hw
    | false =>
      have := ks hw
      have := (w.2 hw).2.1
      omega
  · rw [hx] at c
    have c : ¬ (600 : Int) < (k : Int) := c
    cases hw : S.1.1 with
    | true =>
      refine w_Reader_readTape_63 L1 (fun _ => out _ (wr1 hw)) (fun _ => ?_)
      refine w_Reader_readTape_70 L1 (fun _ => out _ (wr1 hw)) (fun z => absurd (by rw [M1.1.1, w.1 hw]; rfl) z)
    | false =>
      have tk := M1.1.2.2 hw
      refine w_Reader_readTape_63 L1 (fun z => ?_) (fun z => ?_)
      · rw [tk.2.2.1] at z
        refine out _ ?_
        rw [endedX, decide_eq_true (show kdF T len S.1.2.1 = 0 by omega), Bool.or_true]
      · rw [tk.2.2.1] at z
        have kd : kdF T len S.1.2.1 ≠ 0 := fun y => z (by rw [y]; rfl)
        refine w_Reader_readTape_70 L1 (fun z => ?_) (fun _ => ?_)
        · rw [M1.1.1] at z
          have z : (S.1.2.2.1 : Int) = 1 := z
          exact absurd (show S.1.2.2.1 = 1 by omega) (w.2 hw).1
        · refine w_Reader_readTape_78 L1 (c_readLine hr L1 (E.fk F1) M1 w hw ht et) ?_
          rintro _ g2 ⟨rfl, F2, M2⟩
          refine w_Reader_readTape_83 rfl ?_
          have lw := line_wf (T := T) (t := t) w hw
          refine ih (by omega) _ _ ⟨_, x + 1, t_succ hx (by omega), rfl, F1.trans F2, M2, lw.1, ?_, fun q => ?_⟩
          · rw [show 601 - k = (601 - (k + 1)) + 1 by omega, loop_go (ended_no hw kd)] at el
            exact el
          · have := lw.2 q
            have := ks hw
            omega
theorem c_readTape (hr : RokT rod) (L : Lay g.2) (E : EnvT g T len) (ht : t < 4) {xt : Int32} (et : xt.toInt = (t : Int)) : Wc rod (d + 8) 22 [.inr (.inr (.inl (some 45))), .inl xt] g (fun r g' => r = none ∧ Fr PK g g' ∧ (g'.1 45 11).toInt = ((fpX len (finS T len t)).1 : Int) ∧ (g'.1 45 12).toInt = (fpX len (finS T len t)).2 ∧ ((fpX len (finS T len t)).1 = 0 → RecC t g' (finS T len t).2.1 (finS T len t).2.2 ∧ ovB (finS T len t) = false)) := by
  refine n_Reader_readTape ?_
  refine w_Reader_readTape_0 L (c_landF L) ?_
  rintro _ g1 ⟨rfl, a2, ac, a46, a54⟩
  have L1 : Lay g1.2 := a2.symm ▸ L
  refine w_Reader_readTape_7 L1 ?_
  refine w_Reader_readTape_15 (h := sI g1 55 0 0) L1 ?_
  refine w_Reader_readTape_23 (h := sI (sI g1 55 0 0) 59 0 0) L1 (c_bargF (g := sI (sI g1 55 0 0) 59 0 0) L1) ?_
  rintro _ g2 ⟨rfl, b2, bc, b62, b63⟩
  have e2 : g2.2 = g.2 := b2.trans a2
  have L2 : Lay g2.2 := e2.symm ▸ L
  refine w_Reader_readTape_30 L2 ?_
  refine w_Reader_readTape_35 (h := sI g2 45 10 0) L2 ?_
  refine w_Reader_readTape_40 (h := sI (sI g2 45 10 0) 45 11 0) L2 ?_
  refine w_Reader_readTape_45 (h := sI (sI (sI g2 45 10 0) 45 11 0) 45 12 (-1)) L2 ?_
  have Fb : Fr PK g (sI (sI (sI (sI g2 45 10 0) 45 11 0) 45 12 (-1)) 45 6 0) := by
    have F0 : Fr PK g g2 := ⟨e2, fun c j hc => by
      unfold PK at hc
      by_cases z : c = 45
      · subst z
        rw [bc 45 (by decide) (by decide), sI_cell (by decide), sI_cell (by decide), ac 45 (by decide) (by decide)]
      · rw [bc c (by omega) (by omega), sI_cell (by omega), sI_cell (by omega), ac c (by omega) (by omega)]⟩
    exact (((F0.si (by unfold PK; omega)).si (by unfold PK; omega)).si (by unfold PK; omega)).si (by unfold PK; omega)
  generalize hg3 : sI (sI (sI (sI g2 45 10 0) 45 11 0) 45 12 (-1)) 45 6 0 = g3 at Fb ⊢
  have q10 : g3.1 45 10 = 0 := by rw [← hg3]; simp (disch := omega) only [sI_same, sI_nj]
  have q11 : g3.1 45 11 = 0 := by rw [← hg3]; simp (disch := omega) only [sI_same, sI_nj]
  have q12 : g3.1 45 12 = -1 := by rw [← hg3]; simp (disch := omega) only [sI_same, sI_nj]
  have q6 : g3.1 45 6 = 0 := by rw [← hg3]; simp (disch := omega) only [sI_same, sI_nj]
  have qc : ∀ c, c ≠ 45 → g3.1 c = g2.1 c := fun c hc => by rw [← hg3]; simp (disch := omega) only [sI_cell]
  have L3 := L.fr Fb
  refine w_Reader_readTape_50 L3 (c_goOn L3 (E.fk Fb) (p := 0) (by rw [q6]; rfl) (Nat.zero_le _)) ?_
  rintro _ g4 ⟨rfl, A, a8, a6, a7, a9⟩
  have F4 : Fr PK g g4 := Fb.trans ⟨A.1, fun c j hc => by
    unfold PK at hc
    by_cases z : c = 45
    · subst z
      exact A.2.2 j (by omega)
    · rw [A.2.1 c z]⟩
  have kc46 : g4.1 46 = g1.1 46 := by rw [A.2.1 46 (by decide), qc 46 (by decide), bc 46 (by decide) (by decide), sI_cell (by decide), sI_cell (by decide)]
  have kc54 : g4.1 54 = g1.1 54 := by rw [A.2.1 54 (by decide), qc 54 (by decide), bc 54 (by decide) (by decide), sI_cell (by decide), sI_cell (by decide)]
  have kc55 : g4.1 55 0 = 0 := by rw [A.2.1 55 (by decide), qc 55 (by decide), bc 55 (by decide) (by decide), sI_cell (by decide), sI_same]
  have kc59 : g4.1 59 0 = 0 := by rw [A.2.1 59 (by decide), qc 59 (by decide), bc 59 (by decide) (by decide), sI_same]
  have kc62 : g4.1 62 0 = 2 := by rw [A.2.1 62 (by decide), qc 62 (by decide)]; exact b62
  have kc63 : ∀ j, j < 16 → g4.1 63 j = 0 := fun j hj => by rw [A.2.1 63 (by decide), qc 63 (by decide)]; exact b63 j hj
  have kc10 : g4.1 45 10 = 0 := by rw [A.2.2 10 (by omega)]; exact q10
  have M4 : CS T len t g4 (S0 T len t) := by
    refine ⟨⟨?_, ?_, fun _ => ⟨a8, a6, a7, a9⟩⟩, fun _ => (⟨fun z => ?_, fun z => ?_, fun z => ?_, fun z => ?_⟩ : RecC t g4 (R0 t) 0)⟩
    · rw [A.2.2 11 (by omega), q11]; rfl
    · rw [A.2.2 12 (by omega), q12]; rfl
    · subst z
      refine ⟨⟨⟨?_, ?_, ?_, ?_, ?_, ?_⟩, by decide, by decide, by decide, by decide, by decide, by decide⟩, fun b hb => ?_, fun b hb => ?_, fun i hi => ?_, by rw [kc10]; rfl, by decide⟩
      · rw [kc46, a46.1]; rfl
      · rw [kc46, a46.2.2.2.2.1]; rfl
      · rw [kc46, a46.2.2.2.2.2]; rfl
      · rw [kc46, a46.2.1]; rfl
      · rw [kc46, a46.2.2.1]; rfl
      · rw [kc46, a46.2.2.2.1]; rfl
      · exact absurd hb (by show ¬ (b : Int) < 0; omega)
      · exact absurd hb (by show ¬ (b : Int) < 0; omega)
      · have e : R0 0 (54 + i) = 0 := if_neg (by omega)
        rw [e, kc54, a54 i hi]
        decide
    · subst z
      exact ⟨by rw [kc55]; rfl, by decide, fun b hb => absurd hb (by show ¬ (b : Int) < 0; omega), by rw [kc10]; rfl, rfl⟩
    · subst z
      exact ⟨by rw [kc59]; rfl, by decide, fun b hb => absurd hb (by show ¬ (b : Int) < 0; omega), by rw [kc10]; rfl, rfl⟩
    · subst z
      refine ⟨by rw [kc62]; rfl, by decide, kc63 0 (by decide), fun b b1 b2 => ?_, by rw [kc10]; rfl, by decide⟩
      have e : R0 3 b = 0 := if_neg (by omega)
      rw [e, kc63 b b2]
      decide
  refine w_Reader_readTape_54 rfl ?_
  refine c_loop hr (L.fr F4) (E.fk F4) M4 ht et ?_
  intro g5 u2 F5 M5 w5
  have F15 := F4.trans F5
  have L5 := L.fr F15
  have e1 : g5.1 1 1 = g.1 1 1 := F15.2 1 1 (by unfold PK; omega)
  generalize hS : finS T len t = S at M5 w5 ⊢
  -- behind the check
  have yes : (S.1.2.2.1 = 0 → ovB S = true) → Wb rod (d + 7) B_Reader_readTape 118 [some (.inr (.inr (.inl (some 45)))), some (.inl xt), u2] [] g5 (fun r g' => r = none ∧ Fr PK g g' ∧ (g'.1 45 11).toInt = ((fpX len S).1 : Int) ∧ (g'.1 45 12).toInt = (fpX len S).2 ∧ ((fpX len S).1 = 0 → RecC t g' S.2.1 S.2.2 ∧ ovB S = false)) := fun z => by
    refine w_Reader_readTape_118 L5 (c_note L5 M5.1 (k := 4) (a := len) rfl (by rw [e1]; exact E.1)) ?_
    rintro _ g6 ⟨rfl, F6, M6⟩
    refine w_Reader_readTape_130 ?_
    have ef : (ntX true 4 len S.1).2.2 = fpX len S := by
      rw [ntX, fpX]
      by_cases f0 : S.1.2.2.1 = 0
      · rw [if_pos ⟨rfl, f0⟩, if_pos ⟨f0, z f0⟩]
      · rw [if_neg (fun y => f0 y.2), if_neg (fun y => f0 y.1)]
    refine ⟨rfl, F15.trans F6.pn.pk, by rw [← ef]; exact M6.1, by rw [← ef]; exact M6.2.1, fun q => ?_⟩
    rw [fpX] at q
    split at q
    · exact absurd q (by show ¬ (4 : Nat) = 0; decide)
    · rename_i y
      exact absurd ⟨q, z q⟩ y
  have no : (S.1.2.2.1 = 0 → ovB S = false) → Wb rod (d + 7) B_Reader_readTape 130 [some (.inr (.inr (.inl (some 45)))), some (.inl xt), u2] [] g5 (fun r g' => r = none ∧ Fr PK g g' ∧ (g'.1 45 11).toInt = ((fpX len S).1 : Int) ∧ (g'.1 45 12).toInt = (fpX len S).2 ∧ ((fpX len S).1 = 0 → RecC t g' S.2.1 S.2.2 ∧ ovB S = false)) := fun z => by
    refine w_Reader_readTape_130 ?_
    have ef : fpX len S = (S.1.2.2.1, S.1.2.2.2) := by
      rw [fpX, if_neg]
      rintro ⟨y1, y2⟩
      rw [z y1] at y2
      exact absurd y2 (by decide)
    rw [ef]
    exact ⟨rfl, F15, M5.1.1, M5.1.2.1, fun q => ⟨M5.2 q, z q⟩⟩
  by_cases f0 : ¬ S.1.2.2.1 = 0
  · refine w_Reader_readTape_89 L5 (fun _ => ?_) (fun _ => ?_)
    · refine w_Reader_readTape_107 L5 ?_
      exact w_Reader_readTape_114 (fun _ => no (fun q => absurd q f0)) (fun _ => yes (fun q => absurd q f0))
    · refine w_Reader_readTape_97 L5 ?_
      exact w_Reader_readTape_114 (fun _ => no (fun q => absurd q f0)) (fun _ => yes (fun q => absurd q f0))
  rw [Decidable.not_not] at f0
  have C := M5.2 f0
  rcases (show t = 0 ∨ t = 1 ∨ t = 2 ∨ t = 3 by omega) with rfl | rfl | rfl | rfl
  · have C := C.1 rfl
    have sh := shr_all S.2.2 C.2.2.2.2.2 (S.2.1 0).toNat (by have := C.1.2.1; omega)
    rw [← ofN C.2.2.2.2.1 (by have := C.2.2.2.2.2; omega), ← ofN (x := g5.1 46 0) (n := (S.2.1 0).toNat) (by rw [C.1.1.1]; have := C.1.2.1; omega) (by have := C.1.2.1; omega)] at sh
    refine w_Reader_readTape_89 L5 (fun z => absurd et z) (fun _ => ?_)
    refine w_Reader_readTape_97 L5 ?_
    exact w_Reader_readTape_114 (fun y => no (fun _ => decide_eq_false (sh.mp y))) (fun y => yes (fun _ => decide_eq_true (Decidable.not_not.mp (fun q => y (sh.mpr q)))))
  · have C := C.2.1 rfl
    have z0 : g5.1 45 10 = 0 := i32_of (by rw [C.2.2.2.1, C.2.2.2.2]; rfl)
    refine w_Reader_readTape_89 L5 (fun _ => ?_) (fun z => absurd (et.symm.trans z) (by decide))
    refine w_Reader_readTape_107 L5 ?_
    rw [z0]
    refine w_Reader_readTape_114 (fun y => no (fun _ => decide_eq_false ?_)) (fun y => absurd (shr_0 _) y)
    rw [C.2.2.2.2]
    exact Nat.not_le.mpr (Nat.pow_pos (by decide))
  · have C := C.2.2.1 rfl
    have z0 : g5.1 45 10 = 0 := i32_of (by rw [C.2.2.2.1, C.2.2.2.2]; rfl)
    refine w_Reader_readTape_89 L5 (fun _ => ?_) (fun z => absurd (et.symm.trans z) (by decide))
    refine w_Reader_readTape_107 L5 ?_
    rw [z0]
    refine w_Reader_readTape_114 (fun y => no (fun _ => decide_eq_false ?_)) (fun y => absurd (shr_0 _) y)
    rw [C.2.2.2.2]
    exact Nat.not_le.mpr (Nat.pow_pos (by decide))
  · have C := C.2.2.2 rfl
    have n16 := C.2.2.2.2.2
    have sh := shr_all S.2.2 (by omega) (S.2.1 0).toNat (by have := C.2.1; omega)
    rw [← ofN C.2.2.2.2.1 (by omega), ← ofN (x := g5.1 62 0) (n := (S.2.1 0).toNat) (by rw [C.1]; have := C.2.1; omega) (by have := C.2.1; omega)] at sh
    refine w_Reader_readTape_89 L5 (fun _ => ?_) (fun z => absurd (et.symm.trans z) (by decide))
    refine w_Reader_readTape_107 L5 ?_
    exact w_Reader_readTape_114 (fun y => no (fun _ => decide_eq_false (sh.mp y))) (fun y => yes (fun _ => decide_eq_true (Decidable.not_not.mp (fun q => y (sh.mpr q)))))
end M97e
