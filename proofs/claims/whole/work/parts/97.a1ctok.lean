/-! THE READER: the class's tokens and numbers -/
section M97a
variable {rod : Nat → Nat × (Nat → Int32)} {d : Nat} {h g g1 g2 : MH} {T : Nat → Int} {len : Nat} {X Y Z : XS} {lo hi : Int} {t k a s0 n i : Nat} {R : Nat → Int} {S : LnS}
def PC (c j : Nat) : Prop := c = 45 ∧ ((6 ≤ j ∧ j ≤ 9) ∨ j = 11 ∨ j = 12)
def PN (c j : Nat) : Prop := PC c j ∨ c = 64
def TokC (T : Nat → Int) (len : Nat) (g : MH) (s : Nat) : Prop := (g.1 45 8).toInt = (s : Int) ∧ (g.1 45 6).toInt = (nxF T len s : Int) ∧ (g.1 45 7).toInt = (kdF T len s : Int) ∧ (kdF T len s = 2 → (g.1 45 9).toInt = vlF T len s)
def CX (T : Nat → Int) (len : Nat) (g : MH) (X : XS) : Prop := (g.1 45 11).toInt = (X.2.2.1 : Int) ∧ (g.1 45 12).toInt = X.2.2.2 ∧ (X.1 = false → TokC T len g X.2.1)
theorem Fr.pn (F : Fr PC h g) : Fr PN h g := F.mono fun _ _ q => Or.inl q
theorem EnvT.fn (E : EnvT h T len) (F : Fr PN h g) : EnvT g T len := E.of (F.cell 1 (fun j => by unfold PN PC; omega)) (F.cell 2 (fun j => by unfold PN PC; omega))
theorem EnvT.fc (E : EnvT h T len) (F : Fr PC h g) : EnvT g T len := E.fn F.pn
theorem c_onX (L : Lay g.2) (E : EnvT g T len) (M : CX T len g X) (w : WF len X) (h1 : X.1 = false) : Wc rod (d + 2) 26 [.inr (.inr (.inl (some 45)))] g (fun r g' => r = none ∧ Fr PC g g' ∧ CX T len g' (nxX T len X)) := by
  have tk := M.2.2 h1
  have b := nx_bd (T := T) (w.2 h1).2.1
  refine (c_goOn L E tk.2.1 b.1).imp ?_
  rintro r g' ⟨rfl, A, a8, a6, a7, a9⟩
  refine ⟨rfl, ⟨A.1, fun c j hc => ?_⟩, ?_, ?_, fun _ => ⟨a8, a6, a7, a9⟩⟩
  · by_cases e : c = 45
    · subst e
      exact A.2.2 j (by unfold PC at hc; omega)
    · rw [A.2.1 c e]
  · rw [A.2.2 11 (by omega)]; exact M.1
  · rw [A.2.2 12 (by omega)]; exact M.2.1
theorem c_refuse (L : Lay g.2) (M : CX T len g X) (h1 : X.1 = false) : Wc rod (d + 1) 41 [.inr (.inr (.inl (some 45)))] g (fun r g' => r = none ∧ Fr PC g g' ∧ CX T len g' (endX X)) := by
  have tk := M.2.2 h1
  refine n_Reader_refuse ?_
  refine w_Reader_refuse_0 L ?_
  refine w_Reader_refuse_5 (h := sI g 45 11 1) L ?_
  refine w_Reader_refuse_13 ?_
  rw [endX, if_neg (by rw [h1]; decide)]
  refine ⟨rfl, (Fr.rfl.si (by unfold PC; omega)).si (by unfold PC; omega), ?_, ?_, fun q => absurd q (by show ¬ true = false; decide)⟩
  · simp (disch := omega) only [sI_same, sI_nj]
    rfl
  · simp (disch := omega) only [sI_same, sI_nj]
    exact tk.1
theorem c_note (L : Lay g.2) (M : CX T len g X) {x1 x2 : Int32} (e1 : x1.toInt = (k : Int)) (e2 : x2.toInt = (a : Int)) : Wc rod (d + 1) 43 [.inr (.inr (.inl (some 45))), .inl x1, .inl x2] g (fun r g' => r = none ∧ Fr PC g g' ∧ CX T len g' (ntX true k a X)) := by
  have m := M.1
  refine n_Reader_note ?_
  refine w_Reader_note_0 L (fun c => ?_) (fun c => ?_)
  · rw [m] at c
    refine w_Reader_note_17 ?_
    rw [ntX, if_neg (fun z => c (by rw [z.2]; rfl))]
    exact ⟨rfl, Fr.rfl, M⟩
  · rw [m] at c
    refine w_Reader_note_7 L ?_
    refine w_Reader_note_12 (h := sI g 45 11 x1) L ?_
    refine w_Reader_note_17 ?_
    rw [ntX, if_pos ⟨rfl, by omega⟩]
    refine ⟨rfl, (Fr.rfl.si (by unfold PC; omega)).si (by unfold PC; omega), ?_, ?_, fun q => ?_⟩
    · simp (disch := omega) only [sI_same, sI_nj]
      exact e1
    · simp (disch := omega) only [sI_same, sI_nj]
      exact e2
    · have tk := M.2.2 q
      simp only [TokC] at tk ⊢
      simp (disch := omega) only [sI_nj]
      exact tk
/-- too many of them, in the class -/
def cmB (k : Nat) (g : MH) : Bool := if k < 4 then decide (8 ≤ (g.1 46 4).toInt) else if k = 5 then decide (4 ≤ (g.1 46 5).toInt) else if k < 10 then false else if k < 17 then decide (40 ≤ (g.1 55 0).toInt) else if k < 21 then decide (20 ≤ (g.1 59 0).toInt) else false
theorem c_many (L : Lay g.2) {x : Int32} (hx : x.toInt = (k : Int)) : Tc rod (d + 1) 42 [.inr (.inr (.inl (some 45))), .inl x] g (some (.inl (if cmB k g = true then 1 else 0))) g := by
  apply Wc.tc
  refine n_Reader_isOneTooMany ?_
  refine w_Reader_isOneTooMany_0 (fun c => ?_) (fun c => ?_)
  · rw [hx] at c
    have n4 : ¬ k < 4 := by omega
    refine w_Reader_isOneTooMany_23 (fun kc5 => ?_) (fun kc5 => ?_)
    · rw [hx] at kc5
      have n5 : ¬ k = 5 := by omega
      have e : cmB k g = if k < 10 then false else if k < 17 then decide (40 ≤ (g.1 55 0).toInt) else if k < 21 then decide (20 ≤ (g.1 59 0).toInt) else false := by rw [cmB, if_neg n4, if_neg n5]
      rw [e]
      have low : (k < 10 ∨ 17 ≤ k) → Wb rod d B_Reader_isOneTooMany 75 [some (.inr (.inr (.inl (some 45)))), some (.inl x)] [] g (Is (.inl (if (if k < 10 then false else if k < 17 then decide (40 ≤ (g.1 55 0).toInt) else if k < 21 then decide (20 ≤ (g.1 59 0).toInt) else false) = true then 1 else 0)) g) := fun z => by
        refine w_Reader_isOneTooMany_75 (fun y => ?_) (fun y => ?_)
        · rw [hx] at y
          refine w_Reader_isOneTooMany_103 ?_
          refine w_Reader_isOneTooMany_104 (Or.inl rfl) ?_
          rw [if_pos (show k < 10 by omega)]
          exact ⟨rfl, rfl⟩
        · rw [hx] at y
          rw [if_neg (show ¬ k < 10 by omega), if_neg (show ¬ k < 17 by omega)]
          refine w_Reader_isOneTooMany_81 (fun q => ?_) (fun q => ?_)
          · rw [hx] at q
            refine w_Reader_isOneTooMany_103 ?_
            refine w_Reader_isOneTooMany_104 (Or.inl rfl) ?_
            rw [if_neg (show ¬ k < 21 by omega)]
            exact ⟨rfl, rfl⟩
          · rw [hx] at q
            rw [if_pos (show k < 21 by omega)]
            refine w_Reader_isOneTooMany_87 L (fun p => ?_) (fun p => ?_)
            · refine w_Reader_isOneTooMany_103 ?_
              refine w_Reader_isOneTooMany_104 (Or.inl rfl) ?_
              rw [decide_eq_false (by omega)]
              exact ⟨rfl, rfl⟩
            · refine w_Reader_isOneTooMany_99 ?_
              refine w_Reader_isOneTooMany_104 (Or.inr rfl) ?_
              rw [decide_eq_true (by omega)]
              exact ⟨rfl, rfl⟩
      refine w_Reader_isOneTooMany_45 (fun y => ?_) (fun y => ?_)
      · rw [hx] at y
        exact low (by omega)
      · rw [hx] at y
        refine w_Reader_isOneTooMany_51 (fun q => ?_) (fun q => ?_)
        · rw [hx] at q
          exact low (by omega)
        · rw [hx] at q
          rw [if_neg (show ¬ k < 10 by omega), if_pos (show k < 17 by omega)]
          refine w_Reader_isOneTooMany_57 L (fun p => ?_) (fun p => ?_)
          · refine w_Reader_isOneTooMany_73 ?_
            refine w_Reader_isOneTooMany_74 (Or.inl rfl) ?_
            rw [decide_eq_false (by omega)]
            exact ⟨rfl, rfl⟩
          · refine w_Reader_isOneTooMany_69 ?_
            refine w_Reader_isOneTooMany_74 (Or.inr rfl) ?_
            rw [decide_eq_true (by omega)]
            exact ⟨rfl, rfl⟩
    · rw [hx] at kc5
      have e : cmB k g = decide (4 ≤ (g.1 46 5).toInt) := by rw [cmB, if_neg n4, if_pos (by omega)]
      rw [e]
      refine w_Reader_isOneTooMany_28 L (fun p => ?_) (fun p => ?_)
      · refine w_Reader_isOneTooMany_43 ?_
        refine w_Reader_isOneTooMany_44 (Or.inl rfl) ?_
        rw [decide_eq_false (by omega)]
        exact ⟨rfl, rfl⟩
      · refine w_Reader_isOneTooMany_39 ?_
        refine w_Reader_isOneTooMany_44 (Or.inr rfl) ?_
        rw [decide_eq_true (by omega)]
        exact ⟨rfl, rfl⟩
  · rw [hx] at c
    have e : cmB k g = decide (8 ≤ (g.1 46 4).toInt) := by rw [cmB, if_pos (by omega)]
    rw [e]
    refine w_Reader_isOneTooMany_5 L (fun p => ?_) (fun p => ?_)
    · refine w_Reader_isOneTooMany_21 ?_
      refine w_Reader_isOneTooMany_22 (Or.inl rfl) ?_
      rw [decide_eq_false (by omega)]
      exact ⟨rfl, rfl⟩
    · refine w_Reader_isOneTooMany_17 ?_
      refine w_Reader_isOneTooMany_22 (Or.inr rfl) ?_
      rw [decide_eq_true (by omega)]
      exact ⟨rfl, rfl⟩
theorem CX.s64 (M : CX T len g X) (i : Nat) (x : Int32) : CX T len (sI g 64 i x) X := by
  refine ⟨?_, ?_, fun q => ?_⟩
  · rw [sI_nc (by omega)]; exact M.1
  · rw [sI_nc (by omega)]; exact M.2.1
  · have tk := M.2.2 q
    simp only [TokC] at tk ⊢
    simp (disch := omega) only [sI_nc]
    exact tk
theorem nb4 : ∀ k, k < 23 → nbh k ≤ 4 := by decide
theorem c_take (hr : RokT rod) (L : Lay g.2) (E : EnvT g T len) (M : CX T len g X) (w : WF len X) (h1 : X.1 = false) (kd : kdF T len X.2.1 = 2) (hk : k < 23) (hi : i < nbh k) (hs : X.2.1 = tpI T len s0 (i + 1)) (h0 : 0 < i → (g.1 64 0).toInt = vlI T len s0 0) {xk xi : Int32} (ek : xk.toInt = (k : Int)) (ei : xi.toInt = (i : Int)) : Wc rod (d + 3) 44 [.inr (.inr (.inl (some 45))), .inl xk, .inl xi] g (fun r g' => r = none ∧ Fr PN g g' ∧ CX T len g' (numX T len (loF k i) (hiF k i) (exX T len k i s0) X) ∧ (g'.1 64 i).toInt = vlI T len s0 i ∧ ∀ j, j ≠ i → g'.1 64 j = g.1 64 j) := by
  have n4 := nb4 k hk
  have tk := M.2.2 h1
  have ev := tk.2.2.2 kd
  have vi : vlF T len X.2.1 = vlI T len s0 i := by rw [hs]; rfl
  have r2 := hr 2 (by decide) (by decide)
  have r3 := hr 3 (by decide) (by decide)
  have x3 : ((xk * (4 : Int32)) + xi).toInt = ((k * 4 + i : Nat) : Int) := n_add (n_mul (n := 4) ek rfl (by omega)) ei (by omega)
  have l2 : (rod 2).1 = 92 := by rw [r2]; rfl
  have l3 : (rod 3).1 = 92 := by rw [r3]; rfl
  have v2 : ((rod 2).2 ((xk * (4 : Int32)) + xi).toNatClampNeg).toInt = loF k i := by rw [n_eq x3, r2, Nat.mul_comm]; rfl
  have v3 : ((rod 3).2 ((xk * (4 : Int32)) + xi).toNatClampNeg).toInt = hiF k i := by rw [n_eq x3, r3, Nat.mul_comm]; rfl
  have fin : ∀ (o : Bool) (x4 : Option MV) g1, Fr PC g g1 → CX T len g1 (ntX o 2 X.2.1 X) → o = outX T len (loF k i) (hiF k i) (exX T len k i s0) X.2.1 → Wb rod (d + 2) B_Reader_takeNumber 84 [some (.inr (.inr (.inl (some 45)))), some (.inl xk), some (.inl xi), some (.inl ((xk * (4 : Int32)) + xi)), x4] [] g1 (fun r g' => r = none ∧ Fr PN g g' ∧ CX T len g' (numX T len (loF k i) (hiF k i) (exX T len k i s0) X) ∧ (g'.1 64 i).toInt = vlI T len s0 i ∧ ∀ j, j ≠ i → g'.1 64 j = g.1 64 j) := by
    intro o x4 g1 F1 M1 ho
    have L1 := L.fr F1
    have e9 : (g1.1 45 9).toInt = vlI T len s0 i := by
      have tk1 := M1.2.2 ((nt_1 _ _ _).1.trans h1)
      rw [(nt_1 _ _ _).2] at tk1
      rw [tk1.2.2.2 kd, vi]
    refine w_Reader_takeNumber_84 L1 (by omega) ?_
    rw [n_eq ei]
    have F2 : Fr PN g (sI g1 64 i (g1.1 45 9)) := F1.pn.si (Or.inr rfl)
    refine w_Reader_takeNumber_94 (h := sI g1 64 i (g1.1 45 9)) (L.fr F2) (c_onX (L.fr F2) (E.fn F2) (M1.s64 _ _) (w.nt h1 o) ((nt_1 _ _ _).1.trans h1)) ?_
    rintro _ g3 ⟨rfl, F3, M3⟩
    have e64 : g3.1 64 = (sI g1 64 i (g1.1 45 9)).1 64 := F3.cell 64 (fun j => by unfold PC; omega)
    refine w_Reader_takeNumber_98 ?_
    refine ⟨rfl, F2.trans F3.pn, ?_, ?_, fun j hj => ?_⟩
    · rw [num_go h1 kd, ← ho]; exact M3
    · rw [e64, sI_same]; exact e9
    · rw [e64, sI_nj hj, F1.2 64 j (by unfold PC; omega)]
  have chk : ∀ (b : Int32), (b.toInt = 0 ∨ b.toInt = 1) → (b.toInt = 1 ↔ exX T len k i s0 = true) → Wb rod (d + 2) B_Reader_takeNumber 44 [some (.inr (.inr (.inl (some 45)))), some (.inl xk), some (.inl xi), some (.inl ((xk * (4 : Int32)) + xi)), none] [.inl b] g (fun r g' => r = none ∧ Fr PN g g' ∧ CX T len g' (numX T len (loF k i) (hiF k i) (exX T len k i s0) X) ∧ (g'.1 64 i).toInt = vlI T len s0 i ∧ ∀ j, j ≠ i → g'.1 64 j = g.1 64 j) := by
    intro b b01 hb
    have bad : (vlF T len X.2.1 < loF k i ∨ hiF k i < vlF T len X.2.1 ∨ exX T len k i s0 = true) → Wb rod (d + 2) B_Reader_takeNumber 75 [some (.inr (.inr (.inl (some 45)))), some (.inl xk), some (.inl xi), some (.inl ((xk * (4 : Int32)) + xi)), some (.inl b)] [] g (fun r g' => r = none ∧ Fr PN g g' ∧ CX T len g' (numX T len (loF k i) (hiF k i) (exX T len k i s0) X) ∧ (g'.1 64 i).toInt = vlI T len s0 i ∧ ∀ j, j ≠ i → g'.1 64 j = g.1 64 j) := fun z => by
      refine w_Reader_takeNumber_75 L (c_note L M (k := 2) rfl tk.1) ?_
      rintro _ g1 ⟨rfl, F1, M1⟩
      exact fin true _ g1 F1 M1 (decide_eq_true z).symm
    refine w_Reader_takeNumber_44 L (inB_of (by omega) (by rw [l2]; omega)) (fun c => ?_) (fun c => ?_)
    · rw [ev, v2] at c
      exact bad (Or.inl c)
    · rw [ev, v2] at c
      refine w_Reader_takeNumber_58 L (inB_of (by omega) (by rw [l3]; omega)) (fun y => ?_) (fun y => ?_)
      · rw [ev, v3] at y
        exact bad (Or.inr (Or.inl y))
      · rw [ev, v3] at y
        refine w_Reader_takeNumber_70 (fun q => ?_) (fun q => ?_)
        · refine fin false _ g Fr.rfl (by rw [nt_false]; exact M) (decide_eq_false fun z => ?_).symm
          rcases z with z | z | z
          · exact c z
          · exact y z
          · have := hb.mpr z
            omega
        · exact bad (Or.inr (Or.inr (hb.mp (by omega))))
  refine n_Reader_takeNumber ?_
  refine w_Reader_takeNumber_0 (fun c => absurd c (by omega)) (fun _ => ?_)
  refine w_Reader_takeNumber_4 (fun _ => ?_) (fun c => absurd (by omega) c)
  refine w_Reader_takeNumber_10 (fun c => ?_) (fun c => ?_)
  · rw [ek] at c
    refine w_Reader_takeNumber_43 ?_
    exact chk 0 (Or.inl rfl) ⟨fun z => absurd z (by decide), fun z => absurd (of_decide_eq_true z).1 (by omega)⟩
  · rw [ek] at c
    refine w_Reader_takeNumber_21 (fun y => ?_) (fun y => ?_)
    · rw [ei] at y
      refine w_Reader_takeNumber_43 ?_
      exact chk 0 (Or.inl rfl) ⟨fun z => absurd z (by decide), fun z => absurd (of_decide_eq_true z).2.1 (by omega)⟩
    · rw [ei] at y
      have i1 : i = 1 := by omega
      have h0' := h0 (by omega)
      have v1 : vlF T len X.2.1 = vlI T len s0 1 := by rw [vi, i1]
      refine w_Reader_takeNumber_26 L (fun z => ?_) (fun z => ?_)
      · rw [k0, ev, h0', v1] at z
        refine w_Reader_takeNumber_43 ?_
        exact chk 0 (Or.inl rfl) ⟨fun q => absurd q (by decide), fun q => absurd (of_decide_eq_true q).2.2 z⟩
      · rw [k0, ev, h0', v1] at z
        refine w_Reader_takeNumber_39 ?_
        exact chk 1 (Or.inr rfl) ⟨fun _ => decide_eq_true ⟨by omega, i1, z⟩, fun _ => rfl⟩
end M97a
