/-! THE READER: the reference's tokens -/
section M96a
variable {rod : Nat → Nat × (Nat → Int32)} {d : Nat} {h g : MH} {T : Nat → Int} {len : Nat} {X : XS} {lo hi : Int}
theorem k5 : (5 : Int32).toNatClampNeg = 5 := rfl
theorem k6 : (6 : Int32).toNatClampNeg = 6 := rfl
theorem k0 : (0 : Int32).toNatClampNeg = 0 := rfl
theorem k1 : (1 : Int32).toNatClampNeg = 1 := rfl
theorem k2 : (2 : Int32).toNatClampNeg = 2 := rfl
def PX (c j : Nat) : Prop := (c = 84 ∧ 3 ≤ j ∧ j ≤ 8) ∨ (c = 85 ∧ (j = 5 ∨ j = 6))
def TokM (T : Nat → Int) (len : Nat) (g : MH) (s : Nat) : Prop := (g.1 84 4).toInt = (s : Int) ∧ (g.1 84 3).toInt = (nxF T len s : Int) ∧ (g.1 84 5).toInt = (tkF T len s : Int) ∧ (kdF T len s = 2 → (g.1 84 6).toInt = vlF T len s) ∧ (kdF T len s = 1 → (g.1 84 7).toInt = (wdF T len s : Int))
def MrX (T : Nat → Int) (len : Nat) (g : MH) (X : XS) : Prop := g.1 84 8 = (if X.1 = true then 1 else 0) ∧ (g.1 85 5).toInt = (X.2.2.1 : Int) ∧ (g.1 85 6).toInt = X.2.2.2 ∧ (X.1 = false → TokM T len g X.2.1)
theorem MrX.w0 (M : MrX T len g X) (h1 : X.1 = false) : (g.1 84 8).toInt = 0 := by rw [M.1, if_neg (by rw [h1]; decide)]; rfl
theorem MrX.w1 (M : MrX T len g X) (h1 : X.1 = true) : (g.1 84 8).toInt = 1 := by rw [M.1, if_pos h1]; rfl
theorem EnvA.fr (E : EnvA h T len) (F : Fr PX h g) : EnvA g T len := ⟨by rw [F.2 84 2 (by unfold PX; omega)]; exact E.1, E.2.1, fun p hp => by rw [F.2 85 (10 + p) (by unfold PX; omega)]; exact E.2.2 p hp⟩
theorem Lay.fr {P : Nat → Nat → Prop} (L : Lay h.2) (F : Fr P h g) : Lay g.2 := F.1.symm ▸ L
theorem wd_lt (T : Nat → Int) (len s : Nat) : wdF T len s < 100 := by
  rw [wdF]
  split
  · rcases wcL_lit (l := LR T s (runT (fun i => isLt (T i)) len s - s)) with h | h <;> omega
  · decide
theorem tk_eq (T : Nat → Int) (len s : Nat) : (tkF T len s = 1 ↔ kdF T len s = 2) ∧ (tkF T len s = 2 ↔ kdF T len s = 3) ∧ (tkF T len s = 3 ↔ kdF T len s = 1 ∧ wdF T len s ≠ 99) ∧ (tkF T len s = 0 ↔ kdF T len s = 0) := by
  have b : kdF T len s ≤ 4 := by
    rw [kdF]
    repeat' split
    all_goals omega
  rw [tkF]
  repeat' split
  all_goals omega
theorem r_adv (L : Lay g.2) (E : EnvA g T len) (M : MrX T len g X) (w : WF len X) (h1 : X.1 = false) : Wc rod (d + 4) 195 [.inr (.inr (.inl (some 84)))] g (fun r g' => r = none ∧ Fr PX g g' ∧ MrX T len g' (nxX T len X)) := by
  have tk := M.2.2.2 h1
  have b := nx_bd (T := T) (w.2 h1).2.1
  refine (r_advance L E tk.2.1 b.1).imp ?_
  rintro r g' ⟨rfl, A, a4, a3, a5, a6, a7⟩
  have F : Fr PX g g' := ⟨A.1, fun c j hc => by
    by_cases e : c = 84
    · subst e
      exact A.2.2 j (by unfold PX at hc; omega)
    · rw [A.2.1 c e]⟩
  refine ⟨rfl, F, ?_, ?_, ?_, fun _ => ⟨a4, a3, a5, a6, fun q => ?_⟩⟩
  · rw [A.2.2 8 (by omega)]; exact M.1
  · rw [A.2.1 85 (by omega)]; exact M.2.1
  · rw [A.2.1 85 (by omega)]; exact M.2.2.1
  · have q' : kdF T len (sttF T len (nxF T len X.2.1)) = 1 := q
    rw [a7 q']
    exact t_nat (by have := wd_lt T len (sttF T len (nxF T len X.2.1)); omega)
theorem r_ends (L : Lay g.2) (M : MrX T len g X) : Wc rod (d + 1) 204 [.inr (.inr (.inl (some 84)))] g (fun r g' => r = none ∧ Fr PX g g' ∧ MrX T len g' (endX X)) := by
  refine n_Model_ends ?_
  cases h1 : X.1 with
  | true =>
    refine w_Model_ends_0 L (fun c => absurd c (by rw [M.w1 h1]; decide)) (fun _ => ?_)
    refine w_Model_ends_7 ?_
    rw [endX, if_pos h1]
    exact ⟨rfl, Fr.rfl, M⟩
  | false =>
    have tk := M.2.2.2 h1
    refine w_Model_ends_0 L (fun _ => ?_) (fun c => absurd (M.w0 h1) c)
    refine w_Model_ends_8 L ?_
    refine w_Model_ends_13 (h := sI g 84 8 1) L ?_
    refine w_Model_ends_20 (h := sI (sI g 84 8 1) 85 5 1) L ?_
    refine w_Model_ends_31 ?_
    rw [endX, if_neg (by rw [h1]; decide)]
    refine ⟨rfl, ((Fr.rfl.si (by unfold PX; omega)).si (by unfold PX; omega)).si (by rw [k6]; unfold PX; omega), ?_, ?_, ?_, fun q => absurd q (by show ¬ true = false; decide)⟩
    · simp (disch := omega) only [k5, k6, sI_same, sI_nc, sI_nj]
      rfl
    · simp (disch := omega) only [k5, k6, sI_same, sI_nc, sI_nj]
      rfl
    · simp (disch := omega) only [k5, k6, sI_same, sI_nc, sI_nj]
      exact tk.1
theorem r_also (L : Lay g.2) (M : MrX T len g X) (h1 : X.1 = false) {k a : Nat} {x1 x2 : Int32} (e1 : x1.toInt = (k : Int)) (e2 : x2.toInt = (a : Int)) (q : X.2.2.1 = 0 ∨ X.2.2.2 < (a : Int) ∨ (X.2.2.2 = (a : Int) ∧ X.2.2.1 ≤ k)) : Wc rod (d + 1) 208 [.inr (.inr (.inl (some 84))), .inl x1, .inl x2] g (fun r g' => r = none ∧ Fr PX g g' ∧ MrX T len g' (ntX true k a X)) := by
  have m5 := M.2.1
  have m6 := M.2.2.1
  have go : X.2.2.1 = 0 → Wb rod d B_Model_also 49 [some (.inr (.inr (.inl (some 84)))), some (.inl x1), some (.inl x2)] [] g (fun r g' => r = none ∧ Fr PX g g' ∧ MrX T len g' (ntX true k a X)) := fun z => by
    refine w_Model_also_49 L ?_
    refine w_Model_also_56 (h := sI g 85 5 x1) L ?_
    refine w_Model_also_64 ?_
    rw [ntX, if_pos ⟨rfl, z⟩]
    refine ⟨rfl, (Fr.rfl.si (by unfold PX; omega)).si (by rw [k6]; unfold PX; omega), ?_, ?_, ?_, fun _ => ?_⟩
    · simp (disch := omega) only [k5, k6, sI_same, sI_nc, sI_nj]; exact M.1
    · simp (disch := omega) only [k5, k6, sI_same, sI_nc, sI_nj]; exact e1
    · simp (disch := omega) only [k5, k6, sI_same, sI_nc, sI_nj]; exact e2
    · have tk := M.2.2.2 h1
      simp only [TokM] at tk ⊢
      simp (disch := omega) only [k5, k6, sI_same, sI_nc, sI_nj]
      exact tk
  have no : X.2.2.1 ≠ 0 → Wb rod d B_Model_also 48 [some (.inr (.inr (.inl (some 84)))), some (.inl x1), some (.inl x2)] [] g (fun r g' => r = none ∧ Fr PX g g' ∧ MrX T len g' (ntX true k a X)) := fun z => by
    refine w_Model_also_48 ?_
    rw [ntX, if_neg (fun y => z y.2)]
    exact ⟨rfl, Fr.rfl, M⟩
  refine n_Model_also ?_
  refine w_Model_also_0 L (fun c => absurd (M.w0 h1) c) (fun _ => ?_)
  refine w_Model_also_7 L (fun c => ?_) (fun c => ?_)
  · rw [k5, m5] at c
    exact go (by omega)
  · rw [k5, m5] at c
    refine w_Model_also_16 L (fun c => ?_) (fun c => ?_)
    · exact no (by omega)
    · rw [k6, m6, e2] at c
      refine w_Model_also_27 L (fun y => ?_) (fun y => ?_)
      · rw [k6, m6, e2] at y
        exact absurd y (by omega)
      · rw [k6, m6, e2] at y
        refine w_Model_also_38 L (fun z => ?_) (fun z => ?_)
        · rw [k5, m5, e1] at z
          exact absurd z (by omega)
        · exact no (by omega)
theorem nt_false {k a : Nat} : ntX false k a X = X := by rw [ntX, if_neg (fun z => absurd z.1 (by decide))]
def nvX (T : Nat → Int) (len : Nat) (lo hi : Int) (X : XS) : Int := if X.1 = false ∧ kdF T len X.2.1 = 2 ∧ lo ≤ vlF T len X.2.1 ∧ vlF T len X.2.1 ≤ hi then vlF T len X.2.1 else lo
theorem nv_bd (b : lo ≤ hi) : lo ≤ nvX T len lo hi X ∧ nvX T len lo hi X ≤ hi := by
  rw [nvX]
  split
  · rename_i c; exact c.2.2
  · omega
theorem nv_f0 {ex : Bool} (w : WF len X) (q : (numX T len lo hi ex X).2.2.1 = 0) : nvX T len lo hi X = vlF T len X.2.1 := by
  have n := num_f0 w q
  rw [nvX, if_pos ⟨n.1, n.2.2.1, n.2.2.2.1, n.2.2.2.2.1⟩]
theorem r_numbered (L : Lay g.2) (E : EnvA g T len) (M : MrX T len g X) (w : WF len X) {x1 x2 : Int32} (e1 : x1.toInt = lo) (e2 : x2.toInt = hi) : Wc rod (d + 5) 207 [.inr (.inr (.inl (some 84))), .inl x1, .inl x2] g (fun r g' => ∃ v : Int32, r = some (.inl v) ∧ Fr PX g g' ∧ MrX T len g' (numX T len lo hi false X) ∧ v.toInt = nvX T len lo hi X) := by
  refine n_Model_numbered ?_
  have bad : (X.1 = true ∨ (X.1 = false ∧ ¬ kdF T len X.2.1 = 2)) → Wb rod (d + 4) B_Model_numbered 15 [some (.inr (.inr (.inl (some 84)))), some (.inl x1), some (.inl x2), none] [] g (fun r g' => ∃ v : Int32, r = some (.inl v) ∧ Fr PX g g' ∧ MrX T len g' (numX T len lo hi false X) ∧ v.toInt = nvX T len lo hi X) := fun z => by
    refine w_Model_numbered_15 L (r_ends L M) ?_
    rintro _ g1 ⟨rfl, F, M1⟩
    refine w_Model_numbered_19 ?_
    refine ⟨x1, rfl, F, ?_, ?_⟩
    · have e : numX T len lo hi false X = endX X := by
        rcases z with z | ⟨z, y⟩
        · rw [num_wr z, endX, if_pos z]
        · rw [num_no z y, endX, if_neg (by rw [z]; decide)]
      rw [e]; exact M1
    · rw [e1, nvX, if_neg]
      rintro ⟨y1, y2, -⟩
      rcases z with z | ⟨z, y⟩
      · exact absurd (z.symm.trans y1) (by decide)
      · exact y y2
  cases h1 : X.1 with
  | true =>
    refine w_Model_numbered_0 L (fun _ => bad (Or.inl h1)) (fun c => absurd c (by rw [M.w1 h1]; decide))
  | false =>
    have tk := M.2.2.2 h1
    have te := tk_eq T len X.2.1
    refine w_Model_numbered_0 L (fun c => absurd (M.w0 h1) c) (fun _ => ?_)
    refine w_Model_numbered_7 L (fun c => ?_) (fun c => bad (Or.inr ⟨h1, fun z => c (by rw [tk.2.2.1]; have := te.1.mpr z; omega)⟩))
    rw [tk.2.2.1] at c
    have kd : kdF T len X.2.1 = 2 := te.1.mp (by omega)
    have ev := tk.2.2.2.1 kd
    have fin : ∀ (g1 : MH) (b : Bool), Fr PX g g1 → MrX T len g1 (ntX b 2 X.2.1 X) → (b = true ↔ ¬ (lo ≤ vlF T len X.2.1 ∧ vlF T len X.2.1 ≤ hi)) → Wb rod (d + 4) B_Model_numbered 44 [some (.inr (.inr (.inl (some 84)))), some (.inl x1), some (.inl x2), some (.inl (g.1 84 6))] [] g1 (fun r g' => ∃ v : Int32, r = some (.inl v) ∧ Fr PX g g' ∧ MrX T len g' (numX T len lo hi false X) ∧ v.toInt = nvX T len lo hi X) := fun g1 b F1 M1 hb => by
      have eb : outX T len lo hi false X.2.1 = b := by
        cases b with
        | true => exact decide_eq_true (by have := hb.mp rfl; omega)
        | false => exact decide_eq_false (fun z => absurd (hb.mpr (z.elim (fun z => by omega) (fun z => z.elim (fun z => by omega) (fun z => absurd z (by decide))))) (by decide))
      refine w_Model_numbered_44 (L.fr F1) (r_adv (L.fr F1) (E.fr F1) M1 (w.nt h1 b) ((nt_1 _ _ _).1.trans h1)) ?_
      rintro _ g2 ⟨rfl, F2, M2⟩
      refine w_Model_numbered_48 (Tc.wc (s_isIn _ _ _ _)) (Is.k ?_)
      have res : MrX T len g2 (numX T len lo hi false X) := by rw [num_go h1 kd, eb]; exact M2
      rw [ev, e1, e2]
      by_cases z : lo ≤ vlF T len X.2.1 ∧ vlF T len X.2.1 ≤ hi
      · rw [if_pos z]
        refine w_Model_numbered_54 (fun y => absurd y (by decide)) (fun _ => ?_)
        refine w_Model_numbered_57 ?_
        refine w_Model_numbered_62 ?_
        exact ⟨_, rfl, F1.trans F2, res, by rw [ev, nvX, if_pos ⟨h1, kd, z.1, z.2⟩]⟩
      · rw [if_neg z]
        refine w_Model_numbered_54 (fun _ => ?_) (fun y => absurd rfl y)
        refine w_Model_numbered_61 ?_
        refine w_Model_numbered_62 ?_
        exact ⟨_, rfl, F1.trans F2, res, by rw [e1, nvX, if_neg (fun y => z ⟨y.2.2.1, y.2.2.2⟩)]⟩
    refine w_Model_numbered_21 L (Tc.wc (s_isIn _ _ _ _)) (Is.k ?_)
    rw [ev, e1, e2]
    by_cases z : lo ≤ vlF T len X.2.1 ∧ vlF T len X.2.1 ≤ hi
    · rw [if_pos z]
      refine w_Model_numbered_32 (fun _ => ?_) (fun y => absurd y (by decide))
      exact fin g false Fr.rfl (by rw [nt_false]; exact M) ⟨fun y => absurd y (by decide), fun y => absurd z y⟩
    · rw [if_neg z]
      refine w_Model_numbered_32 (fun y => absurd rfl y) (fun _ => ?_)
      have ww := (w.2 h1).2.2
      refine w_Model_numbered_35 L (r_also L M h1 (k := 2) rfl tk.1 (by omega)) ?_
      rintro _ g1 ⟨rfl, F1, M1⟩
      exact fin g1 true F1 M1 ⟨fun _ => z, fun _ => rfl⟩
def PY (c j : Nat) : Prop := PX c j ∨ (c = 84 ∧ j = 9)
theorem Fr.py (F : Fr PX h g) : Fr PY h g := F.mono fun _ _ q => Or.inl q
theorem EnvA.fy (E : EnvA h T len) (F : Fr PY h g) : EnvA g T len := ⟨by rw [F.2 84 2 (by unfold PY PX; omega)]; exact E.1, E.2.1, fun p hp => by rw [F.2 85 (10 + p) (by unfold PY PX; omega)]; exact E.2.2 p hp⟩
theorem MrX.si9 (M : MrX T len g X) (x : Int32) : MrX T len (sI g 84 9 x) X := by
  refine ⟨?_, ?_, ?_, fun q => ?_⟩
  · rw [sI_nj (by omega)]; exact M.1
  · rw [sI_nc (by omega)]; exact M.2.1
  · rw [sI_nc (by omega)]; exact M.2.2.1
  · have tk := M.2.2.2 q
    simp only [TokM] at tk ⊢
    simp (disch := omega) only [sI_nj]
    exact tk
theorem r_townTold (L : Lay g.2) (E : EnvA g T len) (M : MrX T len g X) (w : WF len X) : Wc rod (d + 6) 206 [.inr (.inr (.inl (some 84)))] g (fun r g' => ∃ v : Int32, r = some (.inl v) ∧ Fr PY g g' ∧ MrX T len g' (numX T len 0 5 false X) ∧ v.toInt = nvX T len 0 5 X ∧ (g'.1 84 9).toInt = (if (g.1 84 9).toInt < v.toInt then v.toInt else (g.1 84 9).toInt)) := by
  refine n_Model_townTold ?_
  refine w_Model_townTold_0 L (r_numbered L E M w rfl rfl) ?_
  rintro _ g1 ⟨v, rfl, F1, M1, ev⟩
  have L1 := L.fr F1
  have e9 : g1.1 84 9 = g.1 84 9 := F1.2 84 9 (by unfold PX; omega)
  refine w_Model_townTold_6 L1 (fun c => ?_) (fun c => ?_)
  · refine w_Model_townTold_20 L1 ?_
    refine w_Model_townTold_24 L1 ?_
    refine w_Model_townTold_27 ?_
    refine ⟨v, rfl, F1.py.si (Or.inr ⟨rfl, rfl⟩), M1.si9 _, ev, ?_⟩
    rw [e9] at c
    rw [sI_same, e9, if_neg (by omega)]
  · refine w_Model_townTold_16 ?_
    refine w_Model_townTold_24 L1 ?_
    refine w_Model_townTold_27 ?_
    refine ⟨v, rfl, F1.py.si (Or.inr ⟨rfl, rfl⟩), M1.si9 _, ev, ?_⟩
    rw [e9] at c
    rw [sI_same, if_pos (by omega)]
theorem r_wordIn (L : Lay g.2) (E : EnvA g T len) (M : MrX T len g X) (w : WF len X) (h1 : X.1 = false) {a b : Nat} {x1 x2 : Int32} (e1 : x1.toInt = (a : Int)) (e2 : x2.toInt = (b : Int)) (hb : b < 99) : Wc rod (d + 5) 203 [.inr (.inr (.inl (some 84))), .inl x1, .inl x2] g (fun r g' => Fr PX g g' ∧ ((kdF T len X.2.1 = 1 ∧ (a ≤ wdF T len X.2.1 ∧ wdF T len X.2.1 ≤ b) ∧ r = some (.inl (Int32.ofNat (wdF T len X.2.1))) ∧ MrX T len g' (nxX T len X)) ∨ (¬ (kdF T len X.2.1 = 1 ∧ (a ≤ wdF T len X.2.1 ∧ wdF T len X.2.1 ≤ b)) ∧ r = some (.inl 0) ∧ MrX T len g' (endX X)))) := by
  refine n_Model_wordIn ?_
  have tk := M.2.2.2 h1
  have te := tk_eq T len X.2.1
  have bad : ¬ (kdF T len X.2.1 = 1 ∧ (a ≤ wdF T len X.2.1 ∧ wdF T len X.2.1 ≤ b)) → Wb rod (d + 4) B_Model_wordIn 27 [some (.inr (.inr (.inl (some 84)))), some (.inl x1), some (.inl x2), none] [] g (fun r g' => Fr PX g g' ∧ ((kdF T len X.2.1 = 1 ∧ (a ≤ wdF T len X.2.1 ∧ wdF T len X.2.1 ≤ b) ∧ r = some (.inl (Int32.ofNat (wdF T len X.2.1))) ∧ MrX T len g' (nxX T len X)) ∨ (¬ (kdF T len X.2.1 = 1 ∧ (a ≤ wdF T len X.2.1 ∧ wdF T len X.2.1 ≤ b)) ∧ r = some (.inl 0) ∧ MrX T len g' (endX X)))) := fun z => by
    refine w_Model_wordIn_27 L (r_ends L M) ?_
    rintro _ g1 ⟨rfl, F, M1⟩
    refine w_Model_wordIn_31 ?_
    exact ⟨F, Or.inr ⟨z, rfl, M1⟩⟩
  refine w_Model_wordIn_0 L (fun c => absurd (M.w0 h1) c) (fun _ => ?_)
  refine w_Model_wordIn_7 L (fun c => bad (fun z => c (by rw [tk.2.2.1]; have := te.2.2.1.mpr ⟨z.1, by omega⟩; omega))) (fun c => ?_)
  rw [tk.2.2.1] at c
  have k1 := te.2.2.1.mp (by omega)
  have ew := tk.2.2.2.2 k1.1
  refine w_Model_wordIn_15 L (Tc.wc (s_isIn _ _ _ _)) (Is.k ?_)
  rw [ew, e1, e2]
  by_cases z : (a : Int) ≤ (wdF T len X.2.1 : Int) ∧ (wdF T len X.2.1 : Int) ≤ (b : Int)
  · rw [if_pos z]
    refine w_Model_wordIn_24 (fun _ => ?_) (fun y => absurd y (by decide))
    refine w_Model_wordIn_33 L rfl (r_adv L E M w h1) ?_
    rintro _ g1 ⟨rfl, F, M1⟩
    refine w_Model_wordIn_42 ?_
    refine ⟨F, Or.inl ⟨k1.1, by omega, ?_, M1⟩⟩
    rw [ofN ew (by have := wd_lt T len X.2.1; omega)]
  · rw [if_neg z]
    refine w_Model_wordIn_24 (fun y => absurd rfl y) (fun _ => bad (fun y => z (by omega)))
theorem r_endsLine (L : Lay g.2) (E : EnvA g T len) (M : MrX T len g X) (w : WF len X) : Wc rod (d + 5) 211 [.inr (.inr (.inl (some 84)))] g (fun r g' => r = none ∧ Fr PX g g' ∧ MrX T len g' (semX T len X)) := by
  refine n_Model_endsLine ?_
  have bad : (X.1 = true ∨ (X.1 = false ∧ ¬ kdF T len X.2.1 = 3)) → Wb rod (d + 4) B_Model_endsLine 22 [some (.inr (.inr (.inl (some 84))))] [] g (fun r g' => r = none ∧ Fr PX g g' ∧ MrX T len g' (semX T len X)) := fun z => by
    refine w_Model_endsLine_22 L (r_ends L M) ?_
    rintro _ g1 ⟨rfl, F, M1⟩
    refine w_Model_endsLine_26 ?_
    have e : semX T len X = endX X := by
      rcases z with z | ⟨z, y⟩
      · rw [sem_wr z, endX, if_pos z]
      · rw [sem_no z y, endX, if_neg (by rw [z]; decide)]
    rw [e]
    exact ⟨rfl, F, M1⟩
  cases h1 : X.1 with
  | true => exact w_Model_endsLine_0 L (fun _ => bad (Or.inl h1)) (fun c => absurd c (by rw [M.w1 h1]; decide))
  | false =>
    have tk := M.2.2.2 h1
    have te := tk_eq T len X.2.1
    refine w_Model_endsLine_0 L (fun c => absurd (M.w0 h1) c) (fun _ => ?_)
    refine w_Model_endsLine_7 L (fun c => bad (Or.inr ⟨h1, fun z => c (by rw [tk.2.2.1]; have := te.2.1.mpr z; omega)⟩)) (fun c => ?_)
    rw [tk.2.2.1] at c
    have kd : kdF T len X.2.1 = 3 := te.2.1.mp (by omega)
    refine w_Model_endsLine_15 L (r_adv L E M w h1) ?_
    rintro _ g1 ⟨rfl, F, M1⟩
    refine w_Model_endsLine_19 ?_
    refine w_Model_endsLine_26 ?_
    rw [sem_go h1 kd]
    exact ⟨rfl, F, M1⟩
end M96a
