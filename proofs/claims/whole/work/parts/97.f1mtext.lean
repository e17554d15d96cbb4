/-! THE READER: the reference's text -/
section M97f
variable {rod : Nat → Nat × (Nat → Int32)} {d : Nat} {h g g1 g2 : MH} {T : Nat → Int} {len : Nat} {X Y : XS} {t k a s0 n i m q : Nat} {R v : Nat → Int} {S : LnS} {x1 x2 : Int32}
theorem k4 : (4 : Int32).toNatClampNeg = 4 := rfl
def BdS (t : Nat) (S : LnS) : Prop := (S.1.2.2.1 = 0 → (t = 0 → 1 ≤ S.2.1 0 ∧ S.2.1 0 ≤ 6) ∧ (t = 3 → 1 ≤ S.2.1 0 ∧ S.2.1 0 ≤ 4)) ∧ (t = 1 ∨ t = 2 → S.2.2 = 0)
theorem S0_bd (ht : t < 4) : BdS t (S0 T len t) := ⟨fun _ => ⟨fun z => by subst z; show (1 : Int) ≤ 3 ∧ (3 : Int) ≤ 6; decide, fun z => by subst z; show (1 : Int) ≤ 2 ∧ (2 : Int) ≤ 4; decide⟩, fun _ => rfl⟩
theorem tell_0 (hk : k < 10) (h6 : k ≠ 6) : tellR k v R 0 = R 0 := by
  rw [tellR]
  repeat' split
  all_goals try omega
  all_goals simp (disch := omega) only [updR_ne]
theorem line_bd (ht : t < 4) (w : WF len S.1) (h1 : S.1.1 = false) (B : BdS t S) : BdS t (lineX T len t S) := by
  rw [lineX]
  split
  · rename_i c
    have hl := kd_lt (T := T) (by omega : kdF T len S.1.2.1 ≠ 0)
    obtain ⟨mm, nx, sm, lt, wd⟩ := wdF_L c.1
    have kt := wcL_in ht (l := LR T S.1.2.1 mm) (by rw [← wd]; exact c.2)
    rw [← wd] at kt
    generalize kw t (wdF T len S.1.2.1) = k at kt
    have kt : fw t ≤ k ∧ k < fw (t + 1) := ⟨kt.1, kt.2.1⟩
    have lh := lo_hi.2
    refine ⟨fun f => ?_, fun z => ?_⟩
    · have f : (wX T len k S).2.2.1 = 0 := f
      have f0 := ln_f0 w h1 hl f
      have b := B.1 f0.1
      rw [lnX, if_pos f]
      refine ⟨fun z => ?_, fun z => ?_⟩
      · subst z
        have kt : 0 ≤ k ∧ k < 10 := kt
        show 1 ≤ tellR k _ _ 0 ∧ tellR k _ _ 0 ≤ 6
        by_cases h6 : k = 6
        · subst h6
          have z := f0.2.2 0 (by decide)
          rw [lh.2.2.1.2.1, lh.2.2.1.2.2] at z
          exact ⟨z.1, z.2.1⟩
        · rw [tell_0 kt.2 h6]
          exact b.1 rfl
      · subst z
        have kt : 21 ≤ k ∧ k < 23 := kt
        show 1 ≤ tellR k _ _ 0 ∧ tellR k _ _ 0 ≤ 4
        have l9 := lo_hi.2.2.2.2.2.2.2.2
        rcases (show k = 21 ∨ k = 22 by omega) with rfl | rfl
        · have z := f0.2.2 0 (by decide)
          rw [l9.1.2.1, l9.1.2.2] at z
          exact ⟨z.1, z.2.1⟩
        · have z := f0.2.2 0 (by decide)
          rw [l9.2.2.1, l9.2.2.2.1] at z
          have e : tellR 22 (vlI T len S.1.2.1) S.2.1 0 = S.2.1 0 := by
            show updR S.2.1 (vlI T len S.1.2.1 0).toNat _ 0 = _
            exact updR_ne (by omega)
          rw [e]
          exact b.2 rfl
    · have n0 := B.2 z
      show (if (wX T len k S).2.2.1 = 0 then (tellR k (vlI T len S.1.2.1) S.2.1, tellN k (vlI T len S.1.2.1) S.2.2) else S.2).2 = 0
      split
      · show tellN k _ S.2.2 = 0
        have kk : 10 ≤ k ∧ k < 21 := by
          rcases z with rfl | rfl
          · have kt : 10 ≤ k ∧ k < 17 := kt
            omega
          · have kt : 17 ≤ k ∧ k < 21 := kt
            omega
        rw [tellN, if_neg (by omega), if_neg (by omega), if_neg (by omega), if_neg (by omega)]
        exact n0
      · exact n0
  · refine ⟨fun f => ?_, B.2⟩
    have f : (endX S.1).2.2.1 = 0 := f
    rw [endX, if_neg (by rw [h1]; decide)] at f
    exact absurd f (by show ¬ (1 : Nat) = 0; decide)
theorem s_isOf2 (L : Lay h.2) (s x : Int32) (hs : s.toInt = (t : Int)) (hn : t < 4) (mb : 0 ≤ (h.1 85 t).toInt ∧ (h.1 85 t).toInt ≤ 2) : Tc rod (d + 2) 194 [.inr (.inr (.inl (some 84))), .inl s, .inl x] h (some (.inl (if 0 ≤ x.toInt ∧ x.toInt < (h.1 85 t).toInt then 1 else 0))) h := by
  have e : ((h.1 85 t) - (1 : Int32)).toInt = (h.1 85 t).toInt - 1 := i32_sub (by show _ ≤ _ - (1 : Int); omega) (by show _ - (1 : Int) ≤ _; omega)
  have eq : ((0 : Int32).toInt ≤ x.toInt ∧ x.toInt ≤ ((h.1 85 t) - (1 : Int32)).toInt) ↔ (0 ≤ x.toInt ∧ x.toInt < (h.1 85 t).toInt) := by
    rw [e]
    show ((0 : Int) ≤ _ ∧ _) ↔ _
    omega
  apply Wc.tc
  refine Wc.en (fun _ _ => e_Model_isOf) ?_
  refine Wb.callT (fun _ _ _ _ => b_Model_isOf_0 L.o84 (by rw [Option.getD_some]; exact L.a84_0 (by omega))) (s_isIn _ _ _ _) ?_
  refine Wb.ret (b_Model_isOf_13 ok01) ?_
  refine ⟨?_, rfl⟩
  simp only [Option.getD_some, L.r84_0, clampK hs, eq]
def plF (t q : Nat) : Nat := if t = 0 then 610 + 90 * q else if t = 1 then 790 + 121 * q else if t = 2 then 1032 + 41 * q else 1114 + 16 * q
def szF (t : Nat) : Nat := if t = 0 then 90 else if t = 1 then 121 else if t = 2 then 41 else 16
theorem plsz (ht : t < 4) (hq : q < 2) : 610 ≤ plF t q ∧ plF t q + szF t ≤ 1146 ∧ szF t ≤ 121 := by
  unfold plF szF
  repeat' split
  all_goals omega
theorem s_placeX {x : Int32} (hs : x1.toInt = (t : Int)) (ht : t < 4) (hx : x.toInt = (q : Int)) (hq : q < 2) : ∃ y : Int32, y.toInt = (plF t q : Int) ∧ Tc rod (d + 1) 216 [.inl x1, .inl x] h (some (.inl y)) h := by
  refine ⟨_, ?_, s_placeOf x1 x t hs ht h⟩
  unfold plF
  repeat' split
  · exact n_add (m := 610) rfl (n_mul (m := 90) rfl hx (by omega)) (by omega)
  · exact n_add (m := 790) rfl (n_mul (m := 121) rfl hx (by omega)) (by omega)
  · exact n_add (m := 1032) rfl (n_mul (m := 41) rfl hx (by omega)) (by omega)
  · exact n_add (m := 1114) rfl (n_mul (m := 16) rfl hx (by omega)) (by omega)
theorem s_size2 (hs : x1.toInt = (t : Int)) (ht : t < 4) : Tc rod (d + 1) 215 [.inl x1] h (some (.inl (Int32.ofNat (szF t)))) h := by
  apply Wc.tc
  refine n_Model_sizeOf ?_
  refine w_Model_sizeOf_0 (fun c => ?_) (fun c => ?_)
  · refine w_Model_sizeOf_9 (fun kc1 => ?_) (fun kc1 => ?_)
    · refine w_Model_sizeOf_19 (fun kc2 => ?_) (fun kc2 => ?_)
      · refine w_Model_sizeOf_29 ?_
        refine w_Model_sizeOf_31 ?_
        rw [szF, if_neg (by omega), if_neg (by omega), if_neg (by omega)]
        exact ⟨rfl, rfl⟩
      · refine w_Model_sizeOf_24 ?_
        refine w_Model_sizeOf_31 ?_
        rw [szF, if_neg (by omega), if_neg (by omega), if_pos (by omega)]
        exact ⟨rfl, rfl⟩
    · refine w_Model_sizeOf_14 ?_
      refine w_Model_sizeOf_31 ?_
      rw [szF, if_neg (by omega), if_pos (by omega)]
      exact ⟨rfl, rfl⟩
  · refine w_Model_sizeOf_4 ?_
    refine w_Model_sizeOf_31 ?_
    rw [szF, if_pos (by omega)]
    exact ⟨rfl, rfl⟩
theorem r_copy (L : Lay g.2) (e1 : x1.toInt = (t : Int)) (ht : t < 4) {x3 : Int32} (e3 : x3.toInt = (q : Int)) (hq : q < 2) {u2 : Option MV} {Q : Option MV → MH → Prop} (K : ∀ g', g'.2 = g.2 → (∀ c, c ≠ 85 → g'.1 c = g.1 c) → (∀ j, (j < plF t q ∨ plF t q + szF t ≤ j) → g'.1 85 j = g.1 85 j) → (∀ j, j < szF t → g'.1 85 (plF t q + j) = g.1 87 j) → Q (some (.inl x3)) g') : Wb rod (d + 8) B_Model_text 325 [some (.inr (.inr (.inl (some 84)))), some (.inl x1), u2, some (.inl x3), some (.inl 0)] [] g Q := by
  have ps := plsz ht hq
  refine Wb.uph (szF t) (fun i L' g' => ∃ x : Int32, x.toInt = (i : Int) ∧ L' = [some (.inr (.inr (.inl (some 84)))), some (.inl x1), u2, some (.inl x3), some (.inl x)] ∧ g'.2 = g.2 ∧ (∀ c, c ≠ 85 → g'.1 c = g.1 c) ∧ (∀ j, (j < plF t q ∨ plF t q + i ≤ j) → g'.1 85 j = g.1 85 j) ∧ ∀ j, j < i → g'.1 85 (plF t q + j) = g.1 87 j) ?_ (Nat.zero_le _) ⟨0, rfl, rfl, rfl, fun _ _ => rfl, fun _ _ => rfl, fun j hj => absurd hj (by omega)⟩
  rintro i _ g1 hi ⟨x, hx, rfl, f1, f2, f3, f4⟩ ih
  have L1 : Lay g1.2 := f1.symm ▸ L
  refine w_Model_text_325 (Tc.wc (s_size2 e1 ht)) (Is.k ?_)
  refine w_Model_text_331 (fun c => ?_) (fun c => ?_)
  · rw [t_nat (by omega), hx] at c
    have ei : i = szF t := by omega
    subst ei
    refine w_Model_text_360 ?_
    exact K g1 f1 f2 f3 f4
  · rw [t_nat (by omega), hx] at c
    obtain ⟨y, ey, pl⟩ := s_placeX (rod := rod) (d := d + 7) (h := g1) e1 ht e3 hq
    refine w_Model_text_334 L1 (Tc.wc pl) (Is.k ?_)
    have es := n_add ey hx (by omega)
    refine w_Model_text_343 L1 (L1.1 85 _ rfl) (by omega) (by rw [es]; omega) ?_
    rw [n_eq es, n_eq hx]
    refine w_Model_text_354 rfl ?_
    refine ih (by omega) _ _ ⟨x + 1, t_succ hx (by omega), rfl, f1, fun c hc => ?_, fun j hj => ?_, fun j hj => ?_⟩
    · rw [sI_cell hc]; exact f2 c hc
    · rw [sI_nj (by omega)]; exact f3 j (by omega)
    · by_cases e : j = i
      · subst e
        rw [sI_same, f2 87 (by decide)]
      · rw [sI_nj (by omega)]; exact f4 j (by omega)
theorem r_init (L : Lay g.2) (E : EnvA g T len) (e1 : x1.toInt = (t : Int)) (ht : t < 4) (h5 : g.1 85 5 = 0) (h6 : g.1 85 6 = -1) {Q : Option MV → MH → Prop} (K : ∀ g' u3, Fr PL g g' → MS T len t g' (S0 T len t) → Wb rod (d + 8) B_Model_text 139 [some (.inr (.inr (.inl (some 84)))), some (.inl x1), some (.inl x2), u3, none] [] g' Q) : Wb rod (d + 8) B_Model_text 71 [some (.inr (.inr (.inl (some 84)))), some (.inl x1), some (.inl x2), none, none] [] g Q := by
  refine w_Model_text_71 L ?_
  refine w_Model_text_76 (h := sI g 84 3 0) L ?_
  refine w_Model_text_81 (h := sI (sI g 84 3 0) 84 8 0) L ?_
  refine w_Model_text_86 (h := sI (sI (sI g 84 3 0) 84 8 0) 84 9 (-1)) L ?_
  refine w_Model_text_91 rfl ?_
  have F0 : Fr PL g (sI (sI (sI (sI g 84 3 0) 84 8 0) 84 9 (-1)) 84 11 0) := (((Fr.rfl.si (by unfold PL PY PX; omega)).si (by unfold PL PY PX; omega)).si (by unfold PL PY PX; omega)).si (by unfold PL PY PX; omega)
  generalize hg1 : sI (sI (sI (sI g 84 3 0) 84 8 0) 84 9 (-1)) 84 11 0 = g1 at F0 ⊢
  have q3 : g1.1 84 3 = 0 := by rw [← hg1]; simp (disch := omega) only [sI_same, sI_nj]
  have q8 : g1.1 84 8 = 0 := by rw [← hg1]; simp (disch := omega) only [sI_same, sI_nj]
  have q9 : g1.1 84 9 = -1 := by rw [← hg1]; simp (disch := omega) only [sI_same, sI_nj]
  have q11 : g1.1 84 11 = 0 := by rw [← hg1]; simp (disch := omega) only [sI_same, sI_nj]
  have L1 := L.fr F0
  refine Wb.uph 121 (fun k L' g' => ∃ x : Int32, x.toInt = (k : Int) ∧ L' = [some (.inr (.inr (.inl (some 84)))), some (.inl x1), some (.inl x2), some (.inl x), none] ∧ g'.2 = g1.2 ∧ (∀ c, c ≠ 87 → g'.1 c = g1.1 c) ∧ ∀ j, j < k → g'.1 87 j = 0) ?_ (Nat.zero_le _) ⟨0, rfl, rfl, rfl, fun _ _ => rfl, fun j hj => absurd hj (by omega)⟩
  rintro k _ g2 hk ⟨x, hx, rfl, f1, f2, f3⟩ ih
  have L2 : Lay g2.2 := f1.symm ▸ L1
  refine w_Model_text_93 (fun c => ?_) (fun c => ?_)
  · have k121 : k = 121 := by rw [hx] at c; have c : (121 : Int) ≤ (k : Int) := c; omega
    subst k121
    have F2 : Fr PL g g2 := F0.trans ⟨f1, fun c j hc => by rw [f2 c (fun z => hc (Or.inr (Or.inr z)))]⟩
    -- behind the first number
    have fin : ∀ (z : Int32), z.toInt = R0 t 0 → ∀ g3, g3 = g2 ∧ z = 0 ∨ g3 = sI g2 87 0 z → Wb rod (d + 8) B_Model_text 135 [some (.inr (.inr (.inl (some 84)))), some (.inl x1), some (.inl x2), some (.inl x), none] [] g3 Q := by
      intro z hz g3 hg3
      have F3 : Fr PL g g3 := by
        rcases hg3 with ⟨rfl, -⟩ | rfl
        · exact F2
        · exact F2.si (PL.s _)
      have r0 : g3.1 87 0 = z := by
        rcases hg3 with ⟨rfl, rfl⟩ | rfl
        · exact f3 0 (by decide)
        · exact sI_same
      have rj : ∀ j, 0 < j → j < 121 → g3.1 87 j = 0 := by
        intro j h0 hj
        rcases hg3 with ⟨rfl, -⟩ | rfl
        · exact f3 j hj
        · rw [sI_nj (by omega)]; exact f3 j hj
      have cc : ∀ c, c ≠ 87 → g3.1 c = g1.1 c := by
        intro c hc
        rcases hg3 with ⟨rfl, -⟩ | rfl
        · exact f2 c hc
        · rw [sI_cell hc]; exact f2 c hc
      have L3 := L.fr F3
      refine w_Model_text_135 L3 (r_advance L3 (E.fl F3) (p := 0) (by rw [cc 84 (by decide), q3]; rfl) (Nat.zero_le _)) ?_
      rintro _ g4 ⟨rfl, A, a4, a3, a5, a6, a7⟩
      have F4 : Fr PL g g4 := F3.trans ⟨A.1, fun c j hc => by
        unfold PL PY PX at hc
        by_cases e : c = 84
        · subst e
          exact A.2.2 j (by omega)
        · rw [A.2.1 c e]⟩
      have kc87 : g4.1 87 = g3.1 87 := A.2.1 87 (by decide)
      have kc85 : g4.1 85 = g1.1 85 := by rw [A.2.1 85 (by decide), cc 85 (by decide)]
      have d85 : g1.1 85 = g.1 85 := by rw [← hg1]; simp (disch := omega) only [sI_cell]
      refine K g4 _ F4 ⟨⟨?_, ?_, ?_, fun _ => ⟨a4, a3, a5, a6, fun y => ?_⟩⟩, fun _ => ⟨fun j hj => ?_, fun y => ?_, fun y => ?_⟩, fun _ => ⟨fun y => ?_, fun y => ?_, fun y => ?_⟩⟩
      · rw [A.2.2 8 (by omega), cc 84 (by decide), q8]; rfl
      · rw [kc85, d85, h5]; rfl
      · rw [kc85, d85, h6]; rfl
      · have y' : kdF T len (sttF T len 0) = 1 := y
        rw [a7 y']
        exact t_nat (by have := wd_lt T len (sttF T len 0); omega)
      · rw [kc87]
        show _ = R0 t j
        by_cases e : j = 0
        · subst e
          rw [r0]; exact hz
        · rw [rj j (by omega) hj, R0, if_neg e]; rfl
      · rw [A.2.2 9 (by omega), cc 84 (by decide), q9]
        show FT 0 (-1)
        refine ⟨by decide, fun m hm => ⟨fun z => ?_, fun z => absurd z (by omega)⟩⟩
        exact absurd z (Nat.not_le.mpr (Nat.pow_pos (by decide)))
      · rw [A.2.2 11 (by omega), cc 84 (by decide), q11]
        exact ⟨rfl, by show (0 : Nat) < 16; decide⟩
      · rw [kc87, rj 1 (by decide) (by decide), rj 2 (by decide) (by decide), rj 5 (by decide) (by decide)]
        unfold bw
        decide
      · subst y
        rw [kc87, r0, bw, hz]
        decide
      · subst y
        rw [kc87, r0, bw, hz]
        decide
    refine w_Model_text_112 (fun z => ?_) (fun z => ?_)
    · rw [e1] at z
      refine w_Model_text_123 (fun y => ?_) (fun y => ?_)
      · rw [e1] at y
        have y : ¬ (t : Int) = 3 := y
        exact fin 0 (by rw [R0, if_pos rfl, if_neg (by omega), if_neg (by omega)]; rfl) g2 (Or.inl ⟨rfl, rfl⟩)
      · rw [e1] at y
        have y : (t : Int) = 3 := y
        refine w_Model_text_128 L2 ?_
        rw [k0]
        exact fin 2 (by rw [R0, if_pos rfl, if_neg (by omega), if_pos (by omega)]; rfl) _ (Or.inr rfl)
    · rw [e1] at z
      refine w_Model_text_116 L2 ?_
      rw [k0]
      refine w_Model_text_123 (fun y => ?_) (fun y => ?_)
      · exact fin 3 (by rw [R0, if_pos rfl, if_pos (by omega)]; rfl) _ (Or.inr rfl)
      · rw [e1] at y
        have y : (t : Int) = 3 := y
        omega
  · rw [hx] at c
    have c : ¬ (121 : Int) ≤ (k : Int) := c
    refine w_Model_text_99 L2 (by omega) ?_
    rw [n_eq hx]
    refine w_Model_text_106 rfl ?_
    refine ih (by omega) _ _ ⟨x + 1, t_succ hx (by omega), rfl, f1, fun c hc => by rw [sI_cell hc]; exact f2 c hc, fun j hj => ?_⟩
    by_cases e : j = k
    · subst e; exact sI_same
    · rw [sI_nj e]; exact f3 j (by omega)
theorem r_mloop (L : Lay g.2) (E : EnvA g T len) (e1 : x1.toInt = (t : Int)) (ht : t < 4) (M : MS T len t g (S0 T len t)) {u2 u3 u4 : Option MV} {Q : Option MV → MH → Prop} (K : ∀ g', Fr PL g g' → MS T len t g' (finS T len t) → WF len (finS T len t).1 → BdS t (finS T len t) → endedX T len (finS T len t) = true → Wb rod (d + 8) B_Model_text 208 [some (.inr (.inr (.inl (some 84)))), some (.inl x1), u2, u3, u4] [] g' Q) : Wb rod (d + 8) B_Model_text 139 [some (.inr (.inr (.inl (some 84)))), some (.inl x1), u2, u3, u4] [] g Q := by
  have l6 := E.2.1
  refine Wb.uph 601 (fun k L' g' => ∃ S : LnS, L' = [some (.inr (.inr (.inl (some 84)))), some (.inl x1), u2, u3, u4] ∧ Fr PL g g' ∧ MS T len t g' S ∧ WF len S.1 ∧ BdS t S ∧ loopX T len t (601 - k) S = finS T len t ∧ (S.1.1 = false → k ≤ S.1.2.1)) ?_ (Nat.zero_le _) ⟨_, rfl, Fr.rfl, M, S0_wf, S0_bd ht, rfl, fun _ => Nat.zero_le _⟩
  rintro k _ g1 hk ⟨S, rfl, F1, M1, w, B, el, ks⟩ ih
  have L1 := L.fr F1
  have out : endedX T len S = true → Wb rod (d + 8) B_Model_text 208 [some (.inr (.inr (.inl (some 84)))), some (.inl x1), u2, u3, u4] [] g1 Q := fun z => by
    have el' := el
    rw [loop_end z] at el'
    subst el'
    exact K g1 F1 M1 w B z
  cases hw : S.1.1 with
  | true =>
    refine w_Model_text_139 L1 (fun _ => out (by rw [endedX, hw]; rfl)) (fun z => absurd z (by rw [M1.1.w1 hw]; decide))
  | false =>
    have tk := M1.1.2.2.2 hw
    have te := tk_eq T len S.1.2.1
    refine w_Model_text_139 L1 (fun z => absurd (M1.1.w0 hw) z) (fun _ => ?_)
    refine w_Model_text_146 L1 (fun z => ?_) (fun z => ?_)
    · rw [tk.2.2.1] at z
      refine out ?_
      rw [endedX, decide_eq_true (te.2.2.2.mp (by omega)), Bool.or_true]
    · rw [tk.2.2.1] at z
      have kd : kdF T len S.1.2.1 ≠ 0 := fun y => z (by have := te.2.2.2.mpr y; omega)
      have k6 : k < 601 := by
        have := ks hw
        have := (w.2 hw).2.1
        omega
      have lw := line_wf (T := T) (t := t) w hw
      have nxt : ∀ g2, Fr PL g1 g2 → MS T len t g2 (lineX T len t S) → Wb rod (d + 8) B_Model_text 139 [some (.inr (.inr (.inl (some 84)))), some (.inl x1), u2, u3, u4] [] g2 Q := by
        intro g2 F2 M2
        refine ih k6 _ _ ⟨_, rfl, F1.trans F2, M2, lw.1, line_bd ht w hw B, ?_, fun y => ?_⟩
        · rw [show 601 - k = (601 - (k + 1)) + 1 by omega, loop_go (ended_no hw kd)] at el
          exact el
        · have := lw.2 y
          have := ks hw
          omega
      refine w_Model_text_153 (fun c => ?_) (fun c => ?_) (fun c => ?_) ?_
      · obtain rfl : t = 0 := by omega
        refine w_Model_text_180 L1 (r_landLine L1 (E.fl F1) M1 w hw) ?_
        rintro _ g2 ⟨rfl, F2, M2⟩
        exact w_Model_text_184 (nxt g2 F2 M2)
      · obtain rfl : t = 1 := by rw [e1] at c; have c : (t : Int) = 1 := c; omega
        refine w_Model_text_187 L1 (r_seasonLine L1 (E.fl F1) M1 w hw) ?_
        rintro _ g2 ⟨rfl, F2, M2⟩
        exact w_Model_text_191 (nxt g2 F2 M2)
      · obtain rfl : t = 2 := by rw [e1] at c; have c : (t : Int) = 2 := c; omega
        refine w_Model_text_194 L1 (r_ledgerLine L1 (E.fl F1) M1 w hw) ?_
        rintro _ g2 ⟨rfl, F2, M2⟩
        exact w_Model_text_198 (nxt g2 F2 M2)
      · intro n0 n1 n2
        rw [e1] at n0 n1 n2
        have n1 : (t : Int) ≠ 1 := n1
        have n2 : (t : Int) ≠ 2 := n2
        obtain rfl : t = 3 := by omega
        refine w_Model_text_201 L1 (r_bargainLine L1 (E.fl F1) M1 w hw) ?_
        rintro _ g2 ⟨rfl, F2, M2⟩
        exact w_Model_text_205 (nxt g2 F2 M2)
theorem r_after (L : Lay g.2) (e1 : x1.toInt = (t : Int)) (ht : t < 4) (M : MS T len t g S) (w : WF len S.1) (B : BdS t S) (en : endedX T len S = true) {u2 u3 u4 : Option MV} {Q : Option MV → MH → Prop} (K : ∀ g', Fr PX g g' → (g'.1 85 5).toInt = ((fpX len S).1 : Int) → (g'.1 85 6).toInt = (fpX len S).2 → ((fpX len S).1 = 0 → Q87 g' S.2.1) → Wb rod (d + 8) B_Model_text 280 [some (.inr (.inr (.inl (some 84)))), some (.inl x1), u2, u3, u4] [] g' Q) : Wb rod (d + 8) B_Model_text 208 [some (.inr (.inr (.inl (some 84)))), some (.inl x1), u2, u3, u4] [] g Q := by
  have m5 := M.1.2.1
  have m6 := M.1.2.2.1
  by_cases f0 : ¬ S.1.2.2.1 = 0
  · have ef : fpX len S = (S.1.2.2.1, S.1.2.2.2) := by rw [fpX, if_neg (fun y => f0 y.1)]
    refine w_Model_text_208 L (fun _ => ?_) (fun z => absurd z (by rw [k5, m5]; omega))
    refine w_Model_text_243 L (fun _ => ?_) (fun z => absurd z (by rw [k5, m5]; omega))
    exact K g Fr.rfl (by rw [ef]; exact m5) (by rw [ef]; exact m6) (fun y => by rw [ef] at y; exact absurd y f0)
  rw [Decidable.not_not] at f0
  have hw : S.1.1 = false := by
    cases h : S.1.1 with
    | true => exact absurd (f0.symm.trans (w.1 h)) (by decide)
    | false => rfl
  have kd : kdF T len S.1.2.1 = 0 := by
    rw [endedX, hw, Bool.false_or] at en
    exact of_decide_eq_true en
  have sl : S.1.2.1 = len := by
    have := kd_0 kd
    have := (w.2 hw).2.1
    omega
  have tk := M.1.2.2.2 hw
  have rr := M.2.1 f0
  have b := B.1 f0
  have r0 := rr.1 0 (by decide)
  have keep : ovB S = false → Wb rod (d + 8) B_Model_text 280 [some (.inr (.inr (.inl (some 84)))), some (.inl x1), u2, u3, u4] [] g Q := fun z => by
    have ef : fpX len S = (S.1.2.2.1, S.1.2.2.2) := by
      rw [fpX, if_neg]
      rintro ⟨-, y⟩
      rw [z] at y
      exact absurd y (by decide)
    exact K g Fr.rfl (by rw [ef]; exact m5) (by rw [ef]; exact m6) (fun _ => rr.1)
  have also : ∀ d, Wc rod (d + 1) 208 [.inr (.inr (.inl (some 84))), .inl 4, .inl (g.1 84 4)] g (fun r g' => r = none ∧ Fr PX g g' ∧ MrX T len g' (ntX true 4 len S.1)) := fun d => r_also L M.1 hw (k := 4) rfl (by rw [tk.1, sl]) (Or.inl f0)
  have fin : ovB S = true → ∀ g', Fr PX g g' → MrX T len g' (ntX true 4 len S.1) → Wb rod (d + 8) B_Model_text 280 [some (.inr (.inr (.inl (some 84)))), some (.inl x1), u2, u3, u4] [] g' Q := fun z g' F' M' => by
    have ef : fpX len S = (ntX true 4 len S.1).2.2 := by rw [fpX, ntX, if_pos ⟨f0, z⟩, if_pos ⟨rfl, f0⟩]
    have e4 : fpX len S = (4, (len : Int)) := by rw [fpX, if_pos ⟨f0, z⟩]
    refine K g' F' (by rw [ef]; exact M'.2.1) (by rw [ef]; exact M'.2.2.1) (fun y => ?_)
    rw [e4] at y
    exact absurd y (by show ¬ (4 : Nat) = 0; decide)
  refine w_Model_text_208 L (fun z => absurd (by rw [k5, m5, f0]; rfl) z) (fun _ => ?_)
  have n243 : (t = 0 → ovB S = false) → Wb rod (d + 8) B_Model_text 243 [some (.inr (.inr (.inl (some 84)))), some (.inl x1), u2, u3, u4] [] g Q := fun z0 => by
    refine w_Model_text_243 L (fun z => absurd (by rw [k5, m5, f0]; rfl) z) (fun _ => ?_)
    refine w_Model_text_252 (fun z => ?_) (fun z => ?_)
    · rw [e1] at z
      have z : ¬ (t : Int) = 3 := z
      refine keep ?_
      by_cases t0 : t = 0
      · exact z0 t0
      · have n0 := B.2 (by omega)
        rw [ovB, n0]
        exact decide_eq_false (Nat.not_le.mpr (Nat.pow_pos (by decide)))
    · rw [e1] at z
      have z : (t : Int) = 3 := z
      have t3 : t = 3 := by omega
      have r3 := rr.2.2 t3
      have b3 := b.2 t3
      have sh := shr_all S.2.2 (by omega) (S.2.1 0).toNat (by omega)
      rw [← ofN r3.1 (by omega), ← ofN (x := g.1 87 0) (n := (S.2.1 0).toNat) (by rw [r0]; omega) (by omega)] at sh
      refine w_Model_text_257 L (fun y => keep (decide_eq_false (sh.mp y))) (fun y => ?_)
      refine w_Model_text_271 L (also _) ?_
      rintro _ g' ⟨rfl, F', M'⟩
      exact fin (decide_eq_true (Decidable.not_not.mp (fun p => y (sh.mpr p)))) g' F' M'
  refine w_Model_text_217 (fun z => ?_) (fun z => ?_)
  · rw [e1] at z
    exact n243 (fun t0 => absurd t0 (by omega))
  · rw [e1] at z
    have t0 : t = 0 := by omega
    have ft := rr.2.1 t0
    have b0 := b.1 t0
    have f2 := ft.2 (S.2.1 0).toNat (by omega)
    refine w_Model_text_221 L (fun y => ?_) (fun y => ?_)
    · rw [k0, r0] at y
      exact n243 (fun _ => decide_eq_false (fun p => by have := f2.mp p; omega))
    · rw [k0, r0] at y
      have ov : ovB S = true := decide_eq_true (f2.mpr (by omega))
      refine w_Model_text_234 L (also _) ?_
      rintro _ g' ⟨rfl, F', M'⟩
      have m5' : (g'.1 85 5).toInt = 4 := by
        have := M'.2.1
        rw [ntX, if_pos ⟨rfl, f0⟩] at this
        exact this
      refine w_Model_text_243 (L.fr F') (fun _ => fin ov g' F' M') (fun z => absurd z (by rw [k5, m5']; decide))
end M97f
