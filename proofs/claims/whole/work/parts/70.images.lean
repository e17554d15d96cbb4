/-! CALLS THAT MAKE NOTHING AND SET NO REFERENCE; images -/
section M70
variable {rod : Nat → Nat × (Nat → Int32)} {d : Nat} {h g : MH} {T M T' M' : Nat} {Y : List Nat}
def okIN (Y : List Nat) (m : MI) : Bool := match m.1 with
  | .putfield _ => !(m.2.2.2.1 == 1)
  | .aastore => false
  | .new _ => false
  | .newarray _ => false
  | .anewarray _ => false
  | .invokestatic _ => (decide (1 ≤ m.2.2.2.1) && decide (m.2.2.2.1 ≤ 4)) || Y.contains m.2.2.1
  | .invokevirtual _ => Y.contains m.2.2.1
  | .invokespecial _ => m.2.2.2.1 == 5 || Y.contains m.2.2.1
  | _ => true
theorem fn_stF {m : MI} {L : ML} {st : List MV} {r : MR} (e : stF m L st h = some r) (hr : r.1 = true) (ok : okIN Y m = true) : r.2.2.2.2 = h.2 := by
  unfold stF at e
  split at e
  · split at e
    · cases e; rfl
    · cases e; rfl
    · cases e
  · rename_i hm
    simp only [okIN, hm, Bool.not_eq_true', beq_eq_false_iff_ne] at ok
    split at e
    · cases e; rfl
    · cases e
      simp only [Bool.and_eq_true, beq_iff_eq] at hr
      exact absurd hr.2 ok
    · cases e
  · cases e
theorem fn_stR {m : MI} {L : ML} {st : List MV} {r : MR} (e : stR rod m L st h = some r) (ok : okIN Y m = true) : r.2.2.2.2 = h.2 := by
  unfold stR at e
  split at e <;> rename_i hm <;> simp only [okIN, hm] at ok <;> (try split at e) <;> first | (cases ok; done) | (cases e; rfl) | cases e
theorem fn_stN {m : MI} {L : ML} {st : List MV} {r : MR} (e : stN m L st h = some r) (ok : okIN Y m = true) : r.2.2.2.2 = h.2 := by
  unfold stN at e
  split at e <;> rename_i hm <;> simp only [okIN, hm] at ok <;> first | cases ok | cases e
theorem fn_stX {m : MI} {L : ML} {st : List MV} {r : MR} (e : stX m L st h = some r) : r.2.2.2.2 = h.2 := by
  unfold stX at e
  split at e
  · split at e <;> first | (cases e; rfl) | cases e
  · split at e
    · cases e; rfl
    · cases e
  · cases e
theorem fn_st1 {m : MI} {L : ML} {st : List MV} {r : MR} (e : st1 rod m L st h = some r) (hr : r.1 = true) (ok : okIN Y m = true) : r.2.2.2.2 = h.2 := by
  unfold st1 at e
  cases h1 : stL m L st h with
  | some q => rw [h1] at e; cases e; rw [fr_stL_h h1]
  | none =>
    rw [h1] at e
    simp only [orE] at e
    cases h2 : stC rod m L st h with
    | some q => rw [h2] at e; cases e; rw [fr_stC_h h2]
    | none =>
      rw [h2] at e
      simp only [orE] at e
      cases h3 : stF m L st h with
      | some q => rw [h3] at e; cases e; exact fn_stF h3 hr ok
      | none =>
        rw [h3] at e
        simp only [orE] at e
        cases h4 : stA m L st h with
        | some q => rw [h4] at e; cases e; rw [fr_stA_h h4]
        | none =>
          rw [h4] at e
          simp only [orE] at e
          cases h5 : stR rod m L st h with
          | some q => rw [h5] at e; cases e; exact fn_stR h5 ok
          | none =>
            rw [h5] at e
            simp only [orE] at e
            cases h6 : stB m L st h with
            | some q => rw [h6] at e; cases e; rw [fr_stB_h h6]
            | none =>
              rw [h6] at e
              simp only [orE] at e
              cases h7 : stN m L st h with
              | some q => rw [h7] at e; cases e; exact fn_stN h7 ok
              | none =>
                rw [h7] at e
                exact fn_stX e
def PnO (Y : List Nat) (h : MH) (o : MO) : Prop := match o with
  | .inl f => f.2.2.2.2 = h.2
  | .inr (.inl (_, f1, f2)) => f1.2.2.2.2 = h.2 ∧ f2.2.2.2.2 = h.2
  | .inr (.inr (.inl r)) => r.2.2 = h.2
  | .inr (.inr (.inr (y, _, f))) => f.2.2.2.2 = h.2 ∧ y ∈ Y
theorem PnO.trans {h1 : MH} {o : MO} (k : h1.2 = h.2) (q : PnO Y h1 o) : PnO Y h o := by
  unfold PnO at q ⊢
  rw [k] at q
  exact q
theorem fn_trm {m : MI} {pc : Nat} {L : ML} {st : List MV} {g : Bool} {o : MO} (e : trm m pc L st h g = some (true, o)) (ok : okIN Y m = true) : g = true ∧ PnO Y h o := by
  unfold trm at e
  split at e <;> rename_i hm <;> simp only [okIN, hm] at ok <;> (try split at e) <;> first
    | (cases e; exact ⟨rfl, rfl⟩)
    | (cases e; exact ⟨rfl, rfl, rfl⟩)
    | (simp only [Option.some.injEq, Prod.mk.injEq, Bool.and_eq_true, Bool.or_eq_true, beq_iff_eq, decide_eq_true_eq] at e ok; obtain ⟨e1, rfl⟩ := e; exact ⟨e1.1, rfl⟩)
    | (simp only [Option.some.injEq, Prod.mk.injEq, Bool.and_eq_true, Bool.or_eq_true, beq_iff_eq, decide_eq_true_eq, List.contains_eq_mem] at e ok; obtain ⟨e1, rfl⟩ := e; exact ⟨e1.1, rfl, ok⟩)
    | (simp only [Option.some.injEq, Prod.mk.injEq, Bool.and_eq_true, Bool.or_eq_true, beq_iff_eq, decide_eq_true_eq, List.contains_eq_mem] at e ok; obtain ⟨e1, rfl⟩ := e; exact ⟨e1.1, rfl, by rcases ok with q | q; (exfalso; omega); exact q⟩)
    | cases e
theorem fn_blk : ∀ (is : List MI) (pc : Nat) (L : ML) (st : List MV) (h : MH) (g : Bool) (o : MO), blk rod is pc L st h g = some (true, o) → is.all (fun m => okIN Y m) = true → g = true ∧ PnO Y h o := by
  intro is
  induction is with
  | nil =>
    intro pc L st h g o e _
    simp only [blk] at e
    cases e
    exact ⟨rfl, rfl⟩
  | cons m is ih =>
    intro pc L st h g o e ok
    simp only [List.all_cons, Bool.and_eq_true] at ok
    unfold blk at e
    split at e
    · rename_i r hr
      obtain ⟨e1, q⟩ := ih _ _ _ _ _ _ e ok.2
      simp only [Bool.and_eq_true] at e1
      exact ⟨e1.1, PnO.trans (fn_st1 hr e1.2 ok.1) q⟩
    · split at e
      · exact fn_trm e ok.1
      · cases e
def okBN (Y : List Nat) (B : MB) : Bool := B.all (fun b => b.2.all (fun m => okIN Y m))
theorem fn_getB : ∀ (B : MB) (pc : Nat) (is : List MI), okBN Y B = true → getB B pc = some is → is.all (fun m => okIN Y m) = true := by
  intro B
  induction B with
  | nil => intro pc is _ e; cases e
  | cons q r ih =>
    intro pc is ok e
    simp only [okBN, List.all_cons, Bool.and_eq_true] at ok
    simp only [getB] at e
    split at e
    · cases e
      exact ok.1
    · exact ih pc is ok.2 e
theorem fn_lp {call : Nat → List MV → MH → Option (Option MV × MH)} (hc : ∀ y as h r, y ∈ Y → call y as h = some r → r.2.2 = h.2) {B : MB} (ok : okBN Y B = true) : ∀ (n pc : Nat) (L : ML) (st : List MV) (h : MH) (r : Option MV × MH), lp rod call B n pc L st h = some r → r.2.2 = h.2 := by
  intro n
  induction n with
  | zero => intro pc L st h r e; cases e
  | succ n ih =>
    intro pc L st h r hl
    simp only [lp] at hl
    cases his : getB B pc with
    | none => rw [his] at hl; cases hl
    | some is =>
      rw [his] at hl
      simp only at hl
      have oki := fn_getB B pc is ok his
      cases hb : blk rod is pc L st h true with
      | none => rw [hb] at hl; cases hl
      | some q =>
        rw [hb] at hl
        match q, hl, hb with
        | (true, .inl (pc1, L1, st1, h1)), hl, hb => exact (ih _ _ _ _ _ hl).trans (fn_blk _ _ _ _ _ _ _ hb oki).2
        | (true, .inr (.inl (true, (pc1, L1, st1, h1), f2))), hl, hb => exact (ih _ _ _ _ _ hl).trans (fn_blk _ _ _ _ _ _ _ hb oki).2.1
        | (true, .inr (.inl (false, f1, (pc1, L1, st1, h1)))), hl, hb => exact (ih _ _ _ _ _ hl).trans (fn_blk _ _ _ _ _ _ _ hb oki).2.2
        | (true, .inr (.inr (.inl r1))), hl, hb =>
          simp only [Option.some.injEq] at hl
          subst hl
          exact (fn_blk _ _ _ _ _ _ _ hb oki).2
        | (true, .inr (.inr (.inr (y, as, pc1, L1, st1, h1)))), hl, hb =>
          simp only at hl
          have q := (fn_blk _ _ _ _ _ _ _ hb oki).2
          cases hcl : call y as h1 with
          | none => rw [hcl] at hl; cases hl
          | some v =>
            rw [hcl] at hl
            exact (ih _ _ _ _ _ hl).trans ((hc _ _ _ _ q.2 hcl).trans q.1)
        | (false, out), hl, hb => cases hl
def okYN (Y : List Nat) : Bool := Y.all (fun y => match mtOf MTX y with
  | none => true
  | some M => okBN Y M.1)
theorem fn_mcall {F : Nat} (ok : okYN Y = true) : ∀ (d y : Nat) (as : List MV) (h : MH) (r : Option MV × MH), y ∈ Y → mcall rod (mtOf MTX) F d y as h = some r → r.2.2 = h.2 := by
  intro d
  induction d with
  | zero => intro y as h r _ e; cases e
  | succ d ih =>
    intro y as h r hy e
    simp only [mcall] at e
    split at e
    · cases e
    · rename_i M hM
      split at e
      · have := List.all_eq_true.mp ok y hy
        rw [hM] at this
        exact fn_lp ih this _ _ _ _ _ _ e
      · cases e
theorem Tc.same {y : Nat} {as : List MV} {r : Option MV} {h' : MH} (ok : okYN Y = true) (hy : y ∈ Y) (k : Tc rod d y as h r h') : h'.2 = h.2 := by
  obtain ⟨F, k⟩ := k
  exact fn_mcall ok d y as h (r, h') hy k
def YN : List Nat := [12, 13, 14, 15, 16, 17, 18, 19, 20, 21, 22, 23, 24, 25, 26, 27, 28, 29, 30, 31, 32, 33, 34, 35, 36, 37, 38, 39, 40, 41, 42, 43, 44, 45, 46, 47, 48, 49, 50, 51, 52, 53, 54, 55, 56, 57, 58, 59, 60, 61, 62, 63, 64, 65, 66, 67, 68, 69, 70, 71, 72, 73, 74, 75, 76, 77, 78, 79, 80, 81, 82, 83, 84, 85, 86, 87, 88, 89, 90, 91, 92, 93, 94, 95, 96, 97, 98, 99, 100, 101, 102, 103, 104, 105, 106, 107, 108, 109, 110, 111, 112, 113, 114, 115, 116, 117, 118, 119, 120, 121, 122, 123, 124, 125, 126, 127, 128, 129, 130, 131, 132, 133, 134, 135, 136, 137, 138, 139, 140, 141, 142, 143, 144, 145, 146, 147, 148, 149, 150, 151, 152, 153, 154, 155, 156, 157, 158, 159, 160, 161, 162, 163, 164, 165, 166, 167, 168, 169, 170, 171, 172, 173, 174, 175, 176, 177, 178, 179, 180, 181, 182, 183, 184, 185, 187, 188, 190, 191, 192, 193, 194, 195, 196, 197, 198, 199, 200, 201, 202, 203, 204, 205, 206, 207, 208, 209, 210, 211, 212, 213, 214, 215, 216, 217, 218, 219, 220, 221, 222, 223, 224, 225, 226, 227, 228, 229, 230, 231, 232, 233, 234, 235, 236, 237, 238, 239, 240, 241, 242, 243, 244, 245, 246, 247, 248, 249, 250, 251, 252, 253, 254, 255, 256, 257, 258, 259, 260, 261, 262, 263, 264, 265, 266, 267, 268, 269, 270, 271, 272, 273, 274, 275, 276, 277, 278, 279, 280, 281, 282, 283, 284, 285, 286, 287, 288, 289, 290, 291, 292, 293, 294, 295, 296, 297, 298, 299, 300, 301, 302]
set_option maxRecDepth 40000 in
theorem okYN_ok : okYN YN = true := by decide +kernel
def imC (h : MH) (k : Nat) : Nat := if (h.2.1 44 k).isSome = true then 1 else 0
def LenOK (h : MH) : Prop := h.2.2.length = 98 + 43 * (imC h 0 + imC h 1 + imC h 2)
/-- the invariant, and that there are no more cells than images need -/
def INW (h : MH) : Prop := INV h ∧ LenOK h
theorem LenOK.kp (k : LenOK h) (e : g.2 = h.2) : LenOK g := by
  simp only [LenOK, imC, e] at k ⊢
  exact k
theorem OpI.up {yc ym : Nat} {as : List Int32} (o : OpI INV rod yc ym as) (q : (YN.contains yc && YN.contains ym) = true) : OpI INW rod yc ym as := by
  simp only [Bool.and_eq_true, List.contains_eq_mem, decide_eq_true_eq] at q
  intro h hI
  obtain ⟨v, h1, h2, g, k1, k2, I2⟩ := o h hI.1
  exact ⟨v, h1, h2, g, k1, k2, I2, hI.2.kp ((k2.same okYN_ok q.2).trans (k1.same okYN_ok q.1))⟩
theorem OpJ.up {yc ym : Nat} {as : List Int32} (o : OpJ INV rod yc ym as) (q : (YN.contains yc && YN.contains ym) = true) : OpJ INW rod yc ym as := by
  simp only [Bool.and_eq_true, List.contains_eq_mem, decide_eq_true_eq] at q
  intro h hI
  obtain ⟨v, h1, h2, g, k1, k2, I2⟩ := o h hI.1
  exact ⟨v, h1, h2, g, k1, k2, I2, hI.2.kp ((k2.same okYN_ok q.2).trans (k1.same okYN_ok q.1))⟩
/-! told things elsewhere -/
theorem TSame.post {f : MH} (s : TSame h g T T') (e : ∀ c, T' ≤ c → c < T' + 43 → f.1 c = g.1 c) : TSame h f T T' := by
  refine ⟨fun j hj => by rw [e _ (by omega) (by omega)]; exact s.1 j hj, fun k hk => ?_⟩
  obtain ⟨z1, z2, z3, z4, z5, z6, z7, z8, z9, z10⟩ := s.2 k hk
  exact ⟨fun j hj => by rw [e _ (by omega) (by omega)]; exact z1 j hj, fun c j hc hj => by rw [e _ (by omega) (by omega)]; exact z2 c j hc hj, fun c j hc hj => by rw [e _ (by omega) (by omega)]; exact z3 c j hc hj, fun j hj => by rw [e _ (by omega) (by omega)]; exact z4 j hj, by rw [e _ (by omega) (by omega)]; exact z5, fun c j hc hj => by rw [e _ (by omega) (by omega)]; exact z6 c j hc hj, by rw [e _ (by omega) (by omega)]; exact z7, fun c j hc hj => by rw [e _ (by omega) (by omega)]; exact z8 c j hc hj, by rw [e _ (by omega) (by omega)]; exact z9, fun j hj => by rw [e _ (by omega) (by omega)]; exact z10 j hj⟩
theorem TRel.copy {f : MH} (r : TRel h T M) (C : TCopy h g T T') (e : ∀ c, T' ≤ c → c < T' + 43 → f.1 c = g.1 c) (m : ∀ i, i < 1146 → f.1 85 (M' + i) = h.1 85 (M + i)) : TRel f T' M' := by
  have e0 := e T' (by omega) (by omega)
  have e1 := e (T' + 1) (by omega) (by omega)
  have l1 : f.1 T' 1 = h.1 T 1 := by rw [e0]; exact C.1 1 (by omega) (by omega)
  refine r.mv (C.2.2.post e) (fun j hj => m j (by omega)) (fun j h1 h2 => m j (by omega)) ?_ ?_ ?_ ?_ (fun p hp => ?_)
  · rw [l1, m 4 (by omega)]; exact r.1
  · rw [e0, C.1 2 (by omega) (by omega), m 5 (by omega)]; exact r.2.1
  · rw [e0, C.1 3 (by omega) (by omega), m 6 (by omega)]; exact r.2.2.1
  · rw [l1]; exact r.2.2.2.1
  · rw [l1] at hp
    have b6 := r.2.2.2.1.2
    have z := m (10 + p) (by omega)
    simp only [← Nat.add_assoc] at z
    rw [e1, C.2.1 p (by omega), z]
    exact r.2.2.2.2.2.1 p hp
theorem TCopy.id : TCopy h h T T := ⟨fun _ _ _ => rfl, fun _ _ => rfl, TSame.cells (fun _ _ _ => rfl)⟩
theorem TRel.stay {f : MH} (r : TRel h T M) (e : ∀ c, T ≤ c → c < T + 43 → f.1 c = h.1 c) (m : ∀ i, i < 1146 → f.1 85 (M + i) = h.1 85 (M + i)) : TRel f T M := r.copy TCopy.id e m
theorem ToldAt.end (D : ToldAt h T) : T + 43 ≤ h.2.2.length := by
  have q := (D.2.2.2 1 (by omega)).2.2.2.2.2.2.2.1.get 1 rfl
  have := (List.getElem?_eq_some_iff.mp q).1
  omega
/-- more cells, the same references -/
theorem ToldAt.ext (D : ToldAt h T) (r : ∀ c, T ≤ c → c < T + 43 → g.2.1 c = h.2.1 c) (s : ∀ (i : Nat) (q : Nat × Nat), h.2.2[i]? = some q → g.2.2[i]? = some q) : ToldAt g T := by
  have sh : ∀ {a S}, ShAt h a S → ShAt g a S := fun z j q hq => s _ _ (z j q hq)
  refine ⟨sh D.1, by rw [r _ (by omega) (by omega)]; exact D.2.1, fun k hk => by rw [r _ (by omega) (by omega)]; exact D.2.2.1 k hk, fun k hk => ?_⟩
  obtain ⟨z1, z2, z3, z4, z5, z6, z7, z8⟩ := D.2.2.2 k hk
  exact ⟨by rw [r _ (by omega) (by omega)]; exact z1, ⟨sh z2.1, fun j hj => by rw [r _ (by omega) (by omega)]; exact z2.2 j hj⟩, by rw [r _ (by omega) (by omega)]; exact z3, ⟨sh z4.1, fun j hj => by rw [r _ (by omega) (by omega)]; exact z4.2 j hj⟩, by rw [r _ (by omega) (by omega)]; exact z5, ⟨sh z6.1, fun j hj => by rw [r _ (by omega) (by omega)]; exact z6.2 j hj⟩, by rw [r _ (by omega) (by omega)]; exact z7, ⟨sh z8.1, by rw [r _ (by omega) (by omega)]; exact z8.2⟩⟩
theorem MainAt.ext (D : MainAt h) (r : ∀ c, c < 98 → c ≠ 44 → g.2.1 c = h.2.1 c) (s : ∀ (i : Nat) (q : Nat × Nat), h.2.2[i]? = some q → g.2.2[i]? = some q) : MainAt g := by
  have sh : ∀ {a S}, ShAt h a S → ShAt g a S := fun z j q hq => s _ _ (z j q hq)
  obtain ⟨m1, m2, m3, m4, m5, m6, m7, m8, m9, m10, m11, m12, m13, m14, m15, m16, m17, m18, m19, m20, m21, m22, m23, m24, m25, m26, m27⟩ := D
  refine ⟨sh m1, ?_, ?_, ?_, ?_, ?_, ?_, ?_, ?_, m10.ext (fun c h1 h2 => r c (by omega) (by omega)) s, sh m11, ?_, ?_, ?_, ?_, ?_, ?_, ⟨sh m18.1, fun j hj => ?_⟩, ⟨sh m19.1, fun j hj => ?_⟩, ⟨sh m20.1, fun j hj => ?_⟩, ⟨sh m21.1, ?_⟩, sh m22, fun j hj => ?_, fun j hj => ?_, fun j hj => ?_, fun j hj => ?_, ?_⟩ <;> rw [r _ (by omega) (by omega)] <;> first | assumption | exact m18.2 j hj | exact m19.2 j hj | exact m20.2 j hj | exact m21.2 | exact m23 j hj | exact m24 j hj | exact m25 j hj | exact m26 j hj
theorem ModelAt.ext (D : ModelAt h) (r : ∀ c, c < 98 → c ≠ 44 → g.2.1 c = h.2.1 c) (s : ∀ (i : Nat) (q : Nat × Nat), h.2.2[i]? = some q → g.2.2[i]? = some q) : ModelAt g := by
  obtain ⟨m1, m2, m3, m4, m5, m6, m7, m8, m9⟩ := D
  refine ⟨fun j q hq => s _ _ (m1 j q hq), ?_, ?_, ?_, fun j hj => ?_, fun j hj => ?_, ?_, ?_, ?_⟩ <;> rw [r _ (by omega) (by omega)] <;> first | assumption | exact m5 j hj | exact m6 j hj
theorem RF_chk : RF.all (fun t => decide (t.1 < 98) && !(t.1 == 44)) = true := by decide
theorem Lay.ext (L : Lay h.2) (r : ∀ c, c < 98 → c ≠ 44 → g.2.1 c = h.2.1 c) (s : ∀ (i : Nat) (q : Nat × Nat), h.2.2[i]? = some q → g.2.2[i]? = some q) : Lay g.2 := by
  refine ⟨fun j q hq => s _ _ (L.1 j q hq), fun t ht => ?_⟩
  have z := List.all_eq_true.mp RF_chk t ht
  simp only [Bool.and_eq_true, decide_eq_true_eq, Bool.not_eq_true', beq_eq_false_iff_ne] at z
  rw [r _ z.1 z.2]
  exact L.2 t ht
/-- the invariant, but for what image k says -/
def INVk (g : MH) (k T : Nat) : Prop := (∃ m, m ≤ 3 ∧ g.2.2 = SH0 ++ (List.replicate m blkTold).flatten) ∧ MainAt g ∧ ModelAt g ∧ TRel g 1 0 ∧ (∀ i, i < 3 → i ≠ k → ImgRel g i) ∧ (g.2.1 44 k = some T ∧ 98 ≤ T ∧ ToldAt g T) ∧ (∀ i j T U, i < 3 → j < 3 → i ≠ j → g.2.1 44 i = some T → g.2.1 44 j = some U → T + 43 ≤ U ∨ U + 43 ≤ T) ∧ (∀ n t, n ≤ 20 → t ≤ 9 → g.1 83 (10 * n + t) = Int32.ofNat (planF n t)) ∧ LenOK g ∧ Lay g.2
/-- what the reference's image does -/
def MImg (h h' : MH) (k : Nat) : Prop := h'.2 = h.2 ∧ (∀ c, c ≠ 85 → c ≠ 86 → h'.1 c = h.1 c) ∧ h'.1 86 k = 1 ∧ (∀ j, j ≠ k → h'.1 86 j = h.1 86 j) ∧ (∀ i, i < 1146 → h'.1 85 (1146 * (k + 1) + i) = h.1 85 i) ∧ ∀ j, j < 1146 * (k + 1) ∨ 1146 * (k + 2) ≤ j → h'.1 85 j = h.1 85 j
theorem img_fin {f : MH} {k : Nat} (hk : k < 3) (I : INVk h k T) (K : Mv h g T (T + 43)) (C : TCopy h g 1 T) (Q : MImg g f k) : INW f := by
  obtain ⟨i1, i2, i3, i4, i5, ⟨r1, r2, r3⟩, i7, i8, i9, i10⟩ := I
  obtain ⟨q1, q2, q3, q4, q5, q6⟩ := Q
  have e : f.2 = h.2 := q1.trans K.1
  have lo : ∀ c, c < 98 → c ≠ 85 → c ≠ 86 → f.1 c = h.1 c := fun c h1 h2 h3 => (q2 c h2 h3).trans (K.2 c (by omega))
  have g85 : g.1 85 = h.1 85 := K.2 85 (by omega)
  have g86 : g.1 86 = h.1 86 := K.2 86 (by omega)
  refine ⟨⟨by rw [e]; exact i1, ?_, ?_, ?_, fun i hi => ?_, by rw [e]; exact i7, by rw [lo 83 (by omega) (by omega) (by omega)]; exact i8⟩, i9.kp e⟩
  · simp only [MainAt, ToldAt, LandAt, SeasonAt, LedgerAt, BargAt, ShAt, e] at i2 ⊢
    exact i2
  · simp only [ModelAt, ShAt, e] at i3 ⊢
    exact i3
  · exact i4.stay (fun c h1 h2 => lo c (by omega) (by omega) (by omega)) (fun i hi => by rw [q6 _ (by omega), g85])
  · by_cases w : i = k
    · subst w
      refine Or.inr ⟨T, by rw [e]; exact r1, r2, q3, r3.kp e, ?_⟩
      refine i4.copy C (fun c h1 h2 => q2 c (by omega) (by omega)) (fun j hj => ?_)
      rw [q5 j hj, g85, Nat.zero_add]
    · rcases i5 i hi w with ⟨a1, a2⟩ | ⟨U, a1, a2, a3, a4, a5⟩
      · exact Or.inl ⟨by rw [e]; exact a1, by rw [q4 i w, g86]; exact a2⟩
      · refine Or.inr ⟨U, by rw [e]; exact a1, a2, by rw [q4 i w, g86]; exact a3, a4.kp e, ?_⟩
        have dj := i7 i k U T hi hk w a1 r1
        refine a5.stay (fun c h1 h2 => (q2 c (by omega) (by omega)).trans (K.2 c (by omega))) (fun j hj => ?_)
        have ik : i + 1 ≤ k ∨ k + 1 ≤ i := by omega
        rw [q6 _ (by omega), g85]
theorem INW.imk {k : Nat} (hI : INW h) (hk : k < 3) (e : h.2.1 44 k = some T) : INVk h k T := by
  obtain ⟨⟨i1, i2, i3, i4, i5, i6, i7⟩, l⟩ := hI
  refine ⟨i1, i2, i3, i4, fun i hi _ => i5 i hi, ?_, i6, i7, l, INV.lay ⟨i1, i2, i3, i4, i5, i6, i7⟩⟩
  rcases i5 k hk with ⟨a, _⟩ | ⟨U, a1, a2, a3, a4, a5⟩
  · rw [a] at e; cases e
  · rw [a1] at e
    cases e
    exact ⟨a1, a2, a4⟩
theorem r_image (L : Lay h.2) (x : Int32) (k : Nat) (hx : x.toInt = (k : Int)) (hk : k < 3) : Wc rod (d + 2) 301 [.inr (.inr (.inl (some 84))), .inl x] h (fun r h' => r = some (.inl 1) ∧ MImg h h' k) := by
  have ex := n_eq hx
  refine n_Model_image ?_
  refine w_Model_image_0 (Tc.wc (s_isIn _ _ _ _)) (Is.k ?_)
  refine w_Model_image_6 (fun kc6 => ?_) (fun kc6 => absurd kc6 (by rw [if_pos (by show (0 : Int) ≤ _ ∧ _ ≤ (2 : Int); omega)]; decide))
  refine w_Model_image_11 L (by omega) ?_
  rw [ex]
  refine w_Model_image_18 rfl ?_
  refine Wb.uph 1146 (fun i L' f => ∃ (z : Int32), L' = [some (.inr (.inr (.inl (some 84)))), some (.inl x), some (.inl z)] ∧ z.toInt = (i : Int) ∧ f.2 = h.2 ∧ (∀ c, c ≠ 85 → c ≠ 86 → f.1 c = h.1 c) ∧ f.1 86 k = 1 ∧ (∀ j, j ≠ k → f.1 86 j = h.1 86 j) ∧ (∀ j, j < i → f.1 85 (1146 * (k + 1) + j) = h.1 85 j) ∧ ∀ j, j < 1146 * (k + 1) ∨ 1146 * (k + 1) + i ≤ j → f.1 85 j = h.1 85 j) ?_ (Nat.zero_le _) ⟨0, rfl, rfl, rfl, fun c _ h2 => sI_cell h2, sI_same, fun j hj => sI_nj hj, fun j hj => absurd hj (by omega), fun j _ => sI_nc (by omega)⟩
  rintro i _ f hi ⟨z, rfl, hz, f1, f2, f3, f4, f5, f6⟩ ih
  have Lf : Lay f.2 := f1.symm ▸ L
  have e1 := (n_add (n_mul (show (1146 : Int32).toInt = ((1146 : Nat) : Int) from rfl) (n_add hx (show (1 : Int32).toInt = ((1 : Nat) : Int) from rfl) (by omega)) (by omega)) hz (by omega))
  refine w_Model_image_20 (fun kc20 => ?_) (fun kc20 => ?_)
  · try simp only [ite01t, ite01v, Int32.reduceToInt, t_m1, t_m2, t_m1000, Decidable.not_not] at kc20
    refine w_Model_image_53 ?_
    have : i = 1146 := by omega
    subst this
    exact ⟨rfl, f1, f2, f3, f4, f5, fun j hj => f6 j (by omega)⟩
  · try simp only [ite01t, ite01v, Int32.reduceToInt, t_m1, t_m2, t_m1000, Decidable.not_not] at kc20
    refine w_Model_image_27 Lf (by first | assumption | omega | (refine ⟨?_, ?_⟩ <;> first | assumption | omega)) (by rw [e1]; omega) ?_
    refine w_Model_image_47 rfl ?_
    rw [n_eq e1, n_eq hz]
    refine ih (by omega) _ _ ⟨_, rfl, t_succ hz (by omega), f1, fun c h1 h2 => by rw [sI_cell h1]; exact f2 c h1 h2, by rw [sI_nc (by omega)]; exact f3, fun j hj => by rw [sI_nc (by omega)]; exact f4 j hj, fun j hj => ?_, fun j hj => by rw [sI_nj (by omega)]; exact f6 j (by omega)⟩
    by_cases q : j = i
    · rw [q, sI_same, f6 i (by omega)]
    · rw [sI_nj (by omega)]; exact f5 j (by omega)
  
theorem mk_told {n : Nat} (hl : h.2.2.length = n) : ToldAt (mkH h n [(18, 9), (1, 600), (0, 4), (4, 2), (5, 2), (6, 2), (7, 2), (11, 14), (0, 8), (0, 8), (0, 8), (0, 8), (0, 8), (0, 4), (0, 4), (0, 36), (16, 4), (0, 40), (0, 40), (0, 40), (12, 3), (0, 20), (0, 20), (10, 2), (0, 16), (11, 14), (0, 8), (0, 8), (0, 8), (0, 8), (0, 8), (0, 4), (0, 4), (0, 36), (16, 4), (0, 40), (0, 40), (0, 40), (12, 3), (0, 20), (0, 20), (10, 2), (0, 16)] [(6, 1, 41), (41, 1, 42), (5, 1, 38), (38, 2, 40), (38, 1, 39), (4, 1, 34), (34, 3, 37), (34, 2, 36), (34, 1, 35), (3, 1, 25), (25, 13, 33), (25, 12, 32), (25, 11, 31), (25, 10, 30), (25, 9, 29), (25, 8, 28), (25, 7, 27), (25, 6, 26), (6, 0, 23), (23, 1, 24), (5, 0, 20), (20, 2, 22), (20, 1, 21), (4, 0, 16), (16, 3, 19), (16, 2, 18), (16, 1, 17), (3, 0, 7), (7, 13, 15), (7, 12, 14), (7, 11, 13), (7, 10, 12), (7, 9, 11), (7, 8, 10), (7, 7, 9), (7, 6, 8), (0, 8, 6), (0, 7, 5), (0, 6, 4), (0, 5, 3), (0, 4, 2), (0, 0, 1)] [(41, 0, 2), (25, 0, 3), (23, 0, 2), (7, 0, 3), (0, 3, -1)]) n := by
  refine ⟨fun j q hq => mk_sh hl (c := j) ?_, mk_ref (c := 0) (v := 1) rfl (by decide), fun k hk => ?_, fun k hk => ?_⟩
  · have hj : j < 7 := (List.getElem?_eq_some_iff.mp hq).1
    rcases (show j = 0 ∨ j = 1 ∨ j = 2 ∨ j = 3 ∨ j = 4 ∨ j = 5 ∨ j = 6 by omega) with rfl | rfl | rfl | rfl | rfl | rfl | rfl <;> (cases hq; rfl)
  · rcases (show k = 0 ∨ k = 1 ∨ k = 2 ∨ k = 3 ∨ k = 4 by omega) with rfl | rfl | rfl | rfl | rfl
    · exact mk_ref (c := 0) (v := 2) rfl (by decide)
    · exact mk_ref (c := 0) (v := 3) rfl (by decide)
    · exact mk_ref (c := 0) (v := 4) rfl (by decide)
    · exact mk_ref (c := 0) (v := 5) rfl (by decide)
    · exact mk_ref (c := 0) (v := 6) rfl (by decide)
  · rcases (show k = 0 ∨ k = 1 by omega) with rfl | rfl
    · exact ⟨mk_ref (c := 3) (v := 7) rfl (by decide), ⟨fun j q hq => by
          have hj : j < 9 := (List.getElem?_eq_some_iff.mp hq).1
          rcases (show j = 0 ∨ j = 1 ∨ j = 2 ∨ j = 3 ∨ j = 4 ∨ j = 5 ∨ j = 6 ∨ j = 7 ∨ j = 8 by omega) with rfl | rfl | rfl | rfl | rfl | rfl | rfl | rfl | rfl <;> (cases hq; first | exact mk_sh hl (c := 7) rfl | exact mk_sh hl (c := 8) rfl | exact mk_sh hl (c := 9) rfl | exact mk_sh hl (c := 10) rfl | exact mk_sh hl (c := 11) rfl | exact mk_sh hl (c := 12) rfl | exact mk_sh hl (c := 13) rfl | exact mk_sh hl (c := 14) rfl | exact mk_sh hl (c := 15) rfl), fun j hj => by
          rcases (show j = 0 ∨ j = 1 ∨ j = 2 ∨ j = 3 ∨ j = 4 ∨ j = 5 ∨ j = 6 ∨ j = 7 by omega) with rfl | rfl | rfl | rfl | rfl | rfl | rfl | rfl
          · exact mk_ref (c := 7) (v := 8) rfl (by decide)
          · exact mk_ref (c := 7) (v := 9) rfl (by decide)
          · exact mk_ref (c := 7) (v := 10) rfl (by decide)
          · exact mk_ref (c := 7) (v := 11) rfl (by decide)
          · exact mk_ref (c := 7) (v := 12) rfl (by decide)
          · exact mk_ref (c := 7) (v := 13) rfl (by decide)
          · exact mk_ref (c := 7) (v := 14) rfl (by decide)
          · exact mk_ref (c := 7) (v := 15) rfl (by decide)⟩, mk_ref (c := 4) (v := 16) rfl (by decide), ⟨fun j q hq => by
          have hj : j < 4 := (List.getElem?_eq_some_iff.mp hq).1
          rcases (show j = 0 ∨ j = 1 ∨ j = 2 ∨ j = 3 by omega) with rfl | rfl | rfl | rfl <;> (cases hq; first | exact mk_sh hl (c := 16) rfl | exact mk_sh hl (c := 17) rfl | exact mk_sh hl (c := 18) rfl | exact mk_sh hl (c := 19) rfl), fun j hj => by
          rcases (show j = 0 ∨ j = 1 ∨ j = 2 by omega) with rfl | rfl | rfl
          · exact mk_ref (c := 16) (v := 17) rfl (by decide)
          · exact mk_ref (c := 16) (v := 18) rfl (by decide)
          · exact mk_ref (c := 16) (v := 19) rfl (by decide)⟩, mk_ref (c := 5) (v := 20) rfl (by decide), ⟨fun j q hq => by
          have hj : j < 3 := (List.getElem?_eq_some_iff.mp hq).1
          rcases (show j = 0 ∨ j = 1 ∨ j = 2 by omega) with rfl | rfl | rfl <;> (cases hq; first | exact mk_sh hl (c := 20) rfl | exact mk_sh hl (c := 21) rfl | exact mk_sh hl (c := 22) rfl), fun j hj => by
          rcases (show j = 0 ∨ j = 1 by omega) with rfl | rfl
          · exact mk_ref (c := 20) (v := 21) rfl (by decide)
          · exact mk_ref (c := 20) (v := 22) rfl (by decide)⟩, mk_ref (c := 6) (v := 23) rfl (by decide), ⟨fun j q hq => by
          have hj : j < 2 := (List.getElem?_eq_some_iff.mp hq).1
          rcases (show j = 0 ∨ j = 1 by omega) with rfl | rfl <;> (cases hq; first | exact mk_sh hl (c := 23) rfl | exact mk_sh hl (c := 24) rfl), mk_ref (c := 23) (v := 24) rfl (by decide)⟩⟩
    · exact ⟨mk_ref (c := 3) (v := 25) rfl (by decide), ⟨fun j q hq => by
          have hj : j < 9 := (List.getElem?_eq_some_iff.mp hq).1
          rcases (show j = 0 ∨ j = 1 ∨ j = 2 ∨ j = 3 ∨ j = 4 ∨ j = 5 ∨ j = 6 ∨ j = 7 ∨ j = 8 by omega) with rfl | rfl | rfl | rfl | rfl | rfl | rfl | rfl | rfl <;> (cases hq; first | exact mk_sh hl (c := 25) rfl | exact mk_sh hl (c := 26) rfl | exact mk_sh hl (c := 27) rfl | exact mk_sh hl (c := 28) rfl | exact mk_sh hl (c := 29) rfl | exact mk_sh hl (c := 30) rfl | exact mk_sh hl (c := 31) rfl | exact mk_sh hl (c := 32) rfl | exact mk_sh hl (c := 33) rfl), fun j hj => by
          rcases (show j = 0 ∨ j = 1 ∨ j = 2 ∨ j = 3 ∨ j = 4 ∨ j = 5 ∨ j = 6 ∨ j = 7 by omega) with rfl | rfl | rfl | rfl | rfl | rfl | rfl | rfl
          · exact mk_ref (c := 25) (v := 26) rfl (by decide)
          · exact mk_ref (c := 25) (v := 27) rfl (by decide)
          · exact mk_ref (c := 25) (v := 28) rfl (by decide)
          · exact mk_ref (c := 25) (v := 29) rfl (by decide)
          · exact mk_ref (c := 25) (v := 30) rfl (by decide)
          · exact mk_ref (c := 25) (v := 31) rfl (by decide)
          · exact mk_ref (c := 25) (v := 32) rfl (by decide)
          · exact mk_ref (c := 25) (v := 33) rfl (by decide)⟩, mk_ref (c := 4) (v := 34) rfl (by decide), ⟨fun j q hq => by
          have hj : j < 4 := (List.getElem?_eq_some_iff.mp hq).1
          rcases (show j = 0 ∨ j = 1 ∨ j = 2 ∨ j = 3 by omega) with rfl | rfl | rfl | rfl <;> (cases hq; first | exact mk_sh hl (c := 34) rfl | exact mk_sh hl (c := 35) rfl | exact mk_sh hl (c := 36) rfl | exact mk_sh hl (c := 37) rfl), fun j hj => by
          rcases (show j = 0 ∨ j = 1 ∨ j = 2 by omega) with rfl | rfl | rfl
          · exact mk_ref (c := 34) (v := 35) rfl (by decide)
          · exact mk_ref (c := 34) (v := 36) rfl (by decide)
          · exact mk_ref (c := 34) (v := 37) rfl (by decide)⟩, mk_ref (c := 5) (v := 38) rfl (by decide), ⟨fun j q hq => by
          have hj : j < 3 := (List.getElem?_eq_some_iff.mp hq).1
          rcases (show j = 0 ∨ j = 1 ∨ j = 2 by omega) with rfl | rfl | rfl <;> (cases hq; first | exact mk_sh hl (c := 38) rfl | exact mk_sh hl (c := 39) rfl | exact mk_sh hl (c := 40) rfl), fun j hj => by
          rcases (show j = 0 ∨ j = 1 by omega) with rfl | rfl
          · exact mk_ref (c := 38) (v := 39) rfl (by decide)
          · exact mk_ref (c := 38) (v := 40) rfl (by decide)⟩, mk_ref (c := 6) (v := 41) rfl (by decide), ⟨fun j q hq => by
          have hj : j < 2 := (List.getElem?_eq_some_iff.mp hq).1
          rcases (show j = 0 ∨ j = 1 by omega) with rfl | rfl <;> (cases hq; first | exact mk_sh hl (c := 41) rfl | exact mk_sh hl (c := 42) rfl), mk_ref (c := 41) (v := 42) rfl (by decide)⟩⟩
end M70
