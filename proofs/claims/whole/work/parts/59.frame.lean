/-! FIELDS THAT A CALL CAN'T TOUCH: by the instructions alone -/
section M59
variable {rod : Nat → Nat × (Nat → Int32)} {P : List (Nat × Nat)} {Y : List Nat}
def okI (P : List (Nat × Nat)) (Y : List Nat) (m : MI) : Bool := match m.1 with
  | .putfield _ => !(P.contains (m.2.2.2.2.1, m.2.2.1))
  | .new _ => false
  | .newarray _ => false
  | .anewarray _ => false
  | .invokestatic _ => (decide (1 ≤ m.2.2.2.1) && decide (m.2.2.2.1 ≤ 4)) || Y.contains m.2.2.1
  | .invokevirtual _ => Y.contains m.2.2.1
  | .invokespecial _ => m.2.2.2.1 == 5 || Y.contains m.2.2.1
  | _ => true
def Pr (P : List (Nat × Nat)) (h h' : MH) : Prop := h'.2.2 = h.2.2 ∧ ∀ a c x, (c, x) ∈ P → gO h (some a) (10 + c) = true → h'.1 a x = h.1 a x
theorem Pr.rfl {h : MH} : Pr P h h := ⟨Eq.refl _, fun _ _ _ _ _ => Eq.refl _⟩
theorem Pr.trans {h h1 h2 : MH} (k : Pr P h h1) (q : Pr P h1 h2) : Pr P h h2 := by
  refine ⟨q.1.trans k.1, fun a c x m g => (q.2 a c x m ?_).trans (k.2 a c x m g)⟩
  rw [← g]
  simp only [gO, k.1]
theorem gO_kind {h : MH} {a k k' : Nat} (g : gO h (some a) k = true) (g' : gO h (some a) k' = true) : k = k' := by
  simp only [gO] at g g'
  split at g
  · rename_i q hq
    rw [hq] at g'
    simp only [beq_iff_eq] at g g'
    omega
  · cases g
theorem gA_kind {h : MH} {a k k' : Nat} {i : Int32} (g : gA h (some a) k i = true) (g' : gO h (some a) k' = true) : k = k' := by
  simp only [gO, gA] at g g'
  split at g
  · rename_i q hq
    rw [hq] at g'
    simp only [beq_iff_eq, Bool.and_eq_true] at g g'
    omega
  · cases g
theorem Pr.si {h : MH} {o : Option Nat} {k i : Nat} {v : Int32} (g : gO h o k = true) (n : ∀ c, (c, i) ∈ P → k ≠ 10 + c) : Pr P h (sI h (o.getD 0) i v) := by
  refine ⟨Eq.refl _, fun a c x m g' => ?_⟩
  cases o with
  | none => cases g
  | some b =>
    refine sI_ne (fun q => ?_)
    obtain ⟨rfl, rfl⟩ := q
    exact n c m (gO_kind g g')
theorem Pr.sa {h : MH} {o : Option Nat} {k j : Nat} {i v : Int32} (g : gA h o k i = true) (n : k < 10) : Pr P h (sI h (o.getD 0) j v) := by
  refine ⟨Eq.refl _, fun a c x m g' => ?_⟩
  cases o with
  | none => cases g
  | some b =>
    refine sI_ne (fun q => ?_)
    obtain ⟨rfl, rfl⟩ := q
    have := gA_kind g g'
    omega
theorem Pr.sc {h : MH} {o : Option Nat} {k a sp dp n : Nat} (g : gO h o k = true) (hk : k < 2) : Pr P h (sC h a (o.getD 0) sp dp n) := by
  refine ⟨Eq.refl _, fun b c x m g' => ?_⟩
  cases o with
  | none => cases g
  | some q =>
    show (if b = q then _ else h.1 b x) = _
    rw [if_neg (fun z => ?_)]
    rw [z] at g'
    have := gO_kind g g'
    omega
theorem fr_stL_h {m : MI} {L : ML} {st : List MV} {h : MH} {r : MR} (e : stL m L st h = some r) : r.2.2.2 = h := by
  simp only [stL, ldI, ldJ, ldA, seI, seJ, seA, icI] at e
  repeat' split at e
  all_goals first | (cases e; rfl) | cases e
theorem fr_stC_h {m : MI} {L : ML} {st : List MV} {h : MH} {r : MR} (e : stC rod m L st h = some r) : r.2.2.2 = h := by
  unfold stC at e
  split at e <;> first | (cases e; rfl) | cases e
theorem fr_stA_h {m : MI} {L : ML} {st : List MV} {h : MH} {r : MR} (e : stA m L st h = some r) : r.2.2.2 = h := by
  simp only [stA, opI, dvI, unI] at e
  repeat' split at e
  all_goals first | (cases e; rfl) | cases e
theorem fr_stB_h {m : MI} {L : ML} {st : List MV} {h : MH} {r : MR} (e : stB m L st h = some r) : r.2.2.2 = h := by
  simp only [stB, opJ, dvJ] at e
  repeat' split at e
  all_goals first | (cases e; rfl) | cases e
theorem fr_stF_h {m : MI} {L : ML} {st : List MV} {h : MH} {r : MR} (e : stF m L st h = some r) (hr : r.1 = true) (ok : okI P Y m = true) : Pr P h r.2.2.2 := by
  unfold stF at e
  split at e
  · split at e
    · cases e; exact Pr.rfl
    · cases e; exact Pr.rfl
    · cases e
  · rename_i hm
    simp only [okI, hm, Bool.not_eq_true', List.contains_eq_mem, decide_eq_false_iff_not] at ok
    split at e
    · cases e
      simp only [Bool.and_eq_true] at hr
      exact Pr.si hr.1 (fun c mc e => ok (by rw [show m.2.2.2.2.1 = c from Nat.add_left_cancel e]; exact mc))
    · cases e
      exact ⟨rfl, fun _ _ _ _ _ => rfl⟩
    · cases e
  · cases e
theorem fr_stR_h {m : MI} {L : ML} {st : List MV} {h : MH} {r : MR} (e : stR rod m L st h = some r) (hr : r.1 = true) (hk : (match m.1 with | .bastore => decide (m.2.2.2.1 < 10) | _ => true) = true) : Pr P h r.2.2.2 := by
  unfold stR at e
  split at e <;> rename_i hm <;> simp only [hm] at hk <;> (try split at e) <;> first | (cases e; exact Pr.rfl) | (cases e; exact Pr.sa hr (by omega)) | (cases e; exact Pr.sa hr (of_decide_eq_true hk)) | (cases e; exact ⟨rfl, fun _ _ _ _ _ => rfl⟩) | cases e
theorem fr_stN_h {m : MI} {L : ML} {st : List MV} {h : MH} {r : MR} (e : stN m L st h = some r) (ok : okI P Y m = true) : Pr P h r.2.2.2 := by
  unfold stN at e
  split at e <;> rename_i hm <;> simp only [okI, hm] at ok <;> first | cases ok | cases e
theorem fr_stX_h {m : MI} {L : ML} {st : List MV} {h : MH} {r : MR} (e : stX m L st h = some r) (hr : r.1 = true) : Pr P h r.2.2.2 := by
  unfold stX at e
  split at e
  · split at e
    · cases e; exact Pr.rfl
    · cases e; exact Pr.rfl
    · cases e; exact Pr.rfl
    · cases e
      simp only [Bool.and_eq_true, decide_eq_true_eq] at hr
      obtain ⟨-, -, g, k2, -⟩ := hr
      exact Pr.sc g k2
    · cases e
  · split at e
    · cases e; exact Pr.rfl
    · cases e
  · cases e
def okK (m : MI) : Bool := match m.1 with
  | .bastore => decide (m.2.2.2.1 < 10)
  | _ => true
theorem fr_st1_h {m : MI} {L : ML} {st : List MV} {h : MH} {r : MR} (e : st1 rod m L st h = some r) (hr : r.1 = true) (ok : okI P Y m = true) (hk : okK m = true) : Pr P h r.2.2.2 := by
  unfold st1 at e
  cases h1 : stL m L st h with
  | some q => rw [h1] at e; cases e; rw [fr_stL_h h1]; exact Pr.rfl
  | none =>
    rw [h1] at e
    simp only [orE] at e
    cases h2 : stC rod m L st h with
    | some q => rw [h2] at e; cases e; rw [fr_stC_h h2]; exact Pr.rfl
    | none =>
      rw [h2] at e
      simp only [orE] at e
      cases h3 : stF m L st h with
      | some q => rw [h3] at e; cases e; exact fr_stF_h h3 hr ok
      | none =>
        rw [h3] at e
        simp only [orE] at e
        cases h4 : stA m L st h with
        | some q => rw [h4] at e; cases e; rw [fr_stA_h h4]; exact Pr.rfl
        | none =>
          rw [h4] at e
          simp only [orE] at e
          cases h5 : stR rod m L st h with
          | some q => rw [h5] at e; cases e; exact fr_stR_h h5 hr hk
          | none =>
            rw [h5] at e
            simp only [orE] at e
            cases h6 : stB m L st h with
            | some q => rw [h6] at e; cases e; rw [fr_stB_h h6]; exact Pr.rfl
            | none =>
              rw [h6] at e
              simp only [orE] at e
              cases h7 : stN m L st h with
              | some q => rw [h7] at e; cases e; exact fr_stN_h h7 ok
              | none =>
                rw [h7] at e
                exact fr_stX_h e hr
/-- the heap of a block's outcome, and whom it calls -/
def PrO (P : List (Nat × Nat)) (Y : List Nat) (h : MH) (o : MO) : Prop := match o with
  | .inl f => Pr P h f.2.2.2
  | .inr (.inl (_, f1, f2)) => Pr P h f1.2.2.2 ∧ Pr P h f2.2.2.2
  | .inr (.inr (.inl r)) => Pr P h r.2
  | .inr (.inr (.inr (y, _, f))) => Pr P h f.2.2.2 ∧ y ∈ Y
theorem PrO.trans {h h1 : MH} {o : MO} (k : Pr P h h1) (q : PrO P Y h1 o) : PrO P Y h o := by
  unfold PrO at q ⊢
  split at q
  · exact k.trans q
  · exact ⟨k.trans q.1, k.trans q.2⟩
  · exact k.trans q
  · exact ⟨k.trans q.1, q.2⟩
theorem fr_trm_h {m : MI} {pc : Nat} {L : ML} {st : List MV} {h : MH} {g : Bool} {o : MO} (e : trm m pc L st h g = some (true, o)) (ok : okI P Y m = true) : g = true ∧ PrO P Y h o := by
  unfold trm at e
  split at e <;> rename_i hm <;> simp only [okI, hm] at ok <;> (try split at e) <;> first
    | (cases e; exact ⟨rfl, Pr.rfl⟩)
    | (cases e; exact ⟨rfl, Pr.rfl, Pr.rfl⟩)
    | (simp only [Option.some.injEq, Prod.mk.injEq, Bool.and_eq_true, Bool.or_eq_true, beq_iff_eq, decide_eq_true_eq] at e ok; obtain ⟨e1, rfl⟩ := e; exact ⟨e1.1, Pr.rfl⟩)
    | (simp only [Option.some.injEq, Prod.mk.injEq, Bool.and_eq_true, Bool.or_eq_true, beq_iff_eq, decide_eq_true_eq, List.contains_eq_mem] at e ok; obtain ⟨e1, rfl⟩ := e; exact ⟨e1.1, Pr.rfl, ok⟩)
    | (simp only [Option.some.injEq, Prod.mk.injEq, Bool.and_eq_true, Bool.or_eq_true, beq_iff_eq, decide_eq_true_eq, List.contains_eq_mem] at e ok; obtain ⟨e1, rfl⟩ := e; exact ⟨e1.1, Pr.rfl, by rcases ok with q | q; (exfalso; omega); exact q⟩)
    | cases e
theorem fr_blk_h : ∀ (is : List MI) (pc : Nat) (L : ML) (st : List MV) (h : MH) (g : Bool) (o : MO), blk rod is pc L st h g = some (true, o) → is.all (fun m => okI P Y m && okK m) = true → g = true ∧ PrO P Y h o := by
  intro is
  induction is with
  | nil =>
    intro pc L st h g o e _
    simp only [blk] at e
    cases e
    exact ⟨rfl, Pr.rfl⟩
  | cons m is ih =>
    intro pc L st h g o e ok
    simp only [List.all_cons, Bool.and_eq_true] at ok
    unfold blk at e
    split at e
    · rename_i r hr
      obtain ⟨e1, q⟩ := ih _ _ _ _ _ _ e ok.2
      simp only [Bool.and_eq_true] at e1
      exact ⟨e1.1, PrO.trans (fr_st1_h hr e1.2 ok.1.1 ok.1.2) q⟩
    · split at e
      · exact fr_trm_h e ok.1.1
      · cases e
def okB (P : List (Nat × Nat)) (Y : List Nat) (B : MB) : Bool := B.all (fun b => b.2.all (fun m => okI P Y m && okK m))
theorem fr_getB_ok : ∀ (B : MB) (pc : Nat) (is : List MI), okB P Y B = true → getB B pc = some is → is.all (fun m => okI P Y m && okK m) = true := by
  intro B
  induction B with
  | nil => intro pc is _ e; cases e
  | cons q r ih =>
    intro pc is ok e
    simp only [okB, List.all_cons, Bool.and_eq_true] at ok
    simp only [getB] at e
    split at e
    · cases e
      exact ok.1
    · exact ih pc is ok.2 e
theorem fr_lp_h {call : Nat → List MV → MH → Option (Option MV × MH)} (hc : ∀ y as h r, y ∈ Y → call y as h = some r → Pr P h r.2) {B : MB} (ok : okB P Y B = true) : ∀ (n pc : Nat) (L : ML) (st : List MV) (h : MH) (r : Option MV × MH), lp rod call B n pc L st h = some r → Pr P h r.2 := by
  intro n
  induction n with
  | zero => intro pc L st h r e; cases e
  | succ n ih =>
    intro pc L st h r hl
    simp only [lp] at hl
    cases his : getB B pc with
    | none => rw [his] at hl; cases hl
    | some is =>
      rw [his] at hl
      simp only at hl
      have oki := fr_getB_ok B pc is ok his
      cases hb : blk rod is pc L st h true with
      | none => rw [hb] at hl; cases hl
      | some q =>
        rw [hb] at hl
        match q, hl, hb with
        | (true, .inl (pc1, L1, st1, h1)), hl, hb => exact Pr.trans (fr_blk_h _ _ _ _ _ _ _ hb oki).2 (ih _ _ _ _ _ hl)
        | (true, .inr (.inl (true, (pc1, L1, st1, h1), f2))), hl, hb => exact (fr_blk_h _ _ _ _ _ _ _ hb oki).2.1.trans (ih _ _ _ _ _ hl)
        | (true, .inr (.inl (false, f1, (pc1, L1, st1, h1)))), hl, hb => exact (fr_blk_h _ _ _ _ _ _ _ hb oki).2.2.trans (ih _ _ _ _ _ hl)
        | (true, .inr (.inr (.inl r1))), hl, hb =>
          simp only [Option.some.injEq] at hl
          subst hl
          exact (fr_blk_h _ _ _ _ _ _ _ hb oki).2
        | (true, .inr (.inr (.inr (y, as, pc1, L1, st1, h1)))), hl, hb =>
          simp only at hl
          have q := (fr_blk_h _ _ _ _ _ _ _ hb oki).2
          cases hcl : call y as h1 with
          | none => rw [hcl] at hl; cases hl
          | some v =>
            rw [hcl] at hl
            exact (q.1.trans (hc _ _ _ _ q.2 hcl)).trans (ih _ _ _ _ _ hl)
        | (false, out), hl, hb => cases hl
def okY (P : List (Nat × Nat)) (Y : List Nat) : Bool := Y.all (fun y => match mtOf MTX y with
  | none => true
  | some M => okB P Y M.1)
theorem fr_mcall_h {F : Nat} (ok : okY P Y = true) : ∀ (d y : Nat) (as : List MV) (h : MH) (r : Option MV × MH), y ∈ Y → mcall rod (mtOf MTX) F d y as h = some r → Pr P h r.2 := by
  intro d
  induction d with
  | zero => intro y as h r _ e; cases e
  | succ d ih =>
    intro y as h r hy e
    simp only [mcall] at e
    split at e
    · cases e
    · rename_i M hM
      split at e
      · have := List.all_eq_true.mp ok y hy
        rw [hM] at this
        exact fr_lp_h ih this _ _ _ _ _ _ e
      · cases e
theorem Wc.fr {d y : Nat} {as : List MV} {h : MH} {Q : Option MV → MH → Prop} (ok : okY P Y = true) (hy : y ∈ Y) (k : Wc rod d y as h Q) : Wc rod d y as h (fun r h' => Q r h' ∧ Pr P h h') := by
  obtain ⟨r, hr, ⟨F, k⟩, q⟩ := k
  exact ⟨r, hr, ⟨F, k⟩, q, fr_mcall_h ok d y as h (r, hr) hy k⟩
end M59
