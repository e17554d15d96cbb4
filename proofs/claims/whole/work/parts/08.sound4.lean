/-! straight instructions: arrays -/
theorem mdef0 (x : Int32) : mdef x 0 = x := rfl
theorem mdef1 (x : Int32) : mdef x 1 = vp_nar .byte x := rfl
theorem mdef2 (x : Int32) : mdef x 2 = vp_nar .boolean x := rfl
theorem tysA_at {cA : Nat → ClassId} {y : Nat} (h1 : 3 ≤ y) (h2 : y < 8) : (tysA cA)[y]? = some (cA y, .object (arrN y)) := by
  rcases (show y = 3 ∨ y = 4 ∨ y = 5 ∨ y = 6 ∨ y = 7 by omega) with rfl | rfl | rfl | rfl | rfl <;> rfl
theorem rE_at {base : Nat} {cA : Nat → ClassId} {h : MH} {a k : Nat} {q : Nat × Nat} (hq : q.1 = k) (hk : k < 3) : rE base cA h a q = .inl (cA k, q.2, .inl (fun i => mdef (h.1 a i) k)) := by
  subst hq
  exact rE_prim hk
theorem mdef_upd {h : MH} {a i k : Nat} {x : Int32} : (fun j => mdef ((sI h a i x).1 a j) k) = upd (fun j => mdef (h.1 a j) k) i (mdef x k) := by
  funext j
  by_cases hj : j = i
  · subst hj
    simp only [sI, upd, and_self, if_true]
  · simp only [sI, upd, hj, and_false, if_false]
theorem rW_sI {base : Nat} {cA : Nat → ClassId} {h : MH} {a i k : Nat} {x : Int32} {q : Nat × Nat} (hq : h.2.2[a]? = some q) (hk : q.1 = k) (h3 : k < 3) : (rW base cA h).set a (base + a, .inl (cA k, q.2, .inl (upd (fun j => mdef (h.1 a j) k) i (mdef x k)))) = rW base cA (sI h a i x) := by
  refine rW_ext rfl (fun b q' hb' _ => rE_sI_ne hb') (fun q' hq' => ?_)
  rw [hq] at hq'
  cases hq'
  rw [rE_at hk h3, mdef_upd]
section SNC
variable {p : Program} {l : Launch} {e : Env} {R : Room} {s : State} {m : MethodId} {args : Array Value} {below : List Frame} {meth : Method} {c : Code} {Q : State → Prop}
variable {dC : Nat → ClassId} {dI : Nat → Nat → Nat} {cA : Nat → ClassId} {base : Nat} {roa : Nat → Nat} {rod : Nat → Nat × (Nat → Int32)} {own : String} {ini : Bool} {cc : ByteArray} {nF sF n0 s0 nL pc : Nat} {L L' : ML} {st st' : List MV} {h h' : MH}
set_option maxHeartbeats 4000000 in
theorem sn_R (cx : mCX p R s m args meth c dC dI cA base roa rod own ini cc nF sF n0 s0) {mi : MI} (hck : ckI own ini cc pc mi = true) (hst : stR rod mi L st h = some (true, L', st', h')) (k : mSW p l e R s m args below meth c Q dC dI cA base roa n0 s0 nL (pc + mi.2.1) L' st' h') : mSW p l e R s m args below meth c Q dC dI cA base roa n0 s0 nL pc L st h := by
  obtain ⟨hx, hb, hown, hts, hK, hRO, hin, hbs, hfr, hlo, hnF, hsF⟩ := cx
  obtain ⟨i, len, x, y, z, w⟩ := mi
  simp only [ckI, Bool.and_eq_true, decide_eq_true_eq] at hck
  obtain ⟨hd, hc⟩ := hck
  intro H locs cells slots ls e1 e2 hP hS hl e4 e5 e6
  simp only [stR] at hst
  split at hst
  · split at hst
    · simp only [Option.some.injEq, Prod.mk.injEq] at hst
      obtain ⟨hg, rfl, rfl, rfl⟩ := hst
      obtain ⟨a, q, rfl, hq, hq1, hi⟩ := gA_at hg
      simp only [ckL, beq_iff_eq] at hc
      subst hc
      have he := rW_get (base := base) (cA := cA) hq
      rw [rE_at hq1 (by omega)] at he
      exact va_iald hx hb hK hP a 0 he rfl hi hd (k H locs cells slots ls e1 e2 hP hS hl e4 e5 e6)
    · simp only [Option.some.injEq, Prod.mk.injEq, Bool.and_eq_true, decide_eq_true_eq] at hst
      obtain ⟨⟨hj, hg⟩, rfl, rfl, rfl⟩ := hst
      simp only [ckL, beq_iff_eq] at hc
      subst hc
      exact va_ti hx hb (hRO.2.1 _ hj) hS (inB_in hg) rfl hd (k H locs cells slots ls e1 e2 hP hS hl e4 e5 e6)
    · cases hst
  · split at hst
    · simp only [Option.some.injEq, Prod.mk.injEq] at hst
      obtain ⟨hg, rfl, rfl, rfl⟩ := hst
      obtain ⟨a, q, rfl, hq, hq1, hi⟩ := gA_at hg
      simp only [ckL, Bool.and_eq_true, Bool.or_eq_true, beq_iff_eq] at hc
      obtain ⟨rfl, hc⟩ := hc
      have he := rW_get (base := base) (cA := cA) hq
      rw [rE_at hq1 (by omega)] at he
      rcases hc with rfl | rfl
      · exact va_bald hx hb hK hP a 1 he rfl hi hd (k H locs cells slots ls e1 e2 hP hS hl e4 e5 e6)
      · exact va_zald hx hb hK hP a 2 he rfl hi hd (k H locs cells slots ls e1 e2 hP hS hl e4 e5 e6)
    · rename_i iv j st1
      simp only [Option.some.injEq, Prod.mk.injEq, Bool.and_eq_true, isBy, decide_eq_true_eq] at hst
      obtain ⟨⟨⟨h1, h2⟩, hg, -⟩, rfl, rfl, rfl⟩ := hst
      simp only [ckL, Bool.and_eq_true, Bool.or_eq_true, beq_iff_eq] at hc
      obtain ⟨rfl, hc⟩ := hc
      have hT := (hRO.2.2.2.2 (j - 100) (by omega) (by omega)).2.2.2.2
      rw [show j - 100 + 100 = j by omega] at hT
      exact va_tb hx hb hT hS (inB_in hg) rfl hd (k H locs cells slots ls e1 e2 hP hS hl e4 e5 e6)
    · cases hst
  · split at hst
    · simp only [Option.some.injEq, Prod.mk.injEq] at hst
      obtain ⟨hg, rfl, rfl, rfl⟩ := hst
      obtain ⟨a, q, rfl, hq, hq1, hi⟩ := gA_at hg
      simp only [ckL, Bool.and_eq_true, beq_iff_eq, decide_eq_true_eq] at hc
      obtain ⟨rfl, h3, h8⟩ := hc
      have he := rW_get (base := base) (cA := cA) hq
      rw [rE_refs (by omega) (by omega), hq1] at he
      refine va_aldq hx hb hK hP a y he (tysA_at h3 h8) hi hd ?_
      rw [← rv_ro base roa]
      exact (k H locs cells slots ls e1 e2 hP hS hl e4 e5 e6)
    · cases hst
  · split at hst
    · simp only [Option.some.injEq, Prod.mk.injEq] at hst
      obtain ⟨hg, rfl, rfl, rfl⟩ := hst
      obtain ⟨a, q, rfl, hq, hq1, hi⟩ := gA_at hg
      simp only [ckL, beq_iff_eq] at hc
      subst hc
      have he := rW_get (base := base) (cA := cA) hq
      rw [rE_at hq1 (by omega)] at he
      refine va_iast hx hb hK hP rW_D hS a 0 he rfl hi hd (fun H1 locs1 hP1 hD1 hS1 => ?_)
      have hw := rW_sI (base := base) (cA := cA) (i := Int32.toNatClampNeg (by assumption)) (x := (by assumption)) hq hq1 (by omega)
      first
        | (rw [hw] at hP1; exact k H1 locs1 cells slots ls e1 e2 hP1 hS1 hl e4 e5 e6)
        | exact k H1 locs1 cells slots ls e1 e2 ((rW_sI (base := base) (cA := cA) hq hq1 (by omega)) ▸ hP1) hS1 hl e4 e5 e6
    · cases hst
  · split at hst
    · simp only [Option.some.injEq, Prod.mk.injEq] at hst
      obtain ⟨hg, rfl, rfl, rfl⟩ := hst
      obtain ⟨a, q, rfl, hq, hq1, hi⟩ := gA_at hg
      simp only [ckL, Bool.and_eq_true, Bool.or_eq_true, beq_iff_eq] at hc
      obtain ⟨rfl, hc⟩ := hc
      have he := rW_get (base := base) (cA := cA) hq
      rw [rE_at hq1 (by omega)] at he
      rcases hc with rfl | rfl
      · refine va_bast hx hb hK hP rW_D hS a 1 he rfl hi hd (fun H1 locs1 hP1 hD1 hS1 => ?_)
        exact k H1 locs1 cells slots ls e1 e2 ((rW_sI (base := base) (cA := cA) hq hq1 (by omega)) ▸ hP1) hS1 hl e4 e5 e6
      · refine va_zast hx hb hK hP rW_D hS a 2 he rfl hi hd (fun H1 locs1 hP1 hD1 hS1 => ?_)
        exact k H1 locs1 cells slots ls e1 e2 ((rW_sI (base := base) (cA := cA) hq hq1 (by omega)) ▸ hP1) hS1 hl e4 e5 e6
    · cases hst
  · split at hst
    · rename_i qv iv ov st1
      simp only [Option.some.injEq, Prod.mk.injEq, Bool.and_eq_true] at hst
      obtain ⟨⟨hg, hg2⟩, rfl, rfl, rfl⟩ := hst
      obtain ⟨a, q, rfl, hq, hq1, hi⟩ := gA_at hg
      obtain ⟨b, q2, rfl, hq2, hq21⟩ := gO_at hg2
      simp only [ckL, Bool.and_eq_true, beq_iff_eq, decide_eq_true_eq] at hc
      obtain ⟨rfl, h3, h8, hc⟩ := hc
      split at hc
      · rename_i r hr
        have hrn : r.1 = arrN y := by simpa using hc
        have he := rW_get (base := base) (cA := cA) hq
        rw [rE_refs (by omega) (by omega), hq1] at he
        have he2 := rW_get (base := base) (cA := cA) hq2
        rw [rE_obj hq21] at he2
        refine va_astq hx hb hK hP rW_D hS a y b z he (by rw [hrn]; exact tysA_at h3 h8) he2 hr hi hd (fun H1 locs1 hP1 hD1 hS1 => ?_)
        have hw : (rW base cA h).set a (base + a, .inl (cA y, q.2, .inr (.inr (.inr (.inr (va_up (fun i => ro base (h.2.1 a i)) iv.toNatClampNeg (some (base + b)))))))) = rW base cA (sR h a iv.toNatClampNeg (some b)) := by
          refine rW_ext rfl (fun b' q' hb' _ => rE_sR_ne hb') (fun q' hq' => ?_)
          rw [hq] at hq'
          cases hq'
          rw [rE_refs (by omega) (by omega), hq1]
          have ef : (fun i => ro base ((sR h a iv.toNatClampNeg (some b)).2.1 a i)) = va_up (fun i => ro base (h.2.1 a i)) iv.toNatClampNeg (some (base + b)) := by
            funext j
            by_cases hj : j = iv.toNatClampNeg
            · subst hj
              simp only [sR, va_up, and_self, if_true, ro]
            · simp only [sR, va_up, hj, and_false, if_false]
          rw [ef]
        rw [hw] at hP1
        exact k H1 locs1 cells slots ls e1 e2 hP1 hS1 hl e4 e5 e6
      · cases hc
    · cases hst
  · split at hst
    · simp only [Option.some.injEq, Prod.mk.injEq] at hst
      obtain ⟨hg, rfl, rfl, rfl⟩ := hst
      obtain ⟨a, q, rfl, hq, hq1⟩ := gO_at hg
      simp only [ckL, beq_iff_eq] at hc
      subst hc
      have he := rW_get (base := base) (cA := cA) hq
      rw [rE_at hq1 (by omega)] at he
      refine va_alen hx hb hK hP a 0 he (ty := .int) rfl (v := Int32.ofNat q.2) rfl hd ?_
      have hk := (k H locs cells slots ls e1 e2 hP hS hl e4 e5 e6)
      have e0 : shN h (some a) = q.2 := by simp [shN, hq]
      rw [e0] at hk
      exact hk
    · rename_i j st1
      simp only [Option.some.injEq, Prod.mk.injEq, Bool.or_eq_true, isBy, Bool.and_eq_true, decide_eq_true_eq] at hst
      obtain ⟨hg, rfl, rfl, rfl⟩ := hst
      simp only [ckL, beq_iff_eq] at hc
      subst hc
      rcases hg with hg | ⟨h1, h2⟩
      · exact va_tlen hx hb (hRO.2.1 j hg) hS rfl hd (k H locs cells slots ls e1 e2 hP hS hl e4 e5 e6)
      · have hT := (hRO.2.2.2.2 (j - 100) (by omega) (by omega)).2.2.2.2
        rw [show j - 100 + 100 = j by omega] at hT
        exact va_tlen hx hb hT hS rfl hd (k H locs cells slots ls e1 e2 hP hS hl e4 e5 e6)
    · cases hst
  · cases hst
end SNC
