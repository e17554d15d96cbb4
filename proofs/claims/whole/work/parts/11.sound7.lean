/-! CALLS -/
/-- a method: name, bytes, locals, answer, parameters, its words' places, its blocks -/
abbrev MX : Type := MethodName × (ByteArray × (Nat × (Option FieldType × (Nat × ((Nat × (Nat × (Nat × Nat))) × MB)))))
abbrev shOK (h : MH) : Prop := ∀ q ∈ h.2.2, q.1 < 8 ∨ (10 ≤ q.1 ∧ ∃ (C : String) (T : u_T), classes[q.1 - 10]? = some (C, T, q.2))
def mTb (U : State) : Prop := ∀ w ∈ mtbl, ∀ a : Array Value, w.before a U = true
theorem mTb_warm {s U : State} (hW : s.WarmedH U.vm) (h : mTb s) : mTb U := by
  intro w hw a
  have hk := (List.mem_filter.mp hw).2
  have h0 := h w hw
  simp only [kept, Bool.or_eq_true] at hk
  rcases hk with hk | hk
  · exact word_at hW (good_of_word hk) (h0 #[])
  · split at hk
    · exact va_Nw.use rfl (va_Nw.warmM hW (h0 #[]))
    · exact va_AO.use (va_AO.moved hW.alike (h0 #[]))
    · cases hk
theorem roI_moved {base : Nat} {roa : Nat → Nat} {rod : Nat → Nat × (Nat → Int32)} {u U : State} (hW : u.WarmedH U.vm) (hh : ∀ a : Nat, a < u.heap.size → ¬ base ≤ a → U.heap[a]? = u.heap[a]?) (h : roI base roa rod u) : roI base roa rod U :=
  ⟨fun j hj => ((h.1 j hj).kept hh).moved hW.alike, fun j hj => ((h.2.1 j hj).kept hh).moved hW.alike, (h.2.2.1.kept hh).moved hW.alike, (h.2.2.2.1.kept hh).moved hW.alike, fun j h1 h2 => by
    obtain ⟨g1, g2, g3, g4, g5⟩ := h.2.2.2.2 j h1 h2
    exact ⟨g1.warm hW, (g2.kept hh).moved hW.alike, (g3.kept hh).moved hW.alike, (g4.kept hh).moved hW.alike, (g5.kept hh).moved hW.alike⟩⟩
def mQ (dC : Nat → ClassId) (dI : Nat → Nat → Nat) (cA : Nat → ClassId) (base : Nat) (roa : Nat → Nat) (r : Option MV) (h' : MH) : Array Value → State → Outcome → State → Prop := fun _ st oc t =>
  oc = .returned (r.map (rv base roa)) ∧ va_P (dC, dI) classes (rW base cA h') t.heap ∧ va_F (fun q : Nat => base ≤ q) st t ∧ shOK h'
def mPc (dC : Nat → ClassId) (dI : Nat → Nat → Nat) (cA : Nat → ClassId) (base : Nat) (roa : Nat → Nat) (rod : Nat → Nat × (Nat → Int32)) (as : List MV) (h : MH) : Array Value → State → Prop :=
  va_Pc (as.map (rv base roa)) (fun U => U.heap.size = base + h.2.2.length ∧ va_P (dC, dI) classes (rW base cA h) U.heap ∧ va_K (dC, dI) classes (tysA cA) U ∧ roI base roa rod U ∧ mTb U)
theorem mPc_blind {dC : Nat → ClassId} {dI : Nat → Nat → Nat} {cA : Nat → ClassId} {base : Nat} {roa : Nat → Nat} {rod : Nat → Nat × (Nat → Int32)} {as : List MV} {h : MH} : FrameBlind (mPc dC dI cA base roa rod as h) := by
  intro a U g mk hp
  obtain ⟨h1, h2, h3, h4, h5, h6⟩ := hp
  exact ⟨h1, h2, h3, va_K.moved (u := U) (U := U.calling g mk a) (Vm.Alike.refl U.vm) h4, roI_moved (u := U) (U := U.calling g mk a) (State.WarmedH.refl U) (fun _ _ _ => rfl) h5, mTb_warm (s := U) (U := U.calling g mk a) (State.WarmedH.refl U) h6⟩
def mRm (d mc ms : Nat) : Room := { frames := d, cells := mc, slots := ms, locals := 64 * d }
/-- the contract of a run of a method -/
def mMet (l : Launch) (dC : Nat → ClassId) (dI : Nat → Nat → Nat) (cA : Nat → ClassId) (base : Nat) (roa : Nat → Nat) (rod : Nat → Nat × (Nat → Int32)) (X : MX) (d : Nat) (as : List MV) (h : MH) (r : Option MV) (h' : MH) : Prop :=
  ∀ mc ms, h.2.2.length + mc = h'.2.2.length → slo h.2.2 + ms = slo h'.2.2 → shOK h → Met l X.1 [Cond.code X.1 X.2.1 X.2.2.1 X.2.2.2.1] (mRm d mc ms) (mPc dC dI cA base roa rod as h) (mQ dC dI cA base roa r h') mc ms (fun q : Nat => base ≤ q)
/-- what a method needs of the tables -/
def ckX (X : MX) : Bool := ckW X.2.2.2.2.2.1.1 (.code X.1 X.2.1 X.2.2.1 X.2.2.2.1) && (ckW X.2.2.2.2.2.1.2.1 (.initialized X.1.cls) && (decide (X.1.cls ≠ "java/lang/invoke/MethodHandle") && (decide (X.1.cls ≠ "java/lang/invoke/VarHandle") && (decide ((parseMethodDescriptor X.1.desc).map (fun d => d.parameters.length) = some X.2.2.2.2.1) && (decide (X.2.2.1 ≤ 40) && plainFor X.1)))))
/-- what a call needs of the tables -/
def ckS (MTX : Nat → Option MX) (own : String) (mi : MI) : Bool := match mi.1 with
  | .invokestatic i => (match MTX mi.2.2.1 with
    | some X => mi.2.2.2.2.1 == X.2.2.2.2.1 && (ckW X.2.2.2.2.2.1.2.2.1 (.static X.1) && (if mi.2.2.2.1 = 7 then ckW mi.2.2.2.2.2 (.methodLinkNest own i X.1 "YearsForCoin") else ckW mi.2.2.2.2.2 (.methodLink own i X.1)))
    | none => false)
  | .invokevirtual i => (if mi.2.2.2.2.1 = 60 then (match MTX mi.2.2.1 with
    | some X => mi.2.2.2.1 == X.2.2.2.2.1 && (ckW X.2.2.2.2.2.1.2.2.1 (.instanceMethod X.1) && (ckW X.2.2.2.2.2.1.2.2.2 (.selects X.1.cls X.1 X.1) && (ckW mi.2.2.2.2.2 (.methodLink own i X.1) && X.1.cls == "java/lang/String")))
    | none => false) else match MTX mi.2.2.1, classes[mi.2.2.2.2.1]? with
    | some X, some q => mi.2.2.2.1 == X.2.2.2.2.1 && (ckW X.2.2.2.2.2.1.2.2.1 (.instanceMethod X.1) && (ckW X.2.2.2.2.2.1.2.2.2 (.selects X.1.cls X.1 X.1) && (ckW mi.2.2.2.2.2 (.methodLink own i X.1) && q.1 == X.1.cls)))
    | _, _ => false)
  | .invokespecial i => (match MTX mi.2.2.1 with
    | some X => mi.2.2.2.2.1 == X.2.2.2.2.1 && (ckW X.2.2.2.2.2.1.2.2.1 (.instanceMethod X.1) && (X.1.name == "<init>" && (decide (X.2.2.2.1 = none) && (if mi.2.2.2.1 = 6 then ckW mi.2.2.2.2.2 (.methodLinkNest own i X.1 "YearsForCoin") else ckW mi.2.2.2.2.2 (.methodLink own i X.1)))))
    | none => false)
  | _ => true
theorem popN_at : ∀ (n : Nat) (acc st as st' : List MV), popN n acc st = some (as, st') → ∃ bs : List MV, bs.length = n ∧ as = bs ++ acc ∧ st = bs.reverse ++ st' := by
  intro n
  induction n with
  | zero =>
    intro acc st as st' hp
    simp only [popN, Option.some.injEq, Prod.mk.injEq] at hp
    exact ⟨[], rfl, hp.1.symm, hp.2⟩
  | succ n ih =>
    intro acc st as st' hp
    cases st with
    | nil => cases hp
    | cons v st =>
      simp only [popN] at hp
      obtain ⟨bs, h1, h2, h3⟩ := ih _ _ _ _ hp
      exact ⟨bs ++ [v], by simp [h1], by simp [h2], by simp [h3]⟩
theorem gi_of {ws : List Cond} (h : ∀ w ∈ ws, w ∈ mtbl ∧ goodWord w = true) : GoodIn mtbl ws := fun w hw => ⟨(h w hw).1, good_of_word (h w hw).2⟩
theorem ckW_in {w : Nat} {d : Cond} (h : ckW w d = true) : d ∈ mtbl := by
  simp only [ckW, Bool.and_eq_true, decide_eq_true_eq] at h
  exact mt_in (tbK_in (List.mem_of_getElem? h.1)) h.2
section SNF
variable {p : Program} {l : Launch} {e : Env} {R : Room} {s : State} {m : MethodId} {args : Array Value} {below : List Frame} {meth : Method} {c : Code} {Q : State → Prop}
variable {dC : Nat → ClassId} {dI : Nat → Nat → Nat} {cA : Nat → ClassId} {base : Nat} {roa : Nat → Nat} {rod : Nat → Nat × (Nat → Int32)} {own : String} {ini : Bool} {cc : ByteArray} {nF sF n0 s0 nL pc : Nat} {L L' : ML} {st st' : List MV} {h h' : MH}
theorem W_call {H : Heap} {locs : List Loc} {cells slots mc ms : Nat} {ls : Array Slot} {st0 rest : List Value} {r : Option MV} {a : Array Value} (hr : va_Run p l e R s m args below meth c H locs cells slots mc ms (F0 m pc ls st0) rest (mQ dC dI cA base roa r h' a) (fun q : Nat => base ≤ q)) (hS : va_S (fun q : Nat => base ≤ q) s.heap H locs)
    (kk : ∀ (H1 : Heap) (locs1 : List Loc), va_P (dC, dI) classes (rW base cA h') H1 → va_S (fun q : Nat => base ≤ q) s.heap H1 locs1 → shOK h' → W p l e R s m args below meth c H1 locs1 (cells + mc) (slots + ms) Q (F0 m (pc + 3) ls ((r.map (rv base roa)).toList ++ rest))) : W p l e R s m args below meth c H locs cells slots Q (F0 m pc ls st0) := by
  intro T hT X
  obtain ⟨v, st₀, t, T', L, h0, X', hL, e1, e2, ⟨hv, hp, ⟨hz, hk⟩, hsh⟩, st⟩ := hr T hT X
  cases hv
  rw [h0] at hz hk
  obtain ⟨t2, a1, b1⟩ := kk T'.heap (locs ++ L) (by rw [e1]; exact hp) ⟨Nat.le_trans hS.1 (by rw [e1]; exact hz), fun q h1 h2 => by rw [e1, hk q (Nat.lt_of_lt_of_le h1 hS.1) h2]; exact hS.2.1 q h1 h2, fun q hq => by
      rcases List.mem_append.mp hq with h | h
      · exact hS.2.2 q h
      · exact hL q h⟩ hsh T' rfl X'
  exact ⟨t2, st t2 a1, b1⟩
/-- a call, whatever its kind: what comes back -/
def mCall (p : Program) (l : Launch) (e : Env) (R : Room) (s : State) (m : MethodId) (args : Array Value) (below : List Frame) (meth : Method) (c : Code) (Q : State → Prop) (dC : Nat → ClassId) (dI : Nat → Nat → Nat) (cA : Nat → ClassId) (base : Nat) (roa : Nat → Nat) (rod : Nat → Nat × (Nat → Int32)) (nF sF n0 s0 nL : Nat) (MTX : Nat → Option MX) (d y : Nat) (as : List MV) (f : MF) : Prop :=
  ∃ (X : MX) (r1 : Option MV) (h1 : MH), MTX y = some X ∧ mMet l dC dI cA base roa rod X d as f.2.2.2 r1 h1 ∧ f.2.2.2.2.2.length ≤ h1.2.2.length ∧ slo f.2.2.2.2.2 ≤ slo h1.2.2 ∧ h1.2.2.length ≤ nF ∧ slo h1.2.2 ≤ sF ∧ mSW p l e R s m args below meth c Q dC dI cA base roa n0 s0 nL f.1 f.2.1 (r1.toList ++ f.2.2.1) h1
set_option maxHeartbeats 4000000 in
theorem sn_call (cx : mCX p R s m args meth c dC dI cA base roa rod own ini cc nF sF n0 s0) (htb : mTb s) {mi : MI} {MTX : Nat → Option MX} {d y : Nat} {as : List MV} {f : MF} (hMT : ∀ y X, MTX y = some X → ckX X = true) (hRf : d + 1 ≤ R.frames) (hRl : 64 * (d + 1) ≤ R.locals) {ret : Option FieldType} (hck : ckT cc ret pc mi = true) (hcs : ckS MTX own mi = true) (ht : trm mi pc L st h true = some (true, .inr (.inr (.inr (y, as, f))))) (hc : mCall p l e R s m args below meth c Q dC dI cA base roa rod nF sF n0 s0 nL MTX d y as f) : mSW p l e R s m args below meth c Q dC dI cA base roa n0 s0 nL pc L st h := by
  obtain ⟨hx, hb, hown, hts, hK, hRO, hin, hbs, hfr, hlo, hnF, hsF⟩ := cx
  obtain ⟨X, r1, h1, hX, hMet, hm1, hm2, hb1, hb2, k⟩ := hc
  obtain ⟨i, len, x, yy, z, w⟩ := mi
  intro H locs cells slots ls e1 e2 hP hS hl e4 e5 e6
  have hkx := hMT y X hX
  simp only [ckX, Bool.and_eq_true, decide_eq_true_eq] at hkx
  obtain ⟨kcode, kinit, kmh, kvh, kpar, kmax, kpl⟩ := hkx
  simp only [ckT, Bool.and_eq_true, decide_eq_true_eq] at hck
  obtain ⟨hd, hlen⟩ := hck
  have hml : c.maxLocals = ls.size := by rw [e2, ← e1]; exact hl.1.symm
  have hsum : ∀ r : List MV, ((r.map (rv base roa)).map fun v => v.category).sum = catS r := by
    intro r
    induction r with
    | nil => rfl
    | cons v r ih =>
      simp only [List.map_cons, List.sum_cons, rv_cat, catS]
      rw [ih]
  refine W_sz hP hbs e4 (fun hsz => ?_)
  have hpre : ∀ U : State, U.heap = H → s.WarmedH U.vm → mPc dC dI cA base roa rod as h (as.map (rv base roa)).toArray U := by
    intro U hU hW
    exact ⟨rfl, by rw [hU]; exact hsz, by rw [hU]; exact hP, va_K.moved hW.alike hK, roI_moved hW (fun a h1 h2 => by rw [hU]; exact hS.2.1 a h1 h2) hRO, mTb_warm hW htb⟩
  have hR : (mRm d (h1.2.2.length - h.2.2.length) (slo h1.2.2 - slo h.2.2)).frames + 1 ≤ R.frames ∧ 8 + (X.2.2.1 + 11) + (mRm d (h1.2.2.length - h.2.2.length) (slo h1.2.2 - slo h.2.2)).locals ≤ R.locals := ⟨hRf, by show 8 + (X.2.2.1 + 11) + 64 * d ≤ R.locals; omega⟩
  have hgood : ∀ ws : List Cond, (∀ w ∈ ws, w ∈ mtbl ∧ goodWord w = true) → GoodIn mtbl (ws ++ [Cond.code X.1 X.2.1 X.2.2.1 X.2.2.2.1]) := by
    intro ws hws
    refine gi_of (fun w hw => ?_)
    rcases List.mem_append.mp hw with hw | hw
    · exact hws w hw
    · rw [List.mem_singleton.mp hw]
      exact ⟨ckW_in kcode, rfl⟩
  have hgo : ∀ (st1 : List MV) (st0 : List Value) (a : Array Value), f = (pc + 3, L, st1, h) → va_Run p l e R s m args below meth c H locs cells slots (h1.2.2.length - h.2.2.length) (slo h1.2.2 - slo h.2.2) (F0 m pc ls st0) (st1.map (rv base roa)) (mQ dC dI cA base roa r1 h1 a) (fun q : Nat => base ≤ q) → W p l e R s m args below meth c H locs cells slots Q (F0 m pc ls st0) := by
    intro st1 st0 a hf hrun
    subst hf
    simp only at hm1 hm2
    refine W_call hrun hS (fun H1 locs1 hP1 hS1 hsh => ?_)
    have hk := k H1 locs1 (cells + (h1.2.2.length - h.2.2.length)) (slots + (slo h1.2.2 - slo h.2.2)) ls e1 e2 hP1 hS1 hl (by omega) (by omega) hsh
    simp only [List.map_append] at hk
    cases r1 with
    | none => exact hk
    | some v => exact hk
  unfold trm at ht
  split at ht
  all_goals try (first | (cases ht; done) | (split at ht <;> (cases ht; done)) | (split at ht <;> (simp at ht; done)))
  all_goals simp only at *
  · rename_i idx hi
    subst hi
    simp only [ckS] at hcs
    simp only [beq_iff_eq] at hlen
    subst hlen
    split at ht
    · rename_i as1 st1 hpop
      simp only [Option.some.injEq, Prod.mk.injEq, Bool.true_and, Sum.inr.injEq, Bool.and_eq_true, decide_eq_true_eq] at ht
      obtain ⟨⟨hst4, -⟩, rfl, rfl, hf⟩ := ht
      rw [hX] at hcs
      simp only [Bool.and_eq_true, beq_iff_eq] at hcs
      obtain ⟨hpar, kst, klk⟩ := hcs
      subst hf
      simp only at hm1 hm2
      obtain ⟨bs, g1, g2, g3⟩ := popN_at _ _ _ _ _ hpop
      rw [List.append_nil] at g2
      subst g2
      have hM := hMet (h1.2.2.length - h.2.2.length) (slo h1.2.2 - slo h.2.2) (by show h.2.2.length + (h1.2.2.length - h.2.2.length) = h1.2.2.length; omega) (by show slo h.2.2 + (slo h1.2.2 - slo h.2.2) = slo h1.2.2; omega) e6
      have hn : (as1.map (rv base roa)).length = X.2.2.2.2.1 := by rw [List.length_map, g1, hpar]
      have hstk : (st.map (rv base roa)) = (as1.map (rv base roa)).reverse ++ st1.map (rv base roa) := by rw [g3, List.map_append, List.map_reverse]
      have hroom : 2 * (F0 m pc ls (st.map (rv base roa))).monitorRoom + ((st1.map (rv base roa)).map fun v => v.category).sum ≤ 8 := lv_room (by have := hsum st1; omega)
      have hfit : cells + (h1.2.2.length - h.2.2.length) ≤ R.cells ∧ slots + (slo h1.2.2 - slo h.2.2) ≤ R.slots := ⟨by omega, by omega⟩
      split at klk
      · exact hgo st1 _ _ rfl (va_runSN (Ts := mtbl) (own := own) (host := "YearsForCoin") (index := idx) ⟨hx, hb, hml, hown, hts⟩ hM ⟨va_cnB X.2.2.2.2.1 hts (hgood [] (fun _ h => absurd h List.not_mem_nil)) rfl rfl rfl (va_Nw.of rfl (ckW_at hts klk)) (ckW_at hts kinit) ⟨kmh, kvh, kpar⟩ hR, ckW_at hts kst, trivial⟩ ⟨mPc_blind, hpre⟩ rfl hn rfl hstk hroom hd hfit)
      · exact hgo st1 _ _ rfl (va_runS (Ts := mtbl) (own := own) (index := idx) ⟨hx, hb, hml, hown, hts⟩ hM (va_cwS X.2.2.2.2.1 hts (hgood [.methodLink own idx X.1, .static X.1, .initialized X.1.cls] (by
          intro w hw
          simp only [List.mem_cons, List.not_mem_nil, or_false] at hw
          rcases hw with rfl | rfl | rfl
          · exact ⟨ckW_in klk, rfl⟩
          · exact ⟨ckW_in kst, rfl⟩
          · exact ⟨ckW_in kinit, rfl⟩)) rfl rfl rfl ⟨kmh, kvh, kpar⟩ hR) ⟨mPc_blind, hpre⟩ rfl hn rfl hstk hroom hd hfit)
    · cases ht
  · rename_i idx hi
    subst hi
    simp only [ckS] at hcs
    simp only [beq_iff_eq] at hlen
    subst hlen
    split at ht
    · rename_i as1 o st1 hpop
      simp only [Option.some.injEq, Prod.mk.injEq, Bool.true_and, Sum.inr.injEq, Bool.and_eq_true, decide_eq_true_eq] at ht
      obtain ⟨⟨hst4, hg⟩, rfl, rfl, hf⟩ := ht
      have hz60 : ¬ z = 60 := by
        intro hz
        obtain ⟨a, q2, -, hq2, hq21⟩ := gO_at hg
        rcases e6 q2 (List.mem_of_getElem? hq2) with h8 | ⟨-, C', T', h10⟩
        · omega
        · rw [hq21, hz] at h10
          simp [classes] at h10
      rw [if_neg hz60] at hcs
      split at hcs
      · rename_i X' q hX' hq'
        rw [hX] at hX'
        cases hX'
        simp only [Bool.and_eq_true, beq_iff_eq] at hcs
        obtain ⟨hpar, kin, ksel, klk, hqc⟩ := hcs
        subst hf
        simp only at hm1 hm2
        obtain ⟨bs, g1, g2, g3⟩ := popN_at _ _ _ _ _ hpop
        rw [List.append_nil] at g2
        subst g2
        obtain ⟨a, q2, rfl, hq2, hq21⟩ := gO_at hg
        have hM := hMet (h1.2.2.length - h.2.2.length) (slo h1.2.2 - slo h.2.2) (by show h.2.2.length + (h1.2.2.length - h.2.2.length) = h1.2.2.length; omega) (by show slo h.2.2 + (slo h1.2.2 - slo h.2.2) = slo h1.2.2; omega) e6
        have hn : (as1.map (rv base roa)).length = X.2.2.2.2.1 := by rw [List.length_map, g1, hpar]
        have hstk : (st.map (rv base roa)) = (as1.map (rv base roa)).reverse ++ .ref (base + a) :: st1.map (rv base roa) := by rw [g3, List.map_append, List.map_reverse]; rfl
        have hroom : 2 * (F0 m pc ls (st.map (rv base roa))).monitorRoom + ((st1.map (rv base roa)).map fun v => v.category).sum ≤ 8 := lv_room (by have := hsum st1; omega)
        have hfit : cells + (h1.2.2.length - h.2.2.length) ≤ R.cells ∧ slots + (slo h1.2.2 - slo h.2.2) ≤ R.slots := ⟨by omega, by omega⟩
        have he := rW_get (base := base) (cA := cA) hq2
        rw [rE_obj hq21] at he
        have hrecv := va_recv hK hP hq' he
        rw [hqc] at hrecv
        exact hgo st1 _ _ rfl (va_runV (Ts := mtbl) (own := own) (C := X.1.cls) (index := idx) ⟨hx, hb, hml, hown, hts⟩ hM (cwV X.2.2.2.2.1 hts (hgood [.methodLink own idx X.1, .instanceMethod X.1, .selects X.1.cls X.1 X.1, .initialized X.1.cls] (by
          intro w hw
          simp only [List.mem_cons, List.not_mem_nil, or_false] at hw
          rcases hw with rfl | rfl | rfl | rfl
          · exact ⟨ckW_in klk, rfl⟩
          · exact ⟨ckW_in kin, rfl⟩
          · exact ⟨ckW_in ksel, rfl⟩
          · exact ⟨ckW_in kinit, rfl⟩)) rfl rfl rfl ⟨rfl, kmh, kvh, kpar⟩ hR) ⟨mPc_blind, hrecv, hpre⟩ rfl hn rfl hstk hroom hd hfit)
      · cases hcs
    · rename_i as1 j st1 hpop
      simp only [Option.some.injEq, Prod.mk.injEq, Bool.true_and, Sum.inr.injEq, Bool.and_eq_true, decide_eq_true_eq, isSt, beq_iff_eq] at ht
      obtain ⟨⟨hst4, ⟨h10, h32⟩, hz⟩, rfl, rfl, hf⟩ := ht
      rw [if_pos hz, hX] at hcs
      simp only [Bool.and_eq_true, beq_iff_eq] at hcs
      obtain ⟨hpar, kin, ksel, klk, hqc⟩ := hcs
      subst hf
      simp only at hm1 hm2
      obtain ⟨bs, g1, g2, g3⟩ := popN_at _ _ _ _ _ hpop
      rw [List.append_nil] at g2
      subst g2
      have hM := hMet (h1.2.2.length - h.2.2.length) (slo h1.2.2 - slo h.2.2) (by show h.2.2.length + (h1.2.2.length - h.2.2.length) = h1.2.2.length; omega) (by show slo h.2.2 + (slo h1.2.2 - slo h.2.2) = slo h1.2.2; omega) e6
      have hn : (as1.map (rv base roa)).length = X.2.2.2.2.1 := by rw [List.length_map, g1, hpar]
      have hstk : (st.map (rv base roa)) = (as1.map (rv base roa)).reverse ++ .ref (roa j) :: st1.map (rv base roa) := by rw [g3, List.map_append, List.map_reverse]; rfl
      have hroom : 2 * (F0 m pc ls (st.map (rv base roa))).monitorRoom + ((st1.map (rv base roa)).map fun v => v.category).sum ≤ 8 := lv_room (by have := hsum st1; omega)
      have hfit : cells + (h1.2.2.length - h.2.2.length) ≤ R.cells ∧ slots + (slo h1.2.2 - slo h.2.2) ≤ R.slots := ⟨by omega, by omega⟩
      have hrecv : ∃ cell : Cell, H[roa j]? = some cell ∧ cell.vm.isStatics = false ∧ s.vm.findClass X.1.cls = some cell.cls := by
        obtain ⟨cell, q1, q2, q3, -⟩ := ((hRO.2.2.2.2 j h10 h32).2.1).kept hS.2.1
        exact ⟨cell, q1, q2, by rw [hqc]; exact q3⟩
      exact hgo st1 _ _ rfl (va_runV (Ts := mtbl) (own := own) (C := X.1.cls) (index := idx) ⟨hx, hb, hml, hown, hts⟩ hM (cwV X.2.2.2.2.1 hts (hgood [.methodLink own idx X.1, .instanceMethod X.1, .selects X.1.cls X.1 X.1, .initialized X.1.cls] (by
          intro w hw
          simp only [List.mem_cons, List.not_mem_nil, or_false] at hw
          rcases hw with rfl | rfl | rfl | rfl
          · exact ⟨ckW_in klk, rfl⟩
          · exact ⟨ckW_in kin, rfl⟩
          · exact ⟨ckW_in ksel, rfl⟩
          · exact ⟨ckW_in kinit, rfl⟩)) rfl rfl rfl ⟨rfl, kmh, kvh, kpar⟩ hR) ⟨mPc_blind, hrecv, hpre⟩ rfl hn rfl hstk hroom hd hfit)
    · cases ht
  · rename_i idx hi
    subst hi
    simp only [ckS] at hcs
    simp only [beq_iff_eq] at hlen
    subst hlen
    split at ht
    · rename_i as1 o st1 hpop
      simp only [Option.some.injEq, Prod.mk.injEq, Bool.true_and, Sum.inr.injEq, Bool.and_eq_true, decide_eq_true_eq] at ht
      obtain ⟨⟨hst4, ho, -⟩, rfl, rfl, hf⟩ := ht
      rw [hX] at hcs
      simp only [Bool.and_eq_true, beq_iff_eq, decide_eq_true_eq] at hcs
      obtain ⟨hpar, kin, hinit, hret, klk⟩ := hcs
      subst hf
      simp only at hm1 hm2
      obtain ⟨bs, g1, g2, g3⟩ := popN_at _ _ _ _ _ hpop
      rw [List.append_nil] at g2
      subst g2
      cases o with
      | none => cases ho
      | some a =>
        have hM := hMet (h1.2.2.length - h.2.2.length) (slo h1.2.2 - slo h.2.2) (by show h.2.2.length + (h1.2.2.length - h.2.2.length) = h1.2.2.length; omega) (by show slo h.2.2 + (slo h1.2.2 - slo h.2.2) = slo h1.2.2; omega) e6
        rw [hret] at hM hgood kcode
        have hn : (as1.map (rv base roa)).length = X.2.2.2.2.1 := by rw [List.length_map, g1, hpar]
        have hstk : (st.map (rv base roa)) = (as1.map (rv base roa)).reverse ++ .ref (base + a) :: st1.map (rv base roa) := by rw [g3, List.map_append, List.map_reverse]; rfl
        have hroom : 2 * (F0 m pc ls (st.map (rv base roa))).monitorRoom + ((st1.map (rv base roa)).map fun v => v.category).sum ≤ 8 := lv_room (by have := hsum st1; omega)
        have hfit : cells + (h1.2.2.length - h.2.2.length) ≤ R.cells ∧ slots + (slo h1.2.2 - slo h.2.2) ≤ R.slots := ⟨by omega, by omega⟩
        split at klk
        · exact hgo st1 _ _ rfl (va_runIN (Ts := mtbl) (own := own) (host := "YearsForCoin") (index := idx) ⟨hx, hb, hml, hown, hts⟩ hM ⟨va_cnB X.2.2.2.2.1 hts (hgood [] (fun _ h => absurd h List.not_mem_nil)) rfl rfl rfl (va_Nw.of rfl (ckW_at hts klk)) (ckW_at hts kinit) ⟨kmh, kvh, kpar⟩ hR, hinit, ckW_at hts kin⟩ ⟨mPc_blind, hpre⟩ rfl hn rfl hstk hroom hd hfit)
        · exact hgo st1 _ _ rfl (va_runI (Ts := mtbl) (own := own) (index := idx) ⟨hx, hb, hml, hown, hts⟩ hM (cwI X.2.2.2.2.1 hts (hgood [] (fun _ h => absurd h List.not_mem_nil)) rfl rfl rfl (ckW_at hts kinit) (ckW_at hts klk) (ckW_at hts kin) hinit ⟨kmh, kvh, kpar⟩ hR) ⟨mPc_blind, hpre⟩ rfl hn rfl hstk hroom hd hfit)
    · cases ht
end SNF
