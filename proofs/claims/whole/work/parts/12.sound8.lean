/-! BLOCKS, FRAMES, CALLS BY DEPTH: THE SMALL MACHINE IS SOUND -/
def outH (out : MO) : MH := match out with
  | .inl f => f.2.2.2
  | .inr (.inl q) => q.2.1.2.2.2
  | .inr (.inr (.inl r)) => r.2
  | .inr (.inr (.inr q)) => q.2.2.2.2.2
theorem trm_h {mi : MI} {pc : Nat} {L : ML} {st : List MV} {h : MH} {g g' : Bool} {out : MO} (ht : trm mi pc L st h g = some (g', out)) : outH out = h := by
  unfold trm at ht
  repeat' (split at ht)
  all_goals first
    | (cases ht; rfl)
    | cases ht
theorem trm_g {mi : MI} {pc : Nat} {L : ML} {st : List MV} {h : MH} {g : Bool} {out : MO} (ht : trm mi pc L st h g = some (true, out)) : g = true := by
  unfold trm at ht
  repeat' (split at ht)
  all_goals first
    | (cases ht; rfl)
    | (simp only [Option.some.injEq, Prod.mk.injEq, Bool.and_eq_true] at ht; exact ht.1.1)
    | cases ht
theorem blk_g {rod : Nat → Nat × (Nat → Int32)} : ∀ (is : List MI) (pc : Nat) (L : ML) (st : List MV) (h : MH) (g : Bool) (out : MO), blk rod is pc L st h g = some (true, out) → g = true := by
  intro is
  induction is with
  | nil =>
    intro pc L st h g out hb
    simp only [blk, Option.some.injEq, Prod.mk.injEq] at hb
    exact hb.1
  | cons m r ih =>
    intro pc L st h g out hb
    simp only [blk] at hb
    split at hb
    · have := ih _ _ _ _ _ _ hb
      simp only [Bool.and_eq_true] at this
      exact this.1
    · split at hb
      · exact trm_g hb
      · cases hb
theorem blk_mono {rod : Nat → Nat × (Nat → Int32)} : ∀ (is : List MI) (pc : Nat) (L : ML) (st : List MV) (h : MH) (g g' : Bool) (out : MO), blk rod is pc L st h g = some (g', out) → h.2.2.length ≤ (outH out).2.2.length ∧ slo h.2.2 ≤ slo (outH out).2.2 := by
  intro is
  induction is with
  | nil =>
    intro pc L st h g g' out hb
    simp only [blk, Option.some.injEq, Prod.mk.injEq] at hb
    rw [← hb.2]
    exact ⟨Nat.le_refl _, Nat.le_refl _⟩
  | cons m r ih =>
    intro pc L st h g g' out hb
    simp only [blk] at hb
    split at hb
    · rename_i q hq
      obtain ⟨q1, q2, q3, q4⟩ := q
      have h1 := ih _ _ _ _ _ _ _ hb
      have h2 := st1_mono hq
      exact ⟨Nat.le_trans h2.1 h1.1, Nat.le_trans h2.2 h1.2⟩
    · split at hb
      · rw [trm_h hb]
        exact ⟨Nat.le_refl _, Nat.le_refl _⟩
      · cases hb
theorem trm_br {mi : MI} {pc : Nat} {L : ML} {st : List MV} {h : MH} {g g' b : Bool} {f1 f2 : MF} (ht : trm mi pc L st h g = some (g', .inr (.inl (b, f1, f2)))) : f1.2.2.2 = f2.2.2.2 := by
  unfold trm at ht
  repeat' (split at ht)
  all_goals first
    | (cases ht; rfl)
    | cases ht
theorem blk_br {rod : Nat → Nat × (Nat → Int32)} {b : Bool} {f1 f2 : MF} : ∀ (is : List MI) (pc : Nat) (L : ML) (st : List MV) (h : MH) (g g' : Bool), blk rod is pc L st h g = some (g', .inr (.inl (b, f1, f2))) → f1.2.2.2 = f2.2.2.2 := by
  intro is
  induction is with
  | nil =>
    intro pc L st h g g' hb
    cases hb
  | cons m r ih =>
    intro pc L st h g g' hb
    simp only [blk] at hb
    split at hb
    · exact ih _ _ _ _ _ _ hb
    · split at hb
      · exact trm_br hb
      · cases hb
def ckB (MTX : Nat → Option MX) (own : String) (ini : Bool) (cc : ByteArray) (ret : Option FieldType) : Nat → List MI → Bool
  | _, [] => true
  | pc, m :: r => (if isT m = true then ckT cc ret pc m && ckS MTX own m else ckI own ini cc pc m) && ckB MTX own ini cc ret (pc + m.2.1) r
/-- a method and all its blocks -/
def ckM (MTX : Nat → Option MX) (X : MX) : Bool := ckX X && X.2.2.2.2.2.2.all (fun b => ckB MTX X.1.cls (X.1.name == "<init>") X.2.1 X.2.2.2.1 b.1 b.2)
theorem getB_mem : ∀ (B : MB) (pc : Nat) (is : List MI), getB B pc = some is → (pc, is) ∈ B := by
  intro B
  induction B with
  | nil => intro pc is h; cases h
  | cons q r ih =>
    intro pc is h
    simp only [getB] at h
    split at h
    · rename_i he
      cases h
      rw [← he]
      exact List.mem_cons_self
    · exact List.mem_cons_of_mem _ (ih _ _ h)
def mtOf (MTX : Nat → Option MX) (y : Nat) : Option MM := match MTX y with
  | none => none
  | some X => some (X.2.2.2.2.2.2, X.2.2.1)
theorem lp_mono {rod : Nat → Nat × (Nat → Int32)} {call : Nat → List MV → MH → Option (Option MV × MH)} {B : MB} (hc : ∀ y as h r h', call y as h = some (r, h') → h.2.2.length ≤ h'.2.2.length ∧ slo h.2.2 ≤ slo h'.2.2) : ∀ (n pc : Nat) (L : ML) (st : List MV) (h : MH) (r : Option MV) (h' : MH), lp rod call B n pc L st h = some (r, h') → h.2.2.length ≤ h'.2.2.length ∧ slo h.2.2 ≤ slo h'.2.2 := by
  intro n
  induction n with
  | zero => intro pc L st h r h' hl; cases hl
  | succ n ih =>
    intro pc L st h r h' hl
    simp only [lp] at hl
    split at hl
    · cases hl
    · split at hl
      · rename_i hb
        have h1 := blk_mono _ _ _ _ _ _ _ _ hb
        have h2 := ih _ _ _ _ _ _ hl
        exact ⟨Nat.le_trans h1.1 h2.1, Nat.le_trans h1.2 h2.2⟩
      · rename_i hb
        have h1 := blk_mono _ _ _ _ _ _ _ _ hb
        have h2 := ih _ _ _ _ _ _ hl
        exact ⟨Nat.le_trans h1.1 h2.1, Nat.le_trans h1.2 h2.2⟩
      · rename_i f1 pc2 L2 st2 h2 hb
        have h1 := blk_mono _ _ _ _ _ _ _ _ hb
        have h3 := ih _ _ _ _ _ _ hl
        have h4 := blk_br _ _ _ _ _ _ _ hb
        simp only at h4
        rw [← h4] at h3
        exact ⟨Nat.le_trans h1.1 h3.1, Nat.le_trans h1.2 h3.2⟩
      · rename_i hb
        have h1 := blk_mono _ _ _ _ _ _ _ _ hb
        cases hl
        exact h1
      · rename_i hb
        have h1 := blk_mono _ _ _ _ _ _ _ _ hb
        split at hl
        · cases hl
        · rename_i hcl
          have h2 := ih _ _ _ _ _ _ hl
          have h3 := hc _ _ _ _ _ hcl
          exact ⟨Nat.le_trans h1.1 (Nat.le_trans h3.1 h2.1), Nat.le_trans h1.2 (Nat.le_trans h3.2 h2.2)⟩
      · cases hl
theorem mcall_mono {rod : Nat → Nat × (Nat → Int32)} {MT : Nat → Option MM} {F : Nat} : ∀ (d y : Nat) (as : List MV) (h : MH) (r : Option MV) (h' : MH), mcall rod MT F d y as h = some (r, h') → h.2.2.length ≤ h'.2.2.length ∧ slo h.2.2 ≤ slo h'.2.2 := by
  intro d
  induction d with
  | zero => intro y as h r h' hc; cases hc
  | succ d ih =>
    intro y as h r h' hc
    simp only [mcall] at hc
    split at hc
    · cases hc
    · split at hc
      · exact lp_mono (fun y as h r h' hh => ih y as h r h' hh) _ _ _ _ _ _ _ hc
      · cases hc
section SNG
variable {p : Program} {l : Launch} {e : Env} {R : Room} {s : State} {m : MethodId} {args : Array Value} {below : List Frame} {meth : Method} {c : Code} {Q : State → Prop}
variable {dC : Nat → ClassId} {dI : Nat → Nat → Nat} {cA : Nat → ClassId} {base : Nat} {roa : Nat → Nat} {rod : Nat → Nat × (Nat → Int32)} {own : String} {ini : Bool} {cc : ByteArray} {nF sF n0 s0 nL pc : Nat} {L L' : ML} {st st' : List MV} {h h' : MH}
variable {rF : Option MV} {hF : MH} {mc ms d : Nat} {MTX : Nat → Option MX} {ret : Option FieldType}
/-- where a block goes on -/
def mK (p : Program) (l : Launch) (e : Env) (R : Room) (s : State) (m : MethodId) (args : Array Value) (below : List Frame) (meth : Method) (c : Code) (Q : State → Prop) (dC : Nat → ClassId) (dI : Nat → Nat → Nat) (cA : Nat → ClassId) (base : Nat) (roa : Nat → Nat) (rod : Nat → Nat × (Nat → Int32)) (nF sF n0 s0 nL : Nat) (MTX : Nat → Option MX) (d : Nat) (rF : Option MV) (hF : MH) (out : MO) : Prop := match out with
  | .inl f => mSW p l e R s m args below meth c Q dC dI cA base roa n0 s0 nL f.1 f.2.1 f.2.2.1 f.2.2.2
  | .inr (.inl q) => (q.1 = true → mSW p l e R s m args below meth c Q dC dI cA base roa n0 s0 nL q.2.1.1 q.2.1.2.1 q.2.1.2.2.1 q.2.1.2.2.2) ∧ (q.1 = false → mSW p l e R s m args below meth c Q dC dI cA base roa n0 s0 nL q.2.2.1 q.2.2.2.1 q.2.2.2.2.1 q.2.2.2.2.2)
  | .inr (.inr (.inl r)) => r = (rF, hF)
  | .inr (.inr (.inr q)) => mCall p l e R s m args below meth c Q dC dI cA base roa rod nF sF n0 s0 nL MTX d q.1 q.2.1 q.2.2
set_option maxHeartbeats 4000000 in
theorem tm_sound (cx : mCX p R s m args meth c dC dI cA base roa rod own ini cc nF sF n0 s0) (htb : mTb s) (hr : meth.sig.returnType = ret) (hlocks : meth.locks = false) (hMT : ∀ y X, MTX y = some X → ckX X = true) (hRf : d + 1 ≤ R.frames) (hRl : 64 * (d + 1) ≤ R.locals) (hmc : n0 + mc = hF.2.2.length) (hms : s0 + ms = slo hF.2.2) {mi : MI} {out : MO} (hck : ckT cc ret pc mi = true) (hcs : ckS MTX own mi = true) (ht : trm mi pc L st h true = some (true, out)) (hk : mK p l e R s m args below meth c (MQ below (mQ dC dI cA base roa rF hF) args s mc ms (fun q : Nat => base ≤ q)) dC dI cA base roa rod nF sF n0 s0 nL MTX d rF hF out) : mSW p l e R s m args below meth c (MQ below (mQ dC dI cA base roa rF hF) args s mc ms (fun q : Nat => base ≤ q)) dC dI cA base roa n0 s0 nL pc L st h := by
  revert ht hk
  match out with
  | .inr (.inr (.inr (y, as, f))) =>
    intro ht hk
    exact sn_call cx htb hMT hRf hRl hck hcs ht hk
  | .inl f =>
    intro ht hk
    obtain ⟨hx, hb, hown, hts, hK, hRO, hin, hbs, hfr, hlo, hnF, hsF⟩ := cx
    obtain ⟨i, len, x, yy, z, w⟩ := mi
    intro H locs cells slots ls e1 e2 hP hS hl e4 e5 e6
    simp only [ckT, Bool.and_eq_true, decide_eq_true_eq] at hck
    obtain ⟨hd, hlen⟩ := hck
    unfold trm at ht
    split at ht
    all_goals try (first | (cases ht; done) | (split at ht <;> (cases ht; done)) | (split at ht <;> (simp at ht; done)))
    all_goals simp only at *
    · rename_i off hi
      subst hi
      simp only [Bool.and_eq_true, beq_iff_eq, decide_eq_true_eq] at hlen
      obtain ⟨rfl, htg⟩ := hlen
      cases ht
      exact lv_goto hx hb hd htg (hk H locs cells slots ls e1 e2 hP hS hl e4 e5 e6)
    · rename_i df lo hi' offs hi
      subst hi
      simp only [Bool.and_eq_true, decide_eq_true_eq] at hlen
      obtain ⟨hok, hhi, hdf⟩ := hlen
      split at ht
      · rename_i xv st1
        cases ht
        have hkk := hk H locs cells slots ls e1 e2 hP hS hl e4 e5 e6
        by_cases hlo : xv.toInt < lo ∨ lo + offs.toList.length ≤ xv.toInt
        · have ho := tabT_out (pc := pc) (d := ((pc : Int) + df).toNat) (x := xv) offs.toList lo hok hlo
          simp only [ho] at hkk
          exact lv_tableOut hx hb hd (by omega) (by rw [Int.toNat_of_nonneg hdf]) hkk
        · obtain ⟨off, g1, g2⟩ := tabT_in (pc := pc) (d := ((pc : Int) + df).toNat) (x := xv) offs.toList lo hok (by omega) (by omega)
          exact lv_tableIn hx hb hd (by omega) (by omega) (by rw [← Array.getElem?_toList]; exact g1) g2 hkk
      · cases ht
    · rename_i df ps hi
      subst hi
      simp only [Bool.and_eq_true, decide_eq_true_eq] at hlen
      obtain ⟨hok, hsrt, hdf⟩ := hlen
      split at ht
      · rename_i xv st1
        cases ht
        have hkk := hk H locs cells slots ls e1 e2 hP hS hl e4 e5 e6
        exact lv_lookup hx hb hd hsrt rfl (lookT_off hdf ps.toList hok) hkk
      · cases ht
  | .inr (.inl (b, f1, f2)) =>
    intro ht hk
    obtain ⟨hx, hb, hown, hts, hK, hRO, hin, hbs, hfr, hlo, hnF, hsF⟩ := cx
    obtain ⟨i, len, x, yy, z, w⟩ := mi
    intro H locs cells slots ls e1 e2 hP hS hl e4 e5 e6
    simp only [ckT, Bool.and_eq_true, decide_eq_true_eq] at hck
    obtain ⟨hd, hlen⟩ := hck
    obtain ⟨hk1, hk2⟩ := hk
    unfold trm at ht
    split at ht
    all_goals try (first | (cases ht; done) | (split at ht <;> (cases ht; done)) | (split at ht <;> (simp at ht; done)))
    all_goals simp only at *
    · rename_i cd off hi
      subst hi
      simp only [Bool.and_eq_true, beq_iff_eq, decide_eq_true_eq] at hlen
      obtain ⟨rfl, htg⟩ := hlen
      split at ht
      · cases ht
        exact W_if hx hb hd htg (fun g => hk1 g H locs cells slots ls e1 e2 hP hS hl e4 e5 e6) (fun g => hk2 g H locs cells slots ls e1 e2 hP hS hl e4 e5 e6)
      · cases ht
    · rename_i cd off hi
      subst hi
      simp only [Bool.and_eq_true, beq_iff_eq, decide_eq_true_eq] at hlen
      obtain ⟨rfl, htg⟩ := hlen
      split at ht
      · cases ht
        exact W_cmp hx hb hd htg (fun g => hk1 g H locs cells slots ls e1 e2 hP hS hl e4 e5 e6) (fun g => hk2 g H locs cells slots ls e1 e2 hP hS hl e4 e5 e6)
      · cases ht
    · rename_i off hi
      subst hi
      simp only [Bool.and_eq_true, beq_iff_eq, decide_eq_true_eq] at hlen
      obtain ⟨rfl, htg⟩ := hlen
      split at ht
      · rename_i o st1
        cases ht
        cases o with
        | none => exact lv_ifnullN hx hb hd htg (hk1 rfl H locs cells slots ls e1 e2 hP hS hl e4 e5 e6)
        | some a => exact lv_ifnull hx hb hd (hk2 rfl H locs cells slots ls e1 e2 hP hS hl e4 e5 e6)
      · cases ht
    · rename_i off hi
      subst hi
      simp only [Bool.and_eq_true, beq_iff_eq, decide_eq_true_eq] at hlen
      obtain ⟨rfl, htg⟩ := hlen
      split at ht
      · rename_i o st1
        cases ht
        cases o with
        | none => exact lv_ifnonnullN hx hb hd (hk2 rfl H locs cells slots ls e1 e2 hP hS hl e4 e5 e6)
        | some a => exact lv_ifnonnull hx hb hd htg (hk1 rfl H locs cells slots ls e1 e2 hP hS hl e4 e5 e6)
      · cases ht
  | .inr (.inr (.inl (r1, h1))) =>
    intro ht hk
    obtain ⟨hx, hb, hown, hts, hK, hRO, hin, hbs, hfr, hlo, hnF, hsF⟩ := cx
    obtain ⟨i, len, x, yy, z, w⟩ := mi
    intro H locs cells slots ls e1 e2 hP hS hl e4 e5 e6
    simp only [ckT, Bool.and_eq_true, decide_eq_true_eq] at hck
    obtain ⟨hd, hlen⟩ := hck
    have hkk : (r1, h1) = (rF, hF) := hk
    have hh := trm_h ht
    simp only [outH] at hh
    simp only [Prod.mk.injEq] at hkk
    obtain ⟨rfl, rfl⟩ := hkk
    subst hh
    have ec : cells = mc := by omega
    have es : slots = ms := by omega
    subst ec
    subst es
    have hq : ∀ t : State, t.heap = H → s.WarmedH t.vm → mQ dC dI cA base roa r1 h1 args s (.returned (r1.map (rv base roa))) t := fun t htH hW => ⟨rfl, by rw [htH]; exact hP, hS.F htH, e6⟩
    unfold trm at ht
    split at ht
    all_goals try (first | (cases ht; done) | (split at ht <;> (cases ht; done)) | (split at ht <;> (simp at ht; done)))
    all_goals simp only at *
    · rename_i hi
      subst hi
      split at ht
      · rename_i v
        simp only [Option.some.injEq, Prod.mk.injEq, Bool.true_and, Sum.inr.injEq, Sum.inl.injEq, and_true, Bool.or_eq_true, Bool.and_eq_true, beq_iff_eq, decide_eq_true_eq] at ht
        obtain ⟨hv, rfl⟩ := ht
        simp only [Bool.and_eq_true, Bool.or_eq_true, beq_iff_eq, decide_eq_true_eq] at hlen
        obtain ⟨rfl, hlen⟩ := hlen
        rcases hlen with ⟨-, hrt⟩ | ⟨hy1, hrt⟩ | ⟨hy1, hrt⟩ | ⟨hy1, hrt⟩
        · exact W.iret hx hb (by rw [hr, hrt]) hq hS.2.2 hd hlocks
        · have hn : narrow .boolean (.int v) = .int v := by
            rcases hv with hv | ⟨-, hv | hv⟩ | ⟨hv, -⟩ | ⟨hv, -⟩
            · omega
            · subst hv; decide
            · subst hv; decide
            · omega
            · omega
          exact W.zret hx hb (by rw [hr, hrt]) hn hq hS.2.2 hd hlocks
        · have hn : narrow .byte (.int v) = .int v := by
            rcases hv with hv | ⟨hv, -⟩ | ⟨-, hv⟩ | ⟨hv, -⟩
            · omega
            · omega
            · exact congrArg Value.int hv
            · omega
          exact W.zret hx hb (by rw [hr, hrt]) hn hq hS.2.2 hd hlocks
        · have hn : narrow .char (.int v) = .int v := by
            rcases hv with hv | ⟨hv, -⟩ | ⟨hv, -⟩ | ⟨-, hv⟩
            · omega
            · omega
            · omega
            · exact congrArg Value.int hv
          exact W.zret hx hb (by rw [hr, hrt]) hn hq hS.2.2 hd hlocks
      · cases ht
    · rename_i hi
      subst hi
      split at ht
      · cases ht
        simp only [Bool.and_eq_true, beq_iff_eq, decide_eq_true_eq] at hlen
        obtain ⟨rfl, hrt⟩ := hlen
        exact W.lret hx hb (by rw [hr, hrt]) hq hS.2.2 hd hlocks
      · cases ht
    · rename_i hi
      subst hi
      split at ht
      · rename_i v
        cases ht
        simp only [Bool.and_eq_true, beq_iff_eq] at hlen
        obtain ⟨rfl, hrt⟩ := hlen
        have hrt2 : ∃ rt, ret = some rt ∧ ((∃ n, rt = FieldType.object n) ∨ ∃ t, rt = FieldType.array t) := by
          split at hrt
          · exact ⟨_, rfl, Or.inl ⟨_, rfl⟩⟩
          · exact ⟨_, rfl, Or.inr ⟨_, rfl⟩⟩
          · cases hrt
        obtain ⟨rt, hrt3, hrt4⟩ := hrt2
        have hv : rv base roa (.inr (.inr v)) = .null ∨ ∃ a, rv base roa (.inr (.inr v)) = .ref a := by
          match v with
          | .inl none => exact Or.inl rfl
          | .inl (some a) => exact Or.inr ⟨_, rfl⟩
          | .inr j => exact Or.inr ⟨_, rfl⟩
        exact W.aret hx hb (by rw [hr, hrt3]) hrt4 hv hq hS.2.2 hd hlocks
      · cases ht
    · rename_i hi
      subst hi
      split at ht
      · cases ht
        simp only [Bool.and_eq_true, beq_iff_eq, decide_eq_true_eq] at hlen
        obtain ⟨rfl, hrt⟩ := hlen
        exact W.vret hx hb (by rw [hr, hrt]) hq hS.2.2 hd hlocks
      · cases ht
theorem blk_sound (cx : mCX p R s m args meth c dC dI cA base roa rod own ini cc nF sF n0 s0) (htb : mTb s) (hr : meth.sig.returnType = ret) (hlocks : meth.locks = false) (hMT : ∀ y X, MTX y = some X → ckX X = true) (hRf : d + 1 ≤ R.frames) (hRl : 64 * (d + 1) ≤ R.locals) (hmc : n0 + mc = hF.2.2.length) (hms : s0 + ms = slo hF.2.2) : ∀ (is : List MI) (pc : Nat) (L : ML) (st : List MV) (h : MH) (g : Bool) (out : MO), ckB MTX own ini cc ret pc is = true → blk rod is pc L st h g = some (true, out) → (outH out).2.2.length ≤ nF ∧ slo (outH out).2.2 ≤ sF → mK p l e R s m args below meth c (MQ below (mQ dC dI cA base roa rF hF) args s mc ms (fun q : Nat => base ≤ q)) dC dI cA base roa rod nF sF n0 s0 nL MTX d rF hF out → mSW p l e R s m args below meth c (MQ below (mQ dC dI cA base roa rF hF) args s mc ms (fun q : Nat => base ≤ q)) dC dI cA base roa n0 s0 nL pc L st h := by
  intro is
  induction is with
  | nil =>
    intro pc L st h g out hck hb hbd hk
    simp only [blk, Option.some.injEq, Prod.mk.injEq] at hb
    rw [← hb.2] at hk
    exact hk
  | cons mi r ih =>
    intro pc L st h g out hck hb hbd hk
    simp only [ckB, Bool.and_eq_true] at hck
    obtain ⟨hc1, hc2⟩ := hck
    simp only [blk] at hb
    split at hb
    · rename_i q hq
      obtain ⟨q1, q2, q3, q4⟩ := q
      have hnt : ¬ isT mi = true := fun hT => by rw [st1_isT hT] at hq; cases hq
      rw [if_neg hnt] at hc1
      have hg := blk_g _ _ _ _ _ _ _ hb
      simp only [Bool.and_eq_true] at hg
      have hq1 : q1 = true := hg.2
      subst hq1
      have hm := blk_mono _ _ _ _ _ _ _ _ hb
      exact st1_sound cx hc1 hq ⟨Nat.le_trans hm.1 hbd.1, Nat.le_trans hm.2 hbd.2⟩ (ih _ _ _ _ _ _ hc2 hb hbd hk)
    · split at hb
      · have hT := trm_isT hb
        rw [if_pos hT, Bool.and_eq_true] at hc1
        have hg := trm_g hb
        subst hg
        exact tm_sound cx htb hr hlocks hMT hRf hRl hmc hms hc1.1 hc1.2 hb hk
      · cases hb
theorem lp_sound {F : Nat} {B : MB} (cx : mCX p R s m args meth c dC dI cA base roa rod own ini cc hF.2.2.length (slo hF.2.2) n0 s0) (htb : mTb s) (hr : meth.sig.returnType = ret) (hlocks : meth.locks = false) (hMT : ∀ y X, MTX y = some X → ckX X = true) (hRf : d + 1 ≤ R.frames) (hRl : 64 * (d + 1) ≤ R.locals) (hmc : n0 + mc = hF.2.2.length) (hms : s0 + ms = slo hF.2.2) (hB : B.all (fun b => ckB MTX own ini cc ret b.1 b.2) = true)
    (hcall : ∀ y as h r h', mcall rod (mtOf MTX) F d y as h = some (r, h') → ∃ X, MTX y = some X ∧ mMet l dC dI cA base roa rod X d as h r h') : ∀ (n pc : Nat) (L : ML) (st : List MV) (h : MH), lp rod (mcall rod (mtOf MTX) F d) B n pc L st h = some (rF, hF) → mSW p l e R s m args below meth c (MQ below (mQ dC dI cA base roa rF hF) args s mc ms (fun q : Nat => base ≤ q)) dC dI cA base roa n0 s0 nL pc L st h := by
  intro n
  induction n with
  | zero => intro pc L st h hl; cases hl
  | succ n ih =>
    intro pc L st h hl
    have hmon := fun n pc L st h r h' => lp_mono (rod := rod) (call := mcall rod (mtOf MTX) F d) (B := B) (fun y as h r h' hh => mcall_mono d y as h r h' hh) n pc L st h r h'
    simp only [lp] at hl
    split at hl
    · cases hl
    · rename_i is his
      have hck : ckB MTX own ini cc ret pc is = true := List.all_eq_true.mp hB (pc, is) (getB_mem _ _ _ his)
      have go := blk_sound (p := p) (l := l) (e := e) (R := R) (s := s) (m := m) (args := args) (below := below) (meth := meth) (c := c) (nL := nL) (rF := rF) (mc := mc) (ms := ms) (d := d) cx htb hr hlocks hMT hRf hRl hmc hms is pc L st h true
      split at hl
      · rename_i hb
        exact go _ hck hb (hmon _ _ _ _ _ _ _ hl) (ih _ _ _ _ hl)
      · rename_i hb
        exact go _ hck hb (hmon _ _ _ _ _ _ _ hl) ⟨fun _ => ih _ _ _ _ hl, fun h => Bool.noConfusion h⟩
      · rename_i hb
        have h4 := blk_br _ _ _ _ _ _ _ hb
        simp only at h4
        have h5 := hmon _ _ _ _ _ _ _ hl
        rw [← h4] at h5
        exact go _ hck hb h5 ⟨fun h => Bool.noConfusion h, fun _ => ih _ _ _ _ hl⟩
      · rename_i hb
        cases hl
        exact go _ hck hb ⟨Nat.le_refl _, Nat.le_refl _⟩ rfl
      · rename_i hb
        split at hl
        · cases hl
        · rename_i hcl
          have h3 := mcall_mono _ _ _ _ _ _ hcl
          have h5 := hmon _ _ _ _ _ _ _ hl
          obtain ⟨X, hX, hMet⟩ := hcall _ _ _ _ _ hcl
          exact go _ hck hb ⟨Nat.le_trans h3.1 h5.1, Nat.le_trans h3.2 h5.2⟩ ⟨X, _, _, hX, hMet, h3.1, h3.2, h5.1, h5.2, ih _ _ _ _ hl⟩
      · cases hl
end SNG
theorem inS_len (as : List MV) (base : Nat) (roa : Nat → Nat) : (inS as).length = (lg_sl (as.map (rv base roa))).length := by
  induction as with
  | nil => rfl
  | cons v r ih =>
    have e1 : lg_sl ((v :: r).map (rv base roa)) = (if (rv base roa v).category = 2 then [.val (rv base roa v), .second] else [.val (rv base roa v)]) ++ lg_sl (r.map (rv base roa)) := rfl
    rw [e1, List.length_append, ← ih, rv_cat]
    simp only [inS]
    by_cases hv : cat1 v = true
    · simp [hv]; omega
    · simp [hv]; omega
theorem inS_at (base : Nat) (roa : Nat → Nat) : ∀ (as : List MV) (k i : Nat) (v : MV), (inS as)[i]? = some (some v) → (k + i, rv base roa v) ∈ lv_args k (as.map (rv base roa)) := by
  intro as
  induction as with
  | nil => intro k i v h; simp [inS] at h
  | cons u r ih =>
    intro k i v h
    simp only [inS] at h
    simp only [List.map_cons, lv_args, rv_cat]
    cases i with
    | zero =>
      simp at h
      subst h
      exact List.mem_cons_self
    | succ i =>
      rw [List.getElem?_cons_succ] at h
      refine List.mem_cons_of_mem _ ?_
      by_cases hu : cat1 u = true
      · rw [if_pos hu] at h
        rw [if_pos hu, if_neg (by decide), show k + (i + 1) = k + 1 + i by omega]
        exact ih (k + 1) i v h
      · rw [if_neg hu] at h
        rw [if_neg hu, if_pos rfl]
        cases i with
        | zero => cases h
        | succ i =>
          rw [List.getElem?_cons_succ] at h
          rw [show k + (i + 1 + 1) = k + 2 + i by omega]
          exact ih (k + 2) i v h
theorem inL_rel {base : Nat} {roa : Nat → Nat} {as : List MV} {n : Nat} {ls : Array Slot} (hn : (inS as).length ≤ n) (hl : lv_has ls n (lv_args 0 (as.map (rv base roa)))) : (inL as n).length = n ∧ lvr base roa (inL as n) ls := by
  have hlen : (inL as n).length = n := by simp [inL]; omega
  refine ⟨hlen, ?_⟩
  unfold lvr
  rw [hlen]
  refine ⟨hl.1, hl.2.1, fun q hq => ?_⟩
  obtain ⟨v, h1, h2⟩ := asc_mem.mp hq
  obtain ⟨i, w⟩ := q
  simp only at h1 h2
  subst h2
  have h3 : (inS as)[i]? = some (some v) := by
    unfold inL at h1
    by_cases hi : i < (inS as).length
    · rw [List.getElem?_append_left hi] at h1
      exact h1
    · rw [List.getElem?_append_right (by omega), List.getElem?_replicate] at h1
      split at h1 <;> cases h1
  have h4 := inS_at base roa as 0 i v h3
  rw [Nat.zero_add] at h4
  exact hl.2.2 _ h4
set_option maxHeartbeats 4000000 in
/-- THE SMALL MACHINE IS SOUND: what it answers, the real one does -/
theorem mcall_sound {l : Launch} {dC : Nat → ClassId} {dI : Nat → Nat → Nat} {cA : Nat → ClassId} {base : Nat} {roa : Nat → Nat} {rod : Nat → Nat × (Nat → Int32)} {MTX : Nat → Option MX} {F : Nat} (hMT : ∀ y X, MTX y = some X → ckM MTX X = true) : ∀ (d y : Nat) (as : List MV) (h : MH) (r : Option MV) (h' : MH), mcall rod (mtOf MTX) F d y as h = some (r, h') → ∃ X, MTX y = some X ∧ mMet l dC dI cA base roa rod X d as h r h' := by
  have hMX : ∀ y X, MTX y = some X → ckX X = true := fun y X h => by
    have := hMT y X h
    simp only [ckM, Bool.and_eq_true] at this
    exact this.1
  intro d
  induction d with
  | zero => intro y as h r h' hc; cases hc
  | succ d ih =>
    intro y as h r h' hc
    simp only [mcall] at hc
    cases hX : MTX y with
    | none => simp [mtOf, hX] at hc
    | some X =>
      refine ⟨X, rfl, ?_⟩
      simp only [mtOf, hX] at hc
      split at hc
      · rename_i hn
        have hck := hMT y X hX
        simp only [ckM, Bool.and_eq_true] at hck
        obtain ⟨hckx, hB⟩ := hck
        have hckx2 := hckx
        simp only [ckX, Bool.and_eq_true, decide_eq_true_eq] at hckx2
        obtain ⟨kcode, kinit, kmh, kvh, kpar, kmax, kpl⟩ := hckx2
        intro mc ms hmc hms hsh
        refine va_MetF (cc := X.2.1) (maxL := X.2.2.1) (ret := X.2.2.2.1) kpl rfl ?_
        intro p e s m args below meth c s₁ Bd hml hv
        obtain ⟨rfl, hsz, hP, hK, hRO, hTb⟩ := hv
        rw [lg_entry_eq]
        have hln : (lg_sl (as.map (rv base roa))).length ≤ X.2.2.1 := by rw [← inS_len]; exact hn
        have hl := lv_entry (as.map (rv base roa)) (n := X.2.2.1) hln
        obtain ⟨hlen, hlr⟩ := inL_rel hn hl
        have cx : mCX p (headSpec [Cond.code X.1 X.2.1 X.2.2.1 X.2.2.2.1] (mRm (d + 1) mc ms)).room s m (as.map (rv base roa)).toArray meth c dC dI cA base roa rod X.1.cls (X.1.name == "<init>") X.2.1 h'.2.2.length (slo h'.2.2) h.2.2.length (slo h.2.2) :=
          ⟨Bd.exec, Bd.bytes, findClass_of_methodNamed Bd.named, fun w hw => hTb w hw _, hK, hRO, fun hi => by rw [(name_of_methodNamed Bd.named Bd.method).1]; simpa using hi, hsz, by show 1 ≤ d + 1; omega, by show 64 ≤ 64 * (d + 1); omega, by show h'.2.2.length ≤ h.2.2.length + mc; omega, by show slo h'.2.2 ≤ slo h.2.2 + ms; omega⟩
        exact lp_sound (nL := X.2.2.1) (ret := X.2.2.2.1) (d := d) (mc := mc) (ms := ms) cx hTb Bd.returns Bd.notSynchronized hMX (by show d + 1 ≤ d + 1; omega) (by show 64 * (d + 1) ≤ 64 * (d + 1); omega) hmc hms hB (fun y as h r h' hh => ih y as h r h' hh) F 0 (inL as X.2.2.1) [] h hc s.heap [] 0 0 _ hlen hml hP va_S.rf hlr rfl rfl hsh
      · cases hc
