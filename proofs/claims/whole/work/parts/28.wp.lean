/-! POSTCONDITIONS: a frame, or a call, comes to an answer of which Q holds; small numbers; what scratch cells may change -/
section WP
variable {rod : Nat → Nat × (Nat → Int32)} {d y : Nat} {B B1 B2 : MB} {pc p1 p2 : Nat} {L L1 L2 : ML} {st s1 s2 as : List MV} {h h1 h2 : MH} {Q Q' : Option MV → MH → Prop}
def Wb (rod : Nat → Nat × (Nat → Int32)) (d : Nat) (B : MB) (pc : Nat) (L : ML) (st : List MV) (h : MH) (Q : Option MV → MH → Prop) : Prop := ∃ r hr, Tb rod d B pc L st h r hr ∧ Q r hr
def Wc (rod : Nat → Nat × (Nat → Int32)) (d y : Nat) (as : List MV) (h : MH) (Q : Option MV → MH → Prop) : Prop := ∃ r hr, Tc rod d y as h r hr ∧ Q r hr
theorem Wb.go (f : ∀ r hr, Tb rod d B p1 L1 s1 h1 r hr → Tb rod d B pc L st h r hr) (k : Wb rod d B p1 L1 s1 h1 Q) : Wb rod d B pc L st h Q := by
  obtain ⟨r, hr, k, q⟩ := k
  exact ⟨r, hr, f r hr k, q⟩
theorem Wb.br {c : Bool} (f : ∀ r hr, (c = true → Tb rod d B p1 L1 s1 h1 r hr) → (c = false → Tb rod d B p2 L2 s2 h2 r hr) → Tb rod d B pc L st h r hr) (k1 : c = true → Wb rod d B p1 L1 s1 h1 Q) (k2 : c = false → Wb rod d B p2 L2 s2 h2 Q) : Wb rod d B pc L st h Q := by
  cases hc : c with
  | true =>
    obtain ⟨r, hr, k, q⟩ := k1 hc
    exact ⟨r, hr, f r hr (fun _ => k) (fun e => absurd (hc.symm.trans e) (by decide)), q⟩
  | false =>
    obtain ⟨r, hr, k, q⟩ := k2 hc
    exact ⟨r, hr, f r hr (fun e => absurd (hc.symm.trans e) (by decide)) (fun _ => k), q⟩
theorem Wb.ret {r : Option MV} {hr : MH} (k : Tb rod d B pc L st h r hr) (q : Q r hr) : Wb rod d B pc L st h Q := ⟨r, hr, k, q⟩
theorem Wb.call {Q1 : Option MV → MH → Prop} (f : ∀ r1 h2 r hr, Tc rod d y as h1 r1 h2 → Tb rod d B p1 L1 (r1.toList ++ s1) h2 r hr → Tb rod d B pc L st h r hr) (c : Wc rod d y as h1 Q1) (k : ∀ r1 h2, Q1 r1 h2 → Wb rod d B p1 L1 (r1.toList ++ s1) h2 Q) : Wb rod d B pc L st h Q := by
  obtain ⟨r1, h2, c, q⟩ := c
  obtain ⟨r, hr, k, q⟩ := k r1 h2 q
  exact ⟨r, hr, f r1 h2 r hr c k, q⟩
theorem Wb.callT {r1 : Option MV} (f : ∀ r1 h2 r hr, Tc rod d y as h1 r1 h2 → Tb rod d B p1 L1 (r1.toList ++ s1) h2 r hr → Tb rod d B pc L st h r hr) (c : Tc rod d y as h1 r1 h2) (k : Wb rod d B p1 L1 (r1.toList ++ s1) h2 Q) : Wb rod d B pc L st h Q := by
  obtain ⟨r, hr, k, q⟩ := k
  exact ⟨r, hr, f r1 h2 r hr c k, q⟩
theorem Wb.to (e : pc = p1) (k : Wb rod d B p1 L st h Q) : Wb rod d B pc L st h Q := e ▸ k
theorem Wb.imp (k : Wb rod d B pc L st h Q) (i : ∀ r hr, Q r hr → Q' r hr) : Wb rod d B pc L st h Q' := by
  obtain ⟨r, hr, k, q⟩ := k
  exact ⟨r, hr, k, i r hr q⟩
theorem Wc.imp (k : Wc rod d y as h Q) (i : ∀ r hr, Q r hr → Q' r hr) : Wc rod d y as h Q' := by
  obtain ⟨r, hr, k, q⟩ := k
  exact ⟨r, hr, k, i r hr q⟩
theorem Wc.en (f : ∀ r hr, Tb rod d B 0 L [] h r hr → Tc rod (d + 1) y as h r hr) (k : Wb rod d B 0 L [] h Q) : Wc rod (d + 1) y as h Q := by
  obtain ⟨r, hr, k, q⟩ := k
  exact ⟨r, hr, f r hr k, q⟩
theorem Wc.mono {d' : Nat} (hd : d ≤ d') (k : Wc rod d y as h Q) : Wc rod d' y as h Q := by
  obtain ⟨r, hr, k, q⟩ := k
  exact ⟨r, hr, k.mono hd, q⟩
/-- an answer, the heap as it was -/
def Is (v : MV) (h : MH) (r : Option MV) (h' : MH) : Prop := r = some v ∧ h' = h
theorem Wc.tc {v : MV} (k : Wc rod d y as h (Is v h)) : Tc rod d y as h (some v) h := by
  obtain ⟨r, hr, k, rfl, rfl⟩ := k
  exact k
theorem Tc.wc {v : MV} (k : Tc rod d y as h (some v) h) : Wc rod d y as h (Is v h) := ⟨_, _, k, rfl, rfl⟩
theorem Tc.recv {o o' : Option Nat} {r : Option MV} (e : o = o') (k : Tc rod d y (.inr (.inr (.inl o')) :: as) h r h2) : Tc rod d y (.inr (.inr (.inl o)) :: as) h r h2 := e ▸ k
theorem Wc.recv {o o' : Option Nat} (e : o = o') (k : Wc rod d y (.inr (.inr (.inl o')) :: as) h Q) : Wc rod d y (.inr (.inr (.inl o)) :: as) h Q := e ▸ k
end WP
/-! numbers -/
theorem clampK {x : Int32} {k : Nat} (e : x.toInt = (k : Int)) : x.toNatClampNeg = k := by
  show x.toInt.toNat = k
  omega
theorem t_nat {n : Nat} (hn : n < 2147483648) : (Int32.ofNat n).toInt = (n : Int) := by
  rw [Int32.toInt_ofNat']
  exact Int.bmod_eq_of_le (by show -((4294967296 : Int) / 2) ≤ _; omega) (by show _ < ((4294967296 : Int) + 1) / 2; omega)
theorem i32_of {x y : Int32} (e : x.toInt = y.toInt) : x = y := Int32.toInt_inj.mp e
theorem t_m1 : (-1 : Int32).toInt = -1 := rfl
theorem t_m2 : (-2 : Int32).toInt = -2 := rfl
theorem t_m1000 : (-1000 : Int32).toInt = -1000 := rfl
theorem ite01 {P : Prop} {_ : Decidable P} : ((if P then (1 : Int32) else 0) = 0) ↔ ¬ P := by by_cases hp : P <;> simp [hp]
theorem ite01t {P : Prop} {_ : Decidable P} : ((if P then (1 : Int32) else 0).toInt = 0) ↔ ¬ P := by by_cases hp : P <;> simp [hp]
theorem ite01u {P : Prop} {_ : Decidable P} : ((if P then (1 : Int32) else 0) = 1) ↔ P := by by_cases hp : P <;> simp [hp]
theorem ite01v {P : Prop} {_ : Decidable P} : ((if P then (1 : Int32) else 0).toInt = 1) ↔ P := by by_cases hp : P <;> simp [hp]
theorem ok01 {P : Prop} {_ : Decidable P} : (decide ((if P then (1 : Int32) else 0) = 0) || decide ((if P then (1 : Int32) else 0) = 1)) = true := by by_cases hp : P <;> simp [hp]
theorem sI_same {h : MH} {a i : Nat} {x : Int32} : (sI h a i x).1 a i = x := by simp [sI]
theorem sI_ne {h : MH} {a i b j : Nat} {x : Int32} (n : ¬ (b = a ∧ j = i)) : (sI h a i x).1 b j = h.1 b j := by simp only [sI]; rw [if_neg n]
theorem sI_cell {h : MH} {a i b : Nat} {x : Int32} (n : b ≠ a) : (sI h a i x).1 b = h.1 b := by funext j; exact sI_ne (fun q => n q.1)
/-- the same but where P says -/
def Fr (P : Nat → Nat → Prop) (h h' : MH) : Prop := h'.2 = h.2 ∧ ∀ c j, ¬ P c j → h'.1 c j = h.1 c j
theorem Fr.rfl {P : Nat → Nat → Prop} {h : MH} : Fr P h h := ⟨Eq.refl _, fun _ _ _ => Eq.refl _⟩
theorem Fr.trans {P : Nat → Nat → Prop} {h h1 h2 : MH} (a : Fr P h h1) (b : Fr P h1 h2) : Fr P h h2 := ⟨b.1.trans a.1, fun c j hc => (b.2 c j hc).trans (a.2 c j hc)⟩
theorem Fr.mono {P P' : Nat → Nat → Prop} {h h1 : MH} (a : Fr P h h1) (i : ∀ c j, P c j → P' c j) : Fr P' h h1 := ⟨a.1, fun c j hc => a.2 c j (fun q => hc (i c j q))⟩
theorem Fr.si {P : Nat → Nat → Prop} {h h1 : MH} {a i : Nat} {x : Int32} (k : Fr P h h1) (ha : P a i) : Fr P h (sI h1 a i x) := by
  refine ⟨k.1, fun c j hc => ?_⟩
  rw [← k.2 c j hc]
  exact sI_ne (fun q => hc (by rw [q.1, q.2]; exact ha))
theorem Fr.cell {P : Nat → Nat → Prop} {h h' : MH} (k : Fr P h h') (c : Nat) (n : ∀ j, ¬ P c j) : h'.1 c = h.1 c := funext fun j => k.2 c j (n j)
theorem gO_some {h h' : MH} {o : Option Nat} {k : Nat} (e : h'.2.2 = h.2.2) (g : gO h o k = true) : gO h' o k = true := by
  rw [← g]
  simp only [gO, e]
/-- the scratch cells of both -/
def Scr (a : Nat) : Prop := (45 ≤ a ∧ a < 83) ∨ a = 84 ∨ (87 ≤ a ∧ a < 98)
/-- the same but for scratch -/
def Keep (h h' : MH) : Prop := h'.2 = h.2 ∧ ∀ a, ¬ Scr a → h'.1 a = h.1 a
theorem Keep.rfl {h : MH} : Keep h h := ⟨Eq.refl _, fun _ _ => Eq.refl _⟩
theorem Keep.trans {h h1 h2 : MH} (a : Keep h h1) (b : Keep h1 h2) : Keep h h2 := ⟨b.1.trans a.1, fun c hc => (b.2 c hc).trans (a.2 c hc)⟩
theorem Keep.si {h h1 : MH} {a i : Nat} {x : Int32} (k : Keep h h1) (ha : Scr a) : Keep h (sI h1 a i x) := by
  refine ⟨k.1, fun c hc => ?_⟩
  rw [← k.2 c hc]
  funext j
  have : c ≠ a := fun e => hc (e ▸ ha)
  simp [sI, this]
theorem LandRel.keep {h h' : MH} {a l : Nat} (r : LandRel h a l) (hf : ∀ c, a ≤ c → c < a + 9 → h'.1 c = h.1 c) (h85 : h'.1 85 = h.1 85) : LandRel h' a l := by
  have e0 := hf a (by omega) (by omega)
  have e (k : Nat) (hk : k < 8) := hf (a + 1 + k) (by omega) (by omega)
  have e1 := e 0 (by omega)
  have e2 : h'.1 (a + 2) = h.1 (a + 2) := hf _ (by omega) (by omega)
  have e3 : h'.1 (a + 3) = h.1 (a + 3) := hf _ (by omega) (by omega)
  have e4 : h'.1 (a + 4) = h.1 (a + 4) := hf _ (by omega) (by omega)
  have e5 : h'.1 (a + 5) = h.1 (a + 5) := hf _ (by omega) (by omega)
  have e6 : h'.1 (a + 6) = h.1 (a + 6) := hf _ (by omega) (by omega)
  have e7 : h'.1 (a + 7) = h.1 (a + 7) := hf _ (by omega) (by omega)
  have e8 : h'.1 (a + 8) = h.1 (a + 8) := hf _ (by omega) (by omega)
  obtain ⟨r1, r2, r3, r4, r5, r6, r7, r8, r9, r10, r11, r12, r13, r14, r15⟩ := r
  simp only [Nat.add_zero] at e1
  simp only [LandRel, e0, e1, e2, e3, e4, e5, e6, e7, e8, h85]
  refine ⟨r1, r2, r3, r4, r5, r6, r7, r8, r9, r10, r11, r12, fun b hb => ?_, r14, r15⟩
  obtain ⟨q, q'⟩ := r13 b hb
  exact ⟨fun k hk => by rw [e k (by omega)]; exact q k hk, q'⟩
theorem SeasonRel.keep {h h' : MH} {a l : Nat} (r : SeasonRel h a l) (hf : ∀ c, a ≤ c → c < a + 4 → h'.1 c = h.1 c) (h85 : h'.1 85 = h.1 85) : SeasonRel h' a l := by
  simp only [SeasonRel, hf a (by omega) (by omega), hf (a + 1) (by omega) (by omega), hf (a + 2) (by omega) (by omega), hf (a + 3) (by omega) (by omega), h85]
  exact r
theorem LedgerRel.keep {h h' : MH} {a l : Nat} (r : LedgerRel h a l) (hf : ∀ c, a ≤ c → c < a + 3 → h'.1 c = h.1 c) (h85 : h'.1 85 = h.1 85) : LedgerRel h' a l := by
  simp only [LedgerRel, hf a (by omega) (by omega), hf (a + 1) (by omega) (by omega), hf (a + 2) (by omega) (by omega), h85]
  exact r
theorem BargRel.keep {h h' : MH} {a l : Nat} (r : BargRel h a l) (hf : ∀ c, a ≤ c → c < a + 2 → h'.1 c = h.1 c) (h85 : h'.1 85 = h.1 85) : BargRel h' a l := by
  simp only [BargRel, hf a (by omega) (by omega), hf (a + 1) (by omega) (by omega), h85]
  exact r
theorem TRel.keep {h h' : MH} {T M : Nat} (r : TRel h T M) (hf : ∀ c, T ≤ c → c < T + 43 → h'.1 c = h.1 c) (h85 : h'.1 85 = h.1 85) : TRel h' T M := by
  obtain ⟨r1, r2, r3, r4, r5, r6, r7, r8, r9, r10⟩ := r
  have b0 := (r5 0 (by omega)).2.2
  have b1 := (r5 1 (by omega)).2.2
  have b2 := (r5 2 (by omega)).2.2
  have b3 := (r5 3 (by omega)).2.2
  have e0 := hf T (by omega) (by omega)
  have e1 := hf (T + 1) (by omega) (by omega)
  have e2 := hf (T + 2) (by omega) (by omega)
  simp only [TRel, e0, e1, e2, h85]
  refine ⟨r1, r2, r3, r4, r5, r6, fun k hk => ?_, fun k hk => ?_, fun k hk => ?_, fun k hk => ?_⟩
  · exact (r7 k hk).keep (fun c h1 h2 => hf c (by omega) (by omega)) h85
  · exact (r8 k hk).keep (fun c h1 h2 => hf c (by omega) (by omega)) h85
  · exact (r9 k hk).keep (fun c h1 h2 => hf c (by omega) (by omega)) h85
  · exact (r10 k hk).keep (fun c h1 h2 => hf c (by omega) (by omega)) h85
theorem ShAt.keep {h h' : MH} {a : Nat} {S : List (Nat × Nat)} (r : ShAt h a S) (e : h'.2 = h.2) : ShAt h' a S := by
  simp only [ShAt, e]
  exact r
/-- what scratch cells hold is nothing to the invariant -/
theorem INV.keep {h h' : MH} (hI : INV h) (k : Keep h h') : INV h' := by
  obtain ⟨i1, i2, i3, i4, i5, i6, i7⟩ := hI
  obtain ⟨e, f⟩ := k
  have e85 : h'.1 85 = h.1 85 := f 85 (by simp only [Scr]; omega)
  have e83 : h'.1 83 = h.1 83 := f 83 (by simp only [Scr]; omega)
  have e86 : h'.1 86 = h.1 86 := f 86 (by simp only [Scr]; omega)
  refine ⟨by rw [e]; exact i1, ?_, ?_, i4.keep (fun c h1 h2 => f c (by simp only [Scr]; omega)) e85, ?_, by rw [e]; exact i6, by rw [e83]; exact i7⟩
  · simp only [MainAt, ToldAt, LandAt, SeasonAt, LedgerAt, BargAt, ShAt, e] at i2 ⊢
    exact i2
  · simp only [ModelAt, ShAt, e] at i3 ⊢
    exact i3
  · intro k hk
    rcases i5 k hk with ⟨a, b⟩ | ⟨T, a, b, c, t, r⟩
    · exact Or.inl ⟨by rw [e]; exact a, by rw [e86]; exact b⟩
    · refine Or.inr ⟨T, by rw [e]; exact a, b, by rw [e86]; exact c, ?_, r.keep (fun c h1 h2 => f c (by simp only [Scr]; omega)) e85⟩
      simp only [ToldAt, LandAt, SeasonAt, LedgerAt, BargAt, ShAt, e] at t ⊢
      exact t
theorem Fr.toKeep {P : Nat → Nat → Prop} {h h' : MH} (k : Fr P h h') (i : ∀ c j, P c j → Scr c) : Keep h h' := ⟨k.1, fun c hc => k.cell c (fun j q => hc (i c j q))⟩
