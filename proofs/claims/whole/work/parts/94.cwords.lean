/-! THE READER: the class's words -/
section M94
variable {rod : Nat → Nat × (Nat → Int32)} {d : Nat} {h : MH} {T : Nat → Int} {len : Nat}
def RokT (rod : Nat → Nat × (Nat → Int32)) : Prop := ∀ j, j ≠ 5 → j ≠ 6 → rod j = ((roL j).length, fun i => (roL j).getD i 0)
theorem s_latin {j : Nat} (hj : isSt j = true) : Tc rod (d + 1) 37 [.inr (.inr (.inr j))] h (some (.inl 1)) h := by
  refine e_String_isLatin1 ?_
  refine b_String_isLatin1_0 (fun q => absurd q (by decide)) (fun _ => ?_)
  refine b_String_isLatin1_6 hj (fun q => absurd q (by decide)) (fun _ => ?_)
  refine b_String_isLatin1_13 ?_
  exact b_String_isLatin1_18 (by decide)
theorem b_pre {x y : Int32} {u : Option MV} (h0 : 0 ≤ x.toInt) (h1 : x.toInt < y.toInt) : Tb rod d B_Preconditions_checkIndex 0 [some (.inl x), some (.inl y), u] [] h (some (.inl x)) h := by
  refine b_Preconditions_checkIndex_0 (fun q => absurd (c_ltt q) (by show ¬ x.toInt < 0; omega)) (fun _ => ?_)
  refine b_Preconditions_checkIndex_4 (fun _ => ?_) (fun q => absurd h1 (c_ltf q))
  exact b_Preconditions_checkIndex_16
theorem s_pre {x y : Int32} (h0 : 0 ≤ x.toInt) (h1 : x.toInt < y.toInt) : Tc rod (d + 1) 40 [.inl x, .inl y, sio rod] h (some (.inl x)) h := by
  rw [sio]
  split
  · exact Tc.of (X := X_Preconditions_checkIndex) rfl (Nat.le_of_ble_eq_true rfl) (b_pre h0 h1)
  · exact e_Preconditions_checkIndex (b_pre h0 h1)
theorem s_chk {x y : Int32} (h0 : 0 ≤ x.toInt) (h1 : x.toInt < y.toInt) : Tc rod (d + 2) 39 [.inl x, .inl y] h none h := by
  refine e_String_checkIndex ?_
  refine Tb.call (is := _) (y := 40) (as := [.inl x, .inl y, sio rod]) (pc' := 8) (L' := [some (.inl x), some (.inl y)]) (st' := []) (h1 := h) rfl rfl (s_pre h0 h1) b_String_checkIndex_8
theorem let_all : ∀ j, j < 32 → 10 ≤ j → (roL (j + 100)).length ≤ 8 ∧ ∀ i, i < (roL (j + 100)).length → 97 ≤ ((roL (j + 100)).getD i 0).toInt ∧ ((roL (j + 100)).getD i 0).toInt ≤ 122 ∧ ((((roL (j + 100)).getD i 0 &&& (255 : Int32)).toUInt32 % 65536).toInt32) = (roL (j + 100)).getD i 0 ∧ ((roL (j + 100)).getD i 0).toUInt32.toUInt16.toUInt32.toInt32 = (roL (j + 100)).getD i 0 := by decide +kernel
theorem s_charAt (hr : RokT rod) {j i : Nat} (j1 : 10 ≤ j) (j2 : j < 32) {x : Int32} (hx : x.toInt = (i : Int)) (hi : i < (roL (j + 100)).length) : Tc rod (d + 4) 36 [.inr (.inr (.inr j)), .inl x] h (some (.inl ((roL (j + 100)).getD i 0))) h := by
  have hj : isSt j = true := by rw [isSt, decide_eq_true j1, decide_eq_true j2]; rfl
  have hb : isBy (j + 100) = true := by rw [isBy, decide_eq_true (show 110 ≤ j + 100 by omega), decide_eq_true (show j + 100 < 132 by omega)]; rfl
  have e := hr (j + 100) (by omega) (by omega)
  obtain ⟨l8, q⟩ := let_all j j2 j1
  have q := q i hi
  have ei : (rod (j + 100)).2 x.toNatClampNeg = (roL (j + 100)).getD i 0 := by rw [e, n_eq hx]
  have ln : (rod (j + 100)).1 = (roL (j + 100)).length := by rw [e]
  refine e_String_charAt ?_
  refine b_String_charAt_0 hj (s_latin hj) ?_
  refine b_String_charAt_4 (fun c => absurd c (by decide)) (fun _ => ?_)
  refine b_String_charAt_7 hj (r1 := some (.inl ((roL (j + 100)).getD i 0))) (h2 := h) ?_ ?_
  · refine e_StringLatin1_charAt ?_
    refine b_StringLatin1_charAt_0 (by rw [hb, Bool.or_true]) (s_chk (by omega) (by rw [ln, t_nat (by omega)]; omega)) ?_
    have k := b_StringLatin1_charAt_6 (rod := rod) (d := d + 2) (j0 := j + 100) (x1 := x) (h := h) hb (inB_of (by omega) (by rw [ln]; omega)) (by rw [ei, q.2.2.1]; exact decide_eq_true q.2.2.2)
    rw [ei, q.2.2.1] at k
    exact k
  · exact b_String_charAt_15 (decide_eq_true q.2.2.2)
/-- a string's letters, from the last on -/
def LF (b : List Int32) : Nat → List Nat
  | 0 => []
  | k + 1 => ((b.getD k 0).toInt - 96).toNat :: LF b k
theorem LR_len (s : Nat) : ∀ m, (LR T s m).length = m := by
  intro m
  induction m with
  | zero => rfl
  | succ m ih => rw [LR, List.length_cons, ih]
theorem LF_len (b : List Int32) : ∀ m, (LF b m).length = m := by
  intro m
  induction m with
  | zero => rfl
  | succ m ih => rw [LF, List.length_cons, ih]
theorem LR_LF {s : Nat} {b : List Int32} : ∀ n, (∀ i, i < n → isLt (T (s + i)) = true) → (∀ i, i < n → 97 ≤ (b.getD i 0).toInt ∧ (b.getD i 0).toInt ≤ 122) → (LR T s n = LF b n ↔ ∀ i, i < n → (b.getD i 0).toInt = T (s + i)) := by
  intro n
  induction n with
  | zero => intro _ _; exact ⟨fun _ i hi => absurd hi (by omega), fun _ => rfl⟩
  | succ n ih =>
    intro hl hb
    have h1 := of_decide_eq_true (hl n (by omega))
    have h2 := hb n (by omega)
    have ih := ih (fun i hi => hl i (by omega)) (fun i hi => hb i (by omega))
    rw [LR, LF, List.cons.injEq, ih]
    constructor
    · rintro ⟨e, q⟩ i hi
      by_cases c : i < n
      · exact q i c
      · rw [show i = n by omega]; omega
    · intro q
      have := q n (by omega)
      exact ⟨by omega, fun i hi => q i (by omega)⟩
theorem s_isOnTape (hr : RokT rod) (L : Lay h.2) (E : EnvT h T len) {s m j : Nat} (h8 : (h.1 45 8).toInt = (s : Int)) (h6 : (h.1 45 6).toInt = ((s + m : Nat) : Int)) (sm : s + m ≤ len) (lt : ∀ i, i < m → isLt (T (s + i)) = true) (j1 : 10 ≤ j) (j2 : j < 32) : Tc rod (d + 5) 33 [.inr (.inr (.inl (some 45))), .inr (.inr (.inr j))] h (some (.inl (if LR T s m = LF (roL (j + 100)) (roL (j + 100)).length then 1 else 0))) h := by
  have hj : isSt j = true := by rw [isSt, decide_eq_true j1, decide_eq_true j2]; rfl
  have hb : isBy (j + 100) = true := by rw [isBy, decide_eq_true (show 110 ≤ j + 100 by omega), decide_eq_true (show j + 100 < 132 by omega)]; rfl
  have l6 := E.2.1
  have ln : (rod (j + 100)).1 = (roL (j + 100)).length := by rw [hr (j + 100) (by omega) (by omega)]
  obtain ⟨l8, q⟩ := let_all j j2 j1
  have hq : ∀ i, i < (roL (j + 100)).length → 97 ≤ ((roL (j + 100)).getD i 0).toInt ∧ ((roL (j + 100)).getD i 0).toInt ≤ 122 := fun i hi => ⟨(q i hi).1, (q i hi).2.1⟩
  have ls : ∀ d, Tc rod (d + 2) 34 [.inr (.inr (.inr j))] h (some (.inl (Int32.ofNat (roL (j + 100)).length))) h := fun d => by
    have k := s_strlen (rod := rod) (d := d) (h := h) hj hb
    rw [ln] at k
    exact k
  have e0 : (Int32.ofNat (roL (j + 100)).length).toInt = ((roL (j + 100)).length : Int) := t_nat (by omega)
  have ed : ((h.1 45 6) - (h.1 45 8)).toInt = (m : Int) := by rw [i32_sub (by omega) (by omega)]; omega
  apply Wc.tc
  refine n_Reader_isOnTape ?_
  refine w_Reader_isOnTape_0 hj (Tc.wc (ls _)) (Is.k ?_)
  refine w_Reader_isOnTape_4 L (fun c => ?_) (fun c => ?_)
  · rw [e0, ed] at c
    have c : (roL (j + 100)).length = m := by omega
    rw [c] at hq
    refine w_Reader_isOnTape_18 rfl ?_
    refine Wb.upc m (fun k L' => ∃ x : Int32, x.toInt = (k : Int) ∧ L' = [some (.inr (.inr (.inl (some 45)))), some (.inr (.inr (.inr j))), some (.inl x)] ∧ ∀ i, i < k → ((roL (j + 100)).getD i 0).toInt = T (s + i)) ?_ (Nat.zero_le _) ⟨0, rfl, rfl, fun i hi => absurd hi (by omega)⟩
    rintro k _ hk ⟨x, hx, rfl, qk⟩ ih
    refine w_Reader_isOnTape_20 hj (Tc.wc (ls _)) (Is.k ?_)
    refine w_Reader_isOnTape_25 (fun w => ?_) (fun w => ?_)
    · rw [e0, hx] at w
      refine w_Reader_isOnTape_54 ?_
      refine ⟨?_, rfl⟩
      rw [c, if_pos ((LR_LF m lt hq).mpr fun i hi => qk i (by omega))]
    · rw [e0, hx] at w
      have km : k < m := by omega
      refine w_Reader_isOnTape_28 hj (Tc.wc (s_charAt hr j1 j2 hx (by omega))) (Is.k ?_)
      refine w_Reader_isOnTape_33 L (Tc.wc (s_rbyte L E (p := s + k) (n_add h8 hx (by omega)) (by omega))) (Is.k ?_)
      have et := (E.2.2 (s + k) (by omega)).1
      refine w_Reader_isOnTape_43 (fun y => ?_) (fun y => ?_)
      · rw [et] at y
        refine w_Reader_isOnTape_48 rfl ?_
        refine ih km _ ⟨x + 1, t_succ hx (by omega), rfl, fun i hi => ?_⟩
        by_cases ik : i < k
        · exact qk i ik
        · rw [show i = k by omega]; exact y
      · rw [et] at y
        refine w_Reader_isOnTape_46 ?_
        refine ⟨?_, rfl⟩
        rw [c, if_neg (fun z => y ((LR_LF m lt hq).mp z k km))]
  · rw [e0, ed] at c
    refine w_Reader_isOnTape_16 ?_
    refine ⟨?_, rfl⟩
    rw [if_neg]
    intro z
    have := congrArg List.length z
    rw [LR_len, LF_len] at this
    omega
/-- which string a word is -/
def sjF (k : Nat) : Nat := [10, 11, 12, 13, 14, 15, 16, 17, 18, 19, 20, 21, 22, 17, 23, 24, 25, 26, 27, 28, 29, 30, 31].getD k 0
theorem sj_bd : ∀ k, k < 23 → 10 ≤ sjF k ∧ sjF k < 32 := by decide
theorem s_wordOfC {x : Int32} {k : Nat} (hx : x.toInt = (k : Int)) (hk : k < 23) : Tc rod (d + 1) 32 [.inl x] h (some (.inr (.inr (.inr (sjF k))))) h := by
  apply Wc.tc
  refine n_Reader_wordOf ?_
  refine w_Reader_wordOf_0 (fun c => ?_) (fun c => ?_) (fun c => ?_) (fun c => ?_) (fun c => ?_) (fun c => ?_) (fun c => ?_) (fun c => ?_) (fun c => ?_) (fun c => ?_) (fun c => ?_) (fun c => ?_) (fun c => ?_) (fun c => ?_) (fun c => ?_) (fun c => ?_) (fun c => ?_) (fun c => ?_) (fun c => ?_) (fun c => ?_) (fun c => ?_) (fun c => ?_) ?_
  · rw [show k = 0 by omega]; exact w_Reader_wordOf_104 ⟨rfl, rfl⟩
  · rw [show k = 1 by omega]; exact w_Reader_wordOf_107 ⟨rfl, rfl⟩
  · rw [show k = 2 by omega]; exact w_Reader_wordOf_110 ⟨rfl, rfl⟩
  · rw [show k = 3 by omega]; exact w_Reader_wordOf_113 ⟨rfl, rfl⟩
  · rw [show k = 4 by omega]; exact w_Reader_wordOf_116 ⟨rfl, rfl⟩
  · rw [show k = 5 by omega]; exact w_Reader_wordOf_119 ⟨rfl, rfl⟩
  · rw [show k = 6 by omega]; exact w_Reader_wordOf_122 ⟨rfl, rfl⟩
  · rw [show k = 7 by omega]; exact w_Reader_wordOf_125 ⟨rfl, rfl⟩
  · rw [show k = 8 by omega]; exact w_Reader_wordOf_128 ⟨rfl, rfl⟩
  · rw [show k = 9 by omega]; exact w_Reader_wordOf_131 ⟨rfl, rfl⟩
  · rw [show k = 10 by omega]; exact w_Reader_wordOf_134 ⟨rfl, rfl⟩
  · rw [show k = 11 by omega]; exact w_Reader_wordOf_137 ⟨rfl, rfl⟩
  · rw [show k = 12 by omega]; exact w_Reader_wordOf_140 ⟨rfl, rfl⟩
  · rw [show k = 13 by omega]; exact w_Reader_wordOf_143 ⟨rfl, rfl⟩
  · rw [show k = 14 by omega]; exact w_Reader_wordOf_146 ⟨rfl, rfl⟩
  · rw [show k = 15 by omega]; exact w_Reader_wordOf_149 ⟨rfl, rfl⟩
  · rw [show k = 16 by omega]; exact w_Reader_wordOf_152 ⟨rfl, rfl⟩
  · rw [show k = 17 by omega]; exact w_Reader_wordOf_155 ⟨rfl, rfl⟩
  · rw [show k = 18 by omega]; exact w_Reader_wordOf_158 ⟨rfl, rfl⟩
  · rw [show k = 19 by omega]; exact w_Reader_wordOf_161 ⟨rfl, rfl⟩
  · rw [show k = 20 by omega]; exact w_Reader_wordOf_164 ⟨rfl, rfl⟩
  · rw [show k = 21 by omega]; exact w_Reader_wordOf_167 ⟨rfl, rfl⟩
  · intros
    rw [show k = 22 by omega]; exact w_Reader_wordOf_171 ⟨rfl, rfl⟩
def wl (k : Nat) : List Nat := LF (roL (sjF k + 100)) (roL (sjF k + 100)).length
def fw (t : Nat) : Nat := [0, 10, 17, 21, 23].getD t 0
def inW (t c : Nat) : Bool := if t = 0 then decide (1 ≤ c ∧ c ≤ 10) else if t = 1 then decide (10 ≤ c ∧ c ≤ 16) else if t = 2 then decide (17 ≤ c ∧ c ≤ 20) else decide (21 ≤ c ∧ c ≤ 22)
def kw (t c : Nat) : Nat := if t = 0 then (if c ≤ 7 then c - 1 else if c = 10 then 7 else c) else if t = 1 then (if c = 10 then 13 else if c ≤ 13 then c - 1 else c) else c
def litF (c : Nat) : List Nat := ([[], [18, 15, 15, 16], [20, 8, 7, 9, 14, 11], [23, 15, 4, 9, 23], [18, 5, 20, 2, 21, 15, 4], [4, 1, 15, 18], [18, 5, 20, 20, 5, 12], [19, 14, 23, 15, 20], [11, 14, 1, 2], [18, 5, 12, 21, 18], [20, 21, 8, 19], [12, 12, 5, 19], [14, 9, 19], [15, 7], [14, 5, 16, 15], [20, 2, 21, 15, 4], [5, 5, 12, 9, 2, 21, 10], [14, 9], [20, 21, 15], [20, 14, 21, 15, 3], [25, 5, 11], [19, 5, 9, 20, 18, 1, 16], [8, 20, 18, 15, 23]] : List (List Nat)).getD c []
theorem lit_kw : ∀ t, t < 4 → ∀ c, c < 23 → inW t c = true → fw t ≤ kw t c ∧ kw t c < fw (t + 1) ∧ wl (kw t c) = litF c := by decide +kernel
theorem wl_lit : ∀ t, t < 4 → ∀ k, k < 23 → fw t ≤ k → k < fw (t + 1) → inW t (wcL (wl k)) = true ∧ kw t (wcL (wl k)) = k := by decide +kernel
theorem fw_bd : ∀ t, t < 4 → fw t ≤ 23 ∧ fw (t + 1) ≤ 23 := by decide
theorem wcL_lit {l : List Nat} : (wcL l < 23 ∧ l = litF (wcL l)) ∨ wcL l = 99 := by
  by_cases e1 : l = [18, 15, 15, 16]
  · rw [e1]; exact Or.inl (by decide)
  by_cases e2 : l = [20, 8, 7, 9, 14, 11]
  · rw [e2]; exact Or.inl (by decide)
  by_cases e3 : l = [23, 15, 4, 9, 23]
  · rw [e3]; exact Or.inl (by decide)
  by_cases e4 : l = [18, 5, 20, 2, 21, 15, 4]
  · rw [e4]; exact Or.inl (by decide)
  by_cases e5 : l = [4, 1, 15, 18]
  · rw [e5]; exact Or.inl (by decide)
  by_cases e6 : l = [18, 5, 20, 20, 5, 12]
  · rw [e6]; exact Or.inl (by decide)
  by_cases e7 : l = [19, 14, 23, 15, 20]
  · rw [e7]; exact Or.inl (by decide)
  by_cases e8 : l = [11, 14, 1, 2]
  · rw [e8]; exact Or.inl (by decide)
  by_cases e9 : l = [18, 5, 12, 21, 18]
  · rw [e9]; exact Or.inl (by decide)
  by_cases e10 : l = [20, 21, 8, 19]
  · rw [e10]; exact Or.inl (by decide)
  by_cases e11 : l = [12, 12, 5, 19]
  · rw [e11]; exact Or.inl (by decide)
  by_cases e12 : l = [14, 9, 19]
  · rw [e12]; exact Or.inl (by decide)
  by_cases e13 : l = [15, 7]
  · rw [e13]; exact Or.inl (by decide)
  by_cases e14 : l = [14, 5, 16, 15]
  · rw [e14]; exact Or.inl (by decide)
  by_cases e15 : l = [20, 2, 21, 15, 4]
  · rw [e15]; exact Or.inl (by decide)
  by_cases e16 : l = [5, 5, 12, 9, 2, 21, 10]
  · rw [e16]; exact Or.inl (by decide)
  by_cases e17 : l = [14, 9]
  · rw [e17]; exact Or.inl (by decide)
  by_cases e18 : l = [20, 21, 15]
  · rw [e18]; exact Or.inl (by decide)
  by_cases e19 : l = [20, 14, 21, 15, 3]
  · rw [e19]; exact Or.inl (by decide)
  by_cases e20 : l = [25, 5, 11]
  · rw [e20]; exact Or.inl (by decide)
  by_cases e21 : l = [19, 5, 9, 20, 18, 1, 16]
  · rw [e21]; exact Or.inl (by decide)
  by_cases e22 : l = [8, 20, 18, 15, 23]
  · rw [e22]; exact Or.inl (by decide)
  right
  rw [wcL, if_neg e1, if_neg e2, if_neg e3, if_neg e4, if_neg e5, if_neg e6, if_neg e7, if_neg e8, if_neg e9, if_neg e10, if_neg e11, if_neg e12, if_neg e13, if_neg e14, if_neg e15, if_neg e16, if_neg e17, if_neg e18, if_neg e19, if_neg e20, if_neg e21, if_neg e22]
theorem wcL_in {l : List Nat} {t : Nat} (ht : t < 4) (q : inW t (wcL l) = true) : fw t ≤ kw t (wcL l) ∧ kw t (wcL l) < fw (t + 1) ∧ l = wl (kw t (wcL l)) := by
  rcases wcL_lit (l := l) with ⟨h1, h2⟩ | e
  · have k := lit_kw t ht _ h1 q
    exact ⟨k.1, k.2.1, h2.trans k.2.2.symm⟩
  · rw [e] at q
    exact absurd q ((by decide : ∀ t, t < 4 → ¬ inW t 99 = true) t ht)
/-- the word read, of sort t -/
def wrF (t : Nat) (l : List Nat) : Int := if inW t (wcL l) = true then (kw t (wcL l) : Int) else -1
theorem s_wordRead (hr : RokT rod) (L : Lay h.2) (E : EnvT h T len) {s m t : Nat} {z : Int32} (hz : z.toInt = (t : Int)) (ht : t < 4) (h8 : (h.1 45 8).toInt = (s : Int)) (h6 : (h.1 45 6).toInt = ((s + m : Nat) : Int)) (sm : s + m ≤ len) (lt : ∀ i, i < m → isLt (T (s + i)) = true) : Wc rod (d + 6) 31 [.inr (.inr (.inl (some 45))), .inl z] h (fun r h' => h = h' ∧ ∃ x : Int32, r = some (.inl x) ∧ x.toInt = wrF t (LR T s m)) := by
  have r0 := hr 0 (by omega) (by omega)
  have fe : ∀ i, i < 5 → ((roL 0).getD i 0).toInt = (fw i : Int) := by decide
  have fb := fw_bd t ht
  refine n_Reader_wordRead ?_
  refine w_Reader_wordRead_0 (fun c => absurd c (by omega)) (fun _ => ?_)
  refine w_Reader_wordRead_4 (fun _ => ?_) (fun c => absurd (show z.toInt < 4 by omega) c)
  refine w_Reader_wordRead_11 (inB_of (by omega) (by rw [r0]; show z.toInt < 5; omega)) ?_
  have z1 : (z + 1).toInt = ((t + 1 : Nat) : Int) := t_succ hz (by omega)
  refine Wb.upc (fw (t + 1) - fw t) (fun k L' => ∃ x : Int32, x.toInt = ((fw t + k : Nat) : Int) ∧ L' = [some (.inr (.inr (.inl (some 45)))), some (.inl z), some (.inl x)] ∧ ∀ i, fw t ≤ i → i < fw t + k → LR T s m ≠ wl i) ?_ (Nat.zero_le _) ⟨(rod 0).2 z.toNatClampNeg, by rw [r0, n_eq hz]; exact fe t (by omega), rfl, fun i h1 h2 => absurd h1 (by omega)⟩
  rintro k _ hk ⟨x, hx, rfl, qk⟩ ih
  have ef : ((rod 0).2 (z + (1 : Int32)).toNatClampNeg).toInt = (fw (t + 1) : Int) := by rw [r0, n_eq z1]; exact fe (t + 1) (by omega)
  refine w_Reader_wordRead_17 (inB_of (by omega) (by rw [r0, z1]; show ((t + 1 : Nat) : Int) < 5; omega)) (fun c => ?_) (fun c => ?_)
  · rw [ef, hx] at c
    refine w_Reader_wordRead_47 ?_
    refine ⟨rfl, -1, rfl, ?_⟩
    rw [wrF, if_neg]
    · rfl
    · intro q
      have w := wcL_in ht q
      exact qk _ w.1 (by omega) w.2.2
  · rw [ef, hx] at c
    have k23 : fw t + k < 23 := by omega
    refine w_Reader_wordRead_28 (Tc.wc (s_wordOfC hx k23)) (Is.k ?_)
    refine w_Reader_wordRead_33 L (Tc.wc (s_isOnTape hr L E h8 h6 sm lt (sj_bd _ k23).1 (sj_bd _ k23).2)) (Is.k ?_)
    by_cases y : LR T s m = LF (roL (sjF (fw t + k) + 100)) (roL (sjF (fw t + k) + 100)).length
    · rw [if_pos y]
      refine w_Reader_wordRead_36 (fun q => absurd q (by decide)) (fun _ => ?_)
      refine w_Reader_wordRead_39 ?_
      refine ⟨rfl, x, rfl, ?_⟩
      have w := wl_lit t ht (fw t + k) k23 (by omega) (by omega)
      have y' : LR T s m = wl (fw t + k) := y
      rw [wrF, y', if_pos w.1, w.2]
      exact hx
    · rw [if_neg y]
      refine w_Reader_wordRead_36 (fun _ => ?_) (fun q => absurd rfl q)
      refine w_Reader_wordRead_41 rfl ?_
      refine ih (by omega) _ ⟨x + 1, by rw [← Nat.add_assoc]; exact t_succ hx (by omega), rfl, fun i h1 h2 => ?_⟩
      by_cases ik : i < fw t + k
      · exact qk i h1 ik
      · rw [show i = fw t + k by omega]; exact y
end M94
