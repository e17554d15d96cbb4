/-! THE SMALL MACHINE'S CELLS IN THE REAL HEAP -/
abbrev classes : List vw_C := [(RX0, TX0, 2), (RX1, TX1, 14), (RX2, TX2, 3), (RX3, TX3, 1), (RX4, TX4, 4), (RX5, TX5, 13), (RX6, TX6, 4), (RX7, TX7, 4), (RX8, TX8, 9), (RX9, TX9, 12), (RX10, TX10, 8), (RX11, TX11, 8), (RX12, TX12, 46)]
def ctyp (c : Nat) : Nat → FieldType := match c with
  | 0 => tyX0
  | 1 => tyX1
  | 2 => tyX2
  | 3 => tyX3
  | 4 => tyX4
  | 5 => tyX5
  | 6 => tyX6
  | 7 => tyX7
  | 8 => tyX8
  | 9 => tyX9
  | 10 => tyX10
  | 11 => tyX11
  | _ => tyX12
def ftag (c k : Nat) : Nat := match ctyp c k with
  | .int => 0
  | .boolean => 2
  | .object _ => 1
  | .array _ => 1
  | _ => 3
set_option maxRecDepth 20000 in
theorem iX0 : ∀ w ∈ u_ws RX0 TX0 2, w ∈ lw_tbl := by decide +kernel
set_option maxRecDepth 20000 in
theorem iX1 : ∀ w ∈ u_ws RX1 TX1 14, w ∈ lw_tbl := by decide +kernel
set_option maxRecDepth 20000 in
theorem iX2 : ∀ w ∈ u_ws RX2 TX2 3, w ∈ lw_tbl := by decide +kernel
set_option maxRecDepth 20000 in
theorem iX3 : ∀ w ∈ u_ws RX3 TX3 1, w ∈ lw_tbl := by decide +kernel
set_option maxRecDepth 20000 in
theorem iX4 : ∀ w ∈ u_ws RX4 TX4 4, w ∈ lw_tbl := by decide +kernel
set_option maxRecDepth 20000 in
theorem iX5 : ∀ w ∈ u_ws RX5 TX5 13, w ∈ lw_tbl := by decide +kernel
set_option maxRecDepth 20000 in
theorem iX6 : ∀ w ∈ u_ws RX6 TX6 4, w ∈ lw_tbl := by decide +kernel
set_option maxRecDepth 20000 in
theorem iX7 : ∀ w ∈ u_ws RX7 TX7 4, w ∈ lw_tbl := by decide +kernel
set_option maxRecDepth 20000 in
theorem iX8 : ∀ w ∈ u_ws RX8 TX8 9, w ∈ lw_tbl := by decide +kernel
set_option maxRecDepth 20000 in
theorem iX9 : ∀ w ∈ u_ws RX9 TX9 12, w ∈ lw_tbl := by decide +kernel
set_option maxRecDepth 20000 in
theorem iX10 : ∀ w ∈ u_ws RX10 TX10 8, w ∈ lw_tbl := by decide +kernel
set_option maxRecDepth 20000 in
theorem iX11 : ∀ w ∈ u_ws RX11 TX11 8, w ∈ lw_tbl := by decide +kernel
set_option maxRecDepth 20000 in
theorem iX12 : ∀ w ∈ u_ws RX12 TX12 46, w ∈ lw_tbl := by decide +kernel
/-- the words that are carried into every method -/
def kept (w : Cond) : Bool := goodWord w || (match w with
  | .methodLinkNest _ _ _ _ => true
  | .arrayOver (.object _) => true
  | _ => false)
def mtbl : List Cond := lw_tbl.filter kept
theorem mt_in {w : Cond} (h : w ∈ lw_tbl) (hk : kept w = true) : w ∈ mtbl := List.mem_filter.mpr ⟨h, hk⟩
theorem mt_ws {C : String} {T : u_T} {N : Nat} (h : ∀ w ∈ u_ws C T N, w ∈ lw_tbl) : ∀ w ∈ u_ws C T N, w ∈ mtbl := by
  intro w hw
  refine mt_in (h w hw) ?_
  obtain ⟨k, -, rfl⟩ := List.mem_map.mp hw
  unfold u_lay
  split <;> rfl
/-- the tables by pieces: a word's place is a thousand times its piece's number, and its place there -/
def tbK (k : Nat) : List Cond := match k with
  | 0 => k2_sels lw_privs
  | 1 => tables_1_1
  | 2 => tables_1_2
  | 3 => tables_1_3
  | 4 => tables_1_4
  | 5 => tables_1_5
  | 6 => tables_1_6
  | 7 => tables_1_7
  | _ => tables_1_8
theorem tbK_in {k : Nat} {w : Cond} (h : w ∈ tbK k) : w ∈ lw_tbl := by
  unfold tbK at h
  unfold lw_tbl tables_1
  split at h <;> simp [h]
/-- what the tables say of a class of ours -/
def clOK (c : Nat) (C : String) (T : u_T) (N : Nat) : Prop :=
  (∀ w ∈ u_ws C T N, w ∈ mtbl) ∧ (∀ k, k < N → parseFieldDescriptor (T k).2.2.1 = some (ctyp c k)) ∧ (∀ a, a < N → ∀ b, b < N → a ≠ b → (T a).2.1 ≠ (T b).2.1) ∧ ∀ k, k < N → ftag c k ≠ 3
theorem cl_ok : ∀ (c : Nat) (C : String) (T : u_T) (N : Nat), classes[c]? = some (C, T, N) → clOK c C T N := by
  intro c C T N h
  match c, h with
  | 0, h => cases h; exact ⟨mt_ws iX0, tyX0_ok, nmX0, by decide +kernel⟩
  | 1, h => cases h; exact ⟨mt_ws iX1, tyX1_ok, nmX1, by decide +kernel⟩
  | 2, h => cases h; exact ⟨mt_ws iX2, tyX2_ok, nmX2, by decide +kernel⟩
  | 3, h => cases h; exact ⟨mt_ws iX3, tyX3_ok, nmX3, by decide +kernel⟩
  | 4, h => cases h; exact ⟨mt_ws iX4, tyX4_ok, nmX4, by decide +kernel⟩
  | 5, h => cases h; exact ⟨mt_ws iX5, tyX5_ok, nmX5, by decide +kernel⟩
  | 6, h => cases h; exact ⟨mt_ws iX6, tyX6_ok, nmX6, by decide +kernel⟩
  | 7, h => cases h; exact ⟨mt_ws iX7, tyX7_ok, nmX7, by decide +kernel⟩
  | 8, h => cases h; exact ⟨mt_ws iX8, tyX8_ok, nmX8, by decide +kernel⟩
  | 9, h => cases h; exact ⟨mt_ws iX9, tyX9_ok, nmX9, by decide +kernel⟩
  | 10, h => cases h; exact ⟨mt_ws iX10, tyX10_ok, nmX10, by decide +kernel⟩
  | 11, h => cases h; exact ⟨mt_ws iX11, tyX11_ok, nmX11, by decide +kernel⟩
  | 12, h => cases h; exact ⟨mt_ws iX12, tyX12_ok, nmX12, by decide +kernel⟩
  | k + 13, h => simp [classes] at h
def arrN (k : Nat) : String := match k with
  | 3 => RX8
  | 4 => RX1
  | 5 => RX6
  | 6 => RX2
  | _ => RX0
def tysA (cA : Nat → ClassId) : List (ClassId × FieldType) := [(cA 0, .int), (cA 1, .byte), (cA 2, .boolean), (cA 3, .object (arrN 3)), (cA 4, .object (arrN 4)), (cA 5, .object (arrN 5)), (cA 6, .object (arrN 6)), (cA 7, .object (arrN 7))]
def rv (base : Nat) (roa : Nat → Nat) : MV → Value
  | .inl x => .int x
  | .inr (.inl z) => .long z
  | .inr (.inr (.inl none)) => .null
  | .inr (.inr (.inl (some a))) => .ref (base + a)
  | .inr (.inr (.inr j)) => .ref (roa j)
def ro (base : Nat) (o : Option Nat) : Option Nat := match o with
  | none => none
  | some a => some (base + a)
def fvV (base : Nat) (h : MH) (c a k : Nat) : Value := if ftag c k = 1 then va_rf (ro base (h.2.1 a k)) else .int (h.1 a k)
def rE (base : Nat) (cA : Nat → ClassId) (h : MH) (a : Nat) (q : Nat × Nat) : va_E :=
  if q.1 < 3 then .inl (cA q.1, q.2, .inl (fun i => mdef (h.1 a i) q.1))
  else if q.1 < 10 then .inl (cA q.1, q.2, .inr (.inr (.inr (.inr (fun i => ro base (h.2.1 a i))))))
  else .inr (q.1 - 10, (List.range q.2).map (fvV base h (q.1 - 10) a))
def rW (base : Nat) (cA : Nat → ClassId) (h : MH) : va_W := h.2.2.mapIdx (fun a q => (base + a, rE base cA h a q))
theorem rv_ro (base : Nat) (roa : Nat → Nat) (o : Option Nat) : rv base roa (mR o) = va_rf (ro base o) := by cases o <;> rfl
theorem rW_get {base : Nat} {cA : Nat → ClassId} {h : MH} {a : Nat} {q : Nat × Nat} (hq : h.2.2[a]? = some q) : (rW base cA h)[a]? = some (base + a, rE base cA h a q) := by
  simp [rW, List.getElem?_mapIdx, hq]
theorem rW_len {base : Nat} {cA : Nat → ClassId} {h : MH} : (rW base cA h).length = h.2.2.length := by simp [rW]
theorem rW_inv {base : Nat} {cA : Nat → ClassId} {h : MH} {a : Nat} {x : Nat × va_E} (hx : (rW base cA h)[a]? = some x) : ∃ q, h.2.2[a]? = some q ∧ x = (base + a, rE base cA h a q) := by
  simp only [rW, List.getElem?_mapIdx] at hx
  cases hq : h.2.2[a]? with
  | none => simp [hq] at hx
  | some q => simp [hq] at hx; exact ⟨q, rfl, hx.symm⟩
theorem rW_D {base : Nat} {cA : Nat → ClassId} {h : MH} : va_D (fun q : Nat => base ≤ q) (rW base cA h) := by
  refine ⟨fun i j p q hi hj e => ?_, fun k q hk => ?_⟩
  · obtain ⟨x, -, rfl⟩ := rW_inv hi
    obtain ⟨y, -, rfl⟩ := rW_inv hj
    simp only at e
    omega
  · obtain ⟨x, -, rfl⟩ := rW_inv hk
    exact Nat.le_add_right base k
theorem rW_ext {base : Nat} {cA : Nat → ClassId} {h h' : MH} {a : Nat} {e : va_E} (hs : h'.2.2 = h.2.2) (ho : ∀ b q, b ≠ a → h.2.2[b]? = some q → rE base cA h' b q = rE base cA h b q) (ha : ∀ q, h.2.2[a]? = some q → rE base cA h' a q = e) : (rW base cA h).set a (base + a, e) = rW base cA h' := by
  apply List.ext_getElem?
  intro b
  rw [List.getElem?_set]
  by_cases hb : a = b
  · subst hb
    simp only [rW, List.getElem?_mapIdx, List.length_mapIdx, if_true]
    rw [hs]
    cases hq : h.2.2[a]? with
    | none =>
      have : ¬ a < h.2.2.length := by simpa using hq
      simp [this]
    | some q =>
      have : a < h.2.2.length := (List.getElem?_eq_some_iff.mp hq).1
      simp [this, ha q hq]
  · simp only [rW, List.getElem?_mapIdx, if_neg hb]
    rw [hs]
    cases hq : h.2.2[b]? with
    | none => simp
    | some q => simp [ho b q (Ne.symm hb) hq]
/-- the row of locals -/
def asc (base : Nat) (roa : Nat → Nat) (L : ML) : List (Nat × Value) := (L.zipIdx).filterMap (fun q => q.1.map (fun v => (q.2, rv base roa v)))
theorem asc_mem {base : Nat} {roa : Nat → Nat} {L : ML} {q : Nat × Value} : q ∈ asc base roa L ↔ ∃ v, L[q.1]? = some (some v) ∧ q.2 = rv base roa v := by
  simp only [asc, List.mem_filterMap, Prod.exists]
  constructor
  · rintro ⟨o, i, h1, h2⟩
    cases o with
    | none => cases h2
    | some v =>
      simp only [Option.map_some, Option.some.injEq] at h2
      subst h2
      exact ⟨v, by simpa [List.mem_zipIdx_iff_getElem?] using h1, rfl⟩
  · rintro ⟨v, h1, h2⟩
    exact ⟨some v, q.1, by simpa [List.mem_zipIdx_iff_getElem?] using h1, by simp [← h2]⟩
def lvr (base : Nat) (roa : Nat → Nat) (L : ML) (ls : Array Slot) : Prop := lv_has ls L.length (asc base roa L)
theorem lvr_get {base : Nat} {roa : Nat → Nat} {L : ML} {ls : Array Slot} (h : lvr base roa L ls) {k : Nat} {v : MV} (hk : L[k]? = some (some v)) : ls[k]? = some (.val (rv base roa v)) := h.2.2 (k, rv base roa v) (asc_mem.mpr ⟨v, hk, rfl⟩)
theorem rv_cat (base : Nat) (roa : Nat → Nat) (v : MV) : (rv base roa v).category = if cat1 v = true then 1 else 2 := by
  match v with
  | .inl x => rfl
  | .inr (.inl z) => rfl
  | .inr (.inr (.inl none)) => rfl
  | .inr (.inr (.inl (some a))) => rfl
  | .inr (.inr (.inr j)) => rfl
theorem okl_lt {L : ML} {k : Nat} (h : okl L k = true) : k < L.length := by
  simp only [okl, Bool.and_eq_true, decide_eq_true_eq] at h
  exact h.1
theorem okl_cat {L : ML} {k i : Nat} {v : MV} (h : okl L k = true) (hi : i + 1 = k) (hv : L[i]? = some (some v)) : cat1 v = true := by
  subst hi
  simp only [okl, Bool.and_eq_true, decide_eq_true_eq] at h
  have h2 := h.2
  rw [hv] at h2
  match v, h2 with
  | .inl x, _ => rfl
  | .inr (.inl z), h2 => cases h2
  | .inr (.inr o), _ => rfl
theorem lvr_set1 {base : Nat} {roa : Nat → Nat} {L : ML} {ls' : Array Slot} {k : Nat} {v : MV} (hok : okl L k = true) (h : lv_has ls' L.length ((k, rv base roa v) :: (asc base roa L).filter (fun q => !(q.1 == k) && !(q.1 + 1 == k && q.2.category == 2)))) : lvr base roa (L.set k (some v)) ls' := by
  refine ⟨by rw [h.1, List.length_set], h.2.1, fun q hq => ?_⟩
  obtain ⟨u, h1, h2⟩ := asc_mem.mp hq
  obtain ⟨i, w⟩ := q
  simp only at h1 h2
  subst h2
  by_cases hik : k = i
  · subst hik
    rw [List.getElem?_set_self (okl_lt hok)] at h1
    cases h1
    exact h.2.2 _ List.mem_cons_self
  · rw [List.getElem?_set_ne hik] at h1
    refine h.2.2 (i, rv base roa u) (List.mem_cons_of_mem _ (List.mem_filter.mpr ⟨asc_mem.mpr ⟨u, h1, rfl⟩, ?_⟩))
    have hn : (i == k) = false := by simpa using fun e => hik e.symm
    by_cases hi1 : i + 1 = k
    · have hc := okl_cat hok hi1 h1
      simp [hn, rv_cat, hc]
    · simp [hn, hi1]
theorem lvr_set2 {base : Nat} {roa : Nat → Nat} {L : ML} {ls' : Array Slot} {k : Nat} {v : MV} (hok : okl L k = true) (hk1 : k + 1 < L.length) (h : lv_has ls' L.length ((k, rv base roa v) :: (asc base roa L).filter (fun q => !(q.1 == k) && (!(q.1 == k + 1) && !(q.1 + 1 == k && q.2.category == 2))))) : lvr base roa ((L.set k (some v)).set (k + 1) none) ls' := by
  refine ⟨by rw [h.1, List.length_set, List.length_set], h.2.1, fun q hq => ?_⟩
  obtain ⟨u, h1, h2⟩ := asc_mem.mp hq
  obtain ⟨i, w⟩ := q
  simp only at h1 h2
  subst h2
  by_cases hik1 : k + 1 = i
  · subst hik1
    rw [List.getElem?_set_self (by rw [List.length_set]; exact hk1)] at h1
    cases h1
  · rw [List.getElem?_set_ne hik1] at h1
    by_cases hik : k = i
    · subst hik
      rw [List.getElem?_set_self (okl_lt hok)] at h1
      cases h1
      exact h.2.2 _ List.mem_cons_self
    · rw [List.getElem?_set_ne hik] at h1
      refine h.2.2 (i, rv base roa u) (List.mem_cons_of_mem _ (List.mem_filter.mpr ⟨asc_mem.mpr ⟨u, h1, rfl⟩, ?_⟩))
      have hn : (i == k) = false := by simpa using fun e => hik e.symm
      have hn1 : (i == k + 1) = false := by simpa using fun e => hik1 e.symm
      by_cases hi1 : i + 1 = k
      · have hc := okl_cat hok hi1 h1
        simp [hn, hn1, rv_cat, hc]
      · simp [hn, hn1, hi1]
