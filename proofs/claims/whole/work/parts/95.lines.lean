/-! THE READER: lines, purely -/
abbrev XS : Type := Bool × Nat × Nat × Int
abbrev LnS : Type := XS × (Nat → Int) × Nat
section M95
variable {T : Nat → Int} {len : Nat} {X : XS} {lo hi : Int} {ex : Bool}
/-- where the next token begins -/
def tp (T : Nat → Int) (len s : Nat) : Nat := sttF T len (nxF T len s)
def ntX (c : Bool) (k a : Nat) (X : XS) : XS := if c = true ∧ X.2.2.1 = 0 then (X.1, X.2.1, k, (a : Int)) else X
def endX (X : XS) : XS := if X.1 = true then X else (true, X.2.1, 1, (X.2.1 : Int))
def nxX (T : Nat → Int) (len : Nat) (X : XS) : XS := (X.1, tp T len X.2.1, X.2.2)
def outX (T : Nat → Int) (len : Nat) (lo hi : Int) (ex : Bool) (s : Nat) : Bool := decide (vlF T len s < lo ∨ hi < vlF T len s ∨ ex = true)
def numX (T : Nat → Int) (len : Nat) (lo hi : Int) (ex : Bool) (X : XS) : XS := if X.1 = true then X else if kdF T len X.2.1 = 2 then nxX T len (ntX (outX T len lo hi ex X.2.1) 2 X.2.1 X) else endX X
def semX (T : Nat → Int) (len : Nat) (X : XS) : XS := if X.1 = true then X else if kdF T len X.2.1 = 3 then nxX T len X else endX X
theorem nx_bd {s : Nat} (hs : s ≤ len) : nxF T len s ≤ len ∧ (s < len → s < nxF T len s) := by
  rw [nxF]
  split
  · exact ⟨hs, fun q => absurd q (by omega)⟩
  · rename_i c
    have sl : s < len := by omega
    split
    · rename_i l
      have e := runT_go (P := fun i => isLt (T i)) sl l
      have b := runT_bd (P := fun i => isLt (T i)) (show s + 1 ≤ len by omega)
      rw [e]
      exact ⟨b.2, fun _ => by omega⟩
    · split
      · rename_i l
        have e := runT_go (P := fun i => isDg (T i)) sl l
        have b := runT_bd (P := fun i => isDg (T i)) (show s + 1 ≤ len by omega)
        rw [e]
        exact ⟨b.2, fun _ => by omega⟩
      · exact ⟨by omega, fun _ => by omega⟩
theorem tp_bd {s : Nat} (hs : s ≤ len) : tp T len s ≤ len ∧ (s < len → s < tp T len s) := by
  have n := nx_bd (T := T) hs
  have b := runT_bd (P := fun i => isBl (T i)) n.1
  rw [tp, sttF]
  exact ⟨b.2, fun q => by have := n.2 q; omega⟩
theorem kd_lt {s : Nat} (q : kdF T len s ≠ 0) : s < len := by
  by_cases c : len ≤ s
  · rw [kdF, if_pos c] at q
    exact absurd rfl q
  · omega
theorem kd_0 {s : Nat} (q : kdF T len s = 0) : len ≤ s := by
  by_cases c : len ≤ s
  · exact c
  · rw [kdF, if_neg c] at q
    split at q
    · exact absurd q (by decide)
    · split at q
      · split at q <;> exact absurd q (by decide)
      · split at q <;> exact absurd q (by decide)
theorem vl_bd {s : Nat} (q : kdF T len s = 2) : 0 ≤ vlF T len s ∧ vlF T len s ≤ 99 := by
  have sl := kd_lt (by omega : kdF T len s ≠ 0)
  rw [kdF, if_neg (by omega)] at q
  split at q
  · exact absurd q (by decide)
  · split at q
    · rename_i dg
      split at q
      · rename_i r2
        have e := runT_go (P := fun i => isDg (T i)) sl dg
        have b := runT_bd (P := fun i => isDg (T i)) (show s + 1 ≤ len by omega)
        have d1 := of_decide_eq_true dg
        rw [vlF]
        split
        · omega
        · rename_i n1
          by_cases c : len ≤ s + 1 ∨ isDg (T (s + 1)) = false
          · rw [e, runT_no c] at n1
            omega
          · have kc2 : isDg (T (s + 1)) = true := by
              cases hc : isDg (T (s + 1)) with
              | true => rfl
              | false => exact absurd (Or.inr hc) c
            have d2 := of_decide_eq_true kc2
            omega
      · exact absurd q (by decide)
    · split at q <;> exact absurd q (by decide)
/-- what holds between tokens -/
def WF (len : Nat) (X : XS) : Prop := (X.1 = true → X.2.2.1 = 1) ∧ (X.1 = false → X.2.2.1 ≠ 1 ∧ X.2.1 ≤ len ∧ (X.2.2.1 = 0 ∨ X.2.2.2 < (X.2.1 : Int) ∨ (X.2.2.2 = (X.2.1 : Int) ∧ X.2.2.1 = 2)))
theorem WF.ende (X : XS) (w : WF len X) : WF len (endX X) := by
  rw [endX]
  split
  · exact w
  · exact ⟨fun _ => rfl, fun q => absurd q (by show ¬ true = false; decide)⟩
theorem WF.nx (w : WF len X) (k : X.2.1 < len) : WF len (nxX T len X) := by
  obtain ⟨b, s, f, p⟩ := X
  have t := tp_bd (T := T) (len := len) (s := s) (show s ≤ len from Nat.le_of_lt k)
  have k' : s < len := k
  have t2 := t.2 k'
  refine ⟨w.1, fun q => ?_⟩
  have w2 := w.2 q
  simp only at w2
  show f ≠ 1 ∧ tp T len s ≤ len ∧ (f = 0 ∨ p < (tp T len s : Int) ∨ (p = (tp T len s : Int) ∧ f = 2))
  exact ⟨w2.1, t.1, by omega⟩
theorem WF.nt (w : WF len X) (hx : X.1 = false) (c : Bool) : WF len (ntX c 2 X.2.1 X) := by
  rw [ntX]
  split
  · exact ⟨fun q => absurd (hx.symm.trans q) (by decide), fun q => ⟨by show (2 : Nat) ≠ 1; decide, (w.2 hx).2.1, Or.inr (Or.inr ⟨rfl, rfl⟩)⟩⟩
  · exact w
theorem nt_1 (c : Bool) (k a : Nat) : (ntX c k a X).1 = X.1 ∧ (ntX c k a X).2.1 = X.2.1 := by
  rw [ntX]
  split <;> exact ⟨rfl, rfl⟩
theorem WF.num (w : WF len X) : WF len (numX T len lo hi ex X) := by
  rw [numX]
  split
  · exact w
  · rename_i h1
    have h1 : X.1 = false := by cases h : X.1 with | true => exact absurd h h1 | false => rfl
    split
    · rename_i h2
      refine (w.nt h1 _).nx ?_
      rw [(nt_1 _ _ _).2]
      exact kd_lt (T := T) (by omega)
    · exact w.ende
theorem WF.sem (w : WF len X) : WF len (semX T len X) := by
  rw [semX]
  split
  · exact w
  · split
    · rename_i h2
      exact w.nx (kd_lt (T := T) (by omega))
    · exact w.ende
/-- a line's word -/
theorem WF.wd (w : WF len X) (hx : X.1 = false) (k : X.2.1 < len) (c : Bool) : WF len (nxX T len (ntX c 3 X.2.1 X)) := by
  have t := tp_bd (T := T) (len := len) (s := X.2.1) (Nat.le_of_lt k)
  rw [ntX]
  split
  · have t2 := t.2 k
    exact ⟨fun q => absurd (hx.symm.trans q) (by decide), fun q => ⟨by show (3 : Nat) ≠ 1; decide, t.1, Or.inr (Or.inl (by show (X.2.1 : Int) < (tp T len X.2.1 : Int); omega))⟩⟩
  · exact w.nx k
theorem num_f0 (w : WF len X) (q : (numX T len lo hi ex X).2.2.1 = 0) : X.1 = false ∧ X.2.2.1 = 0 ∧ kdF T len X.2.1 = 2 ∧ lo ≤ vlF T len X.2.1 ∧ vlF T len X.2.1 ≤ hi ∧ ex = false ∧ numX T len lo hi ex X = (false, tp T len X.2.1, 0, X.2.2.2) := by
  obtain ⟨b, s, f, p⟩ := X
  rw [numX] at q ⊢
  cases b with
  | true =>
    rw [if_pos rfl] at q
    have := w.1 rfl
    exact absurd (q.symm.trans this) (by decide)
  | false =>
    rw [if_neg (by show ¬ false = true; decide)] at q ⊢
    by_cases k : kdF T len s = 2
    · rw [if_pos k] at q
      by_cases o : outX T len lo hi ex s = true ∧ f = 0
      · have e : ntX (outX T len lo hi ex s) 2 s (false, s, f, p) = (false, s, 2, (s : Int)) := if_pos o
        have q : (nxX T len (ntX (outX T len lo hi ex s) 2 s (false, s, f, p))).2.2.1 = 0 := q
        rw [e] at q
        exact absurd q (by show ¬ (2 : Nat) = 0; decide)
      · have e : ntX (outX T len lo hi ex s) 2 s (false, s, f, p) = (false, s, f, p) := if_neg o
        have q : (nxX T len (ntX (outX T len lo hi ex s) 2 s (false, s, f, p))).2.2.1 = 0 := q
        rw [e] at q
        have q : f = 0 := q
        subst q
        have o2 : ¬ outX T len lo hi ex s = true := fun z => o ⟨z, rfl⟩
        have o3 : ¬ (vlF T len s < lo ∨ hi < vlF T len s ∨ ex = true) := fun z => o2 (decide_eq_true z)
        refine ⟨rfl, rfl, k, ?_, ?_, ?_, ?_⟩
        · show lo ≤ vlF T len s
          omega
        · show vlF T len s ≤ hi
          omega
        · cases ex with
          | true => exact absurd (Or.inr (Or.inr rfl)) o3
          | false => rfl
        · rw [if_pos k]
          show nxX T len (ntX (outX T len lo hi ex s) 2 s (false, s, 0, p)) = _
          rw [e]
          rfl
    · rw [if_neg k] at q
      exact absurd q (by show ¬ (1 : Nat) = 0; decide)
theorem sem_f0 (w : WF len X) (q : (semX T len X).2.2.1 = 0) : X.1 = false ∧ X.2.2.1 = 0 ∧ kdF T len X.2.1 = 3 := by
  obtain ⟨b, s, f, p⟩ := X
  rw [semX] at q
  cases b with
  | true =>
    rw [if_pos rfl] at q
    have := w.1 rfl
    exact absurd (q.symm.trans this) (by decide)
  | false =>
    rw [if_neg (by show ¬ false = true; decide)] at q
    by_cases k : kdF T len s = 3
    · rw [if_pos k] at q
      exact ⟨rfl, q, k⟩
    · rw [if_neg k] at q
      exact absurd q (by show ¬ (1 : Nat) = 0; decide)
theorem num_go (h1 : X.1 = false) (k : kdF T len X.2.1 = 2) : numX T len lo hi ex X = nxX T len (ntX (outX T len lo hi ex X.2.1) 2 X.2.1 X) := by
  rw [numX, if_neg (by rw [h1]; decide), if_pos k]
theorem num_no (h1 : X.1 = false) (k : ¬ kdF T len X.2.1 = 2) : numX T len lo hi ex X = (true, X.2.1, 1, (X.2.1 : Int)) := by
  rw [numX, if_neg (by rw [h1]; decide), if_neg k, endX, if_neg (by rw [h1]; decide)]
theorem num_wr (h1 : X.1 = true) : numX T len lo hi ex X = X := by rw [numX, if_pos h1]
theorem sem_wr (h1 : X.1 = true) : semX T len X = X := by rw [semX, if_pos h1]
theorem sem_go (h1 : X.1 = false) (k : kdF T len X.2.1 = 3) : semX T len X = nxX T len X := by
  rw [semX, if_neg (by rw [h1]; decide), if_pos k]
theorem sem_no (h1 : X.1 = false) (k : ¬ kdF T len X.2.1 = 3) : semX T len X = (true, X.2.1, 1, (X.2.1 : Int)) := by
  rw [semX, if_neg (by rw [h1]; decide), if_neg k, endX, if_neg (by rw [h1]; decide)]
theorem num_s (w : WF len X) (q : (numX T len lo hi ex X).1 = false) : X.1 = false ∧ kdF T len X.2.1 = 2 ∧ (numX T len lo hi ex X).2.1 = tp T len X.2.1 ∧ X.2.1 < tp T len X.2.1 := by
  cases h1 : X.1 with
  | true => rw [num_wr h1] at q; exact absurd (h1.symm.trans q) (by decide)
  | false =>
    by_cases k : kdF T len X.2.1 = 2
    · rw [num_go h1 k]
      have hl := kd_lt (by omega : kdF T len X.2.1 ≠ 0)
      refine ⟨rfl, k, ?_, (tp_bd (Nat.le_of_lt hl)).2 hl⟩
      show tp T len (ntX _ 2 X.2.1 X).2.1 = _
      rw [(nt_1 _ _ _).2]
    · rw [num_no h1 k] at q
      exact absurd q (by show ¬ true = false; decide)
theorem sem_s (w : WF len X) (q : (semX T len X).1 = false) : X.1 = false ∧ (semX T len X).2.1 = tp T len X.2.1 ∧ X.2.1 < tp T len X.2.1 := by
  cases h1 : X.1 with
  | true => rw [sem_wr h1] at q; exact absurd (h1.symm.trans q) (by decide)
  | false =>
    by_cases k : kdF T len X.2.1 = 3
    · rw [sem_go h1 k]
      have hl := kd_lt (by omega : kdF T len X.2.1 ≠ 0)
      exact ⟨rfl, rfl, (tp_bd (Nat.le_of_lt hl)).2 hl⟩
    · rw [sem_no h1 k] at q
      exact absurd q (by show ¬ true = false; decide)
theorem nt_ne {c c' : Bool} {k a : Nat} (q : X.2.2.1 ≠ 0 ∨ c = c') : ntX c k a X = ntX c' k a X := by
  rcases q with q | q
  · rw [ntX, ntX, if_neg (fun z => q z.2), if_neg (fun z => q z.2)]
  · rw [q]
theorem nt_nx {c : Bool} {k a : Nat} : nxX T len (ntX c k a X) = ntX c k a (nxX T len X) := by
  obtain ⟨w, s, f, p⟩ := X
  by_cases h : c = true ∧ f = 0
  · have e1 : ntX c k a (w, s, f, p) = (w, s, k, (a : Int)) := if_pos h
    have e2 : ntX c k a (nxX T len (w, s, f, p)) = (w, tp T len s, k, (a : Int)) := if_pos h
    rw [e1, e2]
    rfl
  · have e1 : ntX c k a (w, s, f, p) = (w, s, f, p) := if_neg h
    have e2 : ntX c k a (nxX T len (w, s, f, p)) = nxX T len (w, s, f, p) := if_neg h
    rw [e1, e2]
theorem num_ex {b : Bool} (h1 : X.1 = false) (k : kdF T len X.2.1 = 2) : numX T len lo hi false (ntX b 2 X.2.1 X) = numX T len lo hi b X := by
  have n1 := nt_1 (X := X) b 2 X.2.1
  rw [num_go h1 k, num_go (by rw [n1.1]; exact h1) (by rw [n1.2]; exact k), n1.2]
  congr 1
  obtain ⟨w, s, f, p⟩ := X
  simp only [ntX, outX]
  cases b with
  | true =>
    by_cases f0 : f = 0
    · simp [f0]
    · simp [f0]
  | false => simp
theorem num_ne {b c : Bool} (q : X.2.2.1 ≠ 0 ∨ b = c) : numX T len lo hi b X = numX T len lo hi c X := by
  rcases q with q | q
  · rw [numX, numX, nt_ne (Or.inl q)]
  · rw [q]
/-- the start of the i-th token behind -/
def tpI (T : Nat → Int) (len s : Nat) : Nat → Nat
  | 0 => s
  | i + 1 => tp T len (tpI T len s i)
def vlI (T : Nat → Int) (len s i : Nat) : Int := vlF T len (tpI T len s (i + 1))
def nbh (k : Nat) : Nat := [4, 4, 4, 4, 3, 2, 1, 1, 1, 1, 2, 2, 1, 1, 1, 0, 0, 1, 1, 1, 1, 1, 2].getD k 0
def loF (k i : Nat) : Int := ((roL 2).getD (4 * k + i) 0).toInt
def hiF (k i : Nat) : Int := ((roL 3).getD (4 * k + i) 0).toInt
def exX (T : Nat → Int) (len k i s : Nat) : Bool := decide (k = 4 ∧ i = 1 ∧ vlI T len s 1 = vlI T len s 0)
def numsX (T : Nat → Int) (len k s : Nat) : Nat → XS → XS
  | 0, X => X
  | i + 1, X => numX T len (loF k i) (hiF k i) (exX T len k i s) (numsX T len k s i X)
theorem WF.nums (w : WF len X) (k s : Nat) : ∀ i, WF len (numsX T len k s i X) := by
  intro i
  induction i with
  | zero => exact w
  | succ i ih => exact ih.num
theorem nums_wr {k s i : Nat} (h1 : (numsX T len k s i X).1 = true) : ∀ n, numsX T len k s (i + n) X = numsX T len k s i X := by
  intro n
  induction n with
  | zero => rfl
  | succ n ih =>
    show numX T len _ _ _ (numsX T len k s (i + n) X) = _
    rw [ih, num_wr h1]
theorem nums_s (w : WF len X) {k s : Nat} (hs : X.2.1 = tpI T len s 1) : ∀ i, (numsX T len k s i X).1 = false → (numsX T len k s i X).2.1 = tpI T len s (i + 1) ∧ X.2.1 ≤ (numsX T len k s i X).2.1 := by
  intro i
  induction i with
  | zero => intro _; exact ⟨hs, Nat.le_refl _⟩
  | succ i ih =>
    intro q
    have q' : (numX T len (loF k i) (hiF k i) (exX T len k i s) (numsX T len k s i X)).1 = false := q
    have n := num_s (w.nums k s i) q'
    have ih := ih n.1
    show (numX T len (loF k i) (hiF k i) (exX T len k i s) (numsX T len k s i X)).2.1 = _ ∧ _ ≤ (numX T len (loF k i) (hiF k i) (exX T len k i s) (numsX T len k s i X)).2.1
    rw [n.2.2.1]
    refine ⟨?_, by omega⟩
    rw [ih.1]
    rfl
/-- no fault behind i numbers -/
theorem nums_f0 (w : WF len X) {k s : Nat} (hs : X.2.1 = tpI T len s 1) : ∀ i, (numsX T len k s i X).2.2.1 = 0 → X.1 = false ∧ X.2.2.1 = 0 ∧ numsX T len k s i X = (false, tpI T len s (i + 1), 0, X.2.2.2) ∨ (i = 0 ∧ X.1 = true) := by
  intro i
  induction i with
  | zero =>
    intro q
    have q : X.2.2.1 = 0 := q
    cases h1 : X.1 with
    | true => exact Or.inr ⟨rfl, rfl⟩
    | false =>
      refine Or.inl ⟨rfl, q, ?_⟩
      obtain ⟨b, s', f, p⟩ := X
      simp only at h1 q hs ⊢
      show (b, s', f, p) = _
      rw [h1, q, hs]
  | succ i ih =>
    intro q
    have n := num_f0 (w.nums k s i) q
    rcases ih n.2.1 with ih | ih
    · refine Or.inl ⟨ih.1, ih.2.1, ?_⟩
      show numX T len (loF k i) (hiF k i) (exX T len k i s) (numsX T len k s i X) = _
      rw [n.2.2.2.2.2.2, ih.2.2]
      rfl
    · have w1 := w.1 ih.2
      have := n.1
      rw [ih.1] at this
      exact absurd (ih.2.symm.trans this) (by decide)
theorem nums_v (w : WF len X) {k s : Nat} (hs : X.2.1 = tpI T len s 1) : ∀ i, (numsX T len k s i X).2.2.1 = 0 → ∀ j, j < i → loF k j ≤ vlI T len s j ∧ vlI T len s j ≤ hiF k j ∧ exX T len k j s = false := by
  intro i
  induction i with
  | zero => intro _ j hj; exact absurd hj (by omega)
  | succ i ih =>
    intro q j hj
    have n := num_f0 (w.nums k s i) q
    have s1 := (nums_s w hs i n.1).1
    by_cases c : j < i
    · exact ih n.2.1 j c
    · rw [show j = i by omega]
      rw [s1] at n
      exact ⟨n.2.2.2.1, n.2.2.2.2.1, n.2.2.2.2.2.1⟩
def tooM (k : Nat) (R : Nat → Int) : Bool := if k < 4 then decide (8 ≤ R 1) else if k = 5 then decide (4 ≤ R 2) else if k < 10 then false else if k < 17 then decide (40 ≤ R 0) else if k < 21 then decide (20 ≤ R 0) else false
def updR (R : Nat → Int) (i : Nat) (x : Int) : Nat → Int := fun j => if j = i then x else R j
/-- what a line tells -/
def tellR (k : Nat) (v : Nat → Int) (R : Nat → Int) : Nat → Int :=
  if k < 4 then updR (updR (updR (updR (updR (updR R (6 + 5 * (R 1).toNat) k) (6 + 5 * (R 1).toNat + 1) (v 0)) (6 + 5 * (R 1).toNat + 2) (v 1)) (6 + 5 * (R 1).toNat + 3) (v 2)) (6 + 5 * (R 1).toNat + 4) (v 3)) 1 (R 1 + 1)
  else if k = 4 then updR (updR R (54 + 6 * (v 0).toNat + (v 1).toNat) (v 2)) (54 + 6 * (v 1).toNat + (v 0).toNat) (v 2)
  else if k = 5 then updR (updR (updR R (46 + 2 * (R 2).toNat) (v 0)) (46 + 2 * (R 2).toNat + 1) (v 1)) 2 (R 2 + 1)
  else if k = 6 then updR R 0 (v 0)
  else if k = 7 then updR R 5 (((R 5).toNat ||| 2 ^ (v 0).toNat : Nat) : Int)
  else if k = 8 then updR R 3 (v 0)
  else if k = 9 then updR R 4 (v 0)
  else if k < 17 then updR (updR (updR (updR R (1 + 3 * (R 0).toNat) ((k : Int) - 10)) (1 + 3 * (R 0).toNat + 1) (if 0 < nbh k then v 0 else -1)) (1 + 3 * (R 0).toNat + 2) (if 1 < nbh k then v 1 else -1)) 0 (R 0 + 1)
  else if k < 21 then updR (updR (updR R (1 + 2 * (R 0).toNat) ((k : Int) - 17)) (1 + 2 * (R 0).toNat + 1) (v 0)) 0 (R 0 + 1)
  else if k = 21 then updR R 0 (v 0)
  else updR R (v 0).toNat (v 1)
def tellN (k : Nat) (v : Nat → Int) (n : Nat) : Nat := if k < 4 then n ||| 2 ^ (v 0).toNat else if k = 4 then n ||| (2 ^ (v 0).toNat ||| 2 ^ (v 1).toNat) else if k = 7 then n ||| 2 ^ (v 0).toNat else if k = 22 then n ||| (v 0).toNat else n
def wX (T : Nat → Int) (len k : Nat) (S : LnS) : XS := semX T len (numsX T len k S.1.2.1 (nbh k) (nxX T len (ntX (tooM k S.2.1) 3 S.1.2.1 S.1)))
def lnX (T : Nat → Int) (len k : Nat) (S : LnS) : LnS := (wX T len k S, if (wX T len k S).2.2.1 = 0 then (tellR k (vlI T len S.1.2.1) S.2.1, tellN k (vlI T len S.1.2.1) S.2.2) else S.2)
def lineX (T : Nat → Int) (len t : Nat) (S : LnS) : LnS := if kdF T len S.1.2.1 = 1 ∧ inW t (wdF T len S.1.2.1) = true then lnX T len (kw t (wdF T len S.1.2.1)) S else (endX S.1, S.2)
def endedX (T : Nat → Int) (len : Nat) (S : LnS) : Bool := S.1.1 || decide (kdF T len S.1.2.1 = 0)
def loopX (T : Nat → Int) (len t : Nat) : Nat → LnS → LnS
  | 0, S => S
  | n + 1, S => if endedX T len S = true then S else loopX T len t n (lineX T len t S)
theorem loop_end {t : Nat} {S : LnS} (e : endedX T len S = true) : ∀ n, loopX T len t n S = S := by
  intro n
  cases n with
  | zero => rfl
  | succ n => rw [loopX, if_pos e]
theorem loop_go {t n : Nat} {S : LnS} (e : ¬ endedX T len S = true) : loopX T len t (n + 1) S = loopX T len t n (lineX T len t S) := by
  rw [loopX, if_neg e]
theorem ended_no {S : LnS} (h1 : S.1.1 = false) (h2 : kdF T len S.1.2.1 ≠ 0) : ¬ endedX T len S = true := by
  rw [endedX, h1, decide_eq_false h2]
  decide
theorem line_wf {t : Nat} {S : LnS} (w : WF len S.1) (h1 : S.1.1 = false) : WF len (lineX T len t S).1 ∧ ((lineX T len t S).1.1 = false → S.1.2.1 < (lineX T len t S).1.2.1) := by
  rw [lineX]
  split
  · rename_i k
    have hl := kd_lt (by omega : kdF T len S.1.2.1 ≠ 0)
    have w1 := w.wd (T := T) h1 hl (tooM (kw t (wdF T len S.1.2.1)) S.2.1)
    have w2 := w1.nums (T := T) (kw t (wdF T len S.1.2.1)) S.1.2.1 (nbh (kw t (wdF T len S.1.2.1)))
    refine ⟨w2.sem, fun q => ?_⟩
    have z := sem_s w2 q
    have y := nums_s w1 (T := T) (s := S.1.2.1) (by show tp T len _ = tp T len _; rw [(nt_1 _ _ _).2]; rfl) _ z.1
    show _ < (semX T len _).2.1
    rw [z.2.1]
    have x : (nxX T len (ntX (tooM (kw t (wdF T len S.1.2.1)) S.2.1) 3 S.1.2.1 S.1)).2.1 = tp T len S.1.2.1 := by show tp T len _ = tp T len _; rw [(nt_1 _ _ _).2]
    rw [x] at y
    have := (tp_bd (T := T) (Nat.le_of_lt hl)).2 hl
    omega
  · refine ⟨w.ende, fun q => ?_⟩
    have q : (endX S.1).1 = false := q
    rw [endX, if_neg (by rw [h1]; decide)] at q
    exact absurd q (by show ¬ true = false; decide)
/-- a line that is told leaves no fault behind -/
theorem ln_f0 {k : Nat} {S : LnS} (w : WF len S.1) (h1 : S.1.1 = false) (hl : S.1.2.1 < len) (q : (wX T len k S).2.2.1 = 0) : S.1.2.2.1 = 0 ∧ tooM k S.2.1 = false ∧ (∀ j, j < nbh k → loF k j ≤ vlI T len S.1.2.1 j ∧ vlI T len S.1.2.1 j ≤ hiF k j ∧ exX T len k j S.1.2.1 = false) := by
  have w1 := w.wd (T := T) h1 hl (tooM k S.2.1)
  have w2 := w1.nums (T := T) k S.1.2.1 (nbh k)
  have hs : (nxX T len (ntX (tooM k S.2.1) 3 S.1.2.1 S.1)).2.1 = tpI T len S.1.2.1 1 := by show tp T len _ = tp T len _; rw [(nt_1 _ _ _).2]; rfl
  have z := sem_f0 w2 q
  have f0 : (ntX (tooM k S.2.1) 3 S.1.2.1 S.1).2.2.1 = 0 := by
    rcases nums_f0 w1 hs _ z.2.1 with y | y
    · exact y.2.1
    · have e : (nxX T len (ntX (tooM k S.2.1) 3 S.1.2.1 S.1)).1 = S.1.1 := (nt_1 _ _ _).1
      rw [e, h1] at y
      exact absurd y.2 (by decide)
  have ff : S.1.2.2.1 = 0 ∧ tooM k S.2.1 = false := by
    rw [ntX] at f0
    split at f0
    · exact absurd f0 (by show ¬ (3 : Nat) = 0; decide)
    · rename_i c
      have f0 : S.1.2.2.1 = 0 := f0
      refine ⟨f0, ?_⟩
      cases hc : tooM k S.2.1 with
      | true => exact absurd ⟨hc, f0⟩ c
      | false => rfl
  exact ⟨ff.1, ff.2, nums_v w1 hs _ z.2.1⟩
theorem wdF_L {s : Nat} (k : kdF T len s = 1) : ∃ m, nxF T len s = s + m ∧ s + m ≤ len ∧ (∀ i, i < m → isLt (T (s + i)) = true) ∧ wdF T len s = wcL (LR T s m) := by
  have sl := kd_lt (by omega : kdF T len s ≠ 0)
  have lt : isLt (T s) = true := by
    rw [kdF, if_neg (by omega)] at k
    split at k
    · assumption
    · split at k
      · split at k <;> exact absurd k (by decide)
      · split at k <;> exact absurd k (by decide)
  have b := runT_bd (P := fun i => isLt (T i)) (len := len) (p := s) (by omega)
  have al : ∀ n p, p ≤ len → len - p = n → ∀ i, p + i < runT (fun i => isLt (T i)) len p → isLt (T (p + i)) = true := by
    intro n
    induction n with
    | zero =>
      intro p pl e i hi
      rw [runT_no (Or.inl (by omega))] at hi
      omega
    | succ n ih =>
      intro p pl e i hi
      cases hp : isLt (T p) with
      | false =>
        rw [runT_no (Or.inr hp)] at hi
        omega
      | true =>
        cases i with
        | zero => exact hp
        | succ i =>
          rw [runT_go (by omega) hp] at hi
          have := ih (p + 1) (by omega) (by omega) i (by omega)
          rw [show p + (i + 1) = p + 1 + i by omega]
          exact this
  refine ⟨runT (fun i => isLt (T i)) len s - s, ?_, by omega, fun i hi => al _ s (by omega) rfl i (by omega), ?_⟩
  · rw [nxF, if_neg (by omega), if_pos lt]
    omega
  · rw [wdF]
    split
    · rfl
    · rename_i c
      rcases wcL_lit (l := LR T s (runT (fun i => isLt (T i)) len s - s)) with ⟨h1, h2⟩ | e
      · have l := congrArg List.length h2
        rw [LR_len] at l
        have := (by decide : ∀ c, c < 23 → (litF c).length ≤ 8) _ h1
        omega
      · exact e.symm
end M95
