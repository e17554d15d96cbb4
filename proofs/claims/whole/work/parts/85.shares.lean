/-! ROWS OF SHARES: numbers, least share, give, count -/
section M85
variable {rod : Nat → Nat × (Nat → Int32)} {d : Nat} {h : MH} {a n B V : Nat} {W f g : Nat → Nat} {ok : Nat → Bool}
def pd (B p q t : Nat) : Nat := q / B ^ (p - 1 - t) % B
def sS (f : Nat → Nat) (s : Nat) : Nat := (if s.testBit 0 = true then f 0 else 0) + (if s.testBit 1 = true then f 1 else 0) + (if s.testBit 2 = true then f 2 else 0) + (if s.testBit 3 = true then f 3 else 0)
def pS (f : Nat → Nat) : Nat → Nat
  | 0 => 0
  | p + 1 => pS f p + f p
def rowC (B V n c t : Nat) : Nat := if t + 1 < n then pd B (n - 1) c t else V - pS (pd B (n - 1) c) (n - 1)
def okb (W : Nat → Nat) (B V n c : Nat) : Bool := decide (pS (pd B (n - 1) c) (n - 1) ≤ V) && (List.range (2 ^ n)).all (fun s => decide (W s ≤ sS (rowC B V n c) s))
theorem okb_iff {c : Nat} : okb W B V n c = true ↔ pS (pd B (n - 1) c) (n - 1) ≤ V ∧ ∀ s, s < 2 ^ n → W s ≤ sS (rowC B V n c) s := by
  simp only [okb, Bool.and_eq_true, decide_eq_true_eq, List.all_eq_true, List.mem_range]
def cntN (ok : Nat → Bool) : Nat → Nat
  | 0 => 0
  | N + 1 => cntN ok N + (if ok N = true then 1 else 0)
def fstN (ok : Nat → Bool) : Nat → Option Nat
  | 0 => none
  | N + 1 => match fstN ok N with
    | some c => some c
    | none => if ok N = true then some N else none
theorem cntN_le : ∀ N, cntN ok N ≤ N := by
  intro N
  induction N with
  | zero => exact Nat.le_refl _
  | succ N ih =>
    rw [cntN]
    split <;> omega
theorem fstN_none : ∀ N, fstN ok N = none ↔ cntN ok N = 0 := by
  intro N
  induction N with
  | zero => exact ⟨fun _ => rfl, fun _ => rfl⟩
  | succ N ih =>
    rw [cntN, fstN]
    cases hf : fstN ok N with
    | some c =>
      rw [hf] at ih
      have : cntN ok N ≠ 0 := fun e => nomatch ih.mpr e
      exact ⟨fun e => (nomatch e), fun e => by omega⟩
    | none =>
      rw [hf] at ih
      have := ih.mp rfl
      by_cases o : ok N = true
      · simp [o]
      · simp [o, this]
/-- a stretch -/
theorem str_all {lo hi b : Nat} : ∀ k, (∀ i, i < k → ok (b + i) = decide (lo ≤ i ∧ i ≤ hi)) → cntN ok (b + k) = cntN ok b + (min k (hi + 1) - lo) ∧ fstN ok (b + k) = (match fstN ok b with | some c => some c | none => if lo < k ∧ lo ≤ hi then some (b + lo) else none) := by
  intro k
  induction k with
  | zero =>
    intro _
    refine ⟨by rw [Nat.add_zero]; omega, ?_⟩
    rw [Nat.add_zero, if_neg (by omega)]
    cases fstN ok b <;> rfl
  | succ k ih =>
    intro q
    have i1 := ih (fun i hi => q i (by omega))
    have q1 := q k (by omega)
    rw [← Nat.add_assoc, cntN, fstN, i1.1, i1.2, q1]
    cases fstN ok b with
    | some c =>
      refine ⟨?_, rfl⟩
      by_cases w : lo ≤ k ∧ k ≤ hi
      · rw [if_pos (decide_eq_true w)]; omega
      · rw [if_neg (fun e => w (of_decide_eq_true e))]; omega
    | none =>
      by_cases w : lo ≤ k ∧ k ≤ hi
      · rw [if_pos (decide_eq_true w)]
        refine ⟨by omega, ?_⟩
        by_cases w2 : lo < k
        · simp only [if_pos (show lo < k ∧ lo ≤ hi by omega), if_pos (show lo < k + 1 ∧ lo ≤ hi by omega)]
        · have : lo = k := by omega
          subst this
          simp only [if_neg (show ¬ (lo < lo ∧ lo ≤ hi) by omega), if_pos (show lo < lo + 1 ∧ lo ≤ hi by omega), if_pos (decide_eq_true w)]
      · rw [if_neg (fun e => w (of_decide_eq_true e))]
        refine ⟨by omega, ?_⟩
        by_cases w2 : lo < k ∧ lo ≤ hi
        · simp only [if_pos w2, if_pos (show lo < k + 1 ∧ lo ≤ hi by omega)]
        · simp only [if_neg w2, if_neg (show ¬ (lo < k + 1 ∧ lo ≤ hi) by omega), if_neg (show ¬ decide (lo ≤ k ∧ k ≤ hi) = true from fun e => w (of_decide_eq_true e))]
theorem str_none {N N' : Nat} (le : N ≤ N') (q : ∀ c, N ≤ c → c < N' → ok c = false) : cntN ok N' = cntN ok N ∧ fstN ok N' = fstN ok N := by
  have z := str_all (ok := ok) (lo := 1) (hi := 0) (b := N) (N' - N) (fun i hi => by rw [q (N + i) (by omega) (by omega)]; exact (decide_eq_false (by omega)).symm)
  rw [show N + (N' - N) = N' by omega] at z
  refine ⟨by rw [z.1]; omega, ?_⟩
  rw [z.2, if_neg (by omega)]
  cases fstN ok N <;> rfl
theorem pd_one {p q i t : Nat} (hB : 0 < B) (hi : i < B) (ht : t < p) : pd B (p + 1) (q * B + i) t = pd B p q t := by
  rw [pd, pd, show p + 1 - 1 - t = (p - 1 - t) + 1 by omega, Nat.pow_succ, Nat.mul_comm (B ^ (p - 1 - t)) B, ← Nat.div_div_eq_div_mul, Nat.add_comm (q * B) i, Nat.add_mul_div_right _ _ hB, Nat.div_eq_of_lt hi, Nat.zero_add]
theorem pd_last {p q i : Nat} (hi : i < B) : pd B (p + 1) (q * B + i) p = i := by
  rw [pd, show p + 1 - 1 - p = 0 by omega, Nat.pow_zero, Nat.div_one, Nat.add_comm, Nat.add_mul_mod_self_right, Nat.mod_eq_of_lt hi]
theorem pd_pre {p c t : Nat} (r : Nat) (ht : t < p) : pd B (p + r) c t = pd B p (c / B ^ r) t := by
  rw [pd, pd, show p + r - 1 - t = r + (p - 1 - t) by omega, Nat.pow_add, Nat.div_div_eq_div_mul]
theorem pd_lt {p q t : Nat} (hB : 0 < B) : pd B p q t < B := Nat.mod_lt _ hB
theorem pS_congr {p : Nat} (e : ∀ t, t < p → f t = g t) : pS f p = pS g p := by
  induction p with
  | zero => rfl
  | succ p ih => rw [pS, pS, ih (fun t ht => e t (by omega)), e p (by omega)]
theorem pS_le {p : Nat} : ∀ r, pS f p ≤ pS f (p + r) := by
  intro r
  induction r with
  | zero => exact Nat.le_refl _
  | succ r ih => rw [← Nat.add_assoc, pS]; omega
theorem tb_lt {s p t : Nat} (hs : s < 2 ^ p) (ht : s.testBit t = true) : t < p := by
  have x := Nat.ge_two_pow_of_testBit ht
  exact (Nat.pow_lt_pow_iff_right (by omega)).mp (Nat.lt_of_le_of_lt x hs)
theorem sS_congr {s : Nat} (e : ∀ t, s.testBit t = true → f t = g t) : sS f s = sS g s := by
  have z : ∀ t, (if s.testBit t = true then f t else 0) = (if s.testBit t = true then g t else 0) := fun t => by
    by_cases q : s.testBit t = true
    · rw [if_pos q, if_pos q, e t q]
    · rw [if_neg q, if_neg q]
  rw [sS, sS, z 0, z 1, z 2, z 3]
theorem sS_le {s v : Nat} (e : ∀ t, f t ≤ v) : sS f s ≤ 4 * v := by
  have z : ∀ t, (if s.testBit t = true then f t else 0) ≤ v := fun t => by
    by_cases q : s.testBit t = true
    · rw [if_pos q]; exact e t
    · rw [if_neg q]; omega
  have := z 0
  have := z 1
  have := z 2
  have := z 3
  rw [sS]
  omega
theorem bits_chk : (List.range 4).all (fun p => (List.range (2 ^ p)).all (fun s => (s ||| 2 ^ p == 2 ^ p + s) && !s.testBit p && (List.range 4).all (fun i => (2 ^ p + s).testBit i == (i == p || s.testBit i)))) = true := by decide +kernel
theorem bits_at {p s : Nat} (hp : p < 4) (hs : s < 2 ^ p) : s ||| 2 ^ p = 2 ^ p + s ∧ s.testBit p = false ∧ ∀ i, i < 4 → (2 ^ p + s).testBit i = (i == p || s.testBit i) := by
  have z := List.all_eq_true.mp (List.all_eq_true.mp bits_chk p (List.mem_range.mpr hp)) s (List.mem_range.mpr hs)
  simp only [Bool.and_eq_true, beq_iff_eq, Bool.not_eq_true'] at z
  exact ⟨z.1.1, z.1.2, fun i hi => by have := List.all_eq_true.mp z.2 i (List.mem_range.mpr hi); exact beq_iff_eq.mp this⟩
theorem sS_add {p s : Nat} (hp : p < 4) (hs : s < 2 ^ p) : sS f (2 ^ p + s) = sS f s + f p := by
  obtain ⟨-, z1, z2⟩ := bits_at hp hs
  rw [sS, sS, z2 0 (by omega), z2 1 (by omega), z2 2 (by omega), z2 3 (by omega)]
  have : p = 0 ∨ p = 1 ∨ p = 2 ∨ p = 3 := by omega
  rcases this with e | e | e | e <;> subst e <;> simp [z1] <;> omega
theorem or_chk : (List.range 16).all (fun s => (List.range 16).all (fun o => decide (Int32.ofNat s ||| Int32.ofNat o = Int32.ofNat (s ||| o)) && decide (s ||| o < 16))) = true := by decide +kernel
theorem or16 {s o : Nat} (hs : s < 16) (ho : o < 16) : Int32.ofNat s ||| Int32.ofNat o = Int32.ofNat (s ||| o) ∧ s ||| o < 16 := by
  have z := List.all_eq_true.mp (List.all_eq_true.mp or_chk s (List.mem_range.mpr hs)) o (List.mem_range.mpr ho)
  simp only [Bool.and_eq_true, decide_eq_true_eq] at z
  exact z
theorem p2_le {p : Nat} (p2 : p ≤ 2) : 2 ^ p ≤ 4 := Nat.le_trans (Nat.pow_le_pow_right (by omega) p2) (by decide)
/-- what others must have at least -/
theorem c_least (A : BargA h.2 a) (L : Lay h.2) (hW : ∀ s, s < 16 → (h.1 (a + 1) s).toInt = (W s : Int)) (W4 : ∀ s, s < 16 → W s ≤ 40) {p o : Nat} (p2 : p ≤ 2) (o16 : o < 16) (hs : ∀ s, s < 2 ^ p → h.1 81 s = Int32.ofNat (f s)) (fl : ∀ s, f s ≤ 200) (x2 : Int32) (h2 : x2 = Int32.ofNat p) : Wc rod (d + 2) 135 [.inr (.inr (.inl (some 78))), .inr (.inr (.inl (some a))), .inl x2, .inl (Int32.ofNat o)] h (fun r h' => h' = h ∧ ∃ m, r = some (.inl (Int32.ofNat m)) ∧ m ≤ 40 ∧ ∀ v, m ≤ v ↔ ∀ s, s < 2 ^ p → W (s ||| o) ≤ f s + v) := by
  have p4 := p2_le p2
  have sh : (1 : Int32) <<< (x2 &&& 31) = Int32.ofNat (2 ^ p) := by rw [h2]; exact (bt (s := 0) (by omega) (show p < 4 by omega)).2.1
  refine n_Sharing_leastShare ?_
  refine w_Sharing_leastShare_0 rfl ?_
  refine Wb.upc (2 ^ p) (fun k L' => ∃ (x4 x5 : Int32) (m : Nat), L' = [some (.inr (.inr (.inl (some 78)))), some (.inr (.inr (.inl (some a)))), some (.inl x2), some (.inl (Int32.ofNat o)), some (.inl x4), some (.inl x5)] ∧ x5.toInt = (k : Int) ∧ x4 = Int32.ofNat m ∧ m ≤ 40 ∧ ∀ v, m ≤ v ↔ ∀ s, s < k → W (s ||| o) ≤ f s + v) ?_ (Nat.zero_le _) ⟨0, 0, 0, rfl, rfl, rfl, by omega, fun v => ⟨fun _ s hs => absurd hs (by omega), fun _ => Nat.zero_le _⟩⟩
  rintro k _ hk ⟨x4, x5, m, rfl, h5, h4, ml, mv⟩ ih
  have e5 := n_eq h5
  have o5 := ofN h5 (by omega)
  have t2 := t_nat (n := 2 ^ p) (by omega)
  refine w_Sharing_leastShare_6 (fun q => ?_) (fun q => ?_)
  · rw [sh, t2, h5] at q
    have : k = 2 ^ p := by omega
    subst this
    refine w_Sharing_leastShare_50 ?_
    exact ⟨rfl, m, by rw [h4], ml, mv⟩
  · rw [sh, t2, h5] at q
    refine w_Sharing_leastShare_14 (fun q2 => absurd (show (16 : Int) ≤ x5.toInt from q2) (by omega)) (fun _ => ?_)
    have or := or16 (s := k) (o := o) (by omega) o16
    have wv := hW (k ||| o) or.2
    have w4 := W4 (k ||| o) or.2
    have fv := fl k
    have sv := t_nat (n := f k) (by omega)
    refine w_Sharing_leastShare_21 A (Tc.wc (s_worth1 A _ (k ||| o) (by rw [o5, or.1]; exact t_nat (by omega)) or.2)) (Is.k ?_)
    refine w_Sharing_leastShare_31 L (by omega) rfl ?_
    rw [e5, hs k (by omega), h4]
    have dv : (h.1 (a + 1) (k ||| o) - Int32.ofNat (f k)).toInt = (W (k ||| o) : Int) - (f k : Int) := by
      rw [i32_sub (by rw [wv, sv]; omega) (by rw [wv, sv]; omega), wv, sv]
    have tm := t_nat (n := m) (by omega)
    have val : (if Int32.ofNat m < h.1 (a + 1) (k ||| o) - Int32.ofNat (f k) then h.1 (a + 1) (k ||| o) - Int32.ofNat (f k) else Int32.ofNat m) = Int32.ofNat (max m (W (k ||| o) - f k)) := by
      by_cases w : Int32.ofNat m < h.1 (a + 1) (k ||| o) - Int32.ofNat (f k)
      · have w' := Int32.lt_iff_toInt_lt.mp w
        rw [tm, dv] at w'
        rw [if_pos w]
        exact ofN (by rw [dv]; omega) (by omega)
      · have w' : ¬ (Int32.ofNat m).toInt < (h.1 (a + 1) (k ||| o) - Int32.ofNat (f k)).toInt := fun u => w (Int32.lt_iff_toInt_lt.mpr u)
        rw [tm, dv] at w'
        rw [if_neg w]
        exact ofN (by rw [tm]; omega) (by omega)
    rw [val]
    refine ih (by omega) _ ⟨_, _, _, rfl, t_succ h5 (by omega), rfl, by omega, fun v => ⟨fun q s hs => ?_, fun q => ?_⟩⟩
    · by_cases e : s = k
      · subst e; omega
      · exact (mv v).mp (by omega) s (by omega)
    · have x1 := (mv v).mpr (fun s hs => q s (by omega))
      have x2 := q k (by omega)
      omega
theorem c_give (L : Lay h.2) {p v : Nat} (p2 : p ≤ 2) (hs : ∀ s, s < 2 ^ p → h.1 81 s = Int32.ofNat (f s)) (fl : ∀ s, f s ≤ 200) (vl : v ≤ 40) (x1 x2 : Int32) (h1 : x1 = Int32.ofNat p) (h2 : x2.toInt = (v : Int)) : Wc rod (d + 1) 137 [.inr (.inr (.inl (some 78))), .inl x1, .inl x2] h (fun r h' => r = none ∧ Keep h h' ∧ (∀ c, c ≠ 81 → h'.1 c = h.1 c) ∧ ∀ s, s < 2 ^ p → h'.1 81 s = Int32.ofNat (f s) ∧ h'.1 81 (2 ^ p + s) = Int32.ofNat (f s + v)) := by
  have p4 := p2_le p2
  have sh : (1 : Int32) <<< (x1 &&& 31) = Int32.ofNat (2 ^ p) := by rw [h1]; exact (bt (s := 0) (by omega) (show p < 4 by omega)).2.1
  have t2 := t_nat (n := 2 ^ p) (by omega)
  refine n_Sharing_giveShare ?_
  refine w_Sharing_giveShare_0 rfl ?_
  rw [sh]
  refine Wb.uph (2 ^ p) (fun k L' g => ∃ (x4 : Int32), L' = [some (.inr (.inr (.inl (some 78)))), some (.inl x1), some (.inl x2), some (.inl (Int32.ofNat (2 ^ p))), some (.inl x4)] ∧ x4.toInt = (k : Int) ∧ Keep h g ∧ (∀ c, c ≠ 81 → g.1 c = h.1 c) ∧ (∀ s, s < 2 ^ p → g.1 81 s = Int32.ofNat (f s)) ∧ ∀ s, s < k → g.1 81 (2 ^ p + s) = Int32.ofNat (f s + v)) ?_ (Nat.zero_le _) ⟨0, rfl, rfl, Keep.rfl, fun _ _ => rfl, hs, fun s hs => absurd hs (by omega)⟩
  rintro k _ g hk ⟨x4, rfl, h4, K, gc, g0, g1⟩ ih
  have Lg := L.keep K
  have e4 := n_eq h4
  have ad := n_add t2 h4 (by omega)
  refine w_Sharing_giveShare_7 (fun q => ?_) (fun q => ?_)
  · rw [t2, h4] at q
    refine w_Sharing_giveShare_46 ?_
    exact ⟨rfl, K, gc, fun s hs => ⟨g0 s hs, g1 s (by omega)⟩⟩
  · rw [t2, h4] at q
    refine w_Sharing_giveShare_13 (fun q2 => absurd (show (16 : Int) ≤ (Int32.ofNat (2 ^ p) + x4).toInt from q2) (by omega)) (fun _ => ?_)
    refine w_Sharing_giveShare_22 Lg (by omega) (by omega) ?_
    rw [n_eq ad, e4, g0 k (by omega)]
    refine w_Sharing_giveShare_40 rfl ?_
    have fk := fl k
    have vv : Int32.ofNat (f k) + x2 = Int32.ofNat (f k + v) := ofN (n_add (t_nat (by omega)) h2 (by omega)) (by omega)
    rw [vv]
    refine ih (by omega) _ _ ⟨_, rfl, t_succ h4 (by omega), K.si (scrI 81 (by omega)), fun c hc => by rw [sI_cell hc]; exact gc c hc, fun s hs => by rw [sI_nj (by omega)]; exact g0 s hs, fun s hs => ?_⟩
    by_cases e : s = k
    · subst e; rw [sI_same]
    · rw [sI_nj (by omega)]; exact g1 s (by omega)
theorem c_count (L : Lay h.2) (x1 : Int32) : Wc rod (d + 1) 132 [.inr (.inr (.inl (some 78))), .inl x1] h (fun r h' => r = none ∧ Keep h h' ∧ h'.1 79 = h.1 79 ∧ h'.1 81 = h.1 81 ∧ h'.1 78 0 = h.1 78 0 + x1 ∧ ((h.1 78 0).toInt = 0 → ∀ t, t < 4 → h'.1 80 t = h.1 79 t) ∧ (¬ (h.1 78 0).toInt = 0 → h'.1 80 = h.1 80)) := by
  refine n_Sharing_countRows ?_
  refine w_Sharing_countRows_0 L (fun c => ?_) (fun c => ?_)
  · refine w_Sharing_countRows_21 L ?_
    refine w_Sharing_countRows_31 ?_
    exact ⟨rfl, Keep.rfl.si (scrI 78 (by omega)), sI_cell (by omega), sI_cell (by omega), by rw [sI_same], fun q => absurd q c, fun _ => sI_cell (by omega)⟩
  · refine w_Sharing_countRows_7 L ?_
    refine w_Sharing_countRows_21 (h := sC h 79 80 (0 : Int32).toNatClampNeg (0 : Int32).toNatClampNeg (4 : Int32).toNatClampNeg) L ?_
    refine w_Sharing_countRows_31 ?_
    refine ⟨rfl, (Keep.rfl.sc (scrI 80 (by omega))).si (scrI 78 (by omega)), by rw [sI_cell (by omega), sC_cell (by omega)], by rw [sI_cell (by omega), sC_cell (by omega)], by rw [sI_same, sC_cell (by omega)], fun _ t ht => ?_, fun q => absurd c q⟩
    rw [sI_cell (by omega), sC_in (sp := (0 : Int32).toNatClampNeg) (dp := (0 : Int32).toNatClampNeg) rfl rfl (show t < (4 : Int32).toNatClampNeg from ht)]
end M85
