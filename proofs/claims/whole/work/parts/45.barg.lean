/-! BARGAINS: sets of parties as numbers; OPERATION power -/
theorem bt_all : ((List.range 16).all fun s => (List.range 4).all fun i => decide ((((Int32.ofNat s >>> (Int32.ofNat i &&& 31)) &&& 1).toInt = (if s.testBit i = true then 1 else 0)) ∧ ((1 : Int32) <<< (Int32.ofNat i &&& 31) = Int32.ofNat (2 ^ i)) ∧ (Int32.ofNat s &&& (((1 : Int32) <<< (Int32.ofNat i &&& 31)) ^^^ (-1)) = Int32.ofNat (if s.testBit i = true then s - 2 ^ i else s)) ∧ (s.testBit i = true → s ||| 2 ^ i = s) ∧ (s.testBit i = false → (s ||| 2 ^ i).testBit i = true ∧ (s ||| 2 ^ i) - 2 ^ i = s) ∧ (s.testBit i = true → (s - 2 ^ i).testBit i = false ∧ (s - 2 ^ i) ||| 2 ^ i = s) ∧ s ||| 2 ^ i < 16)) = true := by decide +kernel
theorem bt {s i : Nat} (hs : s < 16) (hi : i < 4) : (((Int32.ofNat s >>> (Int32.ofNat i &&& 31)) &&& 1).toInt = (if s.testBit i = true then 1 else 0)) ∧ ((1 : Int32) <<< (Int32.ofNat i &&& 31) = Int32.ofNat (2 ^ i)) ∧ (Int32.ofNat s &&& (((1 : Int32) <<< (Int32.ofNat i &&& 31)) ^^^ (-1)) = Int32.ofNat (if s.testBit i = true then s - 2 ^ i else s)) ∧ (s.testBit i = true → s ||| 2 ^ i = s) ∧ (s.testBit i = false → (s ||| 2 ^ i).testBit i = true ∧ (s ||| 2 ^ i) - 2 ^ i = s) ∧ (s.testBit i = true → (s - 2 ^ i).testBit i = false ∧ (s - 2 ^ i) ||| 2 ^ i = s) ∧ s ||| 2 ^ i < 16 := of_decide_eq_true (List.all_eq_true.mp (List.all_eq_true.mp bt_all s (List.mem_range.mpr hs)) i (List.mem_range.mpr hi))
theorem or_lt {s i p : Nat} (hs : s < 2 ^ p) (hi : i < p) : s ||| 2 ^ i < 2 ^ p := Nat.or_lt_two_pow hs (Nat.pow_lt_pow_right (by omega) hi)
theorem ofN {x : Int32} {n : Nat} (e : x.toInt = (n : Int)) (hn : n < 2147483648) : x = Int32.ofNat n := i32_of (by rw [e, t_nat hn])
/-- party i is needed: what is worth something has it -/
def needB (W : Nat → Int32) (i : Nat) : Nat → Bool
  | 0 => true
  | s + 1 => needB W i s && (decide (s = 0) || (s.testBit i || decide ((W s).toInt = 0)))
theorem needB_no {W : Nat → Int32} {i j n : Nat} (e : needB W i j = false) (hj : j ≤ n) : needB W i n = false := by
  induction n with
  | zero => rw [show j = 0 by omega] at e; exact e
  | succ n ih =>
    by_cases c : j = n + 1
    · rw [← c]; exact e
    · rw [needB, ih (by omega), Bool.false_and]
/-- bits of those of whom b says yes -/
def bitsF (b : Nat → Bool) : Nat → Int32
  | 0 => 0
  | i + 1 => bitsF b i ||| (if b i = true then (1 : Int32) <<< (Int32.ofNat i &&& 31) else 0)
theorem bitsF_ext {b b' : Nat → Bool} {n : Nat} (e : ∀ i, i < n → b i = b' i) : bitsF b n = bitsF b' n := by
  induction n with
  | zero => rfl
  | succ n ih => rw [bitsF, bitsF, ih (fun i hi => e i (by omega)), e n (by omega)]
def gainF (W : Nat → Int32) (i s : Nat) : Int32 := W (s ||| 2 ^ i) - W s
def idleB (W : Nat → Int32) (i : Nat) : Nat → Bool
  | 0 => true
  | s + 1 => idleB W i s && decide ((gainF W i s).toInt = 0)
theorem idleB_no {W : Nat → Int32} {i j n : Nat} (e : idleB W i j = false) (hj : j ≤ n) : idleB W i n = false := by
  induction n with
  | zero => rw [show j = 0 by omega] at e; exact e
  | succ n ih =>
    by_cases c : j = n + 1
    · rw [← c]; exact e
    · rw [idleB, ih (by omega), Bool.false_and]
theorem idleB_iff {W : Nat → Int32} {i n : Nat} : idleB W i n = true ↔ ∀ s, s < n → (gainF W i s).toInt = 0 := by
  induction n with
  | zero => exact ⟨fun _ s hs => absurd hs (Nat.not_lt_zero s), fun _ => rfl⟩
  | succ n ih =>
    rw [idleB, Bool.and_eq_true, ih, decide_eq_true_eq]
    constructor
    · rintro ⟨q1, q2⟩ s hs
      by_cases c : s = n
      · rw [c]; exact q2
      · exact q1 s (by omega)
    · intro q
      exact ⟨fun s hs => q s (by omega), q n (by omega)⟩
def swC (W : Nat → Int32) (i n : Nat) : Int32 := sumF (fun s => if 0 < (gainF W i s).toInt then 1 else 0) n
theorem swC_succ (W : Nat → Int32) (i n : Nat) : swC W i (n + 1) = swC W i n + (if 0 < (gainF W i n).toInt then 1 else 0) := rfl
def swM (W : Nat → Int32) (i : Nat) (o : Int32) (n : Nat) : Int32 := sumF (fun s => if s.testBit i = true then (if 0 < (W s - W (s - 2 ^ i)).toInt ∨ (¬ o.toInt = 0 ∧ (W s - W (s - 2 ^ i)).toInt < 0) then 1 else 0) else 0) n
theorem swM_succ (W : Nat → Int32) (i : Nat) (o : Int32) (n : Nat) : swM W i o (n + 1) = swM W i o n + (if n.testBit i = true then (if 0 < (W n - W (n - 2 ^ i)).toInt ∨ (¬ o.toInt = 0 ∧ (W n - W (n - 2 ^ i)).toInt < 0) then 1 else 0) else 0) := rfl
theorem sum01 {g : Nat → Int32} (hg : ∀ s, g s = 0 ∨ g s = 1) : ∀ n, n ≤ 1000 → (0 ≤ (sumF g n).toInt ∧ (sumF g n).toInt ≤ (n : Int)) ∧ ((sumF g n).toInt = 0 ↔ ∀ s, s < n → g s = 0) := by
  intro n
  induction n with
  | zero => intro _; exact ⟨(by decide : (0 : Int) ≤ (0 : Int32).toInt ∧ (0 : Int32).toInt ≤ ((0 : Nat) : Int)), fun _ s hs => absurd hs (Nat.not_lt_zero s), fun _ => rfl⟩
  | succ n ih =>
    intro hn
    obtain ⟨b, ih⟩ := ih (by omega)
    rw [sumF]
    rcases hg n with e | e
    · rw [e, Int32.add_zero]
      refine ⟨by omega, ?_⟩
      rw [ih]
      constructor
      · intro q s hs
        by_cases c : s = n
        · rw [c]; exact e
        · exact q s (by omega)
      · intro q s hs; exact q s (by omega)
    · have e1 : (sumF g n + 1).toInt = (sumF g n).toInt + 1 := i32_add (by show _ ≤ _ + (1 : Int); omega) (by show _ + (1 : Int) ≤ _; omega)
      rw [e, e1]
      refine ⟨by omega, ?_⟩
      constructor
      · intro q; omega
      · intro q
        have := q n (by omega)
        rw [e] at this
        exact absurd this (by decide)
theorem i2 (p : Nat) (i : Nat) (h1 : 1 ≤ p) (h2 : p ≤ 4) (hi : i < p) : (p = 1 ∧ i = 0) ∨ (p = 2 ∧ i = 0) ∨ (p = 2 ∧ i = 1) ∨ (p = 3 ∧ i = 0) ∨ (p = 3 ∧ i = 1) ∨ (p = 3 ∧ i = 2) ∨ (p = 4 ∧ i = 0) ∨ (p = 4 ∧ i = 1) ∨ (p = 4 ∧ i = 2) ∨ (p = 4 ∧ i = 3) := by omega
theorem p16 {p : Nat} (h1 : 1 ≤ p) (h2 : p ≤ 4) : 2 ≤ 2 ^ p ∧ 2 ^ p ≤ 16 := by
  rcases (show p = 1 ∨ p = 2 ∨ p = 3 ∨ p = 4 by omega) with rfl | rfl | rfl | rfl <;> decide
theorem idle_eq {W : Nat → Int32} {p i : Nat} (h1 : 1 ≤ p) (h2 : p ≤ 4) (hi : i < p) : idleB W i (2 ^ p) = decide ((swM W i 1 (2 ^ p)).toInt = 0) := by
  have pw := p16 h1 h2
  have q := sum01 (g := fun s => if s.testBit i = true then (if 0 < (W s - W (s - 2 ^ i)).toInt ∨ (¬ (1 : Int32).toInt = 0 ∧ (W s - W (s - 2 ^ i)).toInt < 0) then 1 else 0) else 0) (fun s => by split; split; exact Or.inr rfl; exact Or.inl rfl; exact Or.inl rfl) (2 ^ p) (by omega)
  have e : idleB W i (2 ^ p) = true ↔ (swM W i 1 (2 ^ p)).toInt = 0 := by
    rw [idleB_iff, swM, q.2]
    constructor
    · intro r s hs
      have b := bt (s := s) (i := i) (by omega) (by omega)
      by_cases c : s.testBit i = true
      · have b6 := b.2.2.2.2.2.1 c
        have z := r (s - 2 ^ i) (Nat.lt_of_le_of_lt (Nat.sub_le _ _) hs)
        rw [gainF, b6.2] at z
        rw [if_pos c, if_neg (by omega)]
      · rw [if_neg c]
    · intro r s hs
      have b := bt (s := s) (i := i) (by omega) (by omega)
      by_cases c : s.testBit i = true
      · rw [gainF, b.2.2.2.1 c, Int32.sub_self]; rfl
      · have b5 := b.2.2.2.2.1 (by simpa using c)
        have z := r (s ||| 2 ^ i) (or_lt hs hi)
        rw [if_pos b5.1, b5.2] at z
        rw [gainF]
        by_cases kc2 : 0 < (W (s ||| 2 ^ i) - W s).toInt ∨ (¬ (1 : Int32).toInt = 0 ∧ (W (s ||| 2 ^ i) - W s).toInt < 0)
        · rw [if_pos kc2] at z; exact absurd z (by decide)
        · have o1 : ¬ (1 : Int32).toInt = 0 := by decide
          omega
  cases c : idleB W i (2 ^ p) with
  | true => rw [decide_eq_true (e.mp c)]
  | false => rw [decide_eq_false (fun q => by rw [e.mpr q] at c; exact absurd c (by decide))]
theorem sumF_shift (g : Nat → Int32) (n : Nat) : sumF g n = sumF g n := rfl
theorem sw_eq {W : Nat → Int32} {p i : Nat} (h1 : 1 ≤ p) (h2 : p ≤ 4) (hi : i < p) : swC W i (2 ^ p) = swM W i 0 (2 ^ p) := by
  have zz : ¬ (0 : Int) < (0 : Int32).toInt := by decide
  rcases i2 p i h1 h2 hi with ⟨rfl, rfl⟩ | ⟨rfl, rfl⟩ | ⟨rfl, rfl⟩ | ⟨rfl, rfl⟩ | ⟨rfl, rfl⟩ | ⟨rfl, rfl⟩ | ⟨rfl, rfl⟩ | ⟨rfl, rfl⟩ | ⟨rfl, rfl⟩ | ⟨rfl, rfl⟩ <;> simp [swC, swM, sumF, gainF, Nat.testBit, Int32.sub_self, zz]
section M45
variable {rod : Nat → Nat × (Nat → Int32)} {d : Nat} {h : MH} {a l : Nat}
theorem ev_t {p : Nat} (hp : (h.1 a 0).toInt = (p : Int)) (p1 : 1 ≤ p ∧ p ≤ 4) : ((1 : Int32) <<< (h.1 a 0 &&& 31) - 1).toInt = ((2 ^ p - 1 : Nat) : Int) ∧ ((1 : Int32) <<< (h.1 a 0 &&& 31)).toInt = ((2 ^ p : Nat) : Int) ∧ 2 ≤ 2 ^ p ∧ 2 ^ p ≤ 16 := by
  have q := all_t (p := h.1 a 0) (by omega) (by omega)
  have r := shl_t (p := h.1 a 0) (by omega) (by omega)
  rw [n_eq hp] at q r
  exact ⟨q.1, r, p16 p1.1 p1.2⟩
theorem s_worth1 (A : BargA h.2 a) (x : Int32) (s : Nat) (hx : x.toInt = (s : Int)) (hs : s < 16) : Tc rod (d + 1) 129 [.inr (.inr (.inl (some a))), .inl x] h (some (.inl (h.1 (a + 1) s))) h := by
  apply Wc.tc
  refine n_Bargain_worthOf ?_
  refine w_Bargain_worthOf_0 (fun kc0 => ?_) (fun kc0 => ?_)
  · try simp only [ite01t, ite01v, Int32.reduceToInt, t_m1, t_m2, t_m1000, Decidable.not_not] at kc0
    refine w_Bargain_worthOf_19 ?_
    refine w_Bargain_worthOf_20 ?_
    first | (exfalso; omega) | exact ⟨by rw [n_eq hx], rfl⟩
  · try simp only [ite01t, ite01v, Int32.reduceToInt, t_m1, t_m2, t_m1000, Decidable.not_not] at kc0
    refine w_Bargain_worthOf_4 (fun kc4 => ?_) (fun kc4 => ?_)
    · try simp only [ite01t, ite01v, Int32.reduceToInt, t_m1, t_m2, t_m1000, Decidable.not_not] at kc4
      refine w_Bargain_worthOf_19 ?_
      refine w_Bargain_worthOf_20 ?_
      first | (exfalso; omega) | exact ⟨by rw [n_eq hx], rfl⟩
    · try simp only [ite01t, ite01v, Int32.reduceToInt, t_m1, t_m2, t_m1000, Decidable.not_not] at kc4
      refine w_Bargain_worthOf_10 A (by first | assumption | omega | (refine ⟨?_, ?_⟩ <;> first | assumption | omega)) ?_
      refine w_Bargain_worthOf_20 ?_
      first | (exfalso; omega) | exact ⟨by rw [n_eq hx], rfl⟩
theorem s_gain (A : BargA h.2 a) (x y : Int32) (s j : Nat) (hx : x.toInt = (s : Int)) (hy : y.toInt = (j : Int)) (hs : s < 16) (hj : j < 4) : Tc rod (d + 2) 142 [.inr (.inr (.inl (some a))), .inl x, .inl y] h (some (.inl (gainF (h.1 (a + 1)) j s))) h := by
  have b := bt hs hj
  have e : (x ||| ((1 : Int32) <<< (y &&& 31))).toInt = ((s ||| 2 ^ j : Nat) : Int) := by rw [ofN hx (by omega), ofN hy (by omega), b.2.1, or_n, t_nat (by omega)]
  apply Wc.tc
  refine n_Bargain_gain ?_
  refine w_Bargain_gain_0 A (Tc.wc (s_worth1 A _ (s ||| 2 ^ j) e b.2.2.2.2.2.2)) (Is.k ?_)
  refine w_Bargain_gain_9 A (Tc.wc (s_worth1 A _ s hx hs)) (Is.k ?_)
  refine w_Bargain_gain_14 ?_
  exact ⟨rfl, rfl⟩
theorem s_isNeeded (A : BargA h.2 a) {p : Nat} (hp : (h.1 a 0).toInt = (p : Int)) (p1 : 1 ≤ p ∧ p ≤ 4) (x : Int32) (j : Nat) (hx : x.toInt = (j : Int)) (hj : j < p) : Tc rod (d + 2) 168 [.inr (.inr (.inl (some a))), .inl x] h (some (.inl (if needB (h.1 (a + 1)) j (2 ^ p) = true then 1 else 0))) h := by
  have ev := ev_t hp p1
  apply Wc.tc
  refine n_Sharing_isNeeded ?_
  refine w_Sharing_isNeeded_0 rfl ?_
  refine Wb.upc (2 ^ p - 1) (fun s L' => ∃ (z : Int32), L' = [some (.inr (.inr (.inl (some a)))), some (.inl x), some (.inl z)] ∧ z.toInt = ((s + 1 : Nat) : Int) ∧ needB (h.1 (a + 1)) j (s + 1) = true) ?_ (Nat.zero_le _) ⟨1, rfl, rfl, rfl⟩
  rintro s _ hs ⟨z, rfl, hz, hn⟩ ih
  refine w_Sharing_isNeeded_2 A (Tc.wc (s_everybody A)) (Is.k ?_)
  refine w_Sharing_isNeeded_7 (fun kc7 => ?_) (fun kc7 => ?_)
  · (try simp only [ite01t, ite01v, Int32.reduceToInt, t_m1, t_m2, t_m1000, Decidable.not_not] at kc7); (try simp only [ev.1] at kc7)
    refine w_Sharing_isNeeded_34 ?_
    exact ⟨by rw [if_pos (by rw [show 2 ^ p = s + 1 by omega]; exact hn)], rfl⟩
  · (try simp only [ite01t, ite01v, Int32.reduceToInt, t_m1, t_m2, t_m1000, Decidable.not_not] at kc7); (try simp only [ev.1] at kc7)
    have b := bt (s := s + 1) (i := j) (by omega) (by omega)
    have bz : ((z >>> (x &&& 31)) &&& 1).toInt = (if (s + 1).testBit j = true then 1 else 0) := by rw [ofN hz (by omega), ofN hx (by omega)]; exact b.1
    refine w_Sharing_isNeeded_10 (fun kc10 => ?_) (fun kc10 => ?_)
    · (try simp only [ite01t, ite01v, Int32.reduceToInt, t_m1, t_m2, t_m1000, Decidable.not_not] at kc10); (try simp only [ev.1] at kc10)
      refine w_Sharing_isNeeded_28 rfl ?_
      refine ih (by omega) _ ⟨_, rfl, t_succ hz (by omega), ?_⟩
      rw [needB, hn, Bool.true_and, Bool.or_eq_true, Bool.or_eq_true]
      refine Or.inr ?_
      first | exact Or.inr (decide_eq_true kc23) | (refine Or.inl (Classical.byContradiction fun q => ?_); rw [if_neg q] at bz; omega)
    · (try simp only [ite01t, ite01v, Int32.reduceToInt, t_m1, t_m2, t_m1000, Decidable.not_not] at kc10); (try simp only [ev.1] at kc10)
      refine w_Sharing_isNeeded_18 A (Tc.wc (s_worth1 A z (s + 1) hz (by omega))) (Is.k ?_)
      refine w_Sharing_isNeeded_23 (fun kc23 => ?_) (fun kc23 => ?_)
      · (try simp only [ite01t, ite01v, Int32.reduceToInt, t_m1, t_m2, t_m1000, Decidable.not_not] at kc23); (try simp only [ev.1] at kc23)
        refine w_Sharing_isNeeded_28 rfl ?_
        refine ih (by omega) _ ⟨_, rfl, t_succ hz (by omega), ?_⟩
        rw [needB, hn, Bool.true_and, Bool.or_eq_true, Bool.or_eq_true]
        refine Or.inr ?_
        first | exact Or.inr (decide_eq_true kc23) | (refine Or.inl (Classical.byContradiction fun q => ?_); rw [if_neg q] at bz; omega)
      · (try simp only [ite01t, ite01v, Int32.reduceToInt, t_m1, t_m2, t_m1000, Decidable.not_not] at kc23); (try simp only [ev.1] at kc23)
        refine w_Sharing_isNeeded_26 ?_
        refine ⟨?_, rfl⟩
        rw [if_neg]
        rw [needB_no (j := s + 2) ?_ (by omega)]
        · exact Bool.false_ne_true
        have q : (s + 1).testBit j = false := by
          cases qq : (s + 1).testBit j with
          | false => rfl
          | true => rw [qq, if_pos rfl] at bz; exact absurd (bz.symm.trans kc10) (by decide)
        rw [needB, hn, Bool.true_and, q, decide_eq_false kc23]
        rfl
theorem s_needed (A : BargA h.2 a) {p : Nat} (hp : (h.1 a 0).toInt = (p : Int)) (p1 : 1 ≤ p ∧ p ≤ 4) : Tc rod (d + 3) 167 [.inr (.inr (.inl (some 78))), .inr (.inr (.inl (some a)))] h (some (.inl (bitsF (fun j => needB (h.1 (a + 1)) j (2 ^ p)) p))) h := by
  apply Wc.tc
  refine n_Sharing_needed ?_
  refine w_Sharing_needed_0 rfl ?_
  refine Wb.upc p (fun j L' => ∃ (z m : Int32), L' = [some (.inr (.inr (.inl (some 78)))), some (.inr (.inr (.inl (some a)))), some (.inl m), some (.inl z)] ∧ z.toInt = (j : Int) ∧ m = bitsF (fun j => needB (h.1 (a + 1)) j (2 ^ p)) j) ?_ (Nat.zero_le _) ⟨0, 0, rfl, rfl, rfl⟩
  rintro j _ hj ⟨z, m, rfl, hz, hm⟩ ih
  refine w_Sharing_needed_4 A (fun kc4 => ?_) (fun kc4 => ?_)
  · try simp only [ite01t, ite01v, Int32.reduceToInt, t_m1, t_m2, t_m1000, Decidable.not_not] at kc4
    refine w_Sharing_needed_32 ?_
    exact ⟨by rw [hm, show j = p by omega], rfl⟩
  · try simp only [ite01t, ite01v, Int32.reduceToInt, t_m1, t_m2, t_m1000, Decidable.not_not] at kc4
    refine w_Sharing_needed_12 (Tc.wc (s_isNeeded A hp p1 z j hz (by omega))) (Is.k ?_)
    refine w_Sharing_needed_17 (fun kc17 => ?_) (fun kc17 => ?_)
    · try simp only [ite01t, ite01v, Int32.reduceToInt, t_m1, t_m2, t_m1000, Decidable.not_not] at kc17
      refine w_Sharing_needed_26 rfl ?_
      refine ih (by omega) _ ⟨_, _, rfl, t_succ hz (by omega), ?_⟩
      rw [bitsF, ← hm]
      first | rw [if_neg kc17, Int32.or_zero] | rw [if_pos kc17, ofN hz (by omega)]
    · try simp only [ite01t, ite01v, Int32.reduceToInt, t_m1, t_m2, t_m1000, Decidable.not_not] at kc17
      refine w_Sharing_needed_20 rfl ?_
      refine w_Sharing_needed_26 rfl ?_
      refine ih (by omega) _ ⟨_, _, rfl, t_succ hz (by omega), ?_⟩
      rw [bitsF, ← hm]
      first | rw [if_neg kc17, Int32.or_zero] | rw [if_pos kc17, ofN hz (by omega)]
theorem s_isIdle (A : BargA h.2 a) {p : Nat} (hp : (h.1 a 0).toInt = (p : Int)) (p1 : 1 ≤ p ∧ p ≤ 4) (x : Int32) (j : Nat) (hx : x.toInt = (j : Int)) (hj : j < p) : Tc rod (d + 3) 170 [.inr (.inr (.inl (some a))), .inl x] h (some (.inl (if idleB (h.1 (a + 1)) j (2 ^ p) = true then 1 else 0))) h := by
  have ev := ev_t hp p1
  apply Wc.tc
  refine n_Sharing_isIdle ?_
  refine w_Sharing_isIdle_0 rfl ?_
  refine Wb.upc (2 ^ p) (fun s L' => ∃ (z : Int32), L' = [some (.inr (.inr (.inl (some a)))), some (.inl x), some (.inl z)] ∧ z.toInt = (s : Int) ∧ idleB (h.1 (a + 1)) j s = true) ?_ (Nat.zero_le _) ⟨0, rfl, rfl, rfl⟩
  rintro s _ hs ⟨z, rfl, hz, hn⟩ ih
  refine w_Sharing_isIdle_2 A (Tc.wc (s_everybody A)) (Is.k ?_)
  refine w_Sharing_isIdle_7 (fun kc7 => ?_) (fun kc7 => ?_)
  · (try simp only [ite01t, ite01v, Int32.reduceToInt, t_m1, t_m2, t_m1000, Decidable.not_not] at kc7); (try simp only [ev.1] at kc7)
    refine w_Sharing_isIdle_27 ?_
    exact ⟨by rw [if_pos (by rw [show 2 ^ p = s by omega]; exact hn)], rfl⟩
  · (try simp only [ite01t, ite01v, Int32.reduceToInt, t_m1, t_m2, t_m1000, Decidable.not_not] at kc7); (try simp only [ev.1] at kc7)
    refine w_Sharing_isIdle_10 A (Tc.wc (s_gain A z x s j hz hx (by omega) (by omega))) (Is.k ?_)
    refine w_Sharing_isIdle_16 (fun kc16 => ?_) (fun kc16 => ?_)
    · (try simp only [ite01t, ite01v, Int32.reduceToInt, t_m1, t_m2, t_m1000, Decidable.not_not] at kc16); (try simp only [ev.1] at kc16)
      refine w_Sharing_isIdle_21 rfl ?_
      refine ih (by omega) _ ⟨_, rfl, t_succ hz (by omega), ?_⟩
      rw [idleB, hn, Bool.true_and]
      exact decide_eq_true kc16
    · (try simp only [ite01t, ite01v, Int32.reduceToInt, t_m1, t_m2, t_m1000, Decidable.not_not] at kc16); (try simp only [ev.1] at kc16)
      refine w_Sharing_isIdle_19 ?_
      refine ⟨?_, rfl⟩
      rw [if_neg]
      rw [idleB_no (j := s + 1) ?_ (by omega)]
      · exact Bool.false_ne_true
      rw [idleB, hn, Bool.true_and, decide_eq_false kc16]
theorem s_idle (A : BargA h.2 a) {p : Nat} (hp : (h.1 a 0).toInt = (p : Int)) (p1 : 1 ≤ p ∧ p ≤ 4) : Tc rod (d + 4) 169 [.inr (.inr (.inl (some 78))), .inr (.inr (.inl (some a)))] h (some (.inl (bitsF (fun j => idleB (h.1 (a + 1)) j (2 ^ p)) p))) h := by
  apply Wc.tc
  refine n_Sharing_idle ?_
  refine w_Sharing_idle_0 rfl ?_
  refine Wb.upc p (fun j L' => ∃ (z m : Int32), L' = [some (.inr (.inr (.inl (some 78)))), some (.inr (.inr (.inl (some a)))), some (.inl m), some (.inl z)] ∧ z.toInt = (j : Int) ∧ m = bitsF (fun j => idleB (h.1 (a + 1)) j (2 ^ p)) j) ?_ (Nat.zero_le _) ⟨0, 0, rfl, rfl, rfl⟩
  rintro j _ hj ⟨z, m, rfl, hz, hm⟩ ih
  refine w_Sharing_idle_4 A (fun kc4 => ?_) (fun kc4 => ?_)
  · try simp only [ite01t, ite01v, Int32.reduceToInt, t_m1, t_m2, t_m1000, Decidable.not_not] at kc4
    refine w_Sharing_idle_32 ?_
    exact ⟨by rw [hm, show j = p by omega], rfl⟩
  · try simp only [ite01t, ite01v, Int32.reduceToInt, t_m1, t_m2, t_m1000, Decidable.not_not] at kc4
    refine w_Sharing_idle_12 (Tc.wc (s_isIdle A hp p1 z j hz (by omega))) (Is.k ?_)
    refine w_Sharing_idle_17 (fun kc17 => ?_) (fun kc17 => ?_)
    · try simp only [ite01t, ite01v, Int32.reduceToInt, t_m1, t_m2, t_m1000, Decidable.not_not] at kc17
      refine w_Sharing_idle_26 rfl ?_
      refine ih (by omega) _ ⟨_, _, rfl, t_succ hz (by omega), ?_⟩
      rw [bitsF, ← hm]
      first | rw [if_neg kc17, Int32.or_zero] | rw [if_pos kc17, ofN hz (by omega)]
    · try simp only [ite01t, ite01v, Int32.reduceToInt, t_m1, t_m2, t_m1000, Decidable.not_not] at kc17
      refine w_Sharing_idle_20 rfl ?_
      refine w_Sharing_idle_26 rfl ?_
      refine ih (by omega) _ ⟨_, _, rfl, t_succ hz (by omega), ?_⟩
      rw [bitsF, ← hm]
      first | rw [if_neg kc17, Int32.or_zero] | rw [if_pos kc17, ofN hz (by omega)]
theorem s_swings (A : BargA h.2 a) {p : Nat} (hp : (h.1 a 0).toInt = (p : Int)) (p1 : 1 ≤ p ∧ p ≤ 4) (x : Int32) (j : Nat) (hx : x.toInt = (j : Int)) (hj : j < p) : Tc rod (d + 3) 171 [.inr (.inr (.inl (some 78))), .inr (.inr (.inl (some a))), .inl x] h (some (.inl (swC (h.1 (a + 1)) j (2 ^ p)))) h := by
  have ev := ev_t hp p1
  apply Wc.tc
  refine n_Sharing_swings ?_
  refine w_Sharing_swings_0 rfl ?_
  refine Wb.upc (2 ^ p) (fun s L' => ∃ (z m : Int32), L' = [some (.inr (.inr (.inl (some 78)))), some (.inr (.inr (.inl (some a)))), some (.inl x), some (.inl m), some (.inl z)] ∧ z.toInt = (s : Int) ∧ m = swC (h.1 (a + 1)) j s) ?_ (Nat.zero_le _) ⟨0, 0, rfl, rfl, rfl⟩
  rintro s _ hs ⟨z, m, rfl, hz, hm⟩ ih
  refine w_Sharing_swings_5 A (Tc.wc (s_everybody A)) (Is.k ?_)
  refine w_Sharing_swings_11 (fun kc11 => ?_) (fun kc11 => ?_)
  · (try simp only [ite01t, ite01v, Int32.reduceToInt, t_m1, t_m2, t_m1000, Decidable.not_not] at kc11); (try simp only [ev.1] at kc11)
    refine w_Sharing_swings_33 ?_
    exact ⟨by rw [hm, show 2 ^ p = s by omega], rfl⟩
  · (try simp only [ite01t, ite01v, Int32.reduceToInt, t_m1, t_m2, t_m1000, Decidable.not_not] at kc11); (try simp only [ev.1] at kc11)
    refine w_Sharing_swings_14 A (Tc.wc (s_gain A z x s j hz hx (by omega) (by omega))) (Is.k ?_)
    refine w_Sharing_swings_21 (fun kc21 => ?_) (fun kc21 => ?_)
    · (try simp only [ite01t, ite01v, Int32.reduceToInt, t_m1, t_m2, t_m1000, Decidable.not_not] at kc21); (try simp only [ev.1] at kc21)
      refine w_Sharing_swings_27 rfl ?_
      refine ih (by omega) _ ⟨_, _, rfl, t_succ hz (by omega), ?_⟩
      rw [swC_succ, ← hm]
      first | rw [if_neg (by omega), Int32.add_zero] | rw [if_pos (by omega)]
    · (try simp only [ite01t, ite01v, Int32.reduceToInt, t_m1, t_m2, t_m1000, Decidable.not_not] at kc21); (try simp only [ev.1] at kc21)
      refine w_Sharing_swings_24 rfl ?_
      refine w_Sharing_swings_27 rfl ?_
      refine ih (by omega) _ ⟨_, _, rfl, t_succ hz (by omega), ?_⟩
      rw [swC_succ, ← hm]
      first | rw [if_neg (by omega), Int32.add_zero] | rw [if_pos (by omega)]
end M45
