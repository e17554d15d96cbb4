/-! LEDGERS: what should be there, who opened, what is missing -/
def dueF (G : Nat → Nat → Int32) : Nat → Int32
  | 0 => 0
  | k + 1 => if (G 1 k).toInt = 0 then dueF G k + G 2 k else if (G 1 k).toInt = 1 then dueF G k - G 2 k else if (G 1 k).toInt = 2 then G 2 k else dueF G k
def opF (G : Nat → Nat → Int32) : Nat → Int32
  | 0 => 0
  | k + 1 => if (G 1 k).toInt = 3 then opF G k ||| ((1 : Int32) <<< (G 2 k &&& 31)) else if (G 1 k).toInt = 2 then 0 else opF G k
def missF (G : Nat → Nat → Int32) (k : Nat) : Int32 := dueF G k - G 2 k
/-- the numbers of a ledger of n entries -/
def GOk (G : Nat → Nat → Int32) (n : Nat) : Prop := n ≤ 20 ∧ ∀ k, k < n → (0 ≤ (G 1 k).toInt ∧ (G 1 k).toInt ≤ 3) ∧ 0 ≤ (G 2 k).toInt ∧ (G 2 k).toInt ≤ 99
theorem dueF_bd {G : Nat → Nat → Int32} {n : Nat} (g : GOk G n) : ∀ k, k ≤ n → -99 * (k : Int) ≤ (dueF G k).toInt ∧ (dueF G k).toInt ≤ 99 * (k : Int) := by
  intro k
  induction k with
  | zero => intro _; exact (by decide : -99 * ((0 : Nat) : Int) ≤ (0 : Int32).toInt ∧ (0 : Int32).toInt ≤ 99 * ((0 : Nat) : Int))
  | succ k ih =>
    intro hk
    have ih := ih (by omega)
    have g1 := g.1
    have q := g.2 k (by omega)
    rw [dueF]
    split
    · rw [i32_add (by omega) (by omega)]; omega
    · split
      · rw [i32_sub (by omega) (by omega)]; omega
      · split <;> omega
theorem missF_t {G : Nat → Nat → Int32} {n : Nat} (g : GOk G n) {k : Nat} (hk : k < n) : (missF G k).toInt = (dueF G k).toInt - (G 2 k).toInt ∧ -3000 ≤ (missF G k).toInt ∧ (missF G k).toInt ≤ 3000 := by
  have b := dueF_bd g k (by omega)
  have q := g.2 k hk
  have g1 := g.1
  have e : (missF G k).toInt = (dueF G k).toInt - (G 2 k).toInt := i32_sub (by omega) (by omega)
  omega
section M41
variable {rod : Nat → Nat × (Nat → Int32)} {d : Nat} {h : MH} {a l : Nat}

theorem LedgerRel.ok (r : LedgerRel h a l) {n : Nat} (hn : (h.1 a 0).toInt = (n : Int)) : GOk (gd h a) n := by
  have q := r.en
  refine ⟨by omega, fun k hk => ?_⟩
  have q := r.2.2 k (by omega)
  exact ⟨q.2.2.1, q.2.2.2.1⟩
theorem LedgerRel.ofE (r : LedgerRel h a l) {k : Nat} (hk : (k : Int) < (h.1 a 0).toInt) : h.1 85 (l + 1 + 2 * k) = h.1 (a + 1) k ∧ h.1 85 (l + 2 + 2 * k) = h.1 (a + 2) k := by
  have q := r.2.2 k hk
  exact ⟨q.1.symm, q.2.1.symm⟩
theorem s_hasEntry (A : LedgerA h.2 a) (x : Int32) : Tc rod (d + 1) 117 [.inr (.inr (.inl (some a))), .inl x] h (some (.inl (if 0 ≤ x.toInt ∧ x.toInt < (h.1 a 0).toInt then 1 else 0))) h := by
  apply Wc.tc
  refine n_Ledger_hasEntry ?_
  refine w_Ledger_hasEntry_0 (fun c0 => ?_) (fun c0 => ?_)
  · try simp only [ite01t, ite01v, Int32.reduceToInt, t_m1, t_m2, t_m1000, Decidable.not_not] at c0
    refine w_Ledger_hasEntry_16 ?_
    refine w_Ledger_hasEntry_17 (by first | exact Or.inl rfl | exact Or.inr rfl | exact or01 | assumption) ?_
    exact ⟨by first | (exfalso; omega) | rw [if_pos (by omega)] | rw [if_neg (by omega)], rfl⟩
  · try simp only [ite01t, ite01v, Int32.reduceToInt, t_m1, t_m2, t_m1000, Decidable.not_not] at c0
    refine w_Ledger_hasEntry_4 A (fun c4 => ?_) (fun c4 => ?_)
    · try simp only [ite01t, ite01v, Int32.reduceToInt, t_m1, t_m2, t_m1000, Decidable.not_not] at c4
      refine w_Ledger_hasEntry_16 ?_
      refine w_Ledger_hasEntry_17 (by first | exact Or.inl rfl | exact Or.inr rfl | exact or01 | assumption) ?_
      exact ⟨by first | (exfalso; omega) | rw [if_pos (by omega)] | rw [if_neg (by omega)], rfl⟩
    · try simp only [ite01t, ite01v, Int32.reduceToInt, t_m1, t_m2, t_m1000, Decidable.not_not] at c4
      refine w_Ledger_hasEntry_12 ?_
      refine w_Ledger_hasEntry_17 (by first | exact Or.inl rfl | exact Or.inr rfl | exact or01 | assumption) ?_
      exact ⟨by first | (exfalso; omega) | rw [if_pos (by omega)] | rw [if_neg (by omega)], rfl⟩
theorem s_missingAt {n : Nat} (A : LedgerA h.2 a) (g : GOk (gd h a) n) (hn : (h.1 a 0).toInt = (n : Int)) (x : Int32) (k : Nat) (hx : x.toInt = (k : Int)) (hk : k < n) : Tc rod (d + 2) 119 [.inr (.inr (.inl (some a))), .inl x] h (some (.inl (missF (gd h a) k))) h := by
  have g1 := g.1
  have ex := n_eq hx
  apply Wc.tc
  refine n_Ledger_missingAt ?_
  refine w_Ledger_missingAt_0 rfl ?_
  refine Wb.upc k (fun j L' => ∃ (z m : Int32), L' = [some (.inr (.inr (.inl (some a)))), some (.inl x), some (.inl m), some (.inl z)] ∧ z.toInt = (j : Int) ∧ m = dueF (gd h a) j) ?_ (Nat.zero_le k) ⟨0, 0, rfl, rfl, rfl⟩
  rintro j _ hj ⟨z, m, rfl, hz, hm⟩ ih
  have ez := n_eq hz
  have w1 : (gd h a 1 j).toInt = (h.1 (a + 1) j).toInt := rfl
  have w2 : gd h a 2 j = h.1 (a + 2) j := rfl
  refine w_Ledger_missingAt_4 (fun c4 => ?_) (fun c4 => ?_)
  · try simp only [ite01t, ite01v, Int32.reduceToInt, t_m1, t_m2, t_m1000, Decidable.not_not] at c4
    refine w_Ledger_missingAt_88 A (Tc.wc (s_hasEntry A _)) (Is.k ?_)
    refine w_Ledger_missingAt_93 (fun c93 => (by exfalso; simp only [ite01t] at c93; omega)) (fun c93 => ?_)
    try simp only [ite01t, ite01v, Int32.reduceToInt, t_m1, t_m2, t_m1000, Decidable.not_not] at c93
    refine w_Ledger_missingAt_96 A (by first | assumption | omega | (refine ⟨?_, ?_⟩ <;> first | assumption | omega)) ?_
    refine w_Ledger_missingAt_108 ?_
    have hj : j = k := by omega
    subst hj
    exact ⟨by rw [hm, ex]; rfl, rfl⟩
  · try simp only [ite01t, ite01v, Int32.reduceToInt, t_m1, t_m2, t_m1000, Decidable.not_not] at c4
    refine w_Ledger_missingAt_9 A (fun c9 => ?_) (fun c9 => ?_)
    · try simp only [ite01t, ite01v, Int32.reduceToInt, t_m1, t_m2, t_m1000, Decidable.not_not] at c9
      refine w_Ledger_missingAt_88 A (Tc.wc (s_hasEntry A _)) (Is.k ?_)
      refine w_Ledger_missingAt_93 (fun c93 => (by exfalso; simp only [ite01t] at c93; omega)) (fun c93 => ?_)
      try simp only [ite01t, ite01v, Int32.reduceToInt, t_m1, t_m2, t_m1000, Decidable.not_not] at c93
      refine w_Ledger_missingAt_96 A (by first | assumption | omega | (refine ⟨?_, ?_⟩ <;> first | assumption | omega)) ?_
      refine w_Ledger_missingAt_108 ?_
      have hj : j = k := by omega
      subst hj
      exact ⟨by rw [hm, ex]; rfl, rfl⟩
    · try simp only [ite01t, ite01v, Int32.reduceToInt, t_m1, t_m2, t_m1000, Decidable.not_not] at c9
      refine w_Ledger_missingAt_17 A (by first | assumption | omega | (refine ⟨?_, ?_⟩ <;> first | assumption | omega)) (fun c17 => ?_) (fun c17 => ?_) (fun c17 => ?_) (fun c17_0 c17_1 c17_2 => ?_)
      · refine w_Ledger_missingAt_48 A (by first | assumption | omega | (refine ⟨?_, ?_⟩ <;> first | assumption | omega)) rfl ?_
        refine w_Ledger_missingAt_82 rfl ?_
        refine ih (by omega) _ ⟨_, _, rfl, t_succ hz (by omega), ?_⟩
        simp only [ez] at *
        rw [dueF, ← hm, w2, w1]
        first | rw [if_pos (by omega)] | rw [if_neg (by omega), if_pos (by omega)] | rw [if_neg (by omega), if_neg (by omega), if_pos (by omega)] | rw [if_neg (by omega), if_neg (by omega), if_neg (by omega)]
      · refine w_Ledger_missingAt_60 A (by first | assumption | omega | (refine ⟨?_, ?_⟩ <;> first | assumption | omega)) rfl ?_
        refine w_Ledger_missingAt_82 rfl ?_
        refine ih (by omega) _ ⟨_, _, rfl, t_succ hz (by omega), ?_⟩
        simp only [ez] at *
        rw [dueF, ← hm, w2, w1]
        first | rw [if_pos (by omega)] | rw [if_neg (by omega), if_pos (by omega)] | rw [if_neg (by omega), if_neg (by omega), if_pos (by omega)] | rw [if_neg (by omega), if_neg (by omega), if_neg (by omega)]
      · refine w_Ledger_missingAt_72 A (by first | assumption | omega | (refine ⟨?_, ?_⟩ <;> first | assumption | omega)) rfl ?_
        refine w_Ledger_missingAt_82 rfl ?_
        refine ih (by omega) _ ⟨_, _, rfl, t_succ hz (by omega), ?_⟩
        simp only [ez] at *
        rw [dueF, ← hm, w2, w1]
        first | rw [if_pos (by omega)] | rw [if_neg (by omega), if_pos (by omega)] | rw [if_neg (by omega), if_neg (by omega), if_pos (by omega)] | rw [if_neg (by omega), if_neg (by omega), if_neg (by omega)]
      · refine w_Ledger_missingAt_82 rfl ?_
        refine ih (by omega) _ ⟨_, _, rfl, t_succ hz (by omega), ?_⟩
        simp only [ez] at *
        rw [dueF, ← hm, w2, w1]
        first | rw [if_pos (by omega)] | rw [if_neg (by omega), if_pos (by omega)] | rw [if_neg (by omega), if_neg (by omega), if_pos (by omega)] | rw [if_neg (by omega), if_neg (by omega), if_neg (by omega)]
theorem s_gToldOf {n : Nat} (A : LedgerA h.2 a) (g : GOk (gd h a) n) (hn : (h.1 a 0).toInt = (n : Int)) (x w : Int32) : Tc rod (d + 3) 118 [.inr (.inr (.inl (some a))), .inl x, .inl w] h (some (.inl (if (0 ≤ x.toInt ∧ x.toInt < (h.1 a 0).toInt) ∧ 0 ≤ w.toInt ∧ w.toInt ≤ 3 then (if w.toInt = 0 then h.1 (a + 1) x.toNatClampNeg else if w.toInt = 1 then h.1 (a + 2) x.toNatClampNeg else if (h.1 (a + 1) x.toNatClampNeg).toInt = 2 then (if w.toInt = 2 then (if (0 : Int32) < missF (gd h a) x.toNatClampNeg then missF (gd h a) x.toNatClampNeg else 0) else (if (0 : Int32) < -missF (gd h a) x.toNatClampNeg then -missF (gd h a) x.toNatClampNeg else 0)) else -1) else -2))) h := by
  have g1 := g.1
  apply Wc.tc
  refine n_Ledger_toldOf ?_
  refine w_Ledger_toldOf_0 A (Tc.wc (s_hasEntry A _)) (Is.k ?_)
  refine w_Ledger_toldOf_5 (fun c5 => ?_) (fun c5 => ?_)
  · try simp only [ite01t, ite01v, Int32.reduceToInt, t_m1, t_m2, t_m1000, Decidable.not_not] at c5
    refine w_Ledger_toldOf_17 ?_
    exact ⟨by rw [if_neg (by omega)], rfl⟩
  · try simp only [ite01t, ite01v, Int32.reduceToInt, t_m1, t_m2, t_m1000, Decidable.not_not] at c5
    refine w_Ledger_toldOf_8 (fun c8 => ?_) (fun c8 => ?_)
    · try simp only [ite01t, ite01v, Int32.reduceToInt, t_m1, t_m2, t_m1000, Decidable.not_not] at c8
      refine w_Ledger_toldOf_17 ?_
      exact ⟨by rw [if_neg (by omega)], rfl⟩
    · try simp only [ite01t, ite01v, Int32.reduceToInt, t_m1, t_m2, t_m1000, Decidable.not_not] at c8
      refine w_Ledger_toldOf_12 (fun c12 => ?_) (fun c12 => ?_)
      · try simp only [ite01t, ite01v, Int32.reduceToInt, t_m1, t_m2, t_m1000, Decidable.not_not] at c12
        refine w_Ledger_toldOf_20 (fun c20 => ?_) (fun c20 => ?_)
        · try simp only [ite01t, ite01v, Int32.reduceToInt, t_m1, t_m2, t_m1000, Decidable.not_not] at c20
          refine w_Ledger_toldOf_31 (fun c31 => ?_) (fun c31 => ?_)
          · try simp only [ite01t, ite01v, Int32.reduceToInt, t_m1, t_m2, t_m1000, Decidable.not_not] at c31
            refine w_Ledger_toldOf_43 A (by first | assumption | omega | (refine ⟨?_, ?_⟩ <;> first | assumption | omega)) (fun c43 => ?_) (fun c43 => ?_)
            · try simp only [ite01t, ite01v, Int32.reduceToInt, t_m1, t_m2, t_m1000, Decidable.not_not] at c43
              refine w_Ledger_toldOf_55 A (Tc.wc (s_missingAt A g hn x x.toNatClampNeg (n_of (by omega)) (n_lt (by omega) (by omega)))) (Is.k ?_)
              refine w_Ledger_toldOf_60 (fun c60 => ?_) (fun c60 => ?_)
              · try simp only [ite01t, ite01v, Int32.reduceToInt, t_m1, t_m2, t_m1000, Decidable.not_not] at c60
                refine w_Ledger_toldOf_71 ?_
                refine w_Ledger_toldOf_73 ?_
                exact ⟨by rw [if_pos (c := _ ∧ _) (by omega), if_neg (c := w.toInt = 0) (by omega), if_neg (c := w.toInt = 1) (by omega), if_pos (c := _ = 2) (by omega)]; first | rw [if_pos (c := w.toInt = 2) (by omega)] | rw [if_neg (c := w.toInt = 2) (by omega)], rfl⟩
              · try simp only [ite01t, ite01v, Int32.reduceToInt, t_m1, t_m2, t_m1000, Decidable.not_not] at c60
                refine w_Ledger_toldOf_67 ?_
                refine w_Ledger_toldOf_73 ?_
                exact ⟨by rw [if_pos (c := _ ∧ _) (by omega), if_neg (c := w.toInt = 0) (by omega), if_neg (c := w.toInt = 1) (by omega), if_pos (c := _ = 2) (by omega)]; first | rw [if_pos (c := w.toInt = 2) (by omega)] | rw [if_neg (c := w.toInt = 2) (by omega)], rfl⟩
            · try simp only [ite01t, ite01v, Int32.reduceToInt, t_m1, t_m2, t_m1000, Decidable.not_not] at c43
              refine w_Ledger_toldOf_53 ?_
              exact ⟨by rw [if_pos (by omega), if_neg (by omega), if_neg (by omega), if_neg (by omega)], rfl⟩
          · try simp only [ite01t, ite01v, Int32.reduceToInt, t_m1, t_m2, t_m1000, Decidable.not_not] at c31
            refine w_Ledger_toldOf_36 A (by first | assumption | omega | (refine ⟨?_, ?_⟩ <;> first | assumption | omega)) ?_
            exact ⟨by rw [if_pos (by omega), if_neg (by omega), if_pos (by omega)], rfl⟩
        · try simp only [ite01t, ite01v, Int32.reduceToInt, t_m1, t_m2, t_m1000, Decidable.not_not] at c20
          refine w_Ledger_toldOf_24 A (by first | assumption | omega | (refine ⟨?_, ?_⟩ <;> first | assumption | omega)) ?_
          exact ⟨by rw [if_pos (by omega), if_pos (by omega)], rfl⟩
      · try simp only [ite01t, ite01v, Int32.reduceToInt, t_m1, t_m2, t_m1000, Decidable.not_not] at c12
        refine w_Ledger_toldOf_17 ?_
        exact ⟨by rw [if_neg (by omega)], rfl⟩
/-- the reference has a ledger at hand, of n entries -/
def MLed (h : MH) (a l n : Nat) : Prop := LedgerRel h a l ∧ l ≤ 1073 ∧ (h.1 84 38).toInt = (l : Int) ∧ (h.1 a 0).toInt = (n : Int)
/-- behind k entries -/
def LInv (h : MH) (a k : Nat) : Prop := h.1 84 39 = dueF (gd h a) k ∧ (if 0 < k ∧ (gd h a 1 (k - 1)).toInt = 2 then 0 else h.1 84 40) = opF (gd h a) k
theorem MLed.keep {n : Nat} {h' : MH} (M : MLed h a l n) (k : Keep h h') (ha : a + 3 ≤ 45) (e : h'.1 84 38 = h.1 84 38) : MLed h' a l n := by
  obtain ⟨r, q, m1, m2⟩ := M
  have ea : h'.1 a = h.1 a := k.2 a (by simp only [Scr]; omega)
  exact ⟨r.keep (fun c h1 h2 => k.2 c (by simp only [Scr]; omega)) (k.2 85 (by simp only [Scr]; omega)), q, by rw [e]; exact m1, by rw [ea]; exact m2⟩
theorem s_enters {n : Nat} (M : MLed h a l n) (L : Lay h.2) (ha : a + 3 ≤ 45) (x : Int32) (k : Nat) (hx : x.toInt = (k : Int)) (hk : k < n) (V : LInv h a k) : Wc rod (d + 1) 277 [.inr (.inr (.inl (some 84))), .inl x] h (fun r h' => r = none ∧ Keep h h' ∧ MLed h' a l n ∧ LInv h' a (k + 1) ∧ ((gd h a 1 k).toInt = 2 → h'.1 84 41 = missF (gd h a) k ∧ h'.1 84 40 = opF (gd h a) k)) := by
  have hl := M.2.1
  have g := M.1.ok M.2.2.2
  have g1 := g.1
  have gk := g.2 k hk
  have e1 := (n_add (n_add M.2.2.1 (show (1 : Int32).toInt = ((1 : Nat) : Int) from rfl) (by omega)) (n_mul (show (2 : Int32).toInt = ((2 : Nat) : Int) from rfl) hx (by omega)) (by omega))
  have e2 := (n_add (n_add M.2.2.1 (show (2 : Int32).toInt = ((2 : Nat) : Int) from rfl) (by omega)) (n_mul (show (2 : Int32).toInt = ((2 : Nat) : Int) from rfl) hx (by omega)) (by omega))
  have f1 : h.1 85 (h.1 84 38 + 1 + 2 * x).toNatClampNeg = gd h a 1 k := by rw [n_eq e1]; exact (M.1.ofE (by rw [M.2.2.2]; omega)).1
  have f2 : h.1 85 (h.1 84 38 + 2 + 2 * x).toNatClampNeg = gd h a 2 k := by rw [n_eq e2]; exact (M.1.ofE (by rw [M.2.2.2]; omega)).2
  obtain ⟨v1, v2⟩ := V
  have fin : ∀ h' : MH, Keep h h' → h'.1 84 38 = h.1 84 38 → h'.1 84 39 = dueF (gd h a) (k + 1) → h'.1 84 40 = (if (gd h a 1 k).toInt = 3 then opF (gd h a) k ||| ((1 : Int32) <<< (gd h a 2 k &&& 31)) else opF (gd h a) k) → ((gd h a 1 k).toInt = 2 → h'.1 84 41 = missF (gd h a) k) → (none : Option MV) = none ∧ Keep h h' ∧ MLed h' a l n ∧ LInv h' a (k + 1) ∧ ((gd h a 1 k).toInt = 2 → h'.1 84 41 = missF (gd h a) k ∧ h'.1 84 40 = opF (gd h a) k) := by
    intro h' K a1 a2 a3 a4
    have dd := gdk K ha
    refine ⟨rfl, K, M.keep K ha a1, ⟨by rw [dd]; exact a2, ?_⟩, fun c => ⟨a4 c, by rw [a3, if_neg (by omega)]⟩⟩
    rw [dd, opF, a3, Nat.add_sub_cancel]
    by_cases c3 : (gd h a 1 k).toInt = 3
    · rw [if_neg (by omega), if_pos c3, if_pos c3]
    · rw [if_neg c3, if_neg c3]
      by_cases c2 : (gd h a 1 k).toInt = 2
      · rw [if_pos (by omega), if_pos c2]
      · rw [if_neg (by omega), if_neg c2]
  refine n_Model_enters ?_
  refine w_Model_enters_0 L (by rw [e1]; omega) (by rw [e2]; omega) (fun c0 => ?_) (fun c0 => ?_)
  · (try rw [f3] at c0)
    first | have v3 : h.1 84 40 = opF (gd h a) k := (by rw [if_neg (by omega)] at v2; exact v2) | have v3 : (0 : Int32) = opF (gd h a) k := (by rw [if_pos (by omega)] at v2; exact v2)
    refine w_Model_enters_60 (fun c60 => ?_) (fun c60 => ?_) (fun c60 => ?_) (fun c60_0 c60_1 c60_2 => ?_)
    · refine w_Model_enters_88 L ?_
      refine w_Model_enters_98 ?_
      refine w_Model_enters_144 ?_
      rw [f1] at c60
      refine fin _ (by first | exact Keep.rfl.si (scrI 84 (by omega)) | exact (Keep.rfl.si (scrI 84 (by omega))).si (scrI 84 (by omega)) | exact ((Keep.rfl.si (scrI 84 (by omega))).si (scrI 84 (by omega))).si (scrI 84 (by omega))) ?_ ?_ ?_ ?_
      · simp (disch := omega) only [sI_same, sI_nc, sI_nj]
      · simp (disch := omega) only [sI_same, sI_nc, sI_nj]; rw [dueF, if_pos (by omega)]; first | rfl | rw [f2, v1] | rw [f2] | rw [v1]
      · simp (disch := omega) only [sI_same, sI_nc, sI_nj]; rw [if_neg (by omega)]; first | exact v3 | rw [v3, f2] | rw [v3]
      · intro c; exfalso; omega
    · refine w_Model_enters_101 L ?_
      refine w_Model_enters_111 ?_
      refine w_Model_enters_144 ?_
      rw [f1] at c60
      refine fin _ (by first | exact Keep.rfl.si (scrI 84 (by omega)) | exact (Keep.rfl.si (scrI 84 (by omega))).si (scrI 84 (by omega)) | exact ((Keep.rfl.si (scrI 84 (by omega))).si (scrI 84 (by omega))).si (scrI 84 (by omega))) ?_ ?_ ?_ ?_
      · simp (disch := omega) only [sI_same, sI_nc, sI_nj]
      · simp (disch := omega) only [sI_same, sI_nc, sI_nj]; rw [dueF, if_neg (by omega), if_pos (by omega)]; first | rfl | rw [f2, v1] | rw [f2] | rw [v1]
      · simp (disch := omega) only [sI_same, sI_nc, sI_nj]; rw [if_neg (by omega)]; first | exact v3 | rw [v3, f2] | rw [v3]
      · intro c; exfalso; omega
    · refine w_Model_enters_114 L ?_
      refine w_Model_enters_124 L ?_
      refine w_Model_enters_129 ?_
      refine w_Model_enters_144 ?_
      rw [f1] at c60
      refine fin _ (by first | exact Keep.rfl.si (scrI 84 (by omega)) | exact (Keep.rfl.si (scrI 84 (by omega))).si (scrI 84 (by omega)) | exact ((Keep.rfl.si (scrI 84 (by omega))).si (scrI 84 (by omega))).si (scrI 84 (by omega))) ?_ ?_ ?_ ?_
      · simp (disch := omega) only [sI_same, sI_nc, sI_nj]
      · simp (disch := omega) only [sI_same, sI_nc, sI_nj]; rw [dueF, if_neg (by omega), if_neg (by omega), if_pos (by omega)]; first | rfl | rw [f2, v1] | rw [f2] | rw [v1]
      · simp (disch := omega) only [sI_same, sI_nc, sI_nj]; rw [if_neg (by omega)]; first | exact v3 | rw [v3, f2] | rw [v3]
      · intro _; simp (disch := omega) only [sI_same, sI_nc, sI_nj]; rw [f2, v1]; rfl
    · refine w_Model_enters_132 L ?_
      refine w_Model_enters_144 ?_
      have c60 : (gd h a 1 k).toInt = 3 := by rw [f1] at c60_0 c60_1 c60_2; omega
      refine fin _ (by first | exact Keep.rfl.si (scrI 84 (by omega)) | exact (Keep.rfl.si (scrI 84 (by omega))).si (scrI 84 (by omega)) | exact ((Keep.rfl.si (scrI 84 (by omega))).si (scrI 84 (by omega))).si (scrI 84 (by omega))) ?_ ?_ ?_ ?_
      · simp (disch := omega) only [sI_same, sI_nc, sI_nj]
      · simp (disch := omega) only [sI_same, sI_nc, sI_nj]; rw [dueF, if_neg (by omega), if_neg (by omega), if_neg (by omega), v1]
      · simp (disch := omega) only [sI_same, sI_nc, sI_nj]; rw [if_pos (by omega), f2, v3]
      · intro c; exfalso; omega
  · (try rw [f3] at c0)
    have e3 := (n_sub (n_add M.2.2.1 (n_mul (show (2 : Int32).toInt = ((2 : Nat) : Int) from rfl) hx (by omega)) (by omega)) (show (1 : Int32).toInt = ((1 : Nat) : Int) from rfl) (by omega) (by omega))
    have f3 : h.1 85 (h.1 84 38 + 2 * x - 1).toNatClampNeg = gd h a 1 (k - 1) := by rw [n_eq e3, show l + 2 * k - 1 = l + 1 + 2 * (k - 1) by omega]; exact (M.1.ofE (by rw [M.2.2.2]; omega)).1
    refine w_Model_enters_36 L (by rw [e3]; omega) (fun c36 => ?_) (fun c36 => ?_)
    · (try rw [f3] at c36)
      first | have v3 : h.1 84 40 = opF (gd h a) k := (by rw [if_neg (by omega)] at v2; exact v2) | have v3 : (0 : Int32) = opF (gd h a) k := (by rw [if_pos (by omega)] at v2; exact v2)
      refine w_Model_enters_60 (fun c60 => ?_) (fun c60 => ?_) (fun c60 => ?_) (fun c60_0 c60_1 c60_2 => ?_)
      · refine w_Model_enters_88 L ?_
        refine w_Model_enters_98 ?_
        refine w_Model_enters_144 ?_
        rw [f1] at c60
        refine fin _ (by first | exact Keep.rfl.si (scrI 84 (by omega)) | exact (Keep.rfl.si (scrI 84 (by omega))).si (scrI 84 (by omega)) | exact ((Keep.rfl.si (scrI 84 (by omega))).si (scrI 84 (by omega))).si (scrI 84 (by omega))) ?_ ?_ ?_ ?_
        · simp (disch := omega) only [sI_same, sI_nc, sI_nj]
        · simp (disch := omega) only [sI_same, sI_nc, sI_nj]; rw [dueF, if_pos (by omega)]; first | rfl | rw [f2, v1] | rw [f2] | rw [v1]
        · simp (disch := omega) only [sI_same, sI_nc, sI_nj]; rw [if_neg (by omega)]; first | exact v3 | rw [v3, f2] | rw [v3]
        · intro c; exfalso; omega
      · refine w_Model_enters_101 L ?_
        refine w_Model_enters_111 ?_
        refine w_Model_enters_144 ?_
        rw [f1] at c60
        refine fin _ (by first | exact Keep.rfl.si (scrI 84 (by omega)) | exact (Keep.rfl.si (scrI 84 (by omega))).si (scrI 84 (by omega)) | exact ((Keep.rfl.si (scrI 84 (by omega))).si (scrI 84 (by omega))).si (scrI 84 (by omega))) ?_ ?_ ?_ ?_
        · simp (disch := omega) only [sI_same, sI_nc, sI_nj]
        · simp (disch := omega) only [sI_same, sI_nc, sI_nj]; rw [dueF, if_neg (by omega), if_pos (by omega)]; first | rfl | rw [f2, v1] | rw [f2] | rw [v1]
        · simp (disch := omega) only [sI_same, sI_nc, sI_nj]; rw [if_neg (by omega)]; first | exact v3 | rw [v3, f2] | rw [v3]
        · intro c; exfalso; omega
      · refine w_Model_enters_114 L ?_
        refine w_Model_enters_124 L ?_
        refine w_Model_enters_129 ?_
        refine w_Model_enters_144 ?_
        rw [f1] at c60
        refine fin _ (by first | exact Keep.rfl.si (scrI 84 (by omega)) | exact (Keep.rfl.si (scrI 84 (by omega))).si (scrI 84 (by omega)) | exact ((Keep.rfl.si (scrI 84 (by omega))).si (scrI 84 (by omega))).si (scrI 84 (by omega))) ?_ ?_ ?_ ?_
        · simp (disch := omega) only [sI_same, sI_nc, sI_nj]
        · simp (disch := omega) only [sI_same, sI_nc, sI_nj]; rw [dueF, if_neg (by omega), if_neg (by omega), if_pos (by omega)]; first | rfl | rw [f2, v1] | rw [f2] | rw [v1]
        · simp (disch := omega) only [sI_same, sI_nc, sI_nj]; rw [if_neg (by omega)]; first | exact v3 | rw [v3, f2] | rw [v3]
        · intro _; simp (disch := omega) only [sI_same, sI_nc, sI_nj]; rw [f2, v1]; rfl
      · refine w_Model_enters_132 L ?_
        refine w_Model_enters_144 ?_
        have c60 : (gd h a 1 k).toInt = 3 := by rw [f1] at c60_0 c60_1 c60_2; omega
        refine fin _ (by first | exact Keep.rfl.si (scrI 84 (by omega)) | exact (Keep.rfl.si (scrI 84 (by omega))).si (scrI 84 (by omega)) | exact ((Keep.rfl.si (scrI 84 (by omega))).si (scrI 84 (by omega))).si (scrI 84 (by omega))) ?_ ?_ ?_ ?_
        · simp (disch := omega) only [sI_same, sI_nc, sI_nj]
        · simp (disch := omega) only [sI_same, sI_nc, sI_nj]; rw [dueF, if_neg (by omega), if_neg (by omega), if_neg (by omega), v1]
        · simp (disch := omega) only [sI_same, sI_nc, sI_nj]; rw [if_pos (by omega), f2, v3]
        · intro c; exfalso; omega
    · (try rw [f3] at c36)
      refine w_Model_enters_55 L ?_
      first | have v3 : h.1 84 40 = opF (gd h a) k := (by rw [if_neg (by omega)] at v2; exact v2) | have v3 : (0 : Int32) = opF (gd h a) k := (by rw [if_pos (by omega)] at v2; exact v2)
      refine w_Model_enters_60 (fun c60 => ?_) (fun c60 => ?_) (fun c60 => ?_) (fun c60_0 c60_1 c60_2 => ?_)
      · refine w_Model_enters_88 L ?_
        refine w_Model_enters_98 ?_
        refine w_Model_enters_144 ?_
        rw [f1] at c60
        refine fin _ (by first | exact Keep.rfl.si (scrI 84 (by omega)) | exact (Keep.rfl.si (scrI 84 (by omega))).si (scrI 84 (by omega)) | exact ((Keep.rfl.si (scrI 84 (by omega))).si (scrI 84 (by omega))).si (scrI 84 (by omega))) ?_ ?_ ?_ ?_
        · simp (disch := omega) only [sI_same, sI_nc, sI_nj]
        · simp (disch := omega) only [sI_same, sI_nc, sI_nj]; rw [dueF, if_pos (by omega)]; first | rfl | rw [f2, v1] | rw [f2] | rw [v1]
        · simp (disch := omega) only [sI_same, sI_nc, sI_nj]; rw [if_neg (by omega)]; first | exact v3 | rw [v3, f2] | rw [v3]
        · intro c; exfalso; omega
      · refine w_Model_enters_101 L ?_
        refine w_Model_enters_111 ?_
        refine w_Model_enters_144 ?_
        rw [f1] at c60
        refine fin _ (by first | exact Keep.rfl.si (scrI 84 (by omega)) | exact (Keep.rfl.si (scrI 84 (by omega))).si (scrI 84 (by omega)) | exact ((Keep.rfl.si (scrI 84 (by omega))).si (scrI 84 (by omega))).si (scrI 84 (by omega))) ?_ ?_ ?_ ?_
        · simp (disch := omega) only [sI_same, sI_nc, sI_nj]
        · simp (disch := omega) only [sI_same, sI_nc, sI_nj]; rw [dueF, if_neg (by omega), if_pos (by omega)]; first | rfl | rw [f2, v1] | rw [f2] | rw [v1]
        · simp (disch := omega) only [sI_same, sI_nc, sI_nj]; rw [if_neg (by omega)]; first | exact v3 | rw [v3, f2] | rw [v3]
        · intro c; exfalso; omega
      · refine w_Model_enters_114 L ?_
        refine w_Model_enters_124 L ?_
        refine w_Model_enters_129 ?_
        refine w_Model_enters_144 ?_
        rw [f1] at c60
        refine fin _ (by first | exact Keep.rfl.si (scrI 84 (by omega)) | exact (Keep.rfl.si (scrI 84 (by omega))).si (scrI 84 (by omega)) | exact ((Keep.rfl.si (scrI 84 (by omega))).si (scrI 84 (by omega))).si (scrI 84 (by omega))) ?_ ?_ ?_ ?_
        · simp (disch := omega) only [sI_same, sI_nc, sI_nj]
        · simp (disch := omega) only [sI_same, sI_nc, sI_nj]; rw [dueF, if_neg (by omega), if_neg (by omega), if_pos (by omega)]; first | rfl | rw [f2, v1] | rw [f2] | rw [v1]
        · simp (disch := omega) only [sI_same, sI_nc, sI_nj]; rw [if_neg (by omega)]; first | exact v3 | rw [v3, f2] | rw [v3]
        · intro _; simp (disch := omega) only [sI_same, sI_nc, sI_nj]; rw [f2, v1]; rfl
      · refine w_Model_enters_132 L ?_
        refine w_Model_enters_144 ?_
        have c60 : (gd h a 1 k).toInt = 3 := by rw [f1] at c60_0 c60_1 c60_2; omega
        refine fin _ (by first | exact Keep.rfl.si (scrI 84 (by omega)) | exact (Keep.rfl.si (scrI 84 (by omega))).si (scrI 84 (by omega)) | exact ((Keep.rfl.si (scrI 84 (by omega))).si (scrI 84 (by omega))).si (scrI 84 (by omega))) ?_ ?_ ?_ ?_
        · simp (disch := omega) only [sI_same, sI_nc, sI_nj]
        · simp (disch := omega) only [sI_same, sI_nc, sI_nj]; rw [dueF, if_neg (by omega), if_neg (by omega), if_neg (by omega), v1]
        · simp (disch := omega) only [sI_same, sI_nc, sI_nj]; rw [if_pos (by omega), f2, v3]
        · intro c; exfalso; omega
end M41
