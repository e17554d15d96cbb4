/-! SEASONS: the class begins, goes through, shows -/
theorem sC_in {h : MH} {a b sp dp n j : Nat} (h1 : sp = 0) (h2 : dp = 0) (h3 : j < n) : (sC h a b sp dp n).1 b j = h.1 a j := by
  subst h1; subst h2
  simp [sC, va_cpy, h3]
theorem sC_nc {h : MH} {a b sp dp n c j : Nat} (e : c ≠ b) : (sC h a b sp dp n).1 c j = h.1 c j := by simp [sC, e]
theorem Keep.sc {h h1 : MH} {a b sp dp n : Nat} (k : Keep h h1) (hb : Scr b) : Keep h (sC h1 a b sp dp n) := by
  refine ⟨k.1, fun c hc => ?_⟩
  rw [← k.2 c hc]
  funext j
  exact sC_nc (fun e => hc (e ▸ hb))
def startS (D : Nat → Nat → Int32) : SSt := (fun i => if i = 2 then D 0 3 else 0, fun c b => if c = 0 then D 3 b else if c = 1 then D 4 b else if c = 2 then D 5 b else 0)
def runF (D : Nat → Nat → Int32) (n k : Nat) (G : Nat → Nat → Int32) : Nat → Nat → SSt → Nat × SSt
  | 0, j, S => (j, S)
  | f + 1, j, S => match actF D n k (G 1 j) (G 2 j) (G 3 j) S with
    | none => (j, S)
    | some S' => runF D n k G f (j + 1) S'
theorem runF_no {D : Nat → Nat → Int32} {n k : Nat} {G : Nat → Nat → Int32} {m j : Nat} {S : SSt} (hj : j < m) (e : actF D n k (G 1 j) (G 2 j) (G 3 j) S = none) : runF D n k G (m - j) j S = (j, S) := by
  rw [show m - j = (m - (j + 1)) + 1 by omega, runF, e]
theorem runF_go {D : Nat → Nat → Int32} {n k : Nat} {G : Nat → Nat → Int32} {m j : Nat} {S S' : SSt} (hj : j < m) (e : actF D n k (G 1 j) (G 2 j) (G 3 j) S = some S') : runF D n k G (m - j) j S = runF D n k G (m - (j + 1)) (j + 1) S' := by
  rw [show m - j = (m - (j + 1)) + 1 by omega, runF, e]
def showV (n : Nat) (S : SSt) (w : Int32) : Int32 := if 0 ≤ w.toInt ∧ w.toInt ≤ 6 then S.1 w.toNatClampNeg else if (10 ≤ w.toInt ∧ w.toInt ≤ 49) ∧ w.toInt % 10 < (n : Int) then S.2 (w.toInt / 10 - 1).toNat (w.toInt % 10).toNat else -1000
/-- the town is one of the land's -/
theorem actF_tw {D : Nat → Nat → Int32} {n k : Nat} {w x y : Int32} {S S' : SSt} (e : actF D n k w x y S = some S') (tw : 0 ≤ (S.1 1).toInt ∧ (S.1 1).toInt < (D 0 0).toInt) : 0 ≤ (S'.1 1).toInt ∧ (S'.1 1).toInt < (D 0 0).toInt := by
  unfold actF at e
  split at e
  · unfold sellF at e
    split at e
    · cases e; exact tw
    · cases e
  split at e
  · unfold sinF at e
    split at e
    · cases e; exact tw
    · cases e
  split at e
  · unfold goF at e
    split at e
    · rename_i ok
      rw [goOk, decide_eq_true_eq] at ok
      cases e
      exact ok.1
    · cases e
  split at e
  · unfold turnF at e
    split at e
    · cases e; exact tw
    · cases e
  split at e
  · unfold turnF at e
    split at e
    · cases e; exact tw
    · cases e
  split at e
  · cases e; exact tw
  split at e
  · cases e; exact tw
  · cases e
section M53
variable {rod : Nat → Nat × (Nat → Int32)} {d : Nat} {h : MH} {a l n k : Nat} {S : SSt}
theorem s_fill (c : Nat) (v : Int32) (m : Nat) (hs : h.2.2[c]? = some (0, m)) (hm : m ≤ 1000) : Wc rod (d + 1) 24 [.inr (.inr (.inl (some c))), .inl v] h (fun r h' => r = none ∧ h'.2 = h.2 ∧ (∀ j, j < m → h'.1 c j = v) ∧ ∀ e, e ≠ c → h'.1 e = h.1 e) := by
  refine n_Arrays_fill ?_
  refine w_Arrays_fill_0 hs rfl ?_
  refine Wb.uph m (fun j L' h' => ∃ (z : Int32), L' = [some (.inr (.inr (.inl (some c)))), some (.inl v), some (.inl z), some (.inl (Int32.ofNat m))] ∧ z.toInt = (j : Int) ∧ h'.2 = h.2 ∧ (∀ i, i < j → h'.1 c i = v) ∧ ∀ e, e ≠ c → h'.1 e = h.1 e) ?_ (Nat.zero_le _) ⟨0, rfl, rfl, rfl, fun i hi => absurd hi (Nat.not_lt_zero i), fun _ _ => rfl⟩
  rintro j _ g hj ⟨z, rfl, hz, K, q1, q2⟩ ih
  have sg : g.2.2[c]? = some (0, m) := by rw [K]; exact hs
  refine w_Arrays_fill_5 (fun kc5 => ?_) (fun kc5 => ?_)
  · (try simp only [ite01t, ite01v, Int32.reduceToInt, t_m1, t_m2, t_m1000, Decidable.not_not] at kc5); (try simp only [t_nat (show m < 2147483648 by omega)] at kc5)
    refine w_Arrays_fill_20 ?_
    exact ⟨rfl, K, fun i hi => q1 i (by omega), q2⟩
  · (try simp only [ite01t, ite01v, Int32.reduceToInt, t_m1, t_m2, t_m1000, Decidable.not_not] at kc5); (try simp only [t_nat (show m < 2147483648 by omega)] at kc5)
    refine w_Arrays_fill_10 sg (by first | assumption | omega | (refine ⟨?_, ?_⟩ <;> first | assumption | omega)) ?_
    refine w_Arrays_fill_14 rfl ?_
    rw [n_eq hz]
    refine ih (by omega) _ _ ⟨_, rfl, t_succ hz (by omega), K, fun i hi => ?_, fun e he => ?_⟩
    · by_cases w : i = j
      · rw [w]; exact sI_same
      · rw [sI_nj w]; exact q1 i (by omega)
    · funext y; rw [sI_nc he, q2 e he]
theorem c_begin (L : Lay h.2) (A : LandA h.2 a) (ha : a + 9 ≤ 45) (n8 : n ≤ 8) : Wc rod (d + 2) 77 [.inr (.inr (.inl (some 65))), .inr (.inr (.inl (some a)))] h (fun r h' => r = none ∧ Keep h h' ∧ SimC h' (startS (ld h a)) n) := by
  refine n_Walk_begin ?_
  refine w_Walk_begin_0 L ?_
  refine w_Walk_begin_5 L ?_
  refine w_Walk_begin_10 A L ?_
  rw [sI_nc (by omega), sI_nc (by omega)]
  refine w_Walk_begin_18 L ?_
  refine w_Walk_begin_23 L ?_
  refine w_Walk_begin_28 L ?_
  refine w_Walk_begin_33 L ?_
  refine w_Walk_begin_38 A L ?_
  refine w_Walk_begin_53 A L ?_
  refine w_Walk_begin_68 A L ?_
  refine w_Walk_begin_83 L (s_fill 69 0 8 (L.1 69 _ rfl) (by omega)) ?_
  rintro _ h83 ⟨rfl, g2, g3, g4⟩
  refine w_Walk_begin_91 ?_
  have KB : Keep h (sC (sC (sC (sI (sI (sI (sI (sI (sI (sI h 65 0 0) 65 1 0) 65 2 (h.1 a 3)) 65 3 0) 65 4 0) 65 5 0) 65 6 0) (a + 3) 66 0 0 8) (a + 4) 67 0 0 8) (a + 5) 68 0 0 8) := (by repeat (first | exact Keep.rfl | refine Keep.sc ?_ (scrI _ (by omega)) | refine Keep.si ?_ (scrI _ (by omega))))
  refine ⟨rfl, ⟨g2.trans KB.1, fun c hc => ?_⟩, fun i hi => ?_, fun c b hc hb => ?_⟩
  · rw [g4 c (fun q => hc (q ▸ scrI 69 (by omega)))]; exact KB.2 c hc
  · rw [g4 65 (by omega)]
    rcases (show i = 0 ∨ i = 1 ∨ i = 2 ∨ i = 3 ∨ i = 4 ∨ i = 5 ∨ i = 6 by omega) with rfl | rfl | rfl | rfl | rfl | rfl | rfl
    · simp (disch := omega) only [sI_same, sI_nc, sI_nj, sC_nc]; rfl
    · simp (disch := omega) only [sI_same, sI_nc, sI_nj, sC_nc]; rfl
    · simp (disch := omega) only [sI_same, sI_nc, sI_nj, sC_nc]; rfl
    · simp (disch := omega) only [sI_same, sI_nc, sI_nj, sC_nc]; rfl
    · simp (disch := omega) only [sI_same, sI_nc, sI_nj, sC_nc]; rfl
    · simp (disch := omega) only [sI_same, sI_nc, sI_nj, sC_nc]; rfl
    · simp (disch := omega) only [sI_same, sI_nc, sI_nj, sC_nc]; rfl
  · rcases (show c = 0 ∨ c = 1 ∨ c = 2 ∨ c = 3 by omega) with rfl | rfl | rfl | rfl
    · rw [g4 66 (by omega)]; rw [sC_nc (by omega), sC_nc (by omega), sC_in (sp := (0 : Int32).toNatClampNeg) (dp := (0 : Int32).toNatClampNeg) (n := (8 : Int32).toNatClampNeg) rfl rfl (by show _ < 8; omega)]; simp (disch := omega) only [sI_same, sI_nc, sI_nj, sC_nc]; rfl
    · rw [g4 67 (by omega)]; rw [sC_nc (by omega), sC_in (sp := (0 : Int32).toNatClampNeg) (dp := (0 : Int32).toNatClampNeg) (n := (8 : Int32).toNatClampNeg) rfl rfl (by show _ < 8; omega)]; simp (disch := omega) only [sI_same, sI_nc, sI_nj, sC_nc]; rfl
    · rw [g4 68 (by omega)]; rw [sC_in (sp := (0 : Int32).toNatClampNeg) (dp := (0 : Int32).toNatClampNeg) (n := (8 : Int32).toNatClampNeg) rfl rfl (by show _ < 8; omega)]; simp (disch := omega) only [sI_same, sI_nc, sI_nj, sC_nc]; rfl
    · rw [g3 b (by omega)]; rfl
theorem c_done (Q : SimC h S n) (L : Lay h.2) (A : LandA h.2 a) (ha : a + 9 ≤ 45) (hn : (h.1 a 4).toInt = (n : Int)) (n8 : n ≤ 8) (hk : (h.1 a 5).toInt = (k : Int)) (k4 : k ≤ 4) (hT : (h.1 a 0).toInt ≤ 6) (tw : 0 ≤ (S.1 1).toInt ∧ (S.1 1).toInt < (h.1 a 0).toInt) {s : Nat} (AS : SeasonA h.2 s) (d40 : (h.1 s 0).toInt ≤ 40) (x : Int32) (hx : 0 ≤ x.toInt ∧ x.toInt < (h.1 s 0).toInt) : Wc rod (d + 5) 78 [.inr (.inr (.inl (some 65))), .inr (.inr (.inl (some a))), .inr (.inr (.inl (some s))), .inl x] h (fun r h' => PostC h S n (actF (ld h a) n k (sd h s 1 x.toNatClampNeg) (sd h s 2 x.toNatClampNeg) (sd h s 3 x.toNatClampNeg) S) r h') := by
  refine n_Walk_done ?_
  refine w_Walk_done_0 AS (Tc.wc (s_hasDeed AS _)) (Is.k ?_)
  refine w_Walk_done_5 (fun kc5 => (by exfalso; simp only [ite01t] at kc5; omega)) (fun kc5 => ?_)
  try simp only [ite01t, ite01v, Int32.reduceToInt, t_m1, t_m2, t_m1000, Decidable.not_not] at kc5
  refine w_Walk_done_8 AS L (by first | assumption | omega | (refine ⟨?_, ?_⟩ <;> first | assumption | omega)) (c_act Q L A ha hn n8 hk k4 hT tw _ _ _) ?_
  rintro _ h8 ⟨k8, rfl, Q8⟩
  refine w_Walk_done_31 (fun kc31 => ?_) (fun kc31 => ?_)
  · try simp only [ite01t, ite01v, Int32.reduceToInt, t_m1, t_m2, t_m1000, Decidable.not_not] at kc31
    refine w_Walk_done_38 ?_
    refine w_Walk_done_39 (by first | exact Or.inl rfl | exact Or.inr rfl | exact or01 | assumption) ?_
    refine ⟨k8, ?_, Q8⟩
    first | rw [if_pos (show (actF (ld h a) n k (sd h s 1 x.toNatClampNeg) (sd h s 2 x.toNatClampNeg) (sd h s 3 x.toNatClampNeg) S).isSome = true from kc31)] | rw [if_neg (show ¬ (actF (ld h a) n k (sd h s 1 x.toNatClampNeg) (sd h s 2 x.toNatClampNeg) (sd h s 3 x.toNatClampNeg) S).isSome = true from kc31)]
  · try simp only [ite01t, ite01v, Int32.reduceToInt, t_m1, t_m2, t_m1000, Decidable.not_not] at kc31
    refine w_Walk_done_34 ?_
    refine w_Walk_done_39 (by first | exact Or.inl rfl | exact Or.inr rfl | exact or01 | assumption) ?_
    refine ⟨k8, ?_, Q8⟩
    first | rw [if_pos (show (actF (ld h a) n k (sd h s 1 x.toNatClampNeg) (sd h s 2 x.toNatClampNeg) (sd h s 3 x.toNatClampNeg) S).isSome = true from kc31)] | rw [if_neg (show ¬ (actF (ld h a) n k (sd h s 1 x.toNatClampNeg) (sd h s 2 x.toNatClampNeg) (sd h s 3 x.toNatClampNeg) S).isSome = true from kc31)]
theorem c_run (L : Lay h.2) (A : LandA h.2 a) (ha : a + 9 ≤ 45) (hn : (h.1 a 4).toInt = (n : Int)) (n8 : n ≤ 8) (hk : (h.1 a 5).toInt = (k : Int)) (k4 : k ≤ 4) (hT : 1 ≤ (h.1 a 0).toInt ∧ (h.1 a 0).toInt ≤ 6) {s m : Nat} (AS : SeasonA h.2 s) (hs : s + 4 ≤ 45) (hd : (h.1 s 0).toInt = (m : Int)) (m40 : m ≤ 40) (N : Int32) (hN : 0 ≤ N.toInt) : Wc rod (d + 6) 76 [.inr (.inr (.inl (some 65))), .inr (.inr (.inl (some a))), .inr (.inr (.inl (some s))), .inl N] h (fun r h' => Keep h h' ∧ r = some (.inl (Int32.ofNat (runF (ld h a) n k (sd h s) (min N.toNatClampNeg m) 0 (startS (ld h a))).1)) ∧ SimC h' (runF (ld h a) n k (sd h s) (min N.toNatClampNeg m) 0 (startS (ld h a))).2 n) := by
  have eN := n_of hN
  refine n_Walk_run ?_
  refine w_Walk_run_0 L (c_begin L A ha n8) ?_
  rintro _ h0 ⟨rfl, k0, Q0⟩
  refine w_Walk_run_5 rfl ?_
  refine Wb.uph (min N.toNatClampNeg m) (fun j L' h' => ∃ (z : Int32) (S : SSt), L' = [some (.inr (.inr (.inl (some 65)))), some (.inr (.inr (.inl (some a)))), some (.inr (.inr (.inl (some s)))), some (.inl N), some (.inl z)] ∧ z.toInt = (j : Int) ∧ Keep h h' ∧ SimC h' S n ∧ (0 ≤ (S.1 1).toInt ∧ (S.1 1).toInt < (h.1 a 0).toInt) ∧ runF (ld h a) n k (sd h s) (min N.toNatClampNeg m) 0 (startS (ld h a)) = runF (ld h a) n k (sd h s) (min N.toNatClampNeg m - j) j S) ?_ (Nat.zero_le _) ⟨0, _, rfl, rfl, k0, Q0, ⟨by show (0 : Int) ≤ 0; omega, by show (0 : Int) < _; omega⟩, by rw [Nat.sub_zero]⟩
  rintro j _ g hj ⟨z, S, rfl, hz, K, Qg, tw, hv⟩ ih
  have Lg := L.keep K
  have Ag := A.keep K
  have ASg := AS.keep K
  have ea := K.c a (by omega)
  have es := K.c s (by omega)
  have da := ldk K ha
  have ds := sdk K hs
  have ez := n_eq hz
  have dg : (g.1 s 0).toInt = (m : Int) := by rw [es]; exact hd
  refine w_Walk_run_8 (fun kc8 => ?_) (fun kc8 => ?_)
  · (try simp only [ite01t, ite01v, Int32.reduceToInt, t_m1, t_m2, t_m1000, Decidable.not_not] at kc8); (try simp only [dg] at kc8)
    refine w_Walk_run_43 ASg ?_
    have hj : j = min N.toNatClampNeg m := by omega
    refine ⟨K, congrArg (fun z => some (Sum.inl z)) (i32_of ?_), ?_⟩
    · rw [hv, ← hj, Nat.sub_self, runF, t_nat (by omega)]
      simp only [Int32.lt_iff_toInt_lt]
      rw [show (0 : Int32).toInt = 0 from rfl, if_neg (c := N.toInt < 0) (by omega), dg]
      split
      · rw [dg]; omega
      · omega
    · rw [hv, ← hj, Nat.sub_self, runF]; exact Qg
  · (try simp only [ite01t, ite01v, Int32.reduceToInt, t_m1, t_m2, t_m1000, Decidable.not_not] at kc8); (try simp only [dg] at kc8)
    refine w_Walk_run_14 ASg (fun kc14 => ?_) (fun kc14 => ?_)
    · (try simp only [ite01t, ite01v, Int32.reduceToInt, t_m1, t_m2, t_m1000, Decidable.not_not] at kc14); (try simp only [dg] at kc14)
      refine w_Walk_run_43 ASg ?_
      have hj : j = min N.toNatClampNeg m := by omega
      refine ⟨K, congrArg (fun z => some (Sum.inl z)) (i32_of ?_), ?_⟩
      · rw [hv, ← hj, Nat.sub_self, runF, t_nat (by omega)]
        simp only [Int32.lt_iff_toInt_lt]
        rw [show (0 : Int32).toInt = 0 from rfl, if_neg (c := N.toInt < 0) (by omega), dg]
        split
        · rw [dg]; omega
        · omega
      · rw [hv, ← hj, Nat.sub_self, runF]; exact Qg
    · (try simp only [ite01t, ite01v, Int32.reduceToInt, t_m1, t_m2, t_m1000, Decidable.not_not] at kc14); (try simp only [dg] at kc14)
      refine w_Walk_run_23 Lg (c_done Qg Lg Ag ha (by rw [ea]; exact hn) n8 (by rw [ea]; exact hk) k4 (by rw [ea]; exact hT.2) (by rw [ea]; exact tw) ASg (by rw [dg]; omega) z (by rw [dg]; omega)) ?_
      rintro _ h23 ⟨k23, rfl, Q23⟩
      rw [ez, da, ds] at Q23
      rw [ez, da, ds]
      refine w_Walk_run_31 (fun kc31 => ?_) (fun kc31 => ?_)
      · (try simp only [ite01t, ite01v, Int32.reduceToInt, t_m1, t_m2, t_m1000, Decidable.not_not] at kc31); (try simp only [dg] at kc31)
        refine w_Walk_run_37 rfl ?_
        obtain ⟨S2, e2⟩ := Option.isSome_iff_exists.mp kc31
        rw [e2] at Q23
        refine ih (by omega) _ _ ⟨_, S2, rfl, t_succ hz (by omega), K.trans k23, Q23, actF_tw e2 tw, by rw [hv, runF_go (by omega) e2]⟩
      · (try simp only [ite01t, ite01v, Int32.reduceToInt, t_m1, t_m2, t_m1000, Decidable.not_not] at kc31); (try simp only [dg] at kc31)
        refine w_Walk_run_34 ?_
        have e2 := Option.not_isSome_iff_eq_none.mp kc31
        rw [e2] at Q23
        refine ⟨K.trans k23, ?_, ?_⟩
        · rw [hv, runF_no (by omega) e2, ofN hz (by omega)]
        · rw [hv, runF_no (by omega) e2]; exact Q23
theorem c_showB (Q : SimC h S n) (L : Lay h.2) (A : LandA h.2 a) (ha : a + 9 ≤ 45) (hn : (h.1 a 4).toInt = (n : Int)) (n8 : n ≤ 8) (x y : Int32) : Tc rod (d + 2) 90 [.inr (.inr (.inl (some 65))), .inr (.inr (.inl (some a))), .inl x, .inl y] h (some (.inl (if (0 ≤ y.toInt ∧ y.toInt < (n : Int)) ∧ 1 ≤ x.toInt ∧ x.toInt ≤ 4 then S.2 (x.toInt - 1).toNat y.toNatClampNeg else -1000))) h := by
  apply Wc.tc
  refine n_Walk_showBuyer ?_
  refine w_Walk_showBuyer_0 A (Tc.wc (s_hasBuyer A _)) (Is.k ?_)
  refine w_Walk_showBuyer_5 (fun kc5 => ?_) (fun kc5 => ?_)
  · (try simp only [ite01t, ite01v, Int32.reduceToInt, t_m1, t_m2, t_m1000, Decidable.not_not] at kc5); (try simp only [hn] at kc5)
    refine w_Walk_showBuyer_12 (fun kc12 => ?_) (fun kc12 => ?_) (fun kc12 => ?_) (fun kc12 => ?_) (fun kc12_0 kc12_1 kc12_2 kc12_3 => ?_)
    · (try simp only [hn] at kc12)
      refine w_Walk_showBuyer_44 L (by first | assumption | omega | (refine ⟨?_, ?_⟩ <;> first | assumption | omega)) ?_
      exact ⟨by first | rw [if_neg (by omega)] | (rw [if_pos (by omega), kc12, Q.2 0 _ (by omega) (n_lt (by omega) (by omega))]; rfl) | (rw [if_pos (by omega), kc12, Q.2 1 _ (by omega) (n_lt (by omega) (by omega))]; rfl) | (rw [if_pos (by omega), kc12, Q.2 2 _ (by omega) (n_lt (by omega) (by omega))]; rfl) | (rw [if_pos (by omega), kc12, Q.2 3 _ (by omega) (n_lt (by omega) (by omega))]; rfl), rfl⟩
    · (try simp only [hn] at kc12)
      refine w_Walk_showBuyer_51 L (by first | assumption | omega | (refine ⟨?_, ?_⟩ <;> first | assumption | omega)) ?_
      exact ⟨by first | rw [if_neg (by omega)] | (rw [if_pos (by omega), kc12, Q.2 0 _ (by omega) (n_lt (by omega) (by omega))]; rfl) | (rw [if_pos (by omega), kc12, Q.2 1 _ (by omega) (n_lt (by omega) (by omega))]; rfl) | (rw [if_pos (by omega), kc12, Q.2 2 _ (by omega) (n_lt (by omega) (by omega))]; rfl) | (rw [if_pos (by omega), kc12, Q.2 3 _ (by omega) (n_lt (by omega) (by omega))]; rfl), rfl⟩
    · (try simp only [hn] at kc12)
      refine w_Walk_showBuyer_58 L (by first | assumption | omega | (refine ⟨?_, ?_⟩ <;> first | assumption | omega)) ?_
      exact ⟨by first | rw [if_neg (by omega)] | (rw [if_pos (by omega), kc12, Q.2 0 _ (by omega) (n_lt (by omega) (by omega))]; rfl) | (rw [if_pos (by omega), kc12, Q.2 1 _ (by omega) (n_lt (by omega) (by omega))]; rfl) | (rw [if_pos (by omega), kc12, Q.2 2 _ (by omega) (n_lt (by omega) (by omega))]; rfl) | (rw [if_pos (by omega), kc12, Q.2 3 _ (by omega) (n_lt (by omega) (by omega))]; rfl), rfl⟩
    · (try simp only [hn] at kc12)
      refine w_Walk_showBuyer_65 L (by first | assumption | omega | (refine ⟨?_, ?_⟩ <;> first | assumption | omega)) ?_
      exact ⟨by first | rw [if_neg (by omega)] | (rw [if_pos (by omega), kc12, Q.2 0 _ (by omega) (n_lt (by omega) (by omega))]; rfl) | (rw [if_pos (by omega), kc12, Q.2 1 _ (by omega) (n_lt (by omega) (by omega))]; rfl) | (rw [if_pos (by omega), kc12, Q.2 2 _ (by omega) (n_lt (by omega) (by omega))]; rfl) | (rw [if_pos (by omega), kc12, Q.2 3 _ (by omega) (n_lt (by omega) (by omega))]; rfl), rfl⟩
    · (try simp only [hn] at kc12_0 kc12_1 kc12_2 kc12_3)
      refine w_Walk_showBuyer_72 ?_
      exact ⟨by first | rw [if_neg (by omega)] | (rw [if_pos (by omega), kc12, Q.2 0 _ (by omega) (n_lt (by omega) (by omega))]; rfl) | (rw [if_pos (by omega), kc12, Q.2 1 _ (by omega) (n_lt (by omega) (by omega))]; rfl) | (rw [if_pos (by omega), kc12, Q.2 2 _ (by omega) (n_lt (by omega) (by omega))]; rfl) | (rw [if_pos (by omega), kc12, Q.2 3 _ (by omega) (n_lt (by omega) (by omega))]; rfl), rfl⟩
  · (try simp only [ite01t, ite01v, Int32.reduceToInt, t_m1, t_m2, t_m1000, Decidable.not_not] at kc5); (try simp only [hn] at kc5)
    refine w_Walk_showBuyer_8 ?_
    exact ⟨by first | rw [if_neg (by omega)] | (rw [if_pos (by omega), kc12, Q.2 0 _ (by omega) (n_lt (by omega) (by omega))]; rfl) | (rw [if_pos (by omega), kc12, Q.2 1 _ (by omega) (n_lt (by omega) (by omega))]; rfl) | (rw [if_pos (by omega), kc12, Q.2 2 _ (by omega) (n_lt (by omega) (by omega))]; rfl) | (rw [if_pos (by omega), kc12, Q.2 3 _ (by omega) (n_lt (by omega) (by omega))]; rfl), rfl⟩
theorem c_show (Q : SimC h S n) (L : Lay h.2) (A : LandA h.2 a) (ha : a + 9 ≤ 45) (hn : (h.1 a 4).toInt = (n : Int)) (n8 : n ≤ 8) (w : Int32) : Tc rod (d + 3) 89 [.inr (.inr (.inl (some 65))), .inr (.inr (.inl (some a))), .inl w] h (some (.inl (showV n S w))) h := by
  have lt := w.toInt_lt
  have q := fun h0 => dv_q (x := w) (k := 10) (n := 10) rfl (by omega) h0
  have r := fun h0 => dv_r (x := w) (k := 10) (n := 10) rfl (by omega) h0
  apply Wc.tc
  refine n_Walk_show ?_
  refine w_Walk_show_0 (fun kc0 => ?_) (fun kc0 => ?_)
  · try simp only [ite01t, ite01v, Int32.reduceToInt, t_m1, t_m2, t_m1000, Decidable.not_not] at kc0
    refine w_Walk_show_20 (fun kc20 => ?_) (fun kc20 => ?_) (fun kc20 => ?_) (fun kc20 => ?_) (fun kc20 => ?_) (fun kc20 => ?_) (fun kc20 => ?_) (fun kc20_0 kc20_1 kc20_2 kc20_3 kc20_4 kc20_5 kc20_6 => ?_)
    · refine w_Walk_show_64 L ?_
      exact ⟨by first | (rw [showV, if_pos (by omega), n_eq (x := w) (show w.toInt = ((0 : Nat) : Int) from kc20), Q.1 0 (by omega)]; done) | (rw [showV, if_pos (by omega), n_eq (x := w) (show w.toInt = ((1 : Nat) : Int) from kc20), Q.1 1 (by omega)]; done) | (rw [showV, if_pos (by omega), n_eq (x := w) (show w.toInt = ((2 : Nat) : Int) from kc20), Q.1 2 (by omega)]; done) | (rw [showV, if_pos (by omega), n_eq (x := w) (show w.toInt = ((3 : Nat) : Int) from kc20), Q.1 3 (by omega)]; done) | (rw [showV, if_pos (by omega), n_eq (x := w) (show w.toInt = ((4 : Nat) : Int) from kc20), Q.1 4 (by omega)]; done) | (rw [showV, if_pos (by omega), n_eq (x := w) (show w.toInt = ((5 : Nat) : Int) from kc20), Q.1 5 (by omega)]; done) | (rw [showV, if_pos (by omega), n_eq (x := w) (show w.toInt = ((6 : Nat) : Int) from kc20), Q.1 6 (by omega)]; done), rfl⟩
    · refine w_Walk_show_69 L ?_
      exact ⟨by first | (rw [showV, if_pos (by omega), n_eq (x := w) (show w.toInt = ((0 : Nat) : Int) from kc20), Q.1 0 (by omega)]; done) | (rw [showV, if_pos (by omega), n_eq (x := w) (show w.toInt = ((1 : Nat) : Int) from kc20), Q.1 1 (by omega)]; done) | (rw [showV, if_pos (by omega), n_eq (x := w) (show w.toInt = ((2 : Nat) : Int) from kc20), Q.1 2 (by omega)]; done) | (rw [showV, if_pos (by omega), n_eq (x := w) (show w.toInt = ((3 : Nat) : Int) from kc20), Q.1 3 (by omega)]; done) | (rw [showV, if_pos (by omega), n_eq (x := w) (show w.toInt = ((4 : Nat) : Int) from kc20), Q.1 4 (by omega)]; done) | (rw [showV, if_pos (by omega), n_eq (x := w) (show w.toInt = ((5 : Nat) : Int) from kc20), Q.1 5 (by omega)]; done) | (rw [showV, if_pos (by omega), n_eq (x := w) (show w.toInt = ((6 : Nat) : Int) from kc20), Q.1 6 (by omega)]; done), rfl⟩
    · refine w_Walk_show_74 L ?_
      exact ⟨by first | (rw [showV, if_pos (by omega), n_eq (x := w) (show w.toInt = ((0 : Nat) : Int) from kc20), Q.1 0 (by omega)]; done) | (rw [showV, if_pos (by omega), n_eq (x := w) (show w.toInt = ((1 : Nat) : Int) from kc20), Q.1 1 (by omega)]; done) | (rw [showV, if_pos (by omega), n_eq (x := w) (show w.toInt = ((2 : Nat) : Int) from kc20), Q.1 2 (by omega)]; done) | (rw [showV, if_pos (by omega), n_eq (x := w) (show w.toInt = ((3 : Nat) : Int) from kc20), Q.1 3 (by omega)]; done) | (rw [showV, if_pos (by omega), n_eq (x := w) (show w.toInt = ((4 : Nat) : Int) from kc20), Q.1 4 (by omega)]; done) | (rw [showV, if_pos (by omega), n_eq (x := w) (show w.toInt = ((5 : Nat) : Int) from kc20), Q.1 5 (by omega)]; done) | (rw [showV, if_pos (by omega), n_eq (x := w) (show w.toInt = ((6 : Nat) : Int) from kc20), Q.1 6 (by omega)]; done), rfl⟩
    · refine w_Walk_show_79 L ?_
      exact ⟨by first | (rw [showV, if_pos (by omega), n_eq (x := w) (show w.toInt = ((0 : Nat) : Int) from kc20), Q.1 0 (by omega)]; done) | (rw [showV, if_pos (by omega), n_eq (x := w) (show w.toInt = ((1 : Nat) : Int) from kc20), Q.1 1 (by omega)]; done) | (rw [showV, if_pos (by omega), n_eq (x := w) (show w.toInt = ((2 : Nat) : Int) from kc20), Q.1 2 (by omega)]; done) | (rw [showV, if_pos (by omega), n_eq (x := w) (show w.toInt = ((3 : Nat) : Int) from kc20), Q.1 3 (by omega)]; done) | (rw [showV, if_pos (by omega), n_eq (x := w) (show w.toInt = ((4 : Nat) : Int) from kc20), Q.1 4 (by omega)]; done) | (rw [showV, if_pos (by omega), n_eq (x := w) (show w.toInt = ((5 : Nat) : Int) from kc20), Q.1 5 (by omega)]; done) | (rw [showV, if_pos (by omega), n_eq (x := w) (show w.toInt = ((6 : Nat) : Int) from kc20), Q.1 6 (by omega)]; done), rfl⟩
    · refine w_Walk_show_84 L ?_
      exact ⟨by first | (rw [showV, if_pos (by omega), n_eq (x := w) (show w.toInt = ((0 : Nat) : Int) from kc20), Q.1 0 (by omega)]; done) | (rw [showV, if_pos (by omega), n_eq (x := w) (show w.toInt = ((1 : Nat) : Int) from kc20), Q.1 1 (by omega)]; done) | (rw [showV, if_pos (by omega), n_eq (x := w) (show w.toInt = ((2 : Nat) : Int) from kc20), Q.1 2 (by omega)]; done) | (rw [showV, if_pos (by omega), n_eq (x := w) (show w.toInt = ((3 : Nat) : Int) from kc20), Q.1 3 (by omega)]; done) | (rw [showV, if_pos (by omega), n_eq (x := w) (show w.toInt = ((4 : Nat) : Int) from kc20), Q.1 4 (by omega)]; done) | (rw [showV, if_pos (by omega), n_eq (x := w) (show w.toInt = ((5 : Nat) : Int) from kc20), Q.1 5 (by omega)]; done) | (rw [showV, if_pos (by omega), n_eq (x := w) (show w.toInt = ((6 : Nat) : Int) from kc20), Q.1 6 (by omega)]; done), rfl⟩
    · refine w_Walk_show_89 L ?_
      exact ⟨by first | (rw [showV, if_pos (by omega), n_eq (x := w) (show w.toInt = ((0 : Nat) : Int) from kc20), Q.1 0 (by omega)]; done) | (rw [showV, if_pos (by omega), n_eq (x := w) (show w.toInt = ((1 : Nat) : Int) from kc20), Q.1 1 (by omega)]; done) | (rw [showV, if_pos (by omega), n_eq (x := w) (show w.toInt = ((2 : Nat) : Int) from kc20), Q.1 2 (by omega)]; done) | (rw [showV, if_pos (by omega), n_eq (x := w) (show w.toInt = ((3 : Nat) : Int) from kc20), Q.1 3 (by omega)]; done) | (rw [showV, if_pos (by omega), n_eq (x := w) (show w.toInt = ((4 : Nat) : Int) from kc20), Q.1 4 (by omega)]; done) | (rw [showV, if_pos (by omega), n_eq (x := w) (show w.toInt = ((5 : Nat) : Int) from kc20), Q.1 5 (by omega)]; done) | (rw [showV, if_pos (by omega), n_eq (x := w) (show w.toInt = ((6 : Nat) : Int) from kc20), Q.1 6 (by omega)]; done), rfl⟩
    · refine w_Walk_show_94 L ?_
      exact ⟨by first | (rw [showV, if_pos (by omega), n_eq (x := w) (show w.toInt = ((0 : Nat) : Int) from kc20), Q.1 0 (by omega)]; done) | (rw [showV, if_pos (by omega), n_eq (x := w) (show w.toInt = ((1 : Nat) : Int) from kc20), Q.1 1 (by omega)]; done) | (rw [showV, if_pos (by omega), n_eq (x := w) (show w.toInt = ((2 : Nat) : Int) from kc20), Q.1 2 (by omega)]; done) | (rw [showV, if_pos (by omega), n_eq (x := w) (show w.toInt = ((3 : Nat) : Int) from kc20), Q.1 3 (by omega)]; done) | (rw [showV, if_pos (by omega), n_eq (x := w) (show w.toInt = ((4 : Nat) : Int) from kc20), Q.1 4 (by omega)]; done) | (rw [showV, if_pos (by omega), n_eq (x := w) (show w.toInt = ((5 : Nat) : Int) from kc20), Q.1 5 (by omega)]; done) | (rw [showV, if_pos (by omega), n_eq (x := w) (show w.toInt = ((6 : Nat) : Int) from kc20), Q.1 6 (by omega)]; done), rfl⟩
    · refine w_Walk_show_99 ?_
      exact ⟨by rw [showV, if_neg (by omega), if_neg (by omega)], rfl⟩
  · try simp only [ite01t, ite01v, Int32.reduceToInt, t_m1, t_m2, t_m1000, Decidable.not_not] at kc0
    refine w_Walk_show_6 L (Tc.wc (c_showB Q L A ha hn n8 _ _)) (Is.k ?_)
    refine w_Walk_show_19 ?_
    have q := q (by omega)
    have r := r (by omega)
    refine ⟨?_, rfl⟩
    rw [showV, if_neg (c := 0 ≤ w.toInt ∧ w.toInt ≤ 6) (by omega), q, r, clamp_eq r]
    by_cases c : (10 ≤ w.toInt ∧ w.toInt ≤ 49) ∧ w.toInt % 10 < (n : Int)
    · rw [if_pos c, if_pos (by omega)]; rfl
    · rw [if_neg c, if_neg (by omega)]
end M53
