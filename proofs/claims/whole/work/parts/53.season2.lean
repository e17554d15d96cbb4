/-! SEASONS: the class begins, goes through, shows -/
theorem sC_in {h : MH} {a b sp dp n j : Nat} (h1 : sp = 0) (h2 : dp = 0) (h3 : j < n) : (sC h a b sp dp n).1 b j = h.1 a j := by
  subst h1; subst h2
  simp [sC, va_cpy, h3]
theorem sC_nc {h : MH} {a b sp dp n c j : Nat} (e : c ≠ b) : (sC h a b sp dp n).1 c j = h.1 c j := by simp [sC, e]
theorem Keep.sc {h h1 : MH} {a b sp dp n : Nat} (k : Keep h h1) (hb : Scr b) : Keep h (sC h1 a b sp dp n) := by
  refine ⟨k.1, fun c hc => ?_⟩
  rw [← k.2 c hc]
  funext j
  exact sC_nc (fun e => hc (e ▸ hb))
def startS (D : Nat → Nat → Int32) : SSt := (fun i => if i = 2 then D 0 3 else 0, fun c b => if c = 0 then D 3 b else if c = 1 then D 4 b else if c = 2 then D 5 b else 0)
def runF (D : Nat → Nat → Int32) (n k : Nat) (G : Nat → Nat → Int32) : Nat → Nat → SSt → Nat × SSt
  | 0, j, S => (j, S)
  | f + 1, j, S => match actF D n k (G 1 j) (G 2 j) (G 3 j) S with
    | none => (j, S)
    | some S' => runF D n k G f (j + 1) S'
theorem runF_no {D : Nat → Nat → Int32} {n k : Nat} {G : Nat → Nat → Int32} {m j : Nat} {S : SSt} (hj : j < m) (e : actF D n k (G 1 j) (G 2 j) (G 3 j) S = none) : runF D n k G (m - j) j S = (j, S) := by
  rw [show m - j = (m - (j + 1)) + 1 by omega, runF, e]
theorem runF_go {D : Nat → Nat → Int32} {n k : Nat} {G : Nat → Nat → Int32} {m j : Nat} {S S' : SSt} (hj : j < m) (e : actF D n k (G 1 j) (G 2 j) (G 3 j) S = some S') : runF D n k G (m - j) j S = runF D n k G (m - (j + 1)) (j + 1) S' := by
  rw [show m - j = (m - (j + 1)) + 1 by omega, runF, e]
def showV (n : Nat) (S : SSt) (w : Int32) : Int32 := if 0 ≤ w.toInt ∧ w.toInt ≤ 6 then S.1 w.toNatClampNeg else if (10 ≤ w.toInt ∧ w.toInt ≤ 49) ∧ w.toInt % 10 < (n : Int) then S.2 (w.toInt / 10 - 1).toNat (w.toInt % 10).toNat else -1000
/-- the town is one of the land's -/
theorem actF_tw {D : Nat → Nat → Int32} {n k : Nat} {w x y : Int32} {S S' : SSt} (e : actF D n k w x y S = some S') (tw : 0 ≤ (S.1 1).toInt ∧ (S.1 1).toInt < (D 0 0).toInt) : 0 ≤ (S'.1 1).toInt ∧ (S'.1 1).toInt < (D 0 0).toInt := by
  unfold actF at e
  split at e
  · unfold sellF at e
    split at e
    · cases e; exact tw
    · cases e
  split at e
  · unfold sinF at e
    split at e
    · cases e; exact tw
    · cases e
  split at e
  · unfold goF at e
    split at e
    · rename_i ok
      rw [goOk, decide_eq_true_eq] at ok
      cases e
      exact ok.1
    · cases e
  split at e
  · unfold turnF at e
    split at e
    · cases e; exact tw
    · cases e
  split at e
  · unfold turnF at e
    split at e
    · cases e; exact tw
    · cases e
  split at e
  · cases e; exact tw
  split at e
  · cases e; exact tw
  · cases e
section M53
variable {rod : Nat → Nat × (Nat → Int32)} {d : Nat} {h : MH} {a l n k : Nat} {S : SSt}
theorem s_fill (c : Nat) (v : Int32) (m : Nat) (hs : h.2.2[c]? = some (0, m)) (hm : m ≤ 1000) : Wc rod (d + 1) 24 [.inr (.inr (.inl (some c))), .inl v] h (fun r h' => r = none ∧ h'.2 = h.2 ∧ (∀ j, j < m → h'.1 c j = v) ∧ ∀ e, e ≠ c → h'.1 e = h.1 e) := by
  refine n_Arrays_fill ?_
  refine w_Arrays_fill_0 hs rfl ?_
  refine Wb.uph m (fun j L' h' => ∃ (z : Int32), L' = [some (.inr (.inr (.inl (some c)))), some (.inl v), some (.inl z), some (.inl (Int32.ofNat m))] ∧ z.toInt = (j : Int) ∧ h'.2 = h.2 ∧ (∀ i, i < j → h'.1 c i = v) ∧ ∀ e, e ≠ c → h'.1 e = h.1 e) ?_ (Nat.zero_le _) ⟨0, rfl, rfl, rfl, fun i hi => absurd hi (Nat.not_lt_zero i), fun _ _ => rfl⟩
  rintro j _ g hj ⟨z, rfl, hz, K, q1, q2⟩ ih
  have sg : g.2.2[c]? = some (0, m) := by rw [K]; exact hs
  refine w_Arrays_fill_5 (fun kc5 => ?_) (fun kc5 => ?_)
  · (try simp only [ite01t, ite01v, Int32.reduceToInt, t_m1, t_m2, t_m1000, Decidable.not_not] at kc5); (try simp only [t_nat (show m < 2147483648 by omega)] at kc5)
    refine w_Arrays_fill_20 ?_
    exact ⟨rfl, K, fun i hi => q1 i (by omega), q2⟩
  · (try simp only [ite01t, ite01v, Int32.reduceToInt, t_m1, t_m2, t_m1000, Decidable.not_not] at kc5); (try simp only [t_nat (show m < 2147483648 by omega)] at kc5)
    refine w_Arrays_fill_10 sg (by first | assumption | omega | (refine ⟨?_, ?_⟩ <;> first | assumption | omega)) ?_
    refine w_Arrays_fill_14 rfl ?_
    rw [n_eq hz]
    refine ih (by omega) _ _ ⟨_, rfl, t_succ hz (by omega), K, fun i hi => ?_, fun e he => ?_⟩
    · by_cases w : i = j
      · rw [w]; exact sI_same
      · rw [sI_nj w]; exact q1 i (by omega)
    · funext y; rw [sI_nc he, q2 e he]
theorem c_begin (L : Lay h.2) (A : LandA h.2 a) (ha : a + 9 ≤ 45) (n8 : n ≤ 8) : Wc rod (d + 2) 77 [.inr (.inr (.inl (some 65))), .inr (.inr (.inl (some a)))] h (fun r h' => r = none ∧ Keep h h' ∧ SimC h' (startS (ld h a)) n) := by
  refine n_Walk_begin ?_
  refine w_Walk_begin_0 L ?_
  refine w_Walk_begin_5 L ?_
  refine w_Walk_begin_10 A L ?_
  rw [sI_nc (by omega), sI_nc (by omega)]
  refine w_Walk_begin_18 L ?_
  refine w_Walk_begin_23 L ?_
  refine w_Walk_begin_28 L ?_
  refine w_Walk_begin_33 L ?_
  refine w_Walk_begin_38 A L ?_
  refine w_Walk_begin_53 A L ?_
  refine w_Walk_begin_68 A L ?_
  refine w_Walk_begin_83 L (s_fill 69 0 8 (L.1 69 _ rfl) (by omega)) ?_
  rintro _ h83 ⟨rfl, g2, g3, g4⟩
  refine w_Walk_begin_91 ?_
  have KB : Keep h (sC (sC (sC (sI (sI (sI (sI (sI (sI (sI h 65 0 0) 65 1 0) 65 2 (h.1 a 3)) 65 3 0) 65 4 0) 65 5 0) 65 6 0) (a + 3) 66 0 0 8) (a + 4) 67 0 0 8) (a + 5) 68 0 0 8) := (by repeat (first | exact Keep.rfl | refine Keep.sc ?_ (scrI _ (by omega)) | refine Keep.si ?_ (scrI _ (by omega))))
  refine ⟨rfl, ⟨g2.trans KB.1, fun c hc => ?_⟩, fun i hi => ?_, fun c b hc hb => ?_⟩
  · rw [g4 c (fun q => hc (q ▸ scrI 69 (by omega)))]; exact KB.2 c hc
  · rw [g4 65 (by omega)]
    rcases (show i = 0 ∨ i = 1 ∨ i = 2 ∨ i = 3 ∨ i = 4 ∨ i = 5 ∨ i = 6 by omega) with rfl | rfl | rfl | rfl | rfl | rfl | rfl
    · simp (disch := omega) only [sI_same, sI_nc, sI_nj, sC_nc]; rfl
    · simp (disch := omega) only [sI_same, sI_nc, sI_nj, sC_nc]; rfl
    · simp (disch := omega) only [sI_same, sI_nc, sI_nj, sC_nc]; rfl
    · simp (disch := omega) only [sI_same, sI_nc, sI_nj, sC_nc]; rfl
    · simp (disch := omega) only [sI_same, sI_nc, sI_nj, sC_nc]; rfl
    · simp (disch := omega) only [sI_same, sI_nc, sI_nj, sC_nc]; rfl
    · simp (disch := omega) only [sI_same, sI_nc, sI_nj, sC_nc]; rfl
  · rcases (show c = 0 ∨ c = 1 ∨ c = 2 ∨ c = 3 by omega) with rfl | rfl | rfl | rfl
    · rw [g4 66 (by omega)]; rw [sC_nc (by omega), sC_nc (by omega), sC_in rfl rfl (by show _ < 8; omega)]; simp (disch := omega) only [sI_same, sI_nc, sI_nj, sC_nc]; rfl
    · rw [g4 67 (by omega)]; rw [sC_nc (by omega), sC_in rfl rfl (by show _ < 8; omega)]; simp (disch := omega) only [sI_same, sI_nc, sI_nj, sC_nc]; rfl
    · rw [g4 68 (by omega)]; rw [sC_in rfl rfl (by show _ < 8; omega)]; simp (disch := omega) only [sI_same, sI_nc, sI_nj, sC_nc]; rfl
    · rw [g3 b (by omega)]; rfl
end M53
