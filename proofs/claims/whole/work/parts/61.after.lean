/-! OPERATION after -/
section M61
variable {rod : Nat → Nat × (Nat → Int32)} {d : Nat} {h : MH} {a l n k : Nat} {S : SSt} {D G : Nat → Nat → Int32}
theorem runF_pre : ∀ (c i j : Nat) (S : SSt), j + i < (runF D n k G c j S).1 → (runF D n k G i j S).1 = j + i ∧ ∃ S', actF D n k (G 1 (j + i)) (G 2 (j + i)) (G 3 (j + i)) (runF D n k G i j S).2 = some S' ∧ runF D n k G (i + 1) j S = (j + i + 1, S') := by
  intro c
  induction c with
  | zero => intro i j S q; simp only [runF] at q; omega
  | succ c ih =>
    intro i j S q
    simp only [runF] at q
    split at q
    · simp only at q; omega
    · rename_i S2 e2
      cases i with
      | zero =>
        refine ⟨rfl, S2, e2, ?_⟩
        simp only [Nat.zero_add, runF, e2, Nat.add_zero]
      | succ i =>
        obtain ⟨z1, S', z2, z3⟩ := ih i (j + 1) S2 (by omega)
        have r1 : runF D n k G (i + 1) j S = runF D n k G i (j + 1) S2 := by simp only [runF, e2]
        have r2 : runF D n k G (i + 1 + 1) j S = runF D n k G (i + 1) (j + 1) S2 := by rw [runF]; simp only [e2]
        rw [r1, r2, z3]
        refine ⟨by omega, S', ?_, by rw [show j + 1 + i + 1 = j + (i + 1) + 1 by omega]⟩
        rw [show j + (i + 1) = j + 1 + i by omega]
        exact z2
theorem runF_fin : ∀ (c j : Nat) (S : SSt), runF D n k G ((runF D n k G c j S).1 - j) j S = runF D n k G c j S := by
  intro c
  induction c with
  | zero => intro j S; simp only [runF, Nat.sub_self]
  | succ c ih =>
    intro j S
    have lo : ∀ (c j : Nat) (S : SSt), j ≤ (runF D n k G c j S).1 := by
      intro c
      induction c with
      | zero => intro j S; exact Nat.le_refl _
      | succ c ih =>
        intro j S
        simp only [runF]
        split
        · exact Nat.le_refl _
        · have := ih (j + 1) ‹SSt›
          omega
    cases e : actF D n k (G 1 j) (G 2 j) (G 3 j) S with
    | none =>
      have r1 : runF D n k G (c + 1) j S = (j, S) := by simp only [runF, e]
      rw [r1]
      simp only [Nat.sub_self, runF]
    | some S2 =>
      have r1 : runF D n k G (c + 1) j S = runF D n k G c (j + 1) S2 := by simp only [runF, e]
      have q := lo c (j + 1) S2
      rw [r1, show (runF D n k G c (j + 1) S2).1 - j = ((runF D n k G c (j + 1) S2).1 - (j + 1)) + 1 by omega]
      have r2 : runF D n k G ((runF D n k G c (j + 1) S2).1 - (j + 1) + 1) j S = runF D n k G ((runF D n k G c (j + 1) S2).1 - (j + 1)) (j + 1) S2 := by rw [runF]; simp only [e]
      rw [r2]
      exact ih (j + 1) S2
/-- what the church has -/
theorem actF_ch {w x y : Int32} {S S' : SSt} {B : Int} (e : actF D n k w x y S = some S') (hP : ∀ t, t < k → 0 ≤ (D 7 t).toInt ∧ (D 7 t).toInt ≤ 60) (h1 : 0 ≤ (D 0 1).toInt ∧ (D 0 1).toInt ≤ 5) (h2 : 0 ≤ (D 0 2).toInt ∧ (D 0 2).toInt ≤ 5) (hB : 0 ≤ (S.1 6).toInt ∧ (S.1 6).toInt ≤ B) (hb : B ≤ 100000) : 0 ≤ (S'.1 6).toInt ∧ (S'.1 6).toInt ≤ B + 60 := by
  have same : S'.1 6 = S.1 6 → 0 ≤ (S'.1 6).toInt ∧ (S'.1 6).toInt ≤ B + 60 := fun q => by rw [q]; omega
  unfold actF at e
  split at e
  · unfold sellF at e
    split at e
    · rename_i hs
      cases e
      simp only [sellB, decide_eq_true_eq] at hs
      have ht := n_of hs.2.1.1
      have p := hP y.toNatClampNeg (by omega)
      have m1 : (D 7 y.toNatClampNeg * D 0 1).toInt = (D 7 y.toNatClampNeg).toInt * (D 0 1).toInt := i32_mul (by have := Int.mul_nonneg p.1 h1.1; omega) (by have := Int.mul_le_mul p.2 h1.2 h1.1 (by omega); omega)
      have m2 : (D 7 y.toNatClampNeg * D 0 2).toInt = (D 7 y.toNatClampNeg).toInt * (D 0 2).toInt := i32_mul (by have := Int.mul_nonneg p.1 h2.1; omega) (by have := Int.mul_le_mul p.2 h2.2 h2.1 (by omega); omega)
      have g1 : (D 7 y.toNatClampNeg).toInt * (D 0 1).toInt ≤ (D 7 y.toNatClampNeg).toInt * 5 := Int.mul_le_mul_of_nonneg_left h1.2 p.1
      have g2 : (D 7 y.toNatClampNeg).toInt * (D 0 2).toInt ≤ (D 7 y.toNatClampNeg).toInt * 5 := Int.mul_le_mul_of_nonneg_left h2.2 p.1
      have n1 := Int.mul_nonneg p.1 h1.1
      have n2 := Int.mul_nonneg p.1 h2.1
      have d1 : (D 7 y.toNatClampNeg * D 0 1 / 10).toInt = (D 7 y.toNatClampNeg).toInt * (D 0 1).toInt / 10 := by rw [← m1]; exact dv_q (k := 10) (n := 10) rfl (by omega) (by omega)
      have d2 : (D 7 y.toNatClampNeg * D 0 2 / 10).toInt = (D 7 y.toNatClampNeg).toInt * (D 0 2).toInt / 10 := by rw [← m2]; exact dv_q (k := 10) (n := 10) rfl (by omega) (by omega)
      generalize (D 7 y.toNatClampNeg).toInt * (D 0 1).toInt = u1 at *
      generalize (D 7 y.toNatClampNeg).toInt * (D 0 2).toInt = u2 at *
      have s1 : (D 7 y.toNatClampNeg - D 7 y.toNatClampNeg * D 0 1 / 10).toInt = (D 7 y.toNatClampNeg).toInt - u1 / 10 := by rw [i32_sub (by omega) (by omega), d1]
      have s2 : (D 7 y.toNatClampNeg - D 7 y.toNatClampNeg * D 0 1 / 10 - D 7 y.toNatClampNeg * D 0 2 / 10).toInt = (D 7 y.toNatClampNeg).toInt - u1 / 10 - u2 / 10 := by rw [i32_sub (by omega) (by omega), s1, d2]
      show 0 ≤ (S.1 6 + (D 7 y.toNatClampNeg - D 7 y.toNatClampNeg * D 0 1 / 10 - D 7 y.toNatClampNeg * D 0 2 / 10)).toInt ∧ (S.1 6 + (D 7 y.toNatClampNeg - D 7 y.toNatClampNeg * D 0 1 / 10 - D 7 y.toNatClampNeg * D 0 2 / 10)).toInt ≤ B + 60
      rw [i32_add (by omega) (by omega), s2]
      omega
    · cases e
  · split at e
    · unfold sinF at e
      split at e
      · cases e; exact same rfl
      · cases e
    · split at e
      · unfold goF at e
        split at e
        · cases e; exact same rfl
        · cases e
      · split at e
        · unfold turnF at e
          split at e
          · cases e; exact same rfl
          · cases e
        · split at e
          · unfold turnF at e
            split at e
            · cases e; exact same rfl
            · cases e
          · split at e
            · cases e; exact same rfl
            · split at e
              · cases e; exact same rfl
              · cases e
theorem runF_ch (hP : ∀ t, t < k → 0 ≤ (D 7 t).toInt ∧ (D 7 t).toInt ≤ 60) (h1 : 0 ≤ (D 0 1).toInt ∧ (D 0 1).toInt ≤ 5) (h2 : 0 ≤ (D 0 2).toInt ∧ (D 0 2).toInt ≤ 5) : ∀ (c j : Nat) (S : SSt), j + c ≤ 100 → (0 ≤ (S.1 6).toInt ∧ (S.1 6).toInt ≤ 60 * (j : Int)) → 0 ≤ ((runF D n k G c j S).2.1 6).toInt ∧ ((runF D n k G c j S).2.1 6).toInt ≤ 60 * ((j + c : Nat) : Int) := by
  intro c
  induction c with
  | zero => intro j S _ q; exact q
  | succ c ih =>
    intro j S hj q
    simp only [runF]
    split
    · simp only
      omega
    · rename_i S2 e2
      have z := actF_ch e2 hP h1 h2 q (by omega)
      have := ih (j + 1) S2 (by omega) (by omega)
      omega
theorem runF_tw : ∀ (c j : Nat) (S : SSt), (0 ≤ (S.1 1).toInt ∧ (S.1 1).toInt < (D 0 0).toInt) → 0 ≤ ((runF D n k G c j S).2.1 1).toInt ∧ ((runF D n k G c j S).2.1 1).toInt < (D 0 0).toInt := by
  intro c
  induction c with
  | zero => intro j S q; exact q
  | succ c ih =>
    intro j S q
    simp only [runF]
    split
    · exact q
    · exact ih _ _ (actF_tw ‹_› q)
/-- the first time at which half of it has come -/
def halfF (C : Nat → Int32) (w : Int32) : Nat → Nat → Nat
  | 0, j => j
  | f + 1, j => if (2 * C j).toInt < w.toInt then halfF C w f (j + 1) else j
theorem halfF_go {C : Nat → Int32} {w : Int32} {T j : Nat} (hj : j < T) (e : (2 * C j).toInt < w.toInt) : halfF C w (T - j) j = halfF C w (T - (j + 1)) (j + 1) := by
  rw [show T - j = (T - (j + 1)) + 1 by omega, halfF, if_pos e]
theorem halfF_no {C : Nat → Int32} {w : Int32} {T j : Nat} (hj : j ≤ T) (e : j = T ∨ ¬ (2 * C j).toInt < w.toInt) : halfF C w (T - j) j = j := by
  by_cases q : j = T
  · rw [q, Nat.sub_self, halfF]
  · rw [show T - j = (T - (j + 1)) + 1 by omega, halfF, if_neg (by omega)]
def chF (D : Nat → Nat → Int32) (n k : Nat) (G : Nat → Nat → Int32) (j : Nat) : Int32 := (runF D n k G j 0 (startS D)).2.1 6
/-- who paid most -/
def payF (g : Nat → Int32) : Nat → Int32 × Int32
  | 0 => (-1, 0)
  | b + 1 => if (payF g b).2.toInt < (g b).toInt then (Int32.ofNat b, g b) else payF g b
def ahdF (o : Nat → Int32) : Nat → Int32
  | 0 => 0
  | b + 1 => if (o b).toInt < 0 then ahdF o b ||| ((1 : Int32) <<< (Int32.ofNat b &&& 31)) else ahdF o b
theorem c_payer (Q : SimC h S n) (L : Lay h.2) (A : LandA h.2 a) (hn : (h.1 a 4).toInt = (n : Int)) (n8 : n ≤ 8) : Tc rod (d + 1) 173 [.inr (.inr (.inl (some 65))), .inr (.inr (.inl (some a)))] h (some (.inl (payF (fun b => ld h a 4 b - S.2 1 b) n).1)) h := by
  apply Wc.tc
  refine n_Walk_payer ?_
  refine w_Walk_payer_0 rfl ?_
  refine Wb.upc n (fun b L' => ∃ (z : Int32) (u : Option MV), L' = [some (.inr (.inr (.inl (some 65)))), some (.inr (.inr (.inl (some a)))), some (.inl (payF (fun b => ld h a 4 b - S.2 1 b) b).2), some (.inl (payF (fun b => ld h a 4 b - S.2 1 b) b).1), some (.inl z), u] ∧ z.toInt = (b : Int)) ?_ (Nat.zero_le _) ⟨0, _, rfl, rfl⟩
  rintro b _ hb ⟨z, u, rfl, hz⟩ ih
  have ez := n_eq hz
  have oz := ofN hz (by omega)
  refine w_Walk_payer_7 A (fun kc7 => ?_) (fun kc7 => ?_)
  · (try simp only [ite01t, ite01v, Int32.reduceToInt, t_m1, t_m2, t_m1000, Decidable.not_not] at kc7); (try simp only [hn] at kc7)
    refine w_Walk_payer_51 ?_
    have : b = n := by omega
    subst this
    exact ⟨rfl, rfl⟩
  · (try simp only [ite01t, ite01v, Int32.reduceToInt, t_m1, t_m2, t_m1000, Decidable.not_not] at kc7); (try simp only [hn] at kc7)
    refine w_Walk_payer_16 A L (by first | assumption | omega | (refine ⟨?_, ?_⟩ <;> first | assumption | omega)) (fun kc16 => ?_) (fun kc16 => ?_)
    · (try simp only [ite01t, ite01v, Int32.reduceToInt, t_m1, t_m2, t_m1000, Decidable.not_not] at kc16); (try simp only [hn] at kc16)
      refine w_Walk_payer_45 rfl ?_
      refine ih (by omega) _ ⟨_, some (.inl (h.1 (a + 4) z.toNatClampNeg - h.1 67 z.toNatClampNeg)), ?_, t_succ hz (by omega)⟩
      rw [payF]
      have q2 := Q.2 1 b (by omega) (by omega)
      have eb : (h.1 (a + 4) z.toNatClampNeg - h.1 67 z.toNatClampNeg) = ld h a 4 b - S.2 1 b := by rw [ez, ← q2]; rfl
      rw [eb] at kc16
      simp only [eb]
      first
      | rw [if_pos (by omega), oz]
      | rw [if_neg (by omega)]
    · (try simp only [ite01t, ite01v, Int32.reduceToInt, t_m1, t_m2, t_m1000, Decidable.not_not] at kc16); (try simp only [hn] at kc16)
      refine w_Walk_payer_39 rfl ?_
      refine w_Walk_payer_45 rfl ?_
      refine ih (by omega) _ ⟨_, some (.inl (h.1 (a + 4) z.toNatClampNeg - h.1 67 z.toNatClampNeg)), ?_, t_succ hz (by omega)⟩
      rw [payF]
      have q2 := Q.2 1 b (by omega) (by omega)
      have eb : (h.1 (a + 4) z.toNatClampNeg - h.1 67 z.toNatClampNeg) = ld h a 4 b - S.2 1 b := by rw [ez, ← q2]; rfl
      rw [eb] at kc16
      simp only [eb]
      first
      | rw [if_pos (by omega), oz]
      | rw [if_neg (by omega)]
theorem c_ahead (Q : SimC h S n) (L : Lay h.2) (A : LandA h.2 a) (hn : (h.1 a 4).toInt = (n : Int)) (n8 : n ≤ 8) : Tc rod (d + 1) 175 [.inr (.inr (.inl (some 65))), .inr (.inr (.inl (some a)))] h (some (.inl (ahdF (S.2 0) n))) h := by
  apply Wc.tc
  refine n_Walk_buyersAhead ?_
  refine w_Walk_buyersAhead_0 rfl ?_
  refine Wb.upc n (fun b L' => ∃ (z : Int32), L' = [some (.inr (.inr (.inl (some 65)))), some (.inr (.inr (.inl (some a)))), some (.inl (ahdF (S.2 0) b)), some (.inl z)] ∧ z.toInt = (b : Int)) ?_ (Nat.zero_le _) ⟨0, rfl, rfl⟩
  rintro b _ hb ⟨z, rfl, hz⟩ ih
  have ez := n_eq hz
  have oz := ofN hz (by omega)
  refine w_Walk_buyersAhead_4 A (fun kc4 => ?_) (fun kc4 => ?_)
  · (try simp only [ite01t, ite01v, Int32.reduceToInt, t_m1, t_m2, t_m1000, Decidable.not_not] at kc4); (try simp only [hn] at kc4)
    refine w_Walk_buyersAhead_33 ?_
    have : b = n := by omega
    subst this
    exact ⟨rfl, rfl⟩
  · (try simp only [ite01t, ite01v, Int32.reduceToInt, t_m1, t_m2, t_m1000, Decidable.not_not] at kc4); (try simp only [hn] at kc4)
    refine w_Walk_buyersAhead_12 L (by first | assumption | omega | (refine ⟨?_, ?_⟩ <;> first | assumption | omega)) (fun kc12 => ?_) (fun kc12 => ?_)
    · (try simp only [ite01t, ite01v, Int32.reduceToInt, t_m1, t_m2, t_m1000, Decidable.not_not] at kc12); (try simp only [hn] at kc12)
      refine w_Walk_buyersAhead_27 rfl ?_
      refine ih (by omega) _ ⟨_, ?_, t_succ hz (by omega)⟩
      rw [ahdF]
      have q2 : h.1 66 b = S.2 0 b := Q.2 0 b (by omega) (by omega)
      rw [ez, q2] at kc12
      first
      | rw [if_pos (by omega), oz]
      | rw [if_neg (by omega)]
    · (try simp only [ite01t, ite01v, Int32.reduceToInt, t_m1, t_m2, t_m1000, Decidable.not_not] at kc12); (try simp only [hn] at kc12)
      refine w_Walk_buyersAhead_21 rfl ?_
      refine w_Walk_buyersAhead_27 rfl ?_
      refine ih (by omega) _ ⟨_, ?_, t_succ hz (by omega)⟩
      rw [ahdF]
      have q2 : h.1 66 b = S.2 0 b := Q.2 0 b (by omega) (by omega)
      rw [ez, q2] at kc12
      first
      | rw [if_pos (by omega), oz]
      | rw [if_neg (by omega)]
theorem c_half (Q : SimC h S n) (L : Lay h.2) (A : LandA h.2 a) (ha : a + 9 ≤ 45) (hn : (h.1 a 4).toInt = (n : Int)) (n8 : n ≤ 8) (hk : (h.1 a 5).toInt = (k : Int)) (k4 : k ≤ 4) (hT : 1 ≤ (h.1 a 0).toInt ∧ (h.1 a 0).toInt ≤ 6) {s m c : Nat} (AS : SeasonA h.2 s) (hs : s + 4 ≤ 45) (hd : (h.1 s 0).toInt = (m : Int)) (m40 : m ≤ 40) (x : Int32) (hx : x.toInt = ((runF (ld h a) n k (sd h s) c 0 (startS (ld h a))).1 : Int)) (hc : c ≤ m) : Wc rod (d + 6) 174 [.inr (.inr (.inl (some 65))), .inr (.inr (.inl (some a))), .inr (.inr (.inl (some s))), .inl x] h (fun r h' => Keep h h' ∧ r = some (.inl (Int32.ofNat (halfF (chF (ld h a) n k (sd h s)) (S.1 6) (runF (ld h a) n k (sd h s) c 0 (startS (ld h a))).1 0)))) := by
  have tl := runF_le (D := ld h a) (G := sd h s) (n := n) (k := k) c 0 (startS (ld h a))
  have tp := runF_pre (D := ld h a) (G := sd h s) (n := n) (k := k) c
  have q6 : h.1 65 6 = S.1 6 := Q.1 6 (by omega)
  generalize hTT : (runF (ld h a) n k (sd h s) c 0 (startS (ld h a))).1 = T at *
  refine n_Walk_halfWay ?_
  refine w_Walk_halfWay_0 L rfl (c_begin L A ha n8) ?_
  rintro _ h0 ⟨rfl, k0, Q0⟩
  refine w_Walk_halfWay_11 rfl ?_
  rw [q6]
  refine Wb.uph T (fun j L' h' => ∃ (z : Int32), L' = [some (.inr (.inr (.inl (some 65)))), some (.inr (.inr (.inl (some a)))), some (.inr (.inr (.inl (some s)))), some (.inl x), some (.inl (S.1 6)), some (.inl z)] ∧ z.toInt = (j : Int) ∧ Keep h h' ∧ SimC h' (runF (ld h a) n k (sd h s) j 0 (startS (ld h a))).2 n ∧ halfF (chF (ld h a) n k (sd h s)) (S.1 6) T 0 = halfF (chF (ld h a) n k (sd h s)) (S.1 6) (T - j) j) ?_ (Nat.zero_le _) ⟨0, rfl, rfl, k0, Q0, by rw [Nat.sub_zero]⟩
  rintro j _ g hj ⟨z, rfl, hz, K, Qg, hv⟩ ih
  have Lg := L.keep K
  have Ag := A.keep K
  have ASg := AS.keep K
  have ea := K.c a (by omega)
  have es := K.c s (by omega)
  have da := ldk K ha
  have ds := sdk K hs
  have ez := n_eq hz
  have dg : (g.1 s 0).toInt = (m : Int) := by rw [es]; exact hd
  have g6 : g.1 65 6 = chF (ld h a) n k (sd h s) j := Qg.1 6 (by omega)
  have tw := runF_tw (D := ld h a) (G := sd h s) (n := n) (k := k) j 0 (startS (ld h a)) ⟨by show (0 : Int) ≤ 0; omega, by show (0 : Int) < (h.1 a 0).toInt; omega⟩
  have fin : Keep h g ∧ (j = T ∨ ¬ (2 * chF (ld h a) n k (sd h s) j).toInt < (S.1 6).toInt) → Keep h g ∧ some (Sum.inl z : MV) = some (.inl (Int32.ofNat (halfF (chF (ld h a) n k (sd h s)) (S.1 6) T 0))) := fun q => ⟨K, by rw [hv, halfF_no hj q.2, ofN hz (by omega)]⟩
  refine w_Walk_halfWay_14 (fun kc14 => ?_) (fun kc14 => ?_)
  · (try simp only [ite01t, ite01v, Int32.reduceToInt, t_m1, t_m2, t_m1000, Decidable.not_not] at kc14); (try simp only [g6] at kc14)
    refine w_Walk_halfWay_46 ?_
    exact fin ⟨K, by omega⟩
  · (try simp only [ite01t, ite01v, Int32.reduceToInt, t_m1, t_m2, t_m1000, Decidable.not_not] at kc14); (try simp only [g6] at kc14)
    refine w_Walk_halfWay_20 Lg (fun kc20 => ?_) (fun kc20 => ?_)
    · (try simp only [ite01t, ite01v, Int32.reduceToInt, t_m1, t_m2, t_m1000, Decidable.not_not] at kc20); (try simp only [g6] at kc20)
      refine w_Walk_halfWay_46 ?_
      exact fin ⟨K, by omega⟩
    · (try simp only [ite01t, ite01v, Int32.reduceToInt, t_m1, t_m2, t_m1000, Decidable.not_not] at kc20); (try simp only [g6] at kc20)
      refine w_Walk_halfWay_31 Lg (c_done Qg Lg Ag ha (by rw [ea]; exact hn) n8 (by rw [ea]; exact hk) k4 (by rw [ea]; exact hT.2) (by rw [ea]; exact tw) ASg (by rw [dg]; omega) z (by rw [dg]; omega)) ?_
      rintro _ h31 ⟨k31, rfl, Q31⟩
      rw [ez, da, ds] at Q31
      refine w_Walk_halfWay_39 rfl ?_
      obtain ⟨z1, S2, z2, z3⟩ := tp j 0 (startS (ld h a)) (by rw [hTT]; omega)
      simp only [Nat.zero_add] at z2 z3
      rw [z2] at Q31
      refine ih (by omega) _ _ ⟨_, rfl, t_succ hz (by omega), K.trans k31, by rw [z3]; exact Q31, by rw [hv, halfF_go (by omega) (by omega)]⟩
theorem r_half (I : INV h) {kk ss m : Nat} (hk2 : kk < 2) (M : MLand h (8 + 18 * kk) (610 + 90 * kk)) (hs : (ss : Int) < (h.1 3 1).toInt) (h20 : (h.1 84 20).toInt = ((790 + 121 * ss : Nat) : Int)) (hn : (h.1 (8 + 18 * kk) 4).toInt = (n : Int)) (hk : (h.1 (8 + 18 * kk) 5).toInt = (k : Int)) (hm : (h.1 (17 + 18 * ss) 0).toInt = (m : Int)) : Wc rod (d + 6) 243 [.inr (.inr (.inl (some 84)))] h (fun r h' => Keep h h' ∧ r = some (.inl (Int32.ofNat (halfF (chF (ld h (8 + 18 * kk)) n k (sd h (17 + 18 * ss))) ((runF (ld h (8 + 18 * kk)) n k (sd h (17 + 18 * ss)) (min (40 : Int32).toNatClampNeg m) 0 (startS (ld h (8 + 18 * kk)))).2.1 6) (runF (ld h (8 + 18 * kk)) n k (sd h (17 + 18 * ss)) (min (40 : Int32).toNatClampNeg m) 0 (startS (ld h (8 + 18 * kk)))).1 0)))) := by
  have L := I.lay
  have q1 := I.many 1 (by omega)
  have m40 := (I.season ss hs).2.1.de
  have tl := runF_le (D := (ld h (8 + 18 * kk))) (G := (sd h (17 + 18 * ss))) (n := n) (k := k) (min (40 : Int32).toNatClampNeg m) 0 (startS (ld h (8 + 18 * kk)))
  have tf := runF_fin (D := (ld h (8 + 18 * kk))) (G := (sd h (17 + 18 * ss))) (n := n) (k := k) (min (40 : Int32).toNatClampNeg m) 0 (startS (ld h (8 + 18 * kk)))
  have tc := runF_ch (D := (ld h (8 + 18 * kk))) (G := (sd h (17 + 18 * ss))) (n := n) (k := k) (fun t ht => (M.1.2.2.2.2.2.2.2.2.2.2.2.2.2.1 t (by omega)).2.2.2) M.1.bk M.1.ru (min (40 : Int32).toNatClampNeg m) 0 (startS (ld h (8 + 18 * kk))) (by omega) ⟨by show (0 : Int) ≤ 0; omega, by show (0 : Int) ≤ _; omega⟩
  have e40 : (40 : Int32).toNatClampNeg = 40 := rfl
  refine n_Model_halfOf ?_
  refine w_Model_halfOf_0 L (r_runsI (k := k) I hk2 M (by rw [(Keep.rfl (h := h)).c 3 (by omega)]; exact hs) (h20) (ldk (Keep.rfl (h := h)) (by omega)) (sdk (Keep.rfl (h := h)) (by omega)) (by rw [(Keep.rfl (h := h)).c _ (by omega)]; exact hn) (by rw [(Keep.rfl (h := h)).c _ (by omega)]; exact hk) (by rw [(Keep.rfl (h := h)).c _ (by omega)]; exact hm)  40 (by decide)) ?_
  rintro _ h0 ⟨rfl, k0, q0, Q0, M0, g0⟩
  have I0 := I.keep k0
  refine w_Model_halfOf_6 I0.lay (r_runsI (k := k) I0 hk2 M0 (by rw [k0.c 3 (by omega)]; exact hs) (by rw [g0]; exact h20) (ldk k0 (by omega)) (sdk k0 (by omega)) (by rw [k0.c _ (by omega)]; exact hn) (by rw [k0.c _ (by omega)]; exact hk) (by rw [k0.c _ (by omega)]; exact hm)  0 (by decide)) ?_
  rintro _ h6 ⟨rfl, k6, q6, Q6, M6, g6⟩
  have kc0 : h0.1 84 27 = (runF (ld h (8 + 18 * kk)) n k (sd h (17 + 18 * ss)) (min (40 : Int32).toNatClampNeg m) 0 (startS (ld h (8 + 18 * kk)))).2.1 6 := Q0.1 6 (by omega)
  rw [kc0]
  generalize hTT : (runF (ld h (8 + 18 * kk)) n k (sd h (17 + 18 * ss)) (min (40 : Int32).toNatClampNeg m) 0 (startS (ld h (8 + 18 * kk)))) = T at *
  have z0 : min (0 : Int32).toNatClampNeg m = 0 := Nat.zero_min m
  rw [z0] at Q6
  refine Wb.uph T.1 (fun j L' h' => ∃ (z : Int32), L' = [some (.inr (.inr (.inl (some 84)))), some (.inl (T.2.1 6)), some (.inl z)] ∧ z.toInt = (j : Int) ∧ Keep h h' ∧ SimM h' (runF (ld h (8 + 18 * kk)) n k (sd h (17 + 18 * ss)) j 0 (startS (ld h (8 + 18 * kk)))).2 n ∧ MLand h' (8 + 18 * kk) (610 + 90 * kk) ∧ h'.1 84 20 = h.1 84 20 ∧ halfF (chF (ld h (8 + 18 * kk)) n k (sd h (17 + 18 * ss))) (T.2.1 6) T.1 0 = halfF (chF (ld h (8 + 18 * kk)) n k (sd h (17 + 18 * ss))) (T.2.1 6) (T.1 - j) j) ?_ (Nat.zero_le _) ⟨0, rfl, rfl, k0.trans k6, Q6, M6, g6.trans g0, by rw [Nat.sub_zero]⟩
  rintro j _ g hj ⟨z, rfl, hz, K, Qg, Mg, eg, hv⟩ ih
  have Ig := I.keep K
  have Lg := Ig.lay
  have e27 : g.1 84 27 = chF (ld h (8 + 18 * kk)) n k (sd h (17 + 18 * ss)) j := Qg.1 6 (by omega)
  have top : j = T.1 → ¬ (2 * chF (ld h (8 + 18 * kk)) n k (sd h (17 + 18 * ss)) j).toInt < (T.2.1 6).toInt := by
    intro q
    have e1 : chF (ld h (8 + 18 * kk)) n k (sd h (17 + 18 * ss)) j = T.2.1 6 := by rw [chF, q, ← Nat.sub_zero T.1, tf]
    rw [e1, i32_mul (by show _ ≤ (2 : Int) * _; omega) (by show (2 : Int) * _ ≤ _; omega)]
    show ¬ (2 : Int) * _ < _
    omega
  refine w_Model_halfOf_18 Lg (fun kc18 => ?_) (fun kc18 => ?_)
  · (try simp only [ite01t, ite01v, Int32.reduceToInt, t_m1, t_m2, t_m1000, Decidable.not_not] at kc18); (try simp only [e27] at kc18)
    refine w_Model_halfOf_39 ?_
    exact ⟨K, by rw [hv, halfF_no hj (by omega), ofN hz (by omega)]⟩
  · (try simp only [ite01t, ite01v, Int32.reduceToInt, t_m1, t_m2, t_m1000, Decidable.not_not] at kc18); (try simp only [e27] at kc18)
    have jT : j < T.1 := by have := top; omega
    refine w_Model_halfOf_28 Lg rfl (r_runsI (k := k) Ig hk2 Mg (by rw [K.c 3 (by omega)]; exact hs) (by rw [eg]; exact h20) (ldk K (by omega)) (sdk K (by omega)) (by rw [K.c _ (by omega)]; exact hn) (by rw [K.c _ (by omega)]; exact hk) (by rw [K.c _ (by omega)]; exact hm) (z + 1) (by rw [t_succ hz (by omega)]; omega)) ?_
    rintro _ h28 ⟨rfl, k28, q28, Q28, M28, g28⟩
    refine w_Model_halfOf_36 ?_
    have zz : min (z + 1).toNatClampNeg m = j + 1 := by rw [n_eq (t_succ hz (by omega))]; omega
    rw [zz] at Q28
    refine ih (by omega) _ _ ⟨_, rfl, t_succ hz (by omega), K.trans k28, Q28, M28, g28.trans eg, by rw [hv, halfF_go (by omega) (by omega)]⟩
theorem op_after (x y w : Int32) : OpI INV rod 172 242 [x, y, w] := by
  refine OpI.mk fun h hI => ?_
  have L := hI.lay
  by_cases hk : 0 ≤ x.toInt ∧ x.toInt < (h.1 3 0).toInt
  · obtain ⟨A, R, ha, hk2⟩ := hI.landK hk
    have ek := n_of hk.1
    have at1 := fun (d : Nat) => s_landAt1 (rod := rod) (d := d) hI hk
    generalize x.toNatClampNeg = kk at ek hk2 A R ha at1
    have tw := R.tw
    have bu := R.bu
    have le := R.le
    obtain ⟨n, hn⟩ := Int.eq_ofNat_of_zero_le bu.1
    obtain ⟨k, hkk⟩ := Int.eq_ofNat_of_zero_le le.1
    by_cases hs : 0 ≤ y.toInt ∧ y.toInt < (h.1 3 1).toInt
    · obtain ⟨AS, RS, hs2⟩ := hI.seasonK hs
      have es := n_of hs.1
      have at2 := fun (d : Nat) => s_seasonAt1 (rod := rod) (d := d) hI hs
      generalize y.toNatClampNeg = ss at es hs2 AS RS at2
      have dd := RS.de
      obtain ⟨m, hm⟩ := Int.eq_ofNat_of_zero_le dd.1
      refine ⟨if w.toInt = 0 then (payF (fun b => ld h (8 + 18 * kk) 4 b - (runF (ld h (8 + 18 * kk)) n k (sd h (17 + 18 * ss)) (min (40 : Int32).toNatClampNeg m) 0 (startS (ld h (8 + 18 * kk)))).2.2 1 b) n).1 else if w.toInt = 1 then Int32.ofNat (halfF (chF (ld h (8 + 18 * kk)) n k (sd h (17 + 18 * ss))) ((runF (ld h (8 + 18 * kk)) n k (sd h (17 + 18 * ss)) (min (40 : Int32).toNatClampNeg m) 0 (startS (ld h (8 + 18 * kk)))).2.1 6) (runF (ld h (8 + 18 * kk)) n k (sd h (17 + 18 * ss)) (min (40 : Int32).toNatClampNeg m) 0 (startS (ld h (8 + 18 * kk)))).1 0) else if w.toInt = 2 then ahdF ((runF (ld h (8 + 18 * kk)) n k (sd h (17 + 18 * ss)) (min (40 : Int32).toNatClampNeg m) 0 (startS (ld h (8 + 18 * kk)))).2.2 0) n else -2, ?_, fun h1 I1 K1 => ?_⟩
      · refine n_Main_after ?_
        refine w_Main_after_0 L (Tc.wc (at1 _)) (Is.k ?_)
        refine w_Main_after_8 L rfl (Tc.wc (at2 _)) (Is.k ?_)
        refine w_Main_after_18 (fun c => nomatch c) (fun _ _ => ?_)
        refine w_Main_after_25 (fun c => nomatch c) (fun _ _ => ?_)
        refine w_Main_after_33 L (c_run L A ha hn (by omega) hkk (by omega) tw AS (by omega) hm (by omega) 40 (by decide)) ?_
        rintro _ h33 ⟨k33, rfl, Q33⟩
        have L33 := L.keep k33
        have A33 := A.keep k33
        have ldq := ldk k33 ha
        have sdq := sdk k33 (a := (17 + 18 * ss)) (by omega)
        refine w_Main_after_46 rfl (fun kc46 => ?_) (fun kc46 => ?_) (fun kc46 => ?_) (fun kc46_0 kc46_1 kc46_2 => ?_)
        · refine w_Main_after_76 L33 (Tc.wc (c_payer Q33 L33 A33 (by rw [k33.c _ (by omega)]; exact hn) (by omega))) (Is.k ?_)
          refine w_Main_after_85 ?_
          exact ⟨by rw [if_pos (by omega), ldq], k33⟩
        · refine w_Main_after_86 L33 (c_half (k := k) (m := m) (c := min (40 : Int32).toNatClampNeg m) Q33 L33 A33 ha (by rw [k33.c _ (by omega)]; exact hn) (by omega) (by rw [k33.c _ (by omega)]; exact hkk) (by omega) (by rw [k33.c _ (by omega)]; exact tw) (AS.keep k33) (by omega) (by rw [k33.c _ (by omega)]; exact hm) (by omega) _ (by rw [ldq, sdq, t_nat]; have := runF_le (D := ld h (8 + 18 * kk)) (G := sd h (17 + 18 * ss)) (n := n) (k := k) (min (40 : Int32).toNatClampNeg m) 0 (startS (ld h (8 + 18 * kk))); omega) (Nat.min_le_right _ _)) ?_
          rintro _ h86 ⟨k86, rfl⟩
          rw [ldq, sdq]
          refine w_Main_after_99 ?_
          exact ⟨by rw [if_neg (by omega), if_pos (by omega)], k33.trans k86⟩
        · refine w_Main_after_100 L33 (Tc.wc (c_ahead Q33 L33 A33 (by rw [k33.c _ (by omega)]; exact hn) (by omega))) (Is.k ?_)
          refine w_Main_after_109 ?_
          exact ⟨by rw [if_neg (by omega), if_neg (by omega), if_pos (by omega)], k33⟩
        · refine w_Main_after_110 ?_
          exact ⟨by rw [if_neg (by omega), if_neg (by omega), if_neg (by omega)], k33⟩
      · have L1 := I1.lay
        have hk1 : (kk : Int) < (h1.1 3 0).toInt := by rw [K1.c 3 (by omega)]; omega
        have is1 := fun (d : Nat) => s_isLand1 (rod := rod) (d := d) I1 x kk ek hk1
        refine n_Model_after ?_
        refine w_Model_after_0 L1 (is1 _) ?_
        rintro _ h0 ⟨rfl, k0, M0⟩
        have I0 := I1.keep k0
        have L0 := I0.lay
        have K0 := (Keep.rfl (h := h1)).trans k0
        have e0 : h0.1 (8 + 18 * kk) = h.1 (8 + 18 * kk) := (K1.trans K0).c _ (by omega)
        refine w_Model_after_5 (fun kc5 => absurd kc5 (by decide)) (fun kc5 => ?_)
        refine w_Model_after_8 L0 (s_isSeason1 I0 y ss es (by rw [K0.c 3 (by omega), K1.c 3 (by omega)]; omega)) ?_
        rintro _ h8 ⟨rfl, k8, f8, m8⟩
        have I8 := I0.keep k8
        have L8 := I8.lay
        have K8 := K0.trans k8
        have M8 := M0.keep k8 ha (f8 _ (by omega)) (f8 _ (by omega)) (f8 _ (by omega)) (f8 _ (by omega))
        refine w_Model_after_13 (fun kc13 => absurd kc13 (by decide)) (fun kc13 => ?_)
        refine w_Model_after_16 (Tc.wc (s_isIn _ _ _ _)) (Is.k ?_)
        refine w_Model_after_22 (fun kc22 => ?_) (fun kc22 => ?_)
        · try simp only [ite01t, ite01v, Int32.reduceToInt, t_m1, t_m2, t_m1000, Decidable.not_not] at kc22
          refine w_Model_after_28 (fun kc28 => ?_) (fun kc28 => ?_)
          · try simp only [ite01t, ite01v, Int32.reduceToInt, t_m1, t_m2, t_m1000, Decidable.not_not] at kc28
            refine w_Model_after_38 L8 (r_runsI (k := k) I8 hk2 M8 (by rw [(K1.trans K8).c 3 (by omega)]; omega) m8 (ldk (K1.trans K8) ha) (sdk (K1.trans K8) (by omega)) (by rw [(K1.trans K8).c _ (by omega)]; exact hn) (by rw [(K1.trans K8).c _ (by omega)]; exact hkk) (by rw [(K1.trans K8).c _ (by omega)]; exact hm) 40 (by decide)) ?_
            rintro _ h38 ⟨rfl, k38, q38, Q38, M38, g38⟩
            have I38 := I8.keep k38
            have L38 := I38.lay
            have K38 := K8.trans k38
            have m38 : (h38.1 84 20).toInt = ((790 + 121 * ss : Nat) : Int) := by rw [g38]; exact m8
            refine w_Model_after_44 rfl ?_
            refine Wb.upc n (fun b L' => ∃ (z : Int32) (u : Option MV), L' = [some (.inr (.inr (.inl (some 84)))), some (.inl x), some (.inl y), some (.inl w), some (.inl (payF (fun b => ld h (8 + 18 * kk) 4 b - (runF (ld h (8 + 18 * kk)) n k (sd h (17 + 18 * ss)) (min (40 : Int32).toNatClampNeg m) 0 (startS (ld h (8 + 18 * kk)))).2.2 1 b) b).1), some (.inl (payF (fun b => ld h (8 + 18 * kk) 4 b - (runF (ld h (8 + 18 * kk)) n k (sd h (17 + 18 * ss)) (min (40 : Int32).toNatClampNeg m) 0 (startS (ld h (8 + 18 * kk)))).2.2 1 b) b).2), some (.inl (ahdF ((runF (ld h (8 + 18 * kk)) n k (sd h (17 + 18 * ss)) (min (40 : Int32).toNatClampNeg m) 0 (startS (ld h (8 + 18 * kk)))).2.2 0) b)), some (.inl z), u] ∧ z.toInt = (b : Int)) ?_ (Nat.zero_le _) ⟨0, _, rfl, rfl⟩
            rintro b _ hb ⟨z, u, rfl, hz⟩ ih
            have ez := n_eq hz
            have oz := ofN hz (by omega)
            have h14 : (h38.1 84 14).toInt = (n : Int) := by rw [M38.2.2.2.2.1, (K1.trans K38).c _ (by omega)]; exact hn
            refine w_Model_after_56 L38 (fun kc56 => ?_) (fun kc56 => ?_)
            · (try simp only [ite01t, ite01v, Int32.reduceToInt, t_m1, t_m2, t_m1000, Decidable.not_not] at kc56); (try simp only [h14] at kc56)
              have hbn : b = n := by omega
              subst hbn
              refine w_Model_after_143 (fun kc143 => ?_) (fun kc143 => ?_)
              · (try simp only [ite01t, ite01v, Int32.reduceToInt, t_m1, t_m2, t_m1000, Decidable.not_not] at kc143); (try simp only [h14] at kc143)
                refine w_Model_after_152 ?_
                refine w_Model_after_154 ?_
                exact ⟨by first | (rw [if_pos (by omega)]; done) | (rw [if_neg (by omega), if_neg (by omega), if_pos (by omega)]; done), K38⟩
              · (try simp only [ite01t, ite01v, Int32.reduceToInt, t_m1, t_m2, t_m1000, Decidable.not_not] at kc143); (try simp only [h14] at kc143)
                refine w_Model_after_147 ?_
                refine w_Model_after_154 ?_
                exact ⟨by first | (rw [if_pos (by omega)]; done) | (rw [if_neg (by omega), if_neg (by omega), if_pos (by omega)]; done), K38⟩
            · (try simp only [ite01t, ite01v, Int32.reduceToInt, t_m1, t_m2, t_m1000, Decidable.not_not] at kc56); (try simp only [h14] at kc56)
              refine w_Model_after_65 L38 (Tc.wc (s_of M38 L38 z 3 b 3 hz rfl (by rw [(K1.trans K38).c _ (by omega)]; omega) (by omega))) (Is.k ?_)
              refine w_Model_after_72 L38 (by first | assumption | omega | (refine ⟨?_, ?_⟩ <;> first | assumption | omega)) (fun kc72 => ?_) (fun kc72 => ?_)
              · (try simp only [ite01t, ite01v, Int32.reduceToInt, t_m1, t_m2, t_m1000, Decidable.not_not] at kc72); (try simp only [h14] at kc72)
                refine w_Model_after_94 ?_
                refine w_Model_after_96 rfl (fun kc96 => ?_) (fun kc96 => ?_)
                · (try simp only [ite01t, ite01v, Int32.reduceToInt, t_m1, t_m2, t_m1000, Decidable.not_not] at kc96); (try simp only [h14] at kc96)
                  refine w_Model_after_110 ?_
                  refine w_Model_after_112 L38 rfl (by first | assumption | omega | (refine ⟨?_, ?_⟩ <;> first | assumption | omega)) (fun kc112 => ?_) (fun kc112 => ?_)
                  · (try simp only [ite01t, ite01v, Int32.reduceToInt, t_m1, t_m2, t_m1000, Decidable.not_not] at kc112); (try simp only [h14] at kc112)
                    refine w_Model_after_133 ?_
                    refine w_Model_after_134 rfl ?_
                    refine ih (by omega) _ ⟨_, some (.inl (h38.1 ((8 + 18 * kk) + 1 + 3) b - h38.1 89 z.toNatClampNeg)), ?_, t_succ hz (by omega)⟩
                    rw [payF, ahdF]
                    have q2 := Q38.2 1 b (by omega) (by omega)
                    have q0 : h38.1 88 b = _ := Q38.2 0 b (by omega) (by omega)
                    have eb : (h38.1 ((8 + 18 * kk) + 1 + 3) b - h38.1 89 z.toNatClampNeg) = ld h (8 + 18 * kk) 4 b - (runF (ld h (8 + 18 * kk)) n k (sd h (17 + 18 * ss)) (min (40 : Int32).toNatClampNeg m) 0 (startS (ld h (8 + 18 * kk)))).2.2 1 b := by rw [ez, ← q2, (K1.trans K38).c _ (by omega)]; rfl
                    rw [ez, q0] at kc112
                    simp only [eb] at kc72 kc96
                    simp only [eb, Int32.or_zero]
                    first
                    | (rw [if_pos (by omega), if_pos (by omega), oz]; done)
                    | (rw [if_pos (by omega), if_neg (by omega), oz]; done)
                    | (rw [if_neg (by omega), if_pos (by omega), oz]; done)
                    | (rw [if_neg (by omega), if_neg (by omega)]; done)
                    | (exfalso; omega)
                  · (try simp only [ite01t, ite01v, Int32.reduceToInt, t_m1, t_m2, t_m1000, Decidable.not_not] at kc112); (try simp only [h14] at kc112)
                    refine w_Model_after_126 ?_
                    refine w_Model_after_134 rfl ?_
                    refine ih (by omega) _ ⟨_, some (.inl (h38.1 ((8 + 18 * kk) + 1 + 3) b - h38.1 89 z.toNatClampNeg)), ?_, t_succ hz (by omega)⟩
                    rw [payF, ahdF]
                    have q2 := Q38.2 1 b (by omega) (by omega)
                    have q0 : h38.1 88 b = _ := Q38.2 0 b (by omega) (by omega)
                    have eb : (h38.1 ((8 + 18 * kk) + 1 + 3) b - h38.1 89 z.toNatClampNeg) = ld h (8 + 18 * kk) 4 b - (runF (ld h (8 + 18 * kk)) n k (sd h (17 + 18 * ss)) (min (40 : Int32).toNatClampNeg m) 0 (startS (ld h (8 + 18 * kk)))).2.2 1 b := by rw [ez, ← q2, (K1.trans K38).c _ (by omega)]; rfl
                    rw [ez, q0] at kc112
                    simp only [eb] at kc72 kc96
                    simp only [eb, Int32.or_zero]
                    first
                    | (rw [if_pos (by omega), if_pos (by omega), oz]; done)
                    | (rw [if_pos (by omega), if_neg (by omega), oz]; done)
                    | (rw [if_neg (by omega), if_pos (by omega), oz]; done)
                    | (rw [if_neg (by omega), if_neg (by omega)]; done)
                    | (exfalso; omega)
                · (try simp only [ite01t, ite01v, Int32.reduceToInt, t_m1, t_m2, t_m1000, Decidable.not_not] at kc96); (try simp only [h14] at kc96)
                  refine w_Model_after_105 ?_
                  refine w_Model_after_112 L38 rfl (by first | assumption | omega | (refine ⟨?_, ?_⟩ <;> first | assumption | omega)) (fun kc112 => ?_) (fun kc112 => ?_)
                  · (try simp only [ite01t, ite01v, Int32.reduceToInt, t_m1, t_m2, t_m1000, Decidable.not_not] at kc112); (try simp only [h14] at kc112)
                    refine w_Model_after_133 ?_
                    refine w_Model_after_134 rfl ?_
                    refine ih (by omega) _ ⟨_, some (.inl (h38.1 ((8 + 18 * kk) + 1 + 3) b - h38.1 89 z.toNatClampNeg)), ?_, t_succ hz (by omega)⟩
                    rw [payF, ahdF]
                    have q2 := Q38.2 1 b (by omega) (by omega)
                    have q0 : h38.1 88 b = _ := Q38.2 0 b (by omega) (by omega)
                    have eb : (h38.1 ((8 + 18 * kk) + 1 + 3) b - h38.1 89 z.toNatClampNeg) = ld h (8 + 18 * kk) 4 b - (runF (ld h (8 + 18 * kk)) n k (sd h (17 + 18 * ss)) (min (40 : Int32).toNatClampNeg m) 0 (startS (ld h (8 + 18 * kk)))).2.2 1 b := by rw [ez, ← q2, (K1.trans K38).c _ (by omega)]; rfl
                    rw [ez, q0] at kc112
                    simp only [eb] at kc72 kc96
                    simp only [eb, Int32.or_zero]
                    first
                    | (rw [if_pos (by omega), if_pos (by omega), oz]; done)
                    | (rw [if_pos (by omega), if_neg (by omega), oz]; done)
                    | (rw [if_neg (by omega), if_pos (by omega), oz]; done)
                    | (rw [if_neg (by omega), if_neg (by omega)]; done)
                    | (exfalso; omega)
                  · (try simp only [ite01t, ite01v, Int32.reduceToInt, t_m1, t_m2, t_m1000, Decidable.not_not] at kc112); (try simp only [h14] at kc112)
                    refine w_Model_after_126 ?_
                    refine w_Model_after_134 rfl ?_
                    refine ih (by omega) _ ⟨_, some (.inl (h38.1 ((8 + 18 * kk) + 1 + 3) b - h38.1 89 z.toNatClampNeg)), ?_, t_succ hz (by omega)⟩
                    rw [payF, ahdF]
                    have q2 := Q38.2 1 b (by omega) (by omega)
                    have q0 : h38.1 88 b = _ := Q38.2 0 b (by omega) (by omega)
                    have eb : (h38.1 ((8 + 18 * kk) + 1 + 3) b - h38.1 89 z.toNatClampNeg) = ld h (8 + 18 * kk) 4 b - (runF (ld h (8 + 18 * kk)) n k (sd h (17 + 18 * ss)) (min (40 : Int32).toNatClampNeg m) 0 (startS (ld h (8 + 18 * kk)))).2.2 1 b := by rw [ez, ← q2, (K1.trans K38).c _ (by omega)]; rfl
                    rw [ez, q0] at kc112
                    simp only [eb] at kc72 kc96
                    simp only [eb, Int32.or_zero]
                    first
                    | (rw [if_pos (by omega), if_pos (by omega), oz]; done)
                    | (rw [if_pos (by omega), if_neg (by omega), oz]; done)
                    | (rw [if_neg (by omega), if_pos (by omega), oz]; done)
                    | (rw [if_neg (by omega), if_neg (by omega)]; done)
                    | (exfalso; omega)
              · (try simp only [ite01t, ite01v, Int32.reduceToInt, t_m1, t_m2, t_m1000, Decidable.not_not] at kc72); (try simp only [h14] at kc72)
                refine w_Model_after_89 ?_
                refine w_Model_after_96 rfl (fun kc96 => ?_) (fun kc96 => ?_)
                · (try simp only [ite01t, ite01v, Int32.reduceToInt, t_m1, t_m2, t_m1000, Decidable.not_not] at kc96); (try simp only [h14] at kc96)
                  refine w_Model_after_110 ?_
                  refine w_Model_after_112 L38 rfl (by first | assumption | omega | (refine ⟨?_, ?_⟩ <;> first | assumption | omega)) (fun kc112 => ?_) (fun kc112 => ?_)
                  · (try simp only [ite01t, ite01v, Int32.reduceToInt, t_m1, t_m2, t_m1000, Decidable.not_not] at kc112); (try simp only [h14] at kc112)
                    refine w_Model_after_133 ?_
                    refine w_Model_after_134 rfl ?_
                    refine ih (by omega) _ ⟨_, some (.inl (h38.1 ((8 + 18 * kk) + 1 + 3) b - h38.1 89 z.toNatClampNeg)), ?_, t_succ hz (by omega)⟩
                    rw [payF, ahdF]
                    have q2 := Q38.2 1 b (by omega) (by omega)
                    have q0 : h38.1 88 b = _ := Q38.2 0 b (by omega) (by omega)
                    have eb : (h38.1 ((8 + 18 * kk) + 1 + 3) b - h38.1 89 z.toNatClampNeg) = ld h (8 + 18 * kk) 4 b - (runF (ld h (8 + 18 * kk)) n k (sd h (17 + 18 * ss)) (min (40 : Int32).toNatClampNeg m) 0 (startS (ld h (8 + 18 * kk)))).2.2 1 b := by rw [ez, ← q2, (K1.trans K38).c _ (by omega)]; rfl
                    rw [ez, q0] at kc112
                    simp only [eb] at kc72 kc96
                    simp only [eb, Int32.or_zero]
                    first
                    | (rw [if_pos (by omega), if_pos (by omega), oz]; done)
                    | (rw [if_pos (by omega), if_neg (by omega), oz]; done)
                    | (rw [if_neg (by omega), if_pos (by omega), oz]; done)
                    | (rw [if_neg (by omega), if_neg (by omega)]; done)
                    | (exfalso; omega)
                  · (try simp only [ite01t, ite01v, Int32.reduceToInt, t_m1, t_m2, t_m1000, Decidable.not_not] at kc112); (try simp only [h14] at kc112)
                    refine w_Model_after_126 ?_
                    refine w_Model_after_134 rfl ?_
                    refine ih (by omega) _ ⟨_, some (.inl (h38.1 ((8 + 18 * kk) + 1 + 3) b - h38.1 89 z.toNatClampNeg)), ?_, t_succ hz (by omega)⟩
                    rw [payF, ahdF]
                    have q2 := Q38.2 1 b (by omega) (by omega)
                    have q0 : h38.1 88 b = _ := Q38.2 0 b (by omega) (by omega)
                    have eb : (h38.1 ((8 + 18 * kk) + 1 + 3) b - h38.1 89 z.toNatClampNeg) = ld h (8 + 18 * kk) 4 b - (runF (ld h (8 + 18 * kk)) n k (sd h (17 + 18 * ss)) (min (40 : Int32).toNatClampNeg m) 0 (startS (ld h (8 + 18 * kk)))).2.2 1 b := by rw [ez, ← q2, (K1.trans K38).c _ (by omega)]; rfl
                    rw [ez, q0] at kc112
                    simp only [eb] at kc72 kc96
                    simp only [eb, Int32.or_zero]
                    first
                    | (rw [if_pos (by omega), if_pos (by omega), oz]; done)
                    | (rw [if_pos (by omega), if_neg (by omega), oz]; done)
                    | (rw [if_neg (by omega), if_pos (by omega), oz]; done)
                    | (rw [if_neg (by omega), if_neg (by omega)]; done)
                    | (exfalso; omega)
                · (try simp only [ite01t, ite01v, Int32.reduceToInt, t_m1, t_m2, t_m1000, Decidable.not_not] at kc96); (try simp only [h14] at kc96)
                  refine w_Model_after_105 ?_
                  refine w_Model_after_112 L38 rfl (by first | assumption | omega | (refine ⟨?_, ?_⟩ <;> first | assumption | omega)) (fun kc112 => ?_) (fun kc112 => ?_)
                  · (try simp only [ite01t, ite01v, Int32.reduceToInt, t_m1, t_m2, t_m1000, Decidable.not_not] at kc112); (try simp only [h14] at kc112)
                    refine w_Model_after_133 ?_
                    refine w_Model_after_134 rfl ?_
                    refine ih (by omega) _ ⟨_, some (.inl (h38.1 ((8 + 18 * kk) + 1 + 3) b - h38.1 89 z.toNatClampNeg)), ?_, t_succ hz (by omega)⟩
                    rw [payF, ahdF]
                    have q2 := Q38.2 1 b (by omega) (by omega)
                    have q0 : h38.1 88 b = _ := Q38.2 0 b (by omega) (by omega)
                    have eb : (h38.1 ((8 + 18 * kk) + 1 + 3) b - h38.1 89 z.toNatClampNeg) = ld h (8 + 18 * kk) 4 b - (runF (ld h (8 + 18 * kk)) n k (sd h (17 + 18 * ss)) (min (40 : Int32).toNatClampNeg m) 0 (startS (ld h (8 + 18 * kk)))).2.2 1 b := by rw [ez, ← q2, (K1.trans K38).c _ (by omega)]; rfl
                    rw [ez, q0] at kc112
                    simp only [eb] at kc72 kc96
                    simp only [eb, Int32.or_zero]
                    first
                    | (rw [if_pos (by omega), if_pos (by omega), oz]; done)
                    | (rw [if_pos (by omega), if_neg (by omega), oz]; done)
                    | (rw [if_neg (by omega), if_pos (by omega), oz]; done)
                    | (rw [if_neg (by omega), if_neg (by omega)]; done)
                    | (exfalso; omega)
                  · (try simp only [ite01t, ite01v, Int32.reduceToInt, t_m1, t_m2, t_m1000, Decidable.not_not] at kc112); (try simp only [h14] at kc112)
                    refine w_Model_after_126 ?_
                    refine w_Model_after_134 rfl ?_
                    refine ih (by omega) _ ⟨_, some (.inl (h38.1 ((8 + 18 * kk) + 1 + 3) b - h38.1 89 z.toNatClampNeg)), ?_, t_succ hz (by omega)⟩
                    rw [payF, ahdF]
                    have q2 := Q38.2 1 b (by omega) (by omega)
                    have q0 : h38.1 88 b = _ := Q38.2 0 b (by omega) (by omega)
                    have eb : (h38.1 ((8 + 18 * kk) + 1 + 3) b - h38.1 89 z.toNatClampNeg) = ld h (8 + 18 * kk) 4 b - (runF (ld h (8 + 18 * kk)) n k (sd h (17 + 18 * ss)) (min (40 : Int32).toNatClampNeg m) 0 (startS (ld h (8 + 18 * kk)))).2.2 1 b := by rw [ez, ← q2, (K1.trans K38).c _ (by omega)]; rfl
                    rw [ez, q0] at kc112
                    simp only [eb] at kc72 kc96
                    simp only [eb, Int32.or_zero]
                    first
                    | (rw [if_pos (by omega), if_pos (by omega), oz]; done)
                    | (rw [if_pos (by omega), if_neg (by omega), oz]; done)
                    | (rw [if_neg (by omega), if_pos (by omega), oz]; done)
                    | (rw [if_neg (by omega), if_neg (by omega)]; done)
                    | (exfalso; omega)
            
          · try simp only [ite01t, ite01v, Int32.reduceToInt, t_m1, t_m2, t_m1000, Decidable.not_not] at kc28
            refine w_Model_after_33 L8 (r_half (k := k) I8 hk2 M8 (by rw [(K1.trans K8).c 3 (by omega)]; omega) m8 (by rw [(K1.trans K8).c _ (by omega)]; exact hn) (by rw [(K1.trans K8).c _ (by omega)]; exact hkk) (by rw [(K1.trans K8).c _ (by omega)]; exact hm)) ?_
            rintro _ h33 ⟨k33, rfl⟩
            rw [ldk (K1.trans K8) ha, sdk (K1.trans K8) (by omega)]
            have K33 := K8.trans k33
            refine w_Model_after_37 ?_
            exact ⟨by rw [if_neg (by omega), if_pos (by omega)], K33⟩
        · try simp only [ite01t, ite01v, Int32.reduceToInt, t_m1, t_m2, t_m1000, Decidable.not_not] at kc22
          refine w_Model_after_25 ?_
          exact ⟨by rw [if_neg (by omega), if_neg (by omega), if_neg (by omega)], K8⟩
    · refine ⟨-2, ?_, fun h1 I1 K1 => ?_⟩
      · refine n_Main_after ?_
        refine w_Main_after_0 L (Tc.wc (at1 _)) (Is.k ?_)
        refine w_Main_after_8 L rfl (Tc.wc (s_seasonAt0 hI hs)) (Is.k ?_)
        refine Wb.br (fun _ _ => b_Main_after_18) (fun c => ?_) (fun _ => ?_)
        · simp at c
        refine w_Main_after_25 (fun _ => ?_) (fun _ c => nomatch c)
        refine w_Main_after_30 ?_
        exact ⟨rfl, Keep.rfl⟩
      · have L1 := I1.lay
        have hk1 : (kk : Int) < (h1.1 3 0).toInt := by rw [K1.c 3 (by omega)]; omega
        have is1 := fun (d : Nat) => s_isLand1 (rod := rod) (d := d) I1 x kk ek hk1
        refine n_Model_after ?_
        refine w_Model_after_0 L1 (is1 _) ?_
        rintro _ h0 ⟨rfl, k0, M0⟩
        have I0 := I1.keep k0
        have L0 := I0.lay
        have K0 := (Keep.rfl (h := h1)).trans k0
        have e0 : h0.1 (8 + 18 * kk) = h.1 (8 + 18 * kk) := (K1.trans K0).c _ (by omega)
        refine w_Model_after_5 (fun kc5 => absurd kc5 (by decide)) (fun kc5 => ?_)
        refine w_Model_after_8 L0 (Tc.wc (s_isSeason0 I0 y (by rw [(K1.trans K0).c 3 (by omega)]; exact hs))) (Is.k ?_)
        refine w_Model_after_13 (fun kc13 => ?_) (fun kc13 => absurd kc13 (by decide))
        refine w_Model_after_25 ?_
        exact ⟨rfl, K0⟩
  · refine ⟨-2, ?_, fun h1 I1 K1 => ?_⟩
    · refine n_Main_after ?_
      refine w_Main_after_0 L (Tc.wc (s_landAt0 hI hk)) (Is.k ?_)
      refine Wb.callT (fun _ _ _ _ => b_Main_after_8 rfl (Lay.o0 L) (Lay.k0_0 L)) (by simp only [Option.getD_some, Lay.r0_0 L]; exact s_seasonAt hI y) ?_
      refine Wb.br (fun _ _ => b_Main_after_18) (fun _ => ?_) (fun c => ?_)
      · refine w_Main_after_30 ?_
        exact ⟨rfl, Keep.rfl⟩
      · simp at c
    · have L1 := I1.lay
      have hk1 : ¬ (0 ≤ x.toInt ∧ x.toInt < (h1.1 3 0).toInt) := by rw [K1.c 3 (by omega)]; exact hk
      refine n_Model_after ?_
      refine w_Model_after_0 L1 (Tc.wc (s_isLand0 I1 x hk1)) (Is.k ?_)
      refine w_Model_after_5 (fun kc5 => ?_) (fun kc5 => absurd kc5 (by decide))
      refine w_Model_after_25 ?_
      exact ⟨rfl, Keep.rfl⟩
end M61
