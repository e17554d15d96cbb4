/-! ROWS OF TOWNS, pure -/
section M72
variable {W : Nat → Nat → Nat} {S : Nat → Nat} {n D : Nat}
def dsF (W : Nat → Nat → Nat) : Nat → List Nat → Nat
  | _, [] => 0
  | a, t :: r => W a t + dsF W t r
def lstF : Nat → List Nat → Nat
  | a, [] => a
  | _, t :: r => lstF t r
def smF (S : Nat → Nat) : List Nat → Nat
  | [] => 0
  | t :: r => S t + smF S r
def cdF : Nat → List Nat → Nat
  | _, [] => 0
  | 0, _ :: _ => 0
  | m + 1, t :: r => t * 6 ^ m + cdF m r
theorem dsF_app : ∀ (p q : List Nat) (a : Nat), dsF W a (p ++ q) = dsF W a p + dsF W (lstF a p) q := by
  intro p
  induction p with
  | nil => intro q a; simp [dsF, lstF]
  | cons t p ih => intro q a; simp only [List.cons_append, dsF, lstF, ih]; omega
theorem lstF_app : ∀ (p q : List Nat) (a : Nat), lstF a (p ++ q) = lstF (lstF a p) q := by
  intro p
  induction p with
  | nil => intro q a; simp [lstF]
  | cons t p ih => intro q a; simp only [List.cons_append, lstF, ih]
theorem smF_app : ∀ (p q : List Nat), smF S (p ++ q) = smF S p + smF S q := by
  intro p
  induction p with
  | nil => intro q; simp [smF]
  | cons t p ih => intro q; simp only [List.cons_append, smF, ih]; omega
theorem lstF_lt : ∀ (p : List Nat) (a : Nat), a < n → (∀ t ∈ p, t < n) → lstF a p < n := by
  intro p
  induction p with
  | nil => intro a h _; exact h
  | cons t p ih => intro a _ h; exact ih t (h t List.mem_cons_self) (fun u hu => h u (List.mem_cons_of_mem _ hu))
theorem cdF_app : ∀ (p q : List Nat) (m : Nat), p.length ≤ m → cdF m (p ++ q) = cdF m p + cdF (m - p.length) q := by
  intro p
  induction p with
  | nil => intro q m _; cases m <;> simp [cdF]
  | cons t p ih =>
    intro q m hm
    cases m with
    | zero => simp only [List.length_cons] at hm; omega
    | succ m =>
      simp only [List.cons_append, cdF, List.length_cons]
      rw [ih q m (by simp only [List.length_cons] at hm; omega), Nat.add_sub_add_right]
      omega
theorem cdF_lt : ∀ (m : Nat) (p : List Nat), (∀ t ∈ p, t ≤ 5) → cdF m p < 6 ^ m := by
  intro m
  induction m with
  | zero => intro p _; cases p <;> simp [cdF]
  | succ m ih =>
    intro p h
    cases p with
    | nil => simp only [cdF]; exact Nat.pow_pos (by omega)
    | cons t p =>
      have a := ih p (fun u hu => h u (List.mem_cons_of_mem _ hu))
      have b := h t List.mem_cons_self
      simp only [cdF]
      have e : 6 ^ (m + 1) = 6 * 6 ^ m := by rw [Nat.pow_succ]; omega
      have f : t * 6 ^ m ≤ 5 * 6 ^ m := Nat.mul_le_mul_right _ b
      omega
theorem cdF_one {p : List Nat} {t : Nat} (hp : p.length ≤ 4) : cdF 5 (p ++ [t]) = cdF 5 p + t * 6 ^ (4 - p.length) := by
  rw [cdF_app p [t] 5 (by omega), show 5 - p.length = (4 - p.length) + 1 by omega]
  cases h : 4 - p.length <;> simp [cdF]
theorem cdF_inj : ∀ (m : Nat) (p q : List Nat), p.length = q.length → p.length ≤ m → (∀ t ∈ p, t ≤ 5) → (∀ t ∈ q, t ≤ 5) → cdF m p = cdF m q → p = q := by
  intro m
  induction m with
  | zero =>
    intro p q h1 h2 _ _ _
    cases p with
    | nil => cases q with
      | nil => rfl
      | cons _ _ => simp at h1
    | cons _ _ => simp at h2
  | succ m ih =>
    intro p q h1 h2 h3 h4 e
    cases p with
    | nil => cases q with
      | nil => rfl
      | cons _ _ => simp at h1
    | cons t p => cases q with
      | nil => simp at h1
      | cons u q =>
        simp only [List.length_cons] at h1 h2
        simp only [cdF] at e
        have a := cdF_lt m p (fun z hz => h3 z (List.mem_cons_of_mem _ hz))
        have b := cdF_lt m q (fun z hz => h4 z (List.mem_cons_of_mem _ hz))
        have tu : t = u := by
          rcases Nat.lt_trichotomy t u with w | w | w
          · have : (t + 1) * 6 ^ m ≤ u * 6 ^ m := Nat.mul_le_mul_right _ w
            rw [Nat.add_mul] at this
            omega
          · exact w
          · have : (u + 1) * 6 ^ m ≤ t * 6 ^ m := Nat.mul_le_mul_right _ w
            rw [Nat.add_mul] at this
            omega
        subst tu
        rw [ih p q (by omega) (by omega) (fun z hz => h3 z (List.mem_cons_of_mem _ hz)) (fun z hz => h4 z (List.mem_cons_of_mem _ hz)) (by omega)]
/-- no more towns than there are -/
theorem nd_len : ∀ (m : Nat) (l : List Nat), l.Nodup → (∀ t ∈ l, 1 ≤ t ∧ t ≤ m) → l.length ≤ m := by
  intro m
  induction m with
  | zero =>
    intro l _ h
    cases l with
    | nil => simp
    | cons t l => have := h t List.mem_cons_self; omega
  | succ m ih =>
    intro l hn h
    by_cases c : m + 1 ∈ l
    · have e := List.length_erase_of_mem c
      have q := ih (l.erase (m + 1)) (hn.erase _) (fun t ht => by
        have z := (List.Nodup.mem_erase_iff hn).mp ht
        have := h t z.2
        have := z.1
        omega)
      omega
    · have q := ih l hn (fun t ht => by
        have := h t ht
        have : t ≠ m + 1 := fun z => c (z ▸ ht)
        omega)
      omega
/-- a row that may be gone -/
def Vd (W : Nat → Nat → Nat) (n D : Nat) (r : List Nat) : Prop := r.Nodup ∧ (∀ t ∈ r, 1 ≤ t ∧ t < n) ∧ dsF W 0 r ≤ D
theorem Vd.len {r : List Nat} (v : Vd W n D r) (n1 : 1 ≤ n) : r.length ≤ n - 1 := nd_len (n - 1) r v.1 (fun t ht => by have := v.2.1 t ht; omega)
theorem Vd.five {r : List Nat} (v : Vd W n D r) (n6 : n ≤ 6) : ∀ t ∈ r, t ≤ 5 := fun t ht => by have := v.2.1 t ht; omega
theorem Vd.pre {p q : List Nat} (v : Vd W n D (p ++ q)) : Vd W n D p := by
  refine ⟨(List.nodup_append.mp v.1).1, fun t ht => v.2.1 t (List.mem_append_left _ ht), ?_⟩
  have := v.2.2
  rw [dsF_app] at this
  omega
/-- b is no worse than r: more coins, fewer towns, first by numbers -/
def Gd (S : Nat → Nat) (b r : List Nat) : Prop := smF S r < smF S b ∨ (smF S r = smF S b ∧ (b.length < r.length ∨ (b.length = r.length ∧ cdF 5 b ≤ cdF 5 r)))
theorem Gd.rfl {b : List Nat} : Gd S b b := Or.inr ⟨Eq.refl _, Or.inr ⟨Eq.refl _, Nat.le_refl _⟩⟩
theorem Gd.trans {a b c : List Nat} (x : Gd S a b) (y : Gd S b c) : Gd S a c := by
  unfold Gd at *
  omega
theorem Gd.eq {a b : List Nat} (n6 : n ≤ 6) (n1 : 1 ≤ n) (va : Vd W n D a) {W' : Nat → Nat → Nat} (vb : Vd W' n D b) (x : Gd S a b) (y : Gd S b a) : a = b := by
  have l1 := va.len n1
  unfold Gd at x y
  exact cdF_inj 5 a b (by omega) (by omega) (va.five n6) (vb.five n6) (by omega)
/-- the rows by their codes -/
def rowF (N : Nat) : Nat → Nat → List Nat
  | 0, _ => []
  | k + 1, c => rowF N k (c / N) ++ [1 + c % N]
theorem rowF_len (N : Nat) : ∀ k c, (rowF N k c).length = k := by
  intro k
  induction k with
  | zero => intro c; rfl
  | succ k ih => intro c; simp [rowF, ih]
theorem rowF_mem {N : Nat} (hN : 1 ≤ N) : ∀ k c, ∀ t ∈ rowF N k c, 1 ≤ t ∧ t ≤ N := by
  intro k
  induction k with
  | zero => intro c t ht; simp [rowF] at ht
  | succ k ih =>
    intro c t ht
    simp only [rowF, List.mem_append, List.mem_singleton] at ht
    rcases ht with q | q
    · exact ih _ t q
    · have := Nat.mod_lt c (show 0 < N by omega)
      omega
theorem rowF_mono {N : Nat} (hN : 1 ≤ N ∧ N ≤ 5) : ∀ k, k ≤ 5 → ∀ kc1 kc2, kc1 < kc2 → kc2 < N ^ k → cdF 5 (rowF N k kc1) + 6 ^ (5 - k) ≤ cdF 5 (rowF N k kc2) := by
  intro k
  induction k with
  | zero => intro _ kc1 kc2 h1 h2; simp at h2; omega
  | succ k ih =>
    intro hk kc1 kc2 h1 h2
    have d1 := Nat.div_add_mod kc1 N
    have d2 := Nat.div_add_mod kc2 N
    have m1 := Nat.mod_lt kc1 (show 0 < N by omega)
    have m2 := Nat.mod_lt kc2 (show 0 < N by omega)
    have l1 := rowF_len N k (kc1 / N)
    have l2 := rowF_len N k (kc2 / N)
    simp only [rowF]
    rw [cdF_one (by omega), cdF_one (by omega), l1, l2, show 5 - (k + 1) = 4 - k by omega]
    have e6 : 6 ^ (5 - k) = 6 * 6 ^ (4 - k) := by rw [show 5 - k = (4 - k) + 1 by omega, Nat.pow_succ]; omega
    have hle : kc1 / N ≤ kc2 / N := Nat.div_le_div_right (by omega)
    by_cases w : kc1 / N = kc2 / N
    · rw [w] at d1 ⊢
      have : kc1 % N < kc2 % N := by omega
      have z : (1 + kc1 % N + 1) * 6 ^ (4 - k) ≤ (1 + kc2 % N) * 6 ^ (4 - k) := Nat.mul_le_mul_right _ (by omega)
      rw [Nat.add_mul (1 + kc1 % N) 1] at z
      omega
    · have hk2 : kc2 / N < N ^ k := by
        rw [Nat.pow_succ] at h2
        exact Nat.div_lt_of_lt_mul (by rw [Nat.mul_comm]; exact h2)
      have z := ih (by omega) (kc1 / N) (kc2 / N) (by omega) hk2
      have y : (1 + kc1 % N + 1) * 6 ^ (4 - k) ≤ 6 * 6 ^ (4 - k) := Nat.mul_le_mul_right _ (by omega)
      rw [Nat.add_mul (1 + kc1 % N) 1] at y
      omega
theorem rowF_sur {N : Nat} (hN : 1 ≤ N) : ∀ (k : Nat) (r : List Nat), r.length = k → (∀ t ∈ r, 1 ≤ t ∧ t ≤ N) → ∃ c, c < N ^ k ∧ rowF N k c = r := by
  intro k
  induction k with
  | zero =>
    intro r h _
    exact ⟨0, by simp, (List.length_eq_zero_iff.mp h).symm⟩
  | succ k ih =>
    intro r h hm
    have hne : r ≠ [] := fun q => by rw [q] at h; simp at h
    have e := List.dropLast_concat_getLast hne
    obtain ⟨c, hc, hr⟩ := ih r.dropLast (by rw [List.length_dropLast, h]; omega) (fun t ht => hm t (List.dropLast_subset r ht))
    have ht := hm _ (List.getLast_mem hne)
    refine ⟨c * N + (r.getLast hne - 1), ?_, ?_⟩
    · rw [Nat.pow_succ]
      have : (c + 1) * N ≤ N ^ k * N := Nat.mul_le_mul_right _ hc
      rw [Nat.add_mul] at this
      omega
    · simp only [rowF]
      have q1 : (c * N + (r.getLast hne - 1)) / N = c := by
        rw [Nat.mul_comm, Nat.mul_add_div (by omega), Nat.div_eq_of_lt (by omega), Nat.add_zero]
      have q2 : (c * N + (r.getLast hne - 1)) % N = r.getLast hne - 1 := by
        rw [Nat.mul_comm, Nat.mul_add_mod, Nat.mod_eq_of_lt (by omega)]
      rw [q1, q2, hr, show 1 + (r.getLast hne - 1) = r.getLast hne by omega]
      exact e
/-- the same rows by both tables -/
theorem dsF_rel {V : Nat → Nat → Nat} (w : ∀ f t, f < n → t < n → (W f t = V f t ∧ W f t ≤ 45) ∨ (W f t = 1000 ∧ V f t = 9999)) : ∀ (r : List Nat) (a : Nat), a < n → (∀ t ∈ r, t < n) → (dsF W a r = dsF V a r) ∨ (1000 ≤ dsF W a r ∧ 1000 ≤ dsF V a r) := by
  intro r
  induction r with
  | nil => intro a _ _; exact Or.inl rfl
  | cons t r ih =>
    intro a ha h
    have ht := h t List.mem_cons_self
    have q := ih t ht (fun u hu => h u (List.mem_cons_of_mem _ hu))
    have z := w a t ha ht
    simp only [dsF]
    omega
theorem Vd.rel {V : Nat → Nat → Nat} (w : ∀ f t, f < n → t < n → (W f t = V f t ∧ W f t ≤ 45) ∨ (W f t = 1000 ∧ V f t = 9999)) (n1 : 1 ≤ n) (hD : D ≤ 40) {r : List Nat} : Vd W n D r ↔ Vd V n D r := by
  constructor
  · intro v
    refine ⟨v.1, v.2.1, ?_⟩
    have q := dsF_rel w r 0 (by omega) (fun t ht => (v.2.1 t ht).2)
    have := v.2.2
    omega
  · intro v
    refine ⟨v.1, v.2.1, ?_⟩
    have q := dsF_rel w r 0 (by omega) (fun t ht => (v.2.1 t ht).2)
    have := v.2.2
    omega
/-- bits of towns -/
theorem bit_chk : (List.range 64).all (fun m => (List.range 6).all (fun t => decide (((Int32.ofNat m >>> (Int32.ofNat t &&& 31)) &&& 1) = (if m.testBit t then 1 else 0)) && decide (Int32.ofNat m ||| ((1 : Int32) <<< (Int32.ofNat t &&& 31)) = Int32.ofNat (m ||| 2 ^ t)) && decide (m ||| 2 ^ t < 64))) = true := by decide +kernel
theorem bit_of {m t : Nat} (hm : m < 64) (ht : t < 6) : ((Int32.ofNat m >>> (Int32.ofNat t &&& 31)) &&& 1) = (if m.testBit t then 1 else 0) ∧ Int32.ofNat m ||| ((1 : Int32) <<< (Int32.ofNat t &&& 31)) = Int32.ofNat (m ||| 2 ^ t) ∧ m ||| 2 ^ t < 64 := by
  have z := List.all_eq_true.mp (List.all_eq_true.mp bit_chk m (List.mem_range.mpr hm)) t (List.mem_range.mpr ht)
  simp only [Bool.and_eq_true, decide_eq_true_eq] at z
  exact ⟨z.1.1, z.1.2, z.2⟩
/-- the mask of some towns -/
def Msk (m : Nat) (P : Nat → Prop) : Prop := m < 64 ∧ ∀ t, t < 6 → (m.testBit t = true ↔ P t)
theorem Msk.add {m t : Nat} {P : Nat → Prop} (k : Msk m P) (ht : t < 6) : Msk (m ||| 2 ^ t) (fun u => P u ∨ u = t) := by
  refine ⟨(bit_of k.1 ht).2.2, fun u hu => ?_⟩
  rw [Nat.testBit_or, Nat.testBit_two_pow, Bool.or_eq_true, k.2 u hu, decide_eq_true_eq]
  exact ⟨fun q => q.elim Or.inl (fun e => Or.inr e.symm), fun q => q.elim Or.inl (fun e => Or.inr e.symm)⟩
theorem Msk.ext {m : Nat} {P Q : Nat → Prop} (k : Msk m P) (e : ∀ t, t < 6 → (P t ↔ Q t)) : Msk m Q := ⟨k.1, fun t ht => (k.2 t ht).trans (e t ht)⟩
end M72
