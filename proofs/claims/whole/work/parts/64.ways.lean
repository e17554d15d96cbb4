/-! WAYS, pure: rounds over a table of numbers -/
section M64
def W0 (F : Nat) (E : Nat → Nat → Nat) (f t : Nat) : Nat := if f = t then 0 else if E f t = 0 then F else E f t
def rdF (y : Nat) (W : Nat → Nat → Nat) (f t : Nat) : Nat := min (W f t) (W f y + W y t)
def wayF (F : Nat) (E : Nat → Nat → Nat) : Nat → Nat → Nat → Nat
  | 0 => W0 F E
  | k + 1 => rdF k (wayF F E k)
variable {F : Nat} {E : Nat → Nat → Nat}
theorem way_d (k f : Nat) : wayF F E k f f = 0 := by
  induction k with
  | zero => simp [wayF, W0]
  | succ k ih => simp only [wayF, rdF, ih]; omega
theorem way_mono (k f t : Nat) : wayF F E (k + 1) f t ≤ wayF F E k f t := by
  simp only [wayF, rdF]
  omega
theorem way_le0 (k f t : Nat) : wayF F E k f t ≤ W0 F E f t := by
  induction k with
  | zero => exact Nat.le_refl _
  | succ k ih => exact Nat.le_trans (way_mono k f t) ih
theorem W0_le (hE : ∀ f t, E f t ≤ 9) (hF : 9 ≤ F) (f t : Nat) : W0 F E f t ≤ F := by
  have := hE f t
  unfold W0
  split
  · omega
  · split <;> omega
theorem way_le (hE : ∀ f t, E f t ≤ 9) (hF : 9 ≤ F) (k f t : Nat) : wayF F E k f t ≤ F := Nat.le_trans (way_le0 k f t) (W0_le hE hF f t)
theorem way_rel (hE : ∀ f t, E f t ≤ 9) : ∀ k, k ≤ 6 → ∀ f t, (wayF 1000 E k f t = wayF 9999 E k f t ∧ wayF 1000 E k f t ≤ 9 * 2 ^ k) ∨ (wayF 1000 E k f t = 1000 ∧ wayF 9999 E k f t = 9999) := by
  intro k
  induction k with
  | zero =>
    intro _ f t
    have := hE f t
    simp only [wayF, W0]
    by_cases q : f = t
    · simp [q]
    · by_cases z : E f t = 0
      · simp [q, z]
      · simp only [q, z, if_false, Nat.pow_zero, Nat.mul_one]
        exact Or.inl ⟨trivial, this⟩
  | succ k ih =>
    intro hk f t
    have p : 2 ^ k ≤ 2 ^ 5 := Nat.pow_le_pow_right (by omega) (by omega)
    have p1 : 2 ^ (k + 1) = 2 * 2 ^ k := by rw [Nat.pow_succ]; omega
    have a := ih (by omega) f t
    have b := ih (by omega) f k
    have c := ih (by omega) k t
    simp only [wayF, rdF]
    rw [p1]
    generalize 2 ^ k = B at *
    omega
theorem way_tri (k : Nat) : ∀ i, i < k → ∀ f t, wayF F E k f t ≤ wayF F E k f i + wayF F E k i t := by
  induction k with
  | zero => intro i hi; omega
  | succ k ih =>
    intro i hi f t
    have d := way_d (F := F) (E := E) k k
    by_cases c : i = k
    · subst c
      simp only [wayF, rdF, d]
      omega
    · have a1 := ih i (by omega) f t
      have a2 := ih i (by omega) k t
      have a3 := ih i (by omega) f k
      simp only [wayF, rdF]
      omega
theorem way_pred (n : Nat) : ∀ k, k ≤ n → ∀ f t, f < n → t < n → f ≠ t → wayF F E k f t < F → ∃ u, u < n ∧ E u t ≠ 0 ∧ wayF F E k f u + E u t ≤ wayF F E k f t := by
  intro k
  induction k with
  | zero =>
    intro _ f t hf ht hn hl
    simp only [wayF, W0, hn, if_false] at hl
    by_cases z : E f t = 0
    · simp [z] at hl
    · refine ⟨f, hf, z, ?_⟩
      simp only [wayF, W0, hn, if_true, if_false, z]
      omega
  | succ k ih =>
    intro hk f t hf ht hn hl
    have d := way_d (F := F) (E := E) k k
    by_cases c : wayF F E k f t ≤ wayF F E k f k + wayF F E k k t
    · have e : wayF F E (k + 1) f t = wayF F E k f t := by simp only [wayF, rdF]; omega
      rw [e] at hl ⊢
      obtain ⟨u, h1, h2, h3⟩ := ih (by omega) f t hf ht hn hl
      exact ⟨u, h1, h2, by have := way_mono (F := F) (E := E) k f u; omega⟩
    · have e : wayF F E (k + 1) f t = wayF F E k f k + wayF F E k k t := by simp only [wayF, rdF]; omega
      have kt : k ≠ t := fun q => by subst q; omega
      obtain ⟨u, h1, h2, h3⟩ := ih (by omega) k t (by omega) ht kt (by omega)
      refine ⟨u, h1, h2, ?_⟩
      have q : wayF F E (k + 1) f u ≤ wayF F E k f k + wayF F E k k u := by simp only [wayF, rdF]; omega
      omega
def cntL (v : Nat → Nat) (x : Nat) : Nat → Nat
  | 0 => 0
  | m + 1 => cntL v x m + (if v m < x then 1 else 0)
theorem cntL_mono {v : Nat → Nat} {x y : Nat} (h : x ≤ y) (m : Nat) : cntL v x m ≤ cntL v y m := by
  induction m with
  | zero => exact Nat.le_refl _
  | succ m ih =>
    simp only [cntL]
    by_cases a : v m < x
    · have b : v m < y := by omega
      simp only [a, b, if_true]; omega
    · simp only [a, if_false]; omega
theorem cntL_lt {v : Nat → Nat} {x y u : Nat} (h : x ≤ y) (h1 : v u < y) (h2 : ¬ v u < x) : ∀ m, u < m → cntL v x m + 1 ≤ cntL v y m := by
  intro m
  induction m with
  | zero => intro q; omega
  | succ m ih =>
    intro q
    simp only [cntL]
    by_cases c : u = m
    · subst c
      have := cntL_mono (v := v) h u
      simp only [h1, h2, if_true, if_false]
      omega
    · have := ih (by omega)
      by_cases a : v m < x
      · have b : v m < y := by omega
        simp only [a, b, if_true]; omega
      · simp only [a, if_false]; omega
theorem cntL_le {v : Nat → Nat} {x u : Nat} (h2 : ¬ v u < x) : ∀ m, cntL v x m ≤ m ∧ (u < m → cntL v x m + 1 ≤ m) := by
  intro m
  induction m with
  | zero => exact ⟨Nat.le_refl _, fun q => by omega⟩
  | succ m ih =>
    simp only [cntL]
    by_cases c : u = m
    · subst c
      simp only [h2, if_false]
      omega
    · have : (if v m < x then 1 else 0) ≤ 1 := by split <;> omega
      omega
theorem way_45 (hE : ∀ f t, E f t ≤ 9) {n f : Nat} (n6 : n ≤ 6) (hf : f < n) : ∀ x t, t < n → wayF F E n f t = x → x < F → x ≤ 9 * cntL (wayF F E n f) x n := by
  intro x
  induction x using Nat.strongRecOn with
  | _ x ih =>
    intro t ht e hl
    by_cases c : f = t
    · subst c
      rw [way_d] at e
      omega
    · obtain ⟨u, h1, h2, h3⟩ := way_pred (F := F) (E := E) n n (Nat.le_refl n) f t hf ht c (by omega)
      have q := ih (wayF F E n f u) (by omega) u h1 rfl (by omega)
      have tr := way_tri (F := F) (E := E) n u h1 f t
      have ut : u ≠ t := fun z => by subst z; omega
      have w0 := way_le0 (F := F) (E := E) n u t
      simp only [W0, ut, h2, if_false] at w0
      have := hE u t
      have := cntL_lt (v := wayF F E n f) (x := wayF F E n f u) (y := x) (u := u) (by omega) (by omega) (by omega) n h1
      omega
/-- both tables at the end -/
theorem way_fin (hE : ∀ f t, E f t ≤ 9) {n f t : Nat} (n6 : n ≤ 6) (hf : f < n) (ht : t < n) : (wayF 1000 E n f t = wayF 9999 E n f t ∧ wayF 1000 E n f t ≤ 45) ∨ (wayF 1000 E n f t = 1000 ∧ wayF 9999 E n f t = 9999) := by
  rcases way_rel hE n n6 f t with ⟨a, b⟩ | q
  · left
    refine ⟨a, ?_⟩
    have p : 2 ^ n ≤ 2 ^ 6 := Nat.pow_le_pow_right (by omega) n6
    have z := way_45 hE (F := 1000) n6 hf (wayF 1000 E n f t) t ht rfl (by omega)
    have y := (cntL_le (v := wayF 1000 E n f) (x := wayF 1000 E n f t) (u := t) (by omega) n).2 ht
    omega
  · exact Or.inr q
end M64
