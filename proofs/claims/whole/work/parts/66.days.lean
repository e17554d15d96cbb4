/-! OPERATIONS days, reach, centre -/
section M66
variable {rod : Nat → Nat × (Nat → Int32)} {d : Nat} {h : MH} {a l n : Nat}
def bitF (p : Nat → Bool) : Nat → Int32
  | 0 => 0
  | b + 1 => if p b = true then bitF p b ||| ((1 : Int32) <<< (Int32.ofNat b &&& 31)) else bitF p b
theorem bitF_ext {p q : Nat → Bool} {n : Nat} (e : ∀ b, b < n → p b = q b) : bitF p n = bitF q n := by
  induction n with
  | zero => rfl
  | succ n ih => rw [bitF, bitF, ih (fun b hb => e b (by omega)), e n (by omega)]
/-- open towns: the furthest -/
def furF (W : Nat → Nat) (s : Int32) : Nat → Nat
  | 0 => 0
  | t + 1 => if ((s >>> (Int32.ofNat t &&& 31)) &&& 1).toInt = 0 then max (furF W s t) (W t) else furF W s t
theorem furF_rel {W V : Nat → Nat} {s : Int32} (r : ∀ t, t < n → (W t = V t ∧ W t ≤ 45) ∨ (W t = 1000 ∧ V t = 9999)) : ∀ m, m ≤ n → (furF W s m = furF V s m ∧ furF W s m ≤ 45) ∨ (furF W s m = 1000 ∧ furF V s m = 9999) := by
  intro m
  induction m with
  | zero => intro _; exact Or.inl ⟨rfl, by simp [furF]⟩
  | succ m ih =>
    intro hm
    have a := ih (by omega)
    have b := r m (by omega)
    simp only [furF]
    split
    · omega
    · exact a
theorem furF_le {W : Nat → Nat} {s : Int32} {F : Nat} (r : ∀ t, t < n → W t ≤ F) : ∀ m, m ≤ n → furF W s m ≤ F := by
  intro m
  induction m with
  | zero => intro _; simp [furF]
  | succ m ih =>
    intro hm
    have a := ih (by omega)
    have b := r m (by omega)
    simp only [furF]
    split
    · omega
    · exact a
def midF (g : Nat → Nat) (s : Int32) (F : Nat) : Nat → Int32 × Nat
  | 0 => (-1, F)
  | t + 1 => if ((s >>> (Int32.ofNat t &&& 31)) &&& 1).toInt = 0 ∧ g t < (midF g s F t).2 then (Int32.ofNat t, g t) else midF g s F t
theorem midF_rel {g k : Nat → Nat} {s : Int32} (r : ∀ t, t < n → (g t = k t ∧ g t ≤ 45) ∨ (g t = 1000 ∧ k t = 9999)) : ∀ m, m ≤ n → (midF g s 1000 m).1 = (midF k s 9999 m).1 ∧ (((midF g s 1000 m).2 = (midF k s 9999 m).2 ∧ (midF g s 1000 m).2 ≤ 45) ∨ ((midF g s 1000 m).2 = 1000 ∧ (midF k s 9999 m).2 = 9999)) := by
  intro m
  induction m with
  | zero => intro _; exact ⟨rfl, Or.inr ⟨rfl, rfl⟩⟩
  | succ m ih =>
    intro hm
    obtain ⟨a1, a2⟩ := ih (by omega)
    have b := r m (by omega)
    simp only [midF]
    by_cases z : ((s >>> (Int32.ofNat m &&& 31)) &&& 1).toInt = 0 ∧ g m < (midF g s 1000 m).2
    · have z' : ((s >>> (Int32.ofNat m &&& 31)) &&& 1).toInt = 0 ∧ k m < (midF k s 9999 m).2 := ⟨z.1, by omega⟩
      rw [if_pos z, if_pos z']
      exact ⟨rfl, by simp only; omega⟩
    · have z' : ¬ (((s >>> (Int32.ofNat m &&& 31)) &&& 1).toInt = 0 ∧ k m < (midF k s 9999 m).2) := fun q => z ⟨q.1, by omega⟩
      rw [if_neg z, if_neg z']
      exact ⟨a1, a2⟩
theorem midF_who {g : Nat → Nat} {s : Int32} {F : Nat} : ∀ m, ((midF g s F m).1 = -1 ∧ (midF g s F m).2 = F) ∨ ∃ b, b < m ∧ (midF g s F m).1 = Int32.ofNat b ∧ (midF g s F m).2 = g b ∧ g b < F := by
  intro m
  induction m with
  | zero => exact Or.inl ⟨rfl, rfl⟩
  | succ m ih =>
    simp only [midF]
    split
    · rename_i z
      refine Or.inr ⟨m, by omega, rfl, rfl, ?_⟩
      rcases ih with q | ⟨b, h1, h2, h3, h4⟩ <;> omega
    · rcases ih with q | ⟨b, h1, h2⟩
      · exact Or.inl q
      · exact Or.inr ⟨b, by omega, h2⟩
/-- the class's table is measured -/
def TabC (h : MH) (n : Nat) (W : Nat → Nat → Nat) : Prop := (h.1 70 0).toInt = (n : Int) ∧ ∀ f t, f < n → t < n → h.1 71 (6 * f + t) = Int32.ofNat (W f t)
theorem c_btw {W : Nat → Nat → Nat} (T : TabC h n W) (L : Lay h.2) (n6 : n ≤ 6) (x y : Int32) {f t : Nat} (hx : x.toInt = (f : Int)) (hy : y.toInt = (t : Int)) (hf : f < n) (ht : t < n) : Tc rod (d + 1) 100 [.inr (.inr (.inl (some 70))), .inl x, .inl y] h (some (.inl (Int32.ofNat (W f t)))) h := by
  rw [← T.2 f t hf ht]
  exact c_between L T.1 n6 x y hx hy hf ht
theorem c_within {W : Nat → Nat → Nat} (T : TabC h n W) (L : Lay h.2) (n6 : n ≤ 6) (n1 : 1 ≤ n) (x : Int32) : Tc rod (d + 2) 158 [.inr (.inr (.inl (some 70))), .inl x] h (some (.inl (bitF (fun t => decide ((Int32.ofNat (W 0 t)).toInt ≤ x.toInt)) n))) h := by
  have hn := T.1
  apply Wc.tc
  refine n_Ways_townsWithin ?_
  refine w_Ways_townsWithin_0 rfl ?_
  refine Wb.upc n (fun t L' => ∃ (z : Int32), L' = [some (.inr (.inr (.inl (some 70)))), some (.inl x), some (.inl (bitF (fun t => decide ((Int32.ofNat (W 0 t)).toInt ≤ x.toInt)) t)), some (.inl z)] ∧ z.toInt = (t : Int)) ?_ (Nat.zero_le _) ⟨0, rfl, rfl⟩
  rintro t _ hb ⟨z, rfl, hz⟩ ih
  have oz := ofN hz (by omega)
  refine w_Ways_townsWithin_4 L (fun kc4 => ?_) (fun kc4 => ?_)
  · (try simp only [ite01t, ite01v, Int32.reduceToInt, t_m1, t_m2, t_m1000, Decidable.not_not] at kc4); (try simp only [hn] at kc4)
    refine w_Ways_townsWithin_34 ?_
    have : t = n := by omega
    subst this
    exact ⟨rfl, rfl⟩
  · (try simp only [ite01t, ite01v, Int32.reduceToInt, t_m1, t_m2, t_m1000, Decidable.not_not] at kc4); (try simp only [hn] at kc4)
    refine w_Ways_townsWithin_12 L (Tc.wc (c_btw T L n6 0 z (f := 0) rfl hz (by omega) (by omega))) (Is.k ?_)
    refine w_Ways_townsWithin_18 (fun kc18 => ?_) (fun kc18 => ?_)
    · (try simp only [ite01t, ite01v, Int32.reduceToInt, t_m1, t_m2, t_m1000, Decidable.not_not] at kc18); (try simp only [hn] at kc18)
      refine w_Ways_townsWithin_28 rfl ?_
      refine ih (by omega) _ ⟨_, ?_, t_succ hz (by omega)⟩
      rw [bitF]
      first
      | rw [if_pos (decide_eq_true (by omega)), oz]
      | rw [if_neg (fun q => absurd (of_decide_eq_true q) (by omega))]
    · (try simp only [ite01t, ite01v, Int32.reduceToInt, t_m1, t_m2, t_m1000, Decidable.not_not] at kc18); (try simp only [hn] at kc18)
      refine w_Ways_townsWithin_22 rfl ?_
      refine w_Ways_townsWithin_28 rfl ?_
      refine ih (by omega) _ ⟨_, ?_, t_succ hz (by omega)⟩
      rw [bitF]
      first
      | rw [if_pos (decide_eq_true (by omega)), oz]
      | rw [if_neg (fun q => absurd (of_decide_eq_true q) (by omega))]
theorem mxN {x y : Nat} (hx : x ≤ 9999) (hy : y ≤ 9999) : (if Int32.ofNat x < Int32.ofNat y then Int32.ofNat y else Int32.ofNat x) = Int32.ofNat (max x y) := by
  by_cases z : x < y
  · rw [if_pos (Int32.lt_iff_toInt_lt.mpr (by rw [t_nat (by omega), t_nat (by omega)]; omega)), Nat.max_eq_right (by omega)]
  · rw [if_neg (fun q => z (by have := Int32.lt_iff_toInt_lt.mp q; rw [t_nat (by omega), t_nat (by omega)] at this; omega)), Nat.max_eq_left (by omega)]
theorem c_fur {W : Nat → Nat → Nat} (T : TabC h n W) (L : Lay h.2) (A : LandA h.2 a) (n6 : n ≤ 6) (wl : ∀ f t, W f t ≤ 9999) (x : Int32) {f : Nat} (hx : x.toInt = (f : Int)) (hf : f < n) : Tc rod (d + 2) 161 [.inr (.inr (.inl (some 70))), .inr (.inr (.inl (some a))), .inl x] h (some (.inl (Int32.ofNat (furF (W f) (h.1 a 3) n)))) h := by
  have hn := T.1
  apply Wc.tc
  refine n_Ways_furthestFrom ?_
  refine w_Ways_furthestFrom_0 rfl ?_
  refine Wb.upc n (fun t L' => ∃ (z : Int32), L' = [some (.inr (.inr (.inl (some 70)))), some (.inr (.inr (.inl (some a)))), some (.inl x), some (.inl (Int32.ofNat (furF (W f) (h.1 a 3) t))), some (.inl z)] ∧ z.toInt = (t : Int)) ?_ (Nat.zero_le _) ⟨0, rfl, rfl⟩
  rintro t _ hb ⟨z, rfl, hz⟩ ih
  have oz := ofN hz (by omega)
  have b1 := furF_le (W := W f) (s := h.1 a 3) (F := 9999) (n := n) (fun t _ => wl f t) t hb
  have b2 := wl f t
  refine w_Ways_furthestFrom_5 L (fun kc5 => ?_) (fun kc5 => ?_)
  · (try simp only [ite01t, ite01v, Int32.reduceToInt, t_m1, t_m2, t_m1000, Decidable.not_not] at kc5); (try simp only [hn] at kc5)
    refine w_Ways_furthestFrom_44 ?_
    have : t = n := by omega
    subst this
    exact ⟨rfl, rfl⟩
  · (try simp only [ite01t, ite01v, Int32.reduceToInt, t_m1, t_m2, t_m1000, Decidable.not_not] at kc5); (try simp only [hn] at kc5)
    refine w_Ways_furthestFrom_14 A (fun kc14 => ?_) (fun kc14 => ?_)
    · (try simp only [ite01t, ite01v, Int32.reduceToInt, t_m1, t_m2, t_m1000, Decidable.not_not] at kc14); (try simp only [hn] at kc14)
      refine w_Ways_furthestFrom_38 rfl ?_
      refine ih (by omega) _ ⟨_, ?_, t_succ hz (by omega)⟩
      rw [furF]
      rw [oz] at kc14
      first
      | rw [if_neg kc14]
      | rw [if_pos kc14, mxN (by omega) (by omega)]
    · (try simp only [ite01t, ite01v, Int32.reduceToInt, t_m1, t_m2, t_m1000, Decidable.not_not] at kc14); (try simp only [hn] at kc14)
      refine w_Ways_furthestFrom_26 L (Tc.wc (c_btw T L n6 x z hx hz (by omega) (by omega))) (Is.k ?_)
      refine w_Ways_furthestFrom_34 rfl ?_
      refine w_Ways_furthestFrom_38 rfl ?_
      refine ih (by omega) _ ⟨_, ?_, t_succ hz (by omega)⟩
      rw [furF]
      rw [oz] at kc14
      first
      | rw [if_neg kc14]
      | rw [if_pos kc14, mxN (by omega) (by omega)]
theorem c_mid {W : Nat → Nat → Nat} (T : TabC h n W) (L : Lay h.2) (A : LandA h.2 a) (n6 : n ≤ 6) (wl : ∀ f t, W f t ≤ 9999) : Tc rod (d + 3) 160 [.inr (.inr (.inl (some 70))), .inr (.inr (.inl (some a)))] h (some (.inl (midF (fun f => furF (W f) (h.1 a 3) n) (h.1 a 3) 1000 n).1)) h := by
  have hn := T.1
  apply Wc.tc
  refine n_Ways_middle ?_
  refine w_Ways_middle_0 rfl ?_
  have fl := fun f => furF_le (W := W f) (s := h.1 a 3) (F := 9999) (n := n) (fun t _ => wl f t) n (Nat.le_refl n)
  have ml : ∀ m, (midF (fun f => furF (W f) (h.1 a 3) n) (h.1 a 3) 1000 m).2 ≤ 9999 := fun m => by
    rcases midF_who (g := fun f => furF (W f) (h.1 a 3) n) (s := h.1 a 3) (F := 1000) m with q | ⟨b, _, _, q, _⟩
    · omega
    · rw [q]; exact fl b
  refine Wb.upc n (fun t L' => ∃ (z : Int32) (u : Option MV), L' = [some (.inr (.inr (.inl (some 70)))), some (.inr (.inr (.inl (some a)))), some (.inl (midF (fun f => furF (W f) (h.1 a 3) n) (h.1 a 3) 1000 t).1), some (.inl (Int32.ofNat (midF (fun f => furF (W f) (h.1 a 3) n) (h.1 a 3) 1000 t).2)), some (.inl z), u] ∧ z.toInt = (t : Int)) ?_ (Nat.zero_le _) ⟨0, _, rfl, rfl⟩
  rintro t _ hb ⟨z, u, rfl, hz⟩ ih
  have oz := ofN hz (by omega)
  have b1 := fl t
  have b2 := ml t
  have t1 := t_nat (n := furF (W t) (h.1 a 3) n) (by omega)
  have t2 := t_nat (n := (midF (fun f => furF (W f) (h.1 a 3) n) (h.1 a 3) 1000 t).2) (by omega)
  refine w_Ways_middle_9 L (fun kc9 => ?_) (fun kc9 => ?_)
  · (try simp only [ite01t, ite01v, Int32.reduceToInt, t_m1, t_m2, t_m1000, Decidable.not_not] at kc9); (try simp only [hn] at kc9); (try simp only [t1, t2] at kc9)
    refine w_Ways_middle_57 ?_
    have : t = n := by omega
    subst this
    exact ⟨rfl, rfl⟩
  · (try simp only [ite01t, ite01v, Int32.reduceToInt, t_m1, t_m2, t_m1000, Decidable.not_not] at kc9); (try simp only [hn] at kc9); (try simp only [t1, t2] at kc9)
    refine w_Ways_middle_18 L (Tc.wc (c_fur T L A n6 wl z hz (by omega))) (Is.k ?_)
    refine w_Ways_middle_25 A (fun kc25 => ?_) (fun kc25 => ?_)
    · (try simp only [ite01t, ite01v, Int32.reduceToInt, t_m1, t_m2, t_m1000, Decidable.not_not] at kc25); (try simp only [hn] at kc25); (try simp only [t1, t2] at kc25)
      refine w_Ways_middle_51 rfl ?_
      refine ih (by omega) _ ⟨_, some (.inl (Int32.ofNat (furF (W t) (h.1 a 3) n))), ?_, t_succ hz (by omega)⟩
      rw [midF]
      rw [oz] at kc25
      first
      | rw [if_neg (fun q => kc25 q.1)]
      | rw [if_pos ⟨kc25, by omega⟩, oz]
      | rw [if_neg (fun q => absurd q.2 (by omega))]
    · (try simp only [ite01t, ite01v, Int32.reduceToInt, t_m1, t_m2, t_m1000, Decidable.not_not] at kc25); (try simp only [hn] at kc25); (try simp only [t1, t2] at kc25)
      refine w_Ways_middle_39 (fun kc39 => ?_) (fun kc39 => ?_)
      · (try simp only [ite01t, ite01v, Int32.reduceToInt, t_m1, t_m2, t_m1000, Decidable.not_not] at kc39); (try simp only [hn] at kc39); (try simp only [t1, t2] at kc39)
        refine w_Ways_middle_51 rfl ?_
        refine ih (by omega) _ ⟨_, some (.inl (Int32.ofNat (furF (W t) (h.1 a 3) n))), ?_, t_succ hz (by omega)⟩
        rw [midF]
        rw [oz] at kc25
        first
        | rw [if_neg (fun q => kc25 q.1)]
        | rw [if_pos ⟨kc25, by omega⟩, oz]
        | rw [if_neg (fun q => absurd q.2 (by omega))]
      · (try simp only [ite01t, ite01v, Int32.reduceToInt, t_m1, t_m2, t_m1000, Decidable.not_not] at kc39); (try simp only [hn] at kc39); (try simp only [t1, t2] at kc39)
        refine w_Ways_middle_45 rfl rfl ?_
        refine w_Ways_middle_51 rfl ?_
        refine ih (by omega) _ ⟨_, some (.inl (Int32.ofNat (furF (W t) (h.1 a 3) n))), ?_, t_succ hz (by omega)⟩
        rw [midF]
        rw [oz] at kc25
        first
        | rw [if_neg (fun q => kc25 q.1)]
        | rw [if_pos ⟨kc25, by omega⟩, oz]
        | rw [if_neg (fun q => absurd q.2 (by omega))]
def TabM (h : MH) (n : Nat) (s : Int32) (W : Nat → Nat → Nat) : Prop := (h.1 84 13).toInt = (n : Int) ∧ h.1 84 23 = s ∧ ∀ f t, f < n → t < n → h.1 92 (6 * f + t) = Int32.ofNat (W f t)
theorem r_fur {W : Nat → Nat → Nat} {s : Int32} (T : TabM h n s W) (L : Lay h.2) (n6 : n ≤ 6) (wl : ∀ f t, W f t ≤ 9999) (wd : ∀ f, W f f = 0) (x : Int32) {f : Nat} (hx : x.toInt = (f : Int)) (hf : f < n) : Tc rod (d + 2) 261 [.inr (.inr (.inl (some 84))), .inl x] h (some (.inl (Int32.ofNat (furF (W f) s n)))) h := by
  have hn := T.1
  have hs := T.2.1
  apply Wc.tc
  refine n_Model_furthest ?_
  refine w_Model_furthest_0 rfl ?_
  refine Wb.upc n (fun t L' => ∃ (z : Int32), L' = [some (.inr (.inr (.inl (some 84)))), some (.inl x), some (.inl (Int32.ofNat (furF (W f) s t))), some (.inl z)] ∧ z.toInt = (t : Int)) ?_ (Nat.zero_le _) ⟨0, rfl, rfl⟩
  rintro t _ hb ⟨z, rfl, hz⟩ ih
  have oz := ofN hz (by omega)
  have b1 := furF_le (W := W f) (s := s) (F := 9999) (n := n) (fun t _ => wl f t) t hb
  have b2 := wl f t
  have e1 := (n_add (n_mul (show (6 : Int32).toInt = ((6 : Nat) : Int) from rfl) hx (by omega)) hz (by omega))
  have t1 := t_nat (n := furF (W f) s t) (by omega)
  have t2 := t_nat (n := W f t) (by omega)
  have w0 := wd f
  refine w_Model_furthest_4 L (fun kc4 => ?_) (fun kc4 => ?_)
  · (try simp only [ite01t, ite01v, Int32.reduceToInt, t_m1, t_m2, t_m1000, Decidable.not_not] at kc4); (try simp only [hn] at kc4); (try simp only [hs] at kc4)
    refine w_Model_furthest_62 ?_
    have : t = n := by omega
    subst this
    exact ⟨rfl, rfl⟩
  · (try simp only [ite01t, ite01v, Int32.reduceToInt, t_m1, t_m2, t_m1000, Decidable.not_not] at kc4); (try simp only [hn] at kc4); (try simp only [hs] at kc4)
    refine w_Model_furthest_12 (fun kc12 => ?_) (fun kc12 => ?_)
    · (try simp only [ite01t, ite01v, Int32.reduceToInt, t_m1, t_m2, t_m1000, Decidable.not_not] at kc12); (try simp only [hn] at kc12); (try simp only [hs] at kc12)
      refine w_Model_furthest_54 ?_
      refine w_Model_furthest_55 rfl ?_
      refine ih (by omega) _ ⟨_, ?_, t_succ hz (by omega)⟩
      rw [furF]
      first
      | (have ft : t = f := by omega
         subst ft
         rw [w0, Nat.max_eq_left (Nat.zero_le _), ite_self]
         done)
      | (rw [oz] at kc22
         rw [if_neg kc22]
         done)
      | (rw [oz] at kc22
         rw [if_pos (Decidable.not_not.mp kc22), Nat.max_eq_left (by omega)]
         done)
      | (rw [oz] at kc22
         rw [if_pos (Decidable.not_not.mp kc22), Nat.max_eq_right (by omega), n_eq e1, T.2.2 f t (by omega) (by omega)]
         done)
      | (rw [oz] at kc22
         rw [if_pos kc22, Nat.max_eq_left (by omega)]
         done)
      | (rw [oz] at kc22
         rw [if_pos kc22, Nat.max_eq_right (by omega), n_eq e1, T.2.2 f t (by omega) (by omega)]
         done)
    · (try simp only [ite01t, ite01v, Int32.reduceToInt, t_m1, t_m2, t_m1000, Decidable.not_not] at kc12); (try simp only [hn] at kc12); (try simp only [hs] at kc12)
      refine w_Model_furthest_17 L (Tc.wc (r_isShut2 L z)) (Is.k ?_)
      refine w_Model_furthest_22 (fun kc22 => ?_) (fun kc22 => ?_)
      · (try simp only [ite01t, ite01v, Int32.reduceToInt, t_m1, t_m2, t_m1000, Decidable.not_not] at kc22); (try simp only [hn] at kc22); (try simp only [hs] at kc22)
        refine w_Model_furthest_54 ?_
        refine w_Model_furthest_55 rfl ?_
        refine ih (by omega) _ ⟨_, ?_, t_succ hz (by omega)⟩
        rw [furF]
        first
        | (have ft : t = f := by omega
           subst ft
           rw [w0, Nat.max_eq_left (Nat.zero_le _), ite_self]
           done)
        | (rw [oz] at kc22
           rw [if_neg kc22]
           done)
        | (rw [oz] at kc22
           rw [if_pos (Decidable.not_not.mp kc22), Nat.max_eq_left (by omega)]
           done)
        | (rw [oz] at kc22
           rw [if_pos (Decidable.not_not.mp kc22), Nat.max_eq_right (by omega), n_eq e1, T.2.2 f t (by omega) (by omega)]
           done)
        | (rw [oz] at kc22
           rw [if_pos kc22, Nat.max_eq_left (by omega)]
           done)
        | (rw [oz] at kc22
           rw [if_pos kc22, Nat.max_eq_right (by omega), n_eq e1, T.2.2 f t (by omega) (by omega)]
           done)
      · (try simp only [ite01t, ite01v, Int32.reduceToInt, t_m1, t_m2, t_m1000, Decidable.not_not] at kc22); (try simp only [hn] at kc22); (try simp only [hs] at kc22)
        refine w_Model_furthest_25 L (by rw [e1]; omega) (fun kc25 => ?_) (fun kc25 => ?_)
        · (try simp only [ite01t, ite01v, Int32.reduceToInt, t_m1, t_m2, t_m1000, Decidable.not_not] at kc25); (try simp only [hn] at kc25); (try simp only [hs] at kc25)
          rw [n_eq e1, T.2.2 f t (by omega) (by omega), t1, t2] at kc25
          refine w_Model_furthest_54 ?_
          refine w_Model_furthest_55 rfl ?_
          refine ih (by omega) _ ⟨_, ?_, t_succ hz (by omega)⟩
          rw [furF]
          first
          | (have ft : t = f := by omega
             subst ft
             rw [w0, Nat.max_eq_left (Nat.zero_le _), ite_self]
             done)
          | (rw [oz] at kc22
             rw [if_neg kc22]
             done)
          | (rw [oz] at kc22
             rw [if_pos (Decidable.not_not.mp kc22), Nat.max_eq_left (by omega)]
             done)
          | (rw [oz] at kc22
             rw [if_pos (Decidable.not_not.mp kc22), Nat.max_eq_right (by omega), n_eq e1, T.2.2 f t (by omega) (by omega)]
             done)
          | (rw [oz] at kc22
             rw [if_pos kc22, Nat.max_eq_left (by omega)]
             done)
          | (rw [oz] at kc22
             rw [if_pos kc22, Nat.max_eq_right (by omega), n_eq e1, T.2.2 f t (by omega) (by omega)]
             done)
        · (try simp only [ite01t, ite01v, Int32.reduceToInt, t_m1, t_m2, t_m1000, Decidable.not_not] at kc25); (try simp only [hn] at kc25); (try simp only [hs] at kc25)
          rw [n_eq e1, T.2.2 f t (by omega) (by omega), t1, t2] at kc25
          refine w_Model_furthest_40 L (by rw [e1]; omega) ?_
          refine w_Model_furthest_55 rfl ?_
          refine ih (by omega) _ ⟨_, ?_, t_succ hz (by omega)⟩
          rw [furF]
          first
          | (have ft : t = f := by omega
             subst ft
             rw [w0, Nat.max_eq_left (Nat.zero_le _), ite_self]
             done)
          | (rw [oz] at kc22
             rw [if_neg kc22]
             done)
          | (rw [oz] at kc22
             rw [if_pos (Decidable.not_not.mp kc22), Nat.max_eq_left (by omega)]
             done)
          | (rw [oz] at kc22
             rw [if_pos (Decidable.not_not.mp kc22), Nat.max_eq_right (by omega), n_eq e1, T.2.2 f t (by omega) (by omega)]
             done)
          | (rw [oz] at kc22
             rw [if_pos kc22, Nat.max_eq_left (by omega)]
             done)
          | (rw [oz] at kc22
             rw [if_pos kc22, Nat.max_eq_right (by omega), n_eq e1, T.2.2 f t (by omega) (by omega)]
             done)
theorem op_days (k x y : Int32) : OpI INV rod 98 246 [k, x, y] := by
  refine OpI.mk fun h hI => ?_
  have L := hI.lay
  by_cases hk : 0 ≤ k.toInt ∧ k.toInt < (h.1 3 0).toInt
  · obtain ⟨A, R, ha, hk2⟩ := hI.landK hk
    have ek := n_of hk.1
    have at1 := fun (d : Nat) => s_landAt1 (rod := rod) (d := d) hI hk
    generalize k.toNatClampNeg = kk at ek hk2 A R ha at1
    have tw := R.tw
    have bu := R.bu
    have le := R.le
    obtain ⟨n, hn⟩ := Int.eq_ofNat_of_zero_le (show 0 ≤ (h.1 (8 + 18 * kk) 0).toInt by omega)
    have hD := R.rdok
    have wl := fun k f t => way_le (F := 1000) (E := (edgF (ld h (8 + 18 * kk)) (h.1 (8 + 18 * kk) 3))) (edg_le hD) (by omega) k f t
    have wm := fun k f t => way_le (F := 9999) (E := (edgF (ld h (8 + 18 * kk)) (h.1 (8 + 18 * kk) 3))) (edg_le hD) (by omega) k f t
    have wf := fun f t (q1 : f < n) (q2 : t < n) => way_fin (E := (edgF (ld h (8 + 18 * kk)) (h.1 (8 + 18 * kk) 3))) (edg_le hD) (show n ≤ 6 by omega) q1 q2
    refine ⟨if (0 ≤ x.toInt ∧ x.toInt < (h.1 (8 + 18 * kk) 0).toInt) ∧ 0 ≤ y.toInt ∧ y.toInt < (h.1 (8 + 18 * kk) 0).toInt then (if wayF 1000 (edgF (ld h (8 + 18 * kk)) (h.1 (8 + 18 * kk) 3)) n x.toNatClampNeg y.toNatClampNeg < 1000 then Int32.ofNat (wayF 1000 (edgF (ld h (8 + 18 * kk)) (h.1 (8 + 18 * kk) 3)) n x.toNatClampNeg y.toNatClampNeg) else -1) else -1, ?_, fun h1 I1 K1 => ?_⟩
    · refine n_Main_days ?_
      refine w_Main_days_0 L (Tc.wc (at1 _)) (Is.k ?_)
      refine w_Main_days_8 rfl (fun c => nomatch c) (fun _ _ => ?_)
      refine w_Main_days_15 A (Tc.wc (s_hasTown A _)) (Is.k ?_)
      refine w_Main_days_21 (fun kc21 => ?_) (fun kc21 => ?_)
      · try simp only [ite01t, ite01v, Int32.reduceToInt, t_m1, t_m2, t_m1000, Decidable.not_not] at kc21
        refine w_Main_days_33 ?_
        exact ⟨by rw [if_neg (by omega)], Keep.rfl⟩
      · try simp only [ite01t, ite01v, Int32.reduceToInt, t_m1, t_m2, t_m1000, Decidable.not_not] at kc21
        refine w_Main_days_24 A (Tc.wc (s_hasTown A _)) (Is.k ?_)
        refine w_Main_days_30 (fun kc30 => ?_) (fun kc30 => ?_)
        · try simp only [ite01t, ite01v, Int32.reduceToInt, t_m1, t_m2, t_m1000, Decidable.not_not] at kc30
          refine w_Main_days_35 L A (c_measure L A ha hn (by omega) hD _) ?_
          rintro _ h35 ⟨rfl, k35, e35, T35⟩
          have L35 := L.keep k35
          have A35 := A.keep k35
          have TC : TabC h35 n (wayF 1000 (edgF (ld h (8 + 18 * kk)) (h.1 (8 + 18 * kk) 3)) n) := ⟨by rw [e35]; exact hn, T35⟩
          refine w_Main_days_49 L35 (Tc.wc (c_btw TC L35 (by omega) x y (n_of (by omega)) (n_of (by omega)) (by have := n_of (x := x) (by omega); omega) (by have := n_of (x := y) (by omega); omega))) (Is.k ?_)
          refine w_Main_days_58 rfl (fun kc58 => ?_) (fun kc58 => ?_)
          · try simp only [ite01t, ite01v, Int32.reduceToInt, t_m1, t_m2, t_m1000, Decidable.not_not] at kc58
            rw [t_nat (by have := wl n x.toNatClampNeg y.toNatClampNeg; omega)] at kc58
            refine w_Main_days_72 ?_
            refine w_Main_days_74 ?_
            exact ⟨by rw [if_pos (by omega)]; first | rw [if_pos (by omega)] | rw [if_neg (by omega)], k35⟩
          · try simp only [ite01t, ite01v, Int32.reduceToInt, t_m1, t_m2, t_m1000, Decidable.not_not] at kc58
            rw [t_nat (by have := wl n x.toNatClampNeg y.toNatClampNeg; omega)] at kc58
            refine w_Main_days_68 ?_
            refine w_Main_days_74 ?_
            exact ⟨by rw [if_pos (by omega)]; first | rw [if_pos (by omega)] | rw [if_neg (by omega)], k35⟩
        · try simp only [ite01t, ite01v, Int32.reduceToInt, t_m1, t_m2, t_m1000, Decidable.not_not] at kc30
          refine w_Main_days_33 ?_
          exact ⟨by rw [if_neg (by omega)], Keep.rfl⟩
    · have L1 := I1.lay
      have hk1 : (kk : Int) < (h1.1 3 0).toInt := by rw [K1.c 3 (by omega)]; omega
      have is1 := fun (d : Nat) => s_isLand1 (rod := rod) (d := d) I1 k kk ek hk1
      refine n_Model_days ?_
      refine w_Model_days_0 L1 (is1 _) ?_
      rintro _ h0 ⟨rfl, k0, M0⟩
      have I0 := I1.keep k0
      have L0 := I0.lay
      have K0 := (Keep.rfl (h := h1)).trans k0
      have e0 : h0.1 (8 + 18 * kk) = h.1 (8 + 18 * kk) := (K1.trans K0).c _ (by omega)
      refine w_Model_days_5 (fun kc5 => absurd kc5 (by decide)) (fun kc5 => ?_)
      refine w_Model_days_8 L0 (Tc.wc (s_misTown M0 L0 _)) (Is.k ?_)
      refine w_Model_days_13 (fun kc13 => ?_) (fun kc13 => ?_)
      · (try simp only [ite01t, ite01v, Int32.reduceToInt, t_m1, t_m2, t_m1000, Decidable.not_not] at kc13); (try simp only [e0] at kc13)
        refine w_Model_days_24 ?_
        exact ⟨by rw [if_neg (by omega)], K0⟩
      · (try simp only [ite01t, ite01v, Int32.reduceToInt, t_m1, t_m2, t_m1000, Decidable.not_not] at kc13); (try simp only [e0] at kc13)
        refine w_Model_days_16 L0 (Tc.wc (s_misTown M0 L0 _)) (Is.k ?_)
        refine w_Model_days_21 (fun kc21 => ?_) (fun kc21 => ?_)
        · (try simp only [ite01t, ite01v, Int32.reduceToInt, t_m1, t_m2, t_m1000, Decidable.not_not] at kc21); (try simp only [e0] at kc21)
          refine w_Model_days_26 L0 (r_lays M0 L0 ha (by rw [(K1.trans K0).c _ (by omega)]; exact hn) (by omega) 0) ?_
          rintro _ h26 ⟨rfl, k26, M26, s26, T26⟩
          rw [ldk (K1.trans K0) ha, (K1.trans K0).c _ (by omega), Int32.or_zero] at T26
          rw [(K1.trans K0).c _ (by omega), Int32.or_zero] at s26
          have I26 := I0.keep k26
          have L26 := I26.lay
          have K26 := K0.trans k26
          have TM : TabM h26 n (h.1 (8 + 18 * kk) 3) (wayF 9999 (edgF (ld h (8 + 18 * kk)) (h.1 (8 + 18 * kk) 3)) n) := ⟨by rw [M26.2.2.2.1, (K1.trans K26).c _ (by omega)]; exact hn, s26, T26⟩
          have ex := n_of (x := x) (by omega)
          have ey := n_of (x := y) (by omega)
          have e1 := (n_add (n_mul (show (6 : Int32).toInt = ((6 : Nat) : Int) from rfl) ex (by omega)) ey (by omega))
          have t1 := T26 x.toNatClampNeg y.toNatClampNeg (by omega) (by omega)
          have w1 := wf x.toNatClampNeg y.toNatClampNeg (by omega) (by omega)
          have t2 := t_nat (n := wayF 9999 (edgF (ld h (8 + 18 * kk)) (h.1 (8 + 18 * kk) 3)) n x.toNatClampNeg y.toNatClampNeg) (by omega)
          refine w_Model_days_31 L26 (by rw [e1]; omega) (fun kc31 => ?_) (fun kc31 => ?_)
          · (try simp only [ite01t, ite01v, Int32.reduceToInt, t_m1, t_m2, t_m1000, Decidable.not_not] at kc31); (try simp only [e0] at kc31)
            rw [n_eq e1, t1, t2] at kc31
            refine w_Model_days_52 L26 (by rw [e1]; omega) ?_
            refine w_Model_days_63 ?_
            refine ⟨?_, K26⟩
            rw [if_pos (by omega)]
            first
            | (rw [if_neg (by omega)]; done)
            | (rw [if_pos (by omega), n_eq e1, t1, show wayF 9999 (edgF (ld h (8 + 18 * kk)) (h.1 (8 + 18 * kk) 3)) n x.toNatClampNeg y.toNatClampNeg = wayF 1000 (edgF (ld h (8 + 18 * kk)) (h.1 (8 + 18 * kk) 3)) n x.toNatClampNeg y.toNatClampNeg by omega]; done)
          · (try simp only [ite01t, ite01v, Int32.reduceToInt, t_m1, t_m2, t_m1000, Decidable.not_not] at kc31); (try simp only [e0] at kc31)
            rw [n_eq e1, t1, t2] at kc31
            refine w_Model_days_48 ?_
            refine w_Model_days_63 ?_
            refine ⟨?_, K26⟩
            rw [if_pos (by omega)]
            first
            | (rw [if_neg (by omega)]; done)
            | (rw [if_pos (by omega), n_eq e1, t1, show wayF 9999 (edgF (ld h (8 + 18 * kk)) (h.1 (8 + 18 * kk) 3)) n x.toNatClampNeg y.toNatClampNeg = wayF 1000 (edgF (ld h (8 + 18 * kk)) (h.1 (8 + 18 * kk) 3)) n x.toNatClampNeg y.toNatClampNeg by omega]; done)
        · (try simp only [ite01t, ite01v, Int32.reduceToInt, t_m1, t_m2, t_m1000, Decidable.not_not] at kc21); (try simp only [e0] at kc21)
          refine w_Model_days_24 ?_
          exact ⟨by rw [if_neg (by omega)], K0⟩
  · refine ⟨-1, ?_, fun h1 I1 K1 => ?_⟩
    · refine n_Main_days ?_
      refine w_Main_days_0 L (Tc.wc (s_landAt0 hI hk)) (Is.k ?_)
      refine w_Main_days_8 rfl (fun _ => ?_) (fun _ c => nomatch c)
      refine w_Main_days_33 ?_
      exact ⟨rfl, Keep.rfl⟩
    · have L1 := I1.lay
      have hk1 : ¬ (0 ≤ k.toInt ∧ k.toInt < (h1.1 3 0).toInt) := by rw [K1.c 3 (by omega)]; exact hk
      refine n_Model_days ?_
      refine w_Model_days_0 L1 (Tc.wc (s_isLand0 I1 k hk1)) (Is.k ?_)
      refine w_Model_days_5 (fun kc5 => ?_) (fun kc5 => absurd kc5 (by decide))
      refine w_Model_days_24 ?_
      exact ⟨rfl, Keep.rfl⟩
theorem op_reach (k x : Int32) : OpI INV rod 157 259 [k, x] := by
  refine OpI.mk fun h hI => ?_
  have L := hI.lay
  by_cases hk : 0 ≤ k.toInt ∧ k.toInt < (h.1 3 0).toInt
  · obtain ⟨A, R, ha, hk2⟩ := hI.landK hk
    have ek := n_of hk.1
    have at1 := fun (d : Nat) => s_landAt1 (rod := rod) (d := d) hI hk
    generalize k.toNatClampNeg = kk at ek hk2 A R ha at1
    have tw := R.tw
    have bu := R.bu
    have le := R.le
    obtain ⟨n, hn⟩ := Int.eq_ofNat_of_zero_le (show 0 ≤ (h.1 (8 + 18 * kk) 0).toInt by omega)
    have hD := R.rdok
    have wl := fun k f t => way_le (F := 1000) (E := (edgF (ld h (8 + 18 * kk)) (h.1 (8 + 18 * kk) 3))) (edg_le hD) (by omega) k f t
    have wm := fun k f t => way_le (F := 9999) (E := (edgF (ld h (8 + 18 * kk)) (h.1 (8 + 18 * kk) 3))) (edg_le hD) (by omega) k f t
    have wf := fun f t (q1 : f < n) (q2 : t < n) => way_fin (E := (edgF (ld h (8 + 18 * kk)) (h.1 (8 + 18 * kk) 3))) (edg_le hD) (show n ≤ 6 by omega) q1 q2
    refine ⟨if 0 ≤ x.toInt ∧ x.toInt ≤ 99 then bitF (fun t => decide ((Int32.ofNat (wayF 1000 (edgF (ld h (8 + 18 * kk)) (h.1 (8 + 18 * kk) 3)) n 0 t)).toInt ≤ x.toInt)) n else -1, ?_, fun h1 I1 K1 => ?_⟩
    · refine n_Main_reach ?_
      refine w_Main_reach_0 L (Tc.wc (at1 _)) (Is.k ?_)
      refine w_Main_reach_8 rfl (fun c => nomatch c) (fun _ _ => ?_)
      refine w_Main_reach_13 (fun kc13 => ?_) (fun kc13 => ?_)
      · try simp only [ite01t, ite01v, Int32.reduceToInt, t_m1, t_m2, t_m1000, Decidable.not_not] at kc13
        refine w_Main_reach_23 ?_
        exact ⟨by rw [if_neg (by omega)], Keep.rfl⟩
      · try simp only [ite01t, ite01v, Int32.reduceToInt, t_m1, t_m2, t_m1000, Decidable.not_not] at kc13
        refine w_Main_reach_17 (fun kc17 => ?_) (fun kc17 => ?_)
        · try simp only [ite01t, ite01v, Int32.reduceToInt, t_m1, t_m2, t_m1000, Decidable.not_not] at kc17
          refine w_Main_reach_25 L A (c_measure L A ha hn (by omega) hD _) ?_
          rintro _ h25 ⟨rfl, k25, e25, T25⟩
          have L25 := L.keep k25
          have A25 := A.keep k25
          have TC : TabC h25 n (wayF 1000 (edgF (ld h (8 + 18 * kk)) (h.1 (8 + 18 * kk) 3)) n) := ⟨by rw [e25]; exact hn, T25⟩
          refine w_Main_reach_37 L25 (Tc.wc (c_within TC L25 (by omega) (by omega) x)) (Is.k ?_)
          refine w_Main_reach_45 ?_
          exact ⟨by rw [if_pos (by omega)], k25⟩
        · try simp only [ite01t, ite01v, Int32.reduceToInt, t_m1, t_m2, t_m1000, Decidable.not_not] at kc17
          refine w_Main_reach_23 ?_
          exact ⟨by rw [if_neg (by omega)], Keep.rfl⟩
    · have L1 := I1.lay
      have hk1 : (kk : Int) < (h1.1 3 0).toInt := by rw [K1.c 3 (by omega)]; omega
      have is1 := fun (d : Nat) => s_isLand1 (rod := rod) (d := d) I1 k kk ek hk1
      refine n_Model_reach ?_
      refine w_Model_reach_0 L1 (is1 _) ?_
      rintro _ h0 ⟨rfl, k0, M0⟩
      have I0 := I1.keep k0
      have L0 := I0.lay
      have K0 := (Keep.rfl (h := h1)).trans k0
      have e0 : h0.1 (8 + 18 * kk) = h.1 (8 + 18 * kk) := (K1.trans K0).c _ (by omega)
      refine w_Model_reach_5 (fun kc5 => absurd kc5 (by decide)) (fun kc5 => ?_)
      refine w_Model_reach_8 (Tc.wc (s_isIn _ _ _ _)) (Is.k ?_)
      refine w_Model_reach_15 (fun kc15 => ?_) (fun kc15 => ?_)
      · try simp only [ite01t, ite01v, Int32.reduceToInt, t_m1, t_m2, t_m1000, Decidable.not_not] at kc15
        refine w_Model_reach_20 L0 (r_lays M0 L0 ha (by rw [(K1.trans K0).c _ (by omega)]; exact hn) (by omega) 0) ?_
        rintro _ h20 ⟨rfl, k20, M20, s20, T20⟩
        rw [ldk (K1.trans K0) ha, (K1.trans K0).c _ (by omega), Int32.or_zero] at T20
        rw [(K1.trans K0).c _ (by omega), Int32.or_zero] at s20
        have I20 := I0.keep k20
        have L20 := I20.lay
        have K20 := K0.trans k20
        have TM : TabM h20 n (h.1 (8 + 18 * kk) 3) (wayF 9999 (edgF (ld h (8 + 18 * kk)) (h.1 (8 + 18 * kk) 3)) n) := ⟨by rw [M20.2.2.2.1, (K1.trans K20).c _ (by omega)]; exact hn, s20, T20⟩
        refine w_Model_reach_25 rfl ?_
        have hb := TM.1
        refine Wb.upc n (fun t L' => ∃ (z : Int32), L' = [some (.inr (.inr (.inl (some 84)))), some (.inl k), some (.inl x), some (.inl (bitF (fun t => decide ((Int32.ofNat (wayF 9999 (edgF (ld h (8 + 18 * kk)) (h.1 (8 + 18 * kk) 3)) n 0 t)).toInt ≤ x.toInt)) t)), some (.inl z)] ∧ z.toInt = (t : Int)) ?_ (Nat.zero_le _) ⟨0, rfl, rfl⟩
        rintro t _ htn ⟨z, rfl, hz⟩ ih
        have oz := ofN hz (by omega)
        have ez := n_eq hz
        refine w_Model_reach_30 L20 (fun kc30 => ?_) (fun kc30 => ?_)
        · (try simp only [ite01t, ite01v, Int32.reduceToInt, t_m1, t_m2, t_m1000, Decidable.not_not] at kc30); (try simp only [hb] at kc30)
          refine w_Model_reach_67 ?_
          have htn2 : t = n := by omega
          subst htn2
          refine ⟨?_, K20⟩
          rw [if_pos (by omega)]
          refine congrArg (fun z => some (Sum.inl z)) (bitF_ext fun b hb2 => ?_)
          have w1 := wf 0 b (by omega) hb2
          have m1 := wm t 0 b
          have m2 := wl t 0 b
          rw [t_nat (by omega), t_nat (by omega)]
          rcases w1 with w1 | w1
          · rw [w1.1]
          · rw [w1.1, w1.2, decide_eq_false (by omega), decide_eq_false (by omega)]
        · (try simp only [ite01t, ite01v, Int32.reduceToInt, t_m1, t_m2, t_m1000, Decidable.not_not] at kc30); (try simp only [hb] at kc30)
          refine w_Model_reach_39 L20 (by first | assumption | omega | (refine ⟨?_, ?_⟩ <;> first | assumption | omega)) (fun kc39 => ?_) (fun kc39 => ?_)
          · (try simp only [ite01t, ite01v, Int32.reduceToInt, t_m1, t_m2, t_m1000, Decidable.not_not] at kc39); (try simp only [hb] at kc39)
            refine w_Model_reach_58 ?_
            refine w_Model_reach_59 rfl ?_
            have t1 := T20 0 t (by omega) (by omega)
            rw [Nat.mul_zero, Nat.zero_add] at t1
            rw [ez, t1] at kc39
            refine ih (by omega) _ ⟨_, ?_, t_succ hz (by omega)⟩
            rw [bitF]
            first
            | (rw [if_pos (decide_eq_true (by omega)), oz]; done)
            | (rw [if_neg (fun q => absurd (of_decide_eq_true q) (by omega)), Int32.or_zero]; done)
          · (try simp only [ite01t, ite01v, Int32.reduceToInt, t_m1, t_m2, t_m1000, Decidable.not_not] at kc39); (try simp only [hb] at kc39)
            refine w_Model_reach_51 ?_
            refine w_Model_reach_59 rfl ?_
            have t1 := T20 0 t (by omega) (by omega)
            rw [Nat.mul_zero, Nat.zero_add] at t1
            rw [ez, t1] at kc39
            refine ih (by omega) _ ⟨_, ?_, t_succ hz (by omega)⟩
            rw [bitF]
            first
            | (rw [if_pos (decide_eq_true (by omega)), oz]; done)
            | (rw [if_neg (fun q => absurd (of_decide_eq_true q) (by omega)), Int32.or_zero]; done)
      · try simp only [ite01t, ite01v, Int32.reduceToInt, t_m1, t_m2, t_m1000, Decidable.not_not] at kc15
        refine w_Model_reach_18 ?_
        exact ⟨by rw [if_neg (by omega)], K0⟩
  · refine ⟨-1, ?_, fun h1 I1 K1 => ?_⟩
    · refine n_Main_reach ?_
      refine w_Main_reach_0 L (Tc.wc (s_landAt0 hI hk)) (Is.k ?_)
      refine w_Main_reach_8 rfl (fun _ => ?_) (fun _ c => nomatch c)
      refine w_Main_reach_23 ?_
      exact ⟨rfl, Keep.rfl⟩
    · have L1 := I1.lay
      have hk1 : ¬ (0 ≤ k.toInt ∧ k.toInt < (h1.1 3 0).toInt) := by rw [K1.c 3 (by omega)]; exact hk
      refine n_Model_reach ?_
      refine w_Model_reach_0 L1 (Tc.wc (s_isLand0 I1 k hk1)) (Is.k ?_)
      refine w_Model_reach_5 (fun kc5 => ?_) (fun kc5 => absurd kc5 (by decide))
      refine w_Model_reach_18 ?_
      exact ⟨rfl, Keep.rfl⟩
theorem op_centre (k x : Int32) : OpI INV rod 159 260 [k, x] := by
  refine OpI.mk fun h hI => ?_
  have L := hI.lay
  by_cases hk : 0 ≤ k.toInt ∧ k.toInt < (h.1 3 0).toInt
  · obtain ⟨A, R, ha, hk2⟩ := hI.landK hk
    have ek := n_of hk.1
    have at1 := fun (d : Nat) => s_landAt1 (rod := rod) (d := d) hI hk
    generalize k.toNatClampNeg = kk at ek hk2 A R ha at1
    have tw := R.tw
    have bu := R.bu
    have le := R.le
    obtain ⟨n, hn⟩ := Int.eq_ofNat_of_zero_le (show 0 ≤ (h.1 (8 + 18 * kk) 0).toInt by omega)
    have hD := R.rdok
    have wl := fun k f t => way_le (F := 1000) (E := (edgF (ld h (8 + 18 * kk)) (h.1 (8 + 18 * kk) 3))) (edg_le hD) (by omega) k f t
    have wm := fun k f t => way_le (F := 9999) (E := (edgF (ld h (8 + 18 * kk)) (h.1 (8 + 18 * kk) 3))) (edg_le hD) (by omega) k f t
    have wf := fun f t (q1 : f < n) (q2 : t < n) => way_fin (E := (edgF (ld h (8 + 18 * kk)) (h.1 (8 + 18 * kk) 3))) (edg_le hD) (show n ≤ 6 by omega) q1 q2
    have fr := fun f (q1 : f < n) => furF_rel (s := h.1 (8 + 18 * kk) 3) (fun t q2 => wf f t q1 q2) n (Nat.le_refl n)
    have mr := midF_rel (s := h.1 (8 + 18 * kk) 3) (g := (fun f => furF (wayF 1000 (edgF (ld h (8 + 18 * kk)) (h.1 (8 + 18 * kk) 3)) n f) (h.1 (8 + 18 * kk) 3) n)) (k := (fun f => furF (wayF 9999 (edgF (ld h (8 + 18 * kk)) (h.1 (8 + 18 * kk) 3)) n f) (h.1 (8 + 18 * kk) 3) n)) fr n (Nat.le_refl n)
    have mw := midF_who (g := (fun f => furF (wayF 1000 (edgF (ld h (8 + 18 * kk)) (h.1 (8 + 18 * kk) 3)) n f) (h.1 (8 + 18 * kk) 3) n)) (s := h.1 (8 + 18 * kk) 3) (F := 1000) n
    have fl := fun f => furF_le (W := wayF 9999 (edgF (ld h (8 + 18 * kk)) (h.1 (8 + 18 * kk) 3)) n f) (s := h.1 (8 + 18 * kk) 3) (F := 9999) (n := n) (fun t _ => wm n f t) n (Nat.le_refl n)
    refine ⟨if x.toInt = 0 ∨ (midF (fun f => furF (wayF 1000 (edgF (ld h (8 + 18 * kk)) (h.1 (8 + 18 * kk) 3)) n f) (h.1 (8 + 18 * kk) 3) n) (h.1 (8 + 18 * kk) 3) 1000 n).1.toInt = -1 then (midF (fun f => furF (wayF 1000 (edgF (ld h (8 + 18 * kk)) (h.1 (8 + 18 * kk) 3)) n f) (h.1 (8 + 18 * kk) 3) n) (h.1 (8 + 18 * kk) 3) 1000 n).1 else Int32.ofNat (midF (fun f => furF (wayF 1000 (edgF (ld h (8 + 18 * kk)) (h.1 (8 + 18 * kk) 3)) n f) (h.1 (8 + 18 * kk) 3) n) (h.1 (8 + 18 * kk) 3) 1000 n).2, ?_, fun h1 I1 K1 => ?_⟩
    · refine n_Main_centre ?_
      refine w_Main_centre_0 L (Tc.wc (at1 _)) (Is.k ?_)
      refine w_Main_centre_8 rfl (fun c => nomatch c) (fun _ _ => ?_)
      refine w_Main_centre_15 L A (c_measure L A ha hn (by omega) hD _) ?_
      rintro _ h15 ⟨rfl, k15, e15, T15⟩
      have L15 := L.keep k15
      have A15 := A.keep k15
      have TC : TabC h15 n (wayF 1000 (edgF (ld h (8 + 18 * kk)) (h.1 (8 + 18 * kk) 3)) n) := ⟨by rw [e15]; exact hn, T15⟩
      refine w_Main_centre_27 L15 (Tc.wc (by have q := c_mid (rod := rod) (d := 95) (a := (8 + 18 * kk)) TC L15 A15 (by omega) (fun f t => Nat.le_trans (wl n f t) (by omega)); rw [k15.c _ (by omega)] at q; exact q)) (Is.k ?_)
      refine w_Main_centre_35 rfl (fun kc35 => ?_) (fun kc35 => ?_)
      · try simp only [ite01t, ite01v, Int32.reduceToInt, t_m1, t_m2, t_m1000, Decidable.not_not] at kc35
        refine w_Main_centre_60 ?_
        refine w_Main_centre_62 ?_
        exact ⟨by rw [if_pos (by omega)], k15⟩
      · try simp only [ite01t, ite01v, Int32.reduceToInt, t_m1, t_m2, t_m1000, Decidable.not_not] at kc35
        refine w_Main_centre_41 (fun kc41 => ?_) (fun kc41 => ?_)
        · try simp only [ite01t, ite01v, Int32.reduceToInt, t_m1, t_m2, t_m1000, Decidable.not_not] at kc41
          refine w_Main_centre_60 ?_
          refine w_Main_centre_62 ?_
          exact ⟨by rw [if_pos (by omega)], k15⟩
        · try simp only [ite01t, ite01v, Int32.reduceToInt, t_m1, t_m2, t_m1000, Decidable.not_not] at kc41
          have nw : ¬ ((midF (fun f => furF (wayF 1000 (edgF (ld h (8 + 18 * kk)) (h.1 (8 + 18 * kk) 3)) n f) (h.1 (8 + 18 * kk) 3) n) (h.1 (8 + 18 * kk) 3) 1000 n).1 = -1) := fun q => by rw [q] at kc41; exact kc41 rfl
          obtain ⟨bb, b1, b2, b3, -⟩ : ∃ b, b < n ∧ (midF (fun f => furF (wayF 1000 (edgF (ld h (8 + 18 * kk)) (h.1 (8 + 18 * kk) 3)) n f) (h.1 (8 + 18 * kk) 3) n) (h.1 (8 + 18 * kk) 3) 1000 n).1 = Int32.ofNat b ∧ (midF (fun f => furF (wayF 1000 (edgF (ld h (8 + 18 * kk)) (h.1 (8 + 18 * kk) 3)) n f) (h.1 (8 + 18 * kk) 3) n) (h.1 (8 + 18 * kk) 3) 1000 n).2 = (fun f => furF (wayF 1000 (edgF (ld h (8 + 18 * kk)) (h.1 (8 + 18 * kk) 3)) n f) (h.1 (8 + 18 * kk) 3) n) b ∧ (fun f => furF (wayF 1000 (edgF (ld h (8 + 18 * kk)) (h.1 (8 + 18 * kk) 3)) n f) (h.1 (8 + 18 * kk) 3) n) b < 1000 := by
            rcases mw with q | q
            · exact absurd q.1 nw
            · exact q
          have qq := c_fur (rod := rod) (d := 96) (a := (8 + 18 * kk)) TC L15 A15 (by omega) (fun f t => Nat.le_trans (wl n f t) (by omega)) (midF (fun f => furF (wayF 1000 (edgF (ld h (8 + 18 * kk)) (h.1 (8 + 18 * kk) 3)) n f) (h.1 (8 + 18 * kk) 3) n) (h.1 (8 + 18 * kk) 3) 1000 n).1 (f := bb) (by rw [b2]; exact t_nat (by omega)) b1
          rw [k15.c _ (by omega)] at qq
          refine w_Main_centre_47 L15 (Tc.wc (qq)) (Is.k ?_)
          refine w_Main_centre_57 ?_
          refine w_Main_centre_62 ?_
          exact ⟨by rw [if_neg (by omega), b3], k15⟩
    · have L1 := I1.lay
      have hk1 : (kk : Int) < (h1.1 3 0).toInt := by rw [K1.c 3 (by omega)]; omega
      have is1 := fun (d : Nat) => s_isLand1 (rod := rod) (d := d) I1 k kk ek hk1
      refine n_Model_centre ?_
      refine w_Model_centre_0 L1 (is1 _) ?_
      rintro _ h0 ⟨rfl, k0, M0⟩
      have I0 := I1.keep k0
      have L0 := I0.lay
      have K0 := (Keep.rfl (h := h1)).trans k0
      have e0 : h0.1 (8 + 18 * kk) = h.1 (8 + 18 * kk) := (K1.trans K0).c _ (by omega)
      refine w_Model_centre_5 (fun kc5 => ?_) (fun kc5 => absurd kc5 (by decide))
      refine w_Model_centre_10 L0 (r_lays M0 L0 ha (by rw [(K1.trans K0).c _ (by omega)]; exact hn) (by omega) 0) ?_
      rintro _ h10 ⟨rfl, k10, M10, s10, T10⟩
      rw [ldk (K1.trans K0) ha, (K1.trans K0).c _ (by omega), Int32.or_zero] at T10
      rw [(K1.trans K0).c _ (by omega), Int32.or_zero] at s10
      have I10 := I0.keep k10
      have L10 := I10.lay
      have K10 := K0.trans k10
      have TM : TabM h10 n (h.1 (8 + 18 * kk) 3) (wayF 9999 (edgF (ld h (8 + 18 * kk)) (h.1 (8 + 18 * kk) 3)) n) := ⟨by rw [M10.2.2.2.1, (K1.trans K10).c _ (by omega)]; exact hn, s10, T10⟩
      refine w_Model_centre_15 rfl ?_
      have hb := TM.1
      have hs2 := TM.2.1
      refine Wb.upc n (fun t L' => ∃ (z : Int32), L' = [some (.inr (.inr (.inl (some 84)))), some (.inl k), some (.inl x), some (.inl (midF (fun f => furF (wayF 9999 (edgF (ld h (8 + 18 * kk)) (h.1 (8 + 18 * kk) 3)) n f) (h.1 (8 + 18 * kk) 3) n) (h.1 (8 + 18 * kk) 3) 9999 t).1), some (.inl (Int32.ofNat (midF (fun f => furF (wayF 9999 (edgF (ld h (8 + 18 * kk)) (h.1 (8 + 18 * kk) 3)) n f) (h.1 (8 + 18 * kk) 3) n) (h.1 (8 + 18 * kk) 3) 9999 t).2)), some (.inl z)] ∧ z.toInt = (t : Int)) ?_ (Nat.zero_le _) ⟨0, rfl, rfl⟩
      rintro t _ htn ⟨z, rfl, hz⟩ ih
      have oz := ofN hz (by omega)
      have b1 := fl t
      have b2 : (midF (fun f => furF (wayF 9999 (edgF (ld h (8 + 18 * kk)) (h.1 (8 + 18 * kk) 3)) n f) (h.1 (8 + 18 * kk) 3) n) (h.1 (8 + 18 * kk) 3) 9999 t).2 ≤ 9999 := by
        rcases midF_who (g := (fun f => furF (wayF 9999 (edgF (ld h (8 + 18 * kk)) (h.1 (8 + 18 * kk) 3)) n f) (h.1 (8 + 18 * kk) 3) n)) (s := h.1 (8 + 18 * kk) 3) (F := 9999) t with q | ⟨b, _, _, q, _⟩
        · omega
        · rw [q]; exact fl b
      have t1 := t_nat (n := furF (wayF 9999 (edgF (ld h (8 + 18 * kk)) (h.1 (8 + 18 * kk) 3)) n t) (h.1 (8 + 18 * kk) 3) n) (by omega)
      have t2 := t_nat (n := (midF (fun f => furF (wayF 9999 (edgF (ld h (8 + 18 * kk)) (h.1 (8 + 18 * kk) 3)) n f) (h.1 (8 + 18 * kk) 3) n) (h.1 (8 + 18 * kk) 3) 9999 t).2) (by omega)
      refine w_Model_centre_25 L10 (fun kc25 => ?_) (fun kc25 => ?_)
      · (try simp only [ite01t, ite01v, Int32.reduceToInt, t_m1, t_m2, t_m1000, Decidable.not_not] at kc25); (try simp only [hb] at kc25); (try simp only [hs2] at kc25); (try simp only [t1, t2] at kc25)
        have htn2 : t = n := by omega
        subst htn2
        refine w_Model_centre_74 (fun kc74 => ?_) (fun kc74 => ?_)
        · (try simp only [ite01t, ite01v, Int32.reduceToInt, t_m1, t_m2, t_m1000, Decidable.not_not] at kc74); (try simp only [hb] at kc74); (try simp only [hs2] at kc74); (try simp only [t1, t2] at kc74)
          refine w_Model_centre_83 ?_
          refine w_Model_centre_89 ?_
          refine ⟨?_, K10⟩
          rw [← mr.1] at kc74
          first
          | (rw [if_pos (by omega), mr.1]; done)
          | (rw [if_neg (by omega)]
             have nw : ¬ ((midF (fun f => furF (wayF 1000 (edgF (ld h (8 + 18 * kk)) (h.1 (8 + 18 * kk) 3)) t f) (h.1 (8 + 18 * kk) 3) t) (h.1 (8 + 18 * kk) 3) 1000 t).1 = -1) := fun q => by rw [q] at kc74; exact kc74 rfl
             rcases mw with q | ⟨b, q1, q2, q3, q4⟩
             · exact absurd q.1 nw
             · have := fr b q1
               rcases mr.2 with z1 | z1
               · rw [z1.1]
               · omega)
        · (try simp only [ite01t, ite01v, Int32.reduceToInt, t_m1, t_m2, t_m1000, Decidable.not_not] at kc74); (try simp only [hb] at kc74); (try simp only [hs2] at kc74); (try simp only [t1, t2] at kc74)
          refine w_Model_centre_79 (fun kc79 => ?_) (fun kc79 => ?_)
          · (try simp only [ite01t, ite01v, Int32.reduceToInt, t_m1, t_m2, t_m1000, Decidable.not_not] at kc79); (try simp only [hb] at kc79); (try simp only [hs2] at kc79); (try simp only [t1, t2] at kc79)
            refine w_Model_centre_87 ?_
            refine w_Model_centre_89 ?_
            refine ⟨?_, K10⟩
            rw [← mr.1] at kc74
            first
            | (rw [if_pos (by omega), mr.1]; done)
            | (rw [if_neg (by omega)]
               have nw : ¬ ((midF (fun f => furF (wayF 1000 (edgF (ld h (8 + 18 * kk)) (h.1 (8 + 18 * kk) 3)) t f) (h.1 (8 + 18 * kk) 3) t) (h.1 (8 + 18 * kk) 3) 1000 t).1 = -1) := fun q => by rw [q] at kc74; exact kc74 rfl
               rcases mw with q | ⟨b, q1, q2, q3, q4⟩
               · exact absurd q.1 nw
               · have := fr b q1
                 rcases mr.2 with z1 | z1
                 · rw [z1.1]
                 · omega)
          · (try simp only [ite01t, ite01v, Int32.reduceToInt, t_m1, t_m2, t_m1000, Decidable.not_not] at kc79); (try simp only [hb] at kc79); (try simp only [hs2] at kc79); (try simp only [t1, t2] at kc79)
            refine w_Model_centre_83 ?_
            refine w_Model_centre_89 ?_
            refine ⟨?_, K10⟩
            rw [← mr.1] at kc74
            first
            | (rw [if_pos (by omega), mr.1]; done)
            | (rw [if_neg (by omega)]
               have nw : ¬ ((midF (fun f => furF (wayF 1000 (edgF (ld h (8 + 18 * kk)) (h.1 (8 + 18 * kk) 3)) t f) (h.1 (8 + 18 * kk) 3) t) (h.1 (8 + 18 * kk) 3) 1000 t).1 = -1) := fun q => by rw [q] at kc74; exact kc74 rfl
               rcases mw with q | ⟨b, q1, q2, q3, q4⟩
               · exact absurd q.1 nw
               · have := fr b q1
                 rcases mr.2 with z1 | z1
                 · rw [z1.1]
                 · omega)
      · (try simp only [ite01t, ite01v, Int32.reduceToInt, t_m1, t_m2, t_m1000, Decidable.not_not] at kc25); (try simp only [hb] at kc25); (try simp only [hs2] at kc25); (try simp only [t1, t2] at kc25)
        refine w_Model_centre_34 L10 (Tc.wc (r_isShut2 L10 z)) (Is.k ?_)
        refine w_Model_centre_40 (fun kc40 => ?_) (fun kc40 => ?_)
        · (try simp only [ite01t, ite01v, Int32.reduceToInt, t_m1, t_m2, t_m1000, Decidable.not_not] at kc40); (try simp only [hb] at kc40); (try simp only [hs2] at kc40); (try simp only [t1, t2] at kc40)
          refine w_Model_centre_68 rfl ?_
          refine ih (by omega) _ ⟨_, ?_, t_succ hz (by omega)⟩
          rw [midF]
          rw [oz] at kc40
          first
          | (rw [if_neg (fun q => kc40 q.1)]; done)
          | (rw [if_pos ⟨kc40, by omega⟩, oz]; done)
          | (rw [if_pos ⟨Decidable.not_not.mp kc40, by omega⟩, oz]; done)
          | (rw [if_neg (fun q => absurd q.2 (by omega))]; done)
        · (try simp only [ite01t, ite01v, Int32.reduceToInt, t_m1, t_m2, t_m1000, Decidable.not_not] at kc40); (try simp only [hb] at kc40); (try simp only [hs2] at kc40); (try simp only [t1, t2] at kc40)
          refine w_Model_centre_43 L10 (Tc.wc (r_fur TM L10 (by omega) (fun f t => wm n f t) (fun f => way_d n f) z hz (by omega))) (Is.k ?_)
          refine w_Model_centre_49 (fun kc49 => ?_) (fun kc49 => ?_)
          · (try simp only [ite01t, ite01v, Int32.reduceToInt, t_m1, t_m2, t_m1000, Decidable.not_not] at kc49); (try simp only [hb] at kc49); (try simp only [hs2] at kc49); (try simp only [t1, t2] at kc49)
            refine w_Model_centre_57 L10 rfl (Tc.wc (r_fur TM L10 (by omega) (fun f t => wm n f t) (fun f => way_d n f) z hz (by omega))) (Is.k ?_)
            refine w_Model_centre_66 rfl ?_
            refine w_Model_centre_68 rfl ?_
            refine ih (by omega) _ ⟨_, ?_, t_succ hz (by omega)⟩
            rw [midF]
            rw [oz] at kc40
            first
            | (rw [if_neg (fun q => kc40 q.1)]; done)
            | (rw [if_pos ⟨kc40, by omega⟩, oz]; done)
            | (rw [if_pos ⟨Decidable.not_not.mp kc40, by omega⟩, oz]; done)
            | (rw [if_neg (fun q => absurd q.2 (by omega))]; done)
          · (try simp only [ite01t, ite01v, Int32.reduceToInt, t_m1, t_m2, t_m1000, Decidable.not_not] at kc49); (try simp only [hb] at kc49); (try simp only [hs2] at kc49); (try simp only [t1, t2] at kc49)
            refine w_Model_centre_54 ?_
            refine w_Model_centre_68 rfl ?_
            refine ih (by omega) _ ⟨_, ?_, t_succ hz (by omega)⟩
            rw [midF]
            rw [oz] at kc40
            first
            | (rw [if_neg (fun q => kc40 q.1)]; done)
            | (rw [if_pos ⟨kc40, by omega⟩, oz]; done)
            | (rw [if_pos ⟨Decidable.not_not.mp kc40, by omega⟩, oz]; done)
            | (rw [if_neg (fun q => absurd q.2 (by omega))]; done)
  · refine ⟨-1, ?_, fun h1 I1 K1 => ?_⟩
    · refine n_Main_centre ?_
      refine w_Main_centre_0 L (Tc.wc (s_landAt0 hI hk)) (Is.k ?_)
      refine w_Main_centre_8 rfl (fun _ => ?_) (fun _ c => nomatch c)
      refine w_Main_centre_13 ?_
      exact ⟨rfl, Keep.rfl⟩
    · have L1 := I1.lay
      have hk1 : ¬ (0 ≤ k.toInt ∧ k.toInt < (h1.1 3 0).toInt) := by rw [K1.c 3 (by omega)]; exact hk
      refine n_Model_centre ?_
      refine w_Model_centre_0 L1 (Tc.wc (s_isLand0 I1 k hk1)) (Is.k ?_)
      refine w_Model_centre_5 (fun kc5 => absurd kc5 (by decide)) (fun kc5 => ?_)
      refine w_Model_centre_8 ?_
      exact ⟨rfl, Keep.rfl⟩
end M66
