/-! WAYS: the class measures, the reference lays -/
section M65
variable {rod : Nat → Nat × (Nat → Int32)} {d : Nat} {h : MH} {a l n : Nat}
/-- a road that leads to an open town -/
def edgF (D : Nat → Nat → Int32) (s : Int32) (f t : Nat) : Nat := if (f < 6 ∧ t < 6) ∧ ((s >>> (Int32.ofNat t &&& 31)) &&& 1).toInt = 0 then (D 8 (6 * f + t)).toNatClampNeg else 0
def RdOk (D : Nat → Nat → Int32) : Prop := ∀ i, i < 36 → 0 ≤ (D 8 i).toInt ∧ (D 8 i).toInt ≤ 9
theorem edg_le {D : Nat → Nat → Int32} {s : Int32} (hD : RdOk D) (f t : Nat) : edgF D s f t ≤ 9 := by
  unfold edgF
  split
  · rename_i q
    have := hD (6 * f + t) (by omega)
    have := n_of this.1
    omega
  · omega
theorem LandRel.rdok (r : LandRel h a l) : RdOk (ld h a) := fun i hi => ((r.2.2.2.2.2.2.2.2.2.2.2.2.2.2) i hi).2
theorem ofNat_clamp {x : Int32} (h0 : 0 ≤ x.toInt) : Int32.ofNat x.toNatClampNeg = x := (ofN (n_of h0) (by have := x.toInt_lt; have := n_of h0; omega)).symm
theorem W0_v {D : Nat → Nat → Int32} {s : Int32} {F f t : Nat} (hD : RdOk D) (hf : f < 6) (ht : t < 6) : Int32.ofNat (W0 F (edgF D s) f t) = if f = t then 0 else if ¬ ((s >>> (Int32.ofNat t &&& 31)) &&& 1).toInt = 0 ∨ (D 8 (6 * f + t)).toInt = 0 then Int32.ofNat F else D 8 (6 * f + t) := by
  have b := hD (6 * f + t) (by omega)
  have e := n_of b.1
  unfold W0
  by_cases z1 : f = t
  · rw [if_pos z1, if_pos z1]; rfl
  · rw [if_neg z1, if_neg z1]
    by_cases z2 : ((s >>> (Int32.ofNat t &&& 31)) &&& 1).toInt = 0
    · have ee : edgF D s f t = (D 8 (6 * f + t)).toNatClampNeg := if_pos ⟨⟨hf, ht⟩, z2⟩
      rw [ee]
      by_cases z3 : (D 8 (6 * f + t)).toInt = 0
      · rw [if_pos (by omega), if_pos (Or.inr z3)]
      · rw [if_neg (by omega), if_neg (fun q => q.elim (fun y => y z2) z3), ofNat_clamp b.1]
    · have ee : edgF D s f t = 0 := if_neg (fun q => z2 q.2)
      rw [ee, if_pos rfl, if_pos (Or.inl z2)]
/-- the places ahead of p hold W -/
def TabP (h : MH) (c n : Nat) (W : Nat → Nat → Nat) (p : Nat) : Prop := ∀ f t, f < n → t < n → 6 * f + t < p → h.1 c (6 * f + t) = Int32.ofNat (W f t)
theorem TabP.step {c p f t : Nat} {W : Nat → Nat → Nat} {v : Int32} (T : TabP h c n W p) (n6 : n ≤ 6) (hp : p = 6 * f + t) (ht : t < n) (hv : v = Int32.ofNat (W f t)) : TabP (sI h c p v) c n W (p + 1) := by
  intro f' t' h1 h2 h3
  by_cases q : 6 * f' + t' = p
  · have e1 : f' = f := by omega
    have e2 : t' = t := by omega
    rw [q, sI_same, hv, e1, e2]
  · rw [sI_nj q]
    exact T f' t' h1 h2 (by omega)
theorem TabP.up {c p q : Nat} {W : Nat → Nat → Nat} (T : TabP h c n W p) (hq : ∀ f t, f < n → t < n → 6 * f + t < q → 6 * f + t < p) : TabP h c n W q := fun f t h1 h2 h3 => T f t h1 h2 (hq f t h1 h2 h3)
/-- the places ahead of p hold V, the others W -/
def TabQ (h : MH) (c n : Nat) (W V : Nat → Nat → Nat) (p : Nat) : Prop := ∀ f t, f < n → t < n → h.1 c (6 * f + t) = Int32.ofNat (if 6 * f + t < p then V f t else W f t)
theorem TabQ.step {c p f t : Nat} {W V : Nat → Nat → Nat} {v : Int32} (T : TabQ h c n W V p) (n6 : n ≤ 6) (hp : p = 6 * f + t) (ht : t < n) (hv : v = Int32.ofNat (V f t)) : TabQ (sI h c p v) c n W V (p + 1) := by
  intro f' t' h1 h2
  by_cases q : 6 * f' + t' = p
  · have e1 : f' = f := by omega
    have e2 : t' = t := by omega
    rw [q, sI_same, hv, if_pos (by omega), e1, e2]
  · rw [sI_nj q, T f' t' h1 h2]
    by_cases z : 6 * f' + t' < p
    · rw [if_pos z, if_pos (by omega)]
    · rw [if_neg z, if_neg (by omega)]
theorem TabQ.same {c p f t : Nat} {W V : Nat → Nat → Nat} (T : TabQ h c n W V p) (n6 : n ≤ 6) (hp : p = 6 * f + t) (ht : t < n) (hv : V f t = W f t) : TabQ h c n W V (p + 1) := by
  intro f' t' h1 h2
  rw [T f' t' h1 h2]
  by_cases q : 6 * f' + t' = p
  · have e1 : f' = f := by omega
    have e2 : t' = t := by omega
    rw [if_neg (by omega), if_pos (by omega), e1, e2, hv]
  · by_cases z : 6 * f' + t' < p
    · rw [if_pos z, if_pos (by omega)]
    · rw [if_neg z, if_neg (by omega)]
theorem TabQ.up {c p q : Nat} {W V : Nat → Nat → Nat} (T : TabQ h c n W V p) (hq : ∀ f t, f < n → t < n → (6 * f + t < q ↔ 6 * f + t < p)) : TabQ h c n W V q := fun f t h1 h2 => by
  rw [T f t h1 h2]
  by_cases z : 6 * f + t < p
  · rw [if_pos z, if_pos ((hq f t h1 h2).mpr z)]
  · rw [if_neg z, if_neg (fun y => z ((hq f t h1 h2).mp y))]
theorem TabQ.rd {c p f t y F : Nat} {E : Nat → Nat → Nat} (T : TabQ h c n (wayF F E y) (wayF F E (y + 1)) p) (hf : f < n) (ht : t < n) (z : f = y ∨ t = y ∨ ¬ 6 * f + t < p) : h.1 c (6 * f + t) = Int32.ofNat (wayF F E y f t) := by
  rw [T f t hf ht]
  have dd := way_d (F := F) (E := E) y y
  by_cases q : 6 * f + t < p
  · rw [if_pos q]
    have : wayF F E (y + 1) f t = wayF F E y f t := by
      simp only [wayF, rdF]
      rcases z with z | z | z
      · subst z; omega
      · subst z; omega
      · exact absurd q z
    rw [this]
  · rw [if_neg q]
theorem c_between (L : Lay h.2) (hn : (h.1 70 0).toInt = (n : Int)) (n6 : n ≤ 6) (x y : Int32) {f t : Nat} (hx : x.toInt = (f : Int)) (hy : y.toInt = (t : Int)) (hf : f < n) (ht : t < n) : Tc rod (d + 1) 100 [.inr (.inr (.inl (some 70))), .inl x, .inl y] h (some (.inl (h.1 71 (6 * f + t)))) h := by
  have e1 := (n_add (n_mul hx (show (6 : Int32).toInt = ((6 : Nat) : Int) from rfl) (by omega)) hy (by omega))
  apply Wc.tc
  refine n_Ways_between ?_
  refine w_Ways_between_0 (fun kc0 => (by exfalso; omega)) (fun kc0 => ?_)
  (try simp only [ite01t, ite01v, Int32.reduceToInt, t_m1, t_m2, t_m1000, Decidable.not_not] at kc0); (try simp only [hn] at kc0)
  refine w_Ways_between_4 L (fun kc4 => (by exfalso; omega)) (fun kc4 => ?_)
  (try simp only [ite01t, ite01v, Int32.reduceToInt, t_m1, t_m2, t_m1000, Decidable.not_not] at kc4); (try simp only [hn] at kc4)
  refine w_Ways_between_12 (fun kc12 => (by exfalso; omega)) (fun kc12 => ?_)
  (try simp only [ite01t, ite01v, Int32.reduceToInt, t_m1, t_m2, t_m1000, Decidable.not_not] at kc12); (try simp only [hn] at kc12)
  refine w_Ways_between_16 L (fun kc16 => (by exfalso; omega)) (fun kc16 => ?_)
  (try simp only [ite01t, ite01v, Int32.reduceToInt, t_m1, t_m2, t_m1000, Decidable.not_not] at kc16); (try simp only [hn] at kc16)
  refine w_Ways_between_24 ?_
  refine w_Ways_between_29 rfl (fun kc29 => absurd kc29 (by decide)) (fun kc29 => ?_)
  refine w_Ways_between_34 L (by rw [e1]; omega) ?_
  refine w_Ways_between_51 ?_
  exact ⟨by rw [n_eq e1, Nat.mul_comm], rfl⟩
theorem c_measure (L : Lay h.2) (A : LandA h.2 a) (ha : a + 9 ≤ 45) (hn : (h.1 a 0).toInt = (n : Int)) (n6 : n ≤ 6) (hD : RdOk (ld h a)) (s : Int32) : Wc rod (d + 3) 99 [.inr (.inr (.inl (some 70))), .inr (.inr (.inl (some a))), .inl s] h (fun r h' => r = none ∧ Keep h h' ∧ h'.1 70 0 = h.1 a 0 ∧ ∀ f t, f < n → t < n → h'.1 71 (6 * f + t) = Int32.ofNat (wayF 1000 (edgF (ld h a) s) n f t)) := by
  have wl := fun k f t => way_le (F := 1000) (E := edgF (ld h a) s) (edg_le hD) (by omega) k f t
  refine n_Ways_measure ?_
  refine w_Ways_measure_0 A L ?_
  refine w_Ways_measure_8 rfl ?_
  refine Wb.uph n (fun f L' h' => ∃ (z : Int32) (u4 u5 u6 : Option MV), L' = [some (.inr (.inr (.inl (some 70)))), some (.inr (.inr (.inl (some a)))), some (.inl s), some (.inl z), u4, u5, u6] ∧ z.toInt = (f : Int) ∧ Keep h h' ∧ h'.1 70 0 = h.1 a 0 ∧ TabP h' 71 n (W0 1000 (edgF (ld h a) s)) (6 * f)) ?_ (Nat.zero_le _) ⟨0, _, _, _, rfl, rfl, Keep.rfl.si (scrI 70 (by omega)), by rw [sI_same], fun _ _ _ _ q => absurd q (by omega)⟩
  rintro f _ g hfn ⟨z, u4, u5, u6, rfl, hz, K, e7, T⟩ ih
  have Lg := L.keep K
  have hg : (g.1 70 0).toInt = (n : Int) := by rw [e7]; exact hn
  refine w_Ways_measure_10 Lg (fun kc10 => ?_) (fun kc10 => ?_)
  · (try simp only [ite01t, ite01v, Int32.reduceToInt, t_m1, t_m2, t_m1000, Decidable.not_not] at kc10); (try simp only [hg] at kc10)
    refine w_Ways_measure_99 rfl ?_
    have hfe : f = n := by omega
    subst hfe
    refine Wb.uph f (fun y L' h' => ∃ (z3 : Int32) (u4 u5 u6 : Option MV), L' = [some (.inr (.inr (.inl (some 70)))), some (.inr (.inr (.inl (some a)))), some (.inl s), some (.inl z3), u4, u5, u6] ∧ z3.toInt = (y : Int) ∧ Keep h h' ∧ h'.1 70 0 = h.1 a 0 ∧ TabQ h' 71 f (wayF 1000 (edgF (ld h a) s) (y)) (wayF 1000 (edgF (ld h a) s) (y + 1)) (0)) ?_ (Nat.zero_le _) ⟨0, _, _, _, rfl, rfl, K, e7, fun f' t' h1 h2 => by rw [if_neg (by omega)]; exact T f' t' h1 h2 (by omega)⟩
    clear T e7 K Lg hg
    rintro y _ g hyn ⟨z3, u4, u5, u6, rfl, h3, K, e7, T⟩ ihy
    have Lg := L.keep K
    have hg : (g.1 70 0).toInt = (f : Int) := by rw [e7]; exact hn
    refine w_Ways_measure_101 Lg (fun kc101 => ?_) (fun kc101 => ?_)
    · (try simp only [ite01t, ite01v, Int32.reduceToInt, t_m1, t_m2, t_m1000, Decidable.not_not] at kc101); (try simp only [hg] at kc101)
      refine w_Ways_measure_196 ?_
      have hye : y = f := by omega
      subst hye
      refine ⟨rfl, K, e7, fun f' t' h1 h2 => ?_⟩
      rw [T f' t' h1 h2, if_neg (by omega)]
    · (try simp only [ite01t, ite01v, Int32.reduceToInt, t_m1, t_m2, t_m1000, Decidable.not_not] at kc101); (try simp only [hg] at kc101)
      refine w_Ways_measure_109 rfl ?_
      refine Wb.uph f (fun p L' h' => ∃ (z4 : Int32) (u5 u6 : Option MV), L' = [some (.inr (.inr (.inl (some 70)))), some (.inr (.inr (.inl (some a)))), some (.inl s), some (.inl z3), some (.inl z4), u5, u6] ∧ z4.toInt = (p : Int) ∧ Keep h h' ∧ h'.1 70 0 = h.1 a 0 ∧ TabQ h' 71 f (wayF 1000 (edgF (ld h a) s) (y)) (wayF 1000 (edgF (ld h a) s) (y + 1)) (6 * p)) ?_ (Nat.zero_le _) ⟨0, _, _, rfl, rfl, K, e7, T⟩
      clear T e7 K Lg hg
      rintro p _ g hpn ⟨z4, u5, u6, rfl, h4, K, e7, T⟩ ihp
      have Lg := L.keep K
      have hg : (g.1 70 0).toInt = (f : Int) := by rw [e7]; exact hn
      refine w_Ways_measure_112 Lg (fun kc112 => ?_) (fun kc112 => ?_)
      · (try simp only [ite01t, ite01v, Int32.reduceToInt, t_m1, t_m2, t_m1000, Decidable.not_not] at kc112); (try simp only [hg] at kc112)
        refine w_Ways_measure_190 rfl ?_
        refine ihy (by omega) _ _ ⟨_, _, _, _, rfl, t_succ h3 (by omega), K, e7, fun f' t' h1 h2 => by rw [if_neg (by omega), T f' t' h1 h2, if_pos (by omega)]⟩
      · (try simp only [ite01t, ite01v, Int32.reduceToInt, t_m1, t_m2, t_m1000, Decidable.not_not] at kc112); (try simp only [hg] at kc112)
        refine w_Ways_measure_121 rfl ?_
        refine Wb.uph f (fun t L' h' => ∃ (z5 : Int32) (u6 : Option MV), L' = [some (.inr (.inr (.inl (some 70)))), some (.inr (.inr (.inl (some a)))), some (.inl s), some (.inl z3), some (.inl z4), some (.inl z5), u6] ∧ z5.toInt = (t : Int) ∧ Keep h h' ∧ h'.1 70 0 = h.1 a 0 ∧ TabQ h' 71 f (wayF 1000 (edgF (ld h a) s) (y)) (wayF 1000 (edgF (ld h a) s) (y + 1)) (6 * p + t)) ?_ (Nat.zero_le _) ⟨0, _, rfl, rfl, K, e7, T⟩
        clear T e7 K Lg hg
        rintro t _ g htn ⟨z5, u6, rfl, h5, K, e7, T⟩ iht
        have Lg := L.keep K
        have hg : (g.1 70 0).toInt = (f : Int) := by rw [e7]; exact hn
        have e1 := (n_add (n_mul h4 (show (6 : Int32).toInt = ((6 : Nat) : Int) from rfl) (by omega)) h5 (by omega))
        refine w_Ways_measure_124 Lg (fun kc124 => ?_) (fun kc124 => ?_)
        · (try simp only [ite01t, ite01v, Int32.reduceToInt, t_m1, t_m2, t_m1000, Decidable.not_not] at kc124); (try simp only [hg] at kc124)
          refine w_Ways_measure_184 rfl ?_
          refine ihp (by omega) _ _ ⟨_, _, _, rfl, t_succ h4 (by omega), K, e7, T.up (fun f' t' _ _ => by omega)⟩
        · (try simp only [ite01t, ite01v, Int32.reduceToInt, t_m1, t_m2, t_m1000, Decidable.not_not] at kc124); (try simp only [hg] at kc124)
          have w1 := T.rd (f := p) (t := y) (by omega) (by omega) (Or.inr (Or.inl rfl))
          have w2 := T.rd (f := y) (t := t) (by omega) (by omega) (Or.inl rfl)
          have w3 := T.rd (f := p) (t := t) (by omega) (by omega) (Or.inr (Or.inr (by omega)))
          have b1 := wl y p y
          have b2 := wl y y t
          have b3 := wl y p t
          have s12 : (g.1 71 (6 * p + y) + g.1 71 (6 * y + t)).toInt = ((wayF 1000 (edgF (ld h a) s) y p y + wayF 1000 (edgF (ld h a) s) y y t : Nat) : Int) := by rw [w1, w2]; exact n_add (t_nat (by omega)) (t_nat (by omega)) (by omega)
          have s3 : (g.1 71 (6 * p + t)).toInt = ((wayF 1000 (edgF (ld h a) s) y p t : Nat) : Int) := by rw [w3]; exact t_nat (by omega)
          refine w_Ways_measure_133 Lg (Tc.wc (c_between Lg hg n6 _ _ h4 h3 (by omega) (by omega))) (Is.k ?_)
          refine w_Ways_measure_140 Lg (Tc.wc (c_between Lg hg n6 _ _ h3 h5 (by omega) (by omega))) (Is.k ?_)
          refine w_Ways_measure_147 Lg (Tc.wc (c_between Lg hg n6 _ _ h4 h5 (by omega) (by omega))) (Is.k ?_)
          refine w_Ways_measure_160 (fun kc160 => ?_) (fun kc160 => ?_)
          · (try simp only [ite01t, ite01v, Int32.reduceToInt, t_m1, t_m2, t_m1000, Decidable.not_not] at kc160); (try simp only [hg] at kc160)
            refine w_Ways_measure_178 rfl ?_
            refine iht (by omega) _ _ ⟨_, _, rfl, t_succ h5 (by omega), K, e7, T.same n6 rfl (by omega) ?_⟩
            simp only [wayF, rdF]
            omega
          · (try simp only [ite01t, ite01v, Int32.reduceToInt, t_m1, t_m2, t_m1000, Decidable.not_not] at kc160); (try simp only [hg] at kc160)
            refine w_Ways_measure_163 Lg (by rw [e1]; omega) ?_
            refine w_Ways_measure_178 rfl ?_
            rw [n_eq e1, Nat.mul_comm p 6]
            refine iht (by omega) _ _ ⟨_, _, rfl, t_succ h5 (by omega), K.si (scrI 71 (by omega)), by rw [sI_nc (by omega)]; exact e7, T.step n6 rfl (by omega) (ofN ?_ ?_)⟩
            · rw [s12]; simp only [wayF, rdF]; omega
            · simp only [wayF, rdF]; omega
  · (try simp only [ite01t, ite01v, Int32.reduceToInt, t_m1, t_m2, t_m1000, Decidable.not_not] at kc10); (try simp only [hg] at kc10)
    refine w_Ways_measure_18 rfl ?_
    refine Wb.uph n (fun t L' h' => ∃ (y : Int32) (u5 u6 : Option MV), L' = [some (.inr (.inr (.inl (some 70)))), some (.inr (.inr (.inl (some a)))), some (.inl s), some (.inl z), some (.inl y), u5, u6] ∧ y.toInt = (t : Int) ∧ Keep h h' ∧ h'.1 70 0 = h.1 a 0 ∧ TabP h' 71 n (W0 1000 (edgF (ld h a) s)) (6 * f + t)) ?_ (Nat.zero_le _) ⟨0, _, _, rfl, rfl, K, e7, T⟩
    clear T e7 K Lg hg
    rintro t _ g htn ⟨y, u5, u6, rfl, hy, K, e7, T⟩ ihi
    have Lg := L.keep K
    have Ag := A.keep K
    have hg : (g.1 70 0).toInt = (n : Int) := by rw [e7]; exact hn
    have oy := ofN hy (by omega)
    have hT : (g.1 a 0).toInt = (n : Int) := by rw [K.c a (by omega)]; exact hn
    have e1 := (n_add (n_mul hz (show (6 : Int32).toInt = ((6 : Nat) : Int) from rfl) (by omega)) hy (by omega))
    refine w_Ways_measure_21 Lg (fun kc21 => ?_) (fun kc21 => ?_)
    · (try simp only [ite01t, ite01v, Int32.reduceToInt, t_m1, t_m2, t_m1000, Decidable.not_not] at kc21); (try simp only [hg] at kc21)
      refine w_Ways_measure_93 rfl ?_
      refine ih (by omega) _ _ ⟨_, _, _, _, rfl, t_succ hz (by omega), K, e7, T.up (fun f' t' _ _ _ => by omega)⟩
    · (try simp only [ite01t, ite01v, Int32.reduceToInt, t_m1, t_m2, t_m1000, Decidable.not_not] at kc21); (try simp only [hg] at kc21)
      refine w_Ways_measure_30 (fun kc30 => ?_) (fun kc30 => ?_)
      · (try simp only [ite01t, ite01v, Int32.reduceToInt, t_m1, t_m2, t_m1000, Decidable.not_not] at kc30); (try simp only [hg] at kc30)
        refine w_Ways_measure_43 Ag (Tc.wc (s_road Ag (by omega) z y)) (Is.k ?_)
        have ed : g.1 (a + 8) (f * 6 + t) = ld h a 8 (6 * f + t) := by rw [K.c _ (by omega), Nat.mul_comm f 6]; rfl
        rw [if_pos (by omega), n_eq e1, ed]
        refine w_Ways_measure_50 Lg (fun kc50 => ?_) (fun kc50 => ?_)
        · (try simp only [ite01t, ite01v, Int32.reduceToInt, t_m1, t_m2, t_m1000, Decidable.not_not] at kc50); (try simp only [hg] at kc50)
          refine w_Ways_measure_73 (fun kc73 => ?_) (fun kc73 => ?_)
          · (try simp only [ite01t, ite01v, Int32.reduceToInt, t_m1, t_m2, t_m1000, Decidable.not_not] at kc73); (try simp only [hg] at kc73)
            refine w_Ways_measure_84 ?_
            refine w_Ways_measure_86 (Lg.1 71 _ rfl) (by rw [e1]; omega) ?_
            refine w_Ways_measure_87 rfl ?_
            refine ihi (by omega) _ _ ⟨_, _, _, rfl, t_succ hy (by omega), K.si (scrI 71 (by omega)), by rw [sI_nc (by omega)]; exact e7, ?_⟩
            rw [n_eq e1, Nat.mul_comm f 6]
            refine T.step n6 rfl (by omega) ?_
            rw [W0_v hD (by omega) (by omega), ← oy]
            first
            | (rw [if_pos (by omega)]; done)
            | (rw [if_neg (by omega), if_pos (by first | exact Or.inl ‹_› | exact Or.inr ‹_›)]; rfl)
            | (rw [if_neg (by omega), if_neg (by rintro (q | q) <;> contradiction)]; done)
          · (try simp only [ite01t, ite01v, Int32.reduceToInt, t_m1, t_m2, t_m1000, Decidable.not_not] at kc73); (try simp only [hg] at kc73)
            refine w_Ways_measure_78 ?_
            refine w_Ways_measure_86 (Lg.1 71 _ rfl) (by rw [e1]; omega) ?_
            refine w_Ways_measure_87 rfl ?_
            refine ihi (by omega) _ _ ⟨_, _, _, rfl, t_succ hy (by omega), K.si (scrI 71 (by omega)), by rw [sI_nc (by omega)]; exact e7, ?_⟩
            rw [n_eq e1, Nat.mul_comm f 6]
            refine T.step n6 rfl (by omega) ?_
            rw [W0_v hD (by omega) (by omega), ← oy]
            first
            | (rw [if_pos (by omega)]; done)
            | (rw [if_neg (by omega), if_pos (by first | exact Or.inl ‹_› | exact Or.inr ‹_›)]; rfl)
            | (rw [if_neg (by omega), if_neg (by rintro (q | q) <;> contradiction)]; done)
        · (try simp only [ite01t, ite01v, Int32.reduceToInt, t_m1, t_m2, t_m1000, Decidable.not_not] at kc50); (try simp only [hg] at kc50)
          refine w_Ways_measure_69 ?_
          refine w_Ways_measure_86 (Lg.1 71 _ rfl) (by rw [e1]; omega) ?_
          refine w_Ways_measure_87 rfl ?_
          refine ihi (by omega) _ _ ⟨_, _, _, rfl, t_succ hy (by omega), K.si (scrI 71 (by omega)), by rw [sI_nc (by omega)]; exact e7, ?_⟩
          rw [n_eq e1, Nat.mul_comm f 6]
          refine T.step n6 rfl (by omega) ?_
          rw [W0_v hD (by omega) (by omega), ← oy]
          first
          | (rw [if_pos (by omega)]; done)
          | (rw [if_neg (by omega), if_pos (by first | exact Or.inl ‹_› | exact Or.inr ‹_›)]; rfl)
          | (rw [if_neg (by omega), if_neg (by rintro (q | q) <;> contradiction)]; done)
      · (try simp only [ite01t, ite01v, Int32.reduceToInt, t_m1, t_m2, t_m1000, Decidable.not_not] at kc30); (try simp only [hg] at kc30)
        refine w_Ways_measure_39 ?_
        refine w_Ways_measure_50 Lg (fun kc50 => ?_) (fun kc50 => ?_)
        · (try simp only [ite01t, ite01v, Int32.reduceToInt, t_m1, t_m2, t_m1000, Decidable.not_not] at kc50); (try simp only [hg] at kc50)
          refine w_Ways_measure_73 (fun kc73 => absurd kc73 (by decide)) (fun kc73 => ?_)
          refine w_Ways_measure_78 ?_
          refine w_Ways_measure_86 (Lg.1 71 _ rfl) (by rw [e1]; omega) ?_
          refine w_Ways_measure_87 rfl ?_
          refine ihi (by omega) _ _ ⟨_, _, _, rfl, t_succ hy (by omega), K.si (scrI 71 (by omega)), by rw [sI_nc (by omega)]; exact e7, ?_⟩
          rw [n_eq e1, Nat.mul_comm f 6]
          refine T.step n6 rfl (by omega) ?_
          rw [W0_v hD (by omega) (by omega), ← oy]
          first
          | (rw [if_pos (by omega)]; done)
          | (rw [if_neg (by omega), if_pos (by first | exact Or.inl ‹_› | exact Or.inr ‹_›)]; rfl)
          | (rw [if_neg (by omega), if_neg (by rintro (q | q) <;> contradiction)]; done)
        · (try simp only [ite01t, ite01v, Int32.reduceToInt, t_m1, t_m2, t_m1000, Decidable.not_not] at kc50); (try simp only [hg] at kc50)
          refine w_Ways_measure_69 ?_
          refine w_Ways_measure_86 (Lg.1 71 _ rfl) (by rw [e1]; omega) ?_
          refine w_Ways_measure_87 rfl ?_
          refine ihi (by omega) _ _ ⟨_, _, _, rfl, t_succ hy (by omega), K.si (scrI 71 (by omega)), by rw [sI_nc (by omega)]; exact e7, ?_⟩
          rw [n_eq e1, Nat.mul_comm f 6]
          refine T.step n6 rfl (by omega) ?_
          rw [W0_v hD (by omega) (by omega), ← oy]
          first
          | (rw [if_pos (by omega)]; done)
          | (rw [if_neg (by omega), if_pos (by first | exact Or.inl ‹_› | exact Or.inr ‹_›)]; rfl)
          | (rw [if_neg (by omega), if_neg (by rintro (q | q) <;> contradiction)]; done)
theorem SimM.cur (n : Nat) : SimM h (fun i => h.1 84 (21 + i), fun c b => h.1 (88 + c) b) n := ⟨fun _ _ => rfl, fun _ _ _ _ => rfl⟩
theorem r_isShut2 (L : Lay h.2) (x : Int32) : Tc rod (d + 1) 236 [.inr (.inr (.inl (some 84))), .inl x] h (some (.inl (if ¬ ((h.1 84 23 >>> (x &&& 31)) &&& 1).toInt = 0 then 1 else 0))) h := r_isShut (SimM.cur 0) L x
theorem r_lays (M : MLand h a l) (L : Lay h.2) (ha : a + 9 ≤ 45) (hn : (h.1 a 0).toInt = (n : Int)) (n6 : n ≤ 6) (x : Int32) : Wc rod (d + 2) 247 [.inr (.inr (.inl (some 84))), .inl x] h (fun r h' => r = none ∧ Keep h h' ∧ MLand h' a l ∧ h'.1 84 23 = h.1 a 3 ||| x ∧ ∀ f t, f < n → t < n → h'.1 92 (6 * f + t) = Int32.ofNat (wayF 9999 (edgF (ld h a) (h.1 a 3 ||| x)) n f t)) := by
  have hD := M.1.rdok
  have wl := fun k f t => way_le (F := 9999) (E := edgF (ld h a) (h.1 a 3 ||| x)) (edg_le hD) (by omega) k f t
  have hl := M.2.1
  have e0 := (n_add M.2.2.1 (show (5 : Int32).toInt = ((5 : Nat) : Int) from rfl) (by omega))
  have es : h.1 85 (h.1 84 12 + 5).toNatClampNeg = h.1 a 3 := by rw [n_eq e0]; exact M.1.2.2.2.2.2.1.symm
  refine n_Model_laysWays ?_
  refine w_Model_laysWays_0 L (by rw [e0]; omega) ?_
  rw [es]
  refine w_Model_laysWays_17 rfl ?_
  refine Wb.uph n (fun f L' h' => ∃ (z : Int32) (u3 u4 : Option MV), L' = [some (.inr (.inr (.inl (some 84)))), some (.inl x), some (.inl z), u3, u4] ∧ z.toInt = (f : Int) ∧ Keep h h' ∧ MLand h' a l ∧ h'.1 84 23 = h.1 a 3 ||| x ∧ TabP h' 92 n (W0 9999 (edgF (ld h a) (h.1 a 3 ||| x))) (6 * f)) ?_ (Nat.zero_le _) ⟨0, _, _, rfl, rfl, Keep.rfl.si (scrI 84 (by omega)), M.si84 ha (by omega), by rw [sI_same], fun _ _ _ _ q => absurd q (by omega)⟩
  rintro f _ g hfn ⟨z, u3, u4, rfl, hz, K, Mg, e23, T⟩ ih
  have Lg := L.keep K
  have hg : (g.1 84 13).toInt = (n : Int) := by rw [Mg.2.2.2.1, K.c a (by omega)]; exact hn
  refine w_Model_laysWays_19 Lg (fun kc19 => ?_) (fun kc19 => ?_)
  · (try simp only [ite01t, ite01v, Int32.reduceToInt, t_m1, t_m2, t_m1000, Decidable.not_not] at kc19); (try simp only [hg] at kc19)
    refine w_Model_laysWays_98 rfl ?_
    have hfe : f = n := by omega
    subst hfe
    refine Wb.uph f (fun y L' h' => ∃ (z2 : Int32) (u3 u4 : Option MV), L' = [some (.inr (.inr (.inl (some 84)))), some (.inl x), some (.inl z2), u3, u4] ∧ z2.toInt = (y : Int) ∧ Keep h h' ∧ MLand h' a l ∧ h'.1 84 23 = h.1 a 3 ||| x ∧ TabQ h' 92 f (wayF 9999 (edgF (ld h a) (h.1 a 3 ||| x)) (y)) (wayF 9999 (edgF (ld h a) (h.1 a 3 ||| x)) (y + 1)) (0)) ?_ (Nat.zero_le _) ⟨0, _, _, rfl, rfl, K, Mg, e23, fun f' t' h1 h2 => by rw [if_neg (by omega)]; exact T f' t' h1 h2 (by omega)⟩
    clear T e23 K Lg hg Mg
    rintro y _ g hyn ⟨z2, u3, u4, rfl, h2, K, Mg, e23, T⟩ ihy
    have Lg := L.keep K
    have hg : (g.1 84 13).toInt = (f : Int) := by rw [Mg.2.2.2.1, K.c a (by omega)]; exact hn
    refine w_Model_laysWays_100 Lg (fun kc100 => ?_) (fun kc100 => ?_)
    · (try simp only [ite01t, ite01v, Int32.reduceToInt, t_m1, t_m2, t_m1000, Decidable.not_not] at kc100); (try simp only [hg] at kc100)
      refine w_Model_laysWays_199 ?_
      have hye : y = f := by omega
      subst hye
      refine ⟨rfl, K, Mg, e23, fun f' t' h1 h2 => ?_⟩
      rw [T f' t' h1 h2, if_neg (by omega)]
    · (try simp only [ite01t, ite01v, Int32.reduceToInt, t_m1, t_m2, t_m1000, Decidable.not_not] at kc100); (try simp only [hg] at kc100)
      refine w_Model_laysWays_108 rfl ?_
      refine Wb.uph f (fun p L' h' => ∃ (z3 : Int32) (u4 : Option MV), L' = [some (.inr (.inr (.inl (some 84)))), some (.inl x), some (.inl z2), some (.inl z3), u4] ∧ z3.toInt = (p : Int) ∧ Keep h h' ∧ MLand h' a l ∧ h'.1 84 23 = h.1 a 3 ||| x ∧ TabQ h' 92 f (wayF 9999 (edgF (ld h a) (h.1 a 3 ||| x)) (y)) (wayF 9999 (edgF (ld h a) (h.1 a 3 ||| x)) (y + 1)) (6 * p)) ?_ (Nat.zero_le _) ⟨0, _, rfl, rfl, K, Mg, e23, T⟩
      clear T e23 K Lg hg Mg
      rintro p _ g hpn ⟨z3, u4, rfl, h3, K, Mg, e23, T⟩ ihp
      have Lg := L.keep K
      have hg : (g.1 84 13).toInt = (f : Int) := by rw [Mg.2.2.2.1, K.c a (by omega)]; exact hn
      refine w_Model_laysWays_110 Lg (fun kc110 => ?_) (fun kc110 => ?_)
      · (try simp only [ite01t, ite01v, Int32.reduceToInt, t_m1, t_m2, t_m1000, Decidable.not_not] at kc110); (try simp only [hg] at kc110)
        refine w_Model_laysWays_193 rfl ?_
        refine ihy (by omega) _ _ ⟨_, _, _, rfl, t_succ h2 (by omega), K, Mg, e23, fun f' t' h1 h2 => by rw [if_neg (by omega), T f' t' h1 h2, if_pos (by omega)]⟩
      · (try simp only [ite01t, ite01v, Int32.reduceToInt, t_m1, t_m2, t_m1000, Decidable.not_not] at kc110); (try simp only [hg] at kc110)
        refine w_Model_laysWays_118 rfl ?_
        refine Wb.uph f (fun t L' h' => ∃ (z4 : Int32), L' = [some (.inr (.inr (.inl (some 84)))), some (.inl x), some (.inl z2), some (.inl z3), some (.inl z4)] ∧ z4.toInt = (t : Int) ∧ Keep h h' ∧ MLand h' a l ∧ h'.1 84 23 = h.1 a 3 ||| x ∧ TabQ h' 92 f (wayF 9999 (edgF (ld h a) (h.1 a 3 ||| x)) (y)) (wayF 9999 (edgF (ld h a) (h.1 a 3 ||| x)) (y + 1)) (6 * p + t)) ?_ (Nat.zero_le _) ⟨0, rfl, rfl, K, Mg, e23, T⟩
        clear T e23 K Lg hg Mg
        rintro t _ g htn ⟨z4, rfl, h4, K, Mg, e23, T⟩ iht
        have Lg := L.keep K
        have hg : (g.1 84 13).toInt = (f : Int) := by rw [Mg.2.2.2.1, K.c a (by omega)]; exact hn
        have e1 := (n_add (n_mul (show (6 : Int32).toInt = ((6 : Nat) : Int) from rfl) h3 (by omega)) h4 (by omega))
        have e2 := (n_add (n_mul (show (6 : Int32).toInt = ((6 : Nat) : Int) from rfl) h3 (by omega)) h2 (by omega))
        have e3 := (n_add (n_mul (show (6 : Int32).toInt = ((6 : Nat) : Int) from rfl) h2 (by omega)) h4 (by omega))
        refine w_Model_laysWays_121 Lg (fun kc121 => ?_) (fun kc121 => ?_)
        · (try simp only [ite01t, ite01v, Int32.reduceToInt, t_m1, t_m2, t_m1000, Decidable.not_not] at kc121); (try simp only [hg] at kc121)
          refine w_Model_laysWays_187 rfl ?_
          refine ihp (by omega) _ _ ⟨_, _, rfl, t_succ h3 (by omega), K, Mg, e23, T.up (fun f' t' _ _ => by omega)⟩
        · (try simp only [ite01t, ite01v, Int32.reduceToInt, t_m1, t_m2, t_m1000, Decidable.not_not] at kc121); (try simp only [hg] at kc121)
          have w1 := T.rd (f := p) (t := y) (by omega) (by omega) (Or.inr (Or.inl rfl))
          have w2 := T.rd (f := y) (t := t) (by omega) (by omega) (Or.inl rfl)
          have w3 := T.rd (f := p) (t := t) (by omega) (by omega) (Or.inr (Or.inr (by omega)))
          have b1 := wl y p y
          have b2 := wl y y t
          have b3 := wl y p t
          have s12 : (g.1 92 (6 * p + y) + g.1 92 (6 * y + t)).toInt = ((wayF 9999 (edgF (ld h a) (h.1 a 3 ||| x)) y p y + wayF 9999 (edgF (ld h a) (h.1 a 3 ||| x)) y y t : Nat) : Int) := by rw [w1, w2]; exact n_add (t_nat (by omega)) (t_nat (by omega)) (by omega)
          have s3 : (g.1 92 (6 * p + t)).toInt = ((wayF 9999 (edgF (ld h a) (h.1 a 3 ||| x)) y p t : Nat) : Int) := by rw [w3]; exact t_nat (by omega)
          refine w_Model_laysWays_130 Lg (by rw [e1]; omega) (by rw [e2]; omega) (by rw [e3]; omega) (Tc.wc (s_Model_atMost _ _ _)) (Is.k ?_)
          rw [n_eq e1, n_eq e2, n_eq e3]
          refine w_Model_laysWays_180 (Lg.1 92 _ rfl) (by rw [e1]; omega) ?_
          refine w_Model_laysWays_181 rfl ?_
          rw [n_eq e1]
          refine iht (by omega) _ _ ⟨_, rfl, t_succ h4 (by omega), K.si (scrI 92 (by omega)), Mg.si ha (by omega), by rw [sI_nc (by omega)]; exact e23, T.step n6 rfl (by omega) (ofN ?_ ?_)⟩
          · simp only [Int32.lt_iff_toInt_lt, wayF, rdF]
            split
            · omega
            · omega
          · simp only [wayF, rdF]; omega
  · (try simp only [ite01t, ite01v, Int32.reduceToInt, t_m1, t_m2, t_m1000, Decidable.not_not] at kc19); (try simp only [hg] at kc19)
    refine w_Model_laysWays_27 rfl ?_
    refine Wb.uph n (fun t L' h' => ∃ (y : Int32) (u4 : Option MV), L' = [some (.inr (.inr (.inl (some 84)))), some (.inl x), some (.inl z), some (.inl y), u4] ∧ y.toInt = (t : Int) ∧ Keep h h' ∧ MLand h' a l ∧ h'.1 84 23 = h.1 a 3 ||| x ∧ TabP h' 92 n (W0 9999 (edgF (ld h a) (h.1 a 3 ||| x))) (6 * f + t)) ?_ (Nat.zero_le _) ⟨0, _, rfl, rfl, K, Mg, e23, T⟩
    clear T e23 K Lg hg Mg
    rintro t _ g htn ⟨y, u4, rfl, hy, K, Mg, e23, T⟩ ihi
    have Lg := L.keep K
    have hg : (g.1 84 13).toInt = (n : Int) := by rw [Mg.2.2.2.1, K.c a (by omega)]; exact hn
    have oy := ofN hy (by omega)
    have e1 := (n_add (n_mul (show (6 : Int32).toInt = ((6 : Nat) : Int) from rfl) hz (by omega)) hy (by omega))
    refine w_Model_laysWays_29 Lg (fun kc29 => ?_) (fun kc29 => ?_)
    · (try simp only [ite01t, ite01v, Int32.reduceToInt, t_m1, t_m2, t_m1000, Decidable.not_not] at kc29); (try simp only [hg] at kc29)
      refine w_Model_laysWays_92 rfl ?_
      refine ih (by omega) _ _ ⟨_, _, _, rfl, t_succ hz (by omega), K, Mg, e23, T.up (fun f' t' _ _ _ => by omega)⟩
    · (try simp only [ite01t, ite01v, Int32.reduceToInt, t_m1, t_m2, t_m1000, Decidable.not_not] at kc29); (try simp only [hg] at kc29)
      refine w_Model_laysWays_37 Lg (fun kc37 => ?_) (fun kc37 => ?_)
      · (try simp only [ite01t, ite01v, Int32.reduceToInt, t_m1, t_m2, t_m1000, Decidable.not_not] at kc37); (try simp only [hg] at kc37)
        have ed : g.1 (a + 8) (6 * f + t) = ld h a 8 (6 * f + t) := by rw [K.c _ (by omega)]; rfl
        have rb := hD (6 * f + t) (by omega)
        refine w_Model_laysWays_56 Lg (Tc.wc (s_mroad Mg Lg z y f t hz hy (by omega) (by omega))) (Is.k ?_)
        rw [ed]
        refine w_Model_laysWays_62 (fun kc62 => ?_) (fun kc62 => ?_)
        · (try simp only [ite01t, ite01v, Int32.reduceToInt, t_m1, t_m2, t_m1000, Decidable.not_not] at kc62); (try simp only [hg] at kc62)
          refine w_Model_laysWays_82 ?_
          refine w_Model_laysWays_85 (Lg.1 92 _ rfl) (by rw [e1]; omega) ?_
          refine w_Model_laysWays_86 rfl ?_
          refine ihi (by omega) _ _ ⟨_, _, rfl, t_succ hy (by omega), K.si (scrI 92 (by omega)), Mg.si ha (by omega), by rw [sI_nc (by omega)]; exact e23, ?_⟩
          rw [n_eq e1]
          refine T.step n6 rfl (by omega) ?_
          rw [W0_v hD (by omega) (by omega), ← oy]
          first
          | (rw [if_pos (by omega)]; done)
          | (rw [if_neg (by omega), if_pos (by first | exact Or.inl ‹_› | (right; omega))]; rfl)
          | (rw [if_neg (by omega), if_neg (by rintro (q | q) <;> first | contradiction | omega)]; done)
        · (try simp only [ite01t, ite01v, Int32.reduceToInt, t_m1, t_m2, t_m1000, Decidable.not_not] at kc62); (try simp only [hg] at kc62)
          refine w_Model_laysWays_65 Lg (Tc.wc (r_isShut2 Lg y)) (Is.k ?_)
          rw [e23]
          refine w_Model_laysWays_70 (fun kc70 => ?_) (fun kc70 => ?_)
          · (try simp only [ite01t, ite01v, Int32.reduceToInt, t_m1, t_m2, t_m1000, Decidable.not_not] at kc70); (try simp only [hg] at kc70)
            refine w_Model_laysWays_82 ?_
            refine w_Model_laysWays_85 (Lg.1 92 _ rfl) (by rw [e1]; omega) ?_
            refine w_Model_laysWays_86 rfl ?_
            refine ihi (by omega) _ _ ⟨_, _, rfl, t_succ hy (by omega), K.si (scrI 92 (by omega)), Mg.si ha (by omega), by rw [sI_nc (by omega)]; exact e23, ?_⟩
            rw [n_eq e1]
            refine T.step n6 rfl (by omega) ?_
            rw [W0_v hD (by omega) (by omega), ← oy]
            first
            | (rw [if_pos (by omega)]; done)
            | (rw [if_neg (by omega), if_pos (by first | exact Or.inl ‹_› | (right; omega))]; rfl)
            | (rw [if_neg (by omega), if_neg (by rintro (q | q) <;> first | contradiction | omega)]; done)
          · (try simp only [ite01t, ite01v, Int32.reduceToInt, t_m1, t_m2, t_m1000, Decidable.not_not] at kc70); (try simp only [hg] at kc70)
            refine w_Model_laysWays_73 Lg (Tc.wc (s_mroad Mg Lg z y f t hz hy (by omega) (by omega))) (Is.k ?_)
            rw [ed]
            refine w_Model_laysWays_79 ?_
            refine w_Model_laysWays_85 (Lg.1 92 _ rfl) (by rw [e1]; omega) ?_
            refine w_Model_laysWays_86 rfl ?_
            refine ihi (by omega) _ _ ⟨_, _, rfl, t_succ hy (by omega), K.si (scrI 92 (by omega)), Mg.si ha (by omega), by rw [sI_nc (by omega)]; exact e23, ?_⟩
            rw [n_eq e1]
            refine T.step n6 rfl (by omega) ?_
            rw [W0_v hD (by omega) (by omega), ← oy]
            first
            | (rw [if_pos (by omega)]; done)
            | (rw [if_neg (by omega), if_pos (by first | exact Or.inl ‹_› | (right; omega))]; rfl)
            | (rw [if_neg (by omega), if_neg (by rintro (q | q) <;> first | contradiction | omega)]; done)
      · (try simp only [ite01t, ite01v, Int32.reduceToInt, t_m1, t_m2, t_m1000, Decidable.not_not] at kc37); (try simp only [hg] at kc37)
        refine w_Model_laysWays_52 ?_
        refine w_Model_laysWays_85 (Lg.1 92 _ rfl) (by rw [e1]; omega) ?_
        refine w_Model_laysWays_86 rfl ?_
        refine ihi (by omega) _ _ ⟨_, _, rfl, t_succ hy (by omega), K.si (scrI 92 (by omega)), Mg.si ha (by omega), by rw [sI_nc (by omega)]; exact e23, ?_⟩
        rw [n_eq e1]
        refine T.step n6 rfl (by omega) ?_
        rw [W0_v hD (by omega) (by omega), ← oy]
        first
        | (rw [if_pos (by omega)]; done)
        | (rw [if_neg (by omega), if_pos (by first | exact Or.inl ‹_› | (right; omega))]; rfl)
        | (rw [if_neg (by omega), if_neg (by rintro (q | q) <;> first | contradiction | omega)]; done)
end M65
