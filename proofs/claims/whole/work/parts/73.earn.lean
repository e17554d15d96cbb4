/-! THE CLASS'S TOUR -/
section M73
variable {rod : Nat → Nat × (Nat → Int32)} {d : Nat} {h : MH} {a n nb lt D : Nat} {W : Nat → Nat → Nat} {S : Nat → Nat}
/-- what a letter brings in a town -/
def salN (D : Nat → Nat → Int32) (lt t : Nat) : Nat → Nat
  | 0 => 0
  | b + 1 => salN D lt t b + (if (D 2 b).toInt = (t : Int) ∧ lw D (D 6 lt) (D 7 lt) b = true then (D 7 lt).toNatClampNeg else 0)
theorem salN_le {D : Nat → Nat → Int32} {t : Nat} (hp : (D 7 lt).toInt ≤ 60) : ∀ b, salN D lt t b ≤ 60 * b := by
  intro b
  have : (D 7 lt).toNatClampNeg ≤ 60 := by
    show (D 7 lt).toInt.toNat ≤ 60
    omega
  induction b with
  | zero => simp [salN]
  | succ b ih =>
    simp only [salN]
    split <;> omega
theorem c_salesIn (A : LandA h.2 a) (hn : (h.1 a 4).toInt = (nb : Int)) (n8 : nb ≤ 8) (x y : Int32) {t : Nat} (hx : x.toInt = (t : Int)) (hy : y.toInt = (lt : Int)) (hl : (lt : Int) < (h.1 a 5).toInt) (l4 : (h.1 a 5).toInt ≤ 4) (hp : 0 ≤ (ld h a 7 lt).toInt ∧ (ld h a 7 lt).toInt ≤ 60) : Tc rod (d + 3) 104 [.inr (.inr (.inl (some a))), .inl x, .inl y] h (some (.inl (Int32.ofNat (salN (ld h a) lt t nb)))) h := by
  have ey := n_eq hy
  apply Wc.tc
  refine n_Land_salesIn ?_
  refine w_Land_salesIn_0 A (Tc.wc (s_hasLetter A _)) (Is.k ?_)
  refine w_Land_salesIn_5 (fun kc5 => ?_) (fun kc5 => absurd kc5 (by rw [if_pos (by omega)]; decide))
  refine w_Land_salesIn_10 rfl ?_
  refine Wb.upc nb (fun b L' => ∃ (z : Int32), L' = [some (.inr (.inr (.inl (some a)))), some (.inl x), some (.inl y), some (.inl (Int32.ofNat (salN (ld h a) lt t b))), some (.inl z)] ∧ z.toInt = (b : Int)) ?_ (Nat.zero_le _) ⟨0, rfl, rfl⟩
  rintro b _ hb ⟨z, rfl, hz⟩ ih
  have ez := n_eq hz
  have sl := salN_le (D := ld h a) (lt := lt) (t := t) hp.2 b
  have ep := n_of hp.1
  have town : h.1 (a + 2) z.toNatClampNeg = ld h a 2 b := by rw [ez]; rfl
  have yr : h.1 (a + 6) y.toNatClampNeg = ld h a 6 lt := by rw [ey]; rfl
  have pr : h.1 (a + 7) y.toNatClampNeg = ld h a 7 lt := by rw [ey]; rfl
  refine w_Land_salesIn_15 A (fun kc15 => ?_) (fun kc15 => ?_)
  · (try simp only [ite01t, ite01v, Int32.reduceToInt, t_m1, t_m2, t_m1000, Decidable.not_not] at kc15); (try simp only [hn] at kc15); (try simp only [town] at kc15)
    refine w_Land_salesIn_71 ?_
    have : b = nb := by omega
    subst this
    exact ⟨rfl, rfl⟩
  · (try simp only [ite01t, ite01v, Int32.reduceToInt, t_m1, t_m2, t_m1000, Decidable.not_not] at kc15); (try simp only [hn] at kc15); (try simp only [town] at kc15)
    refine w_Land_salesIn_24 A (by first | assumption | omega | (refine ⟨?_, ?_⟩ <;> first | assumption | omega)) (fun kc24 => ?_) (fun kc24 => ?_)
    · (try simp only [ite01t, ite01v, Int32.reduceToInt, t_m1, t_m2, t_m1000, Decidable.not_not] at kc24); (try simp only [hn] at kc24); (try simp only [town] at kc24)
      refine w_Land_salesIn_65 rfl ?_
      refine ih (by omega) _ ⟨_, ?_, t_succ hz (by omega)⟩
      rw [salN, if_neg (by first | exact fun q => kc24 (by omega) | exact fun q => kc53 ⟨by omega, q.2⟩), Nat.add_zero]
    · (try simp only [ite01t, ite01v, Int32.reduceToInt, t_m1, t_m2, t_m1000, Decidable.not_not] at kc24); (try simp only [hn] at kc24); (try simp only [town] at kc24)
      refine w_Land_salesIn_35 A (by first | assumption | omega | (refine ⟨?_, ?_⟩ <;> first | assumption | omega)) (Tc.wc (s_wants A (by omega) _ _ _)) (Is.k ?_)
      rw [yr, pr, ez]
      refine w_Land_salesIn_53 (fun kc53 => ?_) (fun kc53 => ?_)
      · (try simp only [ite01t, ite01v, Int32.reduceToInt, t_m1, t_m2, t_m1000, Decidable.not_not] at kc53); (try simp only [hn] at kc53); (try simp only [town] at kc53)
        refine w_Land_salesIn_65 rfl ?_
        refine ih (by omega) _ ⟨_, ?_, t_succ hz (by omega)⟩
        rw [salN, if_neg (by first | exact fun q => kc24 (by omega) | exact fun q => kc53 ⟨by omega, q.2⟩), Nat.add_zero]
      · (try simp only [ite01t, ite01v, Int32.reduceToInt, t_m1, t_m2, t_m1000, Decidable.not_not] at kc53); (try simp only [hn] at kc53); (try simp only [town] at kc53)
        refine w_Land_salesIn_56 A (by first | assumption | omega | (refine ⟨?_, ?_⟩ <;> first | assumption | omega)) ?_
        refine w_Land_salesIn_65 rfl ?_
        rw [pr]
        refine ih (by omega) _ ⟨_, ?_, t_succ hz (by omega)⟩
        rw [salN, if_pos ⟨by omega, kc53.2⟩, ← ofN (n := salN (ld h a) lt t b + (ld h a 7 lt).toNatClampNeg) (n_add (t_nat (by omega)) ep (by omega)) (by omega)]
  
theorem smF_le (hs : ∀ t, S t ≤ 480) : ∀ p, smF S p ≤ 480 * p.length := by
  intro p
  induction p with
  | nil => simp [smF]
  | cons t p ih =>
    have := hs t
    simp only [smF, List.length_cons]
    omega
def RowAt (h : MH) (c : Nat) (p : List Nat) : Prop := ∀ i t, p[i]? = some t → h.1 c i = Int32.ofNat t
def BestE (h : MH) (S : Nat → Nat) (b : List Nat) : Prop := h.1 70 6 = Int32.ofNat (S 0 + smF S b) ∧ h.1 70 7 = Int32.ofNat b.length ∧ RowAt h 74 b
def EnvE (h : MH) (n : Nat) (W : Nat → Nat → Nat) (S : Nat → Nat) : Prop := TabC h n W ∧ ∀ t, t < n → h.1 72 t = Int32.ofNat (S t)
theorem EnvE.kp {g : MH} (E : EnvE h n W S) (e0 : g.1 70 0 = h.1 70 0) (e1 : g.1 71 = h.1 71) (e2 : g.1 72 = h.1 72) : EnvE g n W S := by
  simp only [EnvE, TabC, e0, e1, e2] at E ⊢
  exact E
theorem c_keep (L : Lay h.2) (x : Int32) {k : Nat} (hx : x.toInt = (k : Int)) (hk : k ≤ 5) : Wc rod (d + 1) 106 [.inr (.inr (.inl (some 70))), .inl x] h (fun r h' => r = none ∧ Keep h h' ∧ h'.1 70 7 = x ∧ (∀ i, i < k → h'.1 74 i = h.1 73 i) ∧ (∀ c, c ≠ 70 → c ≠ 74 → h'.1 c = h.1 c) ∧ ∀ j, j ≠ 7 → h'.1 70 j = h.1 70 j) := by
  have e : (if (6 : Int32) < x then (6 : Int32) else x) = x := if_neg (fun q => by have := Int32.lt_iff_toInt_lt.mp q; have : (6 : Int) < x.toInt := this; omega)
  refine n_Ways_keepRow ?_
  refine w_Ways_keepRow_0 L ?_
  rw [e]
  refine w_Ways_keepRow_10 L (by rw [sI_same]; omega) ?_
  rw [sI_same, n_eq hx]
  refine w_Ways_keepRow_27 ?_
  refine ⟨rfl, (Keep.rfl.si (scrI 70 (by omega))).sc (scrI 74 (by omega)), by rw [sC_nc (by omega), sI_same], fun i hi => ?_, fun c h1 h2 => by rw [sC_cell h2, sI_cell h1], fun j hj => by rw [sC_nc (by omega), sI_nj hj]⟩
  rw [sC_in (sp := (0 : Int32).toNatClampNeg) (dp := (0 : Int32).toNatClampNeg) rfl rfl hi, sI_nc (by omega)]
/-- whether this row is the best so far -/
theorem earn_first {Q : Option MV → MH → Prop} {u6 u7 : Option MV} {p : List Nat} {B : Option (List Nat)} (hs : ∀ t, S t ≤ 480) (p5 : p.length ≤ 5) (L : Lay h.2) (E : EnvE h n W S) (R : RowAt h 73 p) (V : Vd W n D p) {x1 x2 x3 x4 x5 : Int32} (h1 : x1.toInt = (p.length : Int)) (h5 : x5 = Int32.ofNat (S 0 + smF S p)) (hB : match B with | none => h.1 70 6 = -1 | some b => BestE h S b ∧ Vd W n D b ∧ cdF 5 b < cdF 5 p ∧ b.length ≤ 5)
    (K : ∀ g b1, Keep h g → Lay g.2 → EnvE g n W S → RowAt g 73 p → BestE g S b1 → Vd W n D b1 → b1.length ≤ 5 → cdF 5 b1 ≤ cdF 5 p → (∀ b, B = some b → Gd S b1 b) → Gd S b1 p → Wb rod (d + 1) B_Ways_earnOn 37 [some (.inr (.inr (.inl (some 70)))), some (.inl x1), some (.inl x2), some (.inl x3), some (.inl x4), some (.inl x5), u6, u7] [] g Q) : Wb rod (d + 1) B_Ways_earnOn 0 [some (.inr (.inr (.inl (some 70)))), some (.inl x1), some (.inl x2), some (.inl x3), some (.inl x4), some (.inl x5), u6, u7] [] h Q := by
  have b1 := smF_le hs p
  have b0 := hs 0
  have t5 := t_nat (n := S 0 + smF S p) (by omega)
  rw [← h5] at t5
  have up : (∀ b, B = some b → Gd S p b) → Wb rod (d + 1) B_Ways_earnOn 26 [some (.inr (.inr (.inl (some 70)))), some (.inl x1), some (.inl x2), some (.inl x3), some (.inl x4), some (.inl x5), u6, u7] [] h Q := by
    intro better
    refine w_Ways_earnOn_26 L ?_
    refine w_Ways_earnOn_32 L (c_keep (h := sI h 70 6 x5) L x1 h1 p5) ?_
    rintro _ g ⟨rfl, k1, k2, k3, k4, k5⟩
    have K0 : Keep h g := (Keep.rfl.si (scrI 70 (by omega))).trans k1
    refine K g p K0 (L.keep K0) (E.kp (by rw [k5 0 (by omega), sI_nj (by omega)]) (by rw [k4 71 (by omega) (by omega), sI_cell (by omega)]) (by rw [k4 72 (by omega) (by omega), sI_cell (by omega)])) (fun i t hi => by rw [k4 73 (by omega) (by omega), sI_nc (by omega)]; exact R i t hi) ⟨by rw [k5 6 (by omega), sI_same]; exact h5, by rw [k2]; exact ofN h1 (by omega), fun i t hi => ?_⟩ V p5 (Nat.le_refl _) better Gd.rfl
    rw [k3 i (List.getElem?_eq_some_iff.mp hi).1, sI_nc (by omega)]
    exact R i t hi
  cases B with
  | none =>
    have e6 : (h.1 70 6).toInt = -1 := by rw [show h.1 70 6 = -1 from hB]; rfl
    refine w_Ways_earnOn_0 L (fun _ => up (fun b q => nomatch q)) (fun c => absurd ?_ c)
    rw [e6, t5]
    omega
  | some b =>
    obtain ⟨⟨e6, e7, e8⟩, vb, cb, lb⟩ := hB
    have bb := smF_le hs b
    have t6 := t_nat (n := S 0 + smF S b) (by omega)
    rw [← e6] at t6
    have t7 := t_nat (n := b.length) (by omega)
    rw [← e7] at t7
    have stay : Gd S b p → Wb rod (d + 1) B_Ways_earnOn 37 [some (.inr (.inr (.inl (some 70)))), some (.inl x1), some (.inl x2), some (.inl x3), some (.inl x4), some (.inl x5), u6, u7] [] h Q := fun g => K h b Keep.rfl L E R ⟨e6, e7, e8⟩ vb lb (by omega) (fun b' q => by cases q; exact Gd.rfl) g
    refine w_Ways_earnOn_0 L (fun c => up (fun b' q => by cases q; left; omega)) (fun c => ?_)
    refine w_Ways_earnOn_9 L (fun q => stay (by left; omega)) (fun q => ?_)
    have q' : x5.toInt = (h.1 70 6).toInt := by first | exact q | exact Decidable.not_not.mp q
    refine w_Ways_earnOn_18 L (fun w => stay ?_) (fun w => up (fun b' z => ?_))
    · right
      refine ⟨by omega, ?_⟩
      by_cases y : b.length = p.length
      · right; omega
      · left; omega
    · cases z
      right
      refine ⟨by omega, ?_⟩
      left
      omega
theorem c_earnOn (n6 : n ≤ 6) (n1 : 1 ≤ n) (wl : ∀ f t, W f t ≤ 1000) (hs : ∀ t, S t ≤ 480) (hD : D ≤ 40) : ∀ (m : Nat) (p : List Nat) (h : MH) (x1 x2 x3 x4 x5 : Int32) (M : Nat) (B : Option (List Nat)), p.length + m = 5 → Lay h.2 → EnvE h n W S → RowAt h 73 p → Vd W n D p → x1.toInt = (p.length : Int) → x2.toInt = (lstF 0 p : Int) → x3 = Int32.ofNat M → Msk M (fun t => t = 0 ∨ t ∈ p) → x4.toInt = (D : Int) - (dsF W 0 p : Int) → x5 = Int32.ofNat (S 0 + smF S p) → (match B with | none => h.1 70 6 = -1 | some b => BestE h S b ∧ Vd W n D b ∧ cdF 5 b < cdF 5 p ∧ b.length ≤ 5) → Wc rod (d + m + 2) 105 [.inr (.inr (.inl (some 70))), .inl x1, .inl x2, .inl x3, .inl x4, .inl x5] h (fun r h' => r = none ∧ Keep h h' ∧ EnvE h' n W S ∧ RowAt h' 73 p ∧ ∃ b', BestE h' S b' ∧ Vd W n D b' ∧ b'.length ≤ 5 ∧ cdF 5 b' < cdF 5 p + 6 ^ m ∧ (∀ b, B = some b → Gd S b' b) ∧ ∀ q, Vd W n D (p ++ q) → Gd S b' (p ++ q)) := by
  intro m
  induction m with
  | zero =>
    intro p h x1 x2 x3 x4 x5 M B hp L E R V h1 h2 h3 hM h4 h5 hB
    refine n_Ways_earnOn ?_
    refine earn_first hs (by omega) L E R V h1 h5 hB ?_
    intro g b1 K Lg Eg Rg Bg Vb lb cb gb gp
    refine w_Ways_earnOn_37 (fun c => absurd c (by show ¬ _ < (5 : Int); omega)) (fun _ => ?_)
    refine w_Ways_earnOn_42 ?_
    refine ⟨rfl, K, Eg, Rg, b1, Bg, Vb, lb, by omega, gb, fun q v => ?_⟩
    have l := v.len n1
    rw [List.length_append] at l
    have : q = [] := List.length_eq_zero_iff.mp (by omega)
    rw [this, List.append_nil]
    exact gp
  | succ m ihm =>
    intro p h x1 x2 x3 x4 x5 M B hp L E R V h1 h2 h3 hM h4 h5 hB
    have pl : p.length ≤ 4 := by omega
    have hl := lstF_lt (n := n) p 0 (by omega) (fun t ht => (V.2.1 t ht).2)
    have bp := smF_le hs p
    have b0 := hs 0
    have vd := V.2.2
    have em : 4 - p.length = m := by omega
    refine n_Ways_earnOn ?_
    refine earn_first hs (by omega) L E R V h1 h5 hB ?_
    intro g0 b1 K0 Lg Eg Rg Bg Vb lb cb gb gp
    refine w_Ways_earnOn_37 (fun _ => ?_) (fun c => absurd (show x1.toInt < (5 : Int) by omega) c)
    refine w_Ways_earnOn_43 rfl ?_
    refine Wb.uph (n - 1) (fun j L' g => ∃ (z : Int32) (u7 : Option MV), L' = [some (.inr (.inr (.inl (some 70)))), some (.inl x1), some (.inl x2), some (.inl x3), some (.inl x4), some (.inl x5), some (.inl z), u7] ∧ z.toInt = ((j + 1 : Nat) : Int) ∧ Keep h g ∧ EnvE g n W S ∧ RowAt g 73 p ∧ ∃ b', BestE g S b' ∧ Vd W n D b' ∧ b'.length ≤ 5 ∧ cdF 5 b' < cdF 5 p + (j + 1) * 6 ^ m ∧ (∀ b, B = some b → Gd S b' b) ∧ Gd S b' p ∧ ∀ t q, t < j + 1 → Vd W n D (p ++ t :: q) → Gd S b' (p ++ t :: q)) ?_ (Nat.zero_le _) ⟨1, _, rfl, rfl, K0, Eg, Rg, b1, Bg, Vb, lb, by have := Nat.pow_pos (n := m) (show 0 < 6 by omega); omega, gb, gp, fun t q ht v => absurd (v.2.1 t (List.mem_append_right _ List.mem_cons_self)) (by omega)⟩
    clear K0 Lg Eg Rg Bg Vb lb cb gb gp
    rintro j _ g hj ⟨z, u7, rfl, hz, K, Eg, Rg, b1, Bg, Vb, lb, cb, gb, gp, gt⟩ ih
    have Lg := L.keep K
    have hg : (g.1 70 0).toInt = (n : Int) := Eg.1.1
    have oz := ofN hz (by omega)
    have e6 : (j + 1 + 1) * 6 ^ m = (j + 1) * 6 ^ m + 6 ^ m := by rw [Nat.add_mul (j + 1) 1]; omega
    refine w_Ways_earnOn_46 Lg (fun c => ?_) (fun c => ?_)
    · rw [hg, hz] at c
      refine w_Ways_earnOn_124 ?_
      have jn : j = n - 1 := by omega
      refine ⟨rfl, K, Eg, Rg, b1, Bg, Vb, lb, ?_, gb, fun q v => ?_⟩
      · have : (j + 1) * 6 ^ m ≤ 6 * 6 ^ m := Nat.mul_le_mul_right _ (by omega)
        rw [Nat.pow_succ]
        omega
      · cases q with
        | nil => rw [List.append_nil]; exact gp
        | cons t q => exact gt t q (by have := v.2.1 t (List.mem_append_right _ List.mem_cons_self); omega) v
    · rw [hg, hz] at c
      have tn : j + 1 < n := by omega
      have w1 := wl (lstF 0 p) (j + 1)
      have tw := t_nat (n := W (lstF 0 p) (j + 1)) (by omega)
      have skip : (∀ q, ¬ Vd W n D (p ++ (j + 1) :: q)) → ∀ u, Wb rod (d + m + 2) B_Ways_earnOn 118 [some (.inr (.inr (.inl (some 70)))), some (.inl x1), some (.inl x2), some (.inl x3), some (.inl x4), some (.inl x5), some (.inl z), u] [] g (fun r h' => r = none ∧ Keep h h' ∧ EnvE h' n W S ∧ RowAt h' 73 p ∧ ∃ b', BestE h' S b' ∧ Vd W n D b' ∧ b'.length ≤ 5 ∧ cdF 5 b' < cdF 5 p + 6 ^ (m + 1) ∧ (∀ b, B = some b → Gd S b' b) ∧ ∀ q, Vd W n D (p ++ q) → Gd S b' (p ++ q)) := by
        intro no u
        refine w_Ways_earnOn_118 rfl ?_
        refine ih (by omega) _ _ ⟨_, _, rfl, t_succ hz (by omega), K, Eg, Rg, b1, Bg, Vb, lb, by rw [e6, ← Nat.add_assoc]; exact Nat.lt_of_lt_of_le cb (Nat.le_add_right _ _), gb, gp, fun t q ht v => ?_⟩
        by_cases w : t = j + 1
        · subst w; exact absurd v (no q)
        · exact gt t q (by omega) v
      refine w_Ways_earnOn_55 Lg (Tc.wc (c_btw Eg.1 Lg n6 x2 z h2 hz hl tn)) (Is.k ?_)
      have bt := bit_of hM.1 (show j + 1 < 6 by omega)
      refine w_Ways_earnOn_62 (fun q => ?_) (fun q => ?_)
      · rw [h3, oz, bt.1] at q
        have mem : j + 1 ∈ p := by
          have tb : M.testBit (j + 1) = true := by
            cases hb : M.testBit (j + 1) with
            | true => rfl
            | false => rw [hb] at q; exact absurd rfl q
          rcases (hM.2 (j + 1) (by omega)).mp tb with w | w
          · omega
          · exact w
        refine skip (fun r v => ?_) _
        exact (List.nodup_append.mp v.1).2.2 _ mem _ List.mem_cons_self rfl
      · have q0 : ¬ (M.testBit (j + 1) = true) := fun tb => by
          first
          | (have q2 := Decidable.not_not.mp q
             rw [h3, oz, bt.1, tb] at q2
             exact absurd q2 (by decide))
          | (rw [h3, oz, bt.1, tb] at q
             exact absurd q (by decide))
        have nm : ¬ (j + 1 ∈ p) := fun w => q0 ((hM.2 (j + 1) (by omega)).mpr (Or.inr w))
        refine w_Ways_earnOn_73 (fun w => ?_) (fun w => ?_)
        · rw [tw] at w
          refine skip (fun r v => ?_) _
          have := v.2.2
          rw [dsF_app, dsF] at this
          omega
        · rw [tw] at w
          have Vn : Vd W n D (p ++ [j + 1]) := by
            refine ⟨List.nodup_append.mpr ⟨V.1, by simp, fun u hu v hv => ?_⟩, fun u hu => ?_, ?_⟩
            · simp only [List.mem_singleton] at hv
              subst hv
              exact fun e => nm (e ▸ hu)
            · rcases List.mem_append.mp hu with y | y
              · exact V.2.1 u y
              · simp only [List.mem_singleton] at y
                omega
            · rw [dsF_app, dsF, dsF]
              omega
          refine w_Ways_earnOn_80 Lg (by omega) ?_
          rw [n_eq h1]
          have Lr : Lay (sI g 73 p.length z).2 := Lg
          have Er : EnvE (sI g 73 p.length z) n W S := Eg.kp (sI_nc (by omega)) (sI_cell (by omega)) (sI_cell (by omega))
          have Rr : RowAt (sI g 73 p.length z) 73 (p ++ [j + 1]) := by
            intro i t hi
            by_cases y : i < p.length
            · rw [List.getElem?_append_left y] at hi
              rw [sI_nj (by omega)]
              exact Rg i t hi
            · have il : i < (p ++ [j + 1]).length := (List.getElem?_eq_some_iff.mp hi).1
              rw [List.length_append, List.length_singleton] at il
              have ie : i = p.length := by omega
              subst ie
              rw [List.getElem?_append_right (Nat.le_refl _), Nat.sub_self] at hi
              cases hi
              rw [sI_same]
              exact oz
          have Br : BestE (sI g 73 p.length z) S b1 := ⟨by rw [sI_nc (by omega)]; exact Bg.1, by rw [sI_nc (by omega)]; exact Bg.2.1, fun i t hi => by rw [sI_nc (by omega)]; exact Bg.2.2 i t hi⟩
          have sz : (sI g 73 p.length z).1 72 z.toNatClampNeg = Int32.ofNat (S (j + 1)) := by rw [sI_nc (by omega), n_eq hz]; exact Eg.2 (j + 1) tn
          have st := hs (j + 1)
          refine w_Ways_earnOn_88 Lr (by omega) (ihm (p ++ [j + 1]) (sI g 73 p.length z) _ _ _ _ _ (M ||| 2 ^ (j + 1)) (some b1) (by rw [List.length_append, List.length_singleton]; omega) Lr Er Rr Vn (by rw [List.length_append, List.length_singleton]; exact t_succ h1 (by omega)) (by rw [lstF_app]; exact hz) (by rw [h3, oz]; exact bt.2.1) ((hM.add (show j + 1 < 6 by omega)).ext (fun u _ => by simp only [List.mem_append, List.mem_singleton]; exact ⟨fun y => by rcases y with (y | y) | y; exact Or.inl y; exact Or.inr (Or.inl y); exact Or.inr (Or.inr y), fun y => by rcases y with y | y | y; exact Or.inl (Or.inl y); exact Or.inl (Or.inr y); exact Or.inr y⟩)) (by rw [i32_sub (by rw [tw]; omega) (by rw [tw]; omega), tw, h4, dsF_app, dsF, dsF]; omega) (by rw [sz, h5]; refine ofN ?_ ?_; (rw [smF_app, smF, smF]; exact (n_add (t_nat (by omega)) (t_nat (by omega)) (by omega)).trans (by omega)); (rw [smF_app, smF, smF]; omega)) ⟨Br, Vb, by rw [cdF_one pl, em]; omega, lb⟩) ?_
          rintro _ f ⟨rfl, Kf, Ef, Rf, b2, Bf, V2, l2, kc2, g2, g3⟩
          rw [cdF_one pl, em] at kc2
          refine w_Ways_earnOn_118 rfl ?_
          have gg := g2 b1 rfl
          refine ih (by omega) _ _ ⟨_, _, rfl, t_succ hz (by omega), (K.trans (Keep.rfl.si (scrI 73 (by omega)))).trans Kf, Ef, fun i t hi => Rf i t (by rw [List.getElem?_append_left (List.getElem?_eq_some_iff.mp hi).1]; exact hi), b2, Bf, V2, l2, by rw [e6, ← Nat.add_assoc]; exact kc2, fun b q => gg.trans (gb b q), gg.trans gp, fun t q ht v => ?_⟩
          by_cases y : t = j + 1
          · subst y
            have := g3 q (by rw [List.append_assoc]; exact v)
            rw [List.append_assoc] at this
            exact this
          · exact gg.trans (gt t q (by omega) v)
end M73
