/-! THE CLASS'S ROUND -/
section M78
variable {rod : Nat → Nat × (Nat → Int32)} {d : Nat} {h : MH} {a n : Nat} {W V : Nat → Nat → Nat} {P : Nat → Prop}
theorem bit_chk2 : (List.range 64).all (fun m => ((m == 0) == (List.range 6).all (fun t => !m.testBit t)) && (List.range 6).all (fun t => decide (Int32.ofNat m &&& (((1 : Int32) <<< (Int32.ofNat t &&& 31)) ^^^ (-1)) = Int32.ofNat (m &&& (63 ^^^ 2 ^ t))) && decide (m &&& (63 ^^^ 2 ^ t) < 64) && (List.range 6).all (fun u => (m &&& (63 ^^^ 2 ^ t)).testBit u == (m.testBit u && !(u == t))))) = true := by decide +kernel
theorem Msk.del {m t : Nat} (k : Msk m P) (ht : t < 6) : Int32.ofNat m &&& (((1 : Int32) <<< (Int32.ofNat t &&& 31)) ^^^ (-1)) = Int32.ofNat (m &&& (63 ^^^ 2 ^ t)) ∧ Msk (m &&& (63 ^^^ 2 ^ t)) (fun u => P u ∧ u ≠ t) := by
  have z := List.all_eq_true.mp bit_chk2 m (List.mem_range.mpr k.1)
  rw [Bool.and_eq_true] at z
  have y := List.all_eq_true.mp z.2 t (List.mem_range.mpr ht)
  simp only [Bool.and_eq_true, decide_eq_true_eq] at y
  refine ⟨y.1.1, y.1.2, fun u hu => ?_⟩
  have x := beq_iff_eq.mp (List.all_eq_true.mp y.2 u (List.mem_range.mpr hu))
  rw [x, Bool.and_eq_true, k.2 u hu]
  simp
theorem Msk.zero {m : Nat} (k : Msk m P) : m = 0 ↔ ∀ t, t < 6 → ¬ P t := by
  have z := List.all_eq_true.mp bit_chk2 m (List.mem_range.mpr k.1)
  rw [Bool.and_eq_true] at z
  have y := beq_iff_eq.mp z.1
  constructor
  · intro e t ht p
    have tb := (k.2 t ht).mpr p
    rw [e] at tb
    simp at tb
  · intro q
    have : (List.range 6).all (fun t => !m.testBit t) = true := List.all_eq_true.mpr (fun t ht => by
      have t6 := List.mem_range.mp ht
      cases hb : m.testBit t with
      | true => exact absurd ((k.2 t t6).mp hb) (q t t6)
      | false => rfl)
    rw [this] at y
    exact beq_iff_eq.mp y
/-- a round: all towns that are due, each once -/
def Rv (W : Nat → Nat → Nat) (P : Nat → Prop) (r : List Nat) : Prop := r.Nodup ∧ (∀ t ∈ r, P t) ∧ (∀ t, P t → t ∈ r) ∧ dsF W 0 r < 1000
def Gr (W : Nat → Nat → Nat) (b r : List Nat) : Prop := dsF W 0 b < dsF W 0 r ∨ (dsF W 0 b = dsF W 0 r ∧ cdF 5 b ≤ cdF 5 r)
theorem Gr.rfl {b : List Nat} : Gr W b b := Or.inr ⟨Eq.refl _, Nat.le_refl _⟩
theorem Gr.trans {x y z : List Nat} (p : Gr W x y) (q : Gr W y z) : Gr W x z := by
  unfold Gr at *
  omega
def BestR (h : MH) (W : Nat → Nat → Nat) (b : List Nat) : Prop := h.1 70 5 = Int32.ofNat (dsF W 0 b) ∧ h.1 70 7 = Int32.ofNat b.length ∧ RowAt h 74 b
def BeR (h : MH) (W : Nat → Nat → Nat) (B : Option (List Nat)) : Prop := match B with
  | none => h.1 70 5 = 1000
  | some b => BestR h W b
theorem dsF_le (wl : ∀ f t, W f t ≤ 1000) : ∀ (p : List Nat) (a : Nat), dsF W a p ≤ 1000 * p.length := by
  intro p
  induction p with
  | nil => intro a; simp [dsF]
  | cons t p ih =>
    intro a
    have x := wl a t
    have y := ih t
    simp only [dsF, List.length_cons]
    omega
theorem cdF_ge {p q : List Nat} (p5 : p.length ≤ 5) : cdF 5 p ≤ cdF 5 (p ++ q) := by
  rw [cdF_app p q 5 p5]
  exact Nat.le_add_right _ _
theorem dsF_ge {p q : List Nat} : dsF W 0 p ≤ dsF W 0 (p ++ q) := by
  rw [dsF_app]
  exact Nat.le_add_right _ _
/-- the first part: is it too long, is it whole -/
theorem round_first {m M : Nat} {u5 : Option MV} {p : List Nat} {B : Option (List Nat)} (wl : ∀ f t, W f t ≤ 1000) (hP : ∀ t, P t → 1 ≤ t ∧ t < 6) (p5 : p.length ≤ 5) (L : Lay h.2) (T : TabC h n W) (R : RowAt h 73 p) (nd : p.Nodup) (pP : ∀ t ∈ p, P t) {x1 x2 x3 x4 : Int32} (h1 : x1.toInt = (p.length : Int)) (h3 : x3 = Int32.ofNat M) (hM : Msk M (fun t => P t ∧ ¬ t ∈ p)) (h4 : x4.toInt = (dsF W 0 p : Int)) (hB : BeR h W B) (hv : ∀ b, B = some b → Rv W P b ∧ cdF 5 b < cdF 5 p)
    (K : ∀ g B1, Keep h g → Lay g.2 → TabC g n W → RowAt g 73 p → BeR g W B1 → (∀ b, B1 = some b → Rv W P b ∧ cdF 5 b ≤ cdF 5 p) → (∀ b, B = some b → ∃ b', B1 = some b' ∧ Gr W b' b) → (Rv W P p → ∃ b', B1 = some b' ∧ Gr W b' p) → Wb rod (d + 1) B_Ways_goRoundOn 25 [some (.inr (.inr (.inl (some 70)))), some (.inl x1), some (.inl x2), some (.inl x3), some (.inl x4), u5] [] g (fun r h' => r = none ∧ Keep h h' ∧ TabC h' n W ∧ RowAt h' 73 p ∧ ∃ B', BeR h' W B' ∧ (∀ b, B' = some b → Rv W P b ∧ cdF 5 b < cdF 5 p + 6 ^ m) ∧ (∀ b, B = some b → ∃ b', B' = some b' ∧ Gr W b' b) ∧ ∀ q, Rv W P (p ++ q) → ∃ b', B' = some b' ∧ Gr W b' (p ++ q))) : Wb rod (d + 1) B_Ways_goRoundOn 0 [some (.inr (.inr (.inl (some 70)))), some (.inl x1), some (.inl x2), some (.inl x3), some (.inl x4), u5] [] h (fun r h' => r = none ∧ Keep h h' ∧ TabC h' n W ∧ RowAt h' 73 p ∧ ∃ B', BeR h' W B' ∧ (∀ b, B' = some b → Rv W P b ∧ cdF 5 b < cdF 5 p + 6 ^ m) ∧ (∀ b, B = some b → ∃ b', B' = some b' ∧ Gr W b' b) ∧ ∀ q, Rv W P (p ++ q) → ∃ b', B' = some b' ∧ Gr W b' (p ++ q)) := by
  have dl := dsF_le wl p 0
  have pw := Nat.pow_pos (n := m) (show 0 < 6 by omega)
  have bv : ∀ b, B = some b → (h.1 70 5).toInt = (dsF W 0 b : Int) := fun b e => by
    have v := (hv b e).1.2.2.2
    rw [e] at hB
    rw [hB.1]
    exact t_nat (by omega)
  refine w_Ways_goRoundOn_0 L (fun c => ?_) (fun c => ?_)
  · refine w_Ways_goRoundOn_10 (fun q => ?_) (fun q => ?_)
    · refine K h B Keep.rfl L T R hB (fun b e => ⟨(hv b e).1, by have := (hv b e).2; omega⟩) (fun b e => ⟨b, e, Gr.rfl⟩) (fun v => ?_)
      exfalso
      apply q
      have m0 : M = 0 := hM.zero.mpr (fun t _ z => z.2 (v.2.2.1 t z.1))
      rw [h3, m0]
      rfl
    · have m0 : M = 0 := by
        have e0 : (Int32.ofNat M).toInt = 0 := by rw [← h3]; first | exact q | exact Decidable.not_not.mp q
        rw [t_nat (by have := hM.1; omega)] at e0
        omega
      have all := hM.zero.mp m0
      have short : dsF W 0 p < 1000 ∧ ∀ b, B = some b → dsF W 0 p < dsF W 0 b := by
        rw [h4] at c
        cases hb : B with
        | none =>
          rw [hb] at hB
          rw [show h.1 70 5 = 1000 from hB] at c
          have c' : (dsF W 0 p : Int) < 1000 := c
          exact ⟨by omega, fun b e => nomatch e⟩
        | some b =>
          have := bv b hb
          have v := (hv b hb).1.2.2.2
          exact ⟨by omega, fun b' e => by cases e; omega⟩
      have vp : Rv W P p := ⟨nd, pP, fun t pt => by
        by_cases w : t ∈ p
        · exact w
        · exact absurd ⟨pt, w⟩ (all t (hP t pt).2), short.1⟩
      refine w_Ways_goRoundOn_14 L ?_
      refine w_Ways_goRoundOn_20 L (c_keep (h := sI h 70 5 x4) L x1 h1 p5) ?_
      rintro _ g ⟨rfl, k1, k2, k3, k4, k5⟩
      have K0 : Keep h g := (Keep.rfl.si (scrI 70 (by omega))).trans k1
      refine K g (some p) K0 (L.keep K0) ⟨by rw [k5 0 (by omega), sI_nj (by omega)]; exact T.1, fun f t hf ht => by rw [k4 71 (by omega) (by omega), sI_nc (by omega)]; exact T.2 f t hf ht⟩ (fun i t hi => by rw [k4 73 (by omega) (by omega), sI_nc (by omega)]; exact R i t hi) ⟨by rw [k5 5 (by omega), sI_same]; exact ofN h4 (by omega), by rw [k2]; exact ofN h1 (by omega), fun i t hi => ?_⟩ (fun b e => by cases e; exact ⟨vp, Nat.le_refl _⟩) (fun b e => ⟨p, rfl, Or.inl (short.2 b e)⟩) (fun _ => ⟨p, rfl, Gr.rfl⟩)
      rw [k3 i (List.getElem?_eq_some_iff.mp hi).1, sI_nc (by omega)]
      exact R i t hi
  · refine w_Ways_goRoundOn_9 ?_
    refine ⟨rfl, Keep.rfl, T, R, B, hB, fun b e => ⟨(hv b e).1, by have := (hv b e).2; omega⟩, fun b e => ⟨b, e, Gr.rfl⟩, fun q v => ?_⟩
    have dq := dsF_ge (W := W) (p := p) (q := q)
    have cq := cdF_ge (q := q) p5
    rw [h4] at c
    cases hb : B with
    | none =>
      rw [hb] at hB
      rw [show h.1 70 5 = 1000 from hB] at c
      have c' : ¬ (dsF W 0 p : Int) < 1000 := c
      have := v.2.2.2
      omega
    | some b =>
      have := bv b hb
      have := (hv b hb).2
      refine ⟨b, rfl, ?_⟩
      unfold Gr
      omega
theorem c_roundOn (n6 : n ≤ 6) (n1 : 1 ≤ n) (wl : ∀ f t, W f t ≤ 1000) (hP : ∀ t, P t → 1 ≤ t ∧ t < n) : ∀ (m : Nat) (p : List Nat) (h : MH) (x1 x2 x3 x4 : Int32) (M : Nat) (B : Option (List Nat)), p.length + m = 5 → Lay h.2 → TabC h n W → RowAt h 73 p → p.Nodup → (∀ t ∈ p, P t) → x1.toInt = (p.length : Int) → x2.toInt = (lstF 0 p : Int) → x3 = Int32.ofNat M → Msk M (fun t => P t ∧ ¬ t ∈ p) → x4.toInt = (dsF W 0 p : Int) → BeR h W B → (∀ b, B = some b → Rv W P b ∧ cdF 5 b < cdF 5 p) → Wc rod (d + m + 2) 156 [.inr (.inr (.inl (some 70))), .inl x1, .inl x2, .inl x3, .inl x4] h (fun r h' => r = none ∧ Keep h h' ∧ TabC h' n W ∧ RowAt h' 73 p ∧ ∃ B', BeR h' W B' ∧ (∀ b, B' = some b → Rv W P b ∧ cdF 5 b < cdF 5 p + 6 ^ m) ∧ (∀ b, B = some b → ∃ b', B' = some b' ∧ Gr W b' b) ∧ ∀ q, Rv W P (p ++ q) → ∃ b', B' = some b' ∧ Gr W b' (p ++ q)) := by
  intro m
  induction m with
  | zero =>
    intro p h x1 x2 x3 x4 M B hp L T R nd pP h1 h2 h3 hM h4 hB hv
    refine n_Ways_goRoundOn ?_
    refine round_first wl (fun t pt => by have := hP t pt; omega) (by omega) L T R nd pP h1 h3 hM h4 hB hv ?_
    intro g B1 K Lg Tg Rg Bg bv gb gp
    refine w_Ways_goRoundOn_25 (fun c => absurd c (by show ¬ _ < (5 : Int); omega)) (fun _ => ?_)
    refine w_Ways_goRoundOn_30 ?_
    refine ⟨rfl, K, Tg, Rg, B1, Bg, fun b e => ⟨(bv b e).1, by have := (bv b e).2; omega⟩, gb, fun q v => ?_⟩
    have l := nd_len (n - 1) (p ++ q) v.1 (fun t ht => by have := hP t (v.2.1 t ht); omega)
    rw [List.length_append] at l
    have : q = [] := List.length_eq_zero_iff.mp (by omega)
    rw [this, List.append_nil] at v ⊢
    exact gp v
  | succ m ihm =>
    intro p h x1 x2 x3 x4 M B hp L T R nd pP h1 h2 h3 hM h4 hB hv
    have pl : p.length ≤ 4 := by omega
    have hl := lstF_lt (n := n) p 0 (by omega) (fun t ht => (hP t (pP t ht)).2)
    have dl := dsF_le wl p 0
    have em : 4 - p.length = m := by omega
    refine n_Ways_goRoundOn ?_
    refine round_first wl (fun t pt => by have := hP t pt; omega) (by omega) L T R nd pP h1 h3 hM h4 hB hv ?_
    intro g0 B1 K0 Lg Tg Rg Bg bv gb gp
    refine w_Ways_goRoundOn_25 (fun _ => ?_) (fun c => absurd (show x1.toInt < (5 : Int) by omega) c)
    refine w_Ways_goRoundOn_31 rfl ?_
    refine Wb.uph (n - 1) (fun j L' g => ∃ (z : Int32), L' = [some (.inr (.inr (.inl (some 70)))), some (.inl x1), some (.inl x2), some (.inl x3), some (.inl x4), some (.inl z)] ∧ z.toInt = ((j + 1 : Nat) : Int) ∧ Keep h g ∧ TabC g n W ∧ RowAt g 73 p ∧ ∃ B', BeR g W B' ∧ (∀ b, B' = some b → Rv W P b ∧ cdF 5 b < cdF 5 p + (j + 1) * 6 ^ m) ∧ (∀ b, B = some b → ∃ b', B' = some b' ∧ Gr W b' b) ∧ (Rv W P p → ∃ b', B' = some b' ∧ Gr W b' p) ∧ ∀ t q, t < j + 1 → Rv W P (p ++ t :: q) → ∃ b', B' = some b' ∧ Gr W b' (p ++ t :: q)) ?_ (Nat.zero_le _) ⟨1, rfl, rfl, K0, Tg, Rg, B1, Bg, fun b e => ⟨(bv b e).1, by have := (bv b e).2; have := Nat.pow_pos (n := m) (show 0 < 6 by omega); omega⟩, gb, gp, fun t q ht v => absurd (hP t (v.2.1 t (List.mem_append_right _ List.mem_cons_self))) (by omega)⟩
    clear K0 Lg Tg Rg Bg bv gb gp
    rintro j _ g hj ⟨z, rfl, hz, K, Tg, Rg, B1, Bg, bv, gb, gp, gt⟩ ih
    have Lg := L.keep K
    have hg : (g.1 70 0).toInt = (n : Int) := Tg.1
    have oz := ofN hz (by omega)
    have e6 : (j + 1 + 1) * 6 ^ m = (j + 1) * 6 ^ m + 6 ^ m := by rw [Nat.add_mul (j + 1) 1]; omega
    refine w_Ways_goRoundOn_34 Lg (fun c => ?_) (fun c => ?_)
    · rw [hg, hz] at c
      refine w_Ways_goRoundOn_93 ?_
      refine ⟨rfl, K, Tg, Rg, B1, Bg, fun b e => ⟨(bv b e).1, ?_⟩, gb, fun q v => ?_⟩
      · have x := (bv b e).2
        have y : (j + 1) * 6 ^ m ≤ 6 * 6 ^ m := Nat.mul_le_mul_right _ (by omega)
        rw [Nat.pow_succ, Nat.mul_comm (6 ^ m) 6]
        exact Nat.lt_of_lt_of_le x (Nat.add_le_add_left y _)
      · cases q with
        | nil => rw [List.append_nil] at v ⊢; exact gp v
        | cons t q => exact gt t q (by have := hP t (v.2.1 t (List.mem_append_right _ List.mem_cons_self)); omega) v
    · rw [hg, hz] at c
      have tn : j + 1 < n := by omega
      have w1 := wl (lstF 0 p) (j + 1)
      have tw := t_nat (n := W (lstF 0 p) (j + 1)) (by omega)
      have bt := bit_of hM.1 (show j + 1 < 6 by omega)
      refine w_Ways_goRoundOn_43 (fun q => ?_) (fun q => ?_)
      · rw [h3, oz, bt.1] at q
        have tb : ¬ (P (j + 1) ∧ ¬ (j + 1 ∈ p)) := fun w => by
          rw [(hM.2 (j + 1) (by omega)).mpr w] at q
          exact absurd q (by decide)
        refine w_Ways_goRoundOn_87 rfl ?_
        refine ih (by omega) _ _ ⟨_, rfl, t_succ hz (by omega), K, Tg, Rg, B1, Bg, fun b e => ⟨(bv b e).1, by rw [e6, ← Nat.add_assoc]; exact Nat.lt_of_lt_of_le (bv b e).2 (Nat.le_add_right _ _)⟩, gb, gp, fun t q ht v => ?_⟩
        by_cases w : t = j + 1
        · subst w
          exfalso
          exact tb ⟨v.2.1 _ (List.mem_append_right _ List.mem_cons_self), fun y => (List.nodup_append.mp v.1).2.2 _ y _ List.mem_cons_self rfl⟩
        · exact gt t q (by omega) v
      · have tb : P (j + 1) ∧ ¬ (j + 1 ∈ p) := by
          refine (hM.2 (j + 1) (by omega)).mp ?_
          cases hb : M.testBit (j + 1) with
          | true => rfl
          | false =>
            exfalso
            rw [h3, oz, bt.1, hb] at q
            exact q rfl
        have ndn : (p ++ [j + 1]).Nodup := List.nodup_append.mpr ⟨nd, by simp, fun u hu v hv => by
          simp only [List.mem_singleton] at hv
          subst hv
          exact fun e => tb.2 (e ▸ hu)⟩
        have pPn : ∀ u ∈ p ++ [j + 1], P u := fun u hu => by
          rcases List.mem_append.mp hu with y | y
          · exact pP u y
          · simp only [List.mem_singleton] at y
            rw [y]
            exact tb.1
        refine w_Ways_goRoundOn_52 Lg (by omega) ?_
        rw [n_eq h1]
        have Lr : Lay (sI g 73 p.length z).2 := Lg
        have Tr : TabC (sI g 73 p.length z) n W := ⟨by rw [sI_nc (by omega)]; exact Tg.1, fun f u hf hu => by rw [sI_nc (by omega)]; exact Tg.2 f u hf hu⟩
        have Rr : RowAt (sI g 73 p.length z) 73 (p ++ [j + 1]) := by
          intro i t hi
          by_cases y : i < p.length
          · rw [List.getElem?_append_left y] at hi
            rw [sI_nj (by omega)]
            exact Rg i t hi
          · have il : i < (p ++ [j + 1]).length := (List.getElem?_eq_some_iff.mp hi).1
            rw [List.length_append, List.length_singleton] at il
            have ie : i = p.length := by omega
            subst ie
            rw [List.getElem?_append_right (Nat.le_refl _), Nat.sub_self] at hi
            cases hi
            rw [sI_same]
            exact oz
        have Br : BeR (sI g 73 p.length z) W B1 := by
          cases hb : B1 with
          | none => rw [hb] at Bg; show (sI g 73 p.length z).1 70 5 = 1000; rw [sI_nc (by omega)]; exact Bg
          | some b => rw [hb] at Bg; exact ⟨by rw [sI_nc (by omega)]; exact Bg.1, by rw [sI_nc (by omega)]; exact Bg.2.1, fun i t hi => by rw [sI_nc (by omega)]; exact Bg.2.2 i t hi⟩
        have dm := hM.del (show j + 1 < 6 by omega)
        refine w_Ways_goRoundOn_60 Lr (Tc.wc (c_btw Tr Lr n6 x2 z h2 hz hl tn)) (Is.k ?_)
        refine w_Ways_goRoundOn_83 Lr (ihm (p ++ [j + 1]) (sI g 73 p.length z) _ _ _ _ (M &&& (63 ^^^ 2 ^ (j + 1))) B1 (by rw [List.length_append, List.length_singleton]; omega) Lr Tr Rr ndn pPn (by rw [List.length_append, List.length_singleton]; exact t_succ h1 (by omega)) (by rw [lstF_app]; exact hz) (by rw [h3, oz]; exact dm.1) (dm.2.ext (fun u _ => by simp only [List.mem_append, List.mem_singleton, not_or]; exact ⟨fun y => ⟨y.1.1, y.1.2, y.2⟩, fun y => ⟨⟨y.1, y.2.1⟩, y.2.2⟩⟩)) (by rw [dsF_app, dsF, dsF]; exact (n_add h4 tw (by omega)).trans (by omega)) Br (fun b e => ⟨(bv b e).1, by rw [cdF_one pl, em]; exact (bv b e).2⟩)) ?_
        rintro _ f ⟨rfl, Kf, Tf, Rf, B2, Bf, b2, g2, g3⟩
        refine w_Ways_goRoundOn_87 rfl ?_
        have gg : ∀ b, B1 = some b → ∃ b', B2 = some b' ∧ Gr W b' b := g2
        have up : ∀ r, (∃ b, B1 = some b ∧ Gr W b r) → ∃ b', B2 = some b' ∧ Gr W b' r := fun r ⟨b, e, y⟩ => by
          obtain ⟨b', e', y'⟩ := gg b e
          exact ⟨b', e', y'.trans y⟩
        refine ih (by omega) _ _ ⟨_, rfl, t_succ hz (by omega), (K.trans (Keep.rfl.si (scrI 73 (by omega)))).trans Kf, Tf, fun i t hi => Rf i t (by rw [List.getElem?_append_left (List.getElem?_eq_some_iff.mp hi).1]; exact hi), B2, Bf, fun b e => ⟨(b2 b e).1, ?_⟩, fun b e => up b (gb b e), fun v => up p (gp v), fun t q ht v => ?_⟩
        · have x := (b2 b e).2
          rw [cdF_one pl, em] at x
          rw [e6, ← Nat.add_assoc]
          exact x
        · by_cases y : t = j + 1
          · subst y
            have x := g3 q (by rw [List.append_assoc]; exact v)
            rw [List.append_assoc] at x
            exact x
          · exact up _ (gt t q (by omega) v)
end M78
