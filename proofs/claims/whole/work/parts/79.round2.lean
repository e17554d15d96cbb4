/-! THE ROUND: the class whole, the reference -/
section M79
variable {rod : Nat → Nat × (Nat → Int32)} {d : Nat} {h : MH} {a l n N : Nat} {W V : Nat → Nat → Nat} {P : Nat → Prop}
/-- the towns that are due -/
def DueF (W : Nat → Nat → Nat) (n t : Nat) : Prop := 1 ≤ t ∧ t < n ∧ W 0 t < 1000
/-- the best of rounds, if there is one -/
def BsR (W : Nat → Nat → Nat) (P : Nat → Prop) (B : Option (List Nat)) : Prop := (∀ b, B = some b → Rv W P b) ∧ ∀ q, Rv W P q → ∃ b, B = some b ∧ Gr W b q
theorem sub_len : ∀ (l m : List Nat), l.Nodup → (∀ t ∈ l, t ∈ m) → l.length ≤ m.length := by
  intro l
  induction l with
  | nil => intro m _ _; simp
  | cons t l ih =>
    intro m nd sub
    have nd' := List.nodup_cons.mp nd
    have tm := sub t List.mem_cons_self
    have e := List.length_erase_of_mem tm
    have pos : 0 < m.length := List.length_pos_of_mem tm
    have q := ih (m.erase t) nd'.2 (fun u hu => by
      have ne : u ≠ t := fun w => nd'.1 (by rw [← w]; exact hu)
      exact (List.mem_erase_of_ne ne).mpr (sub u (List.mem_cons_of_mem _ hu)))
    simp only [List.length_cons]
    omega
theorem BsR.eq {B C : Option (List Nat)} (n6 : n ≤ 6) (hP : ∀ t, P t → 1 ≤ t ∧ t < n) (x : BsR W P B) (y : BsR W P C) : B = C := by
  cases hb : B with
  | none =>
    cases hc : C with
    | none => rfl
    | some c =>
      obtain ⟨b, e, -⟩ := x.2 c (y.1 c hc)
      rw [hb] at e
      cases e
  | some b =>
    have vb := x.1 b hb
    obtain ⟨c, hc, gc⟩ := y.2 b vb
    have vc := y.1 c hc
    obtain ⟨b', e, gb⟩ := x.2 c vc
    rw [hb] at e
    cases e
    rw [hc]
    have l1 := sub_len b c vb.1 (fun t ht => vc.2.2.1 t (vb.2.1 t ht))
    have l2 := sub_len c b vc.1 (fun t ht => vb.2.2.1 t (vc.2.1 t ht))
    have lb := nd_len (n - 1) b vb.1 (fun t ht => by have := hP t (vb.2.1 t ht); omega)
    unfold Gr at gb gc
    rw [cdF_inj 5 b c (by omega) (by omega) (fun t ht => by have := hP t (vb.2.1 t ht); omega) (fun t ht => by have := hP t (vc.2.1 t ht); omega) (by omega)]
def rndV (W : Nat → Nat → Nat) (F : Nat) (B : Option (List Nat)) : Nat := match B with
  | none => F
  | some b => dsF W 0 b
theorem c_goRound (L : Lay h.2) (A : LandA h.2 a) (ha : a + 9 ≤ 45) (hn : (h.1 a 0).toInt = (n : Int)) (n6 : n ≤ 6) (n1 : 1 ≤ n) (hD : RdOk (ld h a)) : Wc rod (d + 8) 155 [.inr (.inr (.inl (some 70))), .inr (.inr (.inl (some a)))] h (fun r h' => Keep h h' ∧ ∃ B, r = some (.inl (Int32.ofNat (rndV (wayF 1000 (edgF (ld h a) (h.1 a 3)) n) 1000 B))) ∧ BeR h' (wayF 1000 (edgF (ld h a) (h.1 a 3)) n) B ∧ BsR (wayF 1000 (edgF (ld h a) (h.1 a 3)) n) (DueF (wayF 1000 (edgF (ld h a) (h.1 a 3)) n) n) B) := by
  have wl := fun f t => way_le (F := 1000) (E := edgF (ld h a) (h.1 a 3)) (edg_le hD) (by omega) n f t
  refine n_Ways_goRound ?_
  refine w_Ways_goRound_0 A L (c_measure L A ha hn n6 hD (h.1 a 3)) ?_
  rintro _ g ⟨rfl, K, e0, T0⟩
  have T : TabC g n (wayF 1000 (edgF (ld h a) (h.1 a 3)) n) := ⟨by rw [e0]; exact hn, T0⟩
  have Lg := L.keep K
  have hg := T.1
  refine w_Ways_goRound_9 rfl ?_
  refine Wb.upc (n - 1) (fun j L' => ∃ (z : Int32) (M : Nat), L' = [some (.inr (.inr (.inl (some 70)))), some (.inr (.inr (.inl (some a)))), some (.inl (Int32.ofNat M)), some (.inl z)] ∧ z.toInt = ((j + 1 : Nat) : Int) ∧ Msk M (fun t => DueF (wayF 1000 (edgF (ld h a) (h.1 a 3)) n) n t ∧ t < j + 1)) ?_ (Nat.zero_le _) ⟨1, 0, rfl, rfl, by omega, fun t ht => ⟨fun q => by simp at q, fun q => absurd q.1.1 (by omega)⟩⟩
  rintro j _ hj ⟨z, M, rfl, hz, hM⟩ ih
  have oz := ofN hz (by omega)
  refine w_Ways_goRound_13 Lg (fun c => ?_) (fun c => ?_)
  · rw [hg, hz] at c
    refine w_Ways_goRound_45 Lg ?_
    refine w_Ways_goRound_52 Lg ?_
    have Tr : TabC (sI (sI g 70 5 1000) 70 7 0) n (wayF 1000 (edgF (ld h a) (h.1 a 3)) n) := ⟨by rw [sI_nj (by omega), sI_nj (by omega)]; exact T.1, fun f u hf hu => by rw [sI_nc (by omega), sI_nc (by omega)]; exact T.2 f u hf hu⟩
    refine w_Ways_goRound_57 Lg (c_roundOn (d := d) (P := DueF (wayF 1000 (edgF (ld h a) (h.1 a 3)) n) n) n6 n1 wl (fun t q => ⟨q.1, q.2.1⟩) 5 [] _ 0 0 _ 0 M none rfl Lg Tr (fun i t q => by simp at q) List.nodup_nil (fun t q => absurd q (by simp)) rfl rfl rfl (hM.ext (fun t _ => ⟨fun q => ⟨q.1, by simp⟩, fun q => ⟨q.1, by have := q.1.2.1; omega⟩⟩)) rfl (by show (sI (sI g 70 5 1000) 70 7 0).1 70 5 = 1000; rw [sI_nj (by omega), sI_same]) (fun b q => nomatch q)) ?_
    rintro _ f ⟨rfl, Kf, Tf, Rf, B, Bf, vb, -, gq⟩
    have K2 := ((K.si (scrI 70 (by omega))).si (scrI 70 (by omega))).trans Kf
    refine w_Ways_goRound_65 (L.keep K2) ?_
    refine ⟨K2, B, ?_, Bf, fun b e => (vb b e).1, fun q v => gq q v⟩
    cases hb : B with
    | none => rw [hb] at Bf; rw [show f.1 70 5 = 1000 from Bf]; rfl
    | some b => rw [hb] at Bf; rw [Bf.1]; rfl
  · rw [hg, hz] at c
    have w1 := wl 0 (j + 1)
    have bt := bit_of hM.1 (show j + 1 < 6 by omega)
    refine w_Ways_goRound_21 Lg (Tc.wc (c_btw T Lg n6 0 z (f := 0) rfl hz (by omega) (by omega))) (Is.k ?_)
    refine w_Ways_goRound_27 (fun q => ?_) (fun q => ?_)
    · rw [t_nat (by omega)] at q
      have q' : (1000 : Int) ≤ ((wayF 1000 (edgF (ld h a) (h.1 a 3)) n) 0 (j + 1) : Int) := q
      refine w_Ways_goRound_39 rfl ?_
      refine ih (by omega) _ ⟨_, M, rfl, t_succ hz (by omega), hM.ext (fun t _ => ⟨fun y => ⟨y.1, by omega⟩, fun y => ⟨y.1, ?_⟩⟩)⟩
      by_cases w : t = j + 1
      · have := y.1.2.2
        rw [w] at this
        omega
      · have := y.2
        omega
    · rw [t_nat (by omega)] at q
      have q' : ¬ (1000 : Int) ≤ ((wayF 1000 (edgF (ld h a) (h.1 a 3)) n) 0 (j + 1) : Int) := q
      refine w_Ways_goRound_33 rfl ?_
      refine w_Ways_goRound_39 rfl ?_
      rw [oz, bt.2.1, ← oz]
      refine ih (by omega) _ ⟨_, _, rfl, t_succ hz (by omega), (hM.add (show j + 1 < 6 by omega)).ext (fun t _ => ⟨fun y => ?_, fun y => ?_⟩)⟩
      · rcases y with y | y
        · exact ⟨y.1, by omega⟩
        · rw [y]
          exact ⟨⟨by omega, by omega, by omega⟩, by omega⟩
      · by_cases w : t = j + 1
        · exact Or.inr w
        · exact Or.inl ⟨y.1, by have := y.2; omega⟩
/-- no way leads to a town that no road leads to -/
theorem way_none {F : Nat} {E : Nat → Nat → Nat} {t : Nat} (q : ∀ f, E f t = 0) : ∀ k f, f ≠ t → F ≤ wayF F E k f t := by
  intro k
  induction k with
  | zero =>
    intro f hf
    simp only [wayF, W0]
    rw [if_neg hf, if_pos (q f)]
    exact Nat.le_refl _
  | succ k ih =>
    intro f hf
    have x := ih f hf
    simp only [wayF, rdF]
    by_cases w : k = t
    · subst w
      omega
    · have := ih k w
      omega
def dueL (W : Nat → Nat → Nat) : Nat → List Nat
  | 0 => []
  | j + 1 => if W 0 (j + 1) < 1000 then (j + 1) :: dueL W j else dueL W j
theorem dueL_mem : ∀ j t, t ∈ dueL W j ↔ 1 ≤ t ∧ t ≤ j ∧ W 0 t < 1000 := by
  intro j
  induction j with
  | zero => intro t; simp only [dueL, List.not_mem_nil, false_iff]; omega
  | succ j ih =>
    intro t
    simp only [dueL]
    split
    · rename_i c
      rw [List.mem_cons, ih t]
      constructor
      · rintro (q | q)
        · rw [q]; exact ⟨by omega, by omega, c⟩
        · exact ⟨q.1, by omega, q.2.2⟩
      · intro q
        by_cases w : t = j + 1
        · exact Or.inl w
        · exact Or.inr ⟨q.1, by omega, q.2.2⟩
    · rename_i c
      rw [ih t]
      constructor
      · intro q; exact ⟨q.1, by omega, q.2.2⟩
      · intro q
        refine ⟨q.1, ?_, q.2.2⟩
        by_cases w : t = j + 1
        · rw [w] at q; exact absurd q.2.2 c
        · omega
theorem dueL_nd : ∀ j, (dueL W j).Nodup ∧ (dueL W j).length ≤ j := by
  intro j
  induction j with
  | zero => exact ⟨List.nodup_nil, Nat.le_refl _⟩
  | succ j ih =>
    simp only [dueL]
    split
    · refine ⟨List.nodup_cons.mpr ⟨fun q => ?_, ih.1⟩, by simp only [List.length_cons]; omega⟩
      have := (dueL_mem j (j + 1)).mp q
      omega
    · exact ⟨ih.1, by omega⟩
/-- whole rounds are the rows of so many towns that are due -/
theorem due_len {r : List Nat} (nd : r.Nodup) (pP : ∀ t ∈ r, DueF W n t) (n1 : 1 ≤ n) : (∀ t, DueF W n t → t ∈ r) ↔ r.length = (dueL W (n - 1)).length := by
  have dm : ∀ t, t ∈ dueL W (n - 1) ↔ DueF W n t := fun t => by
    rw [dueL_mem]
    unfold DueF
    constructor
    · intro q; exact ⟨q.1, by omega, q.2.2⟩
    · intro q; exact ⟨q.1, by omega, q.2.2⟩
  have l1 := sub_len r (dueL W (n - 1)) nd (fun t ht => (dm t).mpr (pP t ht))
  constructor
  · intro q
    have l2 := sub_len (dueL W (n - 1)) r (dueL_nd _).1 (fun t ht => q t ((dm t).mp ht))
    omega
  · intro e t pt
    by_cases w : t ∈ r
    · exact w
    · have l2 := sub_len (t :: r) (dueL W (n - 1)) (List.nodup_cons.mpr ⟨w, nd⟩) (fun u hu => by
        rcases List.mem_cons.mp hu with y | y
        · rw [y]; exact (dm t).mpr pt
        · exact (dm u).mpr (pP u y))
      simp only [List.length_cons] at l2
      omega
theorem dsF_rel2 (w : ∀ f t, f < n → t < n → (W f t = V f t ∧ W f t ≤ 45) ∨ (W f t = 1000 ∧ V f t = 9999)) : ∀ (r : List Nat) (a : Nat), a < n → (∀ t ∈ r, t < n) → (dsF W a r = dsF V a r ∧ dsF W a r ≤ 45 * r.length) ∨ (1000 ≤ dsF W a r ∧ 9999 ≤ dsF V a r) := by
  intro r
  induction r with
  | nil => intro a _ _; exact Or.inl ⟨rfl, by simp [dsF]⟩
  | cons t r ih =>
    intro a ha h
    have ht := h t List.mem_cons_self
    have q := ih t ht (fun u hu => h u (List.mem_cons_of_mem _ hu))
    have z := w a t ha ht
    simp only [dsF, List.length_cons]
    omega
theorem r_roundBy (L : Lay h.2) {s : Int32} (TM : TabM h n s V) (n6 : n ≤ 6) (n1 : 1 ≤ n) (wl : ∀ f t, V f t ≤ 9999) {M : Nat} (e33 : h.1 84 33 = Int32.ofNat M) (hM : Msk M P) {r : List Nat} (R : RowAt h 93 r) (r5 : r.length ≤ 5) (hr : ∀ t ∈ r, 1 ≤ t ∧ t < n) (xn : Int32) (hn : xn.toInt = (r.length : Int)) : Wc rod (d + 2) 258 [.inr (.inr (.inl (some 84))), .inl xn] h (fun v h' => h' = h ∧ (((∀ t ∈ r, P t) ∧ v = some (.inl (Int32.ofNat (min (dsF V 0 r) 9999)))) ∨ (¬ (∀ t ∈ r, P t) ∧ v = some (.inl 9999)))) := by
  refine n_Model_roundBy ?_
  refine w_Model_roundBy_0 rfl ?_
  refine Wb.upc r.length (fun k L' => ∃ (z x2 x3 : Int32), L' = [some (.inr (.inr (.inl (some 84)))), some (.inl xn), some (.inl x2), some (.inl x3), some (.inl z)] ∧ z.toInt = (k : Int) ∧ x2 = Int32.ofNat (min (dsF V 0 (r.take k)) 9999) ∧ x3.toInt = (lstF 0 (r.take k) : Int) ∧ ∀ t ∈ r.take k, P t) ?_ (Nat.zero_le _) ⟨0, 0, 0, rfl, rfl, rfl, rfl, fun t q => absurd q (by simp)⟩
  rintro k _ hk ⟨z, x2, x3, rfl, hz, e2, h3, hp⟩ ih
  have ez := n_eq hz
  refine w_Model_roundBy_7 (fun c => ?_) (fun c => ?_)
  · have kn : k = r.length := by omega
    subst kn
    rw [List.take_length] at e2 hp
    refine w_Model_roundBy_74 ?_
    exact ⟨rfl, Or.inl ⟨hp, by rw [e2]⟩⟩
  · have kl : k < r.length := by omega
    obtain ⟨t, ht0⟩ : ∃ t, r[k]? = some t := ⟨r[k], List.getElem?_eq_getElem kl⟩
    have tm : t ∈ r := List.mem_of_getElem? ht0
    have tn := hr t tm
    have lk : lstF 0 (r.take k) < n := lstF_lt _ 0 (by omega) (fun t ht => (hr t (List.mem_of_mem_take ht)).2)
    have et : h.1 93 z.toNatClampNeg = Int32.ofNat t := by rw [ez]; exact R k t ht0
    have ht : (h.1 93 z.toNatClampNeg).toInt = (t : Int) := by rw [et]; exact t_nat (by omega)
    have e1 := (n_add (n_mul (show (6 : Int32).toInt = ((6 : Nat) : Int) from rfl) h3 (by omega)) ht (by omega))
    have w1 := TM.2.2 _ t lk tn.2
    have wb := wl (lstF 0 (r.take k)) t
    have bt := bit_of hM.1 (show t < 6 by omega)
    refine w_Model_roundBy_13 L (by omega) (fun q => ?_) (fun q => ?_)
    · have pt : P t := by
        refine (hM.2 t (by omega)).mp ?_
        cases hb : M.testBit t with
        | true => rfl
        | false =>
          exfalso
          rw [e33, et, bt.1, hb] at q
          exact q rfl
      refine w_Model_roundBy_34 L (by omega) (by rw [e1]; omega) (Tc.wc (s_Model_atMost _ _ _)) (Is.k ?_)
      refine w_Model_roundBy_59 L rfl (by omega) ?_
      rw [n_eq e1, w1, e2]
      refine ih kl _ ⟨_, _, _, rfl, t_succ hz (by omega), ?_, ?_, ?_⟩
      · have s1 : (Int32.ofNat (min (dsF V 0 (r.take k)) 9999) + Int32.ofNat (V (lstF 0 (r.take k)) t)).toInt = ((min (dsF V 0 (r.take k)) 9999 + V (lstF 0 (r.take k)) t : Nat) : Int) := n_add (t_nat (by omega)) (t_nat (by omega)) (by omega)
        refine ofN ?_ (by omega)
        rw [lstF_take ht0, dsF_app, dsF, dsF]
        simp only [Int32.lt_iff_toInt_lt]
        rw [show (9999 : Int32).toInt = 9999 from rfl]
        split
        · omega
        · show (9999 : Int) = _
          omega
      · rw [lstF_take ht0, lstF_app]
        exact ht
      · rw [lstF_take ht0]
        intro u hu
        rcases List.mem_append.mp hu with y | y
        · exact hp u y
        · simp only [List.mem_singleton] at y
          rw [y]
          exact pt
    · have np : ¬ P t := fun pt => by
        first
        | (have q2 := Decidable.not_not.mp q
           rw [e33, et, bt.1, (hM.2 t (by omega)).mpr pt] at q2
           exact absurd q2 (by decide))
        | (rw [e33, et, bt.1, (hM.2 t (by omega)).mpr pt] at q
           exact absurd q (by decide))
      refine w_Model_roundBy_30 ?_
      exact ⟨rfl, Or.inr ⟨fun w => np (w t tm), rfl⟩⟩
end M79
