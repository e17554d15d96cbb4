/-! OPERATION round -/
section M80
variable {rod : Nat → Nat × (Nat → Int32)} {d : Nat} {h : MH} {a l n N k M : Nat} {W V : Nat → Nat → Nat} {P : Nat → Prop}
/-- the same but for two rows -/
def Sm2 (h g : MH) : Prop := g.2 = h.2 ∧ (∀ c, c ≠ 93 → c ≠ 94 → g.1 c = h.1 c) ∧ ∀ j, g.1 84 j = h.1 84 j
theorem Sm2.rfl : Sm2 h h := ⟨Eq.refl _, fun _ _ _ => Eq.refl _, fun _ => Eq.refl _⟩
theorem Sm2.trans {g f : MH} (k : Sm2 h g) (q : Sm2 g f) : Sm2 h f := ⟨q.1.trans k.1, fun c h2 h3 => (q.2.1 c h2 h3).trans (k.2.1 c h2 h3), fun j => (q.2.2 j).trans (k.2.2 j)⟩
theorem Sm2.keep {g : MH} (k : Sm2 h g) : Keep h g := ⟨k.1, fun c hc => k.2.1 c (fun e => hc (e ▸ scrI 93 (by omega))) (fun e => hc (e ▸ scrI 94 (by omega)))⟩
theorem Sm2.tm {g : MH} {s : Int32} (k : Sm2 h g) (T : TabM h n s V) : TabM g n s V := ⟨by rw [k.2.2 13]; exact T.1, by rw [k.2.2 23]; exact T.2.1, fun f t hf ht => by rw [k.2.1 92 (by omega) (by omega)]; exact T.2.2 f t hf ht⟩
/-- behind the rows ahead of row c -/
def BstR (g : MH) (W V : Nat → Nat → Nat) (P : Nat → Prop) (N k c : Nat) (B : Option (List Nat)) : Prop := (∀ b, B = some b → RowAt g 94 b ∧ Rv W P b ∧ dsF V 0 b = dsF W 0 b ∧ ∃ c', c' < c ∧ b = rowF N k c') ∧ ∀ r, Rv W P r → (∃ c', c' < c ∧ r = rowF N k c') → ∃ b, B = some b ∧ Gr W b r
theorem rounds_loop (L : Lay h.2) (hn : n = N + 1) (n6 : n ≤ 6) {s : Int32} (TM : TabM h n s V) (w : ∀ f t, f < n → t < n → (W f t = V f t ∧ W f t ≤ 45) ∨ (W f t = 1000 ∧ V f t = 9999)) (wl : ∀ f t, V f t ≤ 9999) (e33 : h.1 84 33 = Int32.ofNat M) (hM : Msk M P) (hP : ∀ t, P t → 1 ≤ t ∧ t < n) (k5 : k ≤ N) (hk : ∀ r : List Nat, r.Nodup → (∀ t ∈ r, P t) → ((∀ t, P t → t ∈ r) ↔ r.length = k)) {x1 : Int32} (h1 : x1.toInt = (k : Int)) {u5 u6 : Option MV} : Wb rod (d + 2) B_Model_rounds 122 [some (.inr (.inr (.inl (some 84)))), some (.inl x1), some (.inl (Int32.ofNat (N ^ k))), some (.inl (Int32.ofNat (rndV V 9999 none))), some (.inl 0), u5, u6] [] h (fun r h' => Sm2 h h' ∧ ∃ B, r = some (.inl (Int32.ofNat (rndV V 9999 B))) ∧ (∀ b, B = some b → RowAt h' 94 b ∧ b.length = k) ∧ BsR W P B) := by
  have N5 : N ≤ 5 := by omega
  have pw : N ^ k ≤ 15625 := Nat.le_trans (Nat.pow_le_pow_left N5 k) (Nat.le_trans (Nat.pow_le_pow_right (by omega) (show k ≤ 6 by omega)) (by decide))
  have tp := t_nat (n := N ^ k) (by omega)
  have hN : k = 0 ∨ 1 ≤ N := by omega
  refine Wb.uph (N ^ k) (fun c L' g => ∃ (z4 : Int32) (B : Option (List Nat)) (u5 u6 : Option MV), L' = [some (.inr (.inr (.inl (some 84)))), some (.inl x1), some (.inl (Int32.ofNat (N ^ k))), some (.inl (Int32.ofNat (rndV V 9999 B))), some (.inl z4), u5, u6] ∧ z4.toInt = (c : Int) ∧ Sm2 h g ∧ BstR g W V P N k c B) ?_ (Nat.zero_le _) ⟨0, none, _, _, rfl, rfl, Sm2.rfl, fun b q => (nomatch q), fun r _ ⟨c', q, _⟩ => absurd q (by omega)⟩
  rintro c _ g hc ⟨z4, B, u5, u6, rfl, h4, G, BM⟩ ih
  have Lg : Lay g.2 := G.1.symm ▸ L
  have rel := dsF_rel2 w
  have vd : ∀ b, B = some b → dsF V 0 b = dsF W 0 b ∧ dsF W 0 b < 1000 := fun b e => ⟨(BM.1 b e).2.2.1, (BM.1 b e).2.1.2.2.2⟩
  have tv : (Int32.ofNat (rndV V 9999 B)).toInt = (rndV V 9999 B : Int) := by
    refine t_nat ?_
    cases hb : B with
    | none => show 9999 < 2147483648; omega
    | some b => have := vd b hb; show dsF V 0 b < 2147483648; omega
  refine w_Model_rounds_122 (fun q => ?_) (fun q => ?_)
  · have ce : c = N ^ k := by omega
    refine w_Model_rounds_195 ?_
    refine ⟨G, B, rfl, fun b e => ⟨(BM.1 b e).1, ?_⟩, fun b e => (BM.1 b e).2.1, fun r v => BM.2 r v ?_⟩
    · have v := (BM.1 b e).2.1
      exact (hk b v.1 v.2.1).mp v.2.2.1
    · have rl := (hk r v.1 v.2.1).mp v.2.2.1
      rcases hN with k0 | N1
      · refine ⟨0, ?_, ?_⟩
        · rw [ce, k0, Nat.pow_zero]; omega
        · rw [k0] at rl ⊢
          exact List.length_eq_zero_iff.mp rl
      · obtain ⟨c', x1, x2⟩ := rowF_sur N1 k r rl (fun t ht => by have := hP t (v.2.1 t ht); omega)
        exact ⟨c', by omega, x2.symm⟩
  have cl : c < N ^ k := by omega
  have hrl := rowF_len N k c
  have hrm : ∀ t ∈ rowF N k c, 1 ≤ t ∧ t < n := fun t ht => by
    rcases hN with k0 | N1
    · subst k0; simp [rowF] at ht
    · have := rowF_mem N1 k c t ht; omega
  have next : ∀ (f : MH) (B' : Option (List Nat)) (u5 u6 : Option MV), Sm2 h f → BstR f W V P N k (c + 1) B' → Wb rod (d + 2) B_Model_rounds 189 [some (.inr (.inr (.inl (some 84)))), some (.inl x1), some (.inl (Int32.ofNat (N ^ k))), some (.inl (Int32.ofNat (rndV V 9999 B'))), some (.inl z4), u5, u6] [] f (fun r h' => Sm2 h h' ∧ ∃ B, r = some (.inl (Int32.ofNat (rndV V 9999 B))) ∧ (∀ b, B = some b → RowAt h' 94 b ∧ b.length = k) ∧ BsR W P B) := by
    intro f B' u5 u6 F X
    refine w_Model_rounds_189 rfl ?_
    exact ih cl _ _ ⟨_, B', _, _, rfl, t_succ h4 (by omega), F, X⟩
  have keepB : ∀ f : MH, f.1 94 = g.1 94 → (Rv W P (rowF N k c) → ∃ b, B = some b ∧ Gr W b (rowF N k c)) → BstR f W V P N k (c + 1) B := by
    intro f f94 hr
    refine ⟨fun b hb => ?_, fun r v ⟨c', y, e⟩ => ?_⟩
    · obtain ⟨x1, x2, x3, c', y1, y2⟩ := BM.1 b hb
      exact ⟨fun i t hi => by rw [f94]; exact x1 i t hi, x2, x3, c', by omega, y2⟩
    · by_cases y2 : c' = c
      · subst y2; subst e; exact hr v
      · exact BM.2 r v ⟨c', by omega, e⟩
  refine w_Model_rounds_128 Lg (r_isRow Lg (by rw [G.2.2 13, TM.1, hn]) N5 z4 x1 h4 h1 (by omega) hN) ?_
  rintro _ g1 ⟨⟨q1, q2⟩, ⟨rfl, nd, R⟩ | ⟨rfl, nd⟩⟩
  · have G1 : Sm2 h g1 := G.trans ⟨q1, fun e h2 h3 => q2 e h2, fun j => by rw [q2 84 (by omega)]⟩
    have L1 : Lay g1.2 := G1.1.symm ▸ L
    have rl := rel (rowF N k c) 0 (by omega) (fun t ht => (hrm t ht).2)
    have cmp : ∀ b, B = some b → ¬ dsF W 0 (rowF N k c) < dsF W 0 b → Gr W b (rowF N k c) := fun b e y => by
      obtain ⟨x1, x2, x3, c', y1, y2⟩ := BM.1 b e
      by_cases eq : dsF W 0 b = dsF W 0 (rowF N k c)
      · right
        refine ⟨eq, ?_⟩
        have N1 : 1 ≤ N := by
          rcases hN with k0 | N1
          · subst k0
            simp at cl
            omega
          · exact N1
        have := rowF_mono ⟨N1, N5⟩ k (by omega) c' c y1 cl
        rw [← y2] at this
        exact Nat.le_trans (Nat.le_add_right _ _) this
      · left; omega
    refine w_Model_rounds_135 (fun _ => ?_) (fun x => absurd x (by decide))
    refine w_Model_rounds_141 L1 (r_roundBy L1 (G1.tm TM) n6 (by omega) wl (by rw [G1.2.2 33]; exact e33) hM R (by omega) hrm x1 (by rw [hrl]; exact h1)) ?_
    rintro _ _ ⟨rfl, ⟨pP, rfl⟩ | ⟨nP, rfl⟩⟩
    · have tm := t_nat (n := min (dsF V 0 (rowF N k c)) 9999) (by omega)
      have com := (hk (rowF N k c) nd pP).mpr hrl
      refine w_Model_rounds_146 rfl (fun x => ?_) (fun x => ?_)
      · rw [tm, tv] at x
        have rle : rndV V 9999 B ≤ 9999 := by
          cases hb : B with
          | none => exact Nat.le_refl _
          | some b => have := vd b hb; show dsF V 0 b ≤ 9999; omega
        have sm : dsF V 0 (rowF N k c) = dsF W 0 (rowF N k c) ∧ dsF W 0 (rowF N k c) < 1000 := by
          rcases rl with y | y
          · rw [hrl] at y; omega
          · omega
        have vr : Rv W P (rowF N k c) := ⟨nd, pP, com, sm.2⟩
        have bet : ∀ b, B = some b → dsF W 0 (rowF N k c) < dsF W 0 b := fun b e => by
          have := vd b e
          rw [e] at x
          have x' : ((min (dsF V 0 (rowF N k c)) 9999 : Nat) : Int) < (dsF V 0 b : Int) := x
          omega
        have mn : min (dsF V 0 (rowF N k c)) 9999 = rndV V 9999 (some (rowF N k c)) := by
          show _ = dsF V 0 (rowF N k c)
          omega
        rw [mn]
        refine w_Model_rounds_157 rfl ?_
        refine Wb.uph k (fun i L' f => ∃ (z6 : Int32), L' = [some (.inr (.inr (.inl (some 84)))), some (.inl x1), some (.inl (Int32.ofNat (N ^ k))), some (.inl (Int32.ofNat (rndV V 9999 (some (rowF N k c))))), some (.inl z4), some (.inl (Int32.ofNat (rndV V 9999 (some (rowF N k c))))), some (.inl z6)] ∧ z6.toInt = (i : Int) ∧ Sm2 h f ∧ RowAt f 93 (rowF N k c) ∧ ∀ j t, j < i → (rowF N k c)[j]? = some t → f.1 94 j = Int32.ofNat t) ?_ (Nat.zero_le _) ⟨0, rfl, rfl, G1, R, fun j t hj => absurd hj (by omega)⟩
        rintro i _ f hi ⟨z6, rfl, h6, F, Rf, f94⟩ ihi
        have Lf : Lay f.2 := F.1.symm ▸ L
        refine w_Model_rounds_163 (fun y => ?_) (fun y => ?_)
        · have ik : i = k := by omega
          subst ik
          refine next f (some (rowF N i c)) _ _ F ⟨fun b hb => ?_, fun r v ⟨c', y1, e⟩ => ?_⟩
          · cases hb
            exact ⟨fun j t hj => f94 j t (by have := (List.getElem?_eq_some_iff.mp hj).1; omega) hj, vr, sm.1, c, by omega, rfl⟩
          · refine ⟨_, rfl, ?_⟩
            by_cases y2 : c' = c
            · subst y2; subst e; exact Gr.rfl
            · obtain ⟨b, hb, gd⟩ := BM.2 r v ⟨c', by omega, e⟩
              exact Gr.trans (Or.inl (bet b hb)) gd
        · have il : i < k := by omega
          refine w_Model_rounds_169 Lf (by omega) ?_
          refine w_Model_rounds_183 rfl ?_
          rw [n_eq h6]
          refine ihi il _ _ ⟨_, rfl, t_succ h6 (by omega), F.trans ⟨rfl, fun e h2 h3 => sI_cell h3, fun j => sI_nc (by omega)⟩, fun j t hj => by rw [sI_nc (by omega)]; exact Rf j t hj, fun j t hj ht => ?_⟩
          by_cases x2 : j = i
          · subst x2; rw [sI_same]; exact Rf j t ht
          · rw [sI_nj x2]; exact f94 j t (by omega) ht
      · rw [tm, tv] at x
        refine w_Model_rounds_154 ?_
        refine next _ B _ _ G1 (keepB _ (q2 94 (by omega)) (fun v => ?_))
        have v4 := v.2.2.2
        cases hb : B with
        | none =>
          rw [hb] at x
          have x' : ¬ ((min (dsF V 0 (rowF N k c)) 9999 : Nat) : Int) < (9999 : Int) := x
          omega
        | some b =>
          refine ⟨b, rfl, cmp b hb ?_⟩
          have := vd b hb
          rw [hb] at x
          have x' : ¬ ((min (dsF V 0 (rowF N k c)) 9999 : Nat) : Int) < (dsF V 0 b : Int) := x
          omega
    · refine w_Model_rounds_146 rfl (fun x => ?_) (fun x => ?_)
      · exfalso
        rw [tv] at x
        have x' : (9999 : Int) < (rndV V 9999 B : Int) := x
        cases hb : B with
        | none => rw [hb] at x'; have : rndV V 9999 none = 9999 := rfl; omega
        | some b => have := vd b hb; rw [hb] at x'; have : rndV V 9999 (some b) = dsF V 0 b := rfl; omega
      · refine w_Model_rounds_154 ?_
        exact next _ B _ _ G1 (keepB _ (q2 94 (by omega)) (fun v => absurd v.2.1 nP))
  · have G1 : Sm2 h g1 := G.trans ⟨q1, fun e h2 h3 => q2 e h2, fun j => by rw [q2 84 (by omega)]⟩
    refine w_Model_rounds_135 (fun x => absurd x (by decide)) (fun _ => ?_)
    refine w_Model_rounds_138 ?_
    exact next g1 B _ _ G1 (keepB g1 (q2 94 (by omega)) (fun v => absurd v.1 nd))
theorem edg_shut {D : Nat → Nat → Int32} {s : Int32} {t : Nat} (c : ¬ ((s >>> (Int32.ofNat t &&& 31)) &&& 1).toInt = 0) : ∀ f, edgF D s f t = 0 := fun f => if_neg (fun q => c q.2)
theorem r_rounds (Mm : MLand h a l) (L : Lay h.2) (ha : a + 9 ≤ 45) (hn : (h.1 a 0).toInt = (n : Int)) (n6 : n ≤ 6) (n1 : 1 ≤ n) : Wc rod (d + 3) 257 [.inr (.inr (.inl (some 84)))] h (fun r h' => Keep h h' ∧ h'.1 84 32 = Int32.ofNat (dueL (wayF 1000 (edgF (ld h a) (h.1 a 3)) n) (n - 1)).length ∧ ∃ B, r = some (.inl (Int32.ofNat (rndV (wayF 9999 (edgF (ld h a) (h.1 a 3)) n) 9999 B))) ∧ (∀ b, B = some b → RowAt h' 94 b ∧ b.length = (dueL (wayF 1000 (edgF (ld h a) (h.1 a 3)) n) (n - 1)).length) ∧ BsR (wayF 1000 (edgF (ld h a) (h.1 a 3)) n) (DueF (wayF 1000 (edgF (ld h a) (h.1 a 3)) n) n) B) := by
  have hD := Mm.1.rdok
  have wl := fun f t => way_le (F := 9999) (E := edgF (ld h a) (h.1 a 3)) (edg_le hD) (by omega) n f t
  have wf := fun f t (q1 : f < n) (q2 : t < n) => way_fin (E := edgF (ld h a) (h.1 a 3)) (edg_le hD) n6 q1 q2
  refine n_Model_rounds ?_
  refine w_Model_rounds_0 L (r_lays Mm L ha hn n6 0) ?_
  rintro _ g0 ⟨rfl, K0, M0, s0, T0⟩
  rw [Int32.or_zero] at s0 T0
  have L0 := L.keep K0
  refine w_Model_rounds_5 L0 ?_
  refine w_Model_rounds_10 rfl ?_
  refine Wb.uph (n - 1) (fun j L' g => ∃ (z x1 : Int32) (M : Nat) (u3 u4 u5 u6 : Option MV), L' = [some (.inr (.inr (.inl (some 84)))), some (.inl x1), some (.inl z), u3, u4, u5, u6] ∧ z.toInt = ((j + 1 : Nat) : Int) ∧ x1.toInt = ((dueL (wayF 1000 (edgF (ld h a) (h.1 a 3)) n) j).length : Int) ∧ Keep h g ∧ MLand g a l ∧ TabM g n (h.1 a 3) (wayF 9999 (edgF (ld h a) (h.1 a 3)) n) ∧ g.1 84 33 = Int32.ofNat M ∧ Msk M (fun t => DueF (wayF 1000 (edgF (ld h a) (h.1 a 3)) n) n t ∧ t < j + 1)) ?_ (Nat.zero_le _) ⟨1, 0, 0, _, _, _, _, rfl, rfl, rfl, K0.si (scrI 84 (by omega)), M0.si84 ha (by omega), ⟨by rw [sI_nj (by omega), M0.2.2.2.1, K0.c a (by omega)]; exact hn, by rw [sI_nj (by omega)]; exact s0, fun f t hf ht => by rw [sI_nc (by omega)]; exact T0 f t hf ht⟩, by rw [sI_same]; rfl, by omega, fun t ht => ⟨fun q => by simp at q, fun q => absurd q.1.1 (by omega)⟩⟩
  clear K0 M0 s0 T0 L0
  rintro j _ g hj ⟨z, x1, M, u3, u4, u5, u6, rfl, hz, hx, K, Mg, TM, e33, hM⟩ ih
  have Lg := L.keep K
  have oz := ofN hz (by omega)
  have ez := n_eq hz
  have dl := (dueL_nd (W := (wayF 1000 (edgF (ld h a) (h.1 a 3)) n)) j).2
  refine w_Model_rounds_14 Lg (fun c => ?_) (fun c => ?_)
  · rw [TM.1, hz] at c
    have jn : j = n - 1 := by omega
    subst jn
    refine w_Model_rounds_86 rfl ?_
    have g13 : (g.1 84 13 - 1).toInt = ((n - 1 : Nat) : Int) := n_sub TM.1 (show (1 : Int32).toInt = ((1 : Nat) : Int) from rfl) (by omega) n1
    refine Wb.upc (dueL (wayF 1000 (edgF (ld h a) (h.1 a 3)) n) (n - 1)).length (fun i L' => ∃ (y : Int32), L' = [some (.inr (.inr (.inl (some 84)))), some (.inl x1), some (.inl (Int32.ofNat ((n - 1) ^ i))), some (.inl y), u4, u5, u6] ∧ y.toInt = (i : Int)) ?_ (Nat.zero_le _) ⟨0, rfl, rfl⟩
    rintro i _ hi ⟨y, rfl, hy⟩ ihi
    have pi : ∀ i, i ≤ 6 → (n - 1) ^ i ≤ 15625 := fun i hi => Nat.le_trans (Nat.pow_le_pow_left (show n - 1 ≤ 5 by omega) i) (Nat.le_trans (Nat.pow_le_pow_right (by omega) hi) (by decide))
    refine w_Model_rounds_90 (fun q => ?_) (fun q => ?_)
    · have ie : i = (dueL (wayF 1000 (edgF (ld h a) (h.1 a 3)) n) (n - 1)).length := by omega
      subst ie
      refine w_Model_rounds_110 Lg rfl ?_
      refine w_Model_rounds_119 rfl ?_
      have Ls : Lay (sI g 84 32 x1).2 := Lg
      refine (rounds_loop (N := n - 1) (n := n) (k := (dueL (wayF 1000 (edgF (ld h a) (h.1 a 3)) n) (n - 1)).length) (M := M) (W := (wayF 1000 (edgF (ld h a) (h.1 a 3)) n)) (V := (wayF 9999 (edgF (ld h a) (h.1 a 3)) n)) (P := DueF (wayF 1000 (edgF (ld h a) (h.1 a 3)) n) n) (s := h.1 a 3) Ls (by omega) n6 ⟨by rw [sI_nj (by omega)]; exact TM.1, by rw [sI_nj (by omega)]; exact TM.2.1, fun f t hf ht => by rw [sI_nc (by omega)]; exact TM.2.2 f t hf ht⟩ wf wl (by rw [sI_nj (by omega)]; exact e33) (hM.ext (fun t _ => ⟨fun q => q.1, fun q => ⟨q, by have := q.2.1; omega⟩⟩)) (fun t q => ⟨q.1, q.2.1⟩) dl (fun r nd pP => due_len nd pP n1) hx).imp ?_
      rintro r f ⟨F, B, e, x2, x3⟩
      exact ⟨(K.si (scrI 84 (by omega))).trans F.keep, by rw [F.2.2 32, sI_same]; exact ofN hx (by omega), B, e, x2, x3⟩
    · have p1 := pi (i + 1) (by omega)
      have p0 := pi i (by omega)
      refine w_Model_rounds_95 Lg rfl ?_
      refine ihi (by omega) _ ⟨_, ?_, t_succ hy (by omega)⟩
      rw [Nat.pow_succ] at p1 ⊢
      rw [← ofN (n := (n - 1) ^ i * (n - 1)) (n_mul (t_nat (by omega)) g13 (by omega)) (by omega)]
  · rw [TM.1, hz] at c
    have t1 := TM.2.2 0 (j + 1) (by omega) (by omega)
    rw [Nat.mul_zero, Nat.zero_add] at t1
    have w9 := wl 0 (j + 1)
    have w1 := wf 0 (j + 1) (by omega) (by omega)
    have bt := bit_of hM.1 (show j + 1 < 6 by omega)
    have nay : ¬ (wayF 1000 (edgF (ld h a) (h.1 a 3)) n) 0 (j + 1) < 1000 → ∀ u4 u5 u6, Wb rod (d + 2) B_Model_rounds 46 [some (.inr (.inr (.inl (some 84)))), some (.inl x1), some (.inl z), u3, u4, u5, u6] [] g (fun r h' => Keep h h' ∧ h'.1 84 32 = Int32.ofNat (dueL (wayF 1000 (edgF (ld h a) (h.1 a 3)) n) (n - 1)).length ∧ ∃ B, r = some (.inl (Int32.ofNat (rndV (wayF 9999 (edgF (ld h a) (h.1 a 3)) n) 9999 B))) ∧ (∀ b, B = some b → RowAt h' 94 b ∧ b.length = (dueL (wayF 1000 (edgF (ld h a) (h.1 a 3)) n) (n - 1)).length) ∧ BsR (wayF 1000 (edgF (ld h a) (h.1 a 3)) n) (DueF (wayF 1000 (edgF (ld h a) (h.1 a 3)) n) n) B) := by
      intro nd u4 u5 u6
      refine w_Model_rounds_46 ?_
      refine w_Model_rounds_47 Lg rfl (fun _ => ?_) (fun q => absurd (by decide) q)
      refine w_Model_rounds_63 ?_
      refine w_Model_rounds_64 Lg ?_
      rw [Int32.or_zero]
      refine w_Model_rounds_68 (fun _ => ?_) (fun q => absurd (by decide) q)
      refine w_Model_rounds_77 ?_
      refine w_Model_rounds_78 rfl ?_
      rw [Int32.add_zero]
      refine ih (by omega) _ _ ⟨_, _, M, _, _, _, _, rfl, t_succ hz (by omega), by rw [dueL, if_neg nd]; exact hx, K.si (scrI 84 (by omega)), Mg.si84 ha (by omega), ⟨by rw [sI_nj (by omega)]; exact TM.1, by rw [sI_nj (by omega)]; exact TM.2.1, fun f t hf ht => by rw [sI_nc (by omega)]; exact TM.2.2 f t hf ht⟩, by rw [sI_same]; exact e33, hM.ext (fun t _ => ⟨fun y => ⟨y.1, by omega⟩, fun y => ⟨y.1, ?_⟩⟩)⟩
      by_cases w : t = j + 1
      · have := y.1.2.2
        rw [w] at this
        omega
      · have := y.2
        omega
    refine w_Model_rounds_22 Lg (Tc.wc (r_isShut2 Lg z)) (Is.k ?_)
    rw [TM.2.1, oz, ← oz]
    refine w_Model_rounds_27 (fun q => ?_) (fun q => ?_)
    · rw [ite01t, Decidable.not_not] at q
      rw [oz] at q
      refine nay (fun w => ?_) _ _ _
      have := way_none (F := 9999) (edg_shut (D := ld h a) q) n 0 (by omega)
      omega
    · refine w_Model_rounds_30 Lg (by omega) (fun w => ?_) (fun w => ?_)
      · rw [ez, t1, t_nat (by omega)] at w
        have w' : (9999 : Int) ≤ ((wayF 9999 (edgF (ld h a) (h.1 a 3)) n) 0 (j + 1) : Int) := w
        exact nay (by omega) _ _ _
      · rw [ez, t1, t_nat (by omega)] at w
        have w' : ¬ (9999 : Int) ≤ ((wayF 9999 (edgF (ld h a) (h.1 a 3)) n) 0 (j + 1) : Int) := w
        have due : (wayF 1000 (edgF (ld h a) (h.1 a 3)) n) 0 (j + 1) < 1000 := by omega
        refine w_Model_rounds_42 ?_
        refine w_Model_rounds_47 Lg rfl (fun q => absurd q (by decide)) (fun _ => ?_)
        refine w_Model_rounds_57 ?_
        refine w_Model_rounds_64 Lg ?_
        rw [e33, oz, bt.2.1, ← oz]
        refine w_Model_rounds_68 (fun q => absurd q (by decide)) (fun _ => ?_)
        refine w_Model_rounds_73 ?_
        refine w_Model_rounds_78 rfl ?_
        refine ih (by omega) _ _ ⟨_, _, M ||| 2 ^ (j + 1), _, _, _, _, rfl, t_succ hz (by omega), by rw [dueL, if_pos due, List.length_cons]; exact t_succ hx (by omega), K.si (scrI 84 (by omega)), Mg.si84 ha (by omega), ⟨by rw [sI_nj (by omega)]; exact TM.1, by rw [sI_nj (by omega)]; exact TM.2.1, fun f t hf ht => by rw [sI_nc (by omega)]; exact TM.2.2 f t hf ht⟩, by rw [sI_same], (hM.add (show j + 1 < 6 by omega)).ext (fun t _ => ⟨fun y => ?_, fun y => ?_⟩)⟩
        · rcases y with y | y
          · exact ⟨y.1, by omega⟩
          · rw [y]
            exact ⟨⟨by omega, by omega, due⟩, by omega⟩
        · by_cases x2 : t = j + 1
          · exact Or.inr x2
          · exact Or.inl ⟨y.1, by have := y.2; omega⟩
def ansR (W : Nat → Nat → Nat) (z : Int32) (B : Option (List Nat)) : Int32 := match B with
  | none => -1
  | some b => if z.toInt = -1 then Int32.ofNat (dsF W 0 b) else if 0 ≤ z.toInt ∧ z.toInt < (b.length : Int) then Int32.ofNat (b.getD z.toNatClampNeg 0) else -1
theorem op_round (k z : Int32) : OpI INV rod 154 256 [k, z] := by
  refine OpI.mk fun h hI => ?_
  have L := hI.lay
  by_cases hk : 0 ≤ k.toInt ∧ k.toInt < (h.1 3 0).toInt
  · obtain ⟨A, R, ha, hk2⟩ := hI.landK hk
    have ek := n_of hk.1
    have at1 := fun (d : Nat) => s_landAt1 (rod := rod) (d := d) hI hk
    generalize k.toNatClampNeg = kk at ek hk2 A R ha at1
    have tw := R.tw
    obtain ⟨n, hn⟩ := Int.eq_ofNat_of_zero_le (show 0 ≤ (h.1 (8 + 18 * kk) 0).toInt by omega)
    have hD := R.rdok
    have wf := fun f t (q1 : f < n) (q2 : t < n) => way_fin (E := edgF (ld h (8 + 18 * kk)) (h.1 (8 + 18 * kk) 3)) (edg_le hD) (show n ≤ 6 by omega) q1 q2
    have ce := fun (d : Nat) => c_goRound (rod := rod) (d := d) L A ha hn (by omega) (by omega) hD
    obtain ⟨-, -, -, -, B, -, -, bB⟩ := ce 0
    have hP : ∀ t, DueF (wayF 1000 (edgF (ld h (8 + 18 * kk)) (h.1 (8 + 18 * kk) 3)) n) n t → 1 ≤ t ∧ t < n := fun t q => ⟨q.1, q.2.1⟩
    have vb : ∀ b, B = some b → (dsF (wayF 1000 (edgF (ld h (8 + 18 * kk)) (h.1 (8 + 18 * kk) 3)) n) 0 b = dsF (wayF 9999 (edgF (ld h (8 + 18 * kk)) (h.1 (8 + 18 * kk) 3)) n) 0 b ∧ dsF (wayF 1000 (edgF (ld h (8 + 18 * kk)) (h.1 (8 + 18 * kk) 3)) n) 0 b < 1000) ∧ b.length = (dueL (wayF 1000 (edgF (ld h (8 + 18 * kk)) (h.1 (8 + 18 * kk) 3)) n) (n - 1)).length ∧ b.length ≤ 5 := fun b e => by
      have v := bB.1 b e
      have q := dsF_rel2 wf b 0 (by omega) (fun t ht => (v.2.1 t ht).2.1)
      have l1 := (due_len v.1 v.2.1 (show 1 ≤ n by omega)).mp v.2.2.1
      have l2 := (dueL_nd (W := (wayF 1000 (edgF (ld h (8 + 18 * kk)) (h.1 (8 + 18 * kk) 3)) n)) (n - 1)).2
      have := v.2.2.2
      exact ⟨by omega, l1, by omega⟩
    refine ⟨ansR (wayF 1000 (edgF (ld h (8 + 18 * kk)) (h.1 (8 + 18 * kk) 3)) n) z B, ?_, fun h1 I1 K1 => ?_⟩
    · refine n_Main_round ?_
      refine w_Main_round_0 L (Tc.wc (at1 _)) (Is.k ?_)
      refine w_Main_round_8 rfl (fun c => nomatch c) (fun _ _ => ?_)
      refine w_Main_round_15 L (ce _) ?_
      rintro _ h15 ⟨k15, B2, rfl, B15, g2⟩
      have be : B2 = B := BsR.eq (by omega) hP g2 bB
      subst be
      have L15 := L.keep k15
      cases hb : B2 with
      | none =>
        refine w_Main_round_23 rfl (fun q => absurd q (by show ¬ (1000 : Int) < 1000; omega)) (fun _ => ?_)
        refine w_Main_round_33 ?_
        exact ⟨rfl, k15⟩
      | some b =>
        have v := vb b hb
        rw [hb] at B15
        have B6 : BestR h15 (wayF 1000 (edgF (ld h (8 + 18 * kk)) (h.1 (8 + 18 * kk) 3)) n) b := B15
        have t1 : (Int32.ofNat (rndV (wayF 1000 (edgF (ld h (8 + 18 * kk)) (h.1 (8 + 18 * kk) 3)) n) 1000 (some b))).toInt = (dsF (wayF 1000 (edgF (ld h (8 + 18 * kk)) (h.1 (8 + 18 * kk) 3)) n) 0 b : Int) := t_nat (by show dsF (wayF 1000 (edgF (ld h (8 + 18 * kk)) (h.1 (8 + 18 * kk) 3)) n) 0 b < _; omega)
        have t7 := t_nat (n := b.length) (by omega)
        rw [← B6.2.1] at t7
        refine w_Main_round_23 rfl (fun _ => ?_) (fun q => absurd (show (Int32.ofNat (rndV (wayF 1000 (edgF (ld h (8 + 18 * kk)) (h.1 (8 + 18 * kk) 3)) n) 1000 (some b))).toInt < (1000 : Int) by omega) q)
        refine w_Main_round_35 (fun q => ?_) (fun q => ?_)
        · have q1 : ¬ z.toInt = -1 := q
          refine w_Main_round_45 L15 (Tc.wc (c_townOfRow L15 z)) (Is.k ?_)
          refine w_Main_round_53 ?_
          refine ⟨?_, k15⟩
          show _ = some (Sum.inl (if z.toInt = -1 then _ else _))
          rw [if_neg (c := z.toInt = -1) q1]
          by_cases w : 0 ≤ z.toInt ∧ z.toInt < (b.length : Int)
          · rw [if_pos (c := 0 ≤ z.toInt ∧ z.toInt < (h15.1 70 7).toInt ∧ z.toInt < 6) (by omega), if_pos w]
            have ez := n_of w.1
            exact congrArg (fun q => some (Sum.inl q)) (B6.2.2 z.toNatClampNeg (b.getD z.toNatClampNeg 0) (by rw [List.getD_eq_getElem?_getD, List.getElem?_eq_getElem (by omega)]; rfl))
          · rw [if_neg (c := 0 ≤ z.toInt ∧ z.toInt < (h15.1 70 7).toInt ∧ z.toInt < 6) (by omega), if_neg w]
        · have q1 : z.toInt = -1 := by first | exact q | exact Decidable.not_not.mp q
          refine w_Main_round_40 ?_
          refine w_Main_round_53 ?_
          refine ⟨?_, k15⟩
          show _ = some (Sum.inl (if z.toInt = -1 then _ else _))
          rw [if_pos q1]
          rfl
    · have L1 := I1.lay
      have hk1 : (kk : Int) < (h1.1 3 0).toInt := by rw [K1.c 3 (by omega)]; omega
      have is1 := fun (d : Nat) => s_isLand1 (rod := rod) (d := d) I1 k kk ek hk1
      refine n_Model_round ?_
      refine w_Model_round_0 L1 (is1 _) ?_
      rintro _ h0 ⟨rfl, k0, M0⟩
      have I0 := I1.keep k0
      have L0 := I0.lay
      have K0 := (Keep.rfl (h := h1)).trans k0
      refine w_Model_round_5 (fun kc5 => absurd kc5 (by decide)) (fun kc5 => ?_)
      refine w_Model_round_8 (fun kc8 => ?_) (fun kc8 => ?_)
      · try simp only [ite01t, ite01v, Int32.reduceToInt, t_m1, t_m2, t_m1000, Decidable.not_not] at kc8
        refine w_Model_round_15 L0 (r_rounds M0 L0 ha (by rw [(K1.trans K0).c _ (by omega)]; exact hn) (by omega) (by omega)) ?_
        rintro _ h15 ⟨k15, e15, B2, rfl, r15, B15⟩
        rw [ldk (K1.trans K0) ha, (K1.trans K0).c _ (by omega)] at e15 B15 r15
        rw [ldk (K1.trans K0) ha, (K1.trans K0).c _ (by omega)]
        have I15 := I0.keep k15
        have L15 := I15.lay
        have K15 := K0.trans k15
        have be : B2 = B := BsR.eq (by omega) hP B15 bB
        subst be
        cases hb : B2 with
        | none =>
          refine w_Model_round_19 rfl (fun _ => ?_) (fun q => absurd (show (9999 : Int) ≤ 9999 by omega) q)
          refine w_Model_round_35 ?_
          exact ⟨rfl, K15⟩
        | some b =>
          have v := vb b hb
          have rb := r15 b hb
          have t1 : (Int32.ofNat (rndV (wayF 9999 (edgF (ld h (8 + 18 * kk)) (h.1 (8 + 18 * kk) 3)) n) 9999 (some b))).toInt = (dsF (wayF 9999 (edgF (ld h (8 + 18 * kk)) (h.1 (8 + 18 * kk) 3)) n) 0 b : Int) := t_nat (by show dsF (wayF 9999 (edgF (ld h (8 + 18 * kk)) (h.1 (8 + 18 * kk) 3)) n) 0 b < _; omega)
          have t32 := t_nat (n := (dueL (wayF 1000 (edgF (ld h (8 + 18 * kk)) (h.1 (8 + 18 * kk) 3)) n) (n - 1)).length) (by omega)
          rw [← e15] at t32
          refine w_Model_round_19 rfl (fun q => absurd (show (9999 : Int) ≤ (Int32.ofNat (rndV (wayF 9999 (edgF (ld h (8 + 18 * kk)) (h.1 (8 + 18 * kk) 3)) n) 9999 (some b))).toInt from q) (by omega)) (fun _ => ?_)
          have zz := kc8
          refine w_Model_round_27 L15 (fun q => ?_) (fun q => ?_)
          · refine w_Model_round_37 (fun w => ?_) (fun w => ?_)
            · have w1 : ¬ z.toInt = -1 := w
              have ez := n_of (x := z) (by omega)
              refine w_Model_round_46 L15 (by omega) ?_
              refine w_Model_round_52 ?_
              refine ⟨?_, K15⟩
              show _ = some (Sum.inl (if z.toInt = -1 then _ else _))
              rw [if_neg w1, if_pos (by omega)]
              exact congrArg (fun q => some (Sum.inl q)) (rb.1 z.toNatClampNeg (b.getD z.toNatClampNeg 0) (by rw [List.getD_eq_getElem?_getD, List.getElem?_eq_getElem (by omega)]; rfl))
            · have w1 : z.toInt = -1 := by first | exact w | exact Decidable.not_not.mp w
              refine w_Model_round_42 ?_
              refine w_Model_round_52 ?_
              refine ⟨?_, K15⟩
              show _ = some (Sum.inl (if z.toInt = -1 then _ else _))
              rw [if_pos w1, v.1.1]
              rfl
          · refine w_Model_round_35 ?_
            refine ⟨?_, K15⟩
            show _ = some (Sum.inl (if z.toInt = -1 then _ else _))
            rw [if_neg (by omega), if_neg (by omega)]
      · try simp only [ite01t, ite01v, Int32.reduceToInt, t_m1, t_m2, t_m1000, Decidable.not_not] at kc8
        refine w_Model_round_13 ?_
        refine ⟨?_, K0⟩
        cases hb : B with
        | none => rfl
        | some b =>
          show _ = some (Sum.inl (if z.toInt = -1 then _ else _))
          rw [if_neg (by omega), if_neg (by omega)]
  · refine ⟨-1, ?_, fun h1 I1 K1 => ?_⟩
    · refine n_Main_round ?_
      refine w_Main_round_0 L (Tc.wc (s_landAt0 hI hk)) (Is.k ?_)
      refine w_Main_round_8 rfl (fun _ => ?_) (fun _ c => nomatch c)
      refine w_Main_round_13 ?_
      exact ⟨rfl, Keep.rfl⟩
    · have L1 := I1.lay
      have hk1 : ¬ (0 ≤ k.toInt ∧ k.toInt < (h1.1 3 0).toInt) := by rw [K1.c 3 (by omega)]; exact hk
      refine n_Model_round ?_
      refine w_Model_round_0 L1 (Tc.wc (s_isLand0 I1 k hk1)) (Is.k ?_)
      refine w_Model_round_5 (fun kc5 => ?_) (fun kc5 => absurd kc5 (by decide))
      refine w_Model_round_13 ?_
      exact ⟨rfl, Keep.rfl⟩
end M80
