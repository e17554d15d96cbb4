/-! THE REFERENCE'S TOUR -/
section M75
variable {rod : Nat → Nat × (Nat → Int32)} {d : Nat} {h : MH} {a l n nb lt D N : Nat} {V : Nat → Nat → Nat} {S : Nat → Nat}
theorem r_isRow (L : Lay h.2) (h13 : (h.1 84 13).toInt = ((N + 1 : Nat) : Int)) (N5 : N ≤ 5) (x y : Int32) {c k : Nat} (hx : x.toInt = (c : Int)) (hy : y.toInt = (k : Int)) (k5 : k ≤ 5) (hN : k = 0 ∨ 1 ≤ N) : Wc rod (d + 1) 250 [.inr (.inr (.inl (some 84))), .inl x, .inl y] h (fun r h' => (h'.2 = h.2 ∧ ∀ e, e ≠ 93 → h'.1 e = h.1 e) ∧ ((r = some (.inl 1) ∧ (rowF N k c).Nodup ∧ RowAt h' 93 (rowF N k c)) ∨ (r = some (.inl 0) ∧ ¬ (rowF N k c).Nodup))) := by
  refine n_Model_isRow ?_
  refine w_Model_isRow_0 ?_
  have y1 : (y - 1).toInt = (k : Int) - 1 := by
    rw [i32_sub (by show _ ≤ _ - (1 : Int); omega) (by show _ - (1 : Int) ≤ _; omega), hy]
    rfl
  refine Wb.uph k (fun i L' g => ∃ (z v w : Int32) (c' M : Nat) (s : List Nat), L' = [some (.inr (.inr (.inl (some 84)))), some (.inl x), some (.inl y), some (.inl v), some (.inl w), some (.inl z)] ∧ z.toInt = (k : Int) - 1 - (i : Int) ∧ v.toInt = (c' : Int) ∧ w = Int32.ofNat M ∧ Msk M (fun t => t ∈ s) ∧ (g.2 = h.2 ∧ ∀ e, e ≠ 93 → g.1 e = h.1 e) ∧ rowF N k c = rowF N (k - i) c' ++ s ∧ s.length = i ∧ s.Nodup ∧ (∀ t ∈ s, t ≤ 5) ∧ ∀ j t, s[j]? = some t → g.1 93 (k - i + j) = Int32.ofNat t) ?_ (Nat.zero_le _) ⟨_, x, 0, c, 0, [], rfl, by rw [y1]; omega, hx, rfl, ⟨by omega, fun t ht => by simp⟩, ⟨rfl, fun _ _ => rfl⟩, by rw [Nat.sub_zero, List.append_nil], rfl, List.nodup_nil, fun t q => absurd q (by simp), fun j t q => by simp at q⟩
  rintro i _ g hi ⟨z, v, w, c', M, s, rfl, hz, hv, rfl, hM, ⟨g1, g2⟩, er, sl, sn, s5, sr⟩ ih
  have Lg : Lay g.2 := g1.symm ▸ L
  refine w_Model_isRow_10 (fun q => ?_) (fun q => ?_)
  · have ik : i = k := by
      have : z.toInt < (0 : Int) := q
      omega
    subst ik
    refine w_Model_isRow_79 ?_
    rw [Nat.sub_self] at er sr
    have e2 : rowF N i c = s := er
    refine ⟨⟨g1, g2⟩, Or.inl ⟨rfl, by rw [e2]; exact sn, ?_⟩⟩
    rw [e2]
    intro j t hj
    have := sr j t hj
    rw [Nat.zero_add] at this
    exact this
  · have ik : i < k := by
      have : ¬ z.toInt < (0 : Int) := q
      omega
    have N1 : 1 ≤ N := by omega
    have zz : z.toInt = ((k - i - 1 : Nat) : Int) := by omega
    have g13 : (g.1 84 13 - 1).toInt = (N : Int) := by
      have e13 : (g.1 84 13).toInt = ((N + 1 : Nat) : Int) := by rw [g2 84 (by omega)]; exact h13
      rw [i32_sub (by rw [e13]; show _ ≤ _ - (1 : Int); omega) (by rw [e13]; show _ - (1 : Int) ≤ _; omega), e13]
      show _ - (1 : Int) = _
      omega
    have nz : g.1 84 13 - 1 ≠ 0 := fun e => by rw [e] at g13; have : (0 : Int) = (N : Int) := g13; omega
    have dr := dv_r (x := v) (k := g.1 84 13 - 1) (n := N) g13 (by omega) (by omega)
    have dq := dv_q (x := v) (k := g.1 84 13 - 1) (n := N) g13 (by omega) (by omega)
    rw [hv] at dr dq
    have ml := Nat.mod_lt c' (show 0 < N by omega)
    have tv : (1 : Int32) + (v - v / (g.1 84 13 - 1) * (g.1 84 13 - 1)) = Int32.ofNat (1 + c' % N) := by
      refine ofN ?_ (by omega)
      exact n_add (show (1 : Int32).toInt = ((1 : Nat) : Int) from rfl) (dr.trans (Int.natCast_emod c' N).symm) (by omega)
    refine w_Model_isRow_15 Lg nz (by omega) ?_
    rw [tv, n_eq zz]
    have e1 : (sI g 93 (k - i - 1) (Int32.ofNat (1 + c' % N))).1 93 z.toNatClampNeg = Int32.ofNat (1 + c' % N) := by rw [n_eq zz, sI_same]
    have e13 : (sI g 93 (k - i - 1) (Int32.ofNat (1 + c' % N))).1 84 13 = g.1 84 13 := sI_nc (by omega)
    have bt := bit_of hM.1 (show 1 + c' % N < 6 by omega)
    have rw1 : rowF N (k - i) c' = rowF N (k - i - 1) (c' / N) ++ [1 + c' % N] := by
      rw [show k - i = (k - i - 1) + 1 by omega]
      rfl
    refine w_Model_isRow_32 Lg (by rw [e13]; exact nz) rfl (by omega) (fun b => ?_) (fun b => ?_)
    · rw [e1, bt.1] at b
      have nt : ¬ (1 + c' % N ∈ s) := fun m => by
        rw [(hM.2 _ (by omega)).mpr m] at b
        exact b rfl
      refine w_Model_isRow_59 Lg (by omega) rfl ?_
      rw [e1, e13, bt.2.1]
      refine ih ik _ _ ⟨_, _, _, c' / N, M ||| 2 ^ (1 + c' % N), (1 + c' % N) :: s, rfl, ?_, ?_, rfl, (hM.add (show 1 + c' % N < 6 by omega)).ext (fun u _ => by simp only [List.mem_cons]; exact ⟨fun y => y.elim Or.inr Or.inl, fun y => y.elim Or.inr Or.inl⟩), ⟨g1, fun e he => by rw [sI_cell he]; exact g2 e he⟩, ?_, by rw [List.length_cons, sl], List.nodup_cons.mpr ⟨nt, sn⟩, fun t ht => ?_, fun j t hj => ?_⟩
      · rw [i32_add (by show _ ≤ _ + (-1 : Int); omega) (by show _ + (-1 : Int) ≤ _; omega)]
        show _ + (-1 : Int) = _
        omega
      · exact dq.trans (Int.natCast_ediv c' N).symm
      · rw [er, rw1, List.append_assoc, Nat.sub_sub]
        rfl
      · rcases List.mem_cons.mp ht with y | y
        · omega
        · exact s5 t y
      · cases j with
        | zero =>
          cases hj
          rw [Nat.add_zero, Nat.sub_sub, sI_same]
        | succ j =>
          have hs : s[j]? = some t := hj
          rw [show k - (i + 1) + (j + 1) = k - i + j by omega, sI_nj (by omega)]
          exact sr j t hs
    · rw [e1, bt.1] at b
      have tb : M.testBit (1 + c' % N) = true := by
        cases hb : M.testBit (1 + c' % N) with
        | true => rfl
        | false => rw [hb] at b; exact absurd b (by decide)
      have mt : 1 + c' % N ∈ s := (hM.2 _ (by omega)).mp tb
      refine w_Model_isRow_57 ?_
      refine ⟨⟨g1, fun e he => by rw [sI_cell he]; exact g2 e he⟩, Or.inr ⟨rfl, fun nd => ?_⟩⟩
      rw [er, rw1, List.append_assoc] at nd
      have z1 := (List.nodup_append.mp nd).2.1
      exact (List.nodup_cons.mp z1).1 mt
/-- the same but for the reference's rows -/
def Sm3 (h g : MH) : Prop := g.2 = h.2 ∧ (∀ c, c ≠ 84 → c ≠ 93 → c ≠ 94 → g.1 c = h.1 c) ∧ ∀ j, j ≠ 32 → g.1 84 j = h.1 84 j
theorem Sm3.rfl : Sm3 h h := ⟨Eq.refl _, fun _ _ _ _ => Eq.refl _, fun _ _ => Eq.refl _⟩
theorem Sm3.trans {g f : MH} (k : Sm3 h g) (q : Sm3 g f) : Sm3 h f := ⟨q.1.trans k.1, fun c h1 h2 h3 => (q.2.1 c h1 h2 h3).trans (k.2.1 c h1 h2 h3), fun j hj => (q.2.2 j hj).trans (k.2.2 j hj)⟩
theorem Sm3.keep {g : MH} (k : Sm3 h g) : Keep h g := ⟨k.1, fun c hc => k.2.1 c (fun e => hc (e ▸ scrI 84 (by omega))) (fun e => hc (e ▸ scrI 93 (by omega))) (fun e => hc (e ▸ scrI 94 (by omega)))⟩
theorem Sm3.ml {g : MH} (k : Sm3 h g) (M : MLand h a l) (ha : a + 9 ≤ 45) : MLand g a l := M.keep k.keep ha (k.2.2 _ (by omega)) (k.2.2 _ (by omega)) (k.2.2 _ (by omega)) (k.2.2 _ (by omega))
theorem Sm3.ar {g : MH} (k : Sm3 h g) (T : ArrT h a) (ha : a + 9 ≤ 45) : ArrT g a := by
  have e (c : Nat) (hc : c < 45 ∨ (88 ≤ c ∧ c < 92)) : g.1 c = h.1 c := k.2.1 c (by omega) (by omega) (by omega)
  intro b hb
  rw [e a (by omega)] at hb
  rw [e 88 (by omega), e 89 (by omega), e 90 (by omega), e 91 (by omega), e (a + 3) (by omega), e (a + 4) (by omega), e (a + 5) (by omega)]
  exact T b hb
theorem Sm3.tm {g : MH} {s : Int32} (k : Sm3 h g) (T : TabM h n s V) : TabM g n s V := ⟨by rw [k.2.2 13 (by omega)]; exact T.1, by rw [k.2.2 23 (by omega)]; exact T.2.1, fun f t hf ht => by rw [k.2.1 92 (by omega) (by omega) (by omega)]; exact T.2.2 f t hf ht⟩
def mostV (S : Nat → Nat) (B : Option (List Nat)) : Int32 := match B with
  | none => -1
  | some b => Int32.ofNat (S 0 + smF S b)
/-- what stands behind the rows ahead of row c of those of k towns -/
def BstM (g : MH) (S : Nat → Nat) (V : Nat → Nat → Nat) (n D N k c : Nat) (B : Option (List Nat)) : Prop := (∀ b, B = some b → (g.1 84 32 = Int32.ofNat b.length ∧ RowAt g 94 b) ∧ Vd V n D b ∧ b.length ≤ 5 ∧ (b.length < k ∨ (b.length = k ∧ ∃ c', c' < c ∧ b = rowF N k c'))) ∧ ∀ r, Vd V n D r → (r.length < k ∨ ∃ c', c' < c ∧ r = rowF N k c') → ∃ b, B = some b ∧ Gd S b r
theorem tours_loop (L : Lay h.2) (hn : n = N + 1) (n6 : n ≤ 6) (h13 : (h.1 84 13).toInt = (n : Int)) (hs : ∀ t, S t ≤ 480) {xd xl xm : Int32} (tr : ∀ (g : MH) (r : List Nat) (xn : Int32), Sm3 h g → RowAt g 93 r → r.length ≤ 5 → (∀ t ∈ r, t < n) → xn.toInt = (r.length : Int) → Tc rod (d + 4) 251 [.inr (.inr (.inl (some 84))), .inl xn, .inl xd, .inl xl] g (some (.inl (if dsF V 0 r ≤ D then Int32.ofNat (S 0 + smF S r) else -1))) g) {u7 u8 u9 : Option MV} : Wb rod (d + 4) B_Model_tours 18 [some (.inr (.inr (.inl (some 84)))), some (.inl xd), some (.inl xl), some (.inl xm), some (.inl (-1)), some (.inl 1), some (.inl 0), u7, u8, u9] [] h (fun r h' => Sm3 h h' ∧ ∃ b, r = some (.inl (Int32.ofNat (S 0 + smF S b))) ∧ (h'.1 84 32 = Int32.ofNat b.length ∧ RowAt h' 94 b) ∧ Vd V n D b ∧ b.length ≤ 5 ∧ ∀ r, Vd V n D r → Gd S b r) := by
  have N5 : N ≤ 5 := by omega
  have pw : ∀ k, k ≤ 6 → N ^ k ≤ 15625 := fun k hk => Nat.le_trans (Nat.pow_le_pow_left N5 k) (Nat.le_trans (Nat.pow_le_pow_right (by omega) hk) (by decide))
  refine Wb.uph n (fun k L' g => ∃ (z6 : Int32) (B : Option (List Nat)) (u7 u8 u9 : Option MV), L' = [some (.inr (.inr (.inl (some 84)))), some (.inl xd), some (.inl xl), some (.inl xm), some (.inl (mostV S B)), some (.inl (Int32.ofNat (N ^ k))), some (.inl z6), u7, u8, u9] ∧ z6.toInt = (k : Int) ∧ Sm3 h g ∧ BstM g S V n D N k 0 B) ?_ (Nat.zero_le _) ⟨0, none, _, _, _, rfl, rfl, Sm3.rfl, fun b q => (nomatch q), fun r v q => by rcases q with q | ⟨c', q, _⟩ <;> omega⟩
  rintro k _ g hk ⟨z6, B, u7, u8, u9, rfl, hz, G, BM⟩ ih
  have Lg : Lay g.2 := G.1.symm ▸ L
  have g13 : (g.1 84 13).toInt = (n : Int) := by rw [G.2.2 13 (by omega)]; exact h13
  refine w_Model_tours_18 Lg (fun q => ?_) (fun q => ?_)
  · have kn : k = n := by omega
    subst kn
    obtain ⟨b, hb, -⟩ := BM.2 [] ⟨List.nodup_nil, fun u q => absurd q (by simp), Nat.zero_le _⟩ (Or.inl (by rw [List.length_nil]; omega))
    subst hb
    refine w_Model_tours_134 ?_
    have z := BM.1 b rfl
    refine ⟨G, b, rfl, z.1, z.2.1, z.2.2.1, fun r v => ?_⟩
    obtain ⟨b', e, gd⟩ := BM.2 r v (Or.inl (by have := v.len (by omega); omega))
    cases e
    exact gd
  have kn : k < n := by omega
  have pk := pw k (by omega)
  have tp := t_nat (n := N ^ k) (by omega)
  refine w_Model_tours_27 rfl ?_
  refine Wb.uph (N ^ k) (fun c L' g => ∃ (z7 : Int32) (B : Option (List Nat)) (u8 u9 : Option MV), L' = [some (.inr (.inr (.inl (some 84)))), some (.inl xd), some (.inl xl), some (.inl xm), some (.inl (mostV S B)), some (.inl (Int32.ofNat (N ^ k))), some (.inl z6), some (.inl z7), u8, u9] ∧ z7.toInt = (c : Int) ∧ Sm3 h g ∧ BstM g S V n D N k c B) ?_ (Nat.zero_le _) ⟨0, B, _, _, rfl, rfl, G, BM⟩
  clear G BM Lg g13 q
  rintro c _ g hc ⟨z7, B, u8, u9, rfl, h7, G, BM⟩ ihc
  have Lg : Lay g.2 := G.1.symm ▸ L
  have g13 : (g.1 84 13).toInt = (n : Int) := by rw [G.2.2 13 (by omega)]; exact h13
  refine w_Model_tours_30 (fun q => ?_) (fun q => ?_)
  · have ce : c = N ^ k := by omega
    refine w_Model_tours_117 Lg rfl ?_
    have e1 : Int32.ofNat (N ^ k) * (g.1 84 13 - 1) = Int32.ofNat (N ^ (k + 1)) := by
      have p1 := pw (k + 1) (by omega)
      rw [Nat.pow_succ] at p1 ⊢
      refine ofN ?_ (by omega)
      exact n_mul tp (n_sub g13 (show (1 : Int32).toInt = ((1 : Nat) : Int) from rfl) (by omega) (by omega) |>.trans (by omega)) (by omega)
    rw [e1]
    refine ih kn _ _ ⟨_, B, _, _, _, rfl, t_succ hz (by omega), G, fun b hb => ?_, fun r v w => ?_⟩
    · obtain ⟨x1, x2, x3, x4⟩ := BM.1 b hb
      exact ⟨x1, x2, x3, Or.inl (by omega)⟩
    · rcases w with w | ⟨c', w, _⟩
      · refine BM.2 r v ?_
        by_cases y : r.length = k
        · right
          by_cases N1 : 1 ≤ N
          · obtain ⟨c', x1, x2⟩ := rowF_sur N1 k r y (fun t ht => by have := v.2.1 t ht; omega)
            exact ⟨c', by omega, x2.symm⟩
          · cases r with
            | nil =>
              have k0 : k = 0 := by rw [← y]; rfl
              subst k0
              exact ⟨0, by rw [ce]; simp, rfl⟩
            | cons t r => have := v.2.1 t List.mem_cons_self; omega
        · left; omega
      · omega
  have cl : c < N ^ k := by omega
  have hN : k = 0 ∨ 1 ≤ N := by
    by_cases k0 : k = 0
    · exact Or.inl k0
    · right
      have : N ≠ 0 := fun e => by rw [e, Nat.zero_pow (by omega)] at cl; omega
      omega
  have hrl := rowF_len N k c
  have hrm : ∀ t ∈ rowF N k c, 1 ≤ t ∧ t < n := fun t ht => by
    rcases hN with k0 | N1
    · subst k0; simp [rowF] at ht
    · have := rowF_mem N1 k c t ht; omega
  /- the next row -/
  have next : ∀ (f : MH) (B' : Option (List Nat)) (u8 u9 : Option MV), Sm3 h f → BstM f S V n D N k (c + 1) B' → Wb rod (d + 4) B_Model_tours 111 [some (.inr (.inr (.inl (some 84)))), some (.inl xd), some (.inl xl), some (.inl xm), some (.inl (mostV S B')), some (.inl (Int32.ofNat (N ^ k))), some (.inl z6), some (.inl z7), u8, u9] [] f (fun r h' => Sm3 h h' ∧ ∃ b, r = some (.inl (Int32.ofNat (S 0 + smF S b))) ∧ (h'.1 84 32 = Int32.ofNat b.length ∧ RowAt h' 94 b) ∧ Vd V n D b ∧ b.length ≤ 5 ∧ ∀ r, Vd V n D r → Gd S b r) := by
    intro f B' u8 u9 F X
    refine w_Model_tours_111 rfl ?_
    exact ihc cl _ _ ⟨_, B', _, _, rfl, t_succ h7 (by omega), F, X⟩
  have keepB : ∀ f : MH, f.1 94 = g.1 94 → f.1 84 32 = g.1 84 32 → (Vd V n D (rowF N k c) → ∃ b, B = some b ∧ Gd S b (rowF N k c)) → BstM f S V n D N k (c + 1) B := by
    intro f f94 f32 hr
    refine ⟨fun b hb => ?_, fun r v w => ?_⟩
    · obtain ⟨x1, x2, x3, x4⟩ := BM.1 b hb
      refine ⟨⟨by rw [f32]; exact x1.1, fun i t hi => by rw [f94]; exact x1.2 i t hi⟩, x2, x3, ?_⟩
      rcases x4 with y | ⟨y, c', y1, y2⟩
      · exact Or.inl y
      · exact Or.inr ⟨y, c', by omega, y2⟩
    · rcases w with w | ⟨c', w, e⟩
      · exact BM.2 r v (Or.inl w)
      · by_cases y : c' = c
        · subst y; subst e; exact hr v
        · exact BM.2 r v (Or.inr ⟨c', by omega, e⟩)
  refine w_Model_tours_37 Lg (r_isRow Lg (by rw [g13, hn]) N5 z7 z6 h7 hz (by omega) hN) ?_
  rintro _ g1 ⟨⟨q1, q2⟩, ⟨rfl, nd, R⟩ | ⟨rfl, nd⟩⟩
  · have G1 : Sm3 h g1 := G.trans ⟨q1, fun e h1 h2 h3 => q2 e h2, fun j _ => by rw [q2 84 (by omega)]⟩
    have L1 : Lay g1.2 := G1.1.symm ▸ L
    refine w_Model_tours_45 (fun _ => ?_) (fun w => absurd w (by decide))
    refine w_Model_tours_51 L1 (Tc.wc (tr g1 (rowF N k c) z6 G1 R (by omega) (fun t ht => (hrm t ht).2) (by rw [hrl]; exact hz))) (Is.k ?_)
    have bs := smF_le hs (rowF N k c)
    have b0 := hs 0
    rw [hrl] at bs
    have mv : ∀ b, B = some b → (mostV S B).toInt = ((S 0 + smF S b : Nat) : Int) := fun b hb => by
      have bb := smF_le hs b
      have b5 := (BM.1 b hb).2.2.1
      rw [hb]
      exact t_nat (by omega)
    refine w_Model_tours_59 rfl (fun w => ?_) (fun w => ?_)
    · by_cases dd : dsF V 0 (rowF N k c) ≤ D
      · rw [if_pos dd] at w ⊢
        have vr : Vd V n D (rowF N k c) := ⟨nd, hrm, dd⟩
        rw [t_nat (by omega)] at w
        refine w_Model_tours_71 L1 rfl ?_
        refine w_Model_tours_81 rfl ?_
        refine Wb.uph k (fun i L' f => ∃ (z9 : Int32), L' = [some (.inr (.inr (.inl (some 84)))), some (.inl xd), some (.inl xl), some (.inl xm), some (.inl (mostV S (some (rowF N k c)))), some (.inl (Int32.ofNat (N ^ k))), some (.inl z6), some (.inl z7), some (.inl (Int32.ofNat (S 0 + smF S (rowF N k c)))), some (.inl z9)] ∧ z9.toInt = (i : Int) ∧ Sm3 h f ∧ f.1 84 32 = z6 ∧ RowAt f 93 (rowF N k c) ∧ ∀ j t, j < i → (rowF N k c)[j]? = some t → f.1 94 j = Int32.ofNat t) ?_ (Nat.zero_le _) ⟨0, rfl, rfl, G1.trans ⟨rfl, fun e h1 _ _ => sI_cell h1, fun j hj => sI_nj hj⟩, sI_same, fun i t hi => by rw [sI_nc (by omega)]; exact R i t hi, fun j t hj => absurd hj (by omega)⟩
        rintro i _ f hi ⟨z9, rfl, h9, F, f32, Rf, f94⟩ ihi
        have Lf : Lay f.2 := F.1.symm ▸ L
        refine w_Model_tours_84 (fun y => ?_) (fun y => ?_)
        · have ik : i = k := by omega
          subst ik
          refine next f (some (rowF N i c)) _ _ F ⟨fun b hb => ?_, fun r v x => ?_⟩
          · cases hb
            exact ⟨⟨by rw [f32, hrl]; exact ofN hz (by omega), fun j t hj => f94 j t (by have := (List.getElem?_eq_some_iff.mp hj).1; omega) hj⟩, vr, by omega, Or.inr ⟨hrl, c, by omega, rfl⟩⟩
          · refine ⟨_, rfl, ?_⟩
            have old : ∀ r, Vd V n D r → (r.length < i ∨ ∃ c', c' < c ∧ r = rowF N i c') → Gd S (rowF N i c) r := fun r v x => by
              obtain ⟨b, hb, gd⟩ := BM.2 r v x
              have := mv b hb
              exact Gd.trans (Or.inl (by omega)) gd
            rcases x with x | ⟨c', x, e⟩
            · exact old r v (Or.inl x)
            · by_cases x2 : c' = c
              · subst x2; subst e; exact Gd.rfl
              · exact old r v (Or.inr ⟨c', by omega, e⟩)
        · have il : i < k := by omega
          refine w_Model_tours_91 Lf (by omega) ?_
          refine w_Model_tours_105 rfl ?_
          rw [n_eq h9]
          refine ihi il _ _ ⟨_, rfl, t_succ h9 (by omega), F.trans ⟨rfl, fun e h1 h2 h3 => sI_cell h3, fun j _ => sI_nc (by omega)⟩, by rw [sI_nc (by omega)]; exact f32, fun j t hj => by rw [sI_nc (by omega)]; exact Rf j t hj, fun j t hj ht => ?_⟩
          by_cases x : j = i
          · subst x; rw [sI_same]; exact Rf j t ht
          · rw [sI_nj x]; exact f94 j t (by omega) ht
      · rw [if_neg dd] at w
        have : (mostV S B).toInt < -1 := w
        cases hB : B with
        | none => rw [hB] at this; exact absurd this (by show ¬ (-1 : Int) < -1; omega)
        | some b => have := mv b hB; omega
    · refine w_Model_tours_68 ?_
      refine next g1 B _ _ G1 (keepB g1 (q2 94 (by omega)) (by rw [q2 84 (by omega)]) (fun v => ?_))
      rw [if_pos v.2.2, t_nat (by omega)] at w
      cases hB : B with
      | none =>
        rw [hB] at w
        have : ¬ (-1 : Int) < _ := w
        omega
      | some b =>
        refine ⟨b, rfl, ?_⟩
        have x := mv b hB
        have x4 := (BM.1 b hB).2.2.2
        by_cases e : smF S (rowF N k c) = smF S b
        · right
          refine ⟨e, ?_⟩
          rcases x4 with y | ⟨y, c', y1, y2⟩
          · left; omega
          · right
            refine ⟨by omega, ?_⟩
            have N1 : 1 ≤ N := by
              rcases hN with k0 | N1
              · subst k0
                simp at cl
                omega
              · exact N1
            have := rowF_mono ⟨N1, N5⟩ k (by omega) c' c y1 cl
            rw [← y2] at this
            exact Nat.le_trans (Nat.le_add_right _ _) this
        · left; omega
  · have G1 : Sm3 h g1 := G.trans ⟨q1, fun e h1 h2 h3 => q2 e h2, fun j _ => by rw [q2 84 (by omega)]⟩
    refine w_Model_tours_45 (fun w => absurd w (by decide)) (fun _ => ?_)
    refine w_Model_tours_48 ?_
    exact next g1 B _ _ G1 (keepB g1 (q2 94 (by omega)) (by rw [q2 84 (by omega)]) (fun v => absurd v.1 nd))
end M75
