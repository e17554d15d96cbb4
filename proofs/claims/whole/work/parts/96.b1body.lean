/-! THE READER: the reference's lines, their bodies -/
section M96b
variable {rod : Nat → Nat × (Nat → Int32)} {d : Nat} {h g g1 : MH} {T : Nat → Int} {len : Nat} {X Y : XS} {lo hi : Int} {t k a s0 n : Nat} {R : Nat → Int}
def PL (c j : Nat) : Prop := PY c j ∨ (c = 84 ∧ j = 11) ∨ c = 87
theorem Fr.pl (F : Fr PY h g) : Fr PL h g := F.mono fun _ _ q => Or.inl q
theorem EnvA.fl (E : EnvA h T len) (F : Fr PL h g) : EnvA g T len := ⟨by rw [F.2 84 2 (by unfold PL PY PX; omega)]; exact E.1, E.2.1, fun p hp => by rw [F.2 85 (10 + p) (by unfold PL PY PX; omega)]; exact E.2.2 p hp⟩
/-- towns told of, by bits and by the greatest -/
def FT (n : Nat) (f : Int) : Prop := n < 64 ∧ ∀ m : Nat, m ≤ 6 → (2 ^ m ≤ n ↔ (m : Int) ≤ f)
theorem or_bits : ∀ n, n < 64 → ∀ t, t < 6 → (n ||| 2 ^ t) < 64 ∧ ∀ m, m < 7 → (2 ^ m ≤ (n ||| 2 ^ t) ↔ (2 ^ m ≤ n ∨ m ≤ t)) := by decide +kernel
theorem FT.or {f : Int} (q : FT n f) (ht : t < 6) : FT (n ||| 2 ^ t) (if f < (t : Int) then (t : Int) else f) := by
  have o := or_bits n q.1 t ht
  refine ⟨o.1, fun m hm => ?_⟩
  rw [o.2 m (by omega), q.2 m hm]
  split <;> omega
def Q87 (g : MH) (R : Nat → Int) : Prop := ∀ j, j < 121 → (g.1 87 j).toInt = R j
theorem Q87.up (q : Q87 g R) {x : Int32} {y : Int} (e : x.toInt = y) (i : Nat) : Q87 (sI g 87 i x) (updR R i y) := by
  intro j hj
  rw [updR]
  split
  · rename_i c
    rw [c, sI_same]; exact e
  · rename_i c
    rw [sI_nj c]; exact q j hj
def RR (t : Nat) (g : MH) (R : Nat → Int) (n : Nat) : Prop := Q87 g R ∧ (t = 0 → FT n (g.1 84 9).toInt) ∧ (t = 3 → (g.1 84 11).toInt = (n : Int) ∧ n < 16)
def RN (t : Nat) (g : MH) : Prop := (t = 0 → bw (g.1 87 1) 0 8 ∧ bw (g.1 87 2) 0 4 ∧ bw (g.1 87 5) 0 63) ∧ (t = 1 → bw (g.1 87 0) 0 40) ∧ (t = 2 → bw (g.1 87 0) 0 20)
theorem Fr.kc87 (F : Fr PY h g) : g.1 87 = h.1 87 := F.cell 87 (fun j => by unfold PY PX; omega)
theorem RN.fy (r : RN t h) (F : Fr PY h g) : RN t g := by
  simp only [RN, F.kc87]
  exact r
theorem Q87.fy (r : Q87 h R) (F : Fr PY h g) : Q87 g R := by
  simp only [Q87, F.kc87]
  exact r
theorem RR.fx (r : RR t h R n) (F : Fr PX h g) : RR t g R n := ⟨r.1.fy F.py, by rw [F.2 84 9 (by unfold PX; omega)]; exact r.2.1, by rw [F.2 84 11 (by unfold PX; omega)]; exact r.2.2⟩
theorem MrX.s87 (M : MrX T len g X) (i : Nat) (x : Int32) : MrX T len (sI g 87 i x) X := by
  refine ⟨?_, ?_, ?_, fun q => ?_⟩
  · rw [sI_nc (by omega)]; exact M.1
  · rw [sI_nc (by omega)]; exact M.2.1
  · rw [sI_nc (by omega)]; exact M.2.2.1
  · have tk := M.2.2.2 q
    simp only [TokM] at tk ⊢
    simp (disch := omega) only [sI_nc]
    exact tk
theorem MrX.s11 (M : MrX T len g X) (x : Int32) : MrX T len (sI g 84 11 x) X := by
  refine ⟨?_, ?_, ?_, fun q => ?_⟩
  · rw [sI_nj (by omega)]; exact M.1
  · rw [sI_nc (by omega)]; exact M.2.1
  · rw [sI_nc (by omega)]; exact M.2.2.1
  · have tk := M.2.2.2 q
    simp only [TokM] at tk ⊢
    simp (disch := omega) only [sI_nj]
    exact tk
theorem PL.s (i : Nat) : PL 87 i := Or.inr (Or.inr rfl)
theorem ex_no {i : Nat} (q : k ≠ 4 ∨ i ≠ 1) : exX T len k i s0 = false := decide_eq_false (by omega)
theorem WF.n3 (w : WF len Y) (h1 : Y.1 = false) (ha : a < Y.2.1) (c : Bool) : WF len (ntX c 3 a Y) := by
  rw [ntX]
  split
  · exact ⟨fun q => absurd (h1.symm.trans q) (by decide), fun _ => ⟨by show (3 : Nat) ≠ 1; decide, (w.2 h1).2.1, Or.inr (Or.inl (by show (a : Int) < (Y.2.1 : Int); omega))⟩⟩
  · exact w
theorem nt3_f0 {c : Bool} {b : Nat} (hb : b ≠ 0) (q : (ntX c b a Y).2.2.1 = 0) : c = false ∧ Y.2.2.1 = 0 := by
  rw [ntX] at q
  split at q
  · exact absurd q hb
  · rename_i z
    refine ⟨?_, q⟩
    cases c with
    | true => exact absurd ⟨rfl, q⟩ z
    | false => rfl
/-- before a line's body, behind its word -/
def PreB (T : Nat → Int) (len t s0 a : Nat) (g : MH) (Y : XS) : Prop := Lay g.2 ∧ EnvA g T len ∧ MrX T len g Y ∧ WF len Y ∧ Y.1 = false ∧ Y.2.1 = tpI T len s0 1 ∧ RN t g ∧ a < Y.2.1 ∧ (Y.2.2.1 = 0 ∨ Y.2.2.2 < (a : Int) ∨ (Y.2.2.2 = (a : Int) ∧ Y.2.2.1 = 2))
def PostB (T : Nat → Int) (len t k s0 a : Nat) (g : MH) (Y : XS) (g' : MH) : Prop := Fr PL g g' ∧ ∃ c : Bool, (∀ R n, RR t g R n → c = tooM k R) ∧ MrX T len g' (numsX T len k s0 (nbh k) (ntX c 3 a Y)) ∧ RN t g' ∧ ((numsX T len k s0 (nbh k) (ntX c 3 a Y)).2.2.1 = 0 → ∀ R n, RR t g R n → RR t g' (tellR k (vlI T len s0) R) (tellN k (vlI T len s0) n))
/-- one number, kept at i -/
theorem post_one (P : PreB T len t s0 a g Y) (F1 : Fr PX g g1) (M1 : MrX T len g1 (numX T len lo hi false Y)) {v : Int32} (ev : v.toInt = nvX T len lo hi Y) {i : Nat} (hk : nbh k = 1) (e1 : loF k 0 = lo) (e2 : hiF k 0 = hi) (tm : ∀ R, tooM k R = false) (tr : ∀ v R, tellR k v R = updR R i (v 0)) (tn : ∀ v n, tellN k v n = n) (ht : t = 0 ∨ t = 3) (hix : i ≠ 1 ∧ i ≠ 2 ∧ i ≠ 5) : PostB T len t k s0 a g Y (sI g1 87 i v) := by
  obtain ⟨L, E, M, w, h1, hs, rn, ha, pa⟩ := P
  have en : numsX T len k s0 (nbh k) (ntX false 3 a Y) = numX T len lo hi false Y := by
    rw [hk, nt_false]
    show numX T len (loF k 0) (hiF k 0) (exX T len k 0 s0) Y = _
    rw [e1, e2, ex_no (Or.inr (by decide))]
  refine ⟨F1.py.pl.si (PL.s _), false, fun R n _ => (tm R).symm, ?_, ?_, ?_⟩
  · rw [en]; exact M1.s87 _ _
  · have r := rn.fy F1.py
    refine ⟨fun q => ?_, fun q => absurd q (by omega), fun q => absurd q (by omega)⟩
    rw [sI_nj hix.1.symm, sI_nj hix.2.1.symm, sI_nj hix.2.2.symm]
    exact r.1 q
  · rw [en]
    intro q R n rr
    have r2 := rr.fx F1
    rw [tr, tn]
    refine ⟨r2.1.up ?_ i, fun z => by rw [sI_nc (by omega)]; exact r2.2.1 z, fun z => by rw [sI_nc (by omega)]; exact r2.2.2 z⟩
    rw [ev, nv_f0 w q, hs]
    rfl
theorem sh_bit : ∀ t, t < 6 → ∀ x : Nat, x < 64 → (Int32.ofNat x ||| ((1 : Int32) <<< (Int32.ofNat t &&& 31))).toInt = ((x ||| 2 ^ t : Nat) : Int) := by decide +kernel
theorem post_shut (P : PreB T len 0 s0 a g Y) (F1 : Fr PY g g1) (M1 : MrX T len g1 (numX T len 0 5 false Y)) {v : Int32} (ev : v.toInt = nvX T len 0 5 Y) (e9 : (g1.1 84 9).toInt = (if (g.1 84 9).toInt < v.toInt then v.toInt else (g.1 84 9).toInt)) : PostB T len 0 7 s0 a g Y (sI g1 87 5 (g.1 87 5 ||| ((1 : Int32) <<< (v &&& 31)))) := by
  obtain ⟨L, E, M, w, h1, hs, rn, ha, pa⟩ := P
  have en : numsX T len 7 s0 (nbh 7) (ntX false 3 a Y) = numX T len 0 5 false Y := by
    rw [nt_false]
    show numX T len (loF 7 0) (hiF 7 0) (exX T len 7 0 s0) Y = _
    rw [ex_no (Or.inr (by decide))]
    rfl
  have vb := nv_bd (T := T) (len := len) (X := Y) (show (0 : Int) ≤ 5 by decide)
  have v0 := n_of (x := v) (by omega)
  have v5 : v.toNatClampNeg < 6 := by omega
  have vo : v = Int32.ofNat v.toNatClampNeg := ofN v0 (by omega)
  have b5 := (rn.1 rfl).2.2
  have x0 := n_of (x := g.1 87 5) b5.1
  have xo : g.1 87 5 = Int32.ofNat (g.1 87 5).toNatClampNeg := ofN x0 (by have := b5.2; omega)
  have sb := sh_bit v.toNatClampNeg (by omega) (g.1 87 5).toNatClampNeg (by have := b5.2; omega)
  rw [← vo, ← xo] at sb
  have ob := or_bits (g.1 87 5).toNatClampNeg (by have := b5.2; omega) v.toNatClampNeg (by omega)
  refine ⟨F1.pl.si (PL.s _), false, fun R n _ => rfl, ?_, ?_, ?_⟩
  · rw [en]; exact M1.s87 _ _
  · have r := rn.fy F1
    refine ⟨fun q => ?_, fun q => absurd q (by decide), fun q => absurd q (by decide)⟩
    rw [sI_nj (by decide), sI_nj (by decide), sI_same]
    refine ⟨(r.1 q).1, (r.1 q).2.1, ?_⟩
    rw [bw, sb]
    omega
  · rw [en]
    intro q R n rr
    have f0 := nv_f0 w q
    rw [f0, hs] at ev
    have ev : v.toInt = vlI T len s0 0 := ev
    have vt : (vlI T len s0 0).toNat = v.toNatClampNeg := by omega
    have r5 : (R 5).toNat = (g.1 87 5).toNatClampNeg := by have := rr.1 5 (by decide); omega
    refine ⟨?_, fun z => ?_, fun z => absurd z (by decide)⟩
    · refine (rr.1.fy F1).up ?_ 5
      rw [sb, r5, vt]
    · rw [sI_nc (by omega), e9]
      show FT (n ||| 2 ^ (vlI T len s0 0).toNat) _
      rw [vt, v0]
      exact (rr.2.1 z).or v5
theorem r_too (L : Lay g.2) (M : MrX T len g Y) (w : WF len Y) (h1 : Y.1 = false) (ha : a < Y.2.1) (pa : Y.2.2.1 = 0 ∨ Y.2.2.2 < (a : Int) ∨ (Y.2.2.2 = (a : Int) ∧ Y.2.2.1 = 2)) {x : Int32} (ex : x.toInt = (a : Int)) : Wc rod (d + 1) 208 [.inr (.inr (.inl (some 84))), .inl 3, .inl x] g (fun r g' => r = none ∧ Fr PX g g' ∧ MrX T len g' (ntX true 3 a Y)) := r_also L M h1 (k := 3) rfl ex (by omega)
theorem nums_b (hk : k < 4) (Y : XS) : numsX T len k s0 (nbh k) Y = numX T len 0 9 false (numX T len 0 99 false (numX T len 0 99 false (numX T len 0 5 false Y))) := by
  rcases (show k = 0 ∨ k = 1 ∨ k = 2 ∨ k = 3 by omega) with rfl | rfl | rfl | rfl
  · show numX T len _ _ (exX T len 0 3 s0) (numX T len _ _ (exX T len 0 2 s0) (numX T len _ _ (exX T len 0 1 s0) (numX T len _ _ (exX T len 0 0 s0) Y))) = _
    rw [ex_no (Or.inl (by decide)), ex_no (Or.inl (by decide)), ex_no (Or.inl (by decide)), ex_no (Or.inl (by decide))]
    rfl
  · show numX T len _ _ (exX T len 1 3 s0) (numX T len _ _ (exX T len 1 2 s0) (numX T len _ _ (exX T len 1 1 s0) (numX T len _ _ (exX T len 1 0 s0) Y))) = _
    rw [ex_no (Or.inl (by decide)), ex_no (Or.inl (by decide)), ex_no (Or.inl (by decide)), ex_no (Or.inl (by decide))]
    rfl
  · show numX T len _ _ (exX T len 2 3 s0) (numX T len _ _ (exX T len 2 2 s0) (numX T len _ _ (exX T len 2 1 s0) (numX T len _ _ (exX T len 2 0 s0) Y))) = _
    rw [ex_no (Or.inl (by decide)), ex_no (Or.inl (by decide)), ex_no (Or.inl (by decide)), ex_no (Or.inl (by decide))]
    rfl
  · show numX T len _ _ (exX T len 3 3 s0) (numX T len _ _ (exX T len 3 2 s0) (numX T len _ _ (exX T len 3 1 s0) (numX T len _ _ (exX T len 3 0 s0) Y))) = _
    rw [ex_no (Or.inl (by decide)), ex_no (Or.inl (by decide)), ex_no (Or.inl (by decide)), ex_no (Or.inl (by decide))]
    rfl
theorem four_f0 (w : WF len Y) (hs : Y.2.1 = tpI T len s0 1) (q : (numX T len 0 9 false (numX T len 0 99 false (numX T len 0 99 false (numX T len 0 5 false Y)))).2.2.1 = 0) : nvX T len 0 5 Y = vlI T len s0 0 ∧ nvX T len 0 99 (numX T len 0 5 false Y) = vlI T len s0 1 ∧ nvX T len 0 99 (numX T len 0 99 false (numX T len 0 5 false Y)) = vlI T len s0 2 ∧ nvX T len 0 9 (numX T len 0 99 false (numX T len 0 99 false (numX T len 0 5 false Y))) = vlI T len s0 3 ∧ Y.2.2.1 = 0 := by
  have w1 := w.num (T := T) (lo := 0) (hi := 5) (ex := false)
  have w2 := w1.num (T := T) (lo := 0) (hi := 99) (ex := false)
  have w3 := w2.num (T := T) (lo := 0) (hi := 99) (ex := false)
  have n4 := num_f0 w3 q
  have n3 := num_f0 w2 n4.2.1
  have n2 := num_f0 w1 n3.2.1
  have n1 := num_f0 w n2.2.1
  have s1 : (numX T len 0 5 false Y).2.1 = tpI T len s0 2 := by rw [n1.2.2.2.2.2.2, hs]; rfl
  have s2 : (numX T len 0 99 false (numX T len 0 5 false Y)).2.1 = tpI T len s0 3 := by rw [n2.2.2.2.2.2.2, s1]; rfl
  have s3 : (numX T len 0 99 false (numX T len 0 99 false (numX T len 0 5 false Y))).2.1 = tpI T len s0 4 := by rw [n3.2.2.2.2.2.2, s2]; rfl
  refine ⟨?_, ?_, ?_, ?_, n1.2.1⟩
  · rw [nv_f0 w n2.2.1, hs]; rfl
  · rw [nv_f0 w1 n3.2.1, s1]; rfl
  · rw [nv_f0 w2 n4.2.1, s2]; rfl
  · rw [nv_f0 w3 q, s3]; rfl
/-- what a buyer's line writes -/
theorem buy_w {g4 : MH} {n1 : Nat} (L4 : Lay g4.2) (e1 : (g4.1 87 1).toInt = (n1 : Int)) (l8 : n1 < 8) {xk v0 v1 v2 v3 : Int32} {u1 u3 : Option MV} {Q : Option MV → MH → Prop} (hq : Q none (sI (sI (sI (sI (sI (sI g4 87 (6 + 5 * n1) xk) 87 (6 + 5 * n1 + 1) v0) 87 (6 + 5 * n1 + 2) v1) 87 (6 + 5 * n1 + 3) v2) 87 (6 + 5 * n1 + 4) v3) 87 1 (g4.1 87 1 + 1))) : Wb rod d B_Model_buyerLine 72 [some (.inr (.inr (.inl (some 84)))), u1, some (.inl xk), u3, some (.inl v0), some (.inl v1), some (.inl v2), some (.inl v3), none] [] g4 Q := by
  have e8 : ((6 : Int32) + ((5 : Int32) * (g4.1 87 1))).toInt = ((6 + 5 * n1 : Nat) : Int) := n_add (m := 6) rfl (n_mul (m := 5) rfl e1 (by omega)) (by omega)
  have f1 := n_add (y := 1) (n := 1) e8 rfl (by omega)
  have f2 := n_add (y := 2) (n := 2) e8 rfl (by omega)
  have f3 := n_add (y := 3) (n := 3) e8 rfl (by omega)
  have f4 := n_add (y := 4) (n := 4) e8 rfl (by omega)
  refine w_Model_buyerLine_72 L4 rfl (by rw [k1, e8]; omega) ?_
  rw [k1, n_eq e8]
  refine w_Model_buyerLine_93 (h := sI g4 87 (6 + 5 * n1) xk) L4 (by rw [f1]; omega) ?_
  rw [n_eq f1]
  refine w_Model_buyerLine_104 (h := sI (sI g4 87 (6 + 5 * n1) xk) 87 (6 + 5 * n1 + 1) v0) L4 (by rw [f2]; omega) ?_
  rw [n_eq f2]
  refine w_Model_buyerLine_115 (h := sI (sI (sI g4 87 (6 + 5 * n1) xk) 87 (6 + 5 * n1 + 1) v0) 87 (6 + 5 * n1 + 2) v1) L4 (by rw [f3]; omega) ?_
  rw [n_eq f3]
  refine w_Model_buyerLine_126 (h := sI (sI (sI (sI g4 87 (6 + 5 * n1) xk) 87 (6 + 5 * n1 + 1) v0) 87 (6 + 5 * n1 + 2) v1) 87 (6 + 5 * n1 + 3) v2) L4 (by rw [f4]; omega) ?_
  rw [n_eq f4]
  refine w_Model_buyerLine_137 (h := sI (sI (sI (sI (sI g4 87 (6 + 5 * n1) xk) 87 (6 + 5 * n1 + 1) v0) 87 (6 + 5 * n1 + 2) v1) 87 (6 + 5 * n1 + 3) v2) 87 (6 + 5 * n1 + 4) v3) L4 ?_
  refine w_Model_buyerLine_147 ?_
  rw [k1]
  simp (disch := omega) only [sI_nj]
  exact hq
theorem r_buyer (P : PreB T len 0 s0 a g Y) (hk : k < 4) {xa xk : Int32} (ea : xa.toInt = (a : Int)) (ek : xk.toInt = (k : Int)) : Wc rod (d + 7) 210 [.inr (.inr (.inl (some 84))), .inl xa, .inl xk] g (fun r g' => r = none ∧ PostB T len 0 k s0 a g Y g') := by
  obtain ⟨L, E, M, w, h1, hs, rn, ha, pa⟩ := P
  have b1 := (rn.1 rfl).1
  have nn := n_of (x := g.1 87 1) b1.1
  have b1' := b1.2
  -- behind the too-many note
  have go : ∀ (c : Bool) (xc : Int32), (c = true ↔ 8 ≤ (g.1 87 1).toInt) → (xc.toInt = 0 ↔ c = true) → ∀ g1, Fr PX g g1 → MrX T len g1 (ntX c 3 a Y) → Wb rod (d + 6) B_Model_buyerLine 34 [some (.inr (.inr (.inl (some 84)))), some (.inl xa), some (.inl xk), some (.inl xc), none, none, none, none, none] [] g1 (fun r g' => r = none ∧ PostB T len 0 k s0 a g Y g') := by
    intro c xc hc hx g1 F1 M1
    have w0 := w.n3 h1 ha c
    have s0' : (ntX c 3 a Y).2.1 = tpI T len s0 1 := by rw [(nt_1 _ _ _).2]; exact hs
    refine w_Model_buyerLine_34 (L.fr F1) (r_townTold (L.fr F1) (E.fr F1) M1 w0) ?_
    rintro _ g2 ⟨v0, rfl, F2, M2, ev0, e9⟩
    have F12 := F1.py.trans F2
    have w1 := w0.num (T := T) (lo := 0) (hi := 5) (ex := false)
    refine w_Model_buyerLine_38 (L.fr F12) rfl (r_numbered (L.fr F12) (E.fy F12) M2 w1 (lo := 0) (hi := 99) rfl rfl) ?_
    rintro _ g3 ⟨v1, rfl, F3, M3, ev1⟩
    have F13 := F12.trans F3.py
    have w2 := w1.num (T := T) (lo := 0) (hi := 99) (ex := false)
    refine w_Model_buyerLine_47 (L.fr F13) rfl (r_numbered (L.fr F13) (E.fy F13) M3 w2 (lo := 0) (hi := 99) rfl rfl) ?_
    rintro _ g4 ⟨v2, rfl, F4, M4, ev2⟩
    have F14 := F13.trans F4.py
    have w3 := w2.num (T := T) (lo := 0) (hi := 99) (ex := false)
    refine w_Model_buyerLine_56 (L.fr F14) rfl (r_numbered (L.fr F14) (E.fy F14) M4 w3 (lo := 0) (hi := 9) rfl rfl) ?_
    rintro _ g5 ⟨v3, rfl, F5, M5, ev3⟩
    have F15 := F14.trans F5.py
    have tm : ∀ R n, RR 0 g R n → c = tooM k R := fun R n rr => by
      have e := rr.1 1 (by decide)
      rw [tooM, if_pos hk]
      cases c with
      | true => exact (decide_eq_true (by have := hc.mp rfl; omega)).symm
      | false => exact (decide_eq_false (fun z => absurd (hc.mpr (by omega)) (by decide))).symm
    refine w_Model_buyerLine_65 rfl (fun z => ?_) (fun z => ?_)
    · have cf : ¬ c = true := fun y => z (hx.mpr y)
      have l8 : ¬ 8 ≤ (g.1 87 1).toInt := fun y => cf (hc.mpr y)
      have e1 : (g5.1 87 1).toInt = ((g.1 87 1).toNatClampNeg : Int) := by rw [F15.kc87]; exact nn
      refine buy_w (L.fr F15) e1 (by omega) ⟨rfl, ?_⟩
      refine ⟨((((((F15.pl.si (PL.s _)).si (PL.s _)).si (PL.s _)).si (PL.s _)).si (PL.s _)).si (PL.s _)), c, tm, ?_, ?_, ?_⟩
      · rw [nums_b hk]
        exact ((((((M5.s87 _ _).s87 _ _).s87 _ _).s87 _ _).s87 _ _).s87 _ _)
      · have r := rn.fy F15
        refine ⟨fun q => ⟨?_, ?_, ?_⟩, fun q => absurd q (by decide), fun q => absurd q (by decide)⟩
        · rw [sI_same, bw, t_succ e1 (by omega)]
          omega
        · simp (disch := omega) only [sI_nj]
          exact (r.1 q).2.1
        · simp (disch := omega) only [sI_nj]
          exact (r.1 q).2.2
      · rw [nums_b hk]
        intro q R n rr
        have f := four_f0 w0 s0' q
        have r1 : R 1 = ((g.1 87 1).toNatClampNeg : Int) := by rw [← rr.1 1 (by decide)]; exact nn
        have rt : (R 1).toNat = (g.1 87 1).toNatClampNeg := by omega
        refine ⟨?_, fun z => ?_, fun z => absurd z (by decide)⟩
        · rw [tellR, if_pos hk, rt]
          refine ((((((rr.1.fy F15).up ek _).up (ev0.trans f.1) _).up (ev1.trans f.2.1) _).up (ev2.trans f.2.2.1) _).up (ev3.trans f.2.2.2.1) _).up ?_ 1
          rw [t_succ e1 (by omega), r1]
          rfl
        · rw [tellN, if_pos hk]
          simp (disch := omega) only [sI_nc]
          rw [F5.2 84 9 (by unfold PX; omega), F4.2 84 9 (by unfold PX; omega), F3.2 84 9 (by unfold PX; omega), e9, F1.2 84 9 (by unfold PX; omega)]
          have vb := nv_bd (T := T) (len := len) (X := ntX c 3 a Y) (show (0 : Int) ≤ 5 by decide)
          have e0 : v0.toInt = vlI T len s0 0 := ev0.trans f.1
          have v0n : v0.toInt = ((vlI T len s0 0).toNat : Int) := by omega
          rw [v0n]
          exact (rr.2.1 z).or (by omega)
    · have ct : c = true := hx.mp z
      refine w_Model_buyerLine_71 ?_
      refine ⟨rfl, F15.pl, c, tm, ?_, rn.fy F15, ?_⟩
      · rw [nums_b hk]; exact M5
      · rw [nums_b hk]
        intro q
        have f := four_f0 w0 s0' q
        exact absurd (nt3_f0 (by decide) f.2.2.2.2).1 (by rw [ct]; decide)
  refine n_Model_buyerLine ?_
  refine w_Model_buyerLine_0 L (fun c => ?_) (fun c => ?_)
  · rw [k1] at c
    refine w_Model_buyerLine_15 ?_
    refine w_Model_buyerLine_16 L rfl (fun z => absurd (M.w0 h1) z) (fun _ => ?_)
    refine w_Model_buyerLine_24 (fun z => absurd rfl z) (fun _ => ?_)
    refine w_Model_buyerLine_28 L (r_too L M w h1 ha pa ea) ?_
    rintro _ g1 ⟨rfl, F1, M1⟩
    exact go true 0 ⟨fun _ => c, fun _ => rfl⟩ ⟨fun _ => rfl, fun _ => rfl⟩ g1 F1 M1
  · rw [k1] at c
    refine w_Model_buyerLine_11 ?_
    refine w_Model_buyerLine_16 L rfl (fun z => absurd (M.w0 h1) z) (fun _ => ?_)
    refine w_Model_buyerLine_24 (fun _ => ?_) (fun z => absurd z (by decide))
    exact go false 1 ⟨fun z => absurd z (by decide), fun z => absurd z c⟩ ⟨fun z => absurd z (by decide), fun z => absurd z (by decide)⟩ g Fr.rfl (by rw [nt_false]; exact M)
/-! letters -/
theorem nums_l (Y : XS) : numsX T len 5 s0 (nbh 5) Y = numX T len 0 60 false (numX T len 1 60 false Y) := by
  show numX T len _ _ (exX T len 5 1 s0) (numX T len _ _ (exX T len 5 0 s0) Y) = _
  rw [ex_no (Or.inl (by decide)), ex_no (Or.inl (by decide))]
  rfl
theorem two_f0 {l1 h1 l2 h2 : Int} {e1 e2 : Bool} (w : WF len Y) (hs : Y.2.1 = tpI T len s0 1) (q : (numX T len l2 h2 e2 (numX T len l1 h1 e1 Y)).2.2.1 = 0) : nvX T len l1 h1 Y = vlI T len s0 0 ∧ nvX T len l2 h2 (numX T len l1 h1 e1 Y) = vlI T len s0 1 ∧ Y.2.2.1 = 0 ∧ Y.1 = false ∧ (numX T len l1 h1 e1 Y) = (false, tpI T len s0 2, 0, Y.2.2.2) := by
  have w1 := w.num (T := T) (lo := l1) (hi := h1) (ex := e1)
  have n2 := num_f0 w1 q
  have n1 := num_f0 w n2.2.1
  have s1 : numX T len l1 h1 e1 Y = (false, tpI T len s0 2, 0, Y.2.2.2) := by rw [n1.2.2.2.2.2.2, hs]; rfl
  refine ⟨?_, ?_, n1.2.1, n1.1, s1⟩
  · rw [nv_f0 w n2.2.1, hs]; rfl
  · rw [nv_f0 w1 q, s1]; rfl
theorem r_letter (P : PreB T len 0 s0 a g Y) {xa : Int32} (ea : xa.toInt = (a : Int)) : Wc rod (d + 6) 209 [.inr (.inr (.inl (some 84))), .inl xa] g (fun r g' => r = none ∧ PostB T len 0 5 s0 a g Y g') := by
  obtain ⟨L, E, M, w, h1, hs, rn, ha, pa⟩ := P
  have b1 := (rn.1 rfl).2.1
  have nn := n_of (x := g.1 87 2) b1.1
  have b1' := b1.2
  have go : ∀ (c : Bool) (xc : Int32), (c = true ↔ 4 ≤ (g.1 87 2).toInt) → (xc.toInt = 0 ↔ c = true) → ∀ g1, Fr PX g g1 → MrX T len g1 (ntX c 3 a Y) → Wb rod (d + 5) B_Model_letterLine 26 [some (.inr (.inr (.inl (some 84)))), some (.inl xa), some (.inl xc), none, none] [] g1 (fun r g' => r = none ∧ PostB T len 0 5 s0 a g Y g') := by
    intro c xc hc hx g1 F1 M1
    have w0 := w.n3 h1 ha c
    have s0' : (ntX c 3 a Y).2.1 = tpI T len s0 1 := by rw [(nt_1 _ _ _).2]; exact hs
    refine w_Model_letterLine_26 (L.fr F1) (r_numbered (L.fr F1) (E.fr F1) M1 w0 (lo := 1) (hi := 60) rfl rfl) ?_
    rintro _ g2 ⟨v0, rfl, F2, M2, ev0⟩
    have F12 := F1.trans F2
    have w1 := w0.num (T := T) (lo := 1) (hi := 60) (ex := false)
    refine w_Model_letterLine_33 (L.fr F12) rfl (r_numbered (L.fr F12) (E.fr F12) M2 w1 (lo := 0) (hi := 60) rfl rfl) ?_
    rintro _ g3 ⟨v1, rfl, F3, M3, ev1⟩
    have F13 := F12.trans F3
    have L3 := L.fr F13
    have tm : ∀ R n, RR 0 g R n → c = tooM 5 R := fun R n rr => by
      have e := rr.1 2 (by decide)
      show c = decide (4 ≤ R 2)
      cases c with
      | true => exact (decide_eq_true (by have := hc.mp rfl; omega)).symm
      | false => exact (decide_eq_false (fun z => absurd (hc.mpr (by omega)) (by decide))).symm
    refine w_Model_letterLine_41 rfl (fun z => ?_) (fun z => ?_)
    · have cf : ¬ c = true := fun y => z (hx.mpr y)
      have l8 : ¬ 4 ≤ (g.1 87 2).toInt := fun y => cf (hc.mpr y)
      have e1 : (g3.1 87 2).toInt = ((g.1 87 2).toNatClampNeg : Int) := by rw [F13.py.kc87]; exact nn
      generalize hn : (g.1 87 2).toNatClampNeg = n1 at e1 nn
      have e8 : ((46 : Int32) + ((2 : Int32) * (g3.1 87 2))).toInt = ((46 + 2 * n1 : Nat) : Int) := n_add (m := 46) rfl (n_mul (m := 2) rfl e1 (by omega)) (by omega)
      have f1 := n_add (y := 1) (n := 1) e8 rfl (by omega)
      refine w_Model_letterLine_48 L3 (by rw [k2, e8]; omega) ?_
      rw [k2, n_eq e8]
      have e2 : (sI g3 87 (46 + 2 * n1) v0).1 87 2 = g3.1 87 2 := sI_nj (by omega)
      refine w_Model_letterLine_65 (h := sI g3 87 (46 + 2 * n1) v0) L3 (by rw [k2, e2, f1]; omega) ?_
      rw [k2, e2, n_eq f1]
      refine w_Model_letterLine_85 (h := sI (sI g3 87 (46 + 2 * n1) v0) 87 (46 + 2 * n1 + 1) v1) L3 ?_
      refine w_Model_letterLine_95 ?_
      have e3 : (sI (sI g3 87 (46 + 2 * n1) v0) 87 (46 + 2 * n1 + 1) v1).1 87 2 = g3.1 87 2 := by simp (disch := omega) only [sI_nj]
      rw [k2, e3]
      refine ⟨rfl, (((F13.py.pl.si (PL.s _)).si (PL.s _)).si (PL.s _)), c, tm, ?_, ?_, ?_⟩
      · rw [nums_l]
        exact (((M3.s87 _ _).s87 _ _).s87 _ _)
      · have r := rn.fy F13.py
        refine ⟨fun q => ⟨?_, ?_, ?_⟩, fun q => absurd q (by decide), fun q => absurd q (by decide)⟩
        · simp (disch := omega) only [sI_nj]
          exact (r.1 q).1
        · rw [sI_same, bw, t_succ e1 (by omega)]
          omega
        · simp (disch := omega) only [sI_nj]
          exact (r.1 q).2.2
      · rw [nums_l]
        intro q R n rr
        have f := two_f0 w0 s0' q
        have r1 : R 2 = (n1 : Int) := by rw [← rr.1 2 (by decide)]; exact nn
        have rt : (R 2).toNat = n1 := by omega
        refine ⟨?_, fun z => ?_, fun z => absurd z (by decide)⟩
        · show Q87 _ (updR (updR (updR R (46 + 2 * (R 2).toNat) (vlI T len s0 0)) (46 + 2 * (R 2).toNat + 1) (vlI T len s0 1)) 2 (R 2 + 1))
          rw [rt]
          refine (((rr.1.fy F13.py).up (ev0.trans f.1) _).up (ev1.trans f.2.1) _).up ?_ 2
          rw [t_succ e1 (by omega), r1]
          rfl
        · simp (disch := omega) only [sI_nc]
          rw [F13.2 84 9 (by unfold PX; omega)]
          exact rr.2.1 z
    · have ct : c = true := hx.mp z
      refine w_Model_letterLine_47 ?_
      refine ⟨rfl, F13.py.pl, c, tm, ?_, rn.fy F13.py, ?_⟩
      · rw [nums_l]; exact M3
      · rw [nums_l]
        intro q
        have f := two_f0 w0 s0' q
        exact absurd (nt3_f0 (by decide) f.2.2.1).1 (by rw [ct]; decide)
  refine n_Model_letterLine ?_
  refine w_Model_letterLine_0 L (fun c => ?_) (fun c => ?_)
  · rw [k2] at c
    refine w_Model_letterLine_14 ?_
    refine w_Model_letterLine_15 rfl (fun z => absurd rfl z) (fun _ => ?_)
    refine w_Model_letterLine_20 L (r_too L M w h1 ha pa ea) ?_
    rintro _ g1 ⟨rfl, F1, M1⟩
    exact go true 0 ⟨fun _ => c, fun _ => rfl⟩ ⟨fun _ => rfl, fun _ => rfl⟩ g1 F1 M1
  · rw [k2] at c
    refine w_Model_letterLine_10 ?_
    refine w_Model_letterLine_15 rfl (fun _ => ?_) (fun z => absurd z (by decide))
    exact go false 1 ⟨fun z => absurd z (by decide), fun z => absurd z c⟩ ⟨fun z => absurd z (by decide), fun z => absurd z (by decide)⟩ g Fr.rfl (by rw [nt_false]; exact M)
end M96b
