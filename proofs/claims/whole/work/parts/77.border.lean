/-! OPERATION border -/
section M77
variable {rod : Nat → Nat × (Nat → Int32)} {d : Nat} {h : MH} {a l n nb lt D : Nat} {S S' : Nat → Nat}
theorem way_mono2 {F : Nat} {E E' : Nat → Nat → Nat} (hE : ∀ f t, E f t ≤ 9) (hF : 9 ≤ F) (q : ∀ f t, E' f t = E f t ∨ E' f t = 0) : ∀ k f t, wayF F E k f t ≤ wayF F E' k f t := by
  intro k
  induction k with
  | zero =>
    intro f t
    have z := W0_le hE hF f t
    simp only [wayF] at z ⊢
    unfold W0 at z ⊢
    by_cases e : f = t
    · simp [e]
    · rw [if_neg e] at z ⊢
      rw [if_neg e]
      rcases q f t with w | w
      · rw [w]; exact Nat.le_refl _
      · rw [w, if_pos rfl]; exact z
  | succ k ih =>
    intro f t
    have x := ih f t
    have y := ih f k
    have z := ih k t
    simp only [wayF, rdF]
    omega
theorem smF_mono : ∀ p : List Nat, (∀ t ∈ p, S' t ≤ S t) → smF S' p ≤ smF S p := by
  intro p
  induction p with
  | nil => intro _; exact Nat.le_refl _
  | cons t p ih =>
    intro q
    have x := q t List.mem_cons_self
    have y := ih (fun u hu => q u (List.mem_cons_of_mem _ hu))
    simp only [smF]
    omega
theorem dsF_mono {W W' : Nat → Nat → Nat} (q : ∀ f t, W f t ≤ W' f t) : ∀ (p : List Nat) (a : Nat), dsF W a p ≤ dsF W' a p := by
  intro p
  induction p with
  | nil => intro a; exact Nat.le_refl _
  | cons t p ih =>
    intro a
    have x := q a t
    have y := ih t
    simp only [dsF]
    omega
theorem bit_or {s : Int32} (hs : 0 ≤ s.toInt ∧ s.toInt ≤ 63) {t u : Nat} (ht : t < 6) (hu : u < 6) (e : (((s ||| ((1 : Int32) <<< (Int32.ofNat t &&& 31))) >>> (Int32.ofNat u &&& 31)) &&& 1).toInt = 0) : ((s >>> (Int32.ofNat u &&& 31)) &&& 1).toInt = 0 := by
  have em := ofN (n_of hs.1) (by have := n_of hs.1; omega)
  have m64 : s.toNatClampNeg < 64 := by have := n_of hs.1; omega
  generalize s.toNatClampNeg = m at em m64
  subst em
  have x := bit_of m64 ht
  rw [x.2.1, (bit_of x.2.2 hu).1, Nat.testBit_or] at e
  rw [(bit_of m64 hu).1]
  cases hb : m.testBit u with
  | true => rw [hb, Bool.true_or] at e; exact absurd e (by decide)
  | false => rfl
/-- another town shut: no more comes in -/
theorem bst_less {G : Nat → Nat → Int32} {s : Int32} (hG : RdOk G) (hs : 0 ≤ s.toInt ∧ s.toInt ≤ 63) (n6 : n ≤ 6) {t : Nat} (ht : t < 6) {b b' : List Nat} (x : Bst (wayF 1000 (edgF G s) n) (salS G s lt nb) n D b) (y : Bst (wayF 1000 (edgF G (s ||| ((1 : Int32) <<< (Int32.ofNat t &&& 31)))) n) (salS G (s ||| ((1 : Int32) <<< (Int32.ofNat t &&& 31))) lt nb) n D b') : salS G (s ||| ((1 : Int32) <<< (Int32.ofNat t &&& 31))) lt nb 0 + smF (salS G (s ||| ((1 : Int32) <<< (Int32.ofNat t &&& 31))) lt nb) b' ≤ salS G s lt nb 0 + smF (salS G s lt nb) b := by
  have sm : ∀ u, u < 6 → salS G (s ||| ((1 : Int32) <<< (Int32.ofNat t &&& 31))) lt nb u ≤ salS G s lt nb u := by
    intro u hu
    unfold salS
    split
    · rename_i e
      rw [if_pos (bit_or hs ht hu e)]
      exact Nat.le_refl _
    · exact Nat.zero_le _
  have wm := way_mono2 (F := 1000) (E := edgF G s) (E' := edgF G (s ||| ((1 : Int32) <<< (Int32.ofNat t &&& 31)))) (edg_le hG) (by omega) (fun f u => by
    by_cases z : (f < 6 ∧ u < 6) ∧ (((s ||| ((1 : Int32) <<< (Int32.ofNat t &&& 31))) >>> (Int32.ofNat u &&& 31)) &&& 1).toInt = 0
    · left
      unfold edgF
      rw [if_pos z, if_pos ⟨z.1, bit_or hs ht z.1.2 z.2⟩]
    · right
      unfold edgF
      rw [if_neg z]) n
  have v : Vd (wayF 1000 (edgF G s) n) n D b' := ⟨y.1.1, y.1.2.1, Nat.le_trans (dsF_mono wm b' 0) y.1.2.2⟩
  have g := x.2 b' v
  have m1 := smF_mono (S := salS G s lt nb) (S' := salS G (s ||| ((1 : Int32) <<< (Int32.ofNat t &&& 31))) lt nb) b' (fun u hu => sm u (by have := y.1.2.1 u hu; omega))
  have m0 := sm 0 (by omega)
  unfold Gd at g
  omega
def brdF (e : Nat → Nat) (now : Nat) : Nat → Nat × Nat
  | 0 => (now + 1, 0)
  | j + 1 => if e (j + 1) < (brdF e now j).1 then (e (j + 1), j + 1) else brdF e now j
theorem brdF_le {e : Nat → Nat} {now : Nat} : ∀ j, (brdF e now j).1 ≤ now + 1 := by
  intro j
  induction j with
  | zero => exact Nat.le_refl _
  | succ j ih =>
    simp only [brdF]
    split
    · simp only; omega
    · exact ih
theorem op_border (k x y z : Int32) : OpI INV rod 151 253 [k, x, y, z] := by
  refine OpI.mk fun h hI => ?_
  have L := hI.lay
  by_cases hk : 0 ≤ k.toInt ∧ k.toInt < (h.1 3 0).toInt
  · obtain ⟨A, R, ha, hk2⟩ := hI.landK hk
    have ek := n_of hk.1
    have at1 := fun (d : Nat) => s_landAt1 (rod := rod) (d := d) hI hk
    generalize k.toNatClampNeg = kk at ek hk2 A R ha at1
    have tw := R.tw
    have bu := R.bu
    have le := R.le
    have sh := R.sh
    obtain ⟨n, hn⟩ := Int.eq_ofNat_of_zero_le (show 0 ≤ (h.1 (8 + 18 * kk) 0).toInt by omega)
    obtain ⟨nb, hnb⟩ := Int.eq_ofNat_of_zero_le bu.1
    have hD := R.rdok
    by_cases ok : ((0 ≤ x.toInt ∧ x.toInt ≤ 40) ∧ 0 ≤ y.toInt ∧ y.toInt < (h.1 (8 + 18 * kk) 5).toInt) ∧ 2 ≤ n
    · have ex := n_of ok.1.1.1
      have ey := n_of ok.1.2.1
      have hlt : ((y.toNatClampNeg : Nat) : Int) < (h.1 (8 + 18 * kk) 5).toInt := by omega
      have hp := R.pr hlt
      have ce := fun (s : Int32) (d : Nat) => c_earn (rod := rod) (d := d) L A ha hn (by omega) (by omega) hD hnb (by omega) s x y ex (by omega) ey hlt (by omega) hp
      have exb : ∀ s : Int32, ∃ b, Bst (wayF 1000 (edgF (ld h (8 + 18 * kk)) s) n) (salS (ld h (8 + 18 * kk)) s y.toNatClampNeg nb) n x.toNatClampNeg b := fun s => by
        obtain ⟨-, -, -, -, b, -, -, vb, gb⟩ := ce s 0
        exact ⟨b, vb, gb⟩
      obtain ⟨bs, hbs⟩ := Classical.axiomOfChoice exb
      obtain ⟨ev, hev⟩ : ∃ ev : Int32 → Nat, ∀ s, ev s = salS (ld h (8 + 18 * kk)) s y.toNatClampNeg nb 0 + smF (salS (ld h (8 + 18 * kk)) s y.toNatClampNeg nb) (bs s) := ⟨_, fun s => rfl⟩
      have evb : ∀ s, ev s ≤ 2880 := fun s => by
        have sl := salS_le (D := ld h (8 + 18 * kk)) (s := s) (lt := y.toNatClampNeg) (nb := nb) hp.2 (by omega)
        have q := smF_le sl (bs s)
        have q0 := sl 0
        have ql := (hbs s).1.len (show 1 ≤ n by omega)
        rw [hev]
        omega
      have less : ∀ t, t < 6 → ev (h.1 (8 + 18 * kk) 3 ||| ((1 : Int32) <<< (Int32.ofNat t &&& 31))) ≤ ev (h.1 (8 + 18 * kk) 3) := fun t ht => by
        rw [hev, hev]
        exact bst_less hD sh (by omega) ht (hbs _) (hbs _)
      have e0b := evb (h.1 (8 + 18 * kk) 3)
      refine ⟨if z.toInt = 0 then Int32.ofNat (brdF (fun t => ev (h.1 (8 + 18 * kk) 3 ||| ((1 : Int32) <<< (Int32.ofNat t &&& 31)))) (ev (h.1 (8 + 18 * kk) 3)) (n - 1)).2 else Int32.ofNat (ev (h.1 (8 + 18 * kk) 3)) - Int32.ofNat (brdF (fun t => ev (h.1 (8 + 18 * kk) 3 ||| ((1 : Int32) <<< (Int32.ofNat t &&& 31)))) (ev (h.1 (8 + 18 * kk) 3)) (n - 1)).1, ?_, fun h1 I1 K1 => ?_⟩
      · refine n_Main_border ?_
        refine w_Main_border_0 L (Tc.wc (at1 _)) (Is.k ?_)
        refine w_Main_border_8 rfl (fun c => nomatch c) (fun _ _ => ?_)
        refine w_Main_border_15 (Tc.wc (c_isTour A x y)) (Is.k ?_)
        refine w_Main_border_22 (fun kc22 => absurd kc22 (by rw [if_pos ok.1]; decide)) (fun kc22 => ?_)
        refine w_Main_border_25 A (fun kc25 => ?_) (fun kc25 => absurd (show (2 : Int) ≤ _ by omega) kc25)
        refine w_Main_border_36 L A (ce _ _) ?_
        rintro _ h36 ⟨k36, b2, rfl, -, v2, g2⟩
        have be : b2 = bs (h.1 (8 + 18 * kk) 3) := Bst.eq (by omega) (by omega) ⟨v2, g2⟩ (hbs _)
        rw [be, ← hev]
        refine w_Main_border_52 rfl ?_
        have n1e : Int32.ofNat (ev (h.1 (8 + 18 * kk) 3)) + 1 = Int32.ofNat (ev (h.1 (8 + 18 * kk) 3) + 1) := ofN (n_add (t_nat (by omega)) (show (1 : Int32).toInt = ((1 : Nat) : Int) from rfl) (by omega)) (by omega)
        rw [n1e]
        refine Wb.uph (n - 1) (fun j L' g => ∃ (z9 tc : Int32) (u10 : Option MV), L' = [some (.inr (.inr (.inl (some 0)))), some (.inl k), some (.inl x), some (.inl y), some (.inl z), some (.inr (.inr (.inl (some (8 + 18 * kk))))), some (.inl (Int32.ofNat (ev (h.1 (8 + 18 * kk) 3)))), some (.inl (Int32.ofNat (brdF (fun t => ev (h.1 (8 + 18 * kk) 3 ||| ((1 : Int32) <<< (Int32.ofNat t &&& 31)))) (ev (h.1 (8 + 18 * kk) 3)) j).1)), some (.inl tc), some (.inl z9), u10] ∧ z9.toInt = ((j + 1 : Nat) : Int) ∧ Keep h g ∧ (1 ≤ j → tc = Int32.ofNat (brdF (fun t => ev (h.1 (8 + 18 * kk) 3 ||| ((1 : Int32) <<< (Int32.ofNat t &&& 31)))) (ev (h.1 (8 + 18 * kk) 3)) j).2)) ?_ (Nat.zero_le _) ⟨1, -1, _, rfl, rfl, k36, fun q => absurd q (by omega)⟩
        rintro j _ g hj ⟨z9, tc, u10, rfl, h9, K, htc⟩ ih
        have Lg := L.keep K
        have Ag := A.keep K
        have hg : (g.1 (8 + 18 * kk) 0).toInt = (n : Int) := by rw [K.c _ (by omega)]; exact hn
        have o9 := ofN h9 (by omega)
        have bl := brdF_le (e := fun t => ev (h.1 (8 + 18 * kk) 3 ||| ((1 : Int32) <<< (Int32.ofNat t &&& 31)))) (now := ev (h.1 (8 + 18 * kk) 3)) j
        have tb := t_nat (n := (brdF (fun t => ev (h.1 (8 + 18 * kk) 3 ||| ((1 : Int32) <<< (Int32.ofNat t &&& 31)))) (ev (h.1 (8 + 18 * kk) 3)) j).1) (by omega)
        refine w_Main_border_66 Ag (fun kc66 => ?_) (fun kc66 => ?_)
        · (try simp only [ite01t, ite01v, Int32.reduceToInt, t_m1, t_m2, t_m1000, Decidable.not_not] at kc66); (try simp only [hg] at kc66)
          have jn : j = n - 1 := by omega
          subst jn
          refine w_Main_border_120 (fun kc120 => ?_) (fun kc120 => ?_)
          · try simp only [ite01t, ite01v, Int32.reduceToInt, t_m1, t_m2, t_m1000, Decidable.not_not] at kc120
            refine w_Main_border_133 ?_
            refine w_Main_border_135 ?_
            exact ⟨by first | (rw [if_pos (by omega), htc (by omega)]; done) | (rw [if_neg (by omega)]; done), K⟩
          · try simp only [ite01t, ite01v, Int32.reduceToInt, t_m1, t_m2, t_m1000, Decidable.not_not] at kc120
            refine w_Main_border_125 ?_
            refine w_Main_border_135 ?_
            exact ⟨by first | (rw [if_pos (by omega), htc (by omega)]; done) | (rw [if_neg (by omega)]; done), K⟩
          
        · (try simp only [ite01t, ite01v, Int32.reduceToInt, t_m1, t_m2, t_m1000, Decidable.not_not] at kc66); (try simp only [hg] at kc66)
          refine w_Main_border_76 Lg Ag (by rw [K.c _ (by omega), o9]; exact c_earn (nb := nb) Lg Ag ha (by rw [K.c _ (by omega)]; exact hn) (by omega) (by omega) (by rw [ldk K ha]; exact hD) (by rw [K.c _ (by omega)]; exact hnb) (by omega) _ x y ex (by omega) ey (by rw [K.c _ (by omega)]; exact hlt) (by rw [K.c _ (by omega)]; omega) (by rw [ldk K ha]; exact hp)) ?_
          rintro _ h76 ⟨k76, b2, rfl, -, v2, g2⟩
          rw [ldk K ha] at v2 g2
          rw [ldk K ha]
          have jn : j + 1 < n := by omega
          have be : b2 = bs (h.1 (8 + 18 * kk) 3 ||| ((1 : Int32) <<< (Int32.ofNat (j + 1) &&& 31))) := Bst.eq (by omega) (by omega) ⟨v2, g2⟩ (hbs _)
          rw [be, ← hev]
          have tv := t_nat (n := ev (h.1 (8 + 18 * kk) 3 ||| ((1 : Int32) <<< (Int32.ofNat (j + 1) &&& 31)))) (by have := evb (h.1 (8 + 18 * kk) 3 ||| ((1 : Int32) <<< (Int32.ofNat (j + 1) &&& 31))); omega)
          have ls := less (j + 1) (by omega)
          refine w_Main_border_97 rfl (fun kc97 => ?_) (fun kc97 => ?_)
          · (try simp only [ite01t, ite01v, Int32.reduceToInt, t_m1, t_m2, t_m1000, Decidable.not_not] at kc97); (try simp only [hg] at kc97)
            rw [tv, tb] at kc97
            refine w_Main_border_114 rfl ?_
            refine ih (by omega) _ _ ⟨_, tc, some (.inl (Int32.ofNat (ev (h.1 (8 + 18 * kk) 3 ||| ((1 : Int32) <<< (Int32.ofNat (j + 1) &&& 31)))))), ?_, t_succ h9 (by omega), K.trans k76, fun _ => ?_⟩
            · rw [brdF, if_neg (by omega)]
            · rw [brdF, if_neg (by omega)]
              refine htc ?_
              by_cases j0 : j = 0
              · exfalso
                subst j0
                have : (brdF (fun t => ev (h.1 (8 + 18 * kk) 3 ||| ((1 : Int32) <<< (Int32.ofNat t &&& 31)))) (ev (h.1 (8 + 18 * kk) 3)) 0).1 = ev (h.1 (8 + 18 * kk) 3) + 1 := rfl
                omega
              · omega
          · (try simp only [ite01t, ite01v, Int32.reduceToInt, t_m1, t_m2, t_m1000, Decidable.not_not] at kc97); (try simp only [hg] at kc97)
            rw [tv, tb] at kc97
            refine w_Main_border_106 rfl ?_
            refine w_Main_border_114 rfl ?_
            refine ih (by omega) _ _ ⟨_, z9, some (.inl (Int32.ofNat (ev (h.1 (8 + 18 * kk) 3 ||| ((1 : Int32) <<< (Int32.ofNat (j + 1) &&& 31)))))), ?_, t_succ h9 (by omega), K.trans k76, fun _ => ?_⟩
            · rw [brdF, if_pos (by omega)]
            · rw [brdF, if_pos (by omega)]; exact o9
        
      · have L1 := I1.lay
        have hk1 : (kk : Int) < (h1.1 3 0).toInt := by rw [K1.c 3 (by omega)]; omega
        have is1 := fun (d : Nat) => s_isLand1 (rod := rod) (d := d) I1 k kk ek hk1
        refine n_Model_border ?_
        refine w_Model_border_0 L1 (is1 _) ?_
        rintro _ h0 ⟨rfl, k0, M0⟩
        have I0 := I1.keep k0
        have L0 := I0.lay
        have K0 := (Keep.rfl (h := h1)).trans k0
        have e0 : h0.1 (8 + 18 * kk) = h.1 (8 + 18 * kk) := (K1.trans K0).c _ (by omega)
        refine w_Model_border_5 (fun kc5 => absurd kc5 (by decide)) (fun kc5 => ?_)
        refine w_Model_border_8 (Tc.wc (s_isIn _ _ _ _)) (Is.k ?_)
        refine w_Model_border_15 (fun kc15 => ?_) (fun kc15 => ?_)
        · (try simp only [ite01t, ite01v, Int32.reduceToInt, t_m1, t_m2, t_m1000, Decidable.not_not] at kc15); (try simp only [e0] at kc15)
          refine w_Model_border_34 ?_
          exfalso
          omega
        · (try simp only [ite01t, ite01v, Int32.reduceToInt, t_m1, t_m2, t_m1000, Decidable.not_not] at kc15); (try simp only [e0] at kc15)
          refine w_Model_border_18 L0 (Tc.wc (s_misSheet M0 L0 _)) (Is.k ?_)
          refine w_Model_border_23 (fun kc23 => ?_) (fun kc23 => ?_)
          · (try simp only [ite01t, ite01v, Int32.reduceToInt, t_m1, t_m2, t_m1000, Decidable.not_not] at kc23); (try simp only [e0] at kc23)
            refine w_Model_border_34 ?_
            exfalso
            omega
          · (try simp only [ite01t, ite01v, Int32.reduceToInt, t_m1, t_m2, t_m1000, Decidable.not_not] at kc23); (try simp only [e0] at kc23)
            have h13 : (h0.1 84 13).toInt = (n : Int) := by rw [M0.2.2.2.1, (K1.trans K0).c _ (by omega)]; exact hn
            refine w_Model_border_26 L0 (fun kc26 => ?_) (fun kc26 => ?_)
            · (try simp only [ite01t, ite01v, Int32.reduceToInt, t_m1, t_m2, t_m1000, Decidable.not_not] at kc26); (try simp only [e0] at kc26)
              refine w_Model_border_36 L0 (r_tours (nb := nb) (lt := y.toNatClampNeg) (D := x.toNatClampNeg) M0 L0 ha (by rw [(K1.trans K0).c _ (by omega)]; exact hn) (by omega) (by omega) (by rw [(K1.trans K0).c _ (by omega)]; exact hnb) (by omega) x y 0 ex ey (by rw [(K1.trans K0).c _ (by omega)]; exact hlt) (by rw [ldk (K1.trans K0) ha]; exact hp)) ?_
              rintro _ h36 ⟨k36, M36, b2, rfl, r36, l2, B36⟩
              rw [ldk (K1.trans K0) ha, (K1.trans K0).c _ (by omega), Int32.or_zero] at B36
              rw [ldk (K1.trans K0) ha, (K1.trans K0).c _ (by omega), Int32.or_zero]
              have I36 := I0.keep k36
              have L36 := I36.lay
              have K36 := K0.trans k36
              have be : b2 = bs (h.1 (8 + 18 * kk) 3) := Bst.eq (by omega) (by omega) (B36.rel (fun f t q1 q2 => way_fin (edg_le hD) (by omega) q1 q2) (by omega) (by omega)) (hbs _)
              rw [be, ← hev]
              refine w_Model_border_43 rfl ?_
              have n1e : Int32.ofNat (ev (h.1 (8 + 18 * kk) 3)) + 1 = Int32.ofNat (ev (h.1 (8 + 18 * kk) 3) + 1) := ofN (n_add (t_nat (by omega)) (show (1 : Int32).toInt = ((1 : Nat) : Int) from rfl) (by omega)) (by omega)
              rw [n1e]
              refine Wb.uph (n - 1) (fun j L' g => ∃ (z8 tc : Int32) (u9 : Option MV), L' = [some (.inr (.inr (.inl (some 84)))), some (.inl k), some (.inl x), some (.inl y), some (.inl z), some (.inl (Int32.ofNat (ev (h.1 (8 + 18 * kk) 3)))), some (.inl tc), some (.inl (Int32.ofNat (brdF (fun t => ev (h.1 (8 + 18 * kk) 3 ||| ((1 : Int32) <<< (Int32.ofNat t &&& 31)))) (ev (h.1 (8 + 18 * kk) 3)) j).1)), some (.inl z8), u9] ∧ z8.toInt = ((j + 1 : Nat) : Int) ∧ Keep h1 g ∧ MLand g (8 + 18 * kk) (610 + 90 * kk) ∧ (1 ≤ j → tc = Int32.ofNat (brdF (fun t => ev (h.1 (8 + 18 * kk) 3 ||| ((1 : Int32) <<< (Int32.ofNat t &&& 31)))) (ev (h.1 (8 + 18 * kk) 3)) j).2)) ?_ (Nat.zero_le _) ⟨1, 1, _, rfl, rfl, K36, M36, fun q => absurd q (by omega)⟩
              rintro j _ g hj ⟨z8, tc, u9, rfl, h8, K, Mg, htc⟩ ih
              have Ig := I1.keep K
              have Lg := Ig.lay
              have hg : (g.1 84 13).toInt = (n : Int) := by rw [Mg.2.2.2.1, (K1.trans K).c _ (by omega)]; exact hn
              have o8 := ofN h8 (by omega)
              have bl := brdF_le (e := fun t => ev (h.1 (8 + 18 * kk) 3 ||| ((1 : Int32) <<< (Int32.ofNat t &&& 31)))) (now := ev (h.1 (8 + 18 * kk) 3)) j
              have tb := t_nat (n := (brdF (fun t => ev (h.1 (8 + 18 * kk) 3 ||| ((1 : Int32) <<< (Int32.ofNat t &&& 31)))) (ev (h.1 (8 + 18 * kk) 3)) j).1) (by omega)
              refine w_Model_border_57 Lg (fun kc57 => ?_) (fun kc57 => ?_)
              · (try simp only [ite01t, ite01v, Int32.reduceToInt, t_m1, t_m2, t_m1000, Decidable.not_not] at kc57); (try simp only [hg] at kc57)
                have jn : j = n - 1 := by omega
                subst jn
                refine w_Model_border_102 (fun kc102 => ?_) (fun kc102 => ?_)
                · try simp only [ite01t, ite01v, Int32.reduceToInt, t_m1, t_m2, t_m1000, Decidable.not_not] at kc102
                  refine w_Model_border_115 ?_
                  refine w_Model_border_117 ?_
                  exact ⟨by first | (rw [if_pos (by omega), htc (by omega)]; done) | (rw [if_neg (by omega)]; done), K⟩
                · try simp only [ite01t, ite01v, Int32.reduceToInt, t_m1, t_m2, t_m1000, Decidable.not_not] at kc102
                  refine w_Model_border_107 ?_
                  refine w_Model_border_117 ?_
                  exact ⟨by first | (rw [if_pos (by omega), htc (by omega)]; done) | (rw [if_neg (by omega)]; done), K⟩
                
              · (try simp only [ite01t, ite01v, Int32.reduceToInt, t_m1, t_m2, t_m1000, Decidable.not_not] at kc57); (try simp only [hg] at kc57)
                have jn : j + 1 < n := by omega
                have ls := less (j + 1) (by omega)
                refine w_Model_border_66 Lg (r_tours (nb := nb) (lt := y.toNatClampNeg) (D := x.toNatClampNeg) Mg Lg ha (by rw [(K1.trans K).c _ (by omega)]; exact hn) (by omega) (by omega) (by rw [(K1.trans K).c _ (by omega)]; exact hnb) (by omega) x y _ ex ey (by rw [(K1.trans K).c _ (by omega)]; exact hlt) (by rw [ldk (K1.trans K) ha]; exact hp)) ?_
                rintro _ h66 ⟨k66, M66, b2, rfl, r66, l2, B66⟩
                rw [ldk (K1.trans K) ha, (K1.trans K).c _ (by omega)] at B66
                rw [o8] at B66
                rw [ldk (K1.trans K) ha, (K1.trans K).c _ (by omega)]
                have I66 := Ig.keep k66
                have L66 := I66.lay
                have K66 := K.trans k66
                rw [o8]
                have be : b2 = bs (h.1 (8 + 18 * kk) 3 ||| ((1 : Int32) <<< (Int32.ofNat (j + 1) &&& 31))) := Bst.eq (by omega) (by omega) (B66.rel (fun f t q1 q2 => way_fin (edg_le hD) (by omega) q1 q2) (by omega) (by omega)) (hbs _)
                rw [be, ← hev]
                have tv := t_nat (n := ev (h.1 (8 + 18 * kk) 3 ||| ((1 : Int32) <<< (Int32.ofNat (j + 1) &&& 31)))) (by have := evb (h.1 (8 + 18 * kk) 3 ||| ((1 : Int32) <<< (Int32.ofNat (j + 1) &&& 31))); omega)
                refine w_Model_border_76 rfl (fun kc76 => ?_) (fun kc76 => ?_)
                · (try simp only [ite01t, ite01v, Int32.reduceToInt, t_m1, t_m2, t_m1000, Decidable.not_not] at kc76); (try simp only [hg] at kc76)
                  rw [tv, tb] at kc76
                  refine w_Model_border_88 rfl ?_
                  refine w_Model_border_96 rfl ?_
                  refine ih (by omega) _ _ ⟨_, z8, some (.inl (Int32.ofNat (ev (h.1 (8 + 18 * kk) 3 ||| ((1 : Int32) <<< (Int32.ofNat (j + 1) &&& 31)))))), ?_, t_succ h8 (by omega), K66, M66, fun _ => ?_⟩
                  · rw [brdF, if_pos (by omega), ← o8]
                  · rw [brdF, if_pos (by omega)]; exact o8
                · (try simp only [ite01t, ite01v, Int32.reduceToInt, t_m1, t_m2, t_m1000, Decidable.not_not] at kc76); (try simp only [hg] at kc76)
                  rw [tv, tb] at kc76
                  refine w_Model_border_85 ?_
                  refine w_Model_border_96 rfl ?_
                  refine ih (by omega) _ _ ⟨_, tc, some (.inl (Int32.ofNat (ev (h.1 (8 + 18 * kk) 3 ||| ((1 : Int32) <<< (Int32.ofNat (j + 1) &&& 31)))))), ?_, t_succ h8 (by omega), K66, M66, fun _ => ?_⟩
                  · rw [brdF, if_neg (by omega), ← o8]
                  · rw [brdF, if_neg (by omega)]
                    refine htc ?_
                    by_cases j0 : j = 0
                    · exfalso
                      subst j0
                      have : (brdF (fun t => ev (h.1 (8 + 18 * kk) 3 ||| ((1 : Int32) <<< (Int32.ofNat t &&& 31)))) (ev (h.1 (8 + 18 * kk) 3)) 0).1 = ev (h.1 (8 + 18 * kk) 3) + 1 := rfl
                      omega
                    · omega
              
            · (try simp only [ite01t, ite01v, Int32.reduceToInt, t_m1, t_m2, t_m1000, Decidable.not_not] at kc26); (try simp only [e0] at kc26)
              refine w_Model_border_34 ?_
              exfalso
              omega
    · refine ⟨-1, ?_, fun h1 I1 K1 => ?_⟩
      · refine n_Main_border ?_
        refine w_Main_border_0 L (Tc.wc (at1 _)) (Is.k ?_)
        refine w_Main_border_8 rfl (fun c => nomatch c) (fun _ _ => ?_)
        refine w_Main_border_15 (Tc.wc (c_isTour A x y)) (Is.k ?_)
        refine w_Main_border_22 (fun kc22 => ?_) (fun kc22 => ?_)
        · try simp only [ite01t, ite01v, Int32.reduceToInt, t_m1, t_m2, t_m1000, Decidable.not_not] at kc22
          refine w_Main_border_34 ?_
          exact ⟨rfl, Keep.rfl⟩
        · try simp only [ite01t, ite01v, Int32.reduceToInt, t_m1, t_m2, t_m1000, Decidable.not_not] at kc22
          refine w_Main_border_25 A (fun kc25 => ?_) (fun kc25 => ?_)
          · try simp only [ite01t, ite01v, Int32.reduceToInt, t_m1, t_m2, t_m1000, Decidable.not_not] at kc25
            exfalso
            apply ok
            omega
          · try simp only [ite01t, ite01v, Int32.reduceToInt, t_m1, t_m2, t_m1000, Decidable.not_not] at kc25
            refine w_Main_border_34 ?_
            exact ⟨rfl, Keep.rfl⟩
      · have L1 := I1.lay
        have hk1 : (kk : Int) < (h1.1 3 0).toInt := by rw [K1.c 3 (by omega)]; omega
        have is1 := fun (d : Nat) => s_isLand1 (rod := rod) (d := d) I1 k kk ek hk1
        refine n_Model_border ?_
        refine w_Model_border_0 L1 (is1 _) ?_
        rintro _ h0 ⟨rfl, k0, M0⟩
        have I0 := I1.keep k0
        have L0 := I0.lay
        have K0 := (Keep.rfl (h := h1)).trans k0
        have e0 : h0.1 (8 + 18 * kk) = h.1 (8 + 18 * kk) := (K1.trans K0).c _ (by omega)
        refine w_Model_border_5 (fun kc5 => absurd kc5 (by decide)) (fun kc5 => ?_)
        refine w_Model_border_8 (Tc.wc (s_isIn _ _ _ _)) (Is.k ?_)
        refine w_Model_border_15 (fun kc15 => ?_) (fun kc15 => ?_)
        · (try simp only [ite01t, ite01v, Int32.reduceToInt, t_m1, t_m2, t_m1000, Decidable.not_not] at kc15); (try simp only [e0] at kc15)
          refine w_Model_border_34 ?_
          exact ⟨rfl, K0⟩
        · (try simp only [ite01t, ite01v, Int32.reduceToInt, t_m1, t_m2, t_m1000, Decidable.not_not] at kc15); (try simp only [e0] at kc15)
          refine w_Model_border_18 L0 (Tc.wc (s_misSheet M0 L0 _)) (Is.k ?_)
          refine w_Model_border_23 (fun kc23 => ?_) (fun kc23 => ?_)
          · (try simp only [ite01t, ite01v, Int32.reduceToInt, t_m1, t_m2, t_m1000, Decidable.not_not] at kc23); (try simp only [e0] at kc23)
            refine w_Model_border_34 ?_
            exact ⟨rfl, K0⟩
          · (try simp only [ite01t, ite01v, Int32.reduceToInt, t_m1, t_m2, t_m1000, Decidable.not_not] at kc23); (try simp only [e0] at kc23)
            have h13 : (h0.1 84 13).toInt = (n : Int) := by rw [M0.2.2.2.1, (K1.trans K0).c _ (by omega)]; exact hn
            refine w_Model_border_26 L0 (fun kc26 => ?_) (fun kc26 => ?_)
            · (try simp only [ite01t, ite01v, Int32.reduceToInt, t_m1, t_m2, t_m1000, Decidable.not_not] at kc26); (try simp only [e0] at kc26)
              exfalso
              apply ok
              omega
            · (try simp only [ite01t, ite01v, Int32.reduceToInt, t_m1, t_m2, t_m1000, Decidable.not_not] at kc26); (try simp only [e0] at kc26)
              refine w_Model_border_34 ?_
              exact ⟨rfl, K0⟩
  · refine ⟨-1, ?_, fun h1 I1 K1 => ?_⟩
    · refine n_Main_border ?_
      refine w_Main_border_0 L (Tc.wc (s_landAt0 hI hk)) (Is.k ?_)
      refine w_Main_border_8 rfl (fun _ => ?_) (fun _ c => nomatch c)
      refine w_Main_border_34 ?_
      exact ⟨rfl, Keep.rfl⟩
    · have L1 := I1.lay
      have hk1 : ¬ (0 ≤ k.toInt ∧ k.toInt < (h1.1 3 0).toInt) := by rw [K1.c 3 (by omega)]; exact hk
      refine n_Model_border ?_
      refine w_Model_border_0 L1 (Tc.wc (s_isLand0 I1 k hk1)) (Is.k ?_)
      refine w_Model_border_5 (fun kc5 => ?_) (fun kc5 => absurd kc5 (by decide))
      refine w_Model_border_34 ?_
      exact ⟨rfl, Keep.rfl⟩
end M77
