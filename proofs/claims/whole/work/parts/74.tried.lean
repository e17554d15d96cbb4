/-! THE CLA(salS (ld h a) s lt nb)'S TOUR, whole; what the reference's methods say of one row -/
section M74
variable {rod : Nat → Nat × (Nat → Int32)} {d : Nat} {h : MH} {a l n nb lt D N : Nat} {W : Nat → Nat → Nat} {S : Nat → Nat}
/-- what a letter brings in a town, nothing where it is shut -/
def salS (D : Nat → Nat → Int32) (s : Int32) (lt nb t : Nat) : Nat := if ((s >>> (Int32.ofNat t &&& 31)) &&& 1).toInt = 0 then salN D lt t nb else 0
theorem salS_le {D : Nat → Nat → Int32} {s : Int32} (hp : (D 7 lt).toInt ≤ 60) (n8 : nb ≤ 8) : ∀ t, salS D s lt nb t ≤ 480 := by
  intro t
  have := salN_le (D := D) (lt := lt) (t := t) hp nb
  unfold salS
  split <;> omega
theorem c_earn (L : Lay h.2) (A : LandA h.2 a) (ha : a + 9 ≤ 45) (hn : (h.1 a 0).toInt = (n : Int)) (n6 : n ≤ 6) (n1 : 1 ≤ n) (hD : RdOk (ld h a)) (hb : (h.1 a 4).toInt = (nb : Int)) (n8 : nb ≤ 8) (s xd xl : Int32) (hd : xd.toInt = (D : Int)) (d40 : D ≤ 40) (hl : xl.toInt = (lt : Int)) (hlt : (lt : Int) < (h.1 a 5).toInt) (l4 : (h.1 a 5).toInt ≤ 4) (hp : 0 ≤ (ld h a 7 lt).toInt ∧ (ld h a 7 lt).toInt ≤ 60) : Wc rod (d + 8) 103 [.inr (.inr (.inl (some 70))), .inr (.inr (.inl (some a))), .inl s, .inl xd, .inl xl] h (fun r h' => Keep h h' ∧ ∃ b, r = some (.inl (Int32.ofNat ((salS (ld h a) s lt nb) 0 + smF (salS (ld h a) s lt nb) b))) ∧ BestE h' (salS (ld h a) s lt nb) b ∧ Vd (wayF 1000 (edgF (ld h a) s) n) n D b ∧ ∀ q, Vd (wayF 1000 (edgF (ld h a) s) n) n D q → Gd (salS (ld h a) s lt nb) b q) := by
  have wl := fun f t => way_le (F := 1000) (E := edgF (ld h a) s) (edg_le hD) (by omega) n f t
  have sl := salS_le (D := ld h a) (s := s) (lt := lt) (nb := nb) hp.2 n8
  refine n_Ways_earn ?_
  refine w_Ways_earn_0 L (c_measure L A ha hn n6 hD s) ?_
  rintro _ g0 ⟨rfl, K0, e0, T0⟩
  refine w_Ways_earn_6 rfl ?_
  refine Wb.uph n (fun t L' g => ∃ (z : Int32), L' = [some (.inr (.inr (.inl (some 70)))), some (.inr (.inr (.inl (some a)))), some (.inl s), some (.inl xd), some (.inl xl), some (.inl z)] ∧ z.toInt = (t : Int) ∧ Keep h g ∧ TabC g n (wayF 1000 (edgF (ld h a) s) n) ∧ ∀ u, u < t → g.1 72 u = Int32.ofNat ((salS (ld h a) s lt nb) u)) ?_ (Nat.zero_le _) ⟨0, rfl, rfl, K0, ⟨by rw [e0]; exact hn, T0⟩, fun u hu => absurd hu (by omega)⟩
  clear K0 e0 T0
  rintro t _ g ht ⟨z, rfl, hz, K, T, F⟩ ih
  have Lg := L.keep K
  have Ag := A.keep K
  have ea := K.c a (by omega)
  have da := ldk K ha
  have oz := ofN hz (by omega)
  have ez := n_eq hz
  have hg := T.1
  have back : ∀ v, v = Int32.ofNat ((salS (ld h a) s lt nb) t) → t < n → Wb rod (d + 7) B_Ways_earn 9 [some (.inr (.inr (.inl (some 70)))), some (.inr (.inr (.inl (some a)))), some (.inl s), some (.inl xd), some (.inl xl), some (.inl (z + 1))] [] (sI g 72 t v) (fun r h' => Keep h h' ∧ ∃ b, r = some (.inl (Int32.ofNat ((salS (ld h a) s lt nb) 0 + smF (salS (ld h a) s lt nb) b))) ∧ BestE h' (salS (ld h a) s lt nb) b ∧ Vd (wayF 1000 (edgF (ld h a) s) n) n D b ∧ ∀ q, Vd (wayF 1000 (edgF (ld h a) s) n) n D q → Gd (salS (ld h a) s lt nb) b q) := by
    intro v hv tn
    refine ih tn _ _ ⟨_, rfl, t_succ hz (by omega), K.si (scrI 72 (by omega)), ⟨by rw [sI_nc (by omega)]; exact T.1, fun f u hf hu => by rw [sI_nc (by omega)]; exact T.2 f u hf hu⟩, fun u hu => ?_⟩
    by_cases q : u = t
    · rw [q, sI_same]; exact hv
    · rw [sI_nj q]; exact F u (by omega)
  refine w_Ways_earn_9 Lg (fun kc9 => ?_) (fun kc9 => ?_)
  · (try simp only [ite01t, ite01v, Int32.reduceToInt, t_m1, t_m2, t_m1000, Decidable.not_not] at kc9); (try simp only [hg] at kc9)
    have tn : t = n := by omega
    subst tn
    refine w_Ways_earn_52 Lg ?_
    refine w_Ways_earn_57 Lg ?_
    have E2 : EnvE (sI (sI g 70 6 (-1)) 70 7 0) t (wayF 1000 (edgF (ld h a) s) t) (salS (ld h a) s lt nb) := ⟨⟨by rw [sI_nj (by omega), sI_nj (by omega)]; exact T.1, fun f u hf hu => by rw [sI_nc (by omega), sI_nc (by omega)]; exact T.2 f u hf hu⟩, fun u hu => by rw [sI_nc (by omega), sI_nc (by omega)]; exact F u hu⟩
    refine w_Ways_earn_62 Lg (c_earnOn (d := d) (n := t) (D := D) n6 n1 wl sl d40 5 [] _ 0 0 1 xd _ 1 none rfl Lg E2 (fun i u q => by simp at q) ⟨List.nodup_nil, fun u q => absurd q (by simp), Nat.zero_le _⟩ rfl rfl rfl ⟨by omega, fun u hu => ?_⟩ (by simp only [dsF]; omega) ?_ (by rw [sI_nj (by omega), sI_same])) ?_
    · rcases (show u = 0 ∨ u = 1 ∨ u = 2 ∨ u = 3 ∨ u = 4 ∨ u = 5 by omega) with rfl | rfl | rfl | rfl | rfl | rfl <;> simp <;> decide
    · exact E2.2 0 (by omega)
    · rintro _ f ⟨rfl, Kf, Ef, Rf, b, Bf, Vb, lb, cb, gb, gq⟩
      refine w_Ways_earn_76 (L.keep ((K.si (scrI 70 (by omega))).si (scrI 70 (by omega)) |>.trans Kf)) ?_
      exact ⟨((K.si (scrI 70 (by omega))).si (scrI 70 (by omega))).trans Kf, b, by rw [Bf.1], Bf, Vb, fun q v => gq q v⟩
  · (try simp only [ite01t, ite01v, Int32.reduceToInt, t_m1, t_m2, t_m1000, Decidable.not_not] at kc9); (try simp only [hg] at kc9)
    refine w_Ways_earn_18 Lg (fun kc18 => ?_) (fun kc18 => ?_)
    · (try simp only [ite01t, ite01v, Int32.reduceToInt, t_m1, t_m2, t_m1000, Decidable.not_not] at kc18); (try simp only [hg] at kc18)
      refine w_Ways_earn_37 Ag (Tc.wc (c_salesIn Ag (by rw [ea]; exact hb) n8 z xl hz hl (by rw [ea]; exact hlt) (by rw [ea]; exact l4) (by rw [da]; exact hp))) (Is.k ?_)
      refine w_Ways_earn_45 (Lg.1 72 _ rfl) (by omega) ?_
      refine w_Ways_earn_46 rfl ?_
      rw [ez]
      refine back _ ?_ (by omega)
      rw [oz] at kc18
      first
      | (rw [salS, if_pos kc18, da]; done)
      | (rw [salS, if_neg kc18]; rfl)
    · (try simp only [ite01t, ite01v, Int32.reduceToInt, t_m1, t_m2, t_m1000, Decidable.not_not] at kc18); (try simp only [hg] at kc18)
      refine w_Ways_earn_33 ?_
      refine w_Ways_earn_45 (Lg.1 72 _ rfl) (by omega) ?_
      refine w_Ways_earn_46 rfl ?_
      rw [ez]
      refine back _ ?_ (by omega)
      rw [oz] at kc18
      first
      | (rw [salS, if_pos kc18, da]; done)
      | (rw [salS, if_neg kc18]; rfl)
theorem r_coins (M : MLand h a l) (L : Lay h.2) (ha : a + 9 ≤ 45) (T : ArrT h a) (hb : (h.1 a 4).toInt = (nb : Int)) (n8 : nb ≤ 8) {s : Int32} (hs : h.1 84 23 = s) (x y : Int32) {t : Nat} (hx : x.toInt = (t : Int)) (t6 : t < 6) (hy : y.toInt = (lt : Int)) (hl : (lt : Int) < (h.1 a 5).toInt) (hp : 0 ≤ (ld h a 7 lt).toInt ∧ (ld h a 7 lt).toInt ≤ 60) : Tc rod (d + 3) 252 [.inr (.inr (.inl (some 84))), .inl x, .inl y] h (some (.inl (Int32.ofNat ((salS (ld h a) s lt nb) t)))) h := by
  have ox := ofN hx (by omega)
  apply Wc.tc
  refine n_Model_coinsOf ?_
  refine w_Model_coinsOf_0 L (Tc.wc (r_isShut2 L x)) (Is.k ?_)
  rw [hs, ox]
  refine w_Model_coinsOf_5 (fun c => ?_) (fun c => ?_)
  · rw [ite01t, Decidable.not_not] at c
    refine w_Model_coinsOf_10 rfl ?_
    rw [salS, if_pos c]
    refine Wb.upc nb (fun b L' => ∃ (z : Int32), L' = [some (.inr (.inr (.inl (some 84)))), some (.inl (Int32.ofNat t)), some (.inl y), some (.inl (Int32.ofNat (salN (ld h a) lt t b))), some (.inl z)] ∧ z.toInt = (b : Int)) ?_ (Nat.zero_le _) ⟨0, rfl, rfl⟩
    rintro b _ hbn ⟨z, rfl, hz⟩ ih
    have sl := salN_le (D := ld h a) (lt := lt) (t := t) hp.2 b
    have ep := n_of hp.1
    have h14 : (h.1 84 14).toInt = (nb : Int) := by rw [M.2.2.2.2.1]; exact hb
    have tt := t_nat (n := t) (by omega)
    refine w_Model_coinsOf_15 L (fun kc15 => ?_) (fun kc15 => ?_)
    · (try simp only [ite01t, ite01v, Int32.reduceToInt, t_m1, t_m2, t_m1000, Decidable.not_not] at kc15); (try simp only [h14] at kc15); (try simp only [tt] at kc15)
      refine w_Model_coinsOf_75 ?_
      have : b = nb := by omega
      subst this
      exact ⟨rfl, rfl⟩
    · (try simp only [ite01t, ite01v, Int32.reduceToInt, t_m1, t_m2, t_m1000, Decidable.not_not] at kc15); (try simp only [h14] at kc15); (try simp only [tt] at kc15)
      refine w_Model_coinsOf_24 L (Tc.wc (s_of M L z 1 b 1 hz rfl (by omega) (by omega))) (Is.k ?_)
      refine w_Model_coinsOf_32 (fun kc32 => ?_) (fun kc32 => ?_)
      · (try simp only [ite01t, ite01v, Int32.reduceToInt, t_m1, t_m2, t_m1000, Decidable.not_not] at kc32); (try simp only [h14] at kc32); (try simp only [tt] at kc32)
        refine w_Model_coinsOf_66 ?_
        refine w_Model_coinsOf_67 rfl ?_
        refine ih (by omega) _ ⟨_, ?_, t_succ hz (by omega)⟩
        rw [salN, if_neg (by first | exact fun q => kc32 q.1 | exact fun q => kc54 q.2), Nat.add_zero, Int32.add_zero]
      · (try simp only [ite01t, ite01v, Int32.reduceToInt, t_m1, t_m2, t_m1000, Decidable.not_not] at kc32); (try simp only [h14] at kc32); (try simp only [tt] at kc32)
        refine w_Model_coinsOf_36 L (Tc.wc (s_ofL0 M L y lt hy hl)) (Is.k ?_)
        refine w_Model_coinsOf_45 L (Tc.wc (s_ofL1 M L y lt hy hl)) (Is.k ?_)
        refine w_Model_coinsOf_51 L (Tc.wc (s_mwants M L z b hz (by omega) _ _)) (Is.k ?_)
        rw [show wantsF (h.1 (a + 1) b) (h.1 88 b) (h.1 89 b) (h.1 90 b) (h.1 (a + 6) lt) (h.1 (a + 7) lt) = lw (ld h a) (ld h a 6 lt) (ld h a 7 lt) b from lw_of Keep.rfl T ha (by omega) _ _]
        refine w_Model_coinsOf_54 (fun kc54 => ?_) (fun kc54 => ?_)
        · (try simp only [ite01t, ite01v, Int32.reduceToInt, t_m1, t_m2, t_m1000, Decidable.not_not] at kc54); (try simp only [h14] at kc54); (try simp only [tt] at kc54)
          refine w_Model_coinsOf_66 ?_
          refine w_Model_coinsOf_67 rfl ?_
          refine ih (by omega) _ ⟨_, ?_, t_succ hz (by omega)⟩
          rw [salN, if_neg (by first | exact fun q => kc32 q.1 | exact fun q => kc54 q.2), Nat.add_zero, Int32.add_zero]
        · (try simp only [ite01t, ite01v, Int32.reduceToInt, t_m1, t_m2, t_m1000, Decidable.not_not] at kc54); (try simp only [h14] at kc54); (try simp only [tt] at kc54)
          refine w_Model_coinsOf_57 L (Tc.wc (s_ofL1 M L y lt hy hl)) (Is.k ?_)
          refine w_Model_coinsOf_63 ?_
          refine w_Model_coinsOf_67 rfl ?_
          refine ih (by omega) _ ⟨_, ?_, t_succ hz (by omega)⟩
          have tb : (ld h a 2 b).toInt = (t : Int) := kc32
          rw [salN, if_pos ⟨tb, kc54⟩, ← ofN (n := salN (ld h a) lt t b + (ld h a 7 lt).toNatClampNeg) (n_add (t_nat (by omega)) ep (by omega)) (by omega)]
          rfl
  · rw [ite01t, Decidable.not_not] at c
    refine w_Model_coinsOf_8 ?_
    exact ⟨by rw [salS, if_neg c]; rfl, rfl⟩
theorem lstF_take {r : List Nat} {k t : Nat} (hk : r[k]? = some t) : r.take (k + 1) = r.take k ++ [t] := by
  rw [List.take_add_one, hk]
  rfl
theorem r_tried (M : MLand h a l) (L : Lay h.2) (ha : a + 9 ≤ 45) (T : ArrT h a) (hb : (h.1 a 4).toInt = (nb : Int)) (n8 : nb ≤ 8) {s : Int32} (TM : TabM h n s W) (n6 : n ≤ 6) (n1 : 1 ≤ n) (wl : ∀ f t, W f t ≤ 9999) {r : List Nat} (R : RowAt h 93 r) (r5 : r.length ≤ 5) (hr : ∀ t ∈ r, t < n) (xn xd xl : Int32) (hn : xn.toInt = (r.length : Int)) (hd : xd.toInt = (D : Int)) (hy : xl.toInt = (lt : Int)) (hl : (lt : Int) < (h.1 a 5).toInt) (hp : 0 ≤ (ld h a 7 lt).toInt ∧ (ld h a 7 lt).toInt ≤ 60) : Tc rod (d + 4) 251 [.inr (.inr (.inl (some 84))), .inl xn, .inl xd, .inl xl] h (some (.inl (if dsF W 0 r ≤ D then Int32.ofNat ((salS (ld h a) s lt nb) 0 + smF (salS (ld h a) s lt nb) r) else -1))) h := by
  have sl := salS_le (D := ld h a) (s := s) (lt := lt) (nb := nb) hp.2 n8
  apply Wc.tc
  refine n_Model_triedBy ?_
  refine w_Model_triedBy_0 L (Tc.wc (r_coins M L ha T hb n8 TM.2.1 0 xl (t := 0) rfl (by omega) hy hl hp)) (Is.k ?_)
  refine w_Model_triedBy_6 rfl ?_
  refine Wb.upc r.length (fun k L' => ∃ (z x4 x5 x6 : Int32), L' = [some (.inr (.inr (.inl (some 84)))), some (.inl xn), some (.inl xd), some (.inl xl), some (.inl x4), some (.inl x5), some (.inl x6), some (.inl z)] ∧ z.toInt = (k : Int) ∧ x4 = Int32.ofNat ((salS (ld h a) s lt nb) 0 + smF (salS (ld h a) s lt nb) (r.take k)) ∧ x5.toInt = (dsF W 0 (r.take k) : Int) ∧ dsF W 0 (r.take k) ≤ 9999 * k ∧ x6.toInt = (lstF 0 (r.take k) : Int)) ?_ (Nat.zero_le _) ⟨0, _, 0, 0, rfl, rfl, by simp [smF], rfl, by simp [dsF], rfl⟩
  rintro k _ hk ⟨z, x4, x5, x6, rfl, hz, e4, h5, b5, h6⟩ ih
  have ez := n_eq hz
  have lk : lstF 0 (r.take k) < n := lstF_lt _ 0 (by omega) (fun t ht => hr t (List.mem_of_mem_take ht))
  refine w_Model_triedBy_17 (fun c => ?_) (fun c => ?_)
  · have kn : k = r.length := by omega
    subst kn
    rw [List.take_length] at h5 e4 b5
    refine w_Model_triedBy_73 (fun q => ?_) (fun q => ?_)
    · refine w_Model_triedBy_84 ?_
      refine w_Model_triedBy_85 ?_
      exact ⟨by rw [if_neg (by omega)], rfl⟩
    · refine w_Model_triedBy_79 ?_
      refine w_Model_triedBy_85 ?_
      exact ⟨by rw [if_pos (by omega), e4], rfl⟩
  · have kl : k < r.length := by omega
    obtain ⟨t, ht0⟩ : ∃ t, r[k]? = some t := ⟨r[k], List.getElem?_eq_getElem kl⟩
    have tn : t < n := hr t (List.mem_of_getElem? ht0)
    have et : h.1 93 z.toNatClampNeg = Int32.ofNat t := by rw [ez]; exact R k t ht0
    have ht : (h.1 93 z.toNatClampNeg).toInt = (t : Int) := by rw [et]; exact t_nat (by omega)
    have e1 := (n_add (n_mul (show (6 : Int32).toInt = ((6 : Nat) : Int) from rfl) h6 (by omega)) ht (by omega))
    have w1 := TM.2.2 _ t lk tn
    have wb := wl (lstF 0 (r.take k)) t
    have bs := smF_le sl (r.take k)
    have tl : (r.take k).length ≤ 5 := by rw [List.length_take]; omega
    have s0 := sl 0
    have st := sl t
    refine w_Model_triedBy_23 L (by omega) (by rw [e1]; omega) (Tc.wc (r_coins M L ha T hb n8 TM.2.1 _ xl ht (by omega) hy hl hp)) (Is.k ?_)
    refine w_Model_triedBy_64 rfl rfl ?_
    rw [n_eq e1, w1]
    refine ih kl _ ⟨_, _, _, _, rfl, t_succ hz (by omega), ?_, ?_, ?_, ?_⟩
    · rw [lstF_take ht0, smF_app, smF, smF, e4]
      refine ofN ?_ (by omega)
      exact (n_add (t_nat (by omega)) (t_nat (by omega)) (by omega)).trans (by omega)
    · rw [lstF_take ht0, dsF_app, dsF, dsF]
      exact (n_add h5 (t_nat (by omega)) (by omega)).trans (by omega)
    · rw [lstF_take ht0, dsF_app, dsF, dsF]
      omega
    · rw [lstF_take ht0, lstF_app]
      exact ht
end M74
