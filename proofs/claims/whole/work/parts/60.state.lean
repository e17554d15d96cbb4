/-! OPERATION state -/
section M60
variable {rod : Nat → Nat × (Nat → Int32)} {d : Nat} {h : MH} {a l n k : Nat}
theorem runF_le {D : Nat → Nat → Int32} {G : Nat → Nat → Int32} : ∀ (c j : Nat) (S : SSt), (runF D n k G c j S).1 ≤ j + c := by
  intro c
  induction c with
  | zero => intro j S; simp only [runF]; omega
  | succ c ih =>
    intro j S
    simp only [runF]
    split
    · simp only; omega
    · have := ih (j + 1) ‹SSt›
      omega
/-- the reference's run, of a land and a season at hand -/
theorem r_runsI (I : INV h) {kk ss m : Nat} (hk2 : kk < 2) (M : MLand h (8 + 18 * kk) (610 + 90 * kk)) (hs : (ss : Int) < (h.1 3 1).toInt) (h20 : (h.1 84 20).toInt = ((790 + 121 * ss : Nat) : Int)) {D G : Nat → Nat → Int32} (hD : ld h (8 + 18 * kk) = D) (hG : sd h (17 + 18 * ss) = G) (hn : (h.1 (8 + 18 * kk) 4).toInt = (n : Int)) (hk : (h.1 (8 + 18 * kk) 5).toInt = (k : Int)) (hm : (h.1 (17 + 18 * ss) 0).toInt = (m : Int)) (N : Int32) (hN : 0 ≤ N.toInt) : Wc rod (d + 5) 232 [.inr (.inr (.inl (some 84))), .inl N] h (fun r h' => r = none ∧ Keep h h' ∧ h'.1 84 28 = Int32.ofNat (runF D n k G (min N.toNatClampNeg m) 0 (startS D)).1 ∧ SimM h' (runF D n k G (min N.toNatClampNeg m) 0 (startS D)).2 n ∧ MLand h' (8 + 18 * kk) (610 + 90 * kk) ∧ h'.1 84 20 = h.1 84 20) := by
  have bu := M.1.bu
  have le := M.1.le
  have q1 := I.many 1 (by omega)
  rw [← hD, ← hG]
  exact r_runs M I.lay (by omega) hn (by omega) hk (by omega) (I.season ss hs).2.1 (by omega) (by omega) h20 hm N hN (start_bd M.1 hn) (M.1.yr hk)
theorem op_state (x y z w : Int32) : OpI INV rod 88 240 [x, y, z, w] := by
  refine OpI.mk fun h hI => ?_
  have L := hI.lay
  by_cases hk : 0 ≤ x.toInt ∧ x.toInt < (h.1 3 0).toInt
  · obtain ⟨A, R, ha, hk2⟩ := hI.landK hk
    have ek := n_of hk.1
    have at1 := fun (d : Nat) => s_landAt1 (rod := rod) (d := d) hI hk
    generalize x.toNatClampNeg = kk at ek hk2 A R ha at1
    have tw := R.tw
    have bu := R.bu
    have le := R.le
    obtain ⟨n, hn⟩ := Int.eq_ofNat_of_zero_le bu.1
    obtain ⟨k, hkk⟩ := Int.eq_ofNat_of_zero_le le.1
    by_cases hs : 0 ≤ y.toInt ∧ y.toInt < (h.1 3 1).toInt
    · obtain ⟨AS, RS, hs2⟩ := hI.seasonK hs
      have es := n_of hs.1
      have at2 := fun (d : Nat) => s_seasonAt1 (rod := rod) (d := d) hI hs
      generalize y.toNatClampNeg = ss at es hs2 AS RS at2
      have dd := RS.de
      obtain ⟨m, hm⟩ := Int.eq_ofNat_of_zero_le dd.1
      have rl := runF_le (D := ld h (8 + 18 * kk)) (G := sd h (17 + 18 * ss)) (n := n) (k := k) (min z.toNatClampNeg m) 0 (startS (ld h (8 + 18 * kk)))
      have t1 := t_nat (n := (runF (ld h (8 + 18 * kk)) n k (sd h (17 + 18 * ss)) (min (z : Int32).toNatClampNeg m) 0 (startS (ld h (8 + 18 * kk)))).1) (by omega)
      have ez := n_of (x := z)
      refine ⟨if 0 ≤ z.toInt ∧ ((runF (ld h (8 + 18 * kk)) n k (sd h (17 + 18 * ss)) (min (z : Int32).toNatClampNeg m) 0 (startS (ld h (8 + 18 * kk)))).1 : Int) = z.toInt then showV n (runF (ld h (8 + 18 * kk)) n k (sd h (17 + 18 * ss)) (min (z : Int32).toNatClampNeg m) 0 (startS (ld h (8 + 18 * kk)))).2 w else -1000, ?_, fun h1 I1 K1 => ?_⟩
      · refine n_Main_state ?_
        refine w_Main_state_0 L (Tc.wc (at1 _)) (Is.k ?_)
        refine w_Main_state_8 L rfl (Tc.wc (at2 _)) (Is.k ?_)
        refine w_Main_state_18 (fun c => nomatch c) (fun _ _ => ?_)
        refine w_Main_state_25 (fun c => nomatch c) (fun _ _ => ?_)
        refine w_Main_state_30 (fun kc30 => ?_) (fun kc30 => ?_)
        · (try simp only [ite01t, ite01v, Int32.reduceToInt, t_m1, t_m2, t_m1000, Decidable.not_not] at kc30); (try simp only [t1] at kc30)
          refine w_Main_state_50 ?_
          first
          | exact ⟨by rw [if_neg (by omega)], Keep.rfl⟩
          | exact ⟨by rw [if_neg (by omega)], k34⟩
        · (try simp only [ite01t, ite01v, Int32.reduceToInt, t_m1, t_m2, t_m1000, Decidable.not_not] at kc30); (try simp only [t1] at kc30)
          refine w_Main_state_34 L (c_run L A ha hn (by omega) hkk (by omega) tw AS (by omega) hm (by omega) z (by omega)) ?_
          rintro _ h34 ⟨k34, rfl, Q34⟩
          have L34 := L.keep k34
          have A34 := A.keep k34
          refine w_Main_state_46 (fun kc46 => ?_) (fun kc46 => ?_)
          · (try simp only [ite01t, ite01v, Int32.reduceToInt, t_m1, t_m2, t_m1000, Decidable.not_not] at kc46); (try simp only [t1] at kc46)
            refine w_Main_state_54 L34 (Tc.wc (c_show Q34 L34 A34 ha (by rw [k34.c _ (by omega)]; exact hn) (by omega) w)) (Is.k ?_)
            refine w_Main_state_65 ?_
            exact ⟨by rw [if_pos (by omega)], k34⟩
          · (try simp only [ite01t, ite01v, Int32.reduceToInt, t_m1, t_m2, t_m1000, Decidable.not_not] at kc46); (try simp only [t1] at kc46)
            refine w_Main_state_50 ?_
            first
            | exact ⟨by rw [if_neg (by omega)], Keep.rfl⟩
            | exact ⟨by rw [if_neg (by omega)], k34⟩
      · have L1 := I1.lay
        have hk1 : (kk : Int) < (h1.1 3 0).toInt := by rw [K1.c 3 (by omega)]; omega
        have is1 := fun (d : Nat) => s_isLand1 (rod := rod) (d := d) I1 x kk ek hk1
        refine n_Model_state ?_
        refine w_Model_state_0 L1 (is1 _) ?_
        rintro _ h0 ⟨rfl, k0, M0⟩
        have I0 := I1.keep k0
        have L0 := I0.lay
        have K0 := (Keep.rfl (h := h1)).trans k0
        have e0 : h0.1 (8 + 18 * kk) = h.1 (8 + 18 * kk) := (K1.trans K0).c _ (by omega)
        refine w_Model_state_5 (fun kc5 => absurd kc5 (by decide)) (fun kc5 => ?_)
        refine w_Model_state_8 L0 (s_isSeason1 I0 y ss es (by rw [K0.c 3 (by omega), K1.c 3 (by omega)]; omega)) ?_
        rintro _ h8 ⟨rfl, k8, f8, m8⟩
        have I8 := I0.keep k8
        have L8 := I8.lay
        have K8 := K0.trans k8
        have M8 := M0.keep k8 ha (f8 _ (by omega)) (f8 _ (by omega)) (f8 _ (by omega)) (f8 _ (by omega))
        refine w_Model_state_13 (fun kc13 => absurd kc13 (by decide)) (fun kc13 => ?_)
        refine w_Model_state_16 (fun kc16 => ?_) (fun kc16 => ?_)
        · (try simp only [ite01t, ite01v, Int32.reduceToInt, t_m1, t_m2, t_m1000, Decidable.not_not] at kc16); (try simp only [q29, t1] at kc16)
          refine w_Model_state_25 ?_
          refine ⟨?_, K8⟩
          first
          | (rw [if_neg (by omega)]; done)
          | (split
             · rw [showV, if_neg (by omega), if_neg (by omega)]
             · rfl)
        · (try simp only [ite01t, ite01v, Int32.reduceToInt, t_m1, t_m2, t_m1000, Decidable.not_not] at kc16); (try simp only [q29, t1] at kc16)
          refine w_Model_state_20 (fun kc20 => ?_) (fun kc20 => ?_)
          · (try simp only [ite01t, ite01v, Int32.reduceToInt, t_m1, t_m2, t_m1000, Decidable.not_not] at kc20); (try simp only [q29, t1] at kc20)
            refine w_Model_state_29 L8 (r_runsI (k := k) I8 hk2 M8 (by rw [(K1.trans K8).c 3 (by omega)]; omega) m8 (ldk (K1.trans K8) ha) (sdk (K1.trans K8) (by omega)) (by rw [(K1.trans K8).c _ (by omega)]; exact hn) (by rw [(K1.trans K8).c _ (by omega)]; exact hkk) (by rw [(K1.trans K8).c _ (by omega)]; exact hm) z (by omega)) ?_
            rintro _ h29 ⟨rfl, k29, q29, Q29, M29, g29⟩
            have I29 := I8.keep k29
            have L29 := I29.lay
            have K29 := K8.trans k29
            have m29 : (h29.1 84 20).toInt = ((790 + 121 * ss : Nat) : Int) := by rw [g29]; exact m8
            refine w_Model_state_34 L29 (fun kc34 => ?_) (fun kc34 => ?_)
            · (try simp only [ite01t, ite01v, Int32.reduceToInt, t_m1, t_m2, t_m1000, Decidable.not_not] at kc34); (try simp only [q29, t1] at kc34)
              refine w_Model_state_51 ?_
              refine w_Model_state_54 ?_
              exact ⟨by first | rw [if_pos (by omega)] | rw [if_neg (by omega)], K29⟩
            · (try simp only [ite01t, ite01v, Int32.reduceToInt, t_m1, t_m2, t_m1000, Decidable.not_not] at kc34); (try simp only [q29, t1] at kc34)
              refine w_Model_state_42 L29 (Tc.wc (r_now Q29 M29 L29 (by rw [(K1.trans K29).c _ (by omega)]; exact hn) (by omega) w (by omega))) (Is.k ?_)
              refine w_Model_state_48 ?_
              refine w_Model_state_54 ?_
              exact ⟨by first | rw [if_pos (by omega)] | rw [if_neg (by omega)], K29⟩
          · (try simp only [ite01t, ite01v, Int32.reduceToInt, t_m1, t_m2, t_m1000, Decidable.not_not] at kc20); (try simp only [q29, t1] at kc20)
            refine w_Model_state_25 ?_
            refine ⟨?_, K8⟩
            first
            | (rw [if_neg (by omega)]; done)
            | (split
               · rw [showV, if_neg (by omega), if_neg (by omega)]
               · rfl)
    · refine ⟨-1000, ?_, fun h1 I1 K1 => ?_⟩
      · refine n_Main_state ?_
        refine w_Main_state_0 L (Tc.wc (at1 _)) (Is.k ?_)
        refine w_Main_state_8 L rfl (Tc.wc (s_seasonAt0 hI hs)) (Is.k ?_)
        refine Wb.br (fun _ _ => b_Main_state_18) (fun c => ?_) (fun _ => ?_)
        · simp at c
        refine w_Main_state_25 (fun _ => ?_) (fun _ c => nomatch c)
        refine w_Main_state_50 ?_
        exact ⟨rfl, Keep.rfl⟩
      · have L1 := I1.lay
        have hk1 : (kk : Int) < (h1.1 3 0).toInt := by rw [K1.c 3 (by omega)]; omega
        have is1 := fun (d : Nat) => s_isLand1 (rod := rod) (d := d) I1 x kk ek hk1
        refine n_Model_state ?_
        refine w_Model_state_0 L1 (is1 _) ?_
        rintro _ h0 ⟨rfl, k0, M0⟩
        have I0 := I1.keep k0
        have L0 := I0.lay
        have K0 := (Keep.rfl (h := h1)).trans k0
        have e0 : h0.1 (8 + 18 * kk) = h.1 (8 + 18 * kk) := (K1.trans K0).c _ (by omega)
        refine w_Model_state_5 (fun kc5 => absurd kc5 (by decide)) (fun kc5 => ?_)
        refine w_Model_state_8 L0 (Tc.wc (s_isSeason0 I0 y (by rw [(K1.trans K0).c 3 (by omega)]; exact hs))) (Is.k ?_)
        refine w_Model_state_13 (fun kc13 => ?_) (fun kc13 => absurd kc13 (by decide))
        refine w_Model_state_25 ?_
        exact ⟨rfl, K0⟩
  · refine ⟨-1000, ?_, fun h1 I1 K1 => ?_⟩
    · refine n_Main_state ?_
      refine w_Main_state_0 L (Tc.wc (s_landAt0 hI hk)) (Is.k ?_)
      refine Wb.callT (fun _ _ _ _ => b_Main_state_8 rfl (Lay.o0 L) (Lay.k0_0 L)) (by simp only [Option.getD_some, Lay.r0_0 L]; exact s_seasonAt hI y) ?_
      refine Wb.br (fun _ _ => b_Main_state_18) (fun _ => ?_) (fun c => ?_)
      · refine w_Main_state_50 ?_
        exact ⟨rfl, Keep.rfl⟩
      · simp at c
    · have L1 := I1.lay
      have hk1 : ¬ (0 ≤ x.toInt ∧ x.toInt < (h1.1 3 0).toInt) := by rw [K1.c 3 (by omega)]; exact hk
      refine n_Model_state ?_
      refine w_Model_state_0 L1 (Tc.wc (s_isLand0 I1 x hk1)) (Is.k ?_)
      refine w_Model_state_5 (fun kc5 => ?_) (fun kc5 => absurd kc5 (by decide))
      refine w_Model_state_25 ?_
      exact ⟨rfl, Keep.rfl⟩
end M60
