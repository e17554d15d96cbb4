/-! OPERATION stop -/
section M58
variable {rod : Nat → Nat × (Nat → Int32)} {d : Nat} {h : MH} {a l n k : Nat}
theorem start_bd (r : LandRel h a l) (hn : (h.1 a 4).toInt = (n : Int)) : SBd 0 n (startS (ld h a)) := by
  intro b hb
  have q := (r.2.2.2.2.2.2.2.2.2.2.2.2.1 b (by omega)).2
  refine ⟨⟨by have := q.2.2.1.1; show _ ≤ (h.1 (a + 3) b).toInt; omega, q.2.2.1.2⟩, q.2.2.2.2.1, ?_⟩
  show (0 : Int) ≤ 0 ∧ (0 : Int) ≤ _
  omega
theorem LandRel.yr (r : LandRel h a l) (hk : (h.1 a 5).toInt = (k : Int)) : ∀ t, t < k → 1 ≤ (ld h a 6 t).toInt ∧ (ld h a 6 t).toInt ≤ 60 := fun t ht => (r.2.2.2.2.2.2.2.2.2.2.2.2.2.1 t (by omega)).2.2.1
theorem op_stop (x y : Int32) : OpI INV rod 75 231 [x, y] := by
  refine OpI.mk fun h hI => ?_
  have L := hI.lay
  by_cases hk : 0 ≤ x.toInt ∧ x.toInt < (h.1 3 0).toInt
  · obtain ⟨A, R, ha, hk2⟩ := hI.landK hk
    have ek := n_of hk.1
    have at1 := fun (d : Nat) => s_landAt1 (rod := rod) (d := d) hI hk
    generalize x.toNatClampNeg = kk at ek hk2 A R ha at1
    have tw := R.tw
    have bu := R.bu
    have le := R.le
    obtain ⟨n, hn⟩ := Int.eq_ofNat_of_zero_le bu.1
    obtain ⟨k, hkk⟩ := Int.eq_ofNat_of_zero_le le.1
    by_cases hs : 0 ≤ y.toInt ∧ y.toInt < (h.1 3 1).toInt
    · obtain ⟨AS, RS, hs2⟩ := hI.seasonK hs
      have es := n_of hs.1
      have at2 := fun (d : Nat) => s_seasonAt1 (rod := rod) (d := d) hI hs
      generalize y.toNatClampNeg = ss at es hs2 AS RS at2
      have dd := RS.de
      obtain ⟨m, hm⟩ := Int.eq_ofNat_of_zero_le dd.1
      refine ⟨Int32.ofNat (runF (ld h (8 + 18 * kk)) n k (sd h (17 + 18 * ss)) (min (40 : Int32).toNatClampNeg m) 0 (startS (ld h (8 + 18 * kk)))).1, ?_, fun h1 I1 K1 => ?_⟩
      · refine n_Main_stop ?_
        refine w_Main_stop_0 L (Tc.wc (at1 _)) (Is.k ?_)
        refine w_Main_stop_8 L (Tc.wc (at2 _)) (Is.k ?_)
        refine w_Main_stop_17 (fun c => nomatch c) (fun _ _ => ?_)
        refine w_Main_stop_23 (fun c => nomatch c) (fun _ _ => ?_)
        refine w_Main_stop_32 L (c_run L A ha hn (by omega) hkk (by omega) tw AS (by omega) hm (by omega) 40 (by decide)) ?_
        rintro _ h32 ⟨k32, rfl, Q32⟩
        refine w_Main_stop_44 ?_
        exact ⟨rfl, k32⟩
      · have L1 := I1.lay
        have hk1 : (kk : Int) < (h1.1 3 0).toInt := by rw [K1.c 3 (by omega)]; omega
        have is1 := fun (d : Nat) => s_isLand1 (rod := rod) (d := d) I1 x kk ek hk1
        refine n_Model_stop ?_
        refine w_Model_stop_0 L1 (is1 _) ?_
        rintro _ h0 ⟨rfl, k0, M0⟩
        have I0 := I1.keep k0
        have L0 := I0.lay
        have K0 := (Keep.rfl (h := h1)).trans k0
        have e0 : h0.1 (8 + 18 * kk) = h.1 (8 + 18 * kk) := (K1.trans K0).c _ (by omega)
        refine w_Model_stop_5 (fun kc5 => absurd kc5 (by decide)) (fun kc5 => ?_)
        refine w_Model_stop_8 L0 (s_isSeason1 I0 y ss es (by rw [K0.c 3 (by omega), K1.c 3 (by omega)]; omega)) ?_
        rintro _ h8 ⟨rfl, k8, f8, m8⟩
        have I8 := I0.keep k8
        have L8 := I8.lay
        have K8 := K0.trans k8
        have M8 := M0.keep k8 ha (f8 _ (by omega)) (f8 _ (by omega)) (f8 _ (by omega)) (f8 _ (by omega))
        refine w_Model_stop_13 (fun kc13 => ?_) (fun kc13 => absurd kc13 (by decide))
        refine w_Model_stop_18 L8 (r_runs (k := k) M8 L8 ha (by rw [(K1.trans K8).c _ (by omega)]; exact hn) (by omega) (by rw [(K1.trans K8).c _ (by omega)]; exact hkk) (by omega) (I8.season ss (by rw [(K1.trans K8).c 3 (by omega)]; omega)).2.1 (by omega) (by omega) m8 (by rw [(K1.trans K8).c _ (by omega)]; exact hm) 40 (by decide) (start_bd M8.1 (by rw [(K1.trans K8).c _ (by omega)]; exact hn)) (M8.1.yr (by rw [(K1.trans K8).c _ (by omega)]; exact hkk))) ?_
        rintro _ h18 ⟨rfl, k18, q18, Q18, M18, e18⟩
        have L18 := (I8.keep k18).lay
        refine w_Model_stop_24 L18 ?_
        refine ⟨?_, K8.trans k18⟩
        rw [q18, ldk (K1.trans K8) ha, sdk (K1.trans K8) (by omega)]
    · refine ⟨-1, ?_, fun h1 I1 K1 => ?_⟩
      · refine n_Main_stop ?_
        refine w_Main_stop_0 L (Tc.wc (at1 _)) (Is.k ?_)
        refine w_Main_stop_8 L (Tc.wc (s_seasonAt0 hI hs)) (Is.k ?_)
        refine Wb.br (fun _ _ => b_Main_stop_17) (fun c => ?_) (fun _ => ?_)
        · simp at c
        refine w_Main_stop_23 (fun _ => ?_) (fun _ c => nomatch c)
        refine w_Main_stop_28 ?_
        refine w_Main_stop_44 ?_
        exact ⟨rfl, Keep.rfl⟩
      · have L1 := I1.lay
        have hk1 : (kk : Int) < (h1.1 3 0).toInt := by rw [K1.c 3 (by omega)]; omega
        have is1 := fun (d : Nat) => s_isLand1 (rod := rod) (d := d) I1 x kk ek hk1
        refine n_Model_stop ?_
        refine w_Model_stop_0 L1 (is1 _) ?_
        rintro _ h0 ⟨rfl, k0, M0⟩
        have I0 := I1.keep k0
        have L0 := I0.lay
        have K0 := (Keep.rfl (h := h1)).trans k0
        have e0 : h0.1 (8 + 18 * kk) = h.1 (8 + 18 * kk) := (K1.trans K0).c _ (by omega)
        refine w_Model_stop_5 (fun kc5 => absurd kc5 (by decide)) (fun kc5 => ?_)
        refine w_Model_stop_8 L0 (Tc.wc (s_isSeason0 I0 y (by rw [(K1.trans K0).c 3 (by omega)]; exact hs))) (Is.k ?_)
        refine w_Model_stop_13 (fun kc13 => absurd kc13 (by decide)) (fun kc13 => ?_)
        refine w_Model_stop_16 ?_
        exact ⟨rfl, K0⟩
  · refine ⟨-1, ?_, fun h1 I1 K1 => ?_⟩
    · refine n_Main_stop ?_
      refine w_Main_stop_0 L (Tc.wc (s_landAt0 hI hk)) (Is.k ?_)
      refine Wb.callT (fun _ _ _ _ => b_Main_stop_8 (Lay.o0 L) (Lay.k0_0 L)) (by simp only [Option.getD_some, Lay.r0_0 L]; exact s_seasonAt hI y) ?_
      refine Wb.br (fun _ _ => b_Main_stop_17) (fun _ => ?_) (fun c => ?_)
      · refine w_Main_stop_28 ?_
        refine w_Main_stop_44 ?_
        exact ⟨rfl, Keep.rfl⟩
      · simp at c
    · have L1 := I1.lay
      have hk1 : ¬ (0 ≤ x.toInt ∧ x.toInt < (h1.1 3 0).toInt) := by rw [K1.c 3 (by omega)]; exact hk
      refine n_Model_stop ?_
      refine w_Model_stop_0 L1 (Tc.wc (s_isLand0 I1 x hk1)) (Is.k ?_)
      refine w_Model_stop_5 (fun kc5 => ?_) (fun kc5 => absurd kc5 (by decide))
      refine w_Model_stop_16 ?_
      exact ⟨rfl, Keep.rfl⟩
end M58
