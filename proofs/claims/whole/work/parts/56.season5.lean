/-! SEASONS: the reference goes through, shows -/
section M56
variable {rod : Nat → Nat × (Nat → Int32)} {d : Nat} {h : MH} {a l n k : Nat} {S : SSt}
theorem SeasonRel.ofD {s ls : Nat} (r : SeasonRel h s ls) {j : Nat} (hj : (j : Int) < (h.1 s 0).toInt) : h.1 85 (ls + 1 + 3 * j) = sd h s 1 j ∧ h.1 85 (ls + 2 + 3 * j) = sd h s 2 j ∧ h.1 85 (ls + 3 + 3 * j) = sd h s 3 j ∧ (0 ≤ (sd h s 1 j).toInt ∧ (sd h s 1 j).toInt ≤ 6) ∧ ((sd h s 1 j).toInt = 1 → 0 ≤ (sd h s 3 j).toInt ∧ (sd h s 3 j).toInt ≤ 60) := by
  have q := r.2.2 j hj
  exact ⟨q.1.symm, q.2.1.symm, q.2.2.1.symm, q.2.2.2.1, fun c => by have z := q.2.2.2.2.2.2.2.2.2 c; exact ⟨Int.le_trans (by decide) z.1, z.2⟩⟩
theorem r_runs (M : MLand h a l) (L : Lay h.2) (ha : a + 9 ≤ 45) (hn : (h.1 a 4).toInt = (n : Int)) (n8 : n ≤ 8) (hk : (h.1 a 5).toInt = (k : Int)) (k4 : k ≤ 4) {s ls m : Nat} (R : SeasonRel h s ls) (hs : s + 4 ≤ 45) (hl : ls ≤ 1000) (h20 : (h.1 84 20).toInt = (ls : Int)) (hd : (h.1 s 0).toInt = (m : Int)) (N : Int32) (hN : 0 ≤ N.toInt) (B0 : SBd 0 n (startS (ld h a))) (hY : ∀ t, t < k → 1 ≤ (ld h a 6 t).toInt ∧ (ld h a 6 t).toInt ≤ 60) : Wc rod (d + 5) 232 [.inr (.inr (.inl (some 84))), .inl N] h (fun r h' => r = none ∧ Keep h h' ∧ h'.1 84 28 = Int32.ofNat (runF (ld h a) n k (sd h s) (min N.toNatClampNeg m) 0 (startS (ld h a))).1 ∧ SimM h' (runF (ld h a) n k (sd h s) (min N.toNatClampNeg m) 0 (startS (ld h a))).2 n ∧ MLand h' a l ∧ h'.1 84 20 = h.1 84 20) := by
  have eN := n_of hN
  have m40 := R.de
  have t6 := M.1.tw
  refine n_Model_runs ?_
  refine w_Model_runs_0 L (r_begins M L ha hn) ?_
  rintro _ h0 ⟨rfl, k0, Q0, M0, e0, f0⟩
  refine Wb.uph (min N.toNatClampNeg m) (fun j L' h' => L' = [some (.inr (.inr (.inl (some 84)))), some (.inl N)] ∧ ∃ (S : SSt), Keep h h' ∧ SimM h' S n ∧ (0 ≤ (S.1 1).toInt ∧ (S.1 1).toInt < (h.1 a 0).toInt) ∧ SBd j n S ∧ MLand h' a l ∧ h'.1 84 20 = h.1 84 20 ∧ (h'.1 84 28).toInt = (j : Int) ∧ runF (ld h a) n k (sd h s) (min N.toNatClampNeg m) 0 (startS (ld h a)) = runF (ld h a) n k (sd h s) (min N.toNatClampNeg m - j) j S) ?_ (Nat.zero_le _) ⟨rfl, _, k0, Q0, ⟨by show (0 : Int) ≤ 0; omega, by show (0 : Int) < _; omega⟩, B0, M0, e0, by rw [f0]; rfl, by rw [Nat.sub_zero]⟩
  rintro j _ g hj ⟨rfl, S, K, Qg, tw, B, Mg, eg, hz, hv⟩ ih
  have Lg := L.keep K
  have dl : (g.1 84 20).toInt = (ls : Int) := by rw [eg]; exact h20
  have Rg : SeasonRel g s ls := R.keep (fun c h1 h2 => K.c c (by omega)) (K.2 85 (by simp only [Scr]; omega))
  have da := ldk K ha
  have ds := sdk K hs
  have dm : (g.1 s 0).toInt = (m : Int) := by rw [K.c s (by omega)]; exact hd
  have ga := K.c a (by omega)
  have r0 : (g.1 85 (g.1 84 20).toNatClampNeg).toInt = (m : Int) := by rw [n_eq dl, ← Rg.1]; exact dm
  refine w_Model_runs_4 Lg (fun kc4 => ?_) (fun kc4 => ?_)
  · (try simp only [ite01t, ite01v, Int32.reduceToInt, t_m1, t_m2, t_m1000, Decidable.not_not] at kc4); (try simp only [r0] at kc4)
    refine w_Model_runs_102 ?_
    have hj : j = min N.toNatClampNeg m := by omega
    refine ⟨rfl, K, ?_, ?_, Mg, eg⟩
    · rw [hv, ← hj, Nat.sub_self, runF]; exact ofN hz (by omega)
    · rw [hv, ← hj, Nat.sub_self, runF]; exact Qg
  · (try simp only [ite01t, ite01v, Int32.reduceToInt, t_m1, t_m2, t_m1000, Decidable.not_not] at kc4); (try simp only [r0] at kc4)
    refine w_Model_runs_12 Lg (by rw [dl]; omega) (fun kc12 => ?_) (fun kc12 => ?_)
    · (try simp only [ite01t, ite01v, Int32.reduceToInt, t_m1, t_m2, t_m1000, Decidable.not_not] at kc12); (try simp only [r0] at kc12)
      refine w_Model_runs_102 ?_
      have hj : j = min N.toNatClampNeg m := by omega
      refine ⟨rfl, K, ?_, ?_, Mg, eg⟩
      · rw [hv, ← hj, Nat.sub_self, runF]; exact ofN hz (by omega)
      · rw [hv, ← hj, Nat.sub_self, runF]; exact Qg
    · (try simp only [ite01t, ite01v, Int32.reduceToInt, t_m1, t_m2, t_m1000, Decidable.not_not] at kc12); (try simp only [r0] at kc12)
      have o := Rg.ofD (j := j) (by rw [dm]; omega)
      have e1 := (n_add (n_add dl (show (1 : Int32).toInt = ((1 : Nat) : Int) from rfl) (by omega)) (n_mul (show (3 : Int32).toInt = ((3 : Nat) : Int) from rfl) hz (by omega)) (by omega))
      have e2 := (n_add (n_add dl (show (2 : Int32).toInt = ((2 : Nat) : Int) from rfl) (by omega)) (n_mul (show (3 : Int32).toInt = ((3 : Nat) : Int) from rfl) hz (by omega)) (by omega))
      have e3 := (n_add (n_add dl (show (3 : Int32).toInt = ((3 : Nat) : Int) from rfl) (by omega)) (n_mul (show (3 : Int32).toInt = ((3 : Nat) : Int) from rfl) hz (by omega)) (by omega))
      refine w_Model_runs_28 Lg (by rw [e1]; omega) (by rw [e2]; omega) (by rw [e3]; omega) (r_does Qg Mg Lg ha (by rw [ga]; exact hn) n8 (by rw [ga]; exact hk) k4 (by rw [ga]; exact tw) (q := j) (by omega) B _ _ _ (by rw [n_eq e1, o.1]; exact o.2.2.2.1)) ?_
      rintro _ h28 ⟨k28, rfl, Q28, M28, e28, f28⟩
      rw [n_eq e1, n_eq e2, n_eq e3, o.1, o.2.1, o.2.2.1, da, ds] at Q28
      rw [n_eq e1, n_eq e2, n_eq e3, o.1, o.2.1, o.2.2.1, da, ds]
      refine w_Model_runs_86 (fun kc86 => ?_) (fun kc86 => ?_)
      · (try simp only [ite01t, ite01v, Int32.reduceToInt, t_m1, t_m2, t_m1000, Decidable.not_not] at kc86); (try simp only [r0] at kc86)
        refine w_Model_runs_102 ?_
        have q2 := Option.not_isSome_iff_eq_none.mp kc86
        rw [q2] at Q28
        refine ⟨rfl, K.trans k28, ?_, ?_, M28, e28.trans eg⟩
        · rw [hv, runF_no (by omega) q2, f28]; exact ofN hz (by omega)
        · rw [hv, runF_no (by omega) q2]; exact Q28
      · (try simp only [ite01t, ite01v, Int32.reduceToInt, t_m1, t_m2, t_m1000, Decidable.not_not] at kc86); (try simp only [r0] at kc86)
        refine w_Model_runs_89 (Lg.keep k28) ?_
        refine w_Model_runs_99 ?_
        obtain ⟨S2, q2⟩ := Option.isSome_iff_exists.mp kc86
        rw [q2] at Q28
        refine ih (by omega) _ _ ⟨rfl, S2, (K.trans k28).si (scrI 84 (by omega)), ⟨fun i hi => by rw [sI_nj (by omega)]; exact Q28.1 i hi, fun c b hc hb => by rw [sI_nc (by omega)]; exact Q28.2 c b hc hb⟩, actF_tw q2 tw, actF_bd q2 B (by omega) hY (by rw [← ds]; exact o.2.2.2.2), M28.si84 ha (by omega), by rw [sI_nj (by omega), e28]; exact eg, ?_, by rw [hv, runF_go (by omega) q2]⟩
        rw [sI_same, f28]
        exact t_succ hz (by omega)
end M56
