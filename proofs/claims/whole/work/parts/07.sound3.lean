/-! straight instructions: fields -/
theorem inB_in {i : Int32} {n : Nat} (h : inB i n = true) : vp_in i n := by
  simp only [inB, Bool.and_eq_true, decide_eq_true_eq] at h
  intro q
  rcases q with q | q
  · exact absurd h.1 (Int32.not_le.mpr q)
  · omega
theorem gO_at {h : MH} {o : Option Nat} {k : Nat} (hg : gO h o k = true) : ∃ (a : Nat) (q : Nat × Nat), o = some a ∧ h.2.2[a]? = some q ∧ q.1 = k := by
  cases o with
  | none => cases hg
  | some a =>
    simp only [gO] at hg
    split at hg
    · rename_i q hq
      exact ⟨a, q, rfl, hq, by simpa using hg⟩
    · cases hg
theorem gA_at {h : MH} {o : Option Nat} {k : Nat} {i : Int32} (hg : gA h o k i = true) : ∃ (a : Nat) (q : Nat × Nat), o = some a ∧ h.2.2[a]? = some q ∧ q.1 = k ∧ vp_in i q.2 := by
  cases o with
  | none => cases hg
  | some a =>
    simp only [gA] at hg
    split at hg
    · rename_i q hq
      simp only [Bool.and_eq_true, beq_iff_eq] at hg
      exact ⟨a, q, rfl, hq, hg.1, inB_in hg.2⟩
    · cases hg
theorem rE_obj {base : Nat} {cA : Nat → ClassId} {h : MH} {a z : Nat} {q : Nat × Nat} (hq : q.1 = 10 + z) : rE base cA h a q = .inr (z, (List.range q.2).map (fvV base h z a)) := by
  unfold rE
  rw [if_neg (by omega), if_neg (by omega), hq, Nat.add_sub_cancel_left]
theorem rE_prim {base : Nat} {cA : Nat → ClassId} {h : MH} {a : Nat} {q : Nat × Nat} (hq : q.1 < 3) : rE base cA h a q = .inl (cA q.1, q.2, .inl (fun i => mdef (h.1 a i) q.1)) := by
  unfold rE
  rw [if_pos hq]
theorem rE_refs {base : Nat} {cA : Nat → ClassId} {h : MH} {a : Nat} {q : Nat × Nat} (h1 : 3 ≤ q.1) (h2 : q.1 < 10) : rE base cA h a q = .inl (cA q.1, q.2, .inr (.inr (.inr (.inr (fun i => ro base (h.2.1 a i)))))) := by
  unfold rE
  rw [if_neg (by omega), if_pos h2]
theorem rE_sI_ne {base : Nat} {cA : Nat → ClassId} {h : MH} {a b i : Nat} {x : Int32} {q : Nat × Nat} (hb : b ≠ a) : rE base cA (sI h a i x) b q = rE base cA h b q := by
  have e1 : (sI h a i x).1 b = h.1 b := by funext j; simp [sI, hb]
  have e2 : fvV base (sI h a i x) (q.1 - 10) b = fvV base h (q.1 - 10) b := by funext k; unfold fvV; rw [e1]; rfl
  unfold rE
  rw [e1, e2]
  rfl
theorem rE_sR_ne {base : Nat} {cA : Nat → ClassId} {h : MH} {a b i : Nat} {x : Option Nat} {q : Nat × Nat} (hb : b ≠ a) : rE base cA (sR h a i x) b q = rE base cA h b q := by
  have e1 : (sR h a i x).2.1 b = h.2.1 b := by funext j; simp [sR, hb]
  have e2 : fvV base (sR h a i x) (q.1 - 10) b = fvV base h (q.1 - 10) b := by funext k; unfold fvV; rw [e1]; rfl
  unfold rE
  rw [e1, e2]
  rfl
theorem fv_set {base : Nat} {h h' : MH} {z a x N : Nat} {v : Value} (hv : fvV base h' z a x = v) (ho : ∀ j, j ≠ x → fvV base h' z a j = fvV base h z a j) : ((List.range N).map (fvV base h z a)).set x v = (List.range N).map (fvV base h' z a) := by
  apply List.ext_getElem?
  intro j
  rw [List.getElem?_set, List.getElem?_map, List.getElem?_map, List.length_map, List.length_range]
  by_cases hj : x = j
  · subst hj
    rw [if_pos rfl]
    by_cases hl : x < N
    · simp [hl, hv]
    · simp [hl]
  · rw [if_neg hj]
    by_cases hl : j < N
    · simp [hl, ho j (Ne.symm hj)]
    · simp [hl]
section SNB
variable {p : Program} {l : Launch} {e : Env} {R : Room} {s : State} {m : MethodId} {args : Array Value} {below : List Frame} {meth : Method} {c : Code} {Q : State → Prop}
variable {dC : Nat → ClassId} {dI : Nat → Nat → Nat} {cA : Nat → ClassId} {base : Nat} {roa : Nat → Nat} {rod : Nat → Nat × (Nat → Int32)} {own : String} {ini : Bool} {cc : ByteArray} {nF sF n0 s0 nL pc : Nat} {L L' : ML} {st st' : List MV} {h h' : MH}
/-- the heap's size is known all along -/
theorem W_sz {H : Heap} {locs : List Loc} {cells slots : Nat} {g : JFrame} (hP : va_P (dC, dI) classes (rW base cA h) H) (h0 : s.heap.size = base + n0) (hn : n0 + cells = h.2.2.length) (k : H.size = base + h.2.2.length → W p l e R s m args below meth c H locs cells slots Q g) : W p l e R s m args below meth c H locs cells slots Q g := by
  intro T hT X
  refine k ?_ T hT X
  have h1 : s.heap.size ≤ T.heap.size := X.same.2.1
  have h2 : T.heap.size ≤ s.heap.size + cells := X.same.2.2.1
  rw [hT] at h1 h2
  have h3 : base + h.2.2.length ≤ H.size := by
    by_cases hl : h.2.2.length = 0
    · omega
    · have hq : h.2.2[h.2.2.length - 1]? = some (h.2.2[h.2.2.length - 1]'(by omega)) := List.getElem?_eq_getElem (by omega)
      have hlt := (hP _ _ (rW_get (base := base) (cA := cA) hq)).lt
      simp only at hlt
      omega
  omega
set_option maxHeartbeats 4000000 in
theorem sn_F (cx : mCX p R s m args meth c dC dI cA base roa rod own ini cc nF sF n0 s0) {mi : MI} (hck : ckI own ini cc pc mi = true) (hst : stF mi L st h = some (true, L', st', h')) (k : mSW p l e R s m args below meth c Q dC dI cA base roa n0 s0 nL (pc + mi.2.1) L' st' h') : mSW p l e R s m args below meth c Q dC dI cA base roa n0 s0 nL pc L st h := by
  obtain ⟨hx, hb, hown, hts, hK, hRO, hin, hbs, hfr, hlo, hnF, hsF⟩ := cx
  obtain ⟨i, len, x, y, z, w⟩ := mi
  simp only [ckI, Bool.and_eq_true, decide_eq_true_eq] at hck
  obtain ⟨hd, hc⟩ := hck
  intro H locs cells slots ls e1 e2 hP hS hl e4 e5 e6
  simp only [stF] at hst
  split at hst
  · split at hst
    · rename_i o st1
      simp only [Option.some.injEq, Prod.mk.injEq, Bool.and_eq_true, decide_eq_true_eq] at hst
      obtain ⟨⟨hg, hyl⟩, rfl, rfl, rfl⟩ := hst
      obtain ⟨a, q, rfl, hq, hq1⟩ := gO_at hg
      simp only [ckL, Bool.and_eq_true, beq_iff_eq] at hc
      obtain ⟨rfl, hc⟩ := hc
      have hy3 : ¬ y = 3 := by omega
      have hy4 : ¬ y = 4 := by omega
      rw [if_neg hy3, if_neg hy4] at hc
      split at hc
      · rename_i r hr
        obtain ⟨C, T, N⟩ := r
        simp only [Bool.and_eq_true, beq_iff_eq, decide_eq_true_eq] at hc
        obtain ⟨hxN, hft, hlk⟩ := hc
        obtain ⟨hci, -⟩ := cl_ok z C T N hr
        have hN : q.2 = N := by
          rcases e6 q (List.mem_of_getElem? hq) with h8 | ⟨-, C', T', h10⟩
          · omega
          · rw [hq1, Nat.add_sub_cancel_left, hr] at h10
            cases h10
            rfl
        have he := rW_get (base := base) (cA := cA) hq
        rw [rE_obj hq1] at he
        refine va_get (C := C) (T := T) (N := N) (ref := (T x).1) hx hb hts hci hown hK hP a he hr x hxN (ckW_at hts hlk) (fun _ h => h) (v := fvV base h z a x) (by rw [List.getElem?_map, List.getElem?_range (by omega)]; rfl) hd ?_
        have hk := (k H locs cells slots ls e1 e2 hP hS hl e4 e5 e6)
        have ev : rv base roa (if y = 1 then mR (h.2.1 a x) else mI (h.1 a x)) = fvV base h z a x := by
          unfold fvV
          rw [hft]
          by_cases h1 : y = 1
          · rw [if_pos h1, if_pos h1]; exact rv_ro base roa _
          · rw [if_neg h1, if_neg h1]; rfl
        simp only [List.map_cons, Option.getD_some, ev] at hk
        exact hk
      · cases hc
    · rename_i j st1
      simp only [Option.some.injEq, Prod.mk.injEq, Bool.and_eq_true, Bool.or_eq_true, beq_iff_eq, isSt, decide_eq_true_eq] at hst
      obtain ⟨⟨⟨h10, h32⟩, hy⟩, rfl, rfl, rfl⟩ := hst
      simp only [ckL, Bool.and_eq_true, beq_iff_eq] at hc
      obtain ⟨rfl, hc⟩ := hc
      have hkk := (k H locs cells slots ls e1 e2 hP hS hl e4 e5 e6)
      obtain ⟨-, -, hco, hva, -⟩ := hRO.2.2.2.2 j h10 h32
      by_cases hy3 : y = 3
      · rw [if_pos hy3] at hc
        simp only [hy3, if_true] at hkk
        exact vk_getf hx hb hco hS hown (ckW_at hts hc) (fun _ h => h) hd hkk
      · have hy4 : y = 4 := by omega
        rw [if_neg hy3, if_pos hy4] at hc
        simp only [hy3, if_false] at hkk
        exact vk_getf hx hb hva hS hown (ckW_at hts hc) (fun _ h => h) hd hkk
    · cases hst
  · have hput : ∀ (o : Option Nat) (v : Value) (hn : MH) (rest : List MV), gO h o (10 + z) = true → hn.2.2 = h.2.2 → (∀ b q, b ≠ o.getD 0 → rE base cA hn b q = rE base cA h b q) → fvV base hn z (o.getD 0) x = v → (∀ j, j ≠ x → fvV base hn z (o.getD 0) j = fvV base h z (o.getD 0) j) → narrow (ctyp z x) v = v → fits (ctyp z x) v = true → mSW p l e R s m args below meth c Q dC dI cA base roa n0 s0 nL (pc + 3) L rest hn → W p l e R s m args below meth c H locs cells slots Q (F0 m pc ls (v :: rv base roa (mR o) :: rest.map (rv base roa))) := by
      intro o v hn rest hg hs2 hob hfx hfo hnar hfit kin
      obtain ⟨a, q, rfl, hq, hq1⟩ := gO_at hg
      simp only [ckL, Bool.and_eq_true, beq_iff_eq] at hc
      obtain ⟨rfl, hc⟩ := hc
      split at hc
      · rename_i r hr
        obtain ⟨C, T, N⟩ := r
        simp only [Bool.and_eq_true, beq_iff_eq, decide_eq_true_eq, Bool.or_eq_true, Bool.not_eq_true'] at hc
        obtain ⟨hxN, hft, hlk, hfin⟩ := hc
        obtain ⟨hci, hty, hnm, -⟩ := cl_ok z C T N hr
        have hN : q.2 = N := by
          rcases e6 q (List.mem_of_getElem? hq) with h8 | ⟨-, C', T', h10⟩
          · omega
          · rw [hq1, Nat.add_sub_cancel_left, hr] at h10
            cases h10
            rfl
        have he := rW_get (base := base) (cA := cA) hq
        rw [rE_obj hq1] at he
        simp only [Option.getD_some] at hob hfx hfo
        have hset : (rW base cA h).set a (base + a, .inr (z, ((List.range q.2).map (fvV base h z a)).set x v)) = rW base cA hn := by
          refine rW_ext hs2 (fun b q' hb' hq' => hob b q' hb') (fun q' hq' => ?_)
          rw [hq] at hq'
          cases hq'
          rw [rE_obj hq1, fv_set hfx hfo]
        have hgo : ∀ (H1 : Heap) (locs1 : List Loc), va_P (dC, dI) classes ((rW base cA h).set a (base + a, .inr (z, ((List.range q.2).map (fvV base h z a)).set x v))) H1 → va_D (fun q : Nat => base ≤ q) ((rW base cA h).set a (base + a, .inr (z, ((List.range q.2).map (fvV base h z a)).set x v))) → va_S (fun q : Nat => base ≤ q) s.heap H1 locs1 → W p l e R s m args below meth c H1 locs1 cells slots Q (F0 m (pc + 3) ls (rest.map (rv base roa))) := by
          intro H1 locs1 hP1 hD1 hS1
          rw [hset] at hP1
          exact kin H1 locs1 cells slots ls e1 e2 hP1 hS1 hl (by rw [hs2]; exact e4) (by rw [hs2]; exact e5) (by rw [hs2]; exact e6)
        have hlen : x < ((List.range q.2).map (fvV base h z a)).length := by rw [List.length_map, List.length_range]; omega
        rcases hfin with hfin | ⟨hfi, hfo'⟩
        · exact va_put (C := C) (T := T) (N := N) (ref := (T x).1) hx hb hts hci (ctyp z) hty hnm hown hK hP rW_D hS a he hr x hxN (ckW_at hts hlk) (fun _ h => h) hfin (hty x hxN) hnar hfit hlen hd hgo
        · by_cases hff : (T x).2.2.2 = true
          · exact va_putF (C := C) (T := T) (N := N) (ref := (T x).1) hx hb hts hci (ctyp z) hty hnm hown hK hP rW_D hS a he hr x hxN (ckW_at hts hlk) (fun _ h => h) hff (hin hfi) hfo' (hty x hxN) hnar hfit hlen hd hgo
          · exact va_put (C := C) (T := T) (N := N) (ref := (T x).1) hx hb hts hci (ctyp z) hty hnm hown hK hP rW_D hS a he hr x hxN (ckW_at hts hlk) (fun _ h => h) (by simpa using hff) (hty x hxN) hnar hfit hlen hd hgo
      · cases hc
    have hft : len = 3 ∧ ftag z x = y := by
      simp only [ckL, Bool.and_eq_true, beq_iff_eq] at hc
      obtain ⟨rfl, hc⟩ := hc
      split at hc
      · simp only [Bool.and_eq_true, beq_iff_eq, decide_eq_true_eq] at hc
        exact ⟨rfl, hc.2.1⟩
      · cases hc
    obtain ⟨rfl, hft⟩ := hft
    split at hst
    · rename_i v o st1
      simp only [Option.some.injEq, Prod.mk.injEq, Bool.and_eq_true, Bool.or_eq_true, beq_iff_eq, decide_eq_true_eq] at hst
      obtain ⟨⟨hg, hy⟩, rfl, rfl, rfl⟩ := hst
      have hy1 : ¬ ftag z x = 1 := by omega
      have hnf : narrow (ctyp z x) (.int v) = .int v ∧ fits (ctyp z x) (.int v) = true := by
        rcases hy with hy | ⟨hy, hv⟩
        · have : ctyp z x = .int := by
            rw [← hft] at hy
            unfold ftag at hy
            split at hy <;> simp_all
          rw [this]
          exact ⟨rfl, rfl⟩
        · have : ctyp z x = .boolean := by
            rw [← hft] at hy
            unfold ftag at hy
            split at hy <;> simp_all
          rw [this]
          rcases hv with rfl | rfl
          · exact ⟨by decide, by decide⟩
          · exact ⟨by decide, by decide⟩
      have ex : fvV base (sI h (o.getD 0) x v) z (o.getD 0) x = .int v := by
        unfold fvV
        rw [if_neg hy1]
        simp only [sI, and_self, if_true]
      have ej : ∀ j, j ≠ x → fvV base (sI h (o.getD 0) x v) z (o.getD 0) j = fvV base h z (o.getD 0) j := by
        intro j hj
        have e0 : (sI h (o.getD 0) x v).1 (o.getD 0) j = h.1 (o.getD 0) j := by simp only [sI, hj, and_false, if_false]
        unfold fvV
        rw [e0]
        rfl
      exact hput o (.int v) (sI h (o.getD 0) x v) st1 hg rfl (fun b q hb' => rE_sI_ne hb') ex ej hnf.1 hnf.2 k
    · rename_i q o st1
      simp only [Option.some.injEq, Prod.mk.injEq, Bool.and_eq_true, beq_iff_eq] at hst
      obtain ⟨⟨hg, hy⟩, rfl, rfl, rfl⟩ := hst
      have hnf : narrow (ctyp z x) (va_rf (ro base q)) = va_rf (ro base q) ∧ fits (ctyp z x) (va_rf (ro base q)) = true := by
        rw [← hft] at hy
        unfold ftag at hy
        split at hy
        · cases hy
        · cases hy
        · rename_i hct
          rw [hct]
          cases q <;> exact ⟨rfl, rfl⟩
        · rename_i hct
          rw [hct]
          cases q <;> exact ⟨rfl, rfl⟩
        · cases hy
      have ex : fvV base (sR h (o.getD 0) x q) z (o.getD 0) x = va_rf (ro base q) := by
        unfold fvV
        rw [if_pos (by omega)]
        simp only [sR, and_self, if_true]
      have ej : ∀ j, j ≠ x → fvV base (sR h (o.getD 0) x q) z (o.getD 0) j = fvV base h z (o.getD 0) j := by
        intro j hj
        have e0 : (sR h (o.getD 0) x q).2.1 (o.getD 0) j = h.2.1 (o.getD 0) j := by simp only [sR, hj, and_false, if_false]
        unfold fvV
        rw [e0]
        rfl
      have hk := hput o (va_rf (ro base q)) (sR h (o.getD 0) x q) st1 hg rfl (fun b q hb' => rE_sR_ne hb') ex ej hnf.1 hnf.2 k
      rw [← rv_ro base roa q] at hk
      exact hk
    · cases hst
  · cases hst
end SNB
