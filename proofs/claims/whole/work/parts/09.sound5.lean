/-! straight instructions: new cells, and the JDK's own in one step -/
set_option maxRecDepth 20000 in
theorem jX0 : Cond.instantiable RX0 2 ∈ lw_tbl ∧ Cond.initialized RX0 ∈ lw_tbl := ⟨by decide +kernel, by decide +kernel⟩
set_option maxRecDepth 20000 in
theorem jX1 : Cond.instantiable RX1 14 ∈ lw_tbl ∧ Cond.initialized RX1 ∈ lw_tbl := ⟨by decide +kernel, by decide +kernel⟩
set_option maxRecDepth 20000 in
theorem jX2 : Cond.instantiable RX2 3 ∈ lw_tbl ∧ Cond.initialized RX2 ∈ lw_tbl := ⟨by decide +kernel, by decide +kernel⟩
set_option maxRecDepth 20000 in
theorem jX3 : Cond.instantiable RX3 1 ∈ lw_tbl ∧ Cond.initialized RX3 ∈ lw_tbl := ⟨by decide +kernel, by decide +kernel⟩
set_option maxRecDepth 20000 in
theorem jX4 : Cond.instantiable RX4 4 ∈ lw_tbl ∧ Cond.initialized RX4 ∈ lw_tbl := ⟨by decide +kernel, by decide +kernel⟩
set_option maxRecDepth 20000 in
theorem jX5 : Cond.instantiable RX5 13 ∈ lw_tbl ∧ Cond.initialized RX5 ∈ lw_tbl := ⟨by decide +kernel, by decide +kernel⟩
set_option maxRecDepth 20000 in
theorem jX6 : Cond.instantiable RX6 4 ∈ lw_tbl ∧ Cond.initialized RX6 ∈ lw_tbl := ⟨by decide +kernel, by decide +kernel⟩
set_option maxRecDepth 20000 in
theorem jX7 : Cond.instantiable RX7 4 ∈ lw_tbl ∧ Cond.initialized RX7 ∈ lw_tbl := ⟨by decide +kernel, by decide +kernel⟩
set_option maxRecDepth 20000 in
theorem jX8 : Cond.instantiable RX8 9 ∈ lw_tbl ∧ Cond.initialized RX8 ∈ lw_tbl := ⟨by decide +kernel, by decide +kernel⟩
set_option maxRecDepth 20000 in
theorem jX9 : Cond.instantiable RX9 12 ∈ lw_tbl ∧ Cond.initialized RX9 ∈ lw_tbl := ⟨by decide +kernel, by decide +kernel⟩
set_option maxRecDepth 20000 in
theorem jX10 : Cond.instantiable RX10 8 ∈ lw_tbl ∧ Cond.initialized RX10 ∈ lw_tbl := ⟨by decide +kernel, by decide +kernel⟩
set_option maxRecDepth 20000 in
theorem jX11 : Cond.instantiable RX11 8 ∈ lw_tbl ∧ Cond.initialized RX11 ∈ lw_tbl := ⟨by decide +kernel, by decide +kernel⟩
set_option maxRecDepth 20000 in
theorem jX12 : Cond.instantiable RX12 46 ∈ lw_tbl ∧ Cond.initialized RX12 ∈ lw_tbl := ⟨by decide +kernel, by decide +kernel⟩
theorem cl_new : ∀ (c : Nat) (C : String) (T : u_T) (N : Nat), classes[c]? = some (C, T, N) → Cond.instantiable C N ∈ lw_tbl ∧ Cond.initialized C ∈ lw_tbl := by
  intro c C T N h
  match c, h with
  | 0, h => cases h; exact jX0
  | 1, h => cases h; exact jX1
  | 2, h => cases h; exact jX2
  | 3, h => cases h; exact jX3
  | 4, h => cases h; exact jX4
  | 5, h => cases h; exact jX5
  | 6, h => cases h; exact jX6
  | 7, h => cases h; exact jX7
  | 8, h => cases h; exact jX8
  | 9, h => cases h; exact jX9
  | 10, h => cases h; exact jX10
  | 11, h => cases h; exact jX11
  | 12, h => cases h; exact jX12
  | k + 13, h => simp [classes] at h
set_option maxRecDepth 20000 in
theorem aX_prim : Cond.arrayClass .int ∈ lw_tbl ∧ Cond.arrayClass .byte ∈ lw_tbl ∧ Cond.arrayClass .boolean ∈ lw_tbl := ⟨by decide +kernel, by decide +kernel, by decide +kernel⟩
set_option maxRecDepth 20000 in
theorem aX_over : Cond.arrayOver (.object RX8) ∈ lw_tbl ∧ Cond.arrayOver (.object RX1) ∈ lw_tbl ∧ Cond.arrayOver (.object RX6) ∈ lw_tbl ∧ Cond.arrayOver (.object RX2) ∈ lw_tbl ∧ Cond.arrayOver (.object RX0) ∈ lw_tbl := ⟨by decide +kernel, by decide +kernel, by decide +kernel, by decide +kernel, by decide +kernel⟩
theorem aX_arr {y : Nat} (h1 : 3 ≤ y) (h2 : y < 8) : Cond.arrayOver (.object (arrN y)) ∈ lw_tbl := by
  rcases (show y = 3 ∨ y = 4 ∨ y = 5 ∨ y = 6 ∨ y = 7 by omega) with rfl | rfl | rfl | rfl | rfl
  · exact aX_over.1
  · exact aX_over.2.1
  · exact aX_over.2.2.1
  · exact aX_over.2.2.2.1
  · exact aX_over.2.2.2.2
set_option maxRecDepth 20000 in
theorem mX_max : Cond.static Lib.Math.max.name ∈ lw_tbl ∧ Cond.initialized "java/lang/Math" ∈ lw_tbl ∧ Cond.code Lib.Math.max.name Lib.Math.max.code 2 (some .int) ∈ lw_tbl := ⟨by decide +kernel, by decide +kernel, by decide +kernel⟩
set_option maxRecDepth 20000 in
theorem mX_min : Cond.static Lib.Math.min.name ∈ lw_tbl ∧ Cond.code Lib.Math.min.name Lib.Math.min.code 2 (some .int) ∈ lw_tbl := ⟨by decide +kernel, by decide +kernel⟩
set_option maxRecDepth 20000 in
theorem mX_abs : Cond.static Lib.Math.abs.name ∈ lw_tbl ∧ Cond.code Lib.Math.abs.name Lib.Math.abs.code 1 (some .int) ∈ lw_tbl := ⟨by decide +kernel, by decide +kernel⟩
set_option maxRecDepth 20000 in
theorem mX_copy : Cond.native arraycopyName ∈ lw_tbl ∧ Cond.static arraycopyName ∈ lw_tbl ∧ Cond.initialized "java/lang/System" ∈ lw_tbl := ⟨by decide +kernel, by decide +kernel, by decide +kernel⟩
set_option maxRecDepth 20000 in
theorem mX_obj : Cond.instanceMethod objectInit ∈ lw_tbl ∧ Cond.code objectInit ⟨#[0xb1]⟩ 1 none ∈ lw_tbl := ⟨by decide +kernel, by decide +kernel⟩
theorem rE_sN_ne {base : Nat} {cA : Nat → ClassId} {h : MH} {b : Nat} {sh q : Nat × Nat} (hb : b ≠ h.2.2.length) : rE base cA (sN h sh) b q = rE base cA h b q := by
  have e1 : (sN h sh).1 b = h.1 b := by funext j; simp only [sN, hb, if_false]
  have e3 : (sN h sh).2.1 b = h.2.1 b := by funext j; simp only [sN, hb, if_false]
  have e2 : fvV base (sN h sh) (q.1 - 10) b = fvV base h (q.1 - 10) b := by funext k; unfold fvV; rw [e1, e3]
  unfold rE
  rw [e1, e2, e3]
theorem rW_sN {base : Nat} {cA : Nat → ClassId} {h : MH} {sh : Nat × Nat} {e : va_E} (he : rE base cA (sN h sh) h.2.2.length sh = e) : rW base cA h ++ [(base + h.2.2.length, e)] = rW base cA (sN h sh) := by
  apply List.ext_getElem?
  intro b
  have es : (sN h sh).2.2 = h.2.2 ++ [sh] := rfl
  rcases Nat.lt_trichotomy b h.2.2.length with hb | hb | hb
  · rw [List.getElem?_append_left (by rw [rW_len]; exact hb)]
    have hq : h.2.2[b]? = some h.2.2[b] := List.getElem?_eq_getElem hb
    have hq' : (sN h sh).2.2[b]? = some h.2.2[b] := by rw [es, List.getElem?_append_left hb]; exact hq
    rw [rW_get hq, rW_get hq', rE_sN_ne (by omega)]
  · subst hb
    rw [List.getElem?_append_right (by rw [rW_len]; omega), rW_len, Nat.sub_self]
    have hq' : (sN h sh).2.2[h.2.2.length]? = some sh := by rw [es, List.getElem?_append_right (by omega), Nat.sub_self]; rfl
    rw [rW_get hq', he]
    rfl
  · rw [List.getElem?_eq_none (by rw [List.length_append, rW_len]; simp; omega), List.getElem?_eq_none (by rw [rW_len, es, List.length_append]; simp; omega)]
section SND2
variable {p : Program} {l : Launch} {e : Env} {R : Room} {s : State} {m : MethodId} {args : Array Value} {below : List Frame} {meth : Method} {c : Code} {Q : State → Prop}
variable {dC : Nat → ClassId} {dI : Nat → Nat → Nat} {cA : Nat → ClassId} {base : Nat} {roa : Nat → Nat} {rod : Nat → Nat × (Nat → Int32)} {own : String} {ini : Bool} {cc : ByteArray} {nF sF n0 s0 nL pc : Nat} {L L' : ML} {st st' : List MV} {h h' : MH}
/-- where a new cell lies -/
theorem W_new {H : Heap} {locs : List Loc} {cells slots q : Nat} {g : JFrame} {e' : va_E} (hP : va_P (dC, dI) classes (rW base cA h ++ [(q, e')]) H) (hD : va_D (fun q : Nat => base ≤ q) (rW base cA h ++ [(q, e')])) (h0 : s.heap.size = base + n0) (hn : n0 + cells = h.2.2.length) (k : q = base + h.2.2.length → W p l e R s m args below meth c H locs (cells + 1) slots Q g) : W p l e R s m args below meth c H locs (cells + 1) slots Q g := by
  intro T hT X
  refine k ?_ T hT X
  have h2 : T.heap.size ≤ s.heap.size + (cells + 1) := X.same.2.2.1
  rw [hT] at h2
  have hq : (rW base cA h ++ [(q, e')])[h.2.2.length]? = some (q, e') := by
    rw [List.getElem?_append_right (by rw [rW_len]; omega), rW_len, Nat.sub_self]
    rfl
  have h3 : q < H.size := (hP _ _ hq).lt
  have h4 : base ≤ q := hD.2 _ _ hq
  by_cases hlt : q < base + h.2.2.length
  · exfalso
    have hb : q - base < h.2.2.length := by omega
    have hb' : h.2.2[q - base]? = some h.2.2[q - base] := List.getElem?_eq_getElem hb
    have hg := rW_get (base := base) (cA := cA) hb'
    have hg' : (rW base cA h ++ [(q, e')])[q - base]? = some (base + (q - base), rE base cA h (q - base) h.2.2[q - base]) := by
      rw [List.getElem?_append_left (by rw [rW_len]; exact hb)]
      exact hg
    have := hD.1 _ _ _ _ hg' hq (by simp only; omega)
    omega
  · omega
set_option maxHeartbeats 4000000 in
theorem sn_N (cx : mCX p R s m args meth c dC dI cA base roa rod own ini cc nF sF n0 s0) {mi : MI} (hck : ckI own ini cc pc mi = true) (hst : stN mi L st h = some (true, L', st', h')) (hF : h'.2.2.length ≤ nF ∧ slo h'.2.2 ≤ sF) (k : mSW p l e R s m args below meth c Q dC dI cA base roa n0 s0 nL (pc + mi.2.1) L' st' h') : mSW p l e R s m args below meth c Q dC dI cA base roa n0 s0 nL pc L st h := by
  obtain ⟨hx, hb, hown, hts, hK, hRO, hin, hbs, hfr, hlo, hnF, hsF⟩ := cx
  obtain ⟨i, len, x, y, z, w⟩ := mi
  simp only [ckI, Bool.and_eq_true, decide_eq_true_eq] at hck
  obtain ⟨hd, hc⟩ := hck
  intro H locs cells slots ls e1 e2 hP hS hl e4 e5 e6
  have hA : ∀ q : Nat, s.heap.size ≤ q → (fun q : Nat => base ≤ q) q := fun q hq => by
    show base ≤ q
    omega
  have hslo : ∀ sh : Nat × Nat, slo (h.2.2 ++ [sh]) = slo h.2.2 + sh.2 := fun sh => by simp [slo]
  have hlen : ∀ sh : Nat × Nat, (h.2.2 ++ [sh]).length = h.2.2.length + 1 := fun sh => by simp
  have hgo : ∀ (sh : Nat × Nat) (e' : va_E) (rest : List MV) (len : Nat), rE base cA (sN h sh) h.2.2.length sh = e' → (sh.1 < 8 ∨ (10 ≤ sh.1 ∧ ∃ (C : String) (T : u_T), classes[sh.1 - 10]? = some (C, T, sh.2))) → mSW p l e R s m args below meth c Q dC dI cA base roa n0 s0 nL (pc + len) L (mR (some h.2.2.length) :: rest) (sN h sh) → ∀ (q : Nat) (H1 : Heap), va_P (dC, dI) classes (rW base cA h ++ [(q, e')]) H1 → va_D (fun q : Nat => base ≤ q) (rW base cA h ++ [(q, e')]) → va_S (fun q : Nat => base ≤ q) s.heap H1 locs → W p l e R s m args below meth c H1 locs (cells + 1) (slots + sh.2) Q (F0 m (pc + len) ls (.ref q :: rest.map (rv base roa))) := by
    intro sh e' rest len he' hsh kin q H1 hP1 hD1 hS1
    refine W_new hP1 hD1 hbs e4 (fun hq => ?_)
    subst hq
    rw [rW_sN he'] at hP1
    exact kin H1 locs (cells + 1) (slots + sh.2) ls e1 e2 hP1 hS1 hl (by show n0 + (cells + 1) = (h.2.2 ++ [sh]).length; rw [hlen]; omega) (by show s0 + (slots + sh.2) = slo (h.2.2 ++ [sh]); rw [hslo]; omega) (fun q' hq' => by
      rcases List.mem_append.mp hq' with hq' | hq'
      · exact e6 q' hq'
      · rw [List.mem_singleton.mp hq']; exact hsh)
  simp only [stN] at hst
  split at hst
  · simp only [Option.some.injEq, Prod.mk.injEq, decide_eq_true_eq] at hst
    obtain ⟨hg, rfl, rfl, rfl⟩ := hst
    simp only [ckL, Bool.and_eq_true, beq_iff_eq] at hc
    obtain ⟨rfl, hc⟩ := hc
    split at hc
    · rename_i r hr
      obtain ⟨C, T, N⟩ := r
      simp only [Bool.and_eq_true, beq_iff_eq] at hc
      obtain ⟨rfl, hlk⟩ := hc
      obtain ⟨hci, hty, hnm, hft⟩ := cl_ok z C T N hr
      obtain ⟨hi1, hi2⟩ := cl_new z C T N hr
      have hF1 : (h.2.2 ++ [(10 + z, N)]).length ≤ nF := hF.1
      have hF2 : slo (h.2.2 ++ [(10 + z, N)]) ≤ sF := hF.2
      rw [hlen] at hF1
      rw [hslo] at hF2
      simp only at hF2
      refine va_new (ci := z) (C := C) (T := T) (N := N) (fs := (List.range N).map (fvV base (sN h (10 + z, N)) z h.2.2.length)) hx hb hts hci (ctyp z) hty hown (ckW_at hts hlk) (hts _ (mt_in hi1 rfl)) (hts _ (mt_in hi2 rfl)) hK hP rW_D hS hA hr (fun j hj => ?_) (by omega) (by omega) hd (hgo (10 + z, N) _ st 3 (rE_obj rfl) (Or.inr ⟨by simp, C, T, by simpa using hr⟩) k)
      rw [vp_V, List.getD_eq_getElem?_getD, List.getElem?_map, List.getElem?_range hj]
      have e0 : fvV base (sN h (10 + z, N)) z h.2.2.length j = if ftag z j = 1 then .null else .int 0 := by
        unfold fvV
        simp only [sN, if_true]
        rfl
      simp only [Option.map_some, Option.getD_some, e0]
      have h3 := hft j hj
      unfold ftag at h3 ⊢
      split <;> simp_all [defaultValue]
    · cases hc
  · split at hst
    · rename_i n st1
      simp only [Option.some.injEq, Prod.mk.injEq, gN, Bool.and_eq_true, decide_eq_true_eq] at hst
      obtain ⟨⟨hn0, hn7, hl1⟩, rfl, rfl, rfl⟩ := hst
      simp only [ckL, Bool.and_eq_true, beq_iff_eq] at hc
      obtain ⟨rfl, hc⟩ := hc
      have hF1 : (h.2.2 ++ [(y, n.toNatClampNeg)]).length ≤ nF := hF.1
      have hF2 : slo (h.2.2 ++ [(y, n.toNatClampNeg)]) ≤ sF := hF.2
      rw [hlen] at hF1
      rw [hslo] at hF2
      simp only at hF2
      split at hc
      · simp only [beq_iff_eq] at hc
        subst hc
        refine va_newa (atype := .int) (ty := .int) (a0 := (n.toNatClampNeg, .inl (fun _ => 0))) hx hb (hts _ (mt_in aX_prim.1 rfl)) rfl hK hP rW_D hS hA (fun _ => rfl) (Int32.not_lt.mpr hn0) rfl (by show _ * 4 ≤ _; omega) (by omega) (by omega) hd (fun q cA' H1 hK1 hP1 hD1 hS1 => ?_)
        have ec : cA' = cA 0 := by
          have f1 := (hK1.2 (tysA cA).length (cA', .int) (by rw [List.getElem?_append_right (Nat.le_refl _), Nat.sub_self]; rfl)).2
          have f2 := (hK.2 0 (cA 0, .int) rfl).2
          exact Option.some.inj ((show s.vm.findClass _ = some cA' from f1).symm.trans (show s.vm.findClass _ = some (cA 0) from f2))
        subst ec
        exact hgo (0, n.toNatClampNeg) _ st1 2 (by rw [rE_at rfl (by omega)]; simp only [sN, if_true, mdef0]) (Or.inl (by show (_ : Nat) < 8; omega)) k q H1 hP1 hD1 hS1
      · simp only [beq_iff_eq] at hc
        subst hc
        refine va_newa (atype := .byte) (ty := .byte) (a0 := (n.toNatClampNeg, .inl (fun _ => 0))) hx hb (hts _ (mt_in aX_prim.2.1 rfl)) rfl hK hP rW_D hS hA (fun _ => rfl) (Int32.not_lt.mpr hn0) rfl (by show _ * 1 ≤ _; omega) (by omega) (by omega) hd (fun q cA' H1 hK1 hP1 hD1 hS1 => ?_)
        have ec : cA' = cA 1 := by
          have f1 := (hK1.2 (tysA cA).length (cA', .byte) (by rw [List.getElem?_append_right (Nat.le_refl _), Nat.sub_self]; rfl)).2
          have f2 := (hK.2 1 (cA 1, .byte) rfl).2
          exact Option.some.inj ((show s.vm.findClass _ = some cA' from f1).symm.trans (show s.vm.findClass _ = some (cA 1) from f2))
        subst ec
        exact hgo (1, n.toNatClampNeg) _ st1 2 (by rw [rE_at rfl (by omega)]; simp only [sN, if_true, mdef1]; rfl) (Or.inl (by show (_ : Nat) < 8; omega)) k q H1 hP1 hD1 hS1
      · simp only [beq_iff_eq] at hc
        subst hc
        refine va_newa (atype := .boolean) (ty := .boolean) (a0 := (n.toNatClampNeg, .inl (fun _ => 0))) hx hb (hts _ (mt_in aX_prim.2.2 rfl)) rfl hK hP rW_D hS hA (fun _ => rfl) (Int32.not_lt.mpr hn0) rfl (by show _ * 1 ≤ _; omega) (by omega) (by omega) hd (fun q cA' H1 hK1 hP1 hD1 hS1 => ?_)
        have ec : cA' = cA 2 := by
          have f1 := (hK1.2 (tysA cA).length (cA', .boolean) (by rw [List.getElem?_append_right (Nat.le_refl _), Nat.sub_self]; rfl)).2
          have f2 := (hK.2 2 (cA 2, .boolean) rfl).2
          exact Option.some.inj ((show s.vm.findClass _ = some cA' from f1).symm.trans (show s.vm.findClass _ = some (cA 2) from f2))
        subst ec
        exact hgo (2, n.toNatClampNeg) _ st1 2 (by rw [rE_at rfl (by omega)]; simp only [sN, if_true, mdef2]; rfl) (Or.inl (by show (_ : Nat) < 8; omega)) k q H1 hP1 hD1 hS1
      · cases hc
    · cases hst
  · split at hst
    · rename_i n st1
      simp only [Option.some.injEq, Prod.mk.injEq, gN, Bool.and_eq_true, decide_eq_true_eq] at hst
      obtain ⟨⟨hn0, hn7, hl1⟩, rfl, rfl, rfl⟩ := hst
      simp only [ckL, Bool.and_eq_true, beq_iff_eq, decide_eq_true_eq] at hc
      obtain ⟨rfl, h3, h8, hlk⟩ := hc
      have hF1 : (h.2.2 ++ [(y, n.toNatClampNeg)]).length ≤ nF := hF.1
      have hF2 : slo (h.2.2 ++ [(y, n.toNatClampNeg)]) ≤ sF := hF.2
      rw [hlen] at hF1
      rw [hslo] at hF2
      simp only at hF2
      refine va_newq hx hb hown (ckW_at hts hlk) (va_AO.of (hts _ (mt_in (aX_arr h3 h8) rfl))) hK hP rW_D hS hA (Int32.not_lt.mpr hn0) rfl (by omega) (by omega) (by omega) hd (fun q cA' H1 hK1 hP1 hD1 hS1 => ?_)
      have ec : cA' = cA y := by
        have f1 := (hK1.2 (tysA cA).length (cA', .object (arrN y)) (by rw [List.getElem?_append_right (Nat.le_refl _), Nat.sub_self]; rfl)).2
        have f2 := (hK.2 y (cA y, .object (arrN y)) (tysA_at h3 h8)).2
        obtain ⟨_, _, _, _, _, g1⟩ := f1
        obtain ⟨_, _, _, _, _, g2⟩ := f2
        exact Option.some.inj (g1.symm.trans g2)
      subst ec
      exact hgo (y, n.toNatClampNeg) _ st1 3 (by rw [rE_refs h3 (by show y < 10; omega)]; simp only [sN, if_true, ro]) (Or.inl (by exact h8)) k q H1 hP1 hD1 hS1
    · cases hst
  · cases hst
set_option maxHeartbeats 4000000 in
theorem sn_X (cx : mCX p R s m args meth c dC dI cA base roa rod own ini cc nF sF n0 s0) {mi : MI} (hck : ckI own ini cc pc mi = true) (hst : stX mi L st h = some (true, L', st', h')) (hF : h'.2.2.length ≤ nF ∧ slo h'.2.2 ≤ sF) (k : mSW p l e R s m args below meth c Q dC dI cA base roa n0 s0 nL (pc + mi.2.1) L' st' h') : mSW p l e R s m args below meth c Q dC dI cA base roa n0 s0 nL pc L st h := by
  obtain ⟨hx, hb, hown, hts, hK, hRO, hin, hbs, hfr, hlo, hnF, hsF⟩ := cx
  obtain ⟨i, len, x, y, z, w⟩ := mi
  simp only [ckI, Bool.and_eq_true, decide_eq_true_eq] at hck
  obtain ⟨hd, hc⟩ := hck
  intro H locs cells slots ls e1 e2 hP hS hl e4 e5 e6
  have hml : c.maxLocals = ls.size := by rw [e2, ← e1]; exact hl.1.symm
  have hsum : ∀ r : List MV, ((r.map (rv base roa)).map fun v => v.category).sum = catS r := by
    intro r
    induction r with
    | nil => rfl
    | cons v r ih =>
      simp only [List.map_cons, List.sum_cons, rv_cat, catS]
      rw [ih]
  simp only [stX] at hst
  split at hst
  · split at hst
    · rename_i st1
      simp only [Option.some.injEq, Prod.mk.injEq, decide_eq_true_eq] at hst
      obtain ⟨hg, rfl, rfl, rfl⟩ := hst
      simp only [ckL, Bool.and_eq_true, beq_iff_eq] at hc
      obtain ⟨rfl, hlk⟩ := hc
      exact va_mmax hx hb hml hown (ckW_at hts hlk) (hts _ (mt_in mX_max.1 rfl)) (hts _ (mt_in mX_max.2.1 rfl)) (hts _ (mt_in mX_max.2.2 rfl)) hfr (by have := hsum st1; omega) (by omega) (by omega) hd (k H locs cells slots ls e1 e2 hP hS hl e4 e5 e6)
    · rename_i st1
      simp only [Option.some.injEq, Prod.mk.injEq, decide_eq_true_eq] at hst
      obtain ⟨hg, rfl, rfl, rfl⟩ := hst
      simp only [ckL, Bool.and_eq_true, beq_iff_eq] at hc
      obtain ⟨rfl, hlk⟩ := hc
      exact va_mmin hx hb hml hown (ckW_at hts hlk) (hts _ (mt_in mX_min.1 rfl)) (hts _ (mt_in mX_max.2.1 rfl)) (hts _ (mt_in mX_min.2 rfl)) hfr (by have := hsum st1; omega) (by omega) (by omega) hd (k H locs cells slots ls e1 e2 hP hS hl e4 e5 e6)
    · rename_i st1
      simp only [Option.some.injEq, Prod.mk.injEq, decide_eq_true_eq] at hst
      obtain ⟨hg, rfl, rfl, rfl⟩ := hst
      simp only [ckL, Bool.and_eq_true, beq_iff_eq] at hc
      obtain ⟨rfl, hlk⟩ := hc
      exact va_mabs hx hb hml hown (ckW_at hts hlk) (hts _ (mt_in mX_abs.1 rfl)) (hts _ (mt_in mX_max.2.1 rfl)) (hts _ (mt_in mX_abs.2 rfl)) hfr (by have := hsum st1; omega) (by omega) (by omega) hd (k H locs cells slots ls e1 e2 hP hS hl e4 e5 e6)
    · rename_i n dp d sp o st1
      simp only [Option.some.injEq, Prod.mk.injEq, decide_eq_true_eq, Bool.and_eq_true] at hst
      obtain ⟨⟨hg, hgo, hgd, hx2, hsp, hdp, hn, hl1, hl2⟩, rfl, rfl, rfl⟩ := hst
      simp only [ckL, Bool.and_eq_true, beq_iff_eq] at hc
      obtain ⟨rfl, hlk⟩ := hc
      obtain ⟨a, q, rfl, hq, hq1⟩ := gO_at hgo
      obtain ⟨b, q2, rfl, hq2, hq21⟩ := gO_at hgd
      have es1 : shN h (some a) = q.2 := by simp [shN, hq]
      have es2 : shN h (some b) = q2.2 := by simp [shN, hq2]
      rw [es1] at hl1
      rw [es2] at hl2
      have he := rW_get (base := base) (cA := cA) hq
      rw [rE_at hq1 (by omega)] at he
      have he2 := rW_get (base := base) (cA := cA) hq2
      rw [rE_at hq21 (by omega)] at he2
      have hw : (rW base cA h).set b (base + b, .inl (cA x, q2.2, .inl (va_cpy (fun i => mdef (h.1 a i) x) (fun i => mdef (h.1 b i) x) sp.toNatClampNeg dp.toNatClampNeg n.toNatClampNeg))) = rW base cA (sC h a b sp.toNatClampNeg dp.toNatClampNeg n.toNatClampNeg) := by
        refine rW_ext rfl (fun b' q' hb' _ => ?_) (fun q' hq' => ?_)
        · have f1 : (sC h a b sp.toNatClampNeg dp.toNatClampNeg n.toNatClampNeg).1 b' = h.1 b' := by funext j; simp only [sC, hb', if_false]
          have f2 : fvV base (sC h a b sp.toNatClampNeg dp.toNatClampNeg n.toNatClampNeg) (q'.1 - 10) b' = fvV base h (q'.1 - 10) b' := by funext k; unfold fvV; rw [f1]; rfl
          unfold rE
          rw [f1, f2]
          rfl
        · rw [hq2] at hq'
          cases hq'
          rw [rE_at hq21 (by omega)]
          have f3 : (fun i => mdef ((sC h a b sp.toNatClampNeg dp.toNatClampNeg n.toNatClampNeg).1 b i) x) = va_cpy (fun i => mdef (h.1 a i) x) (fun i => mdef (h.1 b i) x) sp.toNatClampNeg dp.toNatClampNeg n.toNatClampNeg := by
            funext j
            simp only [sC, if_true, va_cpy]
            split <;> rfl
          rw [f3]
      have hgo2 : ∀ (H1 : Heap) (locs1 : List Loc), va_P (dC, dI) classes ((rW base cA h).set b (base + b, .inl (cA x, q2.2, .inl (va_cpy (fun i => mdef (h.1 a i) x) (fun i => mdef (h.1 b i) x) sp.toNatClampNeg dp.toNatClampNeg n.toNatClampNeg)))) H1 → va_D (fun q : Nat => base ≤ q) ((rW base cA h).set b (base + b, .inl (cA x, q2.2, .inl (va_cpy (fun i => mdef (h.1 a i) x) (fun i => mdef (h.1 b i) x) sp.toNatClampNeg dp.toNatClampNeg n.toNatClampNeg)))) → va_S (fun q : Nat => base ≤ q) s.heap H1 locs1 → W p l e R s m args below meth c H1 locs1 cells slots Q (F0 m (pc + 3) ls (st1.map (rv base roa))) := by
        intro H1 locs1 hP1 hD1 hS1
        rw [hw] at hP1
        exact k H1 locs1 cells slots ls e1 e2 hP1 hS1 hl e4 e5 e6
      have hnw : nativeFrameWords "java/lang/System" "arraycopy" 5 = 7 := by decide +kernel
      have hloc : (((st1.map (rv base roa)).map fun v => v.category).sum) + (nativeFrameWords "java/lang/System" "arraycopy" 5 + 11) ≤ R.locals := by
        have := hsum st1
        rw [hnw]
        omega
      rcases (show x = 0 ∨ x = 1 by omega) with rfl | rfl
      · exact va_copyi hx hb hml hown (ckW_at hts hlk) (hts _ (mt_in mX_copy.1 rfl)) (hts _ (mt_in mX_copy.2.1 rfl)) (hts _ (mt_in mX_copy.2.2 rfl)) hK hP rW_D hS a b 0 0 he he2 rfl rfl rfl (Int32.not_lt.mpr hsp) (Int32.not_lt.mpr hdp) (Int32.not_lt.mpr hn) hl1 hl2 (fun i hi => rfl) hfr hloc hd hgo2
      · exact va_copyi hx hb hml hown (ckW_at hts hlk) (hts _ (mt_in mX_copy.1 rfl)) (hts _ (mt_in mX_copy.2.1 rfl)) (hts _ (mt_in mX_copy.2.2 rfl)) hK hP rW_D hS a b 1 1 he he2 rfl rfl rfl (Int32.not_lt.mpr hsp) (Int32.not_lt.mpr hdp) (Int32.not_lt.mpr hn) hl1 hl2 (fun i hi => pk_fb _) hfr hloc hd hgo2
    · cases hst
  · split at hst
    · rename_i o st1
      simp only [Option.some.injEq, Prod.mk.injEq, decide_eq_true_eq, Bool.and_eq_true] at hst
      obtain ⟨⟨ho, hg⟩, rfl, rfl, rfl⟩ := hst
      simp only [ckL, Bool.and_eq_true, beq_iff_eq] at hc
      obtain ⟨rfl, -, hlk⟩ := hc
      cases o with
      | none => cases ho
      | some a => exact W.objInit hx hb hown (ckW_at hts hlk) (hts _ (mt_in mX_obj.1 rfl)) (hts _ (mt_in mX_obj.2 rfl)) (g := F0 m pc ls (.ref (base + a) :: st1.map (rv base roa))) rfl hml.symm rfl hd hfr (by have := hsum st1; show 2 * 0 + _ + 12 ≤ _; omega) (k H locs cells slots ls e1 e2 hP hS hl e4 e5 e6)
    · cases hst
  · cases hst
end SND2
