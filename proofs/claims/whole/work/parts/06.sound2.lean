/-! straight instructions: constants, locals, numbers, the stack -/
section SNA
variable {p : Program} {l : Launch} {e : Env} {R : Room} {s : State} {m : MethodId} {args : Array Value} {below : List Frame} {meth : Method} {c : Code} {Q : State → Prop}
variable {dC : Nat → ClassId} {dI : Nat → Nat → Nat} {cA : Nat → ClassId} {base : Nat} {roa : Nat → Nat} {rod : Nat → Nat × (Nat → Int32)} {own : String} {ini : Bool} {cc : ByteArray} {nF sF n0 s0 nL pc : Nat} {L L' : ML} {st st' : List MV} {h h' : MH}
theorem W_ldcwS {H : Heap} {locs : List Loc} {cells slots index q : Nat} {ls : Array Slot} {rest : List Value} {tx : String} (hx : p.tables.exec = Jvm.exec) (hb : c.code = cc) (hown : s.vm.findClass own = some m.cls) (hZ : vk_R own index tx q s) (hdg : decode cc pc = .ok (.ldc_w index, 3)) (k : W p l e R s m args below meth c H locs cells slots Q (F0 m (pc + 3) ls (.ref q :: rest))) : W p l e R s m args below meth c H locs cells slots Q (F0 m pc ls rest) := by
  intro T hT X
  obtain ⟨t, a1, b1⟩ := k T hT X
  obtain ⟨kk, cf, i, a', hk, hcf, hcp, -, hr, hev'⟩ := Cond.stringRef_spec hown hZ.1
  cases hZ.2.symm.trans hev'
  obtain ⟨k', hk', he⟩ := X.warmed.alike.2.2 _ _ hk
  have hr' : k'.resolved[index]? = some (some (.string q)) := by
    rcases X.warmed.entry hk hk' index with h | ⟨h, -⟩
    · rw [h]; exact hr
    · rw [hr] at h; cases h
  refine ⟨t, ?_, b1⟩
  have hd' : decode c.code pc = .ok (.ldc_w index, 3) := by rw [hb]; exact hdg
  jvm_step X.here [hx, hd', ldc_w.wp_string (e := e) (s := T) (f := F0 m pc ls rest) X.here.top hk' (by rw [he]; exact hcf) hcp hr']
  exact a1
set_option maxHeartbeats 4000000 in
theorem sn_C (cx : mCX p R s m args meth c dC dI cA base roa rod own ini cc nF sF n0 s0) {mi : MI} (hck : ckI own ini cc pc mi = true) (hst : stC rod mi L st h = some (true, L', st', h')) (k : mSW p l e R s m args below meth c Q dC dI cA base roa n0 s0 nL (pc + mi.2.1) L' st' h') : mSW p l e R s m args below meth c Q dC dI cA base roa n0 s0 nL pc L st h := by
  obtain ⟨hx, hb, hown, hts, hK, hRO, hin, hbs, hfr, hlo, hnF, hsF⟩ := cx
  obtain ⟨i, len, x, y, z, w⟩ := mi
  simp only [ckI, Bool.and_eq_true, decide_eq_true_eq] at hck
  obtain ⟨hd, hc⟩ := hck
  intro H locs cells slots ls e1 e2 hP hS hl e4 e5 e6
  simp only [stC] at hst
  split at hst
  · simp only [Option.some.injEq, Prod.mk.injEq, true_and] at hst
    obtain ⟨rfl, rfl, rfl⟩ := hst
    simp only [ckL, beq_iff_eq] at hc
    subst hc
    exact lv_iconst hx hb hd rfl (k H locs cells slots ls e1 e2 hP hS hl e4 e5 e6)
  · simp only [Option.some.injEq, Prod.mk.injEq, true_and] at hst
    obtain ⟨rfl, rfl, rfl⟩ := hst
    simp only [ckL, beq_iff_eq] at hc
    subst hc
    exact lv_bipush hx hb hd rfl (k H locs cells slots ls e1 e2 hP hS hl e4 e5 e6)
  · simp only [Option.some.injEq, Prod.mk.injEq, true_and] at hst
    obtain ⟨rfl, rfl, rfl⟩ := hst
    simp only [ckL, beq_iff_eq] at hc
    subst hc
    exact lv_sipush hx hb hd rfl (k H locs cells slots ls e1 e2 hP hS hl e4 e5 e6)
  · simp only [Option.some.injEq, Prod.mk.injEq, true_and] at hst
    obtain ⟨rfl, rfl, rfl⟩ := hst
    simp only [ckL, beq_iff_eq] at hc
    subst hc
    exact lv_lconst hx hb hd rfl (k H locs cells slots ls e1 e2 hP hS hl e4 e5 e6)
  · simp only [Option.some.injEq, Prod.mk.injEq, true_and] at hst
    obtain ⟨rfl, rfl, rfl⟩ := hst
    simp only [ckL, Bool.and_eq_true, beq_iff_eq] at hc
    obtain ⟨rfl, hc⟩ := hc
    have hkk := (k H locs cells slots ls e1 e2 hP hS hl e4 e5 e6)
    split at hc
    · rename_i hy
      simp only [hy, if_true, Bool.and_eq_true, beq_iff_eq, isSt, decide_eq_true_eq] at hc hkk
      obtain ⟨ho, ⟨h10, h32⟩, hi⟩ := hc
      subst hi
      have hz := (hRO.2.2.2.2 x h10 h32).1
      rw [← ho] at hz
      exact va_ldcS hx hb hown hz hd hkk
    · rename_i hy
      simp only [hy, if_false] at hkk
      exact lv_ldc hx hb hown (ckW_at hts hc) hd hkk
  · simp only [Option.some.injEq, Prod.mk.injEq, true_and] at hst
    obtain ⟨rfl, rfl, rfl⟩ := hst
    simp only [ckL, Bool.and_eq_true, beq_iff_eq] at hc
    obtain ⟨rfl, hc⟩ := hc
    have hkk := (k H locs cells slots ls e1 e2 hP hS hl e4 e5 e6)
    split at hc
    · rename_i hy
      simp only [hy, if_true, Bool.and_eq_true, beq_iff_eq, isSt, decide_eq_true_eq] at hc hkk
      obtain ⟨ho, ⟨h10, h32⟩, hi⟩ := hc
      subst hi
      have hz := (hRO.2.2.2.2 x h10 h32).1
      rw [← ho] at hz
      exact W_ldcwS hx hb hown hz hd hkk
    · rename_i hy
      simp only [hy, if_false] at hkk
      exact lv_ldcw hx hb hown (ckW_at hts hc) hd hkk
  · simp only [Option.some.injEq, Prod.mk.injEq, true_and] at hst
    obtain ⟨rfl, rfl, rfl⟩ := hst
    simp only [ckL, Bool.and_eq_true, beq_iff_eq] at hc
    obtain ⟨rfl, hc⟩ := hc
    exact lv_ldc2 hx hb hown (ckW_at hts hc) hd (k H locs cells slots ls e1 e2 hP hS hl e4 e5 e6)
  · simp only [Option.some.injEq, Prod.mk.injEq, true_and] at hst
    obtain ⟨rfl, rfl, rfl⟩ := hst
    simp only [ckL, beq_iff_eq] at hc
    subst hc
    exact lv_null hx hb hd (k H locs cells slots ls e1 e2 hP hS hl e4 e5 e6)
  · simp only [Option.some.injEq, Prod.mk.injEq, true_and] at hst
    obtain ⟨rfl, rfl, rfl⟩ := hst
    simp only [ckL, Bool.and_eq_true, beq_iff_eq] at hc
    obtain ⟨rfl, hc⟩ := hc
    have hkk := (k H locs cells slots ls e1 e2 hP hS hl e4 e5 e6)
    split at hc
    · rename_i hy
      simp only [hy, if_true, Bool.and_eq_true, beq_iff_eq] at hc hkk
      obtain ⟨rfl, hc⟩ := hc
      exact va_gets (A := fun q : Nat => base ≤ q) hx hb hRO.2.2.1 hS hown (ckW_at hts hc) (fun _ h => h) hd hkk
    · rename_i hy
      split at hc
      · rename_i hy2
        simp only [hy2, if_true] at hkk
        exact va_gets (A := fun q : Nat => base ≤ q) hx hb hRO.2.2.2.1 hS hown (ckW_at hts hc) (fun _ h => h) hd hkk
      · rename_i hy2
        simp only [hy, hy2, if_false] at hkk
        simp only [Bool.and_eq_true, decide_eq_true_eq] at hc
        exact va_gets (A := fun q : Nat => base ≤ q) hx hb (hRO.1 x hc.1) hS hown (ckW_at hts hc.2) (fun _ h => h) hd hkk
  · cases hst
theorem sn_ldI (hx : p.tables.exec = Jvm.exec) (hb : c.code = cc) {k len : Nat} (hst : ldI L k st h = some (true, L', st', h')) (hrow : ∀ (H : Heap) (locs : List Loc) (cells slots : Nat) (ls : Array Slot) (rest : List Value) (v : Int32), ls[k]? = some (.val (.int v)) → W p l e R s m args below meth c H locs cells slots Q (F0 m (pc + len) ls (.int v :: rest)) → W p l e R s m args below meth c H locs cells slots Q (F0 m pc ls rest)) (kk : mSW p l e R s m args below meth c Q dC dI cA base roa n0 s0 nL (pc + len) L' st' h') : mSW p l e R s m args below meth c Q dC dI cA base roa n0 s0 nL pc L st h := by
  intro H locs cells slots ls e1 e2 hP hS hl e4 e5 e6
  simp only [ldI] at hst
  split at hst
  · rename_i v hv
    simp only [Option.some.injEq, Prod.mk.injEq, true_and] at hst
    obtain ⟨rfl, rfl, rfl⟩ := hst
    exact hrow H locs cells slots ls _ v (lvr_get hl hv) (kk H locs cells slots ls e1 e2 hP hS hl e4 e5 e6)
  · cases hst
theorem sn_ldJ (hx : p.tables.exec = Jvm.exec) (hb : c.code = cc) {k len : Nat} (hst : ldJ L k st h = some (true, L', st', h')) (hrow : ∀ (H : Heap) (locs : List Loc) (cells slots : Nat) (ls : Array Slot) (rest : List Value) (v : Int64), ls[k]? = some (.val (.long v)) → W p l e R s m args below meth c H locs cells slots Q (F0 m (pc + len) ls (.long v :: rest)) → W p l e R s m args below meth c H locs cells slots Q (F0 m pc ls rest)) (kk : mSW p l e R s m args below meth c Q dC dI cA base roa n0 s0 nL (pc + len) L' st' h') : mSW p l e R s m args below meth c Q dC dI cA base roa n0 s0 nL pc L st h := by
  intro H locs cells slots ls e1 e2 hP hS hl e4 e5 e6
  simp only [ldJ] at hst
  split at hst
  · rename_i v hv
    simp only [Option.some.injEq, Prod.mk.injEq, true_and] at hst
    obtain ⟨rfl, rfl, rfl⟩ := hst
    exact hrow H locs cells slots ls _ v (lvr_get hl hv) (kk H locs cells slots ls e1 e2 hP hS hl e4 e5 e6)
  · cases hst
theorem sn_ldA (hx : p.tables.exec = Jvm.exec) (hb : c.code = cc) {k len : Nat} (hst : ldA L k st h = some (true, L', st', h')) (hrow : ∀ (H : Heap) (locs : List Loc) (cells slots : Nat) (ls : Array Slot) (rest : List Value) (v : Nat), ls[k]? = some (.val (.ref v)) → W p l e R s m args below meth c H locs cells slots Q (F0 m (pc + len) ls (.ref v :: rest)) → W p l e R s m args below meth c H locs cells slots Q (F0 m pc ls rest)) (hrow2 : ∀ (H : Heap) (locs : List Loc) (cells slots : Nat) (ls : Array Slot) (rest : List Value), ls[k]? = some (.val .null) → W p l e R s m args below meth c H locs cells slots Q (F0 m (pc + len) ls (.null :: rest)) → W p l e R s m args below meth c H locs cells slots Q (F0 m pc ls rest)) (kk : mSW p l e R s m args below meth c Q dC dI cA base roa n0 s0 nL (pc + len) L' st' h') : mSW p l e R s m args below meth c Q dC dI cA base roa n0 s0 nL pc L st h := by
  intro H locs cells slots ls e1 e2 hP hS hl e4 e5 e6
  simp only [ldA] at hst
  split at hst
  · rename_i v hv
    simp only [Option.some.injEq, Prod.mk.injEq, true_and] at hst
    obtain ⟨rfl, rfl, rfl⟩ := hst
    have hg := lvr_get hl hv
    have hk := kk H locs cells slots ls e1 e2 hP hS hl e4 e5 e6
    match v, hg, hk with
    | .inl none, hg, hk => exact hrow2 H locs cells slots ls _ hg hk
    | .inl (some a), hg, hk => exact hrow H locs cells slots ls _ (base + a) hg hk
    | .inr j, hg, hk => exact hrow H locs cells slots ls _ (roa j) hg hk
  · cases hst
theorem sn_seI (hx : p.tables.exec = Jvm.exec) (hb : c.code = cc) {k len : Nat} (hst : seI L k st h = some (true, L', st', h')) (hrow : ∀ (H : Heap) (locs : List Loc) (cells slots : Nat) (ls : Array Slot) (rest : List Value) (v : Int32) (nn : Nat) (lv : List (Nat × Value)), lv_has ls nn lv → k < nn → (∀ ls' : Array Slot, lv_has ls' nn ((k, Value.int v) :: lv.filter (fun q => !(q.1 == k) && !(q.1 + 1 == k && q.2.category == 2))) → W p l e R s m args below meth c H locs cells slots Q (F0 m (pc + len) ls' rest)) → W p l e R s m args below meth c H locs cells slots Q (F0 m pc ls (.int v :: rest))) (kk : mSW p l e R s m args below meth c Q dC dI cA base roa n0 s0 nL (pc + len) L' st' h') : mSW p l e R s m args below meth c Q dC dI cA base roa n0 s0 nL pc L st h := by
  intro H locs cells slots ls e1 e2 hP hS hl e4 e5 e6
  simp only [seI] at hst
  split at hst
  · rename_i v st1
    simp only [Option.some.injEq, Prod.mk.injEq] at hst
    obtain ⟨hok, rfl, rfl, rfl⟩ := hst
    exact hrow H locs cells slots ls _ v L.length _ hl (okl_lt hok) (fun ls' hl' => kk H locs cells slots ls' (by rw [List.length_set]; exact e1) e2 hP hS (lvr_set1 (v := .inl v) hok hl') e4 e5 e6)
  · cases hst
theorem sn_seJ (hx : p.tables.exec = Jvm.exec) (hb : c.code = cc) {k len : Nat} (hst : seJ L k st h = some (true, L', st', h')) (hrow : ∀ (H : Heap) (locs : List Loc) (cells slots : Nat) (ls : Array Slot) (rest : List Value) (v : Int64) (nn : Nat) (lv : List (Nat × Value)), lv_has ls nn lv → k + 1 < nn → (∀ ls' : Array Slot, lv_has ls' nn ((k, Value.long v) :: lv.filter (fun q => !(q.1 == k) && (!(q.1 == k + 1) && !(q.1 + 1 == k && q.2.category == 2)))) → W p l e R s m args below meth c H locs cells slots Q (F0 m (pc + len) ls' rest)) → W p l e R s m args below meth c H locs cells slots Q (F0 m pc ls (.long v :: rest))) (kk : mSW p l e R s m args below meth c Q dC dI cA base roa n0 s0 nL (pc + len) L' st' h') : mSW p l e R s m args below meth c Q dC dI cA base roa n0 s0 nL pc L st h := by
  intro H locs cells slots ls e1 e2 hP hS hl e4 e5 e6
  simp only [seJ] at hst
  split at hst
  · rename_i v st1
    simp only [Option.some.injEq, Prod.mk.injEq, Bool.and_eq_true, decide_eq_true_eq] at hst
    obtain ⟨⟨hok, hk1⟩, rfl, rfl, rfl⟩ := hst
    exact hrow H locs cells slots ls _ v L.length _ hl hk1 (fun ls' hl' => kk H locs cells slots ls' (by rw [List.length_set, List.length_set]; exact e1) e2 hP hS (lvr_set2 (v := .inr (.inl v)) hok hk1 hl') e4 e5 e6)
  · cases hst
theorem sn_seA (hx : p.tables.exec = Jvm.exec) (hb : c.code = cc) {k len : Nat} (hst : seA L k st h = some (true, L', st', h')) (hrow : ∀ (H : Heap) (locs : List Loc) (cells slots : Nat) (ls : Array Slot) (rest : List Value) (v : Nat) (nn : Nat) (lv : List (Nat × Value)), lv_has ls nn lv → k < nn → (∀ ls' : Array Slot, lv_has ls' nn ((k, Value.ref v) :: lv.filter (fun q => !(q.1 == k) && !(q.1 + 1 == k && q.2.category == 2))) → W p l e R s m args below meth c H locs cells slots Q (F0 m (pc + len) ls' rest)) → W p l e R s m args below meth c H locs cells slots Q (F0 m pc ls (.ref v :: rest)))
    (hrow2 : ∀ (H : Heap) (locs : List Loc) (cells slots : Nat) (ls : Array Slot) (rest : List Value) (nn : Nat) (lv : List (Nat × Value)), lv_has ls nn lv → k < nn → (∀ ls' : Array Slot, lv_has ls' nn ((k, Value.null) :: lv.filter (fun q => !(q.1 == k) && !(q.1 + 1 == k && q.2.category == 2))) → W p l e R s m args below meth c H locs cells slots Q (F0 m (pc + len) ls' rest)) → W p l e R s m args below meth c H locs cells slots Q (F0 m pc ls (.null :: rest))) (kk : mSW p l e R s m args below meth c Q dC dI cA base roa n0 s0 nL (pc + len) L' st' h') : mSW p l e R s m args below meth c Q dC dI cA base roa n0 s0 nL pc L st h := by
  intro H locs cells slots ls e1 e2 hP hS hl e4 e5 e6
  simp only [seA] at hst
  split at hst
  · rename_i v st1
    simp only [Option.some.injEq, Prod.mk.injEq] at hst
    obtain ⟨hok, rfl, rfl, rfl⟩ := hst
    have hk : ∀ ls' : Array Slot, lv_has ls' L.length ((k, rv base roa (.inr (.inr v))) :: (asc base roa L).filter (fun q => !(q.1 == k) && !(q.1 + 1 == k && q.2.category == 2))) → W p l e R s m args below meth c H locs cells slots Q (F0 m (pc + len) ls' (st1.map (rv base roa))) := fun ls' hl' => kk H locs cells slots ls' (by rw [List.length_set]; exact e1) e2 hP hS (lvr_set1 (v := .inr (.inr v)) hok hl') e4 e5 e6
    match v, hk with
    | .inl none, hk => exact hrow2 H locs cells slots ls _ L.length _ hl (okl_lt hok) hk
    | .inl (some a), hk => exact hrow H locs cells slots ls _ (base + a) L.length _ hl (okl_lt hok) hk
    | .inr j, hk => exact hrow H locs cells slots ls _ (roa j) L.length _ hl (okl_lt hok) hk
  · cases hst
set_option maxHeartbeats 4000000 in
theorem sn_L (cx : mCX p R s m args meth c dC dI cA base roa rod own ini cc nF sF n0 s0) {mi : MI} (hck : ckI own ini cc pc mi = true) (hst : stL mi L st h = some (true, L', st', h')) (k : mSW p l e R s m args below meth c Q dC dI cA base roa n0 s0 nL (pc + mi.2.1) L' st' h') : mSW p l e R s m args below meth c Q dC dI cA base roa n0 s0 nL pc L st h := by
  obtain ⟨hx, hb, hown, hts, hK, hRO, hin, hbs, hfr, hlo, hnF, hsF⟩ := cx
  obtain ⟨i, len, x, y, z, w⟩ := mi
  simp only [ckI, Bool.and_eq_true, decide_eq_true_eq] at hck
  obtain ⟨hd, hc⟩ := hck
  simp only [stL] at hst
  split at hst
  · simp only [ckL, beq_iff_eq] at hc
    subst hc
    exact sn_ldI hx hb hst (fun H locs cells slots ls rest v hv kk => lv_iload hx hb hd hv kk) k
  · simp only [ckL, beq_iff_eq] at hc
    subst hc
    exact sn_ldI hx hb hst (fun H locs cells slots ls rest v hv kk => lv_iload_n hx hb hd rfl hv kk) k
  · simp only [ckL, beq_iff_eq] at hc
    subst hc
    exact sn_ldJ hx hb hst (fun H locs cells slots ls rest v hv kk => lv_lload hx hb hd hv kk) k
  · simp only [ckL, beq_iff_eq] at hc
    subst hc
    exact sn_ldJ hx hb hst (fun H locs cells slots ls rest v hv kk => lv_lload_n hx hb hd rfl hv kk) k
  · simp only [ckL, beq_iff_eq] at hc
    subst hc
    exact sn_ldA hx hb hst (fun H locs cells slots ls rest v hv kk => lv_aload hx hb hd hv kk) (fun H locs cells slots ls rest hv kk => lv_aloadN hx hb hd hv kk) k
  · simp only [ckL, beq_iff_eq] at hc
    subst hc
    exact sn_ldA hx hb hst (fun H locs cells slots ls rest v hv kk => lv_aload_n hx hb hd rfl hv kk) (fun H locs cells slots ls rest hv kk => lv_aload_nN hx hb hd rfl hv kk) k
  · simp only [ckL, beq_iff_eq] at hc
    subst hc
    exact sn_seI hx hb hst (fun H locs cells slots ls rest v nn lv hv hn kk => lv_istore hx hb hd hv hn rfl kk) k
  · simp only [ckL, beq_iff_eq] at hc
    subst hc
    exact sn_seI hx hb hst (fun H locs cells slots ls rest v nn lv hv hn kk => lv_istore_n hx hb hd rfl hv hn rfl kk) k
  · simp only [ckL, beq_iff_eq] at hc
    subst hc
    exact sn_seJ hx hb hst (fun H locs cells slots ls rest v nn lv hv hn kk => lv_lstore hx hb hd hv hn rfl kk) k
  · simp only [ckL, beq_iff_eq] at hc
    subst hc
    exact sn_seJ hx hb hst (fun H locs cells slots ls rest v nn lv hv hn kk => lv_lstore_n hx hb hd rfl hv hn rfl kk) k
  · simp only [ckL, beq_iff_eq] at hc
    subst hc
    exact sn_seA hx hb hst (fun H locs cells slots ls rest v nn lv hv hn kk => lv_astore hx hb hd hv hn rfl kk) (fun H locs cells slots ls rest nn lv hv hn kk => lv_astoreN hx hb hd hv hn rfl kk) k
  · simp only [ckL, beq_iff_eq] at hc
    subst hc
    exact sn_seA hx hb hst (fun H locs cells slots ls rest v nn lv hv hn kk => lv_astore_n hx hb hd rfl hv hn rfl kk) (fun H locs cells slots ls rest nn lv hv hn kk => lv_astore_nN hx hb hd rfl hv hn rfl kk) k
  · simp only [ckL, beq_iff_eq] at hc
    subst hc
    intro H locs cells slots ls e1 e2 hP hS hl e4 e5 e6
    simp only [icI] at hst
    split at hst
    · rename_i kx n v hv
      simp only [Option.some.injEq, Prod.mk.injEq] at hst
      obtain ⟨hok, rfl, rfl, rfl⟩ := hst
      obtain ⟨j, hj⟩ := List.getElem?_of_mem (asc_mem (base := base) (roa := roa) (L := L) (q := (_, _)) |>.mpr ⟨_, hv, rfl⟩)
      exact lv_iinc hx hb hd hl hj rfl (okl_lt hok) rfl (fun ls' hl' => k H locs cells slots ls' (by rw [List.length_set]; exact e1) e2 hP hS (lvr_set1 (v := .inl _) hok hl') e4 e5 e6)
    · cases hst
  · cases hst
set_option maxHeartbeats 4000000 in
theorem sn_A (cx : mCX p R s m args meth c dC dI cA base roa rod own ini cc nF sF n0 s0) {mi : MI} (hck : ckI own ini cc pc mi = true) (hst : stA mi L st h = some (true, L', st', h')) (k : mSW p l e R s m args below meth c Q dC dI cA base roa n0 s0 nL (pc + mi.2.1) L' st' h') : mSW p l e R s m args below meth c Q dC dI cA base roa n0 s0 nL pc L st h := by
  obtain ⟨hx, hb, hown, hts, hK, hRO, hin, hbs, hfr, hlo, hnF, hsF⟩ := cx
  obtain ⟨i, len, x, y, z, w⟩ := mi
  simp only [ckI, Bool.and_eq_true, decide_eq_true_eq] at hck
  obtain ⟨hd, hc⟩ := hck
  intro H locs cells slots ls e1 e2 hP hS hl e4 e5 e6
  simp only [stA] at hst
  split at hst
  · simp only [opI] at hst
    split at hst
    · simp only [Option.some.injEq, Prod.mk.injEq, true_and] at hst
      obtain ⟨rfl, rfl, rfl⟩ := hst
      simp only [ckL, beq_iff_eq] at hc
      subst hc
      exact lv_iadd hx hb hd (k H locs cells slots ls e1 e2 hP hS hl e4 e5 e6)
    · cases hst
  · simp only [opI] at hst
    split at hst
    · simp only [Option.some.injEq, Prod.mk.injEq, true_and] at hst
      obtain ⟨rfl, rfl, rfl⟩ := hst
      simp only [ckL, beq_iff_eq] at hc
      subst hc
      exact lv_isub hx hb hd (k H locs cells slots ls e1 e2 hP hS hl e4 e5 e6)
    · cases hst
  · simp only [opI] at hst
    split at hst
    · simp only [Option.some.injEq, Prod.mk.injEq, true_and] at hst
      obtain ⟨rfl, rfl, rfl⟩ := hst
      simp only [ckL, beq_iff_eq] at hc
      subst hc
      exact lv_imul hx hb hd (k H locs cells slots ls e1 e2 hP hS hl e4 e5 e6)
    · cases hst
  · simp only [opI] at hst
    split at hst
    · simp only [Option.some.injEq, Prod.mk.injEq, true_and] at hst
      obtain ⟨rfl, rfl, rfl⟩ := hst
      simp only [ckL, beq_iff_eq] at hc
      subst hc
      exact lv_iand hx hb hd (k H locs cells slots ls e1 e2 hP hS hl e4 e5 e6)
    · cases hst
  · simp only [opI] at hst
    split at hst
    · simp only [Option.some.injEq, Prod.mk.injEq, true_and] at hst
      obtain ⟨rfl, rfl, rfl⟩ := hst
      simp only [ckL, beq_iff_eq] at hc
      subst hc
      exact lv_ior hx hb hd (k H locs cells slots ls e1 e2 hP hS hl e4 e5 e6)
    · cases hst
  · simp only [opI] at hst
    split at hst
    · simp only [Option.some.injEq, Prod.mk.injEq, true_and] at hst
      obtain ⟨rfl, rfl, rfl⟩ := hst
      simp only [ckL, beq_iff_eq] at hc
      subst hc
      exact lv_ixor hx hb hd (k H locs cells slots ls e1 e2 hP hS hl e4 e5 e6)
    · cases hst
  · simp only [opI] at hst
    split at hst
    · simp only [Option.some.injEq, Prod.mk.injEq, true_and] at hst
      obtain ⟨rfl, rfl, rfl⟩ := hst
      simp only [ckL, beq_iff_eq] at hc
      subst hc
      exact lv_ishl hx hb hd (k H locs cells slots ls e1 e2 hP hS hl e4 e5 e6)
    · cases hst
  · simp only [opI] at hst
    split at hst
    · simp only [Option.some.injEq, Prod.mk.injEq, true_and] at hst
      obtain ⟨rfl, rfl, rfl⟩ := hst
      simp only [ckL, beq_iff_eq] at hc
      subst hc
      exact lv_ishr hx hb hd (k H locs cells slots ls e1 e2 hP hS hl e4 e5 e6)
    · cases hst
  · simp only [opI] at hst
    split at hst
    · simp only [Option.some.injEq, Prod.mk.injEq, true_and] at hst
      obtain ⟨rfl, rfl, rfl⟩ := hst
      simp only [ckL, beq_iff_eq] at hc
      subst hc
      exact lv_iushr hx hb hd rfl (k H locs cells slots ls e1 e2 hP hS hl e4 e5 e6)
    · cases hst
  · simp only [dvI] at hst
    split at hst
    · simp only [Option.some.injEq, Prod.mk.injEq, Bool.not_eq_true', decide_eq_false_iff_not] at hst
      obtain ⟨hy, rfl, rfl, rfl⟩ := hst
      simp only [ckL, beq_iff_eq] at hc
      subst hc
      exact lv_idiv hx hb hd hy (k H locs cells slots ls e1 e2 hP hS hl e4 e5 e6)
    · cases hst
  · simp only [dvI] at hst
    split at hst
    · simp only [Option.some.injEq, Prod.mk.injEq, Bool.not_eq_true', decide_eq_false_iff_not] at hst
      obtain ⟨hy, rfl, rfl, rfl⟩ := hst
      simp only [ckL, beq_iff_eq] at hc
      subst hc
      exact lv_irem hx hb hd hy (k H locs cells slots ls e1 e2 hP hS hl e4 e5 e6)
    · cases hst
  · simp only [unI] at hst
    split at hst
    · simp only [Option.some.injEq, Prod.mk.injEq, true_and] at hst
      obtain ⟨rfl, rfl, rfl⟩ := hst
      simp only [ckL, beq_iff_eq] at hc
      subst hc
      exact lv_ineg hx hb hd (k H locs cells slots ls e1 e2 hP hS hl e4 e5 e6)
    · cases hst
  · simp only [unI] at hst
    split at hst
    · simp only [Option.some.injEq, Prod.mk.injEq, true_and] at hst
      obtain ⟨rfl, rfl, rfl⟩ := hst
      simp only [ckL, beq_iff_eq] at hc
      subst hc
      exact lv_i2b hx hb hd rfl (k H locs cells slots ls e1 e2 hP hS hl e4 e5 e6)
    · cases hst
  · simp only [unI] at hst
    split at hst
    · simp only [Option.some.injEq, Prod.mk.injEq, true_and] at hst
      obtain ⟨rfl, rfl, rfl⟩ := hst
      simp only [ckL, beq_iff_eq] at hc
      subst hc
      exact lv_i2c hx hb hd rfl (k H locs cells slots ls e1 e2 hP hS hl e4 e5 e6)
    · cases hst
  · cases hst
set_option maxHeartbeats 4000000 in
theorem sn_B (cx : mCX p R s m args meth c dC dI cA base roa rod own ini cc nF sF n0 s0) {mi : MI} (hck : ckI own ini cc pc mi = true) (hst : stB mi L st h = some (true, L', st', h')) (k : mSW p l e R s m args below meth c Q dC dI cA base roa n0 s0 nL (pc + mi.2.1) L' st' h') : mSW p l e R s m args below meth c Q dC dI cA base roa n0 s0 nL pc L st h := by
  obtain ⟨hx, hb, hown, hts, hK, hRO, hin, hbs, hfr, hlo, hnF, hsF⟩ := cx
  obtain ⟨i, len, x, y, z, w⟩ := mi
  simp only [ckI, Bool.and_eq_true, decide_eq_true_eq] at hck
  obtain ⟨hd, hc⟩ := hck
  intro H locs cells slots ls e1 e2 hP hS hl e4 e5 e6
  simp only [stB] at hst
  split at hst
  · simp only [opJ] at hst
    split at hst
    · simp only [Option.some.injEq, Prod.mk.injEq, true_and] at hst
      obtain ⟨rfl, rfl, rfl⟩ := hst
      simp only [ckL, beq_iff_eq] at hc
      subst hc
      exact lv_ladd hx hb hd (k H locs cells slots ls e1 e2 hP hS hl e4 e5 e6)
    · cases hst
  · simp only [opJ] at hst
    split at hst
    · simp only [Option.some.injEq, Prod.mk.injEq, true_and] at hst
      obtain ⟨rfl, rfl, rfl⟩ := hst
      simp only [ckL, beq_iff_eq] at hc
      subst hc
      exact lv_lsub hx hb hd (k H locs cells slots ls e1 e2 hP hS hl e4 e5 e6)
    · cases hst
  · simp only [opJ] at hst
    split at hst
    · simp only [Option.some.injEq, Prod.mk.injEq, true_and] at hst
      obtain ⟨rfl, rfl, rfl⟩ := hst
      simp only [ckL, beq_iff_eq] at hc
      subst hc
      exact lv_lmul hx hb hd (k H locs cells slots ls e1 e2 hP hS hl e4 e5 e6)
    · cases hst
  · simp only [dvJ] at hst
    split at hst
    · simp only [Option.some.injEq, Prod.mk.injEq, Bool.not_eq_true', decide_eq_false_iff_not] at hst
      obtain ⟨hy, rfl, rfl, rfl⟩ := hst
      simp only [ckL, beq_iff_eq] at hc
      subst hc
      exact lv_ldiv hx hb hd hy (k H locs cells slots ls e1 e2 hP hS hl e4 e5 e6)
    · cases hst
  · simp only [dvJ] at hst
    split at hst
    · simp only [Option.some.injEq, Prod.mk.injEq, Bool.not_eq_true', decide_eq_false_iff_not] at hst
      obtain ⟨hy, rfl, rfl, rfl⟩ := hst
      simp only [ckL, beq_iff_eq] at hc
      subst hc
      exact lv_lrem hx hb hd hy (k H locs cells slots ls e1 e2 hP hS hl e4 e5 e6)
    · cases hst
  · split at hst
    · simp only [Option.some.injEq, Prod.mk.injEq, true_and] at hst
      obtain ⟨rfl, rfl, rfl⟩ := hst
      simp only [ckL, beq_iff_eq] at hc
      subst hc
      exact lv_lneg hx hb hd (k H locs cells slots ls e1 e2 hP hS hl e4 e5 e6)
    · cases hst
  · split at hst
    · simp only [Option.some.injEq, Prod.mk.injEq, true_and] at hst
      obtain ⟨rfl, rfl, rfl⟩ := hst
      simp only [ckL, beq_iff_eq] at hc
      subst hc
      exact W.lcmp hx hb hd (k H locs cells slots ls e1 e2 hP hS hl e4 e5 e6)
    · cases hst
  · split at hst
    · simp only [Option.some.injEq, Prod.mk.injEq, true_and] at hst
      obtain ⟨rfl, rfl, rfl⟩ := hst
      simp only [ckL, beq_iff_eq] at hc
      subst hc
      exact lv_i2l hx hb hd rfl (k H locs cells slots ls e1 e2 hP hS hl e4 e5 e6)
    · cases hst
  · split at hst
    · simp only [Option.some.injEq, Prod.mk.injEq] at hst
      obtain ⟨hv, rfl, rfl, rfl⟩ := hst
      simp only [ckL, beq_iff_eq] at hc
      subst hc
      exact lv_dup hx hb hd (by rw [rv_cat, hv]; rfl) (k H locs cells slots ls e1 e2 hP hS hl e4 e5 e6)
    · cases hst
  · split at hst
    · simp only [Option.some.injEq, Prod.mk.injEq, Bool.and_eq_true] at hst
      obtain ⟨⟨hv, hw⟩, rfl, rfl, rfl⟩ := hst
      simp only [ckL, beq_iff_eq] at hc
      subst hc
      exact lv_dup2_11 hx hb hd (by rw [rv_cat, hv]; rfl) (by rw [rv_cat, hw]; rfl) (k H locs cells slots ls e1 e2 hP hS hl e4 e5 e6)
    · cases hst
  · split at hst
    · simp only [Option.some.injEq, Prod.mk.injEq] at hst
      obtain ⟨hv, rfl, rfl, rfl⟩ := hst
      simp only [ckL, beq_iff_eq] at hc
      subst hc
      exact lv_pop hx hb hd (by rw [rv_cat, hv]; rfl) (k H locs cells slots ls e1 e2 hP hS hl e4 e5 e6)
    · cases hst
  · cases hst
end SNA
