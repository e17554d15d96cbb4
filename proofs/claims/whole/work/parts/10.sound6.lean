/-! A STRAIGHT INSTRUCTION, THE ENDS OF A BLOCK -/
section SKP
variable {rod : Nat → Nat × (Nat → Int32)} {mi : MI} {L L' : ML} {st st' : List MV} {h h' : MH} {g : Bool}
theorem stL_keep (hst : stL mi L st h = some (g, L', st', h')) : h'.2.2 = h.2.2 := by
  simp only [stL, ldI, ldJ, ldA, seI, seJ, seA, icI] at hst
  repeat' (split at hst)
  all_goals first
    | (cases hst; rfl)
    | cases hst
theorem stF_keep (hst : stF mi L st h = some (g, L', st', h')) : h'.2.2 = h.2.2 := by
  simp only [stF] at hst
  repeat' (split at hst)
  all_goals first
    | (cases hst; rfl)
    | cases hst
theorem stA_keep (hst : stA mi L st h = some (g, L', st', h')) : h'.2.2 = h.2.2 := by
  simp only [stA, opI, dvI, unI] at hst
  repeat' (split at hst)
  all_goals first
    | (cases hst; rfl)
    | cases hst
theorem stB_keep (hst : stB mi L st h = some (g, L', st', h')) : h'.2.2 = h.2.2 := by
  simp only [stB, opJ, dvJ] at hst
  repeat' (split at hst)
  all_goals first
    | (cases hst; rfl)
    | cases hst
theorem stX_keep (hst : stX mi L st h = some (g, L', st', h')) : h'.2.2 = h.2.2 := by
  simp only [stX] at hst
  repeat' (split at hst)
  all_goals first
    | (cases hst; rfl)
    | cases hst
theorem stC_keep (hst : stC rod mi L st h = some (g, L', st', h')) : h'.2.2 = h.2.2 := by
  simp only [stC] at hst
  repeat' (split at hst)
  all_goals first
    | (cases hst; rfl)
    | cases hst
theorem stR_keep (hst : stR rod mi L st h = some (g, L', st', h')) : h'.2.2 = h.2.2 := by
  simp only [stR] at hst
  repeat' (split at hst)
  all_goals first
    | (cases hst; rfl)
    | cases hst
theorem stN_mono (hst : stN mi L st h = some (g, L', st', h')) : h.2.2.length ≤ h'.2.2.length ∧ slo h.2.2 ≤ slo h'.2.2 := by
  have key : ∀ sh : Nat × Nat, h.2.2.length ≤ (sN h sh).2.2.length ∧ slo h.2.2 ≤ slo (sN h sh).2.2 := by
    intro sh
    constructor
    · show h.2.2.length ≤ (h.2.2 ++ [sh]).length
      simp
    · show slo h.2.2 ≤ slo (h.2.2 ++ [sh])
      simp [slo]
  simp only [stN] at hst
  repeat' (split at hst)
  all_goals first
    | (cases hst; exact key _)
    | cases hst
theorem orE_some {a b : Option MR} {r : MR} (h : orE a b = some r) : a = some r ∨ (a = none ∧ b = some r) := by
  cases a with
  | none => exact Or.inr ⟨rfl, h⟩
  | some q => exact Or.inl h
theorem st1_mono (hst : st1 rod mi L st h = some (g, L', st', h')) : h.2.2.length ≤ h'.2.2.length ∧ slo h.2.2 ≤ slo h'.2.2 := by
  have eq2 : h'.2.2 = h.2.2 → h.2.2.length ≤ h'.2.2.length ∧ slo h.2.2 ≤ slo h'.2.2 := fun e => by rw [e]; exact ⟨Nat.le_refl _, Nat.le_refl _⟩
  unfold st1 at hst
  rcases orE_some hst with h1 | ⟨-, hst⟩
  · exact eq2 (stL_keep h1)
  rcases orE_some hst with h1 | ⟨-, hst⟩
  · exact eq2 (stC_keep h1)
  rcases orE_some hst with h1 | ⟨-, hst⟩
  · exact eq2 (stF_keep h1)
  rcases orE_some hst with h1 | ⟨-, hst⟩
  · exact eq2 (stA_keep h1)
  rcases orE_some hst with h1 | ⟨-, hst⟩
  · exact eq2 (stR_keep h1)
  rcases orE_some hst with h1 | ⟨-, hst⟩
  · exact eq2 (stB_keep h1)
  rcases orE_some hst with h1 | ⟨-, hst⟩
  · exact stN_mono h1
  · exact eq2 (stX_keep hst)
def isT (m : MI) : Bool := match m.1 with
  | .goto _ => true
  | .ifCond _ _ => true
  | .if_icmp _ _ => true
  | .ifnull _ => true
  | .ifnonnull _ => true
  | .tableswitch _ _ _ _ => true
  | .lookupswitch _ _ => true
  | .ireturn => true
  | .lreturn => true
  | .areturn => true
  | .return_ => true
  | .invokestatic _ => m.2.2.2.1 == 0 || m.2.2.2.1 == 7
  | .invokevirtual _ => true
  | .invokespecial _ => m.2.2.2.1 == 0 || m.2.2.2.1 == 6
  | _ => false
set_option maxHeartbeats 4000000 in
theorem st1_isT (hT : isT mi = true) : st1 rod mi L st h = none := by
  obtain ⟨i, len, x, y, z, w⟩ := mi
  unfold isT at hT
  split at hT
  all_goals first
    | (rename_i hi; simp only at hi; subst hi; rfl)
    | (rename_i hi
       simp only at hi
       subst hi
       simp only [Bool.or_eq_true, beq_iff_eq] at hT
       rcases hT with hT | hT
       · subst hT; rfl
       · subst hT; rfl)
    | cases hT
theorem trm_isT {pc : Nat} {out : MO} (ht : trm mi pc L st h g = some (true, out)) : isT mi = true := by
  obtain ⟨i, len, x, y, z, w⟩ := mi
  unfold trm at ht
  split at ht
  all_goals first
    | (rename_i hi; simp only at hi; subst hi; rfl)
    | (rename_i hi
       simp only at hi
       subst hi
       split at ht
       · simp only [Option.some.injEq, Prod.mk.injEq, Bool.and_eq_true] at ht
         first
           | exact ht.1.2.2
           | exact ht.1.2.2.2
       · cases ht)
    | cases ht
end SKP
section SNE
variable {p : Program} {l : Launch} {e : Env} {R : Room} {s : State} {m : MethodId} {args : Array Value} {below : List Frame} {meth : Method} {c : Code} {Q : State → Prop}
variable {dC : Nat → ClassId} {dI : Nat → Nat → Nat} {cA : Nat → ClassId} {base : Nat} {roa : Nat → Nat} {rod : Nat → Nat × (Nat → Int32)} {own : String} {ini : Bool} {cc : ByteArray} {nF sF n0 s0 nL pc : Nat} {L L' : ML} {st st' : List MV} {h h' : MH}
theorem st1_sound (cx : mCX p R s m args meth c dC dI cA base roa rod own ini cc nF sF n0 s0) {mi : MI} (hck : ckI own ini cc pc mi = true) (hst : st1 rod mi L st h = some (true, L', st', h')) (hF : h'.2.2.length ≤ nF ∧ slo h'.2.2 ≤ sF) (k : mSW p l e R s m args below meth c Q dC dI cA base roa n0 s0 nL (pc + mi.2.1) L' st' h') : mSW p l e R s m args below meth c Q dC dI cA base roa n0 s0 nL pc L st h := by
  unfold st1 at hst
  rcases orE_some hst with h1 | ⟨-, hst⟩
  · exact sn_L cx hck h1 k
  rcases orE_some hst with h1 | ⟨-, hst⟩
  · exact sn_C cx hck h1 k
  rcases orE_some hst with h1 | ⟨-, hst⟩
  · exact sn_F cx hck h1 k
  rcases orE_some hst with h1 | ⟨-, hst⟩
  · exact sn_A cx hck h1 k
  rcases orE_some hst with h1 | ⟨-, hst⟩
  · exact sn_R cx hck h1 k
  rcases orE_some hst with h1 | ⟨-, hst⟩
  · exact sn_B cx hck h1 k
  rcases orE_some hst with h1 | ⟨-, hst⟩
  · exact sn_N cx hck h1 hF k
  · exact sn_X cx hck hst hF k
/-- what the ends of a block need -/
def okTab (pc : Nat) (lo : Int) (offs : List Int) : Bool := offs.all (fun q => decide (0 ≤ (pc : Int) + q)) && (decide (-2147483648 ≤ lo) && decide (lo + offs.length ≤ 2147483647))
def okLook (pc : Nat) (ps : List (Int × Int)) : Bool := ps.all (fun q => decide (0 ≤ (pc : Int) + q.2) && (decide (-2147483648 ≤ q.1) && decide (q.1 ≤ 2147483647)))
def ckT (cc : ByteArray) (ret : Option FieldType) (pc : Nat) (mi : MI) : Bool := decide (decode cc pc = .ok (mi.1, mi.2.1)) && (match mi.1 with
  | .goto off => mi.2.1 == 3 && decide ((pc : Int) + off = (mi.2.2.1 : Int))
  | .ifCond _ off => mi.2.1 == 3 && decide ((pc : Int) + off = (mi.2.2.1 : Int))
  | .if_icmp _ off => mi.2.1 == 3 && decide ((pc : Int) + off = (mi.2.2.1 : Int))
  | .ifnull off => mi.2.1 == 3 && decide ((pc : Int) + off = (mi.2.2.1 : Int))
  | .ifnonnull off => mi.2.1 == 3 && decide ((pc : Int) + off = (mi.2.2.1 : Int))
  | .tableswitch d lo hi offs => okTab pc lo offs.toList && (decide (hi = lo + offs.toList.length - 1) && decide (0 ≤ (pc : Int) + d))
  | .lookupswitch d ps => okLook pc ps.toList && ((ps.toList.zip (ps.toList.drop 1)).all (fun (a, next) => a.1 < next.1) && decide (0 ≤ (pc : Int) + d))
  | .ireturn => mi.2.1 == 1 && ((mi.2.2.2.1 == 0 && decide (ret = some .int)) || ((mi.2.2.2.1 == 1 && decide (ret = some .boolean)) || ((mi.2.2.2.1 == 2 && decide (ret = some .byte)) || (mi.2.2.2.1 == 3 && decide (ret = some .char)))))
  | .lreturn => mi.2.1 == 1 && decide (ret = some .long)
  | .areturn => mi.2.1 == 1 && (match ret with
    | some (.object _) => true
    | some (.array _) => true
    | _ => false)
  | .return_ => mi.2.1 == 1 && decide (ret = none)
  | _ => mi.2.1 == 3)
theorem ofInt_eq {x : Int32} {k : Int} (h1 : -2147483648 ≤ k) (h2 : k ≤ 2147483647) : x = Int32.ofInt k ↔ x.toInt = k := by
  constructor
  · rintro rfl
    exact Int32.toInt_ofInt_of_le h1 (by omega)
  · intro hk
    rw [← hk, Int32.ofInt_toInt]
theorem tabT_in {pc d : Nat} {x : Int32} : ∀ (offs : List Int) (lo : Int), okTab pc lo offs = true → lo ≤ x.toInt → x.toInt < lo + offs.length → ∃ off, offs[(x.toInt - lo).toNat]? = some off ∧ (pc : Int) + off = (tabT offs lo x pc d : Int) := by
  intro offs
  induction offs with
  | nil => intro lo _ h1 h2; simp at h2; omega
  | cons q r ih =>
    intro lo hok h1 h2
    simp only [okTab, List.all_cons, Bool.and_eq_true, decide_eq_true_eq, List.length_cons] at hok
    simp only [tabT]
    by_cases hx : x.toInt = lo
    · rw [if_pos ((ofInt_eq hok.2.1 (by omega)).mpr hx)]
      refine ⟨q, by rw [hx]; simp, ?_⟩
      rw [Int.toNat_of_nonneg hok.1.1]
    · rw [if_neg (fun e => hx ((ofInt_eq hok.2.1 (by omega)).mp e))]
      obtain ⟨off, g1, g2⟩ := ih (lo + 1) (by simp only [okTab, Bool.and_eq_true, decide_eq_true_eq]; exact ⟨hok.1.2, by omega, by omega⟩) (by omega) (by simp only [List.length_cons] at h2; omega)
      refine ⟨off, ?_, g2⟩
      rw [show (x.toInt - lo).toNat = (x.toInt - (lo + 1)).toNat + 1 by omega, List.getElem?_cons_succ]
      exact g1
theorem tabT_out {pc d : Nat} {x : Int32} : ∀ (offs : List Int) (lo : Int), okTab pc lo offs = true → (x.toInt < lo ∨ lo + offs.length ≤ x.toInt) → tabT offs lo x pc d = d := by
  intro offs
  induction offs with
  | nil => intro lo _ _; rfl
  | cons q r ih =>
    intro lo hok h1
    simp only [okTab, List.all_cons, Bool.and_eq_true, decide_eq_true_eq, List.length_cons] at hok h1
    simp only [tabT]
    rw [if_neg (fun e => by have := (ofInt_eq hok.2.1 (by omega)).mp e; omega)]
    exact ih (lo + 1) (by simp only [okTab, Bool.and_eq_true, decide_eq_true_eq]; exact ⟨hok.1.2, by omega, by omega⟩) (by omega)
theorem lookT_off {pc : Nat} {d : Int} {x : Int32} (hd : 0 ≤ (pc : Int) + d) : ∀ (ps : List (Int × Int)), okLook pc ps = true → (pc : Int) + lookupswitch.offset ps d x.toInt = (lookT ps x pc ((pc : Int) + d).toNat : Int) := by
  intro ps
  induction ps with
  | nil => intro _; simp only [lookT, lookupswitch.offset_nil]; rw [Int.toNat_of_nonneg hd]
  | cons q r ih =>
    intro hok
    obtain ⟨a, b⟩ := q
    simp only [okLook, List.all_cons, Bool.and_eq_true, decide_eq_true_eq] at hok
    simp only [lookT, lookupswitch.offset_cons]
    by_cases hx : x.toInt = a
    · rw [if_pos ((ofInt_eq hok.1.2.1 hok.1.2.2).mpr hx), if_pos hx.symm, Int.toNat_of_nonneg hok.1.1]
    · rw [if_neg (fun e => hx ((ofInt_eq hok.1.2.1 hok.1.2.2).mp e)), if_neg (fun e => hx e.symm)]
      exact ih (by simp only [okLook]; exact hok.2)
theorem W_cmp {H : Heap} {locs : List Loc} {cells slots tgt : Nat} {off : Int} {cd : ClassFile.Cond} {x y : Int32} {ls : Array Slot} {rest : List Value} (hx : p.tables.exec = Jvm.exec) (hb : c.code = cc) (hd : decode cc pc = .ok (.if_icmp cd off, 3)) (ht : (pc : Int) + off = (tgt : Int)) (kt : cmpI cd x y = true → W p l e R s m args below meth c H locs cells slots Q (F0 m tgt ls rest)) (kf : cmpI cd x y = false → W p l e R s m args below meth c H locs cells slots Q (F0 m (pc + 3) ls rest)) : W p l e R s m args below meth c H locs cells slots Q (F0 m pc ls (.int y :: .int x :: rest)) := by
  cases cd with
  | eq => exact lv_icmp_eq hx hb hd ht (fun g => kt (by simp [cmpI, g])) (fun g => kf (by simp [cmpI, g]))
  | ne => exact lv_icmp_ne hx hb hd ht (fun g => kt (by simp [cmpI, g])) (fun g => kf (by simp [cmpI, g]))
  | lt => exact lv_icmp_lt hx hb hd ht (fun g => kt (by simpa [cmpI] using g)) (fun g => kf (by simpa [cmpI] using g))
  | ge => exact lv_icmp_ge hx hb hd ht (fun g => kt (by simpa [cmpI] using g)) (fun g => kf (by simpa [cmpI] using g))
  | gt => exact lv_icmp_gt hx hb hd ht (fun g => kt (by simpa [cmpI] using g)) (fun g => kf (by simpa [cmpI] using g))
  | le => exact lv_icmp_le hx hb hd ht (fun g => kt (by simpa [cmpI] using g)) (fun g => kf (by simpa [cmpI] using g))
theorem W_if {H : Heap} {locs : List Loc} {cells slots tgt : Nat} {off : Int} {cd : ClassFile.Cond} {x : Int32} {ls : Array Slot} {rest : List Value} (hx : p.tables.exec = Jvm.exec) (hb : c.code = cc) (hd : decode cc pc = .ok (.ifCond cd off, 3)) (ht : (pc : Int) + off = (tgt : Int)) (kt : cmpI cd x 0 = true → W p l e R s m args below meth c H locs cells slots Q (F0 m tgt ls rest)) (kf : cmpI cd x 0 = false → W p l e R s m args below meth c H locs cells slots Q (F0 m (pc + 3) ls rest)) : W p l e R s m args below meth c H locs cells slots Q (F0 m pc ls (.int x :: rest)) := by
  cases cd with
  | eq => exact lv_if_eq hx hb hd ht (fun g => kt (by simp [cmpI, g])) (fun g => kf (by simp [cmpI, g]))
  | ne => exact lv_if_ne hx hb hd ht (fun g => kt (by simp [cmpI, g])) (fun g => kf (by simp [cmpI, g]))
  | lt => exact lv_if_lt hx hb hd ht (fun g => kt (by simpa [cmpI] using g)) (fun g => kf (by simpa [cmpI] using g))
  | ge => exact lv_if_ge hx hb hd ht (fun g => kt (by simpa [cmpI] using g)) (fun g => kf (by simpa [cmpI] using g))
  | gt => exact lv_if_gt hx hb hd ht (fun g => kt (by simpa [cmpI] using g)) (fun g => kf (by simpa [cmpI] using g))
  | le => exact lv_if_le hx hb hd ht (fun g => kt (by simpa [cmpI] using g)) (fun g => kf (by simpa [cmpI] using g))
end SNE
