/-! EACH STRAIGHT INSTRUCTION OF THE SMALL MACHINE IS THE REAL MACHINE'S -/
def roF (j : Nat) : String × String := match j with
  | 0 => ("YearsForCoin$Reader", "FIRST_WORD")
  | 1 => ("YearsForCoin$Reader", "NUMBERS_BEHIND")
  | 2 => ("YearsForCoin$Reader", "LEAST")
  | 3 => ("YearsForCoin$Reader", "GREATEST")
  | _ => ("YearsForCoin$Sharing", "FACTORIAL")
def strL : List (Nat × (String × List Int32)) := [(220, "poor", [112, 111, 111, 114]), (222, "knight", [107, 110, 105, 103, 104, 116]), (224, "widow", [119, 105, 100, 111, 119]), (226, "doubter", [100, 111, 117, 98, 116, 101, 114]), (228, "road", [114, 111, 97, 100]), (230, "letter", [108, 101, 116, 116, 101, 114]), (232, "towns", [116, 111, 119, 110, 115]), (233, "shut", [115, 104, 117, 116]), (234, "bank", [98, 97, 110, 107]), (235, "ruler", [114, 117, 108, 101, 114]), (236, "sell", [115, 101, 108, 108]), (238, "sin", [115, 105, 110]), (240, "go", [103, 111]), (242, "open", [111, 112, 101, 110]), (244, "doubt", [100, 111, 117, 98, 116]), (246, "jubilee", [106, 117, 98, 105, 108, 101, 101]), (248, "in", [105, 110]), (250, "out", [111, 117, 116]), (252, "count", [99, 111, 117, 110, 116]), (254, "key", [107, 101, 121]), (256, "parties", [112, 97, 114, 116, 105, 101, 115]), (257, "worth", [119, 111, 114, 116, 104])]
def strA (j : Nat) : Nat × (String × List Int32) := strL.getD (j - 10) (0, "", [])
def slo (sh : List (Nat × Nat)) : Nat := (sh.map (fun q => q.2)).sum
/-- what an instruction needs of the tables (w: its word's place) -/
def ckW (w : Nat) (c : Cond) : Bool := decide ((tbK (w / 1000))[w % 1000]? = some c) && kept c
def ckL (own : String) (ini : Bool) (m : MI) : Bool := match m.1 with
  | .iconst _ => m.2.1 == 1
  | .bipush _ => m.2.1 == 2
  | .sipush _ => m.2.1 == 3
  | .lconst _ => m.2.1 == 1
  | .ldc i => m.2.1 == 2 && (if m.2.2.2.1 = 1 then own == "YearsForCoin$Reader" && (isSt m.2.2.1 && i == (strA m.2.2.1).1) else ckW m.2.2.2.2.2 (.constant own i (Int32.ofNat m.2.2.1)))
  | .ldc_w i => m.2.1 == 3 && (if m.2.2.2.1 = 1 then own == "YearsForCoin$Reader" && (isSt m.2.2.1 && i == (strA m.2.2.1).1) else ckW m.2.2.2.2.2 (.constant own i (Int32.ofNat m.2.2.1)))
  | .ldc2_w i => m.2.1 == 3 && ckW m.2.2.2.2.2 (.constantLong own i (Int64.ofNat m.2.2.1))
  | .aconst_null => m.2.1 == 1
  | .getstatic i => m.2.1 == 3 && (if m.2.2.2.1 = 1 then m.2.2.1 == 1 && ckW m.2.2.2.2.2 (.fieldLink own i "java/lang/String" "COMPACT_STRINGS" "Z") else if m.2.2.2.1 = 2 then ckW m.2.2.2.2.2 (.fieldLink own i "jdk/internal/util/Preconditions" "SIOOBE_FORMATTER" "Ljava/util/function/BiFunction;") else decide (m.2.2.1 < 5) && ckW m.2.2.2.2.2 (.fieldLink own i (roF m.2.2.1).1 (roF m.2.2.1).2 "[I"))
  | .iload _ => m.2.1 == 2
  | .lload _ => m.2.1 == 2
  | .aload _ => m.2.1 == 2
  | .istore _ => m.2.1 == 2
  | .lstore _ => m.2.1 == 2
  | .astore _ => m.2.1 == 2
  | .iinc _ _ => m.2.1 == 3
  | .getfield i => m.2.1 == 3 && (if m.2.2.2.1 = 3 then ckW m.2.2.2.2.2 (.fieldLink own i "java/lang/String" "coder" "B") else if m.2.2.2.1 = 4 then ckW m.2.2.2.2.2 (.fieldLink own i "java/lang/String" "value" "[B") else match classes[m.2.2.2.2.1]? with
    | some q => decide (m.2.2.1 < q.2.2) && (ftag m.2.2.2.2.1 m.2.2.1 == m.2.2.2.1 && ckW m.2.2.2.2.2 (.fieldLink own i (q.2.1 m.2.2.1).1 (q.2.1 m.2.2.1).2.1 (q.2.1 m.2.2.1).2.2.1))
    | none => false)
  | .putfield i => m.2.1 == 3 && (match classes[m.2.2.2.2.1]? with
    | some q => decide (m.2.2.1 < q.2.2) && (ftag m.2.2.2.2.1 m.2.2.1 == m.2.2.2.1 && (ckW m.2.2.2.2.2 (.fieldLink own i (q.2.1 m.2.2.1).1 (q.2.1 m.2.2.1).2.1 (q.2.1 m.2.2.1).2.2.1) && (!(q.2.1 m.2.2.1).2.2.2 || (ini && (q.2.1 m.2.2.1).1 == own))))
    | none => false)
  | .baload => m.2.1 == 1 && (m.2.2.2.1 == 1 || m.2.2.2.1 == 2)
  | .bastore => m.2.1 == 1 && (m.2.2.2.1 == 1 || m.2.2.2.1 == 2)
  | .aaload => m.2.1 == 1 && (decide (3 ≤ m.2.2.2.1) && decide (m.2.2.2.1 < 8))
  | .aastore => m.2.1 == 1 && (decide (3 ≤ m.2.2.2.1) && (decide (m.2.2.2.1 < 8) && (match classes[m.2.2.2.2.1]? with
    | some q => q.1 == arrN m.2.2.2.1
    | none => false)))
  | .new i => m.2.1 == 3 && (match classes[m.2.2.2.2.1]? with
    | some q => q.2.2 == m.2.2.1 && ckW m.2.2.2.2.2 (.classLink own i q.1)
    | none => false)
  | .newarray t => m.2.1 == 2 && (match t with
    | .int => m.2.2.2.1 == 0
    | .byte => m.2.2.2.1 == 1
    | .boolean => m.2.2.2.1 == 2
    | _ => false)
  | .anewarray i => m.2.1 == 3 && (decide (3 ≤ m.2.2.2.1) && (decide (m.2.2.2.1 < 8) && ckW m.2.2.2.2.2 (.classLink own i (arrN m.2.2.2.1))))
  | .invokestatic i => m.2.1 == 3 && (match m.2.2.2.1 with
    | 1 => ckW m.2.2.2.2.2 (.methodLink own i Lib.Math.max.name)
    | 2 => ckW m.2.2.2.2.2 (.methodLink own i Lib.Math.min.name)
    | 3 => ckW m.2.2.2.2.2 (.methodLink own i Lib.Math.abs.name)
    | 4 => ckW m.2.2.2.2.2 (.methodLink own i arraycopyName)
    | _ => false)
  | .invokespecial i => m.2.1 == 3 && (m.2.2.2.1 == 5 && ckW m.2.2.2.2.2 (.methodLink own i objectInit))
  | _ => m.2.1 == 1
def ckI (own : String) (ini : Bool) (cc : ByteArray) (pc : Nat) (m : MI) : Bool := decide (decode cc pc = .ok (m.1, m.2.1)) && ckL own ini m
/-- what the read-only cells are -/
def roI (base : Nat) (roa : Nat → Nat) (rod : Nat → Nat × (Nat → Int32)) (U : State) : Prop :=
  (∀ j, j < 5 → va_Z (roF j).1 (roF j).2 "[I" (.ref (roa j)) (fun q : Nat => base ≤ q) U U.heap) ∧ (∀ j, j < 6 → va_T .int (roa j) (rod j).1 (fun i => .int ((rod j).2 i)) (fun q : Nat => base ≤ q) U U.heap) ∧
  va_Z "java/lang/String" "COMPACT_STRINGS" "Z" (.int 1) (fun q : Nat => base ≤ q) U U.heap ∧ va_Z "jdk/internal/util/Preconditions" "SIOOBE_FORMATTER" "Ljava/util/function/BiFunction;" (rv base roa (sio rod)) (fun q : Nat => base ≤ q) U U.heap ∧
  ∀ j, 10 ≤ j → j < 32 → vk_R "YearsForCoin$Reader" (strA j).1 (strA j).2.1 (roa j) U ∧ va_O "java/lang/String" (roa j) (fun q : Nat => base ≤ q) U U.heap ∧ va_OF "java/lang/String" "coder" "B" (.int 0) (roa j) (fun q : Nat => base ≤ q) U U.heap ∧ va_OF "java/lang/String" "value" "[B" (.ref (roa (j + 100))) (roa j) (fun q : Nat => base ≤ q) U U.heap ∧ va_T .byte (roa (j + 100)) (rod (j + 100)).1 (fun i => .int ((rod (j + 100)).2 i)) (fun q : Nat => base ≤ q) U U.heap
section SND
variable {p : Program} {l : Launch} {e : Env} {R : Room} {s : State} {m : MethodId} {args : Array Value} {below : List Frame} {meth : Method} {c : Code} {Q : State → Prop}
variable {dC : Nat → ClassId} {dI : Nat → Nat → Nat} {cA : Nat → ClassId} {base : Nat} {roa : Nat → Nat} {rod : Nat → Nat × (Nat → Int32)} {own : String} {ini : Bool} {cc : ByteArray} {nF sF n0 s0 : Nat}
/-- what stays the same all along a frame -/
def mCX (p : Program) (R : Room) (s : State) (m : MethodId) (args : Array Value) (meth : Method) (c : Code) (dC : Nat → ClassId) (dI : Nat → Nat → Nat) (cA : Nat → ClassId) (base : Nat) (roa : Nat → Nat) (rod : Nat → Nat × (Nat → Int32)) (own : String) (ini : Bool) (cc : ByteArray) (nF sF n0 s0 : Nat) : Prop :=
  p.tables.exec = Jvm.exec ∧ c.code = cc ∧ s.vm.findClass own = some m.cls ∧ (∀ w ∈ mtbl, w.before args s = true) ∧ va_K (dC, dI) classes (tysA cA) s ∧ roI base roa rod s ∧ (ini = true → meth.name = "<init>") ∧ s.heap.size = base + n0 ∧ 1 ≤ R.frames ∧ 64 ≤ R.locals ∧ nF ≤ n0 + R.cells ∧ sF ≤ s0 + R.slots
/-- the real machine, standing as the small one does, comes to its end -/
def mSW (p : Program) (l : Launch) (e : Env) (R : Room) (s : State) (m : MethodId) (args : Array Value) (below : List Frame) (meth : Method) (c : Code) (Q : State → Prop) (dC : Nat → ClassId) (dI : Nat → Nat → Nat) (cA : Nat → ClassId) (base : Nat) (roa : Nat → Nat) (n0 s0 : Nat) (nL : Nat) (pc : Nat) (L : ML) (st : List MV) (h : MH) : Prop :=
  ∀ (H : Heap) (locs : List Loc) (cells slots : Nat) (ls : Array Slot), L.length = nL → c.maxLocals = nL → va_P (dC, dI) classes (rW base cA h) H → va_S (fun q : Nat => base ≤ q) s.heap H locs → lvr base roa L ls → n0 + cells = h.2.2.length → s0 + slots = slo h.2.2 → (∀ q ∈ h.2.2, q.1 < 8 ∨ (10 ≤ q.1 ∧ ∃ (C : String) (T : u_T), classes[q.1 - 10]? = some (C, T, q.2))) → W p l e R s m args below meth c H locs cells slots Q (F0 m pc ls (st.map (rv base roa)))
theorem ckW_at {w : Nat} {d : Cond} {s : State} {args : Array Value} (hts : ∀ w ∈ mtbl, w.before args s = true) (h : ckW w d = true) : d.before args s = true := by
  simp only [ckW, Bool.and_eq_true, decide_eq_true_eq] at h
  exact hts d (mt_in (tbK_in (List.mem_of_getElem? h.1)) h.2)
end SND
