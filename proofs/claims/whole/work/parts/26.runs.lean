/-! LawRuns, out of the two constructors and of Ops -/
/-- the constructors: one after the other they leave the worlds as INV says -/
def Ctors (INV : MH → Prop) (rod : Nat → Nat × (Nat → Int32)) : Prop := ∃ h1 h2, Tc rod 99 0 [.inr (.inr (.inl (some 0)))] (sN mH0 (21, 8)) none h1 ∧ h1.2.2.length = 84 ∧ Tc rod 99 189 [.inr (.inr (.inl (some 84)))] (sN h1 (22, 46)) none h2 ∧ INV h2
theorem lawRuns_of {INV : MH → Prop} (hI0 : ∀ h, INV h → gO h (some 0) 21 = true) (hbd : ∀ h, INV h → h.2.2.length ≤ 600000 ∧ slo h.2.2 ≤ 7302250) (hct : ∀ L xs z, Ctors INV (mRod L xs z)) (ops : ∀ L xs z, L ≤ 3072 → Ops INV (mRod L xs z)) : LawRuns := by
  intro L xs z hL
  obtain ⟨h1, h2, c1, e84, c2, hI⟩ := hct L xs z
  obtain ⟨hF, hIF, hT⟩ := law_loop (rod := mRod L xs z) hI0 (ops L xs z hL) hL 600 0 h2 hI (by decide) (by decide) (by
    show (L : Int) < 0 + 6 * (600 : Nat)
    omega)
  have hrun : Tb (mRod L xs z) 99 BL 0 [some (.inr (.inr (.inr 5))), none, none, none] [] mH0 (some (.inl 1)) hF := by
    refine b_law_0 rfl ?_
    refine b_law_3 rfl c1 ?_
    refine b_law_7 rfl (by rw [e84]; rfl) ?_
    rw [e84]
    refine b_law_11 rfl c2 ?_
    exact b_law_15 rfl hT
  obtain ⟨F, n, hl⟩ := hrun
  exact ⟨F, n, hF, hl, hbd hF hIF⟩
