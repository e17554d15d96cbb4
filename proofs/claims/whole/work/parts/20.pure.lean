/-! THE PURE LAYER: frames and calls of the small machine, without fuel -/
section TB
variable {rod : Nat → Nat × (Nat → Int32)}
theorem lp_more {B : MB} {call call' : Nat → List MV → MH → Option (Option MV × MH)} (hc : ∀ y as h r, call y as h = some r → call' y as h = some r) : ∀ (n n' pc : Nat) (L : ML) (st : List MV) (h : MH) (r : Option MV × MH), n ≤ n' → lp rod call B n pc L st h = some r → lp rod call' B n' pc L st h = some r := by
  intro n
  induction n with
  | zero => intro n' pc L st h r _ hl; cases hl
  | succ n ih =>
    intro n' pc L st h r hn hl
    obtain ⟨m, rfl⟩ : ∃ m, n' = m + 1 := ⟨n' - 1, by omega⟩
    have hm : n ≤ m := by omega
    simp only [lp] at hl
    rw [lp]
    cases his : getB B pc with
    | none => rw [his] at hl; cases hl
    | some is =>
      rw [his] at hl
      simp only at hl ⊢
      cases hb : blk rod is pc L st h true with
      | none => rw [hb] at hl; cases hl
      | some q =>
        rw [hb] at hl
        match q, hl with
        | (true, .inl (pc1, L1, st1, h1)), hl => exact ih _ _ _ _ _ _ hm hl
        | (true, .inr (.inl (true, (pc1, L1, st1, h1), f2))), hl => exact ih _ _ _ _ _ _ hm hl
        | (true, .inr (.inl (false, f1, (pc1, L1, st1, h1)))), hl => exact ih _ _ _ _ _ _ hm hl
        | (true, .inr (.inr (.inl r1))), hl => exact hl
        | (true, .inr (.inr (.inr (y, as, pc1, L1, st1, h1)))), hl =>
          simp only at hl ⊢
          cases hcl : call y as h1 with
          | none => rw [hcl] at hl; cases hl
          | some v =>
            rw [hcl] at hl
            rw [hc _ _ _ _ hcl]
            exact ih _ _ _ _ _ _ hm hl
        | (false, out), hl => cases hl
theorem mcall_more {MT : Nat → Option MM} {F F' : Nat} (hF : F ≤ F') : ∀ (d d' y : Nat) (as : List MV) (h : MH) (r : Option MV × MH), d ≤ d' → mcall rod MT F d y as h = some r → mcall rod MT F' d' y as h = some r := by
  intro d
  induction d with
  | zero => intro d' y as h r _ hc; cases hc
  | succ d ih =>
    intro d' y as h r hd hc
    obtain ⟨e, rfl⟩ : ∃ e, d' = e + 1 := ⟨d' - 1, by omega⟩
    simp only [mcall] at hc ⊢
    split at hc
    · cases hc
    · rename_i M hM
      split at hc
      · rename_i hl
        simp only [hl, if_true]
        exact lp_more (fun y as h r hh => ih e y as h r (by omega) hh) _ _ _ _ _ _ _ hF hc
      · cases hc
/-- a frame of blocks B, from the block at pc, comes to an answer -/
def Tb (rod : Nat → Nat × (Nat → Int32)) (d : Nat) (B : MB) (pc : Nat) (L : ML) (st : List MV) (h : MH) (r : Option MV) (h' : MH) : Prop := ∃ F n, lp rod (mcall rod (mtOf MTX) F d) B n pc L st h = some (r, h')
/-- a call comes to an answer -/
def Tc (rod : Nat → Nat × (Nat → Int32)) (d y : Nat) (as : List MV) (h : MH) (r : Option MV) (h' : MH) : Prop := ∃ F, mcall rod (mtOf MTX) F d y as h = some (r, h')
variable {d pc pc' y : Nat} {B : MB} {is : List MI} {L L' : ML} {st st' as : List MV} {h h1 h2 hr : MH} {r r1 : Option MV}
theorem Tc.mono {d' : Nat} (hd : d ≤ d') (k : Tc rod d y as h r hr) : Tc rod d' y as h r hr := by
  obtain ⟨F, hk⟩ := k
  exact ⟨F, mcall_more (Nat.le_refl F) _ _ _ _ _ _ hd hk⟩
theorem Tb.goto (hg : getB B pc = some is) (hb : blk rod is pc L st h true = some (true, .inl (pc', L', st', h1))) (k : Tb rod d B pc' L' st' h1 r hr) : Tb rod d B pc L st h r hr := by
  obtain ⟨F, n, hk⟩ := k
  exact ⟨F, n + 1, by simp only [lp, hg, hb]; exact hk⟩
theorem Tb.br {b : Bool} {f1 f2 : MF} (hg : getB B pc = some is) (hb : blk rod is pc L st h true = some (true, .inr (.inl (b, f1, f2)))) (k1 : b = true → Tb rod d B f1.1 f1.2.1 f1.2.2.1 f1.2.2.2 r hr) (k2 : b = false → Tb rod d B f2.1 f2.2.1 f2.2.2.1 f2.2.2.2 r hr) : Tb rod d B pc L st h r hr := by
  obtain ⟨p1, l1, s1, g1⟩ := f1
  obtain ⟨p2, l2, s2, g2⟩ := f2
  cases b with
  | true =>
    obtain ⟨F, n, hk⟩ := k1 rfl
    exact ⟨F, n + 1, by simp only [lp, hg, hb]; exact hk⟩
  | false =>
    obtain ⟨F, n, hk⟩ := k2 rfl
    exact ⟨F, n + 1, by simp only [lp, hg, hb]; exact hk⟩
theorem Tb.ret (hg : getB B pc = some is) (hb : blk rod is pc L st h true = some (true, .inr (.inr (.inl (r, hr))))) : Tb rod d B pc L st h r hr := ⟨0, 1, by simp only [lp, hg, hb]⟩
theorem Tb.call (hg : getB B pc = some is) (hb : blk rod is pc L st h true = some (true, .inr (.inr (.inr (y, as, pc', L', st', h1))))) (hc : Tc rod d y as h1 r1 h2) (k : Tb rod d B pc' L' (r1.toList ++ st') h2 r hr) : Tb rod d B pc L st h r hr := by
  obtain ⟨F1, hc⟩ := hc
  obtain ⟨F2, n, hk⟩ := k
  refine ⟨max F1 F2, n + 1, ?_⟩
  simp only [lp, hg, hb, mcall_more (Nat.le_max_left F1 F2) _ _ _ _ _ _ (Nat.le_refl d) hc]
  exact lp_more (fun y as h r hh => mcall_more (Nat.le_max_right F1 F2) _ _ _ _ _ _ (Nat.le_refl d) hh) _ _ _ _ _ _ _ (Nat.le_refl n) hk
theorem Tc.of {X : MX} (hX : MTX y = some X) (hl : (inS as).length ≤ X.2.2.1) (k : Tb rod d X.2.2.2.2.2.2 0 (inL as X.2.2.1) [] h r hr) : Tc rod (d + 1) y as h r hr := by
  obtain ⟨F, n, hk⟩ := k
  refine ⟨max F n, ?_⟩
  simp only [mcall, mtOf, hX]
  rw [if_pos hl]
  exact lp_more (fun y as h r hh => mcall_more (Nat.le_max_left F n) _ _ _ _ _ _ (Nat.le_refl d) hh) _ _ _ _ _ _ _ (Nat.le_max_right F n) hk
theorem okG {g : Bool} {out : MO} (hg : g = true) : some (g, out) = some (true, out) := by rw [hg]
end TB
