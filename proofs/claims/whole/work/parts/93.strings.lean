/-! THE READER: strings -/
section M93
variable {rod : Nat → Nat × (Nat → Int32)} {d : Nat} {h : MH}
theorem s_coder {j : Nat} (hj : isSt j = true) : Tc rod (d + 1) 35 [.inr (.inr (.inr j))] h (some (.inl 0)) h := by
  refine e_String_coder ?_
  refine b_String_coder_0 (fun q => absurd q (by decide)) (fun _ => ?_)
  refine b_String_coder_6 hj ?_
  exact b_String_coder_14 (by decide)
theorem s_strlen {j : Nat} (hj : isSt j = true) (hb : isBy (j + 100) = true) : Tc rod (d + 2) 34 [.inr (.inr (.inr j))] h (some (.inl (Int32.ofNat (rod (j + 100)).1))) h := by
  refine e_String_length ?_
  refine b_String_length_0 hj (by rw [hb, Bool.or_true]) (s_coder hj) ?_
  have e : ∀ x : Int32, x >>> ((0 : Int32) &&& 31) = x := fun x => by
    rw [show (0 : Int32) &&& 31 = 0 from by decide]
    exact Int32.shiftRight_zero
  have k := b_String_length_9 (rod := rod) (d := d + 1) (u0 := some (.inr (.inr (.inr j)))) (xs0 := Int32.ofNat (rod (j + 100)).1) (xs1 := 0) (h := h)
  rw [e] at k
  exact k
end M93
