/-! THE READER: the class's telling -/
section M97c
variable {rod : Nat → Nat × (Nat → Int32)} {d : Nat} {h g g1 g2 : MH} {T : Nat → Int} {len : Nat} {t k a s0 n i n1 : Nat} {R v : Nat → Int}
theorem k3 : (3 : Int32).toNatClampNeg = 3 := rfl
theorem c_addBuyer (L : Lay g.2) (e1 : (g.1 46 4).toInt = (n1 : Int)) (l8 : n1 < 8) {xk : Int32} : Wc rod (d + 1) 50 [.inr (.inr (.inl (some 46))), .inl xk, .inr (.inr (.inl (some 64)))] g (fun r g' => r = none ∧ g' = sI (sI (sI (sI (sI (sI g 47 n1 xk) 48 n1 (g.1 64 0)) 49 n1 (g.1 64 1)) 50 n1 (g.1 64 2)) 51 n1 (g.1 64 3)) 46 4 (g.1 46 4 + 1)) := by
  have la := L.la
  have s64 : g.2.2[64]? = some (0, 4) := L.1 64 (0, 4) rfl
  have en := n_eq e1
  have b8 : 0 ≤ (g.1 46 4).toInt ∧ (g.1 46 4).toInt < 8 := by omega
  refine n_Land_addBuyer ?_
  refine w_Land_addBuyer_0 la (fun c => absurd c (by omega)) (fun _ => ?_)
  refine w_Land_addBuyer_9 s64 (fun _ => ?_) (fun c => absurd (by decide) c)
  refine w_Land_addBuyer_16 la b8 ?_
  rw [en]
  refine w_Land_addBuyer_26 (h := sI g 47 n1 xk) la s64 (by decide) (by rw [sI_nc (by omega)]; exact b8) ?_
  rw [k0, sI_nc (by omega), sI_nc (by omega), en]
  refine w_Land_addBuyer_38 (h := sI (sI g 47 n1 xk) 48 n1 (g.1 64 0)) la s64 (by decide) (by rw [sI_nc (by omega), sI_nc (by omega)]; exact b8) ?_
  rw [k1]
  simp (disch := omega) only [sI_nc]
  rw [en]
  refine w_Land_addBuyer_50 (h := sI (sI (sI g 47 n1 xk) 48 n1 (g.1 64 0)) 49 n1 (g.1 64 1)) la s64 (by decide) (by rw [sI_nc (by omega), sI_nc (by omega), sI_nc (by omega)]; exact b8) ?_
  rw [k2]
  simp (disch := omega) only [sI_nc]
  rw [en]
  refine w_Land_addBuyer_62 (h := sI (sI (sI (sI g 47 n1 xk) 48 n1 (g.1 64 0)) 49 n1 (g.1 64 1)) 50 n1 (g.1 64 2)) la s64 (by decide) (by rw [sI_nc (by omega), sI_nc (by omega), sI_nc (by omega), sI_nc (by omega)]; exact b8) ?_
  rw [k3]
  simp (disch := omega) only [sI_nc]
  rw [en]
  refine w_Land_addBuyer_74 (h := sI (sI (sI (sI (sI g 47 n1 xk) 48 n1 (g.1 64 0)) 49 n1 (g.1 64 1)) 50 n1 (g.1 64 2)) 51 n1 (g.1 64 3)) la ?_
  simp (disch := omega) only [sI_nc]
  refine w_Land_addBuyer_84 ?_
  exact ⟨rfl, rfl⟩
theorem c_layRoad (L : Lay g.2) {p q : Nat} (p6 : p < 6) (q6 : q < 6) {x1 x2 x3 : Int32} (e1 : x1.toInt = (p : Int)) (e2 : x2.toInt = (q : Int)) : Wc rod (d + 1) 52 [.inr (.inr (.inl (some 46))), .inl x1, .inl x2, .inl x3] g (fun r g' => r = none ∧ g' = sI (sI g 54 (p * 6 + q) x3) 54 (q * 6 + p) x3) := by
  have f1 : ((x1 * (6 : Int32)) + x2).toInt = ((p * 6 + q : Nat) : Int) := n_add (n_mul (n := 6) e1 rfl (by omega)) e2 (by omega)
  have f2 : ((x2 * (6 : Int32)) + x1).toInt = ((q * 6 + p : Nat) : Int) := n_add (n_mul (n := 6) e2 rfl (by omega)) e1 (by omega)
  refine n_Land_layRoad ?_
  refine w_Land_layRoad_0 (fun c => absurd c (by omega)) (fun _ => ?_)
  refine w_Land_layRoad_4 (fun c => absurd c (by omega)) (fun _ => ?_)
  refine w_Land_layRoad_10 (fun c => absurd c (by omega)) (fun _ => ?_)
  refine w_Land_layRoad_14 (fun _ => ?_) (fun c => absurd (by omega) c)
  refine w_Land_layRoad_21 L.la (by omega) ?_
  rw [n_eq f1]
  refine w_Land_layRoad_33 (h := sI g 54 (p * 6 + q) x3) L.la (by omega) ?_
  rw [n_eq f2]
  refine w_Land_layRoad_45 ?_
  exact ⟨rfl, rfl⟩
theorem c_addLetter (L : Lay g.2) (e1 : (g.1 46 5).toInt = (n1 : Int)) (l4 : n1 < 4) {x1 x2 : Int32} : Wc rod (d + 1) 53 [.inr (.inr (.inl (some 46))), .inl x1, .inl x2] g (fun r g' => r = none ∧ g' = sI (sI (sI g 52 n1 x1) 53 n1 x2) 46 5 (g.1 46 5 + 1)) := by
  have en := n_eq e1
  refine n_Land_addLetter ?_
  refine w_Land_addLetter_0 L.la (fun _ => ?_) (fun c => absurd (by omega) c)
  refine w_Land_addLetter_9 L.la (by omega) ?_
  rw [en]
  refine w_Land_addLetter_19 (h := sI g 52 n1 x1) L.la (by rw [sI_nc (by omega)]; omega) ?_
  rw [sI_nc (by omega), en]
  refine w_Land_addLetter_29 (h := sI (sI g 52 n1 x1) 53 n1 x2) L.la ?_
  simp (disch := omega) only [sI_nc]
  refine w_Land_addLetter_39 ?_
  exact ⟨rfl, rfl⟩
theorem c_addDeed (L : Lay g.2) (e1 : (g.1 55 0).toInt = (n1 : Int)) (l4 : n1 < 40) {x1 x2 x3 : Int32} : Wc rod (d + 1) 49 [.inr (.inr (.inl (some 55))), .inl x1, .inl x2, .inl x3] g (fun r g' => r = none ∧ g' = sI (sI (sI (sI g 56 n1 x1) 57 n1 x2) 58 n1 x3) 55 0 (g.1 55 0 + 1)) := by
  have en := n_eq e1
  refine n_Season_addDeed ?_
  refine w_Season_addDeed_0 L.sea (fun _ => ?_) (fun c => absurd (by omega) c)
  refine w_Season_addDeed_10 L.sea (by omega) ?_
  rw [en]
  refine w_Season_addDeed_20 (h := sI g 56 n1 x1) L.sea (by rw [sI_nc (by omega)]; omega) ?_
  rw [sI_nc (by omega), en]
  refine w_Season_addDeed_30 (h := sI (sI g 56 n1 x1) 57 n1 x2) L.sea (by rw [sI_nc (by omega), sI_nc (by omega)]; omega) ?_
  rw [sI_nc (by omega), sI_nc (by omega), en]
  refine w_Season_addDeed_40 (h := sI (sI (sI g 56 n1 x1) 57 n1 x2) 58 n1 x3) L.sea ?_
  simp (disch := omega) only [sI_nc]
  refine w_Season_addDeed_50 ?_
  exact ⟨rfl, rfl⟩
theorem c_addEntry (L : Lay g.2) (e1 : (g.1 59 0).toInt = (n1 : Int)) (l4 : n1 < 20) {x1 x2 : Int32} : Wc rod (d + 1) 48 [.inr (.inr (.inl (some 59))), .inl x1, .inl x2] g (fun r g' => r = none ∧ g' = sI (sI (sI g 60 n1 x1) 61 n1 x2) 59 0 (g.1 59 0 + 1)) := by
  have en := n_eq e1
  refine n_Ledger_addEntry ?_
  refine w_Ledger_addEntry_0 L.led (fun _ => ?_) (fun c => absurd (by omega) c)
  refine w_Ledger_addEntry_10 L.led (by omega) ?_
  rw [en]
  refine w_Ledger_addEntry_20 (h := sI g 60 n1 x1) L.led (by rw [sI_nc (by omega)]; omega) ?_
  rw [sI_nc (by omega), en]
  refine w_Ledger_addEntry_30 (h := sI (sI g 60 n1 x1) 61 n1 x2) L.led ?_
  simp (disch := omega) only [sI_nc]
  refine w_Ledger_addEntry_40 ?_
  exact ⟨rfl, rfl⟩
theorem c_setWorth (L : Lay g.2) {p : Nat} (p6 : p < 16) {x1 x2 : Int32} (e1 : x1.toInt = (p : Int)) : Wc rod (d + 1) 47 [.inr (.inr (.inl (some 62))), .inl x1, .inl x2] g (fun r g' => r = none ∧ g' = sI g 63 p x2) := by
  refine n_Bargain_setWorth ?_
  refine w_Bargain_setWorth_0 (fun c => absurd c (by omega)) (fun _ => ?_)
  refine w_Bargain_setWorth_4 (fun c => absurd c (by omega)) (fun _ => ?_)
  refine w_Bargain_setWorth_10 L.bar (by omega) ?_
  rw [n_eq e1]
  refine w_Bargain_setWorth_17 ?_
  exact ⟨rfl, rfl⟩
theorem PT.c {c j : Nat} (q : 46 ≤ c ∧ c ≤ 63) : PT c j := Or.inr q
theorem PT.nm : PT 45 10 := Or.inl ⟨rfl, rfl⟩
theorem nb_eq : ∀ k, k < 23 → ((roL 1).getD k 0).toInt = (nbh k : Int) := by decide
theorem lo_hi : (∀ k, k < 4 → nbh k = 4 ∧ loF k 0 = 0 ∧ hiF k 0 = 5 ∧ loF k 1 = 0 ∧ hiF k 1 = 99 ∧ loF k 2 = 0 ∧ hiF k 2 = 99 ∧ loF k 3 = 0 ∧ hiF k 3 = 9) ∧ (nbh 4 = 3 ∧ loF 4 0 = 0 ∧ hiF 4 0 = 5 ∧ loF 4 1 = 0 ∧ hiF 4 1 = 5 ∧ loF 4 2 = 1 ∧ hiF 4 2 = 9) ∧ (nbh 5 = 2 ∧ loF 5 0 = 1 ∧ hiF 5 0 = 60 ∧ loF 5 1 = 0 ∧ hiF 5 1 = 60) ∧ (nbh 6 = 1 ∧ loF 6 0 = 1 ∧ hiF 6 0 = 6) ∧ (nbh 7 = 1 ∧ loF 7 0 = 0 ∧ hiF 7 0 = 5) ∧ (nbh 8 = 1 ∧ loF 8 0 = 0 ∧ hiF 8 0 = 5) ∧ (nbh 9 = 1 ∧ loF 9 0 = 0 ∧ hiF 9 0 = 5) ∧ (∀ k, k < 21 → 17 ≤ k → nbh k = 1 ∧ loF k 0 = 0 ∧ hiF k 0 ≤ 99 ∧ (k = 20 → hiF k 0 = 5)) ∧ (nbh 21 = 1 ∧ loF 21 0 = 1 ∧ hiF 21 0 = 4) ∧ (nbh 22 = 2 ∧ loF 22 0 = 1 ∧ hiF 22 0 = 15 ∧ loF 22 1 = 0 ∧ hiF 22 1 = 40) := ⟨by decide, by decide, by decide, by decide, by decide, by decide, by decide, by decide, by decide, by decide⟩
/-- the bargain's lines -/
theorem c_tellBarg (L : Lay g.2) (C : BargC g R n) (hk : k = 21 ∨ k = 22) {xk : Int32} (ek : xk.toInt = (k : Int)) (e64 : ∀ j, j < nbh k → (g.1 64 j).toInt = v j) (hv : ∀ j, j < nbh k → loF k j ≤ v j ∧ v j ≤ hiF k j) : Wc rod (d + 2) 46 [.inr (.inr (.inl (some 45))), .inl xk] g (fun r g' => r = none ∧ Fr PT g g' ∧ BargC g' (tellR k v R) (tellN k v n)) := by
  have lh := lo_hi.2.2.2.2.2.2.2.2
  refine n_Reader_tellBargain ?_
  rcases hk with rfl | rfl
  · have b := hv 0 (by decide)
    rw [lh.1.2.1, lh.1.2.2] at b
    refine w_Reader_tellBargain_0 (fun c => absurd (by rw [ek]; rfl) c) (fun _ => ?_)
    refine w_Reader_tellBargain_6 L ?_
    rw [k0]
    refine w_Reader_tellBargain_19 ?_
    refine w_Reader_tellBargain_56 ?_
    exact ⟨rfl, Fr.rfl.si (PT.c (by omega)), barg_one C (e64 0 (by decide)) b⟩
  · have b0 := hv 0 (by decide)
    have b1 := hv 1 (by decide)
    rw [lh.2.2.1, lh.2.2.2.1] at b0
    rw [lh.2.2.2.2.1, lh.2.2.2.2.2] at b1
    have e0 := e64 0 (by decide)
    have e1 := e64 1 (by decide)
    have o0 := n_of (x := g.1 64 0) (by omega)
    refine w_Reader_tellBargain_0 (fun _ => ?_) (fun c => absurd c (by rw [ek]; decide))
    refine w_Reader_tellBargain_22 L (c_setWorth L (p := (g.1 64 0).toNatClampNeg) (by omega) (by rw [k0]; exact o0)) ?_
    rintro _ g1 ⟨rfl, rfl⟩
    refine w_Reader_tellBargain_41 (h := sI g 63 (g.1 64 0).toNatClampNeg (g.1 64 1)) L ?_
    rw [k0, sI_nc (by omega), sI_nc (by omega)]
    refine w_Reader_tellBargain_56 ?_
    have o := or16 C.2.2.2.2.2 (show (g.1 64 0).toNatClampNeg < 16 by omega)
    refine ⟨rfl, (Fr.rfl.si (PT.c (by omega))).si PT.nm, barg_set C (p := (g.1 64 0).toNatClampNeg) (by omega) (by omega) e1 b1 ?_ o.2⟩
    rw [ofN C.2.2.2.2.1 (by have := C.2.2.2.2.2; omega), ofN o0 (by omega), n_eq (t_nat (by omega)), o.1]
    exact t_nat (by have := o.2; omega)
theorem c_tellLand (L : Lay g.2) (C : LandC g R n) (hk : 4 ≤ k ∧ k < 10) {xk : Int32} (ek : xk.toInt = (k : Int)) (e64 : ∀ j, j < nbh k → (g.1 64 j).toInt = v j) (hv : ∀ j, j < nbh k → loF k j ≤ v j ∧ v j ≤ hiF k j) (tm : tooM k R = false) : Wc rod (d + 2) 51 [.inr (.inr (.inl (some 45))), .inl xk] g (fun r g' => r = none ∧ Fr PT g g' ∧ LandC g' (tellR k v R) (tellN k v n)) := by
  have lh := lo_hi.2
  refine n_Reader_tellLand ?_
  refine w_Reader_tellLand_0 (fun c => ?_) (fun c => ?_) (fun c => ?_) (fun c => ?_) (fun c => ?_) ?_
  · obtain rfl : k = 4 := by omega
    have b0 := hv 0 (by decide)
    have b1 := hv 1 (by decide)
    have b2 := hv 2 (by decide)
    rw [lh.1.2.1, lh.1.2.2.1] at b0
    rw [lh.1.2.2.2.1, lh.1.2.2.2.2.1] at b1
    rw [lh.1.2.2.2.2.2.1, lh.1.2.2.2.2.2.2] at b2
    have e0 := e64 0 (by decide)
    have e1 := e64 1 (by decide)
    have e2 := e64 2 (by decide)
    have o0 := n_of (x := g.1 64 0) (by omega)
    have o1 := n_of (x := g.1 64 1) (by omega)
    refine w_Reader_tellLand_36 L (c_layRoad L (p := (g.1 64 0).toNatClampNeg) (q := (g.1 64 1).toNatClampNeg) (by omega) (by omega) (by rw [k0]; exact o0) (by rw [k1]; exact o1)) ?_
    rintro _ g1 ⟨rfl, rfl⟩
    rw [k2]
    refine w_Reader_tellLand_61 (h := sI (sI g 54 ((g.1 64 0).toNatClampNeg * 6 + (g.1 64 1).toNatClampNeg) (g.1 64 2)) 54 ((g.1 64 1).toNatClampNeg * 6 + (g.1 64 0).toNatClampNeg) (g.1 64 2)) L ?_
    rw [k0, k1]
    simp (disch := omega) only [sI_nc]
    refine w_Reader_tellLand_87 ?_
    refine w_Reader_tellLand_197 ?_
    refine ⟨rfl, ((Fr.rfl.si (PT.c (by omega))).si (PT.c (by omega))).si PT.nm, land_road C (p := (g.1 64 0).toNatClampNeg) (q := (g.1 64 1).toNatClampNeg) (by omega) (by omega) (by omega) (by omega) e2 b2 ?_⟩
    have n64 := C.2.2.2.2.2
    have a1 := named_or C.2.2.2.2.1 n64 o0 (by omega)
    have o := or_bits n n64 (g.1 64 0).toNatClampNeg (by omega)
    have s := sh_bit (g.1 64 1).toNatClampNeg (by omega) (n ||| 2 ^ (g.1 64 0).toNatClampNeg) o.1
    rw [← Int32.or_assoc, ← Nat.or_assoc, ofN a1 (by omega), ofN o1 (by omega), n_eq (t_nat (by omega))]
    exact s
  · obtain rfl : k = 5 := by omega
    have b0 := hv 0 (by decide)
    have b1 := hv 1 (by decide)
    rw [lh.2.1.2.1, lh.2.1.2.2.1] at b0
    rw [lh.2.1.2.2.2.1, lh.2.1.2.2.2.2] at b1
    have tm : ¬ 4 ≤ R 2 := of_decide_eq_false tm
    have h2 := C.1.1.2.2.1
    have r2 := C.1.2.2.2.1
    have o2 := n_of (x := g.1 46 5) (by omega)
    refine w_Reader_tellLand_90 L (c_addLetter L o2 (by omega)) ?_
    rintro _ g1 ⟨rfl, rfl⟩
    rw [k0, k1]
    refine w_Reader_tellLand_109 ?_
    refine w_Reader_tellLand_197 ?_
    exact ⟨rfl, ((Fr.rfl.si (PT.c (by omega))).si (PT.c (by omega))).si (PT.c (by omega)), land_let C (by omega) (by omega) (e64 0 (by decide)) (e64 1 (by decide)) b0 b1⟩
  · obtain rfl : k = 6 := by omega
    have b0 := hv 0 (by decide)
    rw [lh.2.2.1.2.1, lh.2.2.1.2.2] at b0
    refine w_Reader_tellLand_112 L ?_
    rw [k0]
    refine w_Reader_tellLand_125 ?_
    refine w_Reader_tellLand_197 ?_
    exact ⟨rfl, Fr.rfl.si (PT.c (by omega)), land_one C (j := 0) (e64 0 (by decide)) (Or.inl ⟨rfl, rfl, b0⟩)⟩
  · obtain rfl : k = 7 := by omega
    have b0 := hv 0 (by decide)
    rw [lh.2.2.2.1.2.1, lh.2.2.2.1.2.2] at b0
    have e0 := e64 0 (by decide)
    have o0 := n_of (x := g.1 64 0) (by omega)
    have n64 := C.2.2.2.2.2
    have h5 := C.1.1.2.2.2.2.2
    have r5 := C.1.2.2.2.2.2.2
    have o5 := n_of (x := g.1 46 3) (by omega)
    refine w_Reader_tellLand_128 L ?_
    rw [k0]
    refine w_Reader_tellLand_148 (h := sI g 46 3 ((g.1 46 3) ||| ((1 : Int32) <<< ((g.1 64 0) &&& 31)))) L ?_
    rw [k0]
    simp (disch := omega) only [sI_nc]
    refine w_Reader_tellLand_165 ?_
    refine w_Reader_tellLand_197 ?_
    refine ⟨rfl, (Fr.rfl.si (PT.c (by omega))).si PT.nm, land_shut C (p := (g.1 64 0).toNatClampNeg) (by omega) (by omega) ?_ (named_or C.2.2.2.2.1 n64 o0 (by omega))⟩
    have s := sh_bit (g.1 64 0).toNatClampNeg (by omega) (g.1 46 3).toNatClampNeg (by omega)
    rw [← ofN o5 (by omega), ← ofN o0 (by omega)] at s
    rw [s, show (R 5).toNat = (g.1 46 3).toNatClampNeg by omega]
  · obtain rfl : k = 8 := by omega
    have b0 := hv 0 (by decide)
    rw [lh.2.2.2.2.1.2.1, lh.2.2.2.2.1.2.2] at b0
    refine w_Reader_tellLand_168 L ?_
    rw [k0]
    refine w_Reader_tellLand_181 ?_
    refine w_Reader_tellLand_197 ?_
    exact ⟨rfl, Fr.rfl.si (PT.c (by omega)), land_one C (j := 3) (e64 0 (by decide)) (Or.inr (Or.inl ⟨rfl, rfl, b0⟩))⟩
  · intros
    obtain rfl : k = 9 := by omega
    have b0 := hv 0 (by decide)
    rw [lh.2.2.2.2.2.1.2.1, lh.2.2.2.2.2.1.2.2] at b0
    refine w_Reader_tellLand_184 L ?_
    rw [k0]
    refine w_Reader_tellLand_197 ?_
    exact ⟨rfl, Fr.rfl.si (PT.c (by omega)), land_one C (j := 4) (e64 0 (by decide)) (Or.inr (Or.inr ⟨rfl, rfl, b0⟩))⟩
theorem c_tell (hr : RokT rod) (L : Lay g.2) (C : RecC t g R n) (ht : t < 4) (kt : fw t ≤ k ∧ k < fw (t + 1)) {xk : Int32} (ek : xk.toInt = (k : Int)) (e64 : ∀ j, j < nbh k → (g.1 64 j).toInt = v j) (hv : ∀ j, j < nbh k → loF k j ≤ v j ∧ v j ≤ hiF k j) (tm : tooM k R = false) : Wc rod (d + 3) 45 [.inr (.inr (.inl (some 45))), .inl xk] g (fun r g' => r = none ∧ Fr PT g g' ∧ RecC t g' (tellR k v R) (tellN k v n)) := by
  have r1 := hr 1 (by decide) (by decide)
  refine n_Reader_tell ?_
  rcases (show t = 0 ∨ t = 1 ∨ t = 2 ∨ t = 3 by omega) with rfl | rfl | rfl | rfl
  · have kt : 0 ≤ k ∧ k < 10 := kt
    have C := C.1 rfl
    refine w_Reader_tell_0 (fun _ => ?_) (fun c => absurd (by omega) c)
    refine w_Reader_tell_14 (fun _ => ?_) (fun c => absurd (by omega) c)
    refine w_Reader_tell_40 (fun _ => ?_) (fun c => absurd (by omega) c)
    refine w_Reader_tell_95 (fun c => ?_) (fun c => ?_)
    · refine w_Reader_tell_132 L (c_tellLand L C (by omega) ek e64 hv tm) ?_
      rintro _ g1 ⟨rfl, F, C1⟩
      refine w_Reader_tell_137 ?_
      exact ⟨rfl, F, fun _ => C1, fun q => absurd q (by decide), fun q => absurd q (by decide), fun q => absurd q (by decide)⟩
    · have k4 : k < 4 := by omega
      have lh := lo_hi.1 k k4
      have b0 := hv 0 (by omega)
      have b1 := hv 1 (by omega)
      have b2 := hv 2 (by omega)
      have b3 := hv 3 (by omega)
      rw [lh.2.1, lh.2.2.1] at b0
      rw [lh.2.2.2.1, lh.2.2.2.2.1] at b1
      rw [lh.2.2.2.2.2.1, lh.2.2.2.2.2.2.1] at b2
      rw [lh.2.2.2.2.2.2.2.1, lh.2.2.2.2.2.2.2.2] at b3
      rw [tooM, if_pos k4] at tm
      have tm : ¬ 8 ≤ R 1 := of_decide_eq_false tm
      have h2 := C.1.1.2.1
      have r2 := C.1.2.2.1
      have o2 := n_of (x := g.1 46 4) (by omega)
      have e0 := e64 0 (by omega)
      have o0 := n_of (x := g.1 64 0) (by omega)
      refine w_Reader_tell_100 L (c_addBuyer L o2 (by omega)) ?_
      rintro _ g1 ⟨rfl, rfl⟩
      refine w_Reader_tell_112 (h := sI (sI (sI (sI (sI (sI g 47 (g.1 46 4).toNatClampNeg xk) 48 (g.1 46 4).toNatClampNeg (g.1 64 0)) 49 (g.1 46 4).toNatClampNeg (g.1 64 1)) 50 (g.1 46 4).toNatClampNeg (g.1 64 2)) 51 (g.1 46 4).toNatClampNeg (g.1 64 3)) 46 4 (g.1 46 4 + 1)) L ?_
      rw [k0]
      simp (disch := omega) only [sI_nc]
      refine w_Reader_tell_129 ?_
      refine w_Reader_tell_137 ?_
      refine ⟨rfl, ((((((Fr.rfl.si (PT.c (by omega))).si (PT.c (by omega))).si (PT.c (by omega))).si (PT.c (by omega))).si (PT.c (by omega))).si (PT.c (by omega))).si PT.nm, fun _ => ?_, fun q => absurd q (by decide), fun q => absurd q (by decide), fun q => absurd q (by decide)⟩
      refine land_buy C k4 (by omega) (by omega) ek e0 (e64 1 (by omega)) (e64 2 (by omega)) (e64 3 (by omega)) b0 b1 b2 b3 ?_
      rw [show (v 0).toNat = (g.1 64 0).toNatClampNeg by omega]
      exact named_or C.2.2.2.2.1 C.2.2.2.2.2 o0 (by omega)
  · have kt : 10 ≤ k ∧ k < 17 := kt
    have C := C.2.1 rfl
    have eN : ((rod 1).2 xk.toNatClampNeg).toInt = (nbh k : Int) := by rw [r1, n_eq ek]; exact nb_eq k (by omega)
    rw [tooM, if_neg (by omega), if_neg (by omega), if_neg (by omega), if_pos (by omega)] at tm
    have tm : ¬ 40 ≤ R 0 := of_decide_eq_false tm
    have o2 := n_of (x := g.1 55 0) (by have := C.1; have := C.2.1; omega)
    have fin : ∀ (va vb : Int32) u2, va.toInt = (if 0 < nbh k then v 0 else -1) → vb.toInt = (if 1 < nbh k then v 1 else -1) → Wb rod (d + 2) B_Reader_tell 89 [some (.inr (.inr (.inl (some 45)))), some (.inl xk), u2] [.inl vb, .inl va, .inl (xk - 10), .inr (.inr (.inl (some 55)))] g (fun r g' => r = none ∧ Fr PT g g' ∧ RecC 1 g' (tellR k v R) (tellN k v n)) := by
      intro va vb u2 ea eb
      refine w_Reader_tell_89 L.sea (c_addDeed L o2 (by have := C.1; omega)) ?_
      rintro _ g1 ⟨rfl, rfl⟩
      refine w_Reader_tell_92 ?_
      refine w_Reader_tell_137 ?_
      refine ⟨rfl, (((Fr.rfl.si (PT.c (by omega))).si (PT.c (by omega))).si (PT.c (by omega))).si (PT.c (by omega)), fun q => absurd q (by decide), fun _ => ?_, fun q => absurd q (by decide), fun q => absurd q (by decide)⟩
      refine seas_more C kt (by have := C.1; omega) (by have := C.1; omega) ?_ ea eb hv
      rw [i32_sub (by rw [ek]; show -2147483648 ≤ (k : Int) - 10; omega) (by rw [ek]; show (k : Int) - 10 ≤ _; omega), ek]
      rfl
    refine w_Reader_tell_0 (fun _ => ?_) (fun c => absurd (by omega) c)
    refine w_Reader_tell_14 (fun _ => ?_) (fun c => absurd (by omega) c)
    refine w_Reader_tell_40 (fun c => absurd c (by omega)) (fun _ => ?_)
    refine w_Reader_tell_46 L (inB_of (by omega) (by rw [r1]; show xk.toInt < 23; omega)) (fun c => ?_) (fun c => ?_)
    · rw [eN] at c
      refine w_Reader_tell_73 ?_
      refine w_Reader_tell_74 (fun _ => ?_) (fun c => absurd (by rw [eN]; omega) c)
      refine w_Reader_tell_88 ?_
      exact fin _ _ _ (by rw [if_neg (by omega)]; rfl) (by rw [if_neg (by omega)]; rfl)
    · rw [eN] at c
      refine w_Reader_tell_64 L ?_
      rw [k0]
      refine w_Reader_tell_74 (fun kc2 => ?_) (fun kc2 => ?_)
      · rw [eN] at kc2
        refine w_Reader_tell_88 ?_
        exact fin _ _ _ (by rw [if_pos (by omega)]; exact e64 0 (by omega)) (by rw [if_neg (by omega)]; rfl)
      · rw [eN] at kc2
        refine w_Reader_tell_79 L ?_
        rw [k1]
        exact fin _ _ _ (by rw [if_pos (by omega)]; exact e64 0 (by omega)) (by rw [if_pos (by omega)]; exact e64 1 (by omega))
  · have kt : 17 ≤ k ∧ k < 21 := kt
    have C := C.2.2.1 rfl
    have lh := lo_hi.2.2.2.2.2.2.2.1 k kt.2 kt.1
    rw [tooM, if_neg (by omega), if_neg (by omega), if_neg (by omega), if_neg (by omega), if_pos (by omega)] at tm
    have tm : ¬ 20 ≤ R 0 := of_decide_eq_false tm
    have o2 := n_of (x := g.1 59 0) (by have := C.1; have := C.2.1; omega)
    have b := hv 0 (by omega)
    rw [lh.2.1] at b
    refine w_Reader_tell_0 (fun _ => ?_) (fun c => absurd (by omega) c)
    refine w_Reader_tell_14 (fun c => absurd c (by omega)) (fun _ => ?_)
    refine w_Reader_tell_20 L (c_addEntry L o2 (by have := C.1; omega)) ?_
    rintro _ g1 ⟨rfl, rfl⟩
    rw [k0]
    refine w_Reader_tell_37 ?_
    refine w_Reader_tell_137 ?_
    refine ⟨rfl, ((Fr.rfl.si (PT.c (by omega))).si (PT.c (by omega))).si (PT.c (by omega)), fun q => absurd q (by decide), fun q => absurd q (by decide), fun _ => ?_, fun q => absurd q (by decide)⟩
    refine led_more C kt (by have := C.1; omega) (by have := C.1; omega) ?_ (e64 0 (by omega)) ⟨b.1, by omega, fun z => by have := lh.2.2.2 z; omega⟩
    rw [i32_sub (by rw [ek]; show -2147483648 ≤ (k : Int) - 17; omega) (by rw [ek]; show (k : Int) - 17 ≤ _; omega), ek]
    rfl
  · have kt : 21 ≤ k ∧ k < 23 := kt
    have C := C.2.2.2 rfl
    refine w_Reader_tell_0 (fun c => absurd c (by omega)) (fun _ => ?_)
    refine w_Reader_tell_6 L (c_tellBarg L C (by omega) ek e64 hv) ?_
    rintro _ g1 ⟨rfl, F, C1⟩
    refine w_Reader_tell_11 ?_
    refine w_Reader_tell_137 ?_
    exact ⟨rfl, F, fun q => absurd q (by decide), fun q => absurd q (by decide), fun q => absurd q (by decide), fun _ => C1⟩
end M97c
