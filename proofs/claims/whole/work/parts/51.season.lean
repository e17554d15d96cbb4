/-! SEASONS: a state, what a deed does to it; the class's side -/
abbrev SSt : Type := (Nat → Int32) × (Nat → Nat → Int32)
/-- the class's walk is in that state, of n buyers -/
def SimC (h : MH) (S : SSt) (n : Nat) : Prop := (∀ i, i < 7 → h.1 65 i = S.1 i) ∧ ∀ c b, c < 4 → b < n → h.1 (66 + c) b = S.2 c b
def SimM (h : MH) (S : SSt) (n : Nat) : Prop := (∀ i, i < 7 → h.1 84 (21 + i) = S.1 i) ∧ ∀ c b, c < 4 → b < n → h.1 (88 + c) b = S.2 c b
def m99 (x : Int32) : Int32 := if x < 99 then x else 99
def m0 (x : Int32) : Int32 := if (0 : Int32) < x then x else 0
def sellB (D : Nat → Nat → Int32) (n k : Nat) (S : SSt) (b t : Int32) : Bool := decide ((0 ≤ b.toInt ∧ b.toInt < (n : Int)) ∧ (0 ≤ t.toInt ∧ t.toInt < (k : Int)) ∧ (D 2 b.toNatClampNeg).toInt = (S.1 1).toInt ∧ ((S.1 2 >>> (S.1 1 &&& 31)) &&& 1).toInt = 0 ∧ wantsF (D 1 b.toNatClampNeg) (S.2 0 b.toNatClampNeg) (S.2 1 b.toNatClampNeg) (S.2 2 b.toNatClampNeg) (D 6 t.toNatClampNeg) (D 7 t.toNatClampNeg) = true)
def sellS (D : Nat → Nat → Int32) (S : SSt) (b t : Nat) : SSt :=
  (fun j => if j = 3 then S.1 3 + 1 else if j = 4 then S.1 4 + D 7 t * D 0 1 / 10 else if j = 5 then S.1 5 + D 7 t * D 0 2 / 10 else if j = 6 then S.1 6 + (D 7 t - D 7 t * D 0 1 / 10 - D 7 t * D 0 2 / 10) else S.1 j,
   fun c j => if j = b then (if c = 0 then (if (D 1 b).toInt = 1 then S.2 0 b - D 6 t else m0 (S.2 0 b - D 6 t)) else if c = 1 then S.2 1 b - D 7 t else if c = 3 then S.2 3 b + D 6 t else S.2 c j) else S.2 c j)
def sellF (D : Nat → Nat → Int32) (n k : Nat) (S : SSt) (b t : Int32) : Option SSt := if sellB D n k S b t = true then some (sellS D S b.toNatClampNeg t.toNatClampNeg) else none
def uA (S : SSt) (c b : Nat) (v : Int32) : SSt := (S.1, fun e j => if e = c ∧ j = b then v else S.2 e j)
def sinF (n : Nat) (S : SSt) (b y : Int32) : Option SSt := if 0 ≤ b.toInt ∧ b.toInt < (n : Int) then some (uA S 0 b.toNatClampNeg (m99 (S.2 0 b.toNatClampNeg + y))) else none
def goOk (D : Nat → Nat → Int32) (S : SSt) (x : Int32) : Bool := decide ((0 ≤ x.toInt ∧ x.toInt < (D 0 0).toInt) ∧ ¬ (D 8 (6 * (S.1 1).toNatClampNeg + x.toNatClampNeg)).toInt = 0 ∧ ((S.1 2 >>> (x &&& 31)) &&& 1).toInt = 0 ∧ (S.1 0 + D 8 (6 * (S.1 1).toNatClampNeg + x.toNatClampNeg)).toInt ≤ 99)
def goF (D : Nat → Nat → Int32) (S : SSt) (x : Int32) : Option SSt := if goOk D S x = true then some (fun j => if j = 0 then S.1 0 + D 8 (6 * (S.1 1).toNatClampNeg + x.toNatClampNeg) else if j = 1 then x else S.1 j, S.2) else none
def turnF (D : Nat → Nat → Int32) (S : SSt) (x q : Int32) : Option SSt := if (0 ≤ x.toInt ∧ x.toInt < (D 0 0).toInt) ∧ ((((S.1 2 >>> (x &&& 31)) &&& 1).toInt = 0) ↔ q.toInt = 0) then some (fun j => if j = 2 then S.1 2 ^^^ ((1 : Int32) <<< (x &&& 31)) else S.1 j, S.2) else none
def doubtS (n : Nat) (S : SSt) : SSt := (S.1, fun c b => if c = 2 ∧ b < n then m0 (S.2 2 b - 1) else S.2 c b)
def jubS (n : Nat) (S : SSt) : SSt := (S.1, fun c b => if b < n ∧ 0 < (S.2 3 b).toInt then (if c = 0 then m99 (S.2 0 b + S.2 3 b) else if c = 2 then m0 (S.2 2 b - 1) else if c = 3 then 0 else S.2 c b) else S.2 c b)
def actF (D : Nat → Nat → Int32) (n k : Nat) (w x y : Int32) (S : SSt) : Option SSt := if w.toInt = 0 then sellF D n k S x y else if w.toInt = 1 then sinF n S x y else if w.toInt = 2 then goF D S x else if w.toInt = 3 then turnF D S x 0 else if w.toInt = 4 then turnF D S x 1 else if w.toInt = 5 then some (doubtS n S) else if w.toInt = 6 then some (jubS n S) else none
theorem sellS_0 {D : Nat → Nat → Int32} {S : SSt} {b t : Nat} : (sellS D S b t).2 0 b = if (D 1 b).toInt = 1 then S.2 0 b - D 6 t else m0 (S.2 0 b - D 6 t) := by simp [sellS]
theorem sellS_1 {D : Nat → Nat → Int32} {S : SSt} {b t : Nat} : (sellS D S b t).2 1 b = S.2 1 b - D 7 t := by simp [sellS]
theorem sellS_2 {D : Nat → Nat → Int32} {S : SSt} {b t : Nat} : (sellS D S b t).2 2 b = S.2 2 b := by simp [sellS]
theorem sellS_3 {D : Nat → Nat → Int32} {S : SSt} {b t : Nat} : (sellS D S b t).2 3 b = S.2 3 b + D 6 t := by simp [sellS]
theorem sellS_n {D : Nat → Nat → Int32} {S : SSt} {b t c j : Nat} (e : j ≠ b) : (sellS D S b t).2 c j = S.2 c j := by simp [sellS, e]
theorem jubS_in {n c b : Nat} {S : SSt} (e : b < n ∧ 0 < (S.2 3 b).toInt) : (jubS n S).2 c b = (if c = 0 then m99 (S.2 0 b + S.2 3 b) else if c = 2 then m0 (S.2 2 b - 1) else if c = 3 then 0 else S.2 c b) := if_pos e
theorem jubS_out {n c b : Nat} {S : SSt} (e : ¬ (b < n ∧ 0 < (S.2 3 b).toInt)) : (jubS n S).2 c b = S.2 c b := if_neg e
/-- behind a deed that may or may not be -/
def PostC (h : MH) (S : SSt) (n : Nat) (o : Option SSt) (r : Option MV) (h' : MH) : Prop := Keep h h' ∧ r = some (.inl (if o.isSome = true then 1 else 0)) ∧ SimC h' (o.getD S) n
theorem Lay.keep {h h' : MH} (L : Lay h.2) (K : Keep h h') : Lay h'.2 := K.1.symm ▸ L
theorem LandA.keep {h h' : MH} {a : Nat} (A : LandA h.2 a) (K : Keep h h') : LandA h'.2 a := K.1.symm ▸ A
theorem SeasonA.keep {h h' : MH} {a : Nat} (A : SeasonA h.2 a) (K : Keep h h') : SeasonA h'.2 a := K.1.symm ▸ A
section M51
variable {rod : Nat → Nat × (Nat → Int32)} {d : Nat} {h : MH} {a l n k : Nat} {S : SSt}
theorem PostC.no {o : Option SSt} (e : o = none) (Q : SimC h S n) : PostC h S n o (some (.inl 0)) h := ⟨Keep.rfl, by rw [e]; rfl, by rw [e]; exact Q⟩
theorem PostC.yes {o : Option SSt} {S' : SSt} {h' : MH} (e : o = some S') (K : Keep h h') (Q : SimC h' S' n) : PostC h S n o (some (.inl 1)) h' := ⟨K, by rw [e]; rfl, by rw [e]; exact Q⟩
theorem c_isShut (Q : SimC h S n) (L : Lay h.2) (x : Int32) : Tc rod (d + 1) 81 [.inr (.inr (.inl (some 65))), .inl x] h (some (.inl (if ¬ ((S.1 2 >>> (x &&& 31)) &&& 1).toInt = 0 then 1 else 0))) h := by
  have q2 := Q.1 2 (by omega)
  apply Wc.tc
  refine n_Walk_isShut ?_
  refine w_Walk_isShut_0 L (fun kc0 => ?_) (fun kc0 => ?_)
  · (try simp only [ite01t, ite01v, Int32.reduceToInt, t_m1, t_m2, t_m1000, Decidable.not_not] at kc0); (try simp only [q2] at kc0)
    refine w_Walk_isShut_15 ?_
    refine w_Walk_isShut_16 (by first | exact Or.inl rfl | exact Or.inr rfl | exact or01 | assumption) ?_
    exact ⟨by first | rw [if_pos kc0] | rw [if_neg (fun z => z kc0)], rfl⟩
  · (try simp only [ite01t, ite01v, Int32.reduceToInt, t_m1, t_m2, t_m1000, Decidable.not_not] at kc0); (try simp only [q2] at kc0)
    refine w_Walk_isShut_11 ?_
    refine w_Walk_isShut_16 (by first | exact Or.inl rfl | exact Or.inr rfl | exact or01 | assumption) ?_
    exact ⟨by first | rw [if_pos kc0] | rw [if_neg (fun z => z kc0)], rfl⟩
theorem c_sell (Q : SimC h S n) (L : Lay h.2) (A : LandA h.2 a) (ha : a + 9 ≤ 45) (hn : (h.1 a 4).toInt = (n : Int)) (n8 : n ≤ 8) (hk : (h.1 a 5).toInt = (k : Int)) (k4 : k ≤ 4) (x y : Int32) : Wc rod (d + 2) 80 [.inr (.inr (.inl (some 65))), .inr (.inr (.inl (some a))), .inl x, .inl y] h (fun r h' => PostC h S n (sellF (ld h a) n k S x y) r h') := by
  have q1 := Q.1 1 (by omega)
  have q2 := Q.1 2 (by omega)
  refine n_Walk_sell ?_
  refine w_Walk_sell_0 A (Tc.wc (s_hasBuyer A _)) (Is.k ?_)
  refine w_Walk_sell_5 (fun kc5 => ?_) (fun kc5 => ?_)
  · ((try simp only [ite01t, ite01v, Int32.reduceToInt, Decidable.not_not] at kc5)); (try simp only [hn, hk] at kc5); (try simp only [q1] at kc5)
    refine w_Walk_sell_40 ?_
    refine PostC.no ?_ Q
    rw [sellF, if_neg]
    rw [sellB, decide_eq_true_eq]
    first | (intro z; omega) | (intro z; have z1 : (h.1 (a + 2) x.toNatClampNeg).toInt = (S.1 1).toInt := z.2.2.1; omega) | (intro z; exact kc37 z.2.2.2.1)
  · ((try simp only [ite01t, ite01v, Int32.reduceToInt, Decidable.not_not] at kc5)); (try simp only [hn, hk] at kc5); (try simp only [q1] at kc5)
    refine w_Walk_sell_8 A (Tc.wc (s_hasLetter A _)) (Is.k ?_)
    refine w_Walk_sell_13 (fun kc13 => ?_) (fun kc13 => ?_)
    · ((try simp only [ite01t, ite01v, Int32.reduceToInt, Decidable.not_not] at kc13)); (try simp only [hn, hk] at kc13); (try simp only [q1] at kc13)
      refine w_Walk_sell_40 ?_
      refine PostC.no ?_ Q
      rw [sellF, if_neg]
      rw [sellB, decide_eq_true_eq]
      first | (intro z; omega) | (intro z; have z1 : (h.1 (a + 2) x.toNatClampNeg).toInt = (S.1 1).toInt := z.2.2.1; omega) | (intro z; exact kc37 z.2.2.2.1)
    · ((try simp only [ite01t, ite01v, Int32.reduceToInt, Decidable.not_not] at kc13)); (try simp only [hn, hk] at kc13); (try simp only [q1] at kc13)
      refine w_Walk_sell_16 A L (by first | assumption | omega | (refine ⟨?_, ?_⟩ <;> first | assumption | omega)) (fun kc16 => ?_) (fun kc16 => ?_)
      · ((try simp only [ite01t, ite01v, Int32.reduceToInt, Decidable.not_not] at kc16)); (try simp only [hn, hk] at kc16); (try simp only [q1] at kc16)
        refine w_Walk_sell_40 ?_
        refine PostC.no ?_ Q
        rw [sellF, if_neg]
        rw [sellB, decide_eq_true_eq]
        first | (intro z; omega) | (intro z; have z1 : (h.1 (a + 2) x.toNatClampNeg).toInt = (S.1 1).toInt := z.2.2.1; omega) | (intro z; exact kc37 z.2.2.2.1)
      · ((try simp only [ite01t, ite01v, Int32.reduceToInt, Decidable.not_not] at kc16)); (try simp only [hn, hk] at kc16); (try simp only [q1] at kc16)
        refine w_Walk_sell_29 L (Tc.wc (c_isShut Q L _)) (Is.k ?_)
        refine w_Walk_sell_37 (fun kc37 => ?_) (fun kc37 => ?_)
        · ((try simp only [ite01t, ite01v, Int32.reduceToInt, Decidable.not_not] at kc37)); (try simp only [hn, hk] at kc37); (try simp only [q1] at kc37)
          have ex := n_of (x := x) (by omega)
          have ey := n_of (x := y) (by omega)
          have lx := n_lt (x := x) (n := n) (by omega) (by omega)
          have Q0 : h.1 66 x.toNatClampNeg = S.2 0 x.toNatClampNeg := Q.2 0 _ (by omega) lx
          have Q1 : h.1 67 x.toNatClampNeg = S.2 1 x.toNatClampNeg := Q.2 1 _ (by omega) lx
          have Q2 : h.1 68 x.toNatClampNeg = S.2 2 x.toNatClampNeg := Q.2 2 _ (by omega) lx
          have Q3 : h.1 69 x.toNatClampNeg = S.2 3 x.toNatClampNeg := Q.2 3 _ (by omega) lx
          refine w_Walk_sell_42 A L (by first | assumption | omega | (refine ⟨?_, ?_⟩ <;> first | assumption | omega)) (by first | assumption | omega | (refine ⟨?_, ?_⟩ <;> first | assumption | omega)) (fun kc42 => ?_) (fun kc42 => ?_)
          · ((try simp only [ite01t, ite01v, Int32.reduceToInt, Decidable.not_not] at kc42)); (try simp only [hn, hk] at kc42); (try simp only [q1] at kc42)
            refine w_Walk_sell_97 ?_
            refine PostC.no ?_ Q
            rw [sellF, if_neg]
            rw [sellB, decide_eq_true_eq]
            intro z
            have z5 := z.2.2.2.2
            rw [wantsF, Bool.and_eq_true, decide_eq_true_eq] at z5
            first | (have z6 : (h.1 (a + 7) y.toNatClampNeg).toInt ≤ (S.2 1 x.toNatClampNeg).toInt := z5.1; rw [← Q1] at z6; omega) | (rw [Q0, Q2] at kc94; exact kc94 z5.2)
          · ((try simp only [ite01t, ite01v, Int32.reduceToInt, Decidable.not_not] at kc42)); (try simp only [hn, hk] at kc42); (try simp only [q1] at kc42)
            refine w_Walk_sell_69 A L (by first | assumption | omega | (refine ⟨?_, ?_⟩ <;> first | assumption | omega)) (Tc.wc (s_worth _ _ _ _ _ _)) (Is.k ?_)
            refine w_Walk_sell_94 (fun kc94 => ?_) (fun kc94 => ?_)
            · ((try simp only [ite01t, ite01v, Int32.reduceToInt, Decidable.not_not] at kc94)); (try simp only [hn, hk] at kc94); (try simp only [q1] at kc94)
              have ok : sellB (ld h a) n k S x y = true := by
                rw [sellB, decide_eq_true_eq]
                refine ⟨by omega, by omega, ?_, ?_, ?_⟩
                · show (h.1 (a + 2) x.toNatClampNeg).toInt = _; omega
                · exact kc37
                · rw [wantsF, Bool.and_eq_true, decide_eq_true_eq]; refine ⟨?_, ?_⟩; · show (h.1 (a + 7) y.toNatClampNeg).toInt ≤ _; rw [← Q1]; omega
                  · rw [Q0, Q2] at kc94; exact kc94
              rw [sellF, if_pos ok]
              refine w_Walk_sell_99 L (by first | assumption | omega | (refine ⟨?_, ?_⟩ <;> first | assumption | omega)) ?_
              refine w_Walk_sell_110 L (by first | assumption | omega | (refine ⟨?_, ?_⟩ <;> first | assumption | omega)) ?_
              refine w_Walk_sell_121 A (by first | assumption | omega | (refine ⟨?_, ?_⟩ <;> first | assumption | omega)) (fun kc121 => ?_) (fun kc121 => ?_)
              · ((try simp only [ite01t, ite01v, Int32.reduceToInt, Decidable.not_not] at kc121)); (try simp only [hn, hk] at kc121); (try simp only [q1] at kc121)
                simp (disch := omega) only [sI_nc] at kc121
                refine w_Walk_sell_147 L (by first | assumption | omega | (refine ⟨?_, ?_⟩ <;> first | assumption | omega)) ?_
                refine w_Walk_sell_158 L ?_
                refine w_Walk_sell_168 A L rfl ?_
                refine w_Walk_sell_203 L ?_
                refine w_Walk_sell_214 L ?_
                refine w_Walk_sell_231 ?_
                refine PostC.yes rfl (by repeat (first | exact Keep.rfl | refine Keep.si ?_ (scrI _ (by omega)))) ⟨fun i hi => ?_, fun c b hc hb => ?_⟩
                · rcases (show i = 0 ∨ i = 1 ∨ i = 2 ∨ i = 3 ∨ i = 4 ∨ i = 5 ∨ i = 6 by omega) with rfl | rfl | rfl | rfl | rfl | rfl | rfl
                  · simp (disch := omega) only [sI_same, sI_nc, sI_nj]; exact Q.1 0 (by omega)
                  · simp (disch := omega) only [sI_same, sI_nc, sI_nj]; exact Q.1 1 (by omega)
                  · simp (disch := omega) only [sI_same, sI_nc, sI_nj]; exact Q.1 2 (by omega)
                  · simp (disch := omega) only [sI_same, sI_nc, sI_nj]; rw [Q.1 3 (by omega)]; rfl
                  · simp (disch := omega) only [sI_same, sI_nc, sI_nj]; rw [Q.1 4 (by omega)]; rfl
                  · simp (disch := omega) only [sI_same, sI_nc, sI_nj]; rw [Q.1 5 (by omega)]; rfl
                  · simp (disch := omega) only [sI_same, sI_nc, sI_nj]; rw [Q.1 6 (by omega)]; rfl
                · by_cases hb2 : b = x.toNatClampNeg
                  · rw [hb2]
                    rcases (show c = 0 ∨ c = 1 ∨ c = 2 ∨ c = 3 by omega) with rfl | rfl | rfl | rfl
                    · simp (disch := omega) only [sI_same, sI_nc, sI_nj]; rw [sellS_0, Q0]; first | (rw [if_pos (show (ld h a 1 x.toNatClampNeg).toInt = 1 from kc121)]; rfl) | (rw [if_neg (show ¬ (ld h a 1 x.toNatClampNeg).toInt = 1 from kc121)]; rfl)
                    · simp (disch := omega) only [sI_same, sI_nc, sI_nj]; rw [sellS_1, Q1]; rfl
                    · simp (disch := omega) only [sI_same, sI_nc, sI_nj]; rw [sellS_2, Q2]
                    · simp (disch := omega) only [sI_same, sI_nc, sI_nj]; rw [sellS_3, Q3]; rfl
                  · rw [sellS_n hb2]
                    rcases (show c = 0 ∨ c = 1 ∨ c = 2 ∨ c = 3 by omega) with rfl | rfl | rfl | rfl
                    · simp (disch := omega) only [sI_same, sI_nc, sI_nj]; exact Q.2 0 b (by omega) hb
                    · simp (disch := omega) only [sI_same, sI_nc, sI_nj]; exact Q.2 1 b (by omega) hb
                    · simp (disch := omega) only [sI_same, sI_nc, sI_nj]; exact Q.2 2 b (by omega) hb
                    · simp (disch := omega) only [sI_same, sI_nc, sI_nj]; exact Q.2 3 b (by omega) hb
              · ((try simp only [ite01t, ite01v, Int32.reduceToInt, Decidable.not_not] at kc121)); (try simp only [hn, hk] at kc121); (try simp only [q1] at kc121)
                simp (disch := omega) only [sI_nc] at kc121
                refine w_Walk_sell_131 L (by first | assumption | omega | (refine ⟨?_, ?_⟩ <;> first | assumption | omega)) ?_
                refine w_Walk_sell_147 L (by first | assumption | omega | (refine ⟨?_, ?_⟩ <;> first | assumption | omega)) ?_
                refine w_Walk_sell_158 L ?_
                refine w_Walk_sell_168 A L rfl ?_
                refine w_Walk_sell_203 L ?_
                refine w_Walk_sell_214 L ?_
                refine w_Walk_sell_231 ?_
                refine PostC.yes rfl (by repeat (first | exact Keep.rfl | refine Keep.si ?_ (scrI _ (by omega)))) ⟨fun i hi => ?_, fun c b hc hb => ?_⟩
                · rcases (show i = 0 ∨ i = 1 ∨ i = 2 ∨ i = 3 ∨ i = 4 ∨ i = 5 ∨ i = 6 by omega) with rfl | rfl | rfl | rfl | rfl | rfl | rfl
                  · simp (disch := omega) only [sI_same, sI_nc, sI_nj]; exact Q.1 0 (by omega)
                  · simp (disch := omega) only [sI_same, sI_nc, sI_nj]; exact Q.1 1 (by omega)
                  · simp (disch := omega) only [sI_same, sI_nc, sI_nj]; exact Q.1 2 (by omega)
                  · simp (disch := omega) only [sI_same, sI_nc, sI_nj]; rw [Q.1 3 (by omega)]; rfl
                  · simp (disch := omega) only [sI_same, sI_nc, sI_nj]; rw [Q.1 4 (by omega)]; rfl
                  · simp (disch := omega) only [sI_same, sI_nc, sI_nj]; rw [Q.1 5 (by omega)]; rfl
                  · simp (disch := omega) only [sI_same, sI_nc, sI_nj]; rw [Q.1 6 (by omega)]; rfl
                · by_cases hb2 : b = x.toNatClampNeg
                  · rw [hb2]
                    rcases (show c = 0 ∨ c = 1 ∨ c = 2 ∨ c = 3 by omega) with rfl | rfl | rfl | rfl
                    · simp (disch := omega) only [sI_same, sI_nc, sI_nj]; rw [sellS_0, Q0]; first | (rw [if_pos (show (ld h a 1 x.toNatClampNeg).toInt = 1 from kc121)]; rfl) | (rw [if_neg (show ¬ (ld h a 1 x.toNatClampNeg).toInt = 1 from kc121)]; rfl)
                    · simp (disch := omega) only [sI_same, sI_nc, sI_nj]; rw [sellS_1, Q1]; rfl
                    · simp (disch := omega) only [sI_same, sI_nc, sI_nj]; rw [sellS_2, Q2]
                    · simp (disch := omega) only [sI_same, sI_nc, sI_nj]; rw [sellS_3, Q3]; rfl
                  · rw [sellS_n hb2]
                    rcases (show c = 0 ∨ c = 1 ∨ c = 2 ∨ c = 3 by omega) with rfl | rfl | rfl | rfl
                    · simp (disch := omega) only [sI_same, sI_nc, sI_nj]; exact Q.2 0 b (by omega) hb
                    · simp (disch := omega) only [sI_same, sI_nc, sI_nj]; exact Q.2 1 b (by omega) hb
                    · simp (disch := omega) only [sI_same, sI_nc, sI_nj]; exact Q.2 2 b (by omega) hb
                    · simp (disch := omega) only [sI_same, sI_nc, sI_nj]; exact Q.2 3 b (by omega) hb
            · ((try simp only [ite01t, ite01v, Int32.reduceToInt, Decidable.not_not] at kc94)); (try simp only [hn, hk] at kc94); (try simp only [q1] at kc94)
              refine w_Walk_sell_97 ?_
              refine PostC.no ?_ Q
              rw [sellF, if_neg]
              rw [sellB, decide_eq_true_eq]
              intro z
              have z5 := z.2.2.2.2
              rw [wantsF, Bool.and_eq_true, decide_eq_true_eq] at z5
              first | (have z6 : (h.1 (a + 7) y.toNatClampNeg).toInt ≤ (S.2 1 x.toNatClampNeg).toInt := z5.1; rw [← Q1] at z6; omega) | (rw [Q0, Q2] at kc94; exact kc94 z5.2)
        · ((try simp only [ite01t, ite01v, Int32.reduceToInt, Decidable.not_not] at kc37)); (try simp only [hn, hk] at kc37); (try simp only [q1] at kc37)
          refine w_Walk_sell_40 ?_
          refine PostC.no ?_ Q
          rw [sellF, if_neg]
          rw [sellB, decide_eq_true_eq]
          first | (intro z; omega) | (intro z; have z1 : (h.1 (a + 2) x.toNatClampNeg).toInt = (S.1 1).toInt := z.2.2.1; omega) | (intro z; exact kc37 z.2.2.2.1)
theorem c_sin (Q : SimC h S n) (L : Lay h.2) (A : LandA h.2 a) (ha : a + 9 ≤ 45) (hn : (h.1 a 4).toInt = (n : Int)) (n8 : n ≤ 8) (x y : Int32) : Wc rod (d + 2) 83 [.inr (.inr (.inl (some 65))), .inr (.inr (.inl (some a))), .inl x, .inl y] h (fun r h' => PostC h S n (sinF n S x y) r h') := by
  refine n_Walk_sin ?_
  refine w_Walk_sin_0 A (Tc.wc (s_hasBuyer A _)) (Is.k ?_)
  refine w_Walk_sin_5 (fun kc5 => ?_) (fun kc5 => ?_)
  · (try simp only [ite01t, ite01v, Int32.reduceToInt, t_m1, t_m2, t_m1000, Decidable.not_not] at kc5); (try simp only [hn] at kc5)
    have lx := n_lt (x := x) (n := n) (by omega) (by omega)
    refine w_Walk_sin_10 L (by first | assumption | omega | (refine ⟨?_, ?_⟩ <;> first | assumption | omega)) ?_
    refine w_Walk_sin_29 ?_
    rw [sinF, if_pos (by omega)]
    refine PostC.yes rfl (by repeat (first | exact Keep.rfl | refine Keep.si ?_ (scrI _ (by omega)))) ⟨fun i hi => ?_, fun c b hc hb => ?_⟩
    · rw [sI_nc (by omega)]; exact Q.1 i hi
    · by_cases e : c = 0 ∧ b = x.toNatClampNeg
      · rw [e.1, e.2]; show (sI h 66 _ _).1 66 _ = _; rw [sI_same, Q.2 0 _ (by omega) lx]; show _ = if _ then _ else _; rw [if_pos (c := 0 = 0 ∧ x.toNatClampNeg = x.toNatClampNeg) ⟨rfl, rfl⟩]; rfl
      · show _ = if _ then _ else _; rw [if_neg e, sI_ne (fun q => e ⟨by omega, q.2⟩)]; exact Q.2 c b hc hb
  · (try simp only [ite01t, ite01v, Int32.reduceToInt, t_m1, t_m2, t_m1000, Decidable.not_not] at kc5); (try simp only [hn] at kc5)
    refine w_Walk_sin_8 ?_
    exact PostC.no (by rw [sinF, if_neg (by omega)]) Q
theorem c_go (Q : SimC h S n) (L : Lay h.2) (A : LandA h.2 a) (ha : a + 9 ≤ 45) (hT : (h.1 a 0).toInt ≤ 6) (tw : 0 ≤ (S.1 1).toInt ∧ (S.1 1).toInt < (h.1 a 0).toInt) (x : Int32) : Wc rod (d + 3) 84 [.inr (.inr (.inl (some 65))), .inr (.inr (.inl (some a))), .inl x] h (fun r h' => PostC h S n (goF (ld h a) S x) r h') := by
  have q0 := Q.1 0 (by omega)
  have q1 := Q.1 1 (by omega)
  have q2 := Q.1 2 (by omega)
  have key : (0 ≤ x.toInt ∧ x.toInt < (h.1 a 0).toInt) → h.1 (a + 8) (S.1 1 * 6 + x).toNatClampNeg = ld h a 8 (6 * (S.1 1).toNatClampNeg + x.toNatClampNeg) := by
    intro c
    have l1 := n_lt (x := S.1 1) (n := 6) (by omega) (by omega)
    have l2 := n_lt (x := x) (n := 6) (by omega) (by omega)
    have e := n_add (n_mul (n_of (x := S.1 1) (by omega)) (show (6 : Int32).toInt = ((6 : Nat) : Int) from rfl) (by omega)) (n_of (x := x) (by omega)) (by omega)
    rw [n_eq e, Nat.mul_comm]
    rfl
  refine n_Walk_go ?_
  refine w_Walk_go_0 L A (Tc.wc (s_road A hT _ _)) (Is.k ?_)
  rw [q1]
  refine w_Walk_go_9 rfl (fun kc9 => ?_) (fun kc9 => ?_)
  · (try simp only [ite01t, ite01v, Int32.reduceToInt, t_m1, t_m2, t_m1000, Decidable.not_not] at kc9); (try simp only [q1] at kc9); (try simp only [q0] at kc9)
    refine w_Walk_go_33 ?_
    refine PostC.no ?_ Q
    rw [goF, if_neg]
    rw [goOk, decide_eq_true_eq]
    first | (intro z; rw [if_pos ⟨tw, z.1⟩, key z.1] at kc9; exact z.2.1 kc9) | (intro z; exact kc19 z.2.2.1) | (intro z; exact kc22 z.2.2.2)
  · (try simp only [ite01t, ite01v, Int32.reduceToInt, t_m1, t_m2, t_m1000, Decidable.not_not] at kc9); (try simp only [q1] at kc9); (try simp only [q0] at kc9)
    have inx : 0 ≤ x.toInt ∧ x.toInt < (h.1 a 0).toInt := Classical.byContradiction fun z => by rw [if_neg (fun y => z y.2)] at kc9; exact kc9 rfl
    rw [if_pos ⟨tw, inx⟩, key inx] at kc9 ⊢
    refine w_Walk_go_14 L (Tc.wc (c_isShut Q L _)) (Is.k ?_)
    refine w_Walk_go_19 (fun kc19 => ?_) (fun kc19 => ?_)
    · (try simp only [ite01t, ite01v, Int32.reduceToInt, t_m1, t_m2, t_m1000, Decidable.not_not] at kc19); (try simp only [q1] at kc19); (try simp only [q0] at kc19)
      refine w_Walk_go_33 ?_
      refine PostC.no ?_ Q
      rw [goF, if_neg]
      rw [goOk, decide_eq_true_eq]
      first | (intro z; rw [if_pos ⟨tw, z.1⟩, key z.1] at kc9; exact z.2.1 kc9) | (intro z; exact kc19 z.2.2.1) | (intro z; exact kc22 z.2.2.2)
    · (try simp only [ite01t, ite01v, Int32.reduceToInt, t_m1, t_m2, t_m1000, Decidable.not_not] at kc19); (try simp only [q1] at kc19); (try simp only [q0] at kc19)
      refine w_Walk_go_22 L (fun kc22 => ?_) (fun kc22 => ?_)
      · (try simp only [ite01t, ite01v, Int32.reduceToInt, t_m1, t_m2, t_m1000, Decidable.not_not] at kc22); (try simp only [q1] at kc22); (try simp only [q0] at kc22)
        refine w_Walk_go_35 L ?_
        refine w_Walk_go_45 L ?_
        refine w_Walk_go_50 ?_
        have ok : goOk (ld h a) S x = true := by
          rw [goOk, decide_eq_true_eq]
          exact ⟨inx, kc9, kc19, kc22⟩
        rw [goF, if_pos ok]
        refine PostC.yes rfl (by repeat (first | exact Keep.rfl | refine Keep.si ?_ (scrI _ (by omega)))) ⟨fun i hi => ?_, fun c b hc hb => ?_⟩
        · rcases (show i = 0 ∨ i = 1 ∨ i = 2 ∨ i = 3 ∨ i = 4 ∨ i = 5 ∨ i = 6 by omega) with rfl | rfl | rfl | rfl | rfl | rfl | rfl
          · simp (disch := omega) only [sI_same, sI_nc, sI_nj]; rw [q0]; rfl
          · simp (disch := omega) only [sI_same, sI_nc, sI_nj]; rfl
          · simp (disch := omega) only [sI_same, sI_nc, sI_nj]; exact Q.1 2 (by omega)
          · simp (disch := omega) only [sI_same, sI_nc, sI_nj]; exact Q.1 3 (by omega)
          · simp (disch := omega) only [sI_same, sI_nc, sI_nj]; exact Q.1 4 (by omega)
          · simp (disch := omega) only [sI_same, sI_nc, sI_nj]; exact Q.1 5 (by omega)
          · simp (disch := omega) only [sI_same, sI_nc, sI_nj]; exact Q.1 6 (by omega)
        · rw [sI_nc (by omega), sI_nc (by omega)]; exact Q.2 c b hc hb
      · (try simp only [ite01t, ite01v, Int32.reduceToInt, t_m1, t_m2, t_m1000, Decidable.not_not] at kc22); (try simp only [q1] at kc22); (try simp only [q0] at kc22)
        refine w_Walk_go_33 ?_
        refine PostC.no ?_ Q
        rw [goF, if_neg]
        rw [goOk, decide_eq_true_eq]
        first | (intro z; rw [if_pos ⟨tw, z.1⟩, key z.1] at kc9; exact z.2.1 kc9) | (intro z; exact kc19 z.2.2.1) | (intro z; exact kc22 z.2.2.2)
theorem c_turn (Q : SimC h S n) (L : Lay h.2) (A : LandA h.2 a) (x q : Int32) (hq : q.toInt = 0 ∨ q.toInt = 1) : Wc rod (d + 2) 85 [.inr (.inr (.inl (some 65))), .inr (.inr (.inl (some a))), .inl x, .inl q] h (fun r h' => PostC h S n (turnF (ld h a) S x q) r h') := by
  have q2 := Q.1 2 (by omega)
  have l0 : (ld h a 0 0).toInt = (h.1 a 0).toInt := rfl
  refine n_Walk_turn ?_
  refine w_Walk_turn_0 A (Tc.wc (s_hasTown A _)) (Is.k ?_)
  refine w_Walk_turn_5 (fun kc5 => ?_) (fun kc5 => ?_)
  · (try simp only [ite01t, Int32.reduceToInt, Decidable.not_not] at kc5)
    refine w_Walk_turn_17 ?_
    refine PostC.no ?_ Q
    rw [turnF, if_neg]
    first | (intro z; exact kc5 (by rw [l0] at z; exact z.1)) | (intro z; exact kc13 (sp.mpr z.2))
  · (try simp only [ite01t, Int32.reduceToInt, Decidable.not_not] at kc5)
    refine w_Walk_turn_8 L (Tc.wc (c_isShut Q L _)) (Is.k ?_)
    have sp : ((if ¬ ((S.1 2 >>> (x &&& 31)) &&& 1).toInt = 0 then (1 : Int32) else 0).toInt = q.toInt) ↔ ((((S.1 2 >>> (x &&& 31)) &&& 1).toInt = 0) ↔ q.toInt = 0) := by
      by_cases z : ((S.1 2 >>> (x &&& 31)) &&& 1).toInt = 0
      · rw [if_neg (fun y => y z)]; show ((0 : Int) = _) ↔ _; constructor
        · intro y; exact ⟨fun _ => y.symm, fun _ => z⟩
        · intro y; exact (y.mp z).symm
      · rw [if_pos z]; show ((1 : Int) = _) ↔ _; constructor
        · intro y; exact ⟨fun w => absurd w z, fun w => by omega⟩
        · intro y; rcases hq with w | w
          · exact absurd (y.mpr w) z
          · exact w.symm
    refine w_Walk_turn_13 (fun kc13 => ?_) (fun kc13 => ?_)
    · (try simp only [ite01t, Int32.reduceToInt, Decidable.not_not] at kc13)
      refine w_Walk_turn_19 L ?_
      refine w_Walk_turn_31 ?_
      rw [turnF, if_pos ⟨by rw [l0]; exact kc5, sp.mp kc13⟩]
      refine PostC.yes rfl (by repeat (first | exact Keep.rfl | refine Keep.si ?_ (scrI _ (by omega)))) ⟨fun i hi => ?_, fun c b hc hb => ?_⟩
      · rcases (show i = 0 ∨ i = 1 ∨ i = 2 ∨ i = 3 ∨ i = 4 ∨ i = 5 ∨ i = 6 by omega) with rfl | rfl | rfl | rfl | rfl | rfl | rfl
        · simp (disch := omega) only [sI_same, sI_nc, sI_nj]; exact Q.1 0 (by omega)
        · simp (disch := omega) only [sI_same, sI_nc, sI_nj]; exact Q.1 1 (by omega)
        · simp (disch := omega) only [sI_same, sI_nc, sI_nj]; rw [q2]; rfl
        · simp (disch := omega) only [sI_same, sI_nc, sI_nj]; exact Q.1 3 (by omega)
        · simp (disch := omega) only [sI_same, sI_nc, sI_nj]; exact Q.1 4 (by omega)
        · simp (disch := omega) only [sI_same, sI_nc, sI_nj]; exact Q.1 5 (by omega)
        · simp (disch := omega) only [sI_same, sI_nc, sI_nj]; exact Q.1 6 (by omega)
      · rw [sI_nc (by omega)]; exact Q.2 c b hc hb
    · (try simp only [ite01t, Int32.reduceToInt, Decidable.not_not] at kc13)
      refine w_Walk_turn_17 ?_
      refine PostC.no ?_ Q
      rw [turnF, if_neg]
      first | (intro z; exact kc5 (by rw [l0] at z; exact z.1)) | (intro z; exact kc13 (sp.mpr z.2))
theorem c_doubt_0 : doubtS 0 S = S := by
  unfold doubtS
  refine Prod.ext rfl ?_
  funext c b
  simp
theorem c_doubt (Q : SimC h S n) (L : Lay h.2) (A : LandA h.2 a) (ha : a + 9 ≤ 45) (hn : (h.1 a 4).toInt = (n : Int)) (n8 : n ≤ 8) : Wc rod (d + 1) 86 [.inr (.inr (.inl (some 65))), .inr (.inr (.inl (some a)))] h (fun r h' => Keep h h' ∧ r = some (.inl 1) ∧ SimC h' (doubtS n S) n) := by
  refine n_Walk_doubt ?_
  refine w_Walk_doubt_0 rfl ?_
  refine Wb.uph n (fun j L' h' => ∃ (z : Int32), L' = [some (.inr (.inr (.inl (some 65)))), some (.inr (.inr (.inl (some a)))), some (.inl z)] ∧ z.toInt = (j : Int) ∧ Keep h h' ∧ SimC h' (doubtS j S) n) ?_ (Nat.zero_le _) ⟨0, rfl, rfl, Keep.rfl, by rw [c_doubt_0]; exact Q⟩
  rintro j _ g hj ⟨z, rfl, hz, K, Qj⟩ ih
  have Lg := L.keep K
  have Ag := A.keep K
  have eg : (g.1 a 4).toInt = (n : Int) := by rw [K.c a (by omega)]; exact hn
  have ez := n_eq hz
  refine w_Walk_doubt_2 Ag (fun kc2 => ?_) (fun kc2 => ?_)
  · (try simp only [ite01t, ite01v, Int32.reduceToInt, t_m1, t_m2, t_m1000, Decidable.not_not] at kc2); (try simp only [eg] at kc2)
    refine w_Walk_doubt_34 ?_
    exact ⟨K, rfl, by rw [show n = j by omega] at Qj ⊢; exact Qj⟩
  · (try simp only [ite01t, ite01v, Int32.reduceToInt, t_m1, t_m2, t_m1000, Decidable.not_not] at kc2); (try simp only [eg] at kc2)
    refine w_Walk_doubt_10 Lg (by first | assumption | omega | (refine ⟨?_, ?_⟩ <;> first | assumption | omega)) ?_
    refine w_Walk_doubt_28 rfl ?_
    rw [ez]
    refine ih (by omega) _ _ ⟨_, rfl, t_succ hz (by omega), K.si (scrI 68 (by omega)), fun i hi => ?_, fun c b hc hb => ?_⟩
    · rw [sI_nc (by omega)]; exact Qj.1 i hi
    · have qf : g.1 68 j = S.2 2 j := by
        have := Qj.2 2 j (by omega) (by omega)
        rw [this]
        show (if _ then _ else _) = _
        rw [if_neg (by omega)]
      by_cases e : c = 2 ∧ b = j
      · rw [e.1, e.2]; show (sI g 68 _ _).1 68 _ = if _ then _ else _; rw [sI_same, if_pos (c := 2 = 2 ∧ j < j + 1) (by omega), qf]; rfl
      · rw [sI_ne (fun q => e ⟨by omega, q.2⟩), Qj.2 c b hc hb]; show (if _ then _ else _) = if _ then _ else _
        by_cases e2 : c = 2 ∧ b < j
        · rw [if_pos e2, if_pos (by omega)]
        · rw [if_neg e2, if_neg (by omega)]
theorem c_jub_0 : jubS 0 S = S := by
  unfold jubS
  refine Prod.ext rfl ?_
  funext c b
  simp
theorem c_jub (Q : SimC h S n) (L : Lay h.2) (A : LandA h.2 a) (ha : a + 9 ≤ 45) (hn : (h.1 a 4).toInt = (n : Int)) (n8 : n ≤ 8) : Wc rod (d + 1) 87 [.inr (.inr (.inl (some 65))), .inr (.inr (.inl (some a)))] h (fun r h' => Keep h h' ∧ r = some (.inl 1) ∧ SimC h' (jubS n S) n) := by
  refine n_Walk_jubilee ?_
  refine w_Walk_jubilee_0 rfl ?_
  refine Wb.uph n (fun j L' h' => ∃ (z : Int32), L' = [some (.inr (.inr (.inl (some 65)))), some (.inr (.inr (.inl (some a)))), some (.inl z)] ∧ z.toInt = (j : Int) ∧ Keep h h' ∧ SimC h' (jubS j S) n) ?_ (Nat.zero_le _) ⟨0, rfl, rfl, Keep.rfl, by rw [c_jub_0]; exact Q⟩
  rintro j _ g hj ⟨z, rfl, hz, K, Qj⟩ ih
  have Lg := L.keep K
  have Ag := A.keep K
  have eg : (g.1 a 4).toInt = (n : Int) := by rw [K.c a (by omega)]; exact hn
  have ez := n_eq hz
  refine w_Walk_jubilee_2 Ag (fun kc2 => ?_) (fun kc2 => ?_)
  · (try simp only [ite01t, ite01v, Int32.reduceToInt, t_m1, t_m2, t_m1000, Decidable.not_not] at kc2); (try simp only [eg] at kc2); (try simp only [ez] at kc2)
    refine w_Walk_jubilee_74 ?_
    exact ⟨K, rfl, by rw [show n = j by omega] at Qj ⊢; exact Qj⟩
  · (try simp only [ite01t, ite01v, Int32.reduceToInt, t_m1, t_m2, t_m1000, Decidable.not_not] at kc2); (try simp only [eg] at kc2); (try simp only [ez] at kc2)
    have q3 : g.1 69 j = S.2 3 j := (Qj.2 3 j (by omega) (by omega)).trans (jubS_out (by omega))
    have q0 : g.1 66 j = S.2 0 j := (Qj.2 0 j (by omega) (by omega)).trans (jubS_out (by omega))
    have q1 : g.1 67 j = S.2 1 j := (Qj.2 1 j (by omega) (by omega)).trans (jubS_out (by omega))
    have q2 : g.1 68 j = S.2 2 j := (Qj.2 2 j (by omega) (by omega)).trans (jubS_out (by omega))
    try rw [ez]
    refine w_Walk_jubilee_10 Lg (by first | assumption | omega | (refine ⟨?_, ?_⟩ <;> first | assumption | omega)) (fun kc10 => ?_) (fun kc10 => ?_)
    · (try simp only [ite01t, ite01v, Int32.reduceToInt, t_m1, t_m2, t_m1000, Decidable.not_not] at kc10); (try simp only [eg] at kc10); (try simp only [ez] at kc10)
      refine w_Walk_jubilee_68 rfl ?_
      refine ih (by omega) _ _ ⟨_, rfl, t_succ hz (by omega), K, fun i hi => Qj.1 i hi, fun c b hc hb => ?_⟩
      rw [Qj.2 c b hc hb]
      have nj : ¬ (b = j ∧ 0 < (S.2 3 b).toInt) := fun z => by rw [z.1, ← q3] at z; omega
      by_cases e2 : b < j ∧ 0 < (S.2 3 b).toInt
      · rw [jubS_in e2, jubS_in (by omega)]
      · rw [jubS_out e2, jubS_out (by omega)]
    · (try simp only [ite01t, ite01v, Int32.reduceToInt, t_m1, t_m2, t_m1000, Decidable.not_not] at kc10); (try simp only [eg] at kc10); (try simp only [ez] at kc10)
      try rw [ez]
      refine w_Walk_jubilee_19 Lg (by first | assumption | omega | (refine ⟨?_, ?_⟩ <;> first | assumption | omega)) ?_
      refine w_Walk_jubilee_43 Lg (by first | assumption | omega | (refine ⟨?_, ?_⟩ <;> first | assumption | omega)) ?_
      refine w_Walk_jubilee_50 Lg (by first | assumption | omega | (refine ⟨?_, ?_⟩ <;> first | assumption | omega)) ?_
      refine w_Walk_jubilee_68 rfl ?_
      try simp only [ez]
      refine ih (by omega) _ _ ⟨_, rfl, t_succ hz (by omega), (by repeat (first | exact K | refine Keep.si ?_ (scrI _ (by omega)))), fun i hi => ?_, fun c b hc hb => ?_⟩
      · rw [sI_nc (by omega), sI_nc (by omega), sI_nc (by omega)]; exact Qj.1 i hi
      · by_cases e : b = j
        · rw [e, jubS_in (by rw [← q3]; omega)]
          rcases (show c = 0 ∨ c = 1 ∨ c = 2 ∨ c = 3 by omega) with rfl | rfl | rfl | rfl
          · simp (disch := omega) only [sI_same, sI_nc, sI_nj]; rw [q0, q3]; rfl
          · simp (disch := omega) only [sI_same, sI_nc, sI_nj]; rw [q1]; rfl
          · simp (disch := omega) only [sI_same, sI_nc, sI_nj]; rw [q2]; rfl
          · simp (disch := omega) only [sI_same, sI_nc, sI_nj]; rfl
        · have z : _ = _ := Qj.2 c b hc hb
          have w : ∀ (v0 v2 v3 : Int32), (sI (sI (sI g 66 j v0) 69 j v3) 68 j v2).1 (66 + c) b = g.1 (66 + c) b := fun v0 v2 v3 => by rw [sI_ne (fun q => e q.2), sI_ne (fun q => e q.2), sI_ne (fun q => e q.2)]
          rw [w, z]
          by_cases e2 : b < j ∧ 0 < (S.2 3 b).toInt
          · rw [jubS_in e2, jubS_in (by omega)]
          · rw [jubS_out e2, jubS_out (by omega)]
theorem c_act (Q : SimC h S n) (L : Lay h.2) (A : LandA h.2 a) (ha : a + 9 ≤ 45) (hn : (h.1 a 4).toInt = (n : Int)) (n8 : n ≤ 8) (hk : (h.1 a 5).toInt = (k : Int)) (k4 : k ≤ 4) (hT : (h.1 a 0).toInt ≤ 6) (tw : 0 ≤ (S.1 1).toInt ∧ (S.1 1).toInt < (h.1 a 0).toInt) (w x y : Int32) : Wc rod (d + 4) 79 [.inr (.inr (.inl (some 65))), .inr (.inr (.inl (some a))), .inl w, .inl x, .inl y] h (fun r h' => PostC h S n (actF (ld h a) n k w x y S) r h') := by
  refine n_Walk_act ?_
  refine w_Walk_act_0 (fun kc0 => ?_) (fun kc0 => ?_) (fun kc0 => ?_) (fun kc0 => ?_) (fun kc0 => ?_) (fun kc0 => ?_) (fun kc0 => ?_) (fun kc0_0 kc0_1 kc0_2 kc0_3 kc0_4 kc0_5 kc0_6 => ?_)
  · refine w_Walk_act_44 L (c_sell Q L A ha hn n8 hk k4 x y) ?_
    rintro _ h44 ⟨k44, rfl, Q44⟩
    refine w_Walk_act_52 (by first | exact Or.inl rfl | exact Or.inr rfl | exact or01 | assumption) ?_
    have ea : actF (ld h a) n k w x y S = sellF (ld h a) n k S x y := by rw [actF, if_pos kc0]
    exact ⟨k44, by rw [ea], by rw [ea]; exact Q44⟩
  · refine w_Walk_act_53 L (c_sin Q L A ha hn n8 x y) ?_
    rintro _ h53 ⟨k53, rfl, Q53⟩
    refine w_Walk_act_61 (by first | exact Or.inl rfl | exact Or.inr rfl | exact or01 | assumption) ?_
    have ea : actF (ld h a) n k w x y S = sinF n S x y := by rw [actF, if_neg (by omega), if_pos kc0]
    exact ⟨k53, by rw [ea], by rw [ea]; exact Q53⟩
  · refine w_Walk_act_62 L (c_go Q L A ha hT tw x) ?_
    rintro _ h62 ⟨k62, rfl, Q62⟩
    refine w_Walk_act_68 (by first | exact Or.inl rfl | exact Or.inr rfl | exact or01 | assumption) ?_
    have ea : actF (ld h a) n k w x y S = goF (ld h a) S x := by rw [actF, if_neg (by omega), if_neg (by omega), if_pos kc0]
    exact ⟨k62, by rw [ea], by rw [ea]; exact Q62⟩
  · refine w_Walk_act_69 L (c_turn Q L A x 0 (Or.inl rfl)) ?_
    rintro _ h69 ⟨k69, rfl, Q69⟩
    refine w_Walk_act_76 (by first | exact Or.inl rfl | exact Or.inr rfl | exact or01 | assumption) ?_
    have ea : actF (ld h a) n k w x y S = turnF (ld h a) S x 0 := by rw [actF, if_neg (by omega), if_neg (by omega), if_neg (by omega), if_pos kc0]
    exact ⟨k69, by rw [ea], by rw [ea]; exact Q69⟩
  · refine w_Walk_act_77 L (c_turn Q L A x 1 (Or.inr rfl)) ?_
    rintro _ h77 ⟨k77, rfl, Q77⟩
    refine w_Walk_act_84 (by first | exact Or.inl rfl | exact Or.inr rfl | exact or01 | assumption) ?_
    have ea : actF (ld h a) n k w x y S = turnF (ld h a) S x 1 := by rw [actF, if_neg (by omega), if_neg (by omega), if_neg (by omega), if_neg (by omega), if_pos kc0]
    exact ⟨k77, by rw [ea], by rw [ea]; exact Q77⟩
  · refine w_Walk_act_85 L (c_doubt Q L A ha hn n8) ?_
    rintro _ h85 ⟨k85, rfl, Q85⟩
    refine w_Walk_act_90 (by first | exact Or.inl rfl | exact Or.inr rfl | exact or01 | assumption) ?_
    have ea : actF (ld h a) n k w x y S = some (doubtS n S) := by rw [actF, if_neg (by omega), if_neg (by omega), if_neg (by omega), if_neg (by omega), if_neg (by omega), if_pos kc0]
    exact ⟨k85, by rw [ea]; rfl, by rw [ea]; exact Q85⟩
  · refine w_Walk_act_91 L (c_jub Q L A ha hn n8) ?_
    rintro _ h91 ⟨k91, rfl, Q91⟩
    refine w_Walk_act_96 (by first | exact Or.inl rfl | exact Or.inr rfl | exact or01 | assumption) ?_
    have ea : actF (ld h a) n k w x y S = some (jubS n S) := by rw [actF, if_neg (by omega), if_neg (by omega), if_neg (by omega), if_neg (by omega), if_neg (by omega), if_neg (by omega), if_pos kc0]
    exact ⟨k91, by rw [ea]; rfl, by rw [ea]; exact Q91⟩
  · refine w_Walk_act_97 ?_
    exact PostC.no (by rw [actF, if_neg (by omega), if_neg (by omega), if_neg (by omega), if_neg (by omega), if_neg (by omega), if_neg (by omega), if_neg (by omega)]) Q
end M51
