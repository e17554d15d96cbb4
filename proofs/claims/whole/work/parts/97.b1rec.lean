/-! THE READER: what the class tells -/
section M97b
variable {rod : Nat → Nat × (Nat → Int32)} {d : Nat} {h g g1 g2 : MH} {T : Nat → Int} {len : Nat} {t k a s0 n i n1 : Nat} {R v : Nat → Int}
theorem Lay.la (L : Lay h.2) : LandA h.2 46 := by
  refine ⟨fun j q hj => L.1 (46 + j) q ?_, fun k hk => ?_⟩
  · have hl : j < 9 := by
      rcases Nat.lt_or_ge j 9 with z | z
      · exact z
      · rw [List.getElem?_eq_none (by show blkLand.length ≤ j; exact z)] at hj
        cases hj
    rw [(by decide : ∀ j, j < 9 → SH0[46 + j]? = blkLand[j]?) j hl]
    exact hj
  · exact L.2 (46, 6 + k, 46 + 1 + k) ((by decide : ∀ k, k < 8 → (46, 6 + k, 46 + 1 + k) ∈ RF) k hk)
theorem Lay.sea (L : Lay h.2) : SeasonA h.2 55 := by
  refine ⟨fun j q hj => L.1 (55 + j) q ?_, fun k hk => ?_⟩
  · have hl : j < 4 := by
      rcases Nat.lt_or_ge j 4 with z | z
      · exact z
      · rw [List.getElem?_eq_none (by show blkSeason.length ≤ j; exact z)] at hj
        cases hj
    rw [(by decide : ∀ j, j < 4 → SH0[55 + j]? = blkSeason[j]?) j hl]
    exact hj
  · exact L.2 (55, 1 + k, 55 + 1 + k) ((by decide : ∀ k, k < 3 → (55, 1 + k, 55 + 1 + k) ∈ RF) k hk)
theorem Lay.led (L : Lay h.2) : LedgerA h.2 59 := by
  refine ⟨fun j q hj => L.1 (59 + j) q ?_, fun k hk => ?_⟩
  · have hl : j < 3 := by
      rcases Nat.lt_or_ge j 3 with z | z
      · exact z
      · rw [List.getElem?_eq_none (by show blkLedger.length ≤ j; exact z)] at hj
        cases hj
    rw [(by decide : ∀ j, j < 3 → SH0[59 + j]? = blkLedger[j]?) j hl]
    exact hj
  · exact L.2 (59, 1 + k, 59 + 1 + k) ((by decide : ∀ k, k < 2 → (59, 1 + k, 59 + 1 + k) ∈ RF) k hk)
theorem Lay.bar (L : Lay h.2) : BargA h.2 62 := by
  refine ⟨fun j q hj => L.1 (62 + j) q ?_, L.2 (62, 1, 63) (by decide)⟩
  have hl : j < 2 := by
    rcases Nat.lt_or_ge j 2 with z | z
    · exact z
    · rw [List.getElem?_eq_none (by show blkBarg.length ≤ j; exact z)] at hj
      cases hj
  rw [(by decide : ∀ j, j < 2 → SH0[62 + j]? = blkBarg[j]?) j hl]
  exact hj
theorem updR_same {x : Int} : updR R i x i = x := by rw [updR, if_pos rfl]
theorem updR_ne {j : Nat} {x : Int} (q : j ≠ i) : updR R i x j = R j := by rw [updR, if_neg q]
def BuyC (g : MH) (R : Nat → Int) (n : Nat) : Prop := ∀ b : Nat, (b : Int) < R 1 → ((g.1 47 b).toInt = R (6 + 5 * b) ∧ (g.1 48 b).toInt = R (6 + 5 * b + 1) ∧ (g.1 49 b).toInt = R (6 + 5 * b + 2) ∧ (g.1 50 b).toInt = R (6 + 5 * b + 3) ∧ (g.1 51 b).toInt = R (6 + 5 * b + 4)) ∧ (0 ≤ R (6 + 5 * b) ∧ R (6 + 5 * b) ≤ 3) ∧ (0 ≤ R (6 + 5 * b + 1) ∧ R (6 + 5 * b + 1) ≤ 5) ∧ (0 ≤ R (6 + 5 * b + 2) ∧ R (6 + 5 * b + 2) ≤ 99) ∧ (0 ≤ R (6 + 5 * b + 3) ∧ R (6 + 5 * b + 3) ≤ 99) ∧ (0 ≤ R (6 + 5 * b + 4) ∧ R (6 + 5 * b + 4) ≤ 9) ∧ 2 ^ (R (6 + 5 * b + 1)).toNat ≤ n
def LetC (g : MH) (R : Nat → Int) : Prop := ∀ b : Nat, (b : Int) < R 2 → (g.1 52 b).toInt = R (46 + 2 * b) ∧ (g.1 53 b).toInt = R (46 + 2 * b + 1) ∧ (1 ≤ R (46 + 2 * b) ∧ R (46 + 2 * b) ≤ 60) ∧ (0 ≤ R (46 + 2 * b + 1) ∧ R (46 + 2 * b + 1) ≤ 60)
def RoadC (g : MH) (R : Nat → Int) : Prop := ∀ i : Nat, i < 36 → (g.1 54 i).toInt = R (54 + i) ∧ 0 ≤ R (54 + i) ∧ R (54 + i) ≤ 9
def HeadC (g : MH) (R : Nat → Int) : Prop := ((g.1 46 0).toInt = R 0 ∧ (g.1 46 4).toInt = R 1 ∧ (g.1 46 5).toInt = R 2 ∧ (g.1 46 1).toInt = R 3 ∧ (g.1 46 2).toInt = R 4 ∧ (g.1 46 3).toInt = R 5) ∧ (1 ≤ R 0 ∧ R 0 ≤ 6) ∧ (0 ≤ R 1 ∧ R 1 ≤ 8) ∧ (0 ≤ R 2 ∧ R 2 ≤ 4) ∧ (0 ≤ R 3 ∧ R 3 ≤ 5) ∧ (0 ≤ R 4 ∧ R 4 ≤ 5) ∧ (0 ≤ R 5 ∧ R 5 ≤ 63)
def LandC (g : MH) (R : Nat → Int) (n : Nat) : Prop := HeadC g R ∧ BuyC g R n ∧ LetC g R ∧ RoadC g R ∧ (g.1 45 10).toInt = (n : Int) ∧ n < 64
def SeasC (g : MH) (R : Nat → Int) (n : Nat) : Prop := (g.1 55 0).toInt = R 0 ∧ (0 ≤ R 0 ∧ R 0 ≤ 40) ∧ (∀ b : Nat, (b : Int) < R 0 → (g.1 56 b).toInt = R (1 + 3 * b) ∧ (g.1 57 b).toInt = R (1 + 3 * b + 1) ∧ (g.1 58 b).toInt = R (1 + 3 * b + 2) ∧ (0 ≤ R (1 + 3 * b) ∧ R (1 + 3 * b) ≤ 6) ∧ (-1 ≤ R (1 + 3 * b + 1) ∧ R (1 + 3 * b + 1) ≤ 7) ∧ (-1 ≤ R (1 + 3 * b + 2) ∧ R (1 + 3 * b + 2) ≤ 60) ∧ (R (1 + 3 * b) < 5 → 0 ≤ R (1 + 3 * b + 1)) ∧ (2 ≤ R (1 + 3 * b) → R (1 + 3 * b + 1) ≤ 5) ∧ (R (1 + 3 * b) = 0 → 0 ≤ R (1 + 3 * b + 2) ∧ R (1 + 3 * b + 2) ≤ 3) ∧ (R (1 + 3 * b) = 1 → 1 ≤ R (1 + 3 * b + 2) ∧ R (1 + 3 * b + 2) ≤ 60)) ∧ (g.1 45 10).toInt = (n : Int) ∧ n = 0
def LedC (g : MH) (R : Nat → Int) (n : Nat) : Prop := (g.1 59 0).toInt = R 0 ∧ (0 ≤ R 0 ∧ R 0 ≤ 20) ∧ (∀ b : Nat, (b : Int) < R 0 → (g.1 60 b).toInt = R (1 + 2 * b) ∧ (g.1 61 b).toInt = R (1 + 2 * b + 1) ∧ (0 ≤ R (1 + 2 * b) ∧ R (1 + 2 * b) ≤ 3) ∧ (0 ≤ R (1 + 2 * b + 1) ∧ R (1 + 2 * b + 1) ≤ 99) ∧ (R (1 + 2 * b) = 3 → R (1 + 2 * b + 1) ≤ 5)) ∧ (g.1 45 10).toInt = (n : Int) ∧ n = 0
def BargC (g : MH) (R : Nat → Int) (n : Nat) : Prop := (g.1 62 0).toInt = R 0 ∧ (1 ≤ R 0 ∧ R 0 ≤ 4) ∧ g.1 63 0 = 0 ∧ (∀ b : Nat, 1 ≤ b → b < 16 → (g.1 63 b).toInt = R b ∧ 0 ≤ R b ∧ R b ≤ 40) ∧ (g.1 45 10).toInt = (n : Int) ∧ n < 16
def RecC (t : Nat) (g : MH) (R : Nat → Int) (n : Nat) : Prop := (t = 0 → LandC g R n) ∧ (t = 1 → SeasC g R n) ∧ (t = 2 → LedC g R n) ∧ (t = 3 → BargC g R n)
/-- cells the telling may write -/
def PT (c j : Nat) : Prop := (c = 45 ∧ j = 10) ∨ (46 ≤ c ∧ c ≤ 63)
theorem named_or (e : (g.1 45 10).toInt = (n : Int)) (hn : n < 64) {x : Int32} {b : Nat} (hx : x.toInt = (b : Int)) (hb : b < 6) : (g.1 45 10 ||| ((1 : Int32) <<< (x &&& 31))).toInt = ((n ||| 2 ^ b : Nat) : Int) := by
  rw [ofN e (by omega), ofN hx (by omega)]
  exact sh_bit b hb n hn
theorem le_or : ∀ n, n < 64 → ∀ b, b < 6 → n ≤ n ||| 2 ^ b ∧ 2 ^ b ≤ n ||| 2 ^ b := by decide +kernel
theorem BuyC.mono {m : Nat} (B : BuyC g R n) (e : n ≤ m) (hR : ∀ j, j = 1 ∨ (6 ≤ j ∧ j < 46) → v j = R j) (r1 : R 1 ≤ 8) (hc : ∀ c, 47 ≤ c → c < 52 → g1.1 c = g.1 c) : BuyC g1 v m := by
  intro b hb
  rw [hR 1 (by omega)] at hb
  have q := B b hb
  rw [hR (6 + 5 * b) (by omega), hR (6 + 5 * b + 1) (by omega), hR (6 + 5 * b + 2) (by omega), hR (6 + 5 * b + 3) (by omega), hR (6 + 5 * b + 4) (by omega), hc 47 (by omega) (by omega), hc 48 (by omega) (by omega), hc 49 (by omega) (by omega), hc 50 (by omega) (by omega), hc 51 (by omega) (by omega)]
  exact ⟨q.1, q.2.1, q.2.2.1, q.2.2.2.1, q.2.2.2.2.1, q.2.2.2.2.2.1, Nat.le_trans q.2.2.2.2.2.2 e⟩
theorem LetC.same (B : LetC g R) (hR : ∀ j, j = 2 ∨ (46 ≤ j ∧ j < 54) → v j = R j) (r1 : R 2 ≤ 4) (hc : ∀ c, 52 ≤ c → c < 54 → g1.1 c = g.1 c) : LetC g1 v := by
  intro b hb
  rw [hR 2 (by omega)] at hb
  have q := B b hb
  rw [hR (46 + 2 * b) (by omega), hR (46 + 2 * b + 1) (by omega), hc 52 (by omega) (by omega), hc 53 (by omega) (by omega)]
  exact q
theorem RoadC.same (B : RoadC g R) (hR : ∀ j, 54 ≤ j ∧ j < 90 → v j = R j) (hc : g1.1 54 = g.1 54) : RoadC g1 v := by
  intro i hi
  rw [hR (54 + i) (by omega), hc]
  exact B i hi
/-- a buyer more -/
theorem land_buy (C : LandC g R n) (hk : k < 4) (e1 : R 1 = (n1 : Int)) (l8 : n1 < 8) {xk v0 v1 v2 v3 nm : Int32} (ek : xk.toInt = (k : Int)) (f0 : v0.toInt = v 0) (f1 : v1.toInt = v 1) (f2 : v2.toInt = v 2) (f3 : v3.toInt = v 3) (b0 : 0 ≤ v 0 ∧ v 0 ≤ 5) (b1 : 0 ≤ v 1 ∧ v 1 ≤ 99) (b2 : 0 ≤ v 2 ∧ v 2 ≤ 99) (b3 : 0 ≤ v 3 ∧ v 3 ≤ 9) (hm : nm.toInt = ((n ||| 2 ^ (v 0).toNat : Nat) : Int)) : LandC (sI (sI (sI (sI (sI (sI (sI g 47 n1 xk) 48 n1 v0) 49 n1 v1) 50 n1 v2) 51 n1 v3) 46 4 (g.1 46 4 + 1)) 45 10 nm) (tellR k v R) (tellN k v n) := by
  obtain ⟨⟨hd, r0, r1, r2, r3, r4, r5⟩, B, Lt, Rd, nm0, n64⟩ := C
  rw [tellR, if_pos hk, tellN, if_pos hk, show (R 1).toNat = n1 by omega]
  have lo := le_or n n64 (v 0).toNat (by omega)
  refine ⟨⟨⟨?_, ?_, ?_, ?_, ?_, ?_⟩, ?_, ?_, ?_, ?_, ?_, ?_⟩, ?_, ?_, ?_, ?_, (or_bits n n64 (v 0).toNat (by omega)).1⟩
  all_goals try (simp (disch := omega) only [updR_same, updR_ne, sI_same, sI_nc, sI_nj])
  · exact hd.1
  · rw [i32_add (by rw [hd.2.1, e1]; show -2147483648 ≤ (n1 : Int) + 1; omega) (by rw [hd.2.1, e1]; show (n1 : Int) + 1 ≤ _; omega), hd.2.1]; rfl
  · exact hd.2.2.1
  · exact hd.2.2.2.1
  · exact hd.2.2.2.2.1
  · exact hd.2.2.2.2.2
  · exact r0
  · omega
  · exact r2
  · exact r3
  · exact r4
  · exact r5
  · intro b hb
    try simp (disch := omega) only [updR_same, updR_ne] at hb
    by_cases e : b = n1
    · subst e
      simp (disch := omega) only [updR_same, updR_ne, sI_same, sI_nc, sI_nj]
      exact ⟨⟨ek, f0, f1, f2, f3⟩, by omega, b0, b1, b2, b3, lo.2⟩
    · have q := B b (by omega)
      simp (disch := omega) only [updR_ne, sI_nc, sI_nj]
      exact ⟨q.1, q.2.1, q.2.2.1, q.2.2.2.1, q.2.2.2.2.1, q.2.2.2.2.2.1, Nat.le_trans q.2.2.2.2.2.2 lo.1⟩
  · exact Lt.same (fun j hj => by simp (disch := omega) only [updR_ne]) r2.2 (fun c kc1 kc2 => by simp (disch := omega) only [sI_cell])
  · exact Rd.same (fun j hj => by simp (disch := omega) only [updR_ne]) (by simp (disch := omega) only [sI_cell])
  · exact hm
/-- a letter more -/
theorem land_let (C : LandC g R n) (e1 : R 2 = (n1 : Int)) (l8 : n1 < 4) {v0 v1 : Int32} (f0 : v0.toInt = v 0) (f1 : v1.toInt = v 1) (b0 : 1 ≤ v 0 ∧ v 0 ≤ 60) (b1 : 0 ≤ v 1 ∧ v 1 ≤ 60) : LandC (sI (sI (sI g 52 n1 v0) 53 n1 v1) 46 5 (g.1 46 5 + 1)) (tellR 5 v R) (tellN 5 v n) := by
  obtain ⟨⟨hd, r0, r1, r2, r3, r4, r5⟩, B, Lt, Rd, nm0, n64⟩ := C
  show LandC _ (updR (updR (updR R (46 + 2 * (R 2).toNat) (v 0)) (46 + 2 * (R 2).toNat + 1) (v 1)) 2 (R 2 + 1)) n
  rw [show (R 2).toNat = n1 by omega]
  refine ⟨⟨⟨?_, ?_, ?_, ?_, ?_, ?_⟩, ?_, ?_, ?_, ?_, ?_, ?_⟩, ?_, ?_, ?_, ?_, n64⟩
  all_goals try (simp (disch := omega) only [updR_same, updR_ne, sI_same, sI_nc, sI_nj])
  · exact hd.1
  · exact hd.2.1
  · rw [i32_add (by rw [hd.2.2.1, e1]; show -2147483648 ≤ (n1 : Int) + 1; omega) (by rw [hd.2.2.1, e1]; show (n1 : Int) + 1 ≤ _; omega), hd.2.2.1]; rfl
  · exact hd.2.2.2.1
  · exact hd.2.2.2.2.1
  · exact hd.2.2.2.2.2
  · exact r0
  · exact r1
  · omega
  · exact r3
  · exact r4
  · exact r5
  · exact B.mono (Nat.le_refl _) (fun j hj => by simp (disch := omega) only [updR_ne]) r1.2 (fun c kc1 kc2 => by simp (disch := omega) only [sI_cell])
  · intro b hb
    try simp (disch := omega) only [updR_same, updR_ne] at hb
    by_cases e : b = n1
    · subst e
      simp (disch := omega) only [updR_same, updR_ne, sI_same, sI_nc, sI_nj]
      exact ⟨f0, f1, b0, b1⟩
    · have q := Lt b (by omega)
      simp (disch := omega) only [updR_ne, sI_nc, sI_nj]
      exact q
  · exact Rd.same (fun j hj => by simp (disch := omega) only [updR_ne]) (by simp (disch := omega) only [sI_cell])
  · exact nm0
/-- a road -/
theorem land_road (C : LandC g R n) {p q : Nat} (p6 : p < 6) (q6 : q < 6) (e0 : (v 0) = (p : Int)) (e1 : (v 1) = (q : Int)) {x nm : Int32} (f2 : x.toInt = v 2) (b2 : 1 ≤ v 2 ∧ v 2 ≤ 9) (hm : nm.toInt = ((n ||| (2 ^ p ||| 2 ^ q) : Nat) : Int)) : LandC (sI (sI (sI g 54 (p * 6 + q) x) 54 (q * 6 + p) x) 45 10 nm) (tellR 4 v R) (tellN 4 v n) := by
  obtain ⟨⟨hd, r0, r1, r2, r3, r4, r5⟩, B, Lt, Rd, nm0, n64⟩ := C
  show LandC _ (updR (updR R (54 + 6 * (v 0).toNat + (v 1).toNat) (v 2)) (54 + 6 * (v 1).toNat + (v 0).toNat) (v 2)) (n ||| (2 ^ (v 0).toNat ||| 2 ^ (v 1).toNat))
  rw [show (v 0).toNat = p by omega, show (v 1).toNat = q by omega]
  have lo := le_or n n64 p p6
  have o1 := or_bits n n64 p p6
  have lo2 := le_or (n ||| 2 ^ p) o1.1 q q6
  have o2 := or_bits (n ||| 2 ^ p) o1.1 q q6
  rw [← Nat.or_assoc] at hm ⊢
  refine ⟨⟨⟨?_, ?_, ?_, ?_, ?_, ?_⟩, ?_, ?_, ?_, ?_, ?_, ?_⟩, ?_, ?_, ?_, ?_, o2.1⟩
  all_goals try (simp (disch := omega) only [updR_same, updR_ne, sI_same, sI_nc, sI_nj])
  · exact hd.1
  · exact hd.2.1
  · exact hd.2.2.1
  · exact hd.2.2.2.1
  · exact hd.2.2.2.2.1
  · exact hd.2.2.2.2.2
  · exact r0
  · exact r1
  · exact r2
  · exact r3
  · exact r4
  · exact r5
  · exact B.mono (Nat.le_trans lo.1 lo2.1) (fun j hj => by simp (disch := omega) only [updR_ne]) r1.2 (fun c kc1 kc2 => by simp (disch := omega) only [sI_cell])
  · exact Lt.same (fun j hj => by simp (disch := omega) only [updR_ne]) r2.2 (fun c kc1 kc2 => by simp (disch := omega) only [sI_cell])
  · intro i hi
    have qi := Rd i hi
    by_cases e : i = q * 6 + p
    · subst e
      rw [show 54 + (q * 6 + p) = 54 + 6 * q + p by omega, updR_same, sI_nc (by omega), sI_same]
      exact ⟨f2, by omega⟩
    · by_cases e' : i = p * 6 + q
      · subst e'
        rw [show 54 + (p * 6 + q) = 54 + 6 * p + q by omega, updR_ne (by omega), updR_same, sI_nc (by omega), sI_nj e, sI_same]
        exact ⟨f2, by omega⟩
      · rw [updR_ne (by omega), updR_ne (by omega), sI_nc (by omega), sI_nj e, sI_nj e']
        exact qi
  · exact hm
/-- one number of the head -/
theorem land_one (C : LandC g R n) {j f : Nat} {x : Int32} {y : Int} (f0 : x.toInt = y) (hj : (j = 0 ∧ f = 0 ∧ 1 ≤ y ∧ y ≤ 6) ∨ (j = 3 ∧ f = 1 ∧ 0 ≤ y ∧ y ≤ 5) ∨ (j = 4 ∧ f = 2 ∧ 0 ≤ y ∧ y ≤ 5)) : LandC (sI g 46 f x) (updR R j y) n := by
  obtain ⟨⟨hd, r0, r1, r2, r3, r4, r5⟩, B, Lt, Rd, nm0, n64⟩ := C
  refine ⟨?_, B.mono (Nat.le_refl _) (fun i hi => by rw [updR_ne (by omega)]) r1.2 (fun c kc1 kc2 => sI_cell (by omega)), Lt.same (fun i hi => by rw [updR_ne (by omega)]) r2.2 (fun c kc1 kc2 => sI_cell (by omega)), Rd.same (fun i hi => by rw [updR_ne (by omega)]) (sI_cell (by omega)), by rw [sI_nc (by omega)]; exact nm0, n64⟩
  rcases hj with ⟨rfl, rfl, b⟩ | ⟨rfl, rfl, b⟩ | ⟨rfl, rfl, b⟩
  · simp (disch := omega) only [HeadC, updR_same, updR_ne, sI_same, sI_nj]
    exact ⟨⟨f0, hd.2⟩, b, r1, r2, r3, r4, r5⟩
  · simp (disch := omega) only [HeadC, updR_same, updR_ne, sI_same, sI_nj]
    exact ⟨⟨hd.1, hd.2.1, hd.2.2.1, f0, hd.2.2.2.2⟩, r0, r1, r2, b, r4, r5⟩
  · simp (disch := omega) only [HeadC, updR_same, updR_ne, sI_same, sI_nj]
    exact ⟨⟨hd.1, hd.2.1, hd.2.2.1, hd.2.2.2.1, f0, hd.2.2.2.2.2⟩, r0, r1, r2, r3, b, r5⟩
theorem land_shut (C : LandC g R n) {p : Nat} (p6 : p < 6) (e0 : v 0 = (p : Int)) {x nm : Int32} (f0 : x.toInt = (((R 5).toNat ||| 2 ^ p : Nat) : Int)) (hm : nm.toInt = ((n ||| 2 ^ p : Nat) : Int)) : LandC (sI (sI g 46 3 x) 45 10 nm) (tellR 7 v R) (tellN 7 v n) := by
  obtain ⟨⟨hd, r0, r1, r2, r3, r4, r5⟩, B, Lt, Rd, nm0, n64⟩ := C
  show LandC _ (updR R 5 (((R 5).toNat ||| 2 ^ (v 0).toNat : Nat) : Int)) (n ||| 2 ^ (v 0).toNat)
  rw [show (v 0).toNat = p by omega]
  have lo := le_or n n64 p p6
  have o := or_bits (R 5).toNat (by omega) p p6
  refine ⟨?_, B.mono lo.1 (fun i hi => by rw [updR_ne (by omega)]) r1.2 (fun c kc1 kc2 => by simp (disch := omega) only [sI_cell]), Lt.same (fun i hi => by rw [updR_ne (by omega)]) r2.2 (fun c kc1 kc2 => by simp (disch := omega) only [sI_cell]), Rd.same (fun i hi => by rw [updR_ne (by omega)]) (by simp (disch := omega) only [sI_cell]), by rw [sI_same]; exact hm, (or_bits n n64 p p6).1⟩
  simp (disch := omega) only [HeadC, updR_same, updR_ne, sI_same, sI_nj, sI_nc]
  exact ⟨⟨hd.1, hd.2.1, hd.2.2.1, hd.2.2.2.1, hd.2.2.2.2.1, f0⟩, r0, r1, r2, r3, r4, by omega⟩
theorem seas_more (C : SeasC g R n) (hk : 10 ≤ k ∧ k < 17) (e1 : R 0 = (n1 : Int)) (l8 : n1 < 40) {xe va vb : Int32} (ee : xe.toInt = (k : Int) - 10) (ea : va.toInt = if 0 < nbh k then v 0 else -1) (eb : vb.toInt = if 1 < nbh k then v 1 else -1) (hv : ∀ j, j < nbh k → loF k j ≤ v j ∧ v j ≤ hiF k j) : SeasC (sI (sI (sI (sI g 56 n1 xe) 57 n1 va) 58 n1 vb) 55 0 (g.1 55 0 + 1)) (tellR k v R) (tellN k v n) := by
  obtain ⟨h0, r0, B, nm0, n0⟩ := C
  have en : tellN k v n = n := by rw [tellN, if_neg (by omega), if_neg (by omega), if_neg (by omega), if_neg (by omega)]
  rw [en, tellR, if_neg (by omega), if_neg (by omega), if_neg (by omega), if_neg (by omega), if_neg (by omega), if_neg (by omega), if_neg (by omega), if_pos (by omega), show (R 0).toNat = n1 by omega]
  have ab : (-1 ≤ va.toInt ∧ va.toInt ≤ 7) ∧ (-1 ≤ vb.toInt ∧ vb.toInt ≤ 60) ∧ (xe.toInt < 5 → 0 ≤ va.toInt) ∧ (2 ≤ xe.toInt → va.toInt ≤ 5) ∧ (xe.toInt = 0 → 0 ≤ vb.toInt ∧ vb.toInt ≤ 3) ∧ (xe.toInt = 1 → 1 ≤ vb.toInt ∧ vb.toInt ≤ 60) := by
    rw [ea, eb, ee]
    rcases (show k = 10 ∨ k = 11 ∨ k = 12 ∨ k = 13 ∨ k = 14 ∨ k = 15 ∨ k = 16 by omega) with rfl | rfl | rfl | rfl | rfl | rfl | rfl
    · have a := hv 0 (by decide)
      have b := hv 1 (by decide)
      rw [show loF 10 0 = 0 by decide, show hiF 10 0 = 7 by decide] at a
      rw [show loF 10 1 = 0 by decide, show hiF 10 1 = 3 by decide] at b
      rw [if_pos (by decide), if_pos (by decide)]
      omega
    · have a := hv 0 (by decide)
      have b := hv 1 (by decide)
      rw [show loF 11 0 = 0 by decide, show hiF 11 0 = 7 by decide] at a
      rw [show loF 11 1 = 1 by decide, show hiF 11 1 = 60 by decide] at b
      rw [if_pos (by decide), if_pos (by decide)]
      omega
    · have a := hv 0 (by decide)
      rw [show loF 12 0 = 0 by decide, show hiF 12 0 = 5 by decide] at a
      rw [if_pos (by decide), if_neg (by decide)]
      omega
    · have a := hv 0 (by decide)
      rw [show loF 13 0 = 0 by decide, show hiF 13 0 = 5 by decide] at a
      rw [if_pos (by decide), if_neg (by decide)]
      omega
    · have a := hv 0 (by decide)
      rw [show loF 14 0 = 0 by decide, show hiF 14 0 = 5 by decide] at a
      rw [if_pos (by decide), if_neg (by decide)]
      omega
    · rw [if_neg (by decide), if_neg (by decide)]
      omega
    · rw [if_neg (by decide), if_neg (by decide)]
      omega
  rw [ea, eb] at ab
  refine ⟨?_, ?_, ?_, ?_, n0⟩
  all_goals try (simp (disch := omega) only [updR_same, updR_ne, sI_same, sI_nc, sI_nj])
  · rw [i32_add (by rw [h0, e1]; show -2147483648 ≤ (n1 : Int) + 1; omega) (by rw [h0, e1]; show (n1 : Int) + 1 ≤ _; omega), h0]; rfl
  · omega
  · intro b hb
    try simp (disch := omega) only [updR_same, updR_ne] at hb
    by_cases e : b = n1
    · subst e
      simp (disch := omega) only [updR_same, updR_ne, sI_same, sI_nc, sI_nj]
      rw [ee] at ab
      exact ⟨ee, ea, eb, by omega, ab.1, ab.2.1, ab.2.2.1, ab.2.2.2.1, ab.2.2.2.2.1, ab.2.2.2.2.2⟩
    · have q := B b (by omega)
      simp (disch := omega) only [updR_ne, sI_nc, sI_nj]
      exact q
  · exact nm0
theorem led_more (C : LedC g R n) (hk : 17 ≤ k ∧ k < 21) (e1 : R 0 = (n1 : Int)) (l8 : n1 < 20) {xe va : Int32} (ee : xe.toInt = (k : Int) - 17) (ea : va.toInt = v 0) (hv : 0 ≤ v 0 ∧ v 0 ≤ 99 ∧ (k = 20 → v 0 ≤ 5)) : LedC (sI (sI (sI g 60 n1 xe) 61 n1 va) 59 0 (g.1 59 0 + 1)) (tellR k v R) (tellN k v n) := by
  obtain ⟨h0, r0, B, nm0, n0⟩ := C
  have en : tellN k v n = n := by rw [tellN, if_neg (by omega), if_neg (by omega), if_neg (by omega), if_neg (by omega)]
  rw [en, tellR, if_neg (by omega), if_neg (by omega), if_neg (by omega), if_neg (by omega), if_neg (by omega), if_neg (by omega), if_neg (by omega), if_neg (by omega), if_pos (by omega), show (R 0).toNat = n1 by omega]
  refine ⟨?_, ?_, ?_, ?_, n0⟩
  all_goals try (simp (disch := omega) only [updR_same, updR_ne, sI_same, sI_nc, sI_nj])
  · rw [i32_add (by rw [h0, e1]; show -2147483648 ≤ (n1 : Int) + 1; omega) (by rw [h0, e1]; show (n1 : Int) + 1 ≤ _; omega), h0]; rfl
  · omega
  · intro b hb
    try simp (disch := omega) only [updR_same, updR_ne] at hb
    by_cases e : b = n1
    · subst e
      simp (disch := omega) only [updR_same, updR_ne, sI_same, sI_nc, sI_nj]
      exact ⟨ee, ea, by omega, by omega, fun z => hv.2.2 (by omega)⟩
    · have q := B b (by omega)
      simp (disch := omega) only [updR_ne, sI_nc, sI_nj]
      exact q
  · exact nm0
theorem barg_one (C : BargC g R n) {x : Int32} (f0 : x.toInt = v 0) (b : 1 ≤ v 0 ∧ v 0 ≤ 4) : BargC (sI g 62 0 x) (tellR 21 v R) (tellN 21 v n) := by
  obtain ⟨h0, r0, z0, B, nm0, n0⟩ := C
  show BargC _ (updR R 0 (v 0)) n
  refine ⟨by rw [sI_same, updR_same]; exact f0, by rw [updR_same]; exact b, by rw [sI_nc (by omega)]; exact z0, fun b b1 b2 => ?_, by rw [sI_nc (by omega)]; exact nm0, n0⟩
  rw [sI_nc (by omega), updR_ne (by omega)]
  exact B b b1 b2
theorem barg_set (C : BargC g R n) {p : Nat} (p1 : 1 ≤ p ∧ p < 16) (e0 : v 0 = (p : Int)) {x nm : Int32} (f1 : x.toInt = v 1) (b : 0 ≤ v 1 ∧ v 1 ≤ 40) (hm : nm.toInt = ((n ||| p : Nat) : Int)) (hn : (n ||| p) < 16) : BargC (sI (sI g 63 p x) 45 10 nm) (tellR 22 v R) (tellN 22 v n) := by
  obtain ⟨h0, r0, z0, B, nm0, n0⟩ := C
  show BargC _ (updR R (v 0).toNat (v 1)) (n ||| (v 0).toNat)
  rw [show (v 0).toNat = p by omega]
  refine ⟨?_, ?_, ?_, fun c b1 b2 => ?_, by rw [sI_same]; exact hm, hn⟩
  · simp (disch := omega) only [updR_ne, sI_nc]; exact h0
  · simp (disch := omega) only [updR_ne]; exact r0
  · simp (disch := omega) only [sI_nc, sI_nj]; exact z0
  · by_cases e : c = p
    · subst e
      simp (disch := omega) only [updR_same, sI_nc, sI_same]
      exact ⟨f1, b⟩
    · simp (disch := omega) only [updR_ne, sI_nc, sI_nj]
      exact B c b1 b2
end M97b
