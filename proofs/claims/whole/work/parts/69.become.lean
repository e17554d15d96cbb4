/-! WHAT IS TOLD BECOMES ANOTHER -/
section M69
variable {rod : Nat → Nat × (Nat → Int32)} {d : Nat} {h g f : MH} {a b T T' : Nat}
/-- only cells from lo to hi have changed, their numbers alone -/
def Mv (h h' : MH) (lo hi : Nat) : Prop := h'.2 = h.2 ∧ ∀ c, c < lo ∨ hi ≤ c → h'.1 c = h.1 c
theorem Mv.trans {l1 r1 l2 r2 lo hi : Nat} (k : Mv h g l1 r1) (q : Mv g f l2 r2) (e1 : lo ≤ l1 ∧ r1 ≤ hi) (e2 : lo ≤ l2 ∧ r2 ≤ hi) : Mv h f lo hi := ⟨q.1.trans k.1, fun c hc => (q.2 c (by omega)).trans (k.2 c (by omega))⟩
def LandSm (h h' : MH) (a a' : Nat) : Prop := (∀ j, j < 6 → h'.1 a' j = h.1 a j) ∧ (∀ c j, c < 5 → j < 8 → h'.1 (a' + 1 + c) j = h.1 (a + 1 + c) j) ∧ (∀ c j, c < 2 → j < 4 → h'.1 (a' + 6 + c) j = h.1 (a + 6 + c) j) ∧ ∀ j, j < 36 → h'.1 (a' + 8) j = h.1 (a + 8) j
def SeasonSm (h h' : MH) (a a' : Nat) : Prop := h'.1 a' 0 = h.1 a 0 ∧ ∀ c j, c < 3 → j < 40 → h'.1 (a' + 1 + c) j = h.1 (a + 1 + c) j
def LedgerSm (h h' : MH) (a a' : Nat) : Prop := h'.1 a' 0 = h.1 a 0 ∧ ∀ c j, c < 2 → j < 20 → h'.1 (a' + 1 + c) j = h.1 (a + 1 + c) j
def BargSm (h h' : MH) (a a' : Nat) : Prop := h'.1 a' 0 = h.1 a 0 ∧ ∀ j, j < 16 → h'.1 (a' + 1) j = h.1 (a + 1) j
theorem sC_cell {a b sp dp n c : Nat} (e : c ≠ b) : (sC h a b sp dp n).1 c = h.1 c := funext fun j => sC_nc e
theorem sC0_8 {a b j : Nat} (hj : j < 8) : (sC h a b (0 : Int32).toNatClampNeg (0 : Int32).toNatClampNeg (8 : Int32).toNatClampNeg).1 b j = h.1 a j := sC_in rfl rfl hj
theorem sC0_4 {a b j : Nat} (hj : j < 4) : (sC h a b (0 : Int32).toNatClampNeg (0 : Int32).toNatClampNeg (4 : Int32).toNatClampNeg).1 b j = h.1 a j := sC_in rfl rfl hj
theorem sC0_36 {a b j : Nat} (hj : j < 36) : (sC h a b (0 : Int32).toNatClampNeg (0 : Int32).toNatClampNeg (36 : Int32).toNatClampNeg).1 b j = h.1 a j := sC_in rfl rfl hj
theorem sC0_40 {a b j : Nat} (hj : j < 40) : (sC h a b (0 : Int32).toNatClampNeg (0 : Int32).toNatClampNeg (40 : Int32).toNatClampNeg).1 b j = h.1 a j := sC_in rfl rfl hj
theorem sC0_20 {a b j : Nat} (hj : j < 20) : (sC h a b (0 : Int32).toNatClampNeg (0 : Int32).toNatClampNeg (20 : Int32).toNatClampNeg).1 b j = h.1 a j := sC_in rfl rfl hj
theorem sC0_16 {a b j : Nat} (hj : j < 16) : (sC h a b (0 : Int32).toNatClampNeg (0 : Int32).toNatClampNeg (16 : Int32).toNatClampNeg).1 b j = h.1 a j := sC_in rfl rfl hj
theorem sC0_600 {a b j : Nat} (hj : j < 600) : (sC h a b (0 : Int32).toNatClampNeg (0 : Int32).toNatClampNeg (600 : Int32).toNatClampNeg).1 b j = h.1 a j := sC_in rfl rfl hj
theorem c_landB (A0 : LandA h.2 b) (A1 : LandA h.2 a) (hd : b + 9 ≤ a ∨ a + 9 ≤ b) : Wc rod (d + 1) 55 [.inr (.inr (.inl (some b))), .inr (.inr (.inl (some a)))] h (fun r h' => r = none ∧ Mv h h' b (b + 9) ∧ LandSm h h' a b) := by
  refine n_Land_become ?_
  refine w_Land_become_0 A1 A0 ?_
  refine w_Land_become_8 A1 A0 ?_
  refine w_Land_become_16 A1 A0 ?_
  refine w_Land_become_24 A1 A0 ?_
  refine w_Land_become_32 A1 A0 ?_
  refine w_Land_become_40 A1 A0 ?_
  refine w_Land_become_48 A1 A0 ?_
  refine w_Land_become_63 A1 A0 ?_
  refine w_Land_become_78 A1 A0 ?_
  refine w_Land_become_93 A1 A0 ?_
  refine w_Land_become_108 A1 A0 ?_
  refine w_Land_become_123 A1 A0 ?_
  refine w_Land_become_137 A1 A0 ?_
  refine w_Land_become_151 A1 A0 ?_
  refine w_Land_become_166 ?_
  refine ⟨rfl, ⟨rfl, fun c hc => by simp (disch := omega) only [sC_cell, sI_cell]⟩, fun j hj => ?_, fun c j hc hj => ?_, fun c j hc hj => ?_, fun j hj => ?_⟩
  · rcases (show j = 0 ∨ j = 1 ∨ j = 2 ∨ j = 3 ∨ j = 4 ∨ j = 5 by omega) with rfl | rfl | rfl | rfl | rfl | rfl <;> simp (disch := omega) only [sC0_8, sC0_4, sC0_36, sC0_40, sC0_20, sC0_16, sC0_600, sC_nc, sI_same, sI_nc, sI_nj]
  · rcases (show c = 0 ∨ c = 1 ∨ c = 2 ∨ c = 3 ∨ c = 4 by omega) with rfl | rfl | rfl | rfl | rfl
    · show (_ : MH).1 (b + 1) j = h.1 (a + 1) j; simp (disch := omega) only [sC0_8, sC0_4, sC0_36, sC0_40, sC0_20, sC0_16, sC0_600, sC_nc, sI_same, sI_nc, sI_nj]
    · show (_ : MH).1 (b + 2) j = h.1 (a + 2) j; simp (disch := omega) only [sC0_8, sC0_4, sC0_36, sC0_40, sC0_20, sC0_16, sC0_600, sC_nc, sI_same, sI_nc, sI_nj]
    · show (_ : MH).1 (b + 3) j = h.1 (a + 3) j; simp (disch := omega) only [sC0_8, sC0_4, sC0_36, sC0_40, sC0_20, sC0_16, sC0_600, sC_nc, sI_same, sI_nc, sI_nj]
    · show (_ : MH).1 (b + 4) j = h.1 (a + 4) j; simp (disch := omega) only [sC0_8, sC0_4, sC0_36, sC0_40, sC0_20, sC0_16, sC0_600, sC_nc, sI_same, sI_nc, sI_nj]
    · show (_ : MH).1 (b + 5) j = h.1 (a + 5) j; simp (disch := omega) only [sC0_8, sC0_4, sC0_36, sC0_40, sC0_20, sC0_16, sC0_600, sC_nc, sI_same, sI_nc, sI_nj]
  · rcases (show c = 0 ∨ c = 1 by omega) with rfl | rfl
    · show (_ : MH).1 (b + 6) j = h.1 (a + 6) j; simp (disch := omega) only [sC0_8, sC0_4, sC0_36, sC0_40, sC0_20, sC0_16, sC0_600, sC_nc, sI_same, sI_nc, sI_nj]
    · show (_ : MH).1 (b + 7) j = h.1 (a + 7) j; simp (disch := omega) only [sC0_8, sC0_4, sC0_36, sC0_40, sC0_20, sC0_16, sC0_600, sC_nc, sI_same, sI_nc, sI_nj]
  · simp (disch := omega) only [sC0_8, sC0_4, sC0_36, sC0_40, sC0_20, sC0_16, sC0_600, sC_nc, sI_same, sI_nc, sI_nj]
theorem c_seasonB (A0 : SeasonA h.2 b) (A1 : SeasonA h.2 a) (hd : b + 4 ≤ a ∨ a + 4 ≤ b) : Wc rod (d + 1) 56 [.inr (.inr (.inl (some b))), .inr (.inr (.inl (some a)))] h (fun r h' => r = none ∧ Mv h h' b (b + 4) ∧ SeasonSm h h' a b) := by
  refine n_Season_become ?_
  refine w_Season_become_0 A1 A0 ?_
  refine w_Season_become_8 A1 A0 ?_
  refine w_Season_become_23 A1 A0 ?_
  refine w_Season_become_38 A1 A0 ?_
  refine w_Season_become_53 ?_
  refine ⟨rfl, ⟨rfl, fun c hc => by simp (disch := omega) only [sC_cell, sI_cell]⟩, ?_, fun c j hc hj => ?_⟩
  · simp (disch := omega) only [sC0_8, sC0_4, sC0_36, sC0_40, sC0_20, sC0_16, sC0_600, sC_nc, sI_same, sI_nc, sI_nj]
  · rcases (show c = 0 ∨ c = 1 ∨ c = 2 by omega) with rfl | rfl | rfl
    · show (_ : MH).1 (b + 1) j = h.1 (a + 1) j; simp (disch := omega) only [sC0_8, sC0_4, sC0_36, sC0_40, sC0_20, sC0_16, sC0_600, sC_nc, sI_same, sI_nc, sI_nj]
    · show (_ : MH).1 (b + 2) j = h.1 (a + 2) j; simp (disch := omega) only [sC0_8, sC0_4, sC0_36, sC0_40, sC0_20, sC0_16, sC0_600, sC_nc, sI_same, sI_nc, sI_nj]
    · show (_ : MH).1 (b + 3) j = h.1 (a + 3) j; simp (disch := omega) only [sC0_8, sC0_4, sC0_36, sC0_40, sC0_20, sC0_16, sC0_600, sC_nc, sI_same, sI_nc, sI_nj]
theorem c_ledgerB (A0 : LedgerA h.2 b) (A1 : LedgerA h.2 a) (hd : b + 3 ≤ a ∨ a + 3 ≤ b) : Wc rod (d + 1) 57 [.inr (.inr (.inl (some b))), .inr (.inr (.inl (some a)))] h (fun r h' => r = none ∧ Mv h h' b (b + 3) ∧ LedgerSm h h' a b) := by
  refine n_Ledger_become ?_
  refine w_Ledger_become_0 A1 A0 ?_
  refine w_Ledger_become_8 A1 A0 ?_
  refine w_Ledger_become_23 A1 A0 ?_
  refine w_Ledger_become_38 ?_
  refine ⟨rfl, ⟨rfl, fun c hc => by simp (disch := omega) only [sC_cell, sI_cell]⟩, ?_, fun c j hc hj => ?_⟩
  · simp (disch := omega) only [sC0_8, sC0_4, sC0_36, sC0_40, sC0_20, sC0_16, sC0_600, sC_nc, sI_same, sI_nc, sI_nj]
  · rcases (show c = 0 ∨ c = 1 by omega) with rfl | rfl
    · show (_ : MH).1 (b + 1) j = h.1 (a + 1) j; simp (disch := omega) only [sC0_8, sC0_4, sC0_36, sC0_40, sC0_20, sC0_16, sC0_600, sC_nc, sI_same, sI_nc, sI_nj]
    · show (_ : MH).1 (b + 2) j = h.1 (a + 2) j; simp (disch := omega) only [sC0_8, sC0_4, sC0_36, sC0_40, sC0_20, sC0_16, sC0_600, sC_nc, sI_same, sI_nc, sI_nj]
theorem c_bargB (A0 : BargA h.2 b) (A1 : BargA h.2 a) (hd : b + 2 ≤ a ∨ a + 2 ≤ b) : Wc rod (d + 1) 58 [.inr (.inr (.inl (some b))), .inr (.inr (.inl (some a)))] h (fun r h' => r = none ∧ Mv h h' b (b + 2) ∧ BargSm h h' a b) := by
  refine n_Bargain_become ?_
  refine w_Bargain_become_0 A1 A0 ?_
  refine w_Bargain_become_8 A1 A0 ?_
  refine w_Bargain_become_23 ?_
  refine ⟨rfl, ⟨rfl, fun c hc => by simp (disch := omega) only [sC_cell, sI_cell]⟩, ?_, fun j hj => ?_⟩
  · simp (disch := omega) only [sC0_8, sC0_4, sC0_36, sC0_40, sC0_20, sC0_16, sC0_600, sC_nc, sI_same, sI_nc, sI_nj]
  · simp (disch := omega) only [sC0_8, sC0_4, sC0_36, sC0_40, sC0_20, sC0_16, sC0_600, sC_nc, sI_same, sI_nc, sI_nj]
theorem ToldAt.gg (D : ToldAt h T) : gO h (some T) 18 = true := gO_of (D.1.get 0 rfl)
theorem ToldAt.tp (D : ToldAt h T) : gO h (h.2.1 ((some T).getD 0) 0) 1 = true ∧ shN h (h.2.1 ((some T).getD 0) 0) = 600 := by
  rw [Option.getD_some, D.2.1]
  exact ⟨gO_of (D.1.get 1 rfl), shN_of (D.1.get 1 rfl)⟩
theorem ToldAt.mn (D : ToldAt h T) : gO h (h.2.1 ((some T).getD 0) 4) 0 = true ∧ shN h (h.2.1 ((some T).getD 0) 4) = 4 := by
  rw [Option.getD_some, D.2.2.1 0 (by omega)]
  exact ⟨gO_of (D.1.get 2 rfl), shN_of (D.1.get 2 rfl)⟩
theorem ToldAt.la (D : ToldAt h T) {x : Int32} {k : Nat} (hx : x.toInt = (k : Int)) (hk : k < 2) : gA h (h.2.1 ((some T).getD 0) 5) 4 x = true := by
  rw [Option.getD_some, show h.2.1 T 5 = some (T + 3) from D.2.2.1 1 (by omega)]
  exact gA_of (D.1.get 3 rfl) (inB_of (by omega) (by omega))
theorem ToldAt.se (D : ToldAt h T) {x : Int32} {k : Nat} (hx : x.toInt = (k : Int)) (hk : k < 2) : gA h (h.2.1 ((some T).getD 0) 6) 5 x = true := by
  rw [Option.getD_some, show h.2.1 T 6 = some (T + 4) from D.2.2.1 2 (by omega)]
  exact gA_of (D.1.get 4 rfl) (inB_of (by omega) (by omega))
theorem ToldAt.le (D : ToldAt h T) {x : Int32} {k : Nat} (hx : x.toInt = (k : Int)) (hk : k < 2) : gA h (h.2.1 ((some T).getD 0) 7) 6 x = true := by
  rw [Option.getD_some, show h.2.1 T 7 = some (T + 5) from D.2.2.1 3 (by omega)]
  exact gA_of (D.1.get 5 rfl) (inB_of (by omega) (by omega))
theorem ToldAt.ba (D : ToldAt h T) {x : Int32} {k : Nat} (hx : x.toInt = (k : Int)) (hk : k < 2) : gA h (h.2.1 ((some T).getD 0) 8) 7 x = true := by
  rw [Option.getD_some, show h.2.1 T 8 = some (T + 6) from D.2.2.1 4 (by omega)]
  exact gA_of (D.1.get 6 rfl) (inB_of (by omega) (by omega))
theorem ToldAt.laE (D : ToldAt h T) {x : Int32} {k : Nat} (hx : x.toInt = (k : Int)) (hk : k < 2) : h.2.1 ((h.2.1 ((some T).getD 0) 5).getD 0) x.toNatClampNeg = some (T + 7 + 18 * k) := by
  rw [Option.getD_some, show h.2.1 T 5 = some (T + 3) from D.2.2.1 1 (by omega), Option.getD_some, n_eq hx]
  exact (D.2.2.2 k hk).1
theorem ToldAt.seE (D : ToldAt h T) {x : Int32} {k : Nat} (hx : x.toInt = (k : Int)) (hk : k < 2) : h.2.1 ((h.2.1 ((some T).getD 0) 6).getD 0) x.toNatClampNeg = some (T + 16 + 18 * k) := by
  rw [Option.getD_some, show h.2.1 T 6 = some (T + 4) from D.2.2.1 2 (by omega), Option.getD_some, n_eq hx]
  exact (D.2.2.2 k hk).2.2.1
theorem ToldAt.leE (D : ToldAt h T) {x : Int32} {k : Nat} (hx : x.toInt = (k : Int)) (hk : k < 2) : h.2.1 ((h.2.1 ((some T).getD 0) 7).getD 0) x.toNatClampNeg = some (T + 20 + 18 * k) := by
  rw [Option.getD_some, show h.2.1 T 7 = some (T + 5) from D.2.2.1 3 (by omega), Option.getD_some, n_eq hx]
  exact (D.2.2.2 k hk).2.2.2.2.1
theorem ToldAt.baE (D : ToldAt h T) {x : Int32} {k : Nat} (hx : x.toInt = (k : Int)) (hk : k < 2) : h.2.1 ((h.2.1 ((some T).getD 0) 8).getD 0) x.toNatClampNeg = some (T + 23 + 18 * k) := by
  rw [Option.getD_some, show h.2.1 T 8 = some (T + 6) from D.2.2.1 4 (by omega), Option.getD_some, n_eq hx]
  exact (D.2.2.2 k hk).2.2.2.2.2.2.1
theorem ToldAt.kp (D : ToldAt h T) (e : g.2 = h.2) : ToldAt g T := by
  simp only [ToldAt, LandAt, SeasonAt, LedgerAt, BargAt, ShAt, e] at D ⊢
  exact D
/-- one of each sort, the i-th, is the same -/
def HalfSm (h h' : MH) (T T' i : Nat) : Prop := LandSm h h' (T + 7 + 18 * i) (T' + 7 + 18 * i) ∧ SeasonSm h h' (T + 16 + 18 * i) (T' + 16 + 18 * i) ∧ LedgerSm h h' (T + 20 + 18 * i) (T' + 20 + 18 * i) ∧ BargSm h h' (T + 23 + 18 * i) (T' + 23 + 18 * i)
theorem LandSm.kp (s : LandSm h g a b) {h0 f : MH} (e1 : ∀ c, a ≤ c → c < a + 9 → h.1 c = h0.1 c) (e2 : ∀ c, b ≤ c → c < b + 9 → f.1 c = g.1 c) : LandSm h0 f a b := by
  obtain ⟨s1, s2, s3, s4⟩ := s
  exact ⟨fun j hj => by rw [e2 _ (by omega) (by omega), s1 j hj, e1 _ (by omega) (by omega)], fun c j hc hj => by rw [e2 _ (by omega) (by omega), s2 c j hc hj, e1 _ (by omega) (by omega)], fun c j hc hj => by rw [e2 _ (by omega) (by omega), s3 c j hc hj, e1 _ (by omega) (by omega)], fun j hj => by rw [e2 _ (by omega) (by omega), s4 j hj, e1 _ (by omega) (by omega)]⟩
theorem SeasonSm.kp (s : SeasonSm h g a b) {h0 f : MH} (e1 : ∀ c, a ≤ c → c < a + 4 → h.1 c = h0.1 c) (e2 : ∀ c, b ≤ c → c < b + 4 → f.1 c = g.1 c) : SeasonSm h0 f a b := ⟨by rw [e2 _ (by omega) (by omega), s.1, e1 _ (by omega) (by omega)], fun c j hc hj => by rw [e2 _ (by omega) (by omega), s.2 c j hc hj, e1 _ (by omega) (by omega)]⟩
theorem LedgerSm.kp (s : LedgerSm h g a b) {h0 f : MH} (e1 : ∀ c, a ≤ c → c < a + 3 → h.1 c = h0.1 c) (e2 : ∀ c, b ≤ c → c < b + 3 → f.1 c = g.1 c) : LedgerSm h0 f a b := ⟨by rw [e2 _ (by omega) (by omega), s.1, e1 _ (by omega) (by omega)], fun c j hc hj => by rw [e2 _ (by omega) (by omega), s.2 c j hc hj, e1 _ (by omega) (by omega)]⟩
theorem BargSm.kp (s : BargSm h g a b) {h0 f : MH} (e1 : ∀ c, a ≤ c → c < a + 2 → h.1 c = h0.1 c) (e2 : ∀ c, b ≤ c → c < b + 2 → f.1 c = g.1 c) : BargSm h0 f a b := ⟨by rw [e2 _ (by omega) (by omega), s.1, e1 _ (by omega) (by omega)], fun j hj => by rw [e2 _ (by omega) (by omega), s.2 j hj, e1 _ (by omega) (by omega)]⟩
theorem HalfSm.kp {i : Nat} (s : HalfSm h g T T' i) {f : MH} (e2 : ∀ c, T' + 7 + 18 * i ≤ c → c < T' + 25 + 18 * i → f.1 c = g.1 c) : HalfSm h f T T' i :=
  ⟨s.1.kp (fun _ _ _ => rfl) (fun c h1 h2 => e2 c (by omega) (by omega)), s.2.1.kp (fun _ _ _ => rfl) (fun c h1 h2 => e2 c (by omega) (by omega)), s.2.2.1.kp (fun _ _ _ => rfl) (fun c h1 h2 => e2 c (by omega) (by omega)), s.2.2.2.kp (fun _ _ _ => rfl) (fun c h1 h2 => e2 c (by omega) (by omega))⟩
/-- all that is told at T stands at T' too -/
def TCopy (h h' : MH) (T T' : Nat) : Prop := (∀ j, 1 ≤ j → j < 4 → h'.1 T' j = h.1 T j) ∧ (∀ j, j < 600 → h'.1 (T' + 1) j = h.1 (T + 1) j) ∧ TSame h h' T T'
theorem told40 {X : MH} {Q : Option MV → MH → Prop} {u : Option MV} (D0 : ToldAt X b) (D1 : ToldAt X a) (k : Wb rod d B_Told_become 54 [some (.inr (.inr (.inl (some b)))), some (.inr (.inr (.inl (some a)))), u] [] (sC X (a + 2) (b + 2) (0 : Int32).toNatClampNeg (0 : Int32).toNatClampNeg (4 : Int32).toNatClampNeg) Q) : Wb rod d B_Told_become 40 [some (.inr (.inr (.inl (some b)))), some (.inr (.inr (.inl (some a)))), u] [] X Q := by
  refine Wb.go (fun _ _ => b_Told_become_40 D1.gg D0.gg (cp_ok D1.mn.1 D0.mn.1 (by omega) D1.mn.2 D0.mn.2 (N := 4) (by decide) ⟨rfl, rfl⟩ ⟨by omega, by omega⟩)) ?_
  rw [Option.getD_some, Option.getD_some, show X.2.1 a 4 = some (a + 2) from D1.2.2.1 0 (by omega), show X.2.1 b 4 = some (b + 2) from D0.2.2.1 0 (by omega), Option.getD_some, Option.getD_some]
  exact k
theorem c_toldB (D0 : ToldAt h b) (D1 : ToldAt h a) (hd : b + 43 ≤ a ∨ a + 43 ≤ b) : Wc rod (d + 2) 187 [.inr (.inr (.inl (some b))), .inr (.inr (.inl (some a)))] h (fun r h' => r = none ∧ Mv h h' b (b + 43) ∧ TCopy h h' a b) := by
  refine Wc.en (fun _ _ => e_Told_become) ?_
  refine Wb.go (fun _ _ => b_Told_become_0 D1.gg D0.gg (cp_ok D1.tp.1 D0.tp.1 (by omega) D1.tp.2 D0.tp.2 (N := 600) (by decide) ⟨rfl, rfl⟩ ⟨by omega, by omega⟩)) ?_
  rw [Option.getD_some, Option.getD_some, D1.2.1, D0.2.1, Option.getD_some, Option.getD_some]
  refine Wb.go (fun _ _ => b_Told_become_16 D1.gg D0.gg) ?_
  refine Wb.go (fun _ _ => b_Told_become_24 D1.gg D0.gg) ?_
  refine Wb.go (fun _ _ => b_Told_become_32 D1.gg D0.gg) ?_
  refine told40 D0 D1 ?_
  refine Wb.go (fun _ _ => b_Told_become_54 rfl) ?_
  simp only [Option.getD_some]
  refine Wb.uph 2 (fun k L' f => ∃ (z : Int32), L' = [some (.inr (.inr (.inl (some b)))), some (.inr (.inr (.inl (some a)))), some (.inl z)] ∧ z.toInt = (k : Int) ∧ Mv h f b (b + 43) ∧ (∀ j, 1 ≤ j → j < 4 → f.1 b j = h.1 a j) ∧ (∀ j, j < 600 → f.1 (b + 1) j = h.1 (a + 1) j) ∧ (∀ j, j < 4 → f.1 (b + 2) j = h.1 (a + 2) j) ∧ ∀ i, i < k → HalfSm h f a b i) ?_ (Nat.zero_le _) ⟨0, rfl, rfl, ⟨rfl, fun c hc => by simp (disch := omega) only [sC_cell, sI_cell]⟩, fun j h1 h2 => ?_, fun j hj => ?_, fun j hj => ?_, fun i hi => absurd hi (by omega)⟩
  · rintro k _ f hk ⟨z, rfl, hz, M, f1, f2, f3, f4⟩ ih
    have E0 := D0.kp M.1
    have E1 := D1.kp M.1
    refine Wb.br (fun _ _ => b_Told_become_56) (fun c => ?_) (fun c => ?_)
    · have c' : (2 : Int) ≤ z.toInt := c_let c
      refine Wb.ret b_Told_become_127 ?_
      refine ⟨rfl, M, f1, f2, f3, fun i hi => ?_⟩
      obtain ⟨s1, s2, s3, s4⟩ := f4 i (by omega)
      exact ⟨s1.1, s1.2.1, s1.2.2.1, s1.2.2.2, s2.1, s2.2, s3.1, s3.2, s4.1, s4.2⟩
    have c' : ¬ (2 : Int) ≤ z.toInt := c_lef c
    have k2 : k < 2 := by omega
    refine Wb.call (Q1 := fun r f' => r = none ∧ Mv f f' (b + 7 + 18 * k) (b + 7 + 18 * k + 9) ∧ LandSm f f' (a + 7 + 18 * k) (b + 7 + 18 * k)) (fun _ _ _ _ => b_Told_become_61 E0.gg (E0.la hz k2) E1.gg (E1.la hz k2) (by rw [E0.laE hz k2]; exact gO_of ((E0.2.2.2 k k2).2.1.1.get 0 rfl))) (by rw [E0.laE hz k2, E1.laE hz k2]; exact c_landB (E0.2.2.2 k k2).2.1 (E1.2.2.2 k k2).2.1 (by omega)) ?_
    rintro _ g1 ⟨rfl, M1, S1⟩
    have E0 := E0.kp M1.1
    have E1 := E1.kp M1.1
    refine Wb.call (Q1 := fun r f' => r = none ∧ Mv g1 f' (b + 16 + 18 * k) (b + 16 + 18 * k + 4) ∧ SeasonSm g1 f' (a + 16 + 18 * k) (b + 16 + 18 * k)) (fun _ _ _ _ => b_Told_become_76 E0.gg (E0.se hz k2) E1.gg (E1.se hz k2) (by rw [E0.seE hz k2]; exact gO_of ((E0.2.2.2 k k2).2.2.2.1.1.get 0 rfl))) (by rw [E0.seE hz k2, E1.seE hz k2]; exact c_seasonB (E0.2.2.2 k k2).2.2.2.1 (E1.2.2.2 k k2).2.2.2.1 (by omega)) ?_
    rintro _ g2 ⟨rfl, M2, S2⟩
    have E0 := E0.kp M2.1
    have E1 := E1.kp M2.1
    refine Wb.call (Q1 := fun r f' => r = none ∧ Mv g2 f' (b + 20 + 18 * k) (b + 20 + 18 * k + 3) ∧ LedgerSm g2 f' (a + 20 + 18 * k) (b + 20 + 18 * k)) (fun _ _ _ _ => b_Told_become_91 E0.gg (E0.le hz k2) E1.gg (E1.le hz k2) (by rw [E0.leE hz k2]; exact gO_of ((E0.2.2.2 k k2).2.2.2.2.2.1.1.get 0 rfl))) (by rw [E0.leE hz k2, E1.leE hz k2]; exact c_ledgerB (E0.2.2.2 k k2).2.2.2.2.2.1 (E1.2.2.2 k k2).2.2.2.2.2.1 (by omega)) ?_
    rintro _ g3 ⟨rfl, M3, S3⟩
    have E0 := E0.kp M3.1
    have E1 := E1.kp M3.1
    refine Wb.call (Q1 := fun r f' => r = none ∧ Mv g3 f' (b + 23 + 18 * k) (b + 23 + 18 * k + 2) ∧ BargSm g3 f' (a + 23 + 18 * k) (b + 23 + 18 * k)) (fun _ _ _ _ => b_Told_become_106 E0.gg (E0.ba hz k2) E1.gg (E1.ba hz k2) (by rw [E0.baE hz k2]; exact gO_of ((E0.2.2.2 k k2).2.2.2.2.2.2.2.1.get 0 rfl))) (by rw [E0.baE hz k2, E1.baE hz k2]; exact c_bargB (E0.2.2.2 k k2).2.2.2.2.2.2.2 (E1.2.2.2 k k2).2.2.2.2.2.2.2 (by omega)) ?_
    rintro _ g4 ⟨rfl, M4, S4⟩
    refine Wb.go (fun _ _ => b_Told_become_121 rfl) ?_
    have N2 : Mv f g2 (b + 7 + 18 * k) (b + 25 + 18 * k) := M1.trans M2 (by omega) (by omega)
    have N3 : Mv f g3 (b + 7 + 18 * k) (b + 25 + 18 * k) := N2.trans M3 (by omega) (by omega)
    have N4 : Mv f g4 (b + 7 + 18 * k) (b + 25 + 18 * k) := N3.trans M4 (by omega) (by omega)
    have src : ∀ c, a ≤ c → c < a + 43 → f.1 c = h.1 c := fun c h1 h2 => M.2 c (by omega)
    refine ih k2 _ _ ⟨_, rfl, t_succ hz (by omega), M.trans N4 (by omega) (by omega), fun j h1 h2 => by rw [N4.2 _ (by omega)]; exact f1 j h1 h2, fun j hj => by rw [N4.2 _ (by omega)]; exact f2 j hj, fun j hj => by rw [N4.2 _ (by omega)]; exact f3 j hj, fun i hi => ?_⟩
    by_cases q : i = k
    · subst q
      refine ⟨S1.kp (fun c h1 h2 => src c (by omega) (by omega)) (fun c h1 h2 => ?_), S2.kp (fun c h1 h2 => ?_) (fun c h1 h2 => ?_), S3.kp (fun c h1 h2 => ?_) (fun c h1 h2 => ?_), S4.kp (fun c h1 h2 => ?_) (fun c h1 h2 => rfl)⟩
      · rw [M4.2 c (by omega), M3.2 c (by omega), M2.2 c (by omega)]
      · rw [M1.2 c (by omega), src c (by omega) (by omega)]
      · rw [M4.2 c (by omega), M3.2 c (by omega)]
      · rw [N2.2 c (by omega), src c (by omega) (by omega)]
      · rw [M4.2 c (by omega)]
      · rw [N3.2 c (by omega), src c (by omega) (by omega)]
    · exact (f4 i (by omega)).kp (fun c h1 h2 => N4.2 c (by omega))
  · rcases (show j = 1 ∨ j = 2 ∨ j = 3 by omega) with rfl | rfl | rfl <;> simp (disch := omega) only [sC0_8, sC0_4, sC0_36, sC0_40, sC0_20, sC0_16, sC0_600, sC_nc, sI_same, sI_nc, sI_nj]
  · simp (disch := omega) only [sC0_8, sC0_4, sC0_36, sC0_40, sC0_20, sC0_16, sC0_600, sC_nc, sI_same, sI_nc, sI_nj]
  · simp (disch := omega) only [sC0_8, sC0_4, sC0_36, sC0_40, sC0_20, sC0_16, sC0_600, sC_nc, sI_same, sI_nc, sI_nj]
end M69
