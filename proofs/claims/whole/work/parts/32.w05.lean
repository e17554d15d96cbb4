/-! RULES OF BLOCKS over postconditions, references resolved (5) -/
theorem n_Main_thieves {rod : Nat → Nat × (Nat → Int32)} {d : Nat} {Q : Option MV → MH → Prop} {x1 : Int32} {x2 : Int32} {h : MH} (k : Wb rod d B_Main_thieves 0 [some (.inr (.inr (.inl (some 0)))), some (.inl x1), some (.inl x2), none] [] h Q) : Wc rod (d + 1) 120 [.inr (.inr (.inl (some 0))), .inl x1, .inl x2] h Q := Wc.en (fun _ _ => e_Main_thieves) k
theorem w_Main_thieves_0 {rod : Nat → Nat × (Nat → Int32)} {d : Nat} {Q : Option MV → MH → Prop} {x1 : Int32} {u2 : Option MV} {u3 : Option MV} {h : MH} (L : Lay h.2)  {Q1 : Option MV → MH → Prop} (c : Wc rod d 116 [.inr (.inr (.inl (some 1))), .inl x1] h Q1) (k : ∀ r1 h2, Q1 r1 h2 → Wb rod d B_Main_thieves 8 [some (.inr (.inr (.inl (some 0)))), some (.inl x1), u2, u3] (r1.toList ++ []) h2 Q) : Wb rod d B_Main_thieves 0 [some (.inr (.inr (.inl (some 0)))), some (.inl x1), u2, u3] [] h Q := by
  refine Wb.call (fun _ _ _ _ => b_Main_thieves_0 (Lay.o0 L) (Lay.k0_0 L)) (Q1 := Q1) ?_ ?_
  · (first | exact c | (simp only [Option.getD_some, (Lay.r0_0 L)]; exact c))
  · (first | exact k | (simp only [Option.getD_some, (Lay.r0_0 L)]; exact k))
theorem w_Main_thieves_8 {rod : Nat → Nat × (Nat → Int32)} {d : Nat} {Q : Option MV → MH → Prop} {u0 : Option MV} {u1 : Option MV} {u2 : Option MV} {u3 : Option MV} {os0 : Option Nat} {h : MH}  (g0 : okl [u0, u1, u2, u3] 3 = true) (k1 : os0 = none → Wb rod d B_Main_thieves 13 [u0, u1, u2, some (.inr (.inr (.inl os0)))] [] h Q) (k2 : ∀ v, os0 = some v → Wb rod d B_Main_thieves 16 [u0, u1, u2, some (.inr (.inr (.inl os0)))] [] h Q) : Wb rod d B_Main_thieves 8 [u0, u1, u2, u3] [.inr (.inr (.inl os0))] h Q := by
  cases os0 with
  | none =>
    refine Wb.br (fun _ _ => b_Main_thieves_8 g0) (fun c => ?_) (fun c => ?_)
    · simp at c
    · exact k1 rfl
  | some v =>
    refine Wb.br (fun _ _ => b_Main_thieves_8 g0) (fun c => ?_) (fun c => ?_)
    · exact k2 v rfl
    · simp at c
theorem w_Main_thieves_13 {rod : Nat → Nat × (Nat → Int32)} {d : Nat} {Q : Option MV → MH → Prop} {u0 : Option MV} {u1 : Option MV} {u2 : Option MV} {u3 : Option MV} {h : MH}   (q : Q (some (.inl (-2 : Int32))) h) : Wb rod d B_Main_thieves 13 [u0, u1, u2, u3] [] h Q := by
  refine Wb.ret (b_Main_thieves_13) ?_
  (first | exact q | (simp only [Option.getD_some]; exact q))
theorem w_Main_thieves_16 {rod : Nat → Nat × (Nat → Int32)} {d : Nat} {Q : Option MV → MH → Prop} {u0 : Option MV} {u1 : Option MV} {x2 : Int32} {u3 : Option MV} {h : MH}   (k0 : x2.toInt = 0 → Wb rod d B_Main_thieves 44 [u0, u1, some (.inl x2), u3] [] h Q) (k1 : x2.toInt = 1 → Wb rod d B_Main_thieves 49 [u0, u1, some (.inl x2), u3] [] h Q) (k2 : x2.toInt = 2 → Wb rod d B_Main_thieves 54 [u0, u1, some (.inl x2), u3] [] h Q) (kd : x2.toInt ≠ 0 → x2.toInt ≠ 1 → x2.toInt ≠ 2 → Wb rod d B_Main_thieves 59 [u0, u1, some (.inl x2), u3] [] h Q) : Wb rod d B_Main_thieves 16 [u0, u1, some (.inl x2), u3] [] h Q := by
  have key : Wb rod d B_Main_thieves (tabT [27, 32, 37] 0 x2 17 59) [u0, u1, some (.inl x2), u3] [] h Q := by
    by_cases e0 : x2 = Int32.ofInt 0
    · rw [show tabT [27, 32, 37] 0 x2 17 59 = 44 from by rw [e0]; rfl]
      exact k0 (by rw [e0]; rfl)
    by_cases e1 : x2 = Int32.ofInt 1
    · rw [show tabT [27, 32, 37] 0 x2 17 59 = 49 from by rw [e1]; rfl]
      exact k1 (by rw [e1]; rfl)
    by_cases e2 : x2 = Int32.ofInt 2
    · rw [show tabT [27, 32, 37] 0 x2 17 59 = 54 from by rw [e2]; rfl]
      exact k2 (by rw [e2]; rfl)
    rw [show tabT [27, 32, 37] 0 x2 17 59 = 59 from (if_neg e0).trans ((if_neg e1).trans ((if_neg e2).trans (rfl)))]
    exact kd (fun q => e0 (Int32.toInt_inj.mp q)) (fun q => e1 (Int32.toInt_inj.mp q)) (fun q => e2 (Int32.toInt_inj.mp q))
  refine Wb.go (fun r hr q => b_Main_thieves_16 ?_) key
  (first | exact q | (simp only [Option.getD_some]; exact q))
theorem w_Main_thieves_44 {rod : Nat → Nat × (Nat → Int32)} {d : Nat} {Q : Option MV → MH → Prop} {u0 : Option MV} {u1 : Option MV} {u2 : Option MV} {a3 : Nat} {h : MH} (A3 : LedgerA h.2 a3)  {Q1 : Option MV → MH → Prop} (c : Wc rod d 121 [.inr (.inr (.inl (some a3)))] h Q1) (k : ∀ r1 h2, Q1 r1 h2 → Wb rod d B_Main_thieves 48 [u0, u1, u2, some (.inr (.inr (.inl (some a3))))] (r1.toList ++ []) h2 Q) : Wb rod d B_Main_thieves 44 [u0, u1, u2, some (.inr (.inr (.inl (some a3))))] [] h Q := by
  refine Wb.call (fun _ _ _ _ => b_Main_thieves_44 (A3.o)) (Q1 := Q1) ?_ ?_
  · (first | exact c | (simp only [Option.getD_some]; exact c))
  · (first | exact k | (simp only [Option.getD_some]; exact k))
theorem w_Main_thieves_48 {rod : Nat → Nat × (Nat → Int32)} {d : Nat} {Q : Option MV → MH → Prop} {u0 : Option MV} {u1 : Option MV} {u2 : Option MV} {u3 : Option MV} {xs0 : Int32} {h : MH}   (q : Q (some (.inl xs0)) h) : Wb rod d B_Main_thieves 48 [u0, u1, u2, u3] [.inl xs0] h Q := by
  refine Wb.ret (b_Main_thieves_48) ?_
  (first | exact q | (simp only [Option.getD_some]; exact q))
theorem w_Main_thieves_49 {rod : Nat → Nat × (Nat → Int32)} {d : Nat} {Q : Option MV → MH → Prop} {u0 : Option MV} {u1 : Option MV} {u2 : Option MV} {a3 : Nat} {h : MH} (A3 : LedgerA h.2 a3)  {Q1 : Option MV → MH → Prop} (c : Wc rod d 123 [.inr (.inr (.inl (some a3)))] h Q1) (k : ∀ r1 h2, Q1 r1 h2 → Wb rod d B_Main_thieves 53 [u0, u1, u2, some (.inr (.inr (.inl (some a3))))] (r1.toList ++ []) h2 Q) : Wb rod d B_Main_thieves 49 [u0, u1, u2, some (.inr (.inr (.inl (some a3))))] [] h Q := by
  refine Wb.call (fun _ _ _ _ => b_Main_thieves_49 (A3.o)) (Q1 := Q1) ?_ ?_
  · (first | exact c | (simp only [Option.getD_some]; exact c))
  · (first | exact k | (simp only [Option.getD_some]; exact k))
theorem w_Main_thieves_53 {rod : Nat → Nat × (Nat → Int32)} {d : Nat} {Q : Option MV → MH → Prop} {u0 : Option MV} {u1 : Option MV} {u2 : Option MV} {u3 : Option MV} {xs0 : Int32} {h : MH}   (q : Q (some (.inl xs0)) h) : Wb rod d B_Main_thieves 53 [u0, u1, u2, u3] [.inl xs0] h Q := by
  refine Wb.ret (b_Main_thieves_53) ?_
  (first | exact q | (simp only [Option.getD_some]; exact q))
theorem w_Main_thieves_54 {rod : Nat → Nat × (Nat → Int32)} {d : Nat} {Q : Option MV → MH → Prop} {u0 : Option MV} {u1 : Option MV} {u2 : Option MV} {a3 : Nat} {h : MH} (A3 : LedgerA h.2 a3)  {Q1 : Option MV → MH → Prop} (c : Wc rod d 124 [.inr (.inr (.inl (some a3)))] h Q1) (k : ∀ r1 h2, Q1 r1 h2 → Wb rod d B_Main_thieves 58 [u0, u1, u2, some (.inr (.inr (.inl (some a3))))] (r1.toList ++ []) h2 Q) : Wb rod d B_Main_thieves 54 [u0, u1, u2, some (.inr (.inr (.inl (some a3))))] [] h Q := by
  refine Wb.call (fun _ _ _ _ => b_Main_thieves_54 (A3.o)) (Q1 := Q1) ?_ ?_
  · (first | exact c | (simp only [Option.getD_some]; exact c))
  · (first | exact k | (simp only [Option.getD_some]; exact k))
theorem w_Main_thieves_58 {rod : Nat → Nat × (Nat → Int32)} {d : Nat} {Q : Option MV → MH → Prop} {u0 : Option MV} {u1 : Option MV} {u2 : Option MV} {u3 : Option MV} {xs0 : Int32} {h : MH}   (q : Q (some (.inl xs0)) h) : Wb rod d B_Main_thieves 58 [u0, u1, u2, u3] [.inl xs0] h Q := by
  refine Wb.ret (b_Main_thieves_58) ?_
  (first | exact q | (simp only [Option.getD_some]; exact q))
theorem w_Main_thieves_59 {rod : Nat → Nat × (Nat → Int32)} {d : Nat} {Q : Option MV → MH → Prop} {u0 : Option MV} {u1 : Option MV} {x2 : Int32} {u3 : Option MV} {h : MH}   (k1 : 10 ≤ x2.toInt → Wb rod d B_Main_thieves 70 [u0, u1, some (.inl x2), u3] [] h Q) (k2 : ¬ 10 ≤ x2.toInt → Wb rod d B_Main_thieves 65 [u0, u1, some (.inl x2), u3] [] h Q) : Wb rod d B_Main_thieves 59 [u0, u1, some (.inl x2), u3] [] h Q := by
  refine Wb.br (fun _ _ => b_Main_thieves_59) (fun c => ?_) (fun c => ?_)
  · have c : (decide ((10 : Int32) ≤ x2)) = true := by first | exact c | (simp only [Option.getD_some] at c; exact c)
    (first | exact (k1 (c_let c)) | (simp only [Option.getD_some]; exact (k1 (c_let c))))
  · have c : (decide ((10 : Int32) ≤ x2)) = false := by first | exact c | (simp only [Option.getD_some] at c; exact c)
    (first | exact (k2 (c_lef c)) | (simp only [Option.getD_some]; exact (k2 (c_lef c))))
theorem w_Main_thieves_65 {rod : Nat → Nat × (Nat → Int32)} {d : Nat} {Q : Option MV → MH → Prop} {u0 : Option MV} {u1 : Option MV} {u2 : Option MV} {u3 : Option MV} {h : MH}   (k : Wb rod d B_Main_thieves 78 [u0, u1, u2, u3] [.inl (-2 : Int32)] h Q) : Wb rod d B_Main_thieves 65 [u0, u1, u2, u3] [] h Q := by
  refine Wb.go (fun r hr q => b_Main_thieves_65 ?_) k
  (first | exact q | (simp only [Option.getD_some]; exact q))
theorem w_Main_thieves_70 {rod : Nat → Nat × (Nat → Int32)} {d : Nat} {Q : Option MV → MH → Prop} {u0 : Option MV} {u1 : Option MV} {x2 : Int32} {a3 : Nat} {h : MH} (A3 : LedgerA h.2 a3)  {Q1 : Option MV → MH → Prop} (c : Wc rod d 125 [.inr (.inr (.inl (some a3))), .inl (x2 - (10 : Int32))] h Q1) (k : ∀ r1 h2, Q1 r1 h2 → Wb rod d B_Main_thieves 78 [u0, u1, some (.inl x2), some (.inr (.inr (.inl (some a3))))] (r1.toList ++ []) h2 Q) : Wb rod d B_Main_thieves 70 [u0, u1, some (.inl x2), some (.inr (.inr (.inl (some a3))))] [] h Q := by
  refine Wb.call (fun _ _ _ _ => b_Main_thieves_70 (A3.o)) (Q1 := Q1) ?_ ?_
  · (first | exact c | (simp only [Option.getD_some]; exact c))
  · (first | exact k | (simp only [Option.getD_some]; exact k))
theorem w_Main_thieves_78 {rod : Nat → Nat × (Nat → Int32)} {d : Nat} {Q : Option MV → MH → Prop} {u0 : Option MV} {u1 : Option MV} {u2 : Option MV} {u3 : Option MV} {xs0 : Int32} {h : MH}   (q : Q (some (.inl xs0)) h) : Wb rod d B_Main_thieves 78 [u0, u1, u2, u3] [.inl xs0] h Q := by
  refine Wb.ret (b_Main_thieves_78) ?_
  (first | exact q | (simp only [Option.getD_some]; exact q))
theorem n_Ledger_howManyFit {rod : Nat → Nat × (Nat → Int32)} {d : Nat} {Q : Option MV → MH → Prop} {a0 : Nat} {h : MH} (k : Wb rod d B_Ledger_howManyFit 0 [some (.inr (.inr (.inl (some a0)))), none, none] [] h Q) : Wc rod (d + 1) 121 [.inr (.inr (.inl (some a0)))] h Q := Wc.en (fun _ _ => e_Ledger_howManyFit) k
theorem w_Ledger_howManyFit_0 {rod : Nat → Nat × (Nat → Int32)} {d : Nat} {Q : Option MV → MH → Prop} {u0 : Option MV} {u1 : Option MV} {u2 : Option MV} {h : MH}  (g0 : okl [u0, u1, u2] 1 = true) (k : Wb rod d B_Ledger_howManyFit 4 [u0, some (.inl (0 : Int32)), some (.inl (0 : Int32))] [] h Q) : Wb rod d B_Ledger_howManyFit 0 [u0, u1, u2] [] h Q := by
  refine Wb.go (fun r hr q => b_Ledger_howManyFit_0 g0 ?_) k
  (first | exact q | (simp only [Option.getD_some]; exact q))
theorem w_Ledger_howManyFit_4 {rod : Nat → Nat × (Nat → Int32)} {d : Nat} {Q : Option MV → MH → Prop} {u0 : Option MV} {u1 : Option MV} {x2 : Int32} {h : MH}   (k1 : 64 ≤ x2.toInt → Wb rod d B_Ledger_howManyFit 27 [u0, u1, some (.inl x2)] [] h Q) (k2 : ¬ 64 ≤ x2.toInt → Wb rod d B_Ledger_howManyFit 10 [u0, u1, some (.inl x2)] [] h Q) : Wb rod d B_Ledger_howManyFit 4 [u0, u1, some (.inl x2)] [] h Q := by
  refine Wb.br (fun _ _ => b_Ledger_howManyFit_4) (fun c => ?_) (fun c => ?_)
  · have c : (decide ((64 : Int32) ≤ x2)) = true := by first | exact c | (simp only [Option.getD_some] at c; exact c)
    (first | exact (k1 (c_let c)) | (simp only [Option.getD_some]; exact (k1 (c_let c))))
  · have c : (decide ((64 : Int32) ≤ x2)) = false := by first | exact c | (simp only [Option.getD_some] at c; exact c)
    (first | exact (k2 (c_lef c)) | (simp only [Option.getD_some]; exact (k2 (c_lef c))))
theorem w_Ledger_howManyFit_10 {rod : Nat → Nat × (Nat → Int32)} {d : Nat} {Q : Option MV → MH → Prop} {a0 : Nat} {u1 : Option MV} {x2 : Int32} {h : MH} (A0 : LedgerA h.2 a0)  {Q1 : Option MV → MH → Prop} (c : Wc rod d 122 [.inr (.inr (.inl (some a0))), .inl x2] h Q1) (k : ∀ r1 h2, Q1 r1 h2 → Wb rod d B_Ledger_howManyFit 15 [some (.inr (.inr (.inl (some a0)))), u1, some (.inl x2)] (r1.toList ++ []) h2 Q) : Wb rod d B_Ledger_howManyFit 10 [some (.inr (.inr (.inl (some a0)))), u1, some (.inl x2)] [] h Q := by
  refine Wb.call (fun _ _ _ _ => b_Ledger_howManyFit_10 (A0.o)) (Q1 := Q1) ?_ ?_
  · (first | exact c | (simp only [Option.getD_some]; exact c))
  · (first | exact k | (simp only [Option.getD_some]; exact k))
theorem w_Ledger_howManyFit_15 {rod : Nat → Nat × (Nat → Int32)} {d : Nat} {Q : Option MV → MH → Prop} {u0 : Option MV} {u1 : Option MV} {u2 : Option MV} {xs0 : Int32} {h : MH}   (k1 : xs0.toInt = 0 → Wb rod d B_Ledger_howManyFit 21 [u0, u1, u2] [] h Q) (k2 : ¬ xs0.toInt = 0 → Wb rod d B_Ledger_howManyFit 18 [u0, u1, u2] [] h Q) : Wb rod d B_Ledger_howManyFit 15 [u0, u1, u2] [.inl xs0] h Q := by
  refine Wb.br (fun _ _ => b_Ledger_howManyFit_15) (fun c => ?_) (fun c => ?_)
  · have c : (decide (xs0 = 0)) = true := by first | exact c | (simp only [Option.getD_some] at c; exact c)
    (first | exact (k1 (c_eqt c)) | (simp only [Option.getD_some]; exact (k1 (c_eqt c))))
  · have c : (decide (xs0 = 0)) = false := by first | exact c | (simp only [Option.getD_some] at c; exact c)
    (first | exact (k2 (c_eqf c)) | (simp only [Option.getD_some]; exact (k2 (c_eqf c))))
theorem w_Ledger_howManyFit_18 {rod : Nat → Nat × (Nat → Int32)} {d : Nat} {Q : Option MV → MH → Prop} {u0 : Option MV} {x1 : Int32} {u2 : Option MV} {h : MH}  (g0 : okl [u0, some (.inl x1), u2] 1 = true) (k : Wb rod d B_Ledger_howManyFit 21 [u0, some (.inl (x1 + 1)), u2] [] h Q) : Wb rod d B_Ledger_howManyFit 18 [u0, some (.inl x1), u2] [] h Q := by
  refine Wb.go (fun r hr q => b_Ledger_howManyFit_18 g0 ?_) k
  (first | exact q | (simp only [Option.getD_some]; exact q))
theorem w_Ledger_howManyFit_21 {rod : Nat → Nat × (Nat → Int32)} {d : Nat} {Q : Option MV → MH → Prop} {u0 : Option MV} {u1 : Option MV} {x2 : Int32} {h : MH}  (g0 : okl [u0, u1, some (.inl x2)] 2 = true) (k : Wb rod d B_Ledger_howManyFit 4 [u0, u1, some (.inl (x2 + 1))] [] h Q) : Wb rod d B_Ledger_howManyFit 21 [u0, u1, some (.inl x2)] [] h Q := by
  refine Wb.go (fun r hr q => b_Ledger_howManyFit_21 g0 ?_) k
  (first | exact q | (simp only [Option.getD_some]; exact q))
theorem w_Ledger_howManyFit_27 {rod : Nat → Nat × (Nat → Int32)} {d : Nat} {Q : Option MV → MH → Prop} {u0 : Option MV} {x1 : Int32} {u2 : Option MV} {h : MH}   (q : Q (some (.inl x1)) h) : Wb rod d B_Ledger_howManyFit 27 [u0, some (.inl x1), u2] [] h Q := by
  refine Wb.ret (b_Ledger_howManyFit_27) ?_
  (first | exact q | (simp only [Option.getD_some]; exact q))
theorem n_Ledger_fits {rod : Nat → Nat × (Nat → Int32)} {d : Nat} {Q : Option MV → MH → Prop} {a0 : Nat} {x1 : Int32} {h : MH} (k : Wb rod d B_Ledger_fits 0 [some (.inr (.inr (.inl (some a0)))), some (.inl x1), none, none, none, none, none] [] h Q) : Wc rod (d + 1) 122 [.inr (.inr (.inl (some a0))), .inl x1] h Q := Wc.en (fun _ _ => e_Ledger_fits) k
theorem w_Ledger_fits_0 {rod : Nat → Nat × (Nat → Int32)} {d : Nat} {Q : Option MV → MH → Prop} {u0 : Option MV} {u1 : Option MV} {u2 : Option MV} {u3 : Option MV} {u4 : Option MV} {u5 : Option MV} {u6 : Option MV} {h : MH}  (g0 : okl [u0, u1, u2, u3, u4, u5, u6] 2 = true) (k : Wb rod d B_Ledger_fits 7 [u0, u1, some (.inl (0 : Int32)), some (.inl (0 : Int32)), some (.inl (0 : Int32)), u5, u6] [] h Q) : Wb rod d B_Ledger_fits 0 [u0, u1, u2, u3, u4, u5, u6] [] h Q := by
  refine Wb.go (fun r hr q => b_Ledger_fits_0 g0 ?_) k
  (first | exact q | (simp only [Option.getD_some]; exact q))
theorem w_Ledger_fits_7 {rod : Nat → Nat × (Nat → Int32)} {d : Nat} {Q : Option MV → MH → Prop} {a0 : Nat} {u1 : Option MV} {u2 : Option MV} {u3 : Option MV} {x4 : Int32} {u5 : Option MV} {u6 : Option MV} {h : MH} (A0 : LedgerA h.2 a0)  (k1 : (h.1 a0 0).toInt ≤ x4.toInt → Wb rod d B_Ledger_fits 149 [some (.inr (.inr (.inl (some a0)))), u1, u2, u3, some (.inl x4), u5, u6] [] h Q) (k2 : ¬ (h.1 a0 0).toInt ≤ x4.toInt → Wb rod d B_Ledger_fits 16 [some (.inr (.inr (.inl (some a0)))), u1, u2, u3, some (.inl x4), u5, u6] [] h Q) : Wb rod d B_Ledger_fits 7 [some (.inr (.inr (.inl (some a0)))), u1, u2, u3, some (.inl x4), u5, u6] [] h Q := by
  refine Wb.br (fun _ _ => b_Ledger_fits_7 (A0.o)) (fun c => ?_) (fun c => ?_)
  · have c : (decide ((h.1 a0 0) ≤ x4)) = true := by first | exact c | (simp only [Option.getD_some] at c; exact c)
    (first | exact (k1 (c_let c)) | (simp only [Option.getD_some]; exact (k1 (c_let c))))
  · have c : (decide ((h.1 a0 0) ≤ x4)) = false := by first | exact c | (simp only [Option.getD_some] at c; exact c)
    (first | exact (k2 (c_lef c)) | (simp only [Option.getD_some]; exact (k2 (c_lef c))))
theorem w_Ledger_fits_16 {rod : Nat → Nat × (Nat → Int32)} {d : Nat} {Q : Option MV → MH → Prop} {a0 : Nat} {u1 : Option MV} {u2 : Option MV} {u3 : Option MV} {x4 : Int32} {u5 : Option MV} {u6 : Option MV} {h : MH} (A0 : LedgerA h.2 a0) (g0 : 0 ≤ x4.toInt ∧ x4.toInt < 20) (k0 : (h.1 (a0 + 1) x4.toNatClampNeg).toInt = 0 → Wb rod d B_Ledger_fits 52 [some (.inr (.inr (.inl (some a0)))), u1, u2, u3, some (.inl x4), u5, u6] [] h Q) (k1 : (h.1 (a0 + 1) x4.toNatClampNeg).toInt = 1 → Wb rod d B_Ledger_fits 65 [some (.inr (.inr (.inl (some a0)))), u1, u2, u3, some (.inl x4), u5, u6] [] h Q) (k2 : (h.1 (a0 + 1) x4.toNatClampNeg).toInt = 2 → Wb rod d B_Ledger_fits 93 [some (.inr (.inr (.inl (some a0)))), u1, u2, u3, some (.inl x4), u5, u6] [] h Q) (k3 : (h.1 (a0 + 1) x4.toNatClampNeg).toInt = 3 → Wb rod d B_Ledger_fits 78 [some (.inr (.inr (.inl (some a0)))), u1, u2, u3, some (.inl x4), u5, u6] [] h Q) (kd : (h.1 (a0 + 1) x4.toNatClampNeg).toInt ≠ 0 → (h.1 (a0 + 1) x4.toNatClampNeg).toInt ≠ 1 → (h.1 (a0 + 1) x4.toNatClampNeg).toInt ≠ 2 → (h.1 (a0 + 1) x4.toNatClampNeg).toInt ≠ 3 → Wb rod d B_Ledger_fits 93 [some (.inr (.inr (.inl (some a0)))), u1, u2, u3, some (.inl x4), u5, u6] [] h Q) : Wb rod d B_Ledger_fits 16 [some (.inr (.inr (.inl (some a0)))), u1, u2, u3, some (.inl x4), u5, u6] [] h Q := by
  have key : Wb rod d B_Ledger_fits (tabT [29, 42, 70, 55] 0 (h.1 (a0 + 1) x4.toNatClampNeg) 23 93) [some (.inr (.inr (.inl (some a0)))), u1, u2, u3, some (.inl x4), u5, u6] [] h Q := by
    by_cases e0 : (h.1 (a0 + 1) x4.toNatClampNeg) = Int32.ofInt 0
    · rw [show tabT [29, 42, 70, 55] 0 (h.1 (a0 + 1) x4.toNatClampNeg) 23 93 = 52 from by rw [e0]; rfl]
      exact k0 (by rw [e0]; rfl)
    by_cases e1 : (h.1 (a0 + 1) x4.toNatClampNeg) = Int32.ofInt 1
    · rw [show tabT [29, 42, 70, 55] 0 (h.1 (a0 + 1) x4.toNatClampNeg) 23 93 = 65 from by rw [e1]; rfl]
      exact k1 (by rw [e1]; rfl)
    by_cases e2 : (h.1 (a0 + 1) x4.toNatClampNeg) = Int32.ofInt 2
    · rw [show tabT [29, 42, 70, 55] 0 (h.1 (a0 + 1) x4.toNatClampNeg) 23 93 = 93 from by rw [e2]; rfl]
      exact k2 (by rw [e2]; rfl)
    by_cases e3 : (h.1 (a0 + 1) x4.toNatClampNeg) = Int32.ofInt 3
    · rw [show tabT [29, 42, 70, 55] 0 (h.1 (a0 + 1) x4.toNatClampNeg) 23 93 = 78 from by rw [e3]; rfl]
      exact k3 (by rw [e3]; rfl)
    rw [show tabT [29, 42, 70, 55] 0 (h.1 (a0 + 1) x4.toNatClampNeg) 23 93 = 93 from (if_neg e0).trans ((if_neg e1).trans ((if_neg e2).trans ((if_neg e3).trans (rfl))))]
    exact kd (fun q => e0 (Int32.toInt_inj.mp q)) (fun q => e1 (Int32.toInt_inj.mp q)) (fun q => e2 (Int32.toInt_inj.mp q)) (fun q => e3 (Int32.toInt_inj.mp q))
  refine Wb.go (fun r hr q => b_Ledger_fits_16 (A0.o) (A0.a1 g0) ?_) key
  (first | exact q | (simp only [Option.getD_some, A0.r1]; exact q))
theorem w_Ledger_fits_52 {rod : Nat → Nat × (Nat → Int32)} {d : Nat} {Q : Option MV → MH → Prop} {a0 : Nat} {u1 : Option MV} {x2 : Int32} {u3 : Option MV} {x4 : Int32} {u5 : Option MV} {u6 : Option MV} {h : MH} (A0 : LedgerA h.2 a0) (g0 : 0 ≤ x4.toInt ∧ x4.toInt < 20) (g1 : okl [some (.inr (.inr (.inl (some a0)))), u1, some (.inl x2), u3, some (.inl x4), u5, u6] 2 = true) (k : Wb rod d B_Ledger_fits 143 [some (.inr (.inr (.inl (some a0)))), u1, some (.inl (x2 + (h.1 (a0 + 2) x4.toNatClampNeg))), u3, some (.inl x4), u5, u6] [] h Q) : Wb rod d B_Ledger_fits 52 [some (.inr (.inr (.inl (some a0)))), u1, some (.inl x2), u3, some (.inl x4), u5, u6] [] h Q := by
  refine Wb.go (fun r hr q => b_Ledger_fits_52 (A0.o) (A0.a2 g0) g1 ?_) k
  (first | exact q | (simp only [Option.getD_some, A0.r2]; exact q))
theorem w_Ledger_fits_65 {rod : Nat → Nat × (Nat → Int32)} {d : Nat} {Q : Option MV → MH → Prop} {a0 : Nat} {u1 : Option MV} {x2 : Int32} {u3 : Option MV} {x4 : Int32} {u5 : Option MV} {u6 : Option MV} {h : MH} (A0 : LedgerA h.2 a0) (g0 : 0 ≤ x4.toInt ∧ x4.toInt < 20) (g1 : okl [some (.inr (.inr (.inl (some a0)))), u1, some (.inl x2), u3, some (.inl x4), u5, u6] 2 = true) (k : Wb rod d B_Ledger_fits 143 [some (.inr (.inr (.inl (some a0)))), u1, some (.inl (x2 - (h.1 (a0 + 2) x4.toNatClampNeg))), u3, some (.inl x4), u5, u6] [] h Q) : Wb rod d B_Ledger_fits 65 [some (.inr (.inr (.inl (some a0)))), u1, some (.inl x2), u3, some (.inl x4), u5, u6] [] h Q := by
  refine Wb.go (fun r hr q => b_Ledger_fits_65 (A0.o) (A0.a2 g0) g1 ?_) k
  (first | exact q | (simp only [Option.getD_some, A0.r2]; exact q))
theorem w_Ledger_fits_78 {rod : Nat → Nat × (Nat → Int32)} {d : Nat} {Q : Option MV → MH → Prop} {a0 : Nat} {u1 : Option MV} {u2 : Option MV} {x3 : Int32} {x4 : Int32} {u5 : Option MV} {u6 : Option MV} {h : MH} (A0 : LedgerA h.2 a0) (g0 : 0 ≤ x4.toInt ∧ x4.toInt < 20) (g1 : okl [some (.inr (.inr (.inl (some a0)))), u1, u2, some (.inl x3), some (.inl x4), u5, u6] 3 = true) (k : Wb rod d B_Ledger_fits 143 [some (.inr (.inr (.inl (some a0)))), u1, u2, some (.inl (x3 ||| ((1 : Int32) <<< ((h.1 (a0 + 2) x4.toNatClampNeg) &&& 31)))), some (.inl x4), u5, u6] [] h Q) : Wb rod d B_Ledger_fits 78 [some (.inr (.inr (.inl (some a0)))), u1, u2, some (.inl x3), some (.inl x4), u5, u6] [] h Q := by
  refine Wb.go (fun r hr q => b_Ledger_fits_78 (A0.o) (A0.a2 g0) g1 ?_) k
  (first | exact q | (simp only [Option.getD_some, A0.r2]; exact q))
theorem w_Ledger_fits_93 {rod : Nat → Nat × (Nat → Int32)} {d : Nat} {Q : Option MV → MH → Prop} {a0 : Nat} {u1 : Option MV} {x2 : Int32} {u3 : Option MV} {x4 : Int32} {u5 : Option MV} {u6 : Option MV} {h : MH} (A0 : LedgerA h.2 a0) (g0 : 0 ≤ x4.toInt ∧ x4.toInt < 20) (k1 : x2.toInt ≤ (h.1 (a0 + 2) x4.toNatClampNeg).toInt → Wb rod d B_Ledger_fits 108 [some (.inr (.inr (.inl (some a0)))), u1, some (.inl x2), u3, some (.inl x4), u5, u6] [] h Q) (k2 : ¬ x2.toInt ≤ (h.1 (a0 + 2) x4.toNatClampNeg).toInt → Wb rod d B_Ledger_fits 104 [some (.inr (.inr (.inl (some a0)))), u1, some (.inl x2), u3, some (.inl x4), u5, u6] [] h Q) : Wb rod d B_Ledger_fits 93 [some (.inr (.inr (.inl (some a0)))), u1, some (.inl x2), u3, some (.inl x4), u5, u6] [] h Q := by
  refine Wb.br (fun _ _ => b_Ledger_fits_93 (A0.o) (A0.a2 g0)) (fun c => ?_) (fun c => ?_)
  · have c : (decide (x2 ≤ (h.1 (a0 + 2) x4.toNatClampNeg))) = true := by first | exact c | (simp only [Option.getD_some, A0.r2] at c; exact c)
    (first | exact (k1 (c_let c)) | (simp only [Option.getD_some, A0.r2]; exact (k1 (c_let c))))
  · have c : (decide (x2 ≤ (h.1 (a0 + 2) x4.toNatClampNeg))) = false := by first | exact c | (simp only [Option.getD_some, A0.r2] at c; exact c)
    (first | exact (k2 (c_lef c)) | (simp only [Option.getD_some, A0.r2]; exact (k2 (c_lef c))))
theorem w_Ledger_fits_104 {rod : Nat → Nat × (Nat → Int32)} {d : Nat} {Q : Option MV → MH → Prop} {u0 : Option MV} {u1 : Option MV} {u2 : Option MV} {u3 : Option MV} {u4 : Option MV} {u5 : Option MV} {u6 : Option MV} {h : MH}   (k : Wb rod d B_Ledger_fits 109 [u0, u1, u2, u3, u4, u5, u6] [.inl (1 : Int32)] h Q) : Wb rod d B_Ledger_fits 104 [u0, u1, u2, u3, u4, u5, u6] [] h Q := by
  refine Wb.go (fun r hr q => b_Ledger_fits_104 ?_) k
  (first | exact q | (simp only [Option.getD_some]; exact q))
theorem w_Ledger_fits_108 {rod : Nat → Nat × (Nat → Int32)} {d : Nat} {Q : Option MV → MH → Prop} {u0 : Option MV} {u1 : Option MV} {u2 : Option MV} {u3 : Option MV} {u4 : Option MV} {u5 : Option MV} {u6 : Option MV} {h : MH}   (k : Wb rod d B_Ledger_fits 109 [u0, u1, u2, u3, u4, u5, u6] [.inl (0 : Int32)] h Q) : Wb rod d B_Ledger_fits 108 [u0, u1, u2, u3, u4, u5, u6] [] h Q := by
  refine Wb.go (fun r hr q => b_Ledger_fits_108 ?_) k
  (first | exact q | (simp only [Option.getD_some]; exact q))
theorem w_Ledger_fits_109 {rod : Nat → Nat × (Nat → Int32)} {d : Nat} {Q : Option MV → MH → Prop} {u0 : Option MV} {x1 : Int32} {u2 : Option MV} {x3 : Int32} {u4 : Option MV} {u5 : Option MV} {u6 : Option MV} {xs0 : Int32} {h : MH}  (g0 : okl [u0, some (.inl x1), u2, some (.inl x3), u4, u5, u6] 5 = true) (k1 : (x1 &&& x3).toInt = 0 → Wb rod d B_Ledger_fits 121 [u0, some (.inl x1), u2, some (.inl x3), u4, some (.inl xs0), u6] [] h Q) (k2 : ¬ (x1 &&& x3).toInt = 0 → Wb rod d B_Ledger_fits 117 [u0, some (.inl x1), u2, some (.inl x3), u4, some (.inl xs0), u6] [] h Q) : Wb rod d B_Ledger_fits 109 [u0, some (.inl x1), u2, some (.inl x3), u4, u5, u6] [.inl xs0] h Q := by
  refine Wb.br (fun _ _ => b_Ledger_fits_109 g0) (fun c => ?_) (fun c => ?_)
  · have c : (decide ((x1 &&& x3) = 0)) = true := by first | exact c | (simp only [Option.getD_some] at c; exact c)
    (first | exact (k1 (c_eqt c)) | (simp only [Option.getD_some]; exact (k1 (c_eqt c))))
  · have c : (decide ((x1 &&& x3) = 0)) = false := by first | exact c | (simp only [Option.getD_some] at c; exact c)
    (first | exact (k2 (c_eqf c)) | (simp only [Option.getD_some]; exact (k2 (c_eqf c))))
theorem w_Ledger_fits_117 {rod : Nat → Nat × (Nat → Int32)} {d : Nat} {Q : Option MV → MH → Prop} {u0 : Option MV} {u1 : Option MV} {u2 : Option MV} {u3 : Option MV} {u4 : Option MV} {u5 : Option MV} {u6 : Option MV} {h : MH}   (k : Wb rod d B_Ledger_fits 122 [u0, u1, u2, u3, u4, u5, u6] [.inl (1 : Int32)] h Q) : Wb rod d B_Ledger_fits 117 [u0, u1, u2, u3, u4, u5, u6] [] h Q := by
  refine Wb.go (fun r hr q => b_Ledger_fits_117 ?_) k
  (first | exact q | (simp only [Option.getD_some]; exact q))
theorem w_Ledger_fits_121 {rod : Nat → Nat × (Nat → Int32)} {d : Nat} {Q : Option MV → MH → Prop} {u0 : Option MV} {u1 : Option MV} {u2 : Option MV} {u3 : Option MV} {u4 : Option MV} {u5 : Option MV} {u6 : Option MV} {h : MH}   (k : Wb rod d B_Ledger_fits 122 [u0, u1, u2, u3, u4, u5, u6] [.inl (0 : Int32)] h Q) : Wb rod d B_Ledger_fits 121 [u0, u1, u2, u3, u4, u5, u6] [] h Q := by
  refine Wb.go (fun r hr q => b_Ledger_fits_121 ?_) k
  (first | exact q | (simp only [Option.getD_some]; exact q))
theorem w_Ledger_fits_122 {rod : Nat → Nat × (Nat → Int32)} {d : Nat} {Q : Option MV → MH → Prop} {u0 : Option MV} {u1 : Option MV} {u2 : Option MV} {u3 : Option MV} {u4 : Option MV} {x5 : Int32} {u6 : Option MV} {xs0 : Int32} {h : MH}   (k1 : x5.toInt = xs0.toInt → Wb rod d B_Ledger_fits 133 [u0, u1, u2, u3, u4, some (.inl x5), some (.inl xs0)] [] h Q) (k2 : ¬ x5.toInt = xs0.toInt → Wb rod d B_Ledger_fits 131 [u0, u1, u2, u3, u4, some (.inl x5), some (.inl xs0)] [] h Q) : Wb rod d B_Ledger_fits 122 [u0, u1, u2, u3, u4, some (.inl x5), u6] [.inl xs0] h Q := by
  refine Wb.br (fun _ _ => b_Ledger_fits_122) (fun c => ?_) (fun c => ?_)
  · have c : (decide (x5 = xs0)) = true := by first | exact c | (simp only [Option.getD_some] at c; exact c)
    (first | exact (k1 (c_eqt c)) | (simp only [Option.getD_some]; exact (k1 (c_eqt c))))
  · have c : (decide (x5 = xs0)) = false := by first | exact c | (simp only [Option.getD_some] at c; exact c)
    (first | exact (k2 (c_eqf c)) | (simp only [Option.getD_some]; exact (k2 (c_eqf c))))
theorem w_Ledger_fits_131 {rod : Nat → Nat × (Nat → Int32)} {d : Nat} {Q : Option MV → MH → Prop} {u0 : Option MV} {u1 : Option MV} {u2 : Option MV} {u3 : Option MV} {u4 : Option MV} {u5 : Option MV} {u6 : Option MV} {h : MH}   (q : Q (some (.inl (0 : Int32))) h) : Wb rod d B_Ledger_fits 131 [u0, u1, u2, u3, u4, u5, u6] [] h Q := by
  refine Wb.ret (b_Ledger_fits_131) ?_
  (first | exact q | (simp only [Option.getD_some]; exact q))
theorem w_Ledger_fits_133 {rod : Nat → Nat × (Nat → Int32)} {d : Nat} {Q : Option MV → MH → Prop} {a0 : Nat} {u1 : Option MV} {u2 : Option MV} {u3 : Option MV} {x4 : Int32} {u5 : Option MV} {u6 : Option MV} {h : MH} (A0 : LedgerA h.2 a0) (g0 : 0 ≤ x4.toInt ∧ x4.toInt < 20) (g1 : okl [some (.inr (.inr (.inl (some a0)))), u1, u2, u3, some (.inl x4), u5, u6] 2 = true) (k : Wb rod d B_Ledger_fits 143 [some (.inr (.inr (.inl (some a0)))), u1, some (.inl (h.1 (a0 + 2) x4.toNatClampNeg)), some (.inl (0 : Int32)), some (.inl x4), u5, u6] [] h Q) : Wb rod d B_Ledger_fits 133 [some (.inr (.inr (.inl (some a0)))), u1, u2, u3, some (.inl x4), u5, u6] [] h Q := by
  refine Wb.go (fun r hr q => b_Ledger_fits_133 (A0.o) (A0.a2 g0) g1 ?_) k
  (first | exact q | (simp only [Option.getD_some, A0.r2]; exact q))
theorem w_Ledger_fits_143 {rod : Nat → Nat × (Nat → Int32)} {d : Nat} {Q : Option MV → MH → Prop} {u0 : Option MV} {u1 : Option MV} {u2 : Option MV} {u3 : Option MV} {x4 : Int32} {u5 : Option MV} {u6 : Option MV} {h : MH}  (g0 : okl [u0, u1, u2, u3, some (.inl x4), u5, u6] 4 = true) (k : Wb rod d B_Ledger_fits 7 [u0, u1, u2, u3, some (.inl (x4 + 1)), u5, u6] [] h Q) : Wb rod d B_Ledger_fits 143 [u0, u1, u2, u3, some (.inl x4), u5, u6] [] h Q := by
  refine Wb.go (fun r hr q => b_Ledger_fits_143 g0 ?_) k
  (first | exact q | (simp only [Option.getD_some]; exact q))
theorem w_Ledger_fits_149 {rod : Nat → Nat × (Nat → Int32)} {d : Nat} {Q : Option MV → MH → Prop} {u0 : Option MV} {u1 : Option MV} {u2 : Option MV} {u3 : Option MV} {u4 : Option MV} {u5 : Option MV} {u6 : Option MV} {h : MH}   (q : Q (some (.inl (1 : Int32))) h) : Wb rod d B_Ledger_fits 149 [u0, u1, u2, u3, u4, u5, u6] [] h Q := by
  refine Wb.ret (b_Ledger_fits_149) ?_
  (first | exact q | (simp only [Option.getD_some]; exact q))
theorem n_Ledger_sure {rod : Nat → Nat × (Nat → Int32)} {d : Nat} {Q : Option MV → MH → Prop} {a0 : Nat} {h : MH} (k : Wb rod d B_Ledger_sure 0 [some (.inr (.inr (.inl (some a0)))), none, none] [] h Q) : Wc rod (d + 1) 123 [.inr (.inr (.inl (some a0)))] h Q := Wc.en (fun _ _ => e_Ledger_sure) k
theorem w_Ledger_sure_0 {rod : Nat → Nat × (Nat → Int32)} {d : Nat} {Q : Option MV → MH → Prop} {u0 : Option MV} {u1 : Option MV} {u2 : Option MV} {h : MH}  (g0 : okl [u0, u1, u2] 1 = true) (k : Wb rod d B_Ledger_sure 4 [u0, some (.inl (-1 : Int32)), some (.inl (0 : Int32))] [] h Q) : Wb rod d B_Ledger_sure 0 [u0, u1, u2] [] h Q := by
  refine Wb.go (fun r hr q => b_Ledger_sure_0 g0 ?_) k
  (first | exact q | (simp only [Option.getD_some]; exact q))
theorem w_Ledger_sure_4 {rod : Nat → Nat × (Nat → Int32)} {d : Nat} {Q : Option MV → MH → Prop} {u0 : Option MV} {u1 : Option MV} {x2 : Int32} {h : MH}   (k1 : 64 ≤ x2.toInt → Wb rod d B_Ledger_sure 37 [u0, u1, some (.inl x2)] [] h Q) (k2 : ¬ 64 ≤ x2.toInt → Wb rod d B_Ledger_sure 10 [u0, u1, some (.inl x2)] [] h Q) : Wb rod d B_Ledger_sure 4 [u0, u1, some (.inl x2)] [] h Q := by
  refine Wb.br (fun _ _ => b_Ledger_sure_4) (fun c => ?_) (fun c => ?_)
  · have c : (decide ((64 : Int32) ≤ x2)) = true := by first | exact c | (simp only [Option.getD_some] at c; exact c)
    (first | exact (k1 (c_let c)) | (simp only [Option.getD_some]; exact (k1 (c_let c))))
  · have c : (decide ((64 : Int32) ≤ x2)) = false := by first | exact c | (simp only [Option.getD_some] at c; exact c)
    (first | exact (k2 (c_lef c)) | (simp only [Option.getD_some]; exact (k2 (c_lef c))))
theorem w_Ledger_sure_10 {rod : Nat → Nat × (Nat → Int32)} {d : Nat} {Q : Option MV → MH → Prop} {a0 : Nat} {u1 : Option MV} {x2 : Int32} {h : MH} (A0 : LedgerA h.2 a0)  {Q1 : Option MV → MH → Prop} (c : Wc rod d 122 [.inr (.inr (.inl (some a0))), .inl x2] h Q1) (k : ∀ r1 h2, Q1 r1 h2 → Wb rod d B_Ledger_sure 15 [some (.inr (.inr (.inl (some a0)))), u1, some (.inl x2)] (r1.toList ++ []) h2 Q) : Wb rod d B_Ledger_sure 10 [some (.inr (.inr (.inl (some a0)))), u1, some (.inl x2)] [] h Q := by
  refine Wb.call (fun _ _ _ _ => b_Ledger_sure_10 (A0.o)) (Q1 := Q1) ?_ ?_
  · (first | exact c | (simp only [Option.getD_some]; exact c))
  · (first | exact k | (simp only [Option.getD_some]; exact k))
theorem w_Ledger_sure_15 {rod : Nat → Nat × (Nat → Int32)} {d : Nat} {Q : Option MV → MH → Prop} {u0 : Option MV} {u1 : Option MV} {u2 : Option MV} {xs0 : Int32} {h : MH}   (k1 : xs0.toInt = 0 → Wb rod d B_Ledger_sure 31 [u0, u1, u2] [] h Q) (k2 : ¬ xs0.toInt = 0 → Wb rod d B_Ledger_sure 18 [u0, u1, u2] [] h Q) : Wb rod d B_Ledger_sure 15 [u0, u1, u2] [.inl xs0] h Q := by
  refine Wb.br (fun _ _ => b_Ledger_sure_15) (fun c => ?_) (fun c => ?_)
  · have c : (decide (xs0 = 0)) = true := by first | exact c | (simp only [Option.getD_some] at c; exact c)
    (first | exact (k1 (c_eqt c)) | (simp only [Option.getD_some]; exact (k1 (c_eqt c))))
  · have c : (decide (xs0 = 0)) = false := by first | exact c | (simp only [Option.getD_some] at c; exact c)
    (first | exact (k2 (c_eqf c)) | (simp only [Option.getD_some]; exact (k2 (c_eqf c))))
theorem w_Ledger_sure_18 {rod : Nat → Nat × (Nat → Int32)} {d : Nat} {Q : Option MV → MH → Prop} {u0 : Option MV} {x1 : Int32} {u2 : Option MV} {h : MH}   (k1 : ¬ x1.toInt = (-1) → Wb rod d B_Ledger_sure 27 [u0, some (.inl x1), u2] [] h Q) (k2 : x1.toInt = (-1) → Wb rod d B_Ledger_sure 23 [u0, some (.inl x1), u2] [] h Q) : Wb rod d B_Ledger_sure 18 [u0, some (.inl x1), u2] [] h Q := by
  refine Wb.br (fun _ _ => b_Ledger_sure_18) (fun c => ?_) (fun c => ?_)
  · have c : (!(decide (x1 = (-1 : Int32)))) = true := by first | exact c | (simp only [Option.getD_some] at c; exact c)
    (first | exact (k1 (c_net c)) | (simp only [Option.getD_some]; exact (k1 (c_net c))))
  · have c : (!(decide (x1 = (-1 : Int32)))) = false := by first | exact c | (simp only [Option.getD_some] at c; exact c)
    (first | exact (k2 (c_nef c)) | (simp only [Option.getD_some]; exact (k2 (c_nef c))))
theorem w_Ledger_sure_23 {rod : Nat → Nat × (Nat → Int32)} {d : Nat} {Q : Option MV → MH → Prop} {u0 : Option MV} {u1 : Option MV} {x2 : Int32} {h : MH}   (k : Wb rod d B_Ledger_sure 30 [u0, u1, some (.inl x2)] [.inl x2] h Q) : Wb rod d B_Ledger_sure 23 [u0, u1, some (.inl x2)] [] h Q := by
  refine Wb.go (fun r hr q => b_Ledger_sure_23 ?_) k
  (first | exact q | (simp only [Option.getD_some]; exact q))
theorem w_Ledger_sure_27 {rod : Nat → Nat × (Nat → Int32)} {d : Nat} {Q : Option MV → MH → Prop} {u0 : Option MV} {x1 : Int32} {x2 : Int32} {h : MH}   (k : Wb rod d B_Ledger_sure 30 [u0, some (.inl x1), some (.inl x2)] [.inl (x1 &&& x2)] h Q) : Wb rod d B_Ledger_sure 27 [u0, some (.inl x1), some (.inl x2)] [] h Q := by
  refine Wb.go (fun r hr q => b_Ledger_sure_27 ?_) k
  (first | exact q | (simp only [Option.getD_some]; exact q))
theorem w_Ledger_sure_30 {rod : Nat → Nat × (Nat → Int32)} {d : Nat} {Q : Option MV → MH → Prop} {u0 : Option MV} {u1 : Option MV} {u2 : Option MV} {xs0 : Int32} {h : MH}  (g0 : okl [u0, u1, u2] 1 = true) (k : Wb rod d B_Ledger_sure 31 [u0, some (.inl xs0), u2] [] h Q) : Wb rod d B_Ledger_sure 30 [u0, u1, u2] [.inl xs0] h Q := by
  refine Wb.go (fun r hr q => b_Ledger_sure_30 g0 ?_) k
  (first | exact q | (simp only [Option.getD_some]; exact q))
theorem w_Ledger_sure_31 {rod : Nat → Nat × (Nat → Int32)} {d : Nat} {Q : Option MV → MH → Prop} {u0 : Option MV} {u1 : Option MV} {x2 : Int32} {h : MH}  (g0 : okl [u0, u1, some (.inl x2)] 2 = true) (k : Wb rod d B_Ledger_sure 4 [u0, u1, some (.inl (x2 + 1))] [] h Q) : Wb rod d B_Ledger_sure 31 [u0, u1, some (.inl x2)] [] h Q := by
  refine Wb.go (fun r hr q => b_Ledger_sure_31 g0 ?_) k
  (first | exact q | (simp only [Option.getD_some]; exact q))
theorem w_Ledger_sure_37 {rod : Nat → Nat × (Nat → Int32)} {d : Nat} {Q : Option MV → MH → Prop} {u0 : Option MV} {x1 : Int32} {u2 : Option MV} {h : MH}   (q : Q (some (.inl x1)) h) : Wb rod d B_Ledger_sure 37 [u0, some (.inl x1), u2] [] h Q := by
  refine Wb.ret (b_Ledger_sure_37) ?_
  (first | exact q | (simp only [Option.getD_some]; exact q))
theorem n_Ledger_clear {rod : Nat → Nat × (Nat → Int32)} {d : Nat} {Q : Option MV → MH → Prop} {a0 : Nat} {h : MH} (k : Wb rod d B_Ledger_clear 0 [some (.inr (.inr (.inl (some a0)))), none, none] [] h Q) : Wc rod (d + 1) 124 [.inr (.inr (.inl (some a0)))] h Q := Wc.en (fun _ _ => e_Ledger_clear) k
theorem w_Ledger_clear_0 {rod : Nat → Nat × (Nat → Int32)} {d : Nat} {Q : Option MV → MH → Prop} {u0 : Option MV} {u1 : Option MV} {u2 : Option MV} {h : MH}  (g0 : okl [u0, u1, u2] 1 = true) (k : Wb rod d B_Ledger_clear 4 [u0, some (.inl (-1 : Int32)), some (.inl (0 : Int32))] [] h Q) : Wb rod d B_Ledger_clear 0 [u0, u1, u2] [] h Q := by
  refine Wb.go (fun r hr q => b_Ledger_clear_0 g0 ?_) k
  (first | exact q | (simp only [Option.getD_some]; exact q))
theorem w_Ledger_clear_4 {rod : Nat → Nat × (Nat → Int32)} {d : Nat} {Q : Option MV → MH → Prop} {u0 : Option MV} {u1 : Option MV} {x2 : Int32} {h : MH}   (k1 : 64 ≤ x2.toInt → Wb rod d B_Ledger_clear 37 [u0, u1, some (.inl x2)] [] h Q) (k2 : ¬ 64 ≤ x2.toInt → Wb rod d B_Ledger_clear 10 [u0, u1, some (.inl x2)] [] h Q) : Wb rod d B_Ledger_clear 4 [u0, u1, some (.inl x2)] [] h Q := by
  refine Wb.br (fun _ _ => b_Ledger_clear_4) (fun c => ?_) (fun c => ?_)
  · have c : (decide ((64 : Int32) ≤ x2)) = true := by first | exact c | (simp only [Option.getD_some] at c; exact c)
    (first | exact (k1 (c_let c)) | (simp only [Option.getD_some]; exact (k1 (c_let c))))
  · have c : (decide ((64 : Int32) ≤ x2)) = false := by first | exact c | (simp only [Option.getD_some] at c; exact c)
    (first | exact (k2 (c_lef c)) | (simp only [Option.getD_some]; exact (k2 (c_lef c))))
theorem w_Ledger_clear_10 {rod : Nat → Nat × (Nat → Int32)} {d : Nat} {Q : Option MV → MH → Prop} {a0 : Nat} {u1 : Option MV} {x2 : Int32} {h : MH} (A0 : LedgerA h.2 a0)  {Q1 : Option MV → MH → Prop} (c : Wc rod d 122 [.inr (.inr (.inl (some a0))), .inl x2] h Q1) (k : ∀ r1 h2, Q1 r1 h2 → Wb rod d B_Ledger_clear 15 [some (.inr (.inr (.inl (some a0)))), u1, some (.inl x2)] (r1.toList ++ []) h2 Q) : Wb rod d B_Ledger_clear 10 [some (.inr (.inr (.inl (some a0)))), u1, some (.inl x2)] [] h Q := by
  refine Wb.call (fun _ _ _ _ => b_Ledger_clear_10 (A0.o)) (Q1 := Q1) ?_ ?_
  · (first | exact c | (simp only [Option.getD_some]; exact c))
  · (first | exact k | (simp only [Option.getD_some]; exact k))
theorem w_Ledger_clear_15 {rod : Nat → Nat × (Nat → Int32)} {d : Nat} {Q : Option MV → MH → Prop} {u0 : Option MV} {u1 : Option MV} {u2 : Option MV} {xs0 : Int32} {h : MH}   (k1 : xs0.toInt = 0 → Wb rod d B_Ledger_clear 31 [u0, u1, u2] [] h Q) (k2 : ¬ xs0.toInt = 0 → Wb rod d B_Ledger_clear 18 [u0, u1, u2] [] h Q) : Wb rod d B_Ledger_clear 15 [u0, u1, u2] [.inl xs0] h Q := by
  refine Wb.br (fun _ _ => b_Ledger_clear_15) (fun c => ?_) (fun c => ?_)
  · have c : (decide (xs0 = 0)) = true := by first | exact c | (simp only [Option.getD_some] at c; exact c)
    (first | exact (k1 (c_eqt c)) | (simp only [Option.getD_some]; exact (k1 (c_eqt c))))
  · have c : (decide (xs0 = 0)) = false := by first | exact c | (simp only [Option.getD_some] at c; exact c)
    (first | exact (k2 (c_eqf c)) | (simp only [Option.getD_some]; exact (k2 (c_eqf c))))
theorem w_Ledger_clear_18 {rod : Nat → Nat × (Nat → Int32)} {d : Nat} {Q : Option MV → MH → Prop} {u0 : Option MV} {x1 : Int32} {u2 : Option MV} {h : MH}   (k1 : ¬ x1.toInt = (-1) → Wb rod d B_Ledger_clear 27 [u0, some (.inl x1), u2] [] h Q) (k2 : x1.toInt = (-1) → Wb rod d B_Ledger_clear 23 [u0, some (.inl x1), u2] [] h Q) : Wb rod d B_Ledger_clear 18 [u0, some (.inl x1), u2] [] h Q := by
  refine Wb.br (fun _ _ => b_Ledger_clear_18) (fun c => ?_) (fun c => ?_)
  · have c : (!(decide (x1 = (-1 : Int32)))) = true := by first | exact c | (simp only [Option.getD_some] at c; exact c)
    (first | exact (k1 (c_net c)) | (simp only [Option.getD_some]; exact (k1 (c_net c))))
  · have c : (!(decide (x1 = (-1 : Int32)))) = false := by first | exact c | (simp only [Option.getD_some] at c; exact c)
    (first | exact (k2 (c_nef c)) | (simp only [Option.getD_some]; exact (k2 (c_nef c))))
theorem w_Ledger_clear_23 {rod : Nat → Nat × (Nat → Int32)} {d : Nat} {Q : Option MV → MH → Prop} {u0 : Option MV} {u1 : Option MV} {x2 : Int32} {h : MH}   (k : Wb rod d B_Ledger_clear 30 [u0, u1, some (.inl x2)] [.inl x2] h Q) : Wb rod d B_Ledger_clear 23 [u0, u1, some (.inl x2)] [] h Q := by
  refine Wb.go (fun r hr q => b_Ledger_clear_23 ?_) k
  (first | exact q | (simp only [Option.getD_some]; exact q))
theorem w_Ledger_clear_27 {rod : Nat → Nat × (Nat → Int32)} {d : Nat} {Q : Option MV → MH → Prop} {u0 : Option MV} {x1 : Int32} {x2 : Int32} {h : MH}   (k : Wb rod d B_Ledger_clear 30 [u0, some (.inl x1), some (.inl x2)] [.inl (x1 ||| x2)] h Q) : Wb rod d B_Ledger_clear 27 [u0, some (.inl x1), some (.inl x2)] [] h Q := by
  refine Wb.go (fun r hr q => b_Ledger_clear_27 ?_) k
  (first | exact q | (simp only [Option.getD_some]; exact q))
theorem w_Ledger_clear_30 {rod : Nat → Nat × (Nat → Int32)} {d : Nat} {Q : Option MV → MH → Prop} {u0 : Option MV} {u1 : Option MV} {u2 : Option MV} {xs0 : Int32} {h : MH}  (g0 : okl [u0, u1, u2] 1 = true) (k : Wb rod d B_Ledger_clear 31 [u0, some (.inl xs0), u2] [] h Q) : Wb rod d B_Ledger_clear 30 [u0, u1, u2] [.inl xs0] h Q := by
  refine Wb.go (fun r hr q => b_Ledger_clear_30 g0 ?_) k
  (first | exact q | (simp only [Option.getD_some]; exact q))
theorem w_Ledger_clear_31 {rod : Nat → Nat × (Nat → Int32)} {d : Nat} {Q : Option MV → MH → Prop} {u0 : Option MV} {u1 : Option MV} {x2 : Int32} {h : MH}  (g0 : okl [u0, u1, some (.inl x2)] 2 = true) (k : Wb rod d B_Ledger_clear 4 [u0, u1, some (.inl (x2 + 1))] [] h Q) : Wb rod d B_Ledger_clear 31 [u0, u1, some (.inl x2)] [] h Q := by
  refine Wb.go (fun r hr q => b_Ledger_clear_31 g0 ?_) k
  (first | exact q | (simp only [Option.getD_some]; exact q))
theorem w_Ledger_clear_37 {rod : Nat → Nat × (Nat → Int32)} {d : Nat} {Q : Option MV → MH → Prop} {u0 : Option MV} {x1 : Int32} {u2 : Option MV} {h : MH}   (k1 : ¬ x1.toInt = (-1) → Wb rod d B_Ledger_clear 46 [u0, some (.inl x1), u2] [] h Q) (k2 : x1.toInt = (-1) → Wb rod d B_Ledger_clear 42 [u0, some (.inl x1), u2] [] h Q) : Wb rod d B_Ledger_clear 37 [u0, some (.inl x1), u2] [] h Q := by
  refine Wb.br (fun _ _ => b_Ledger_clear_37) (fun c => ?_) (fun c => ?_)
  · have c : (!(decide (x1 = (-1 : Int32)))) = true := by first | exact c | (simp only [Option.getD_some] at c; exact c)
    (first | exact (k1 (c_net c)) | (simp only [Option.getD_some]; exact (k1 (c_net c))))
  · have c : (!(decide (x1 = (-1 : Int32)))) = false := by first | exact c | (simp only [Option.getD_some] at c; exact c)
    (first | exact (k2 (c_nef c)) | (simp only [Option.getD_some]; exact (k2 (c_nef c))))
theorem w_Ledger_clear_42 {rod : Nat → Nat × (Nat → Int32)} {d : Nat} {Q : Option MV → MH → Prop} {u0 : Option MV} {u1 : Option MV} {u2 : Option MV} {h : MH}   (k : Wb rod d B_Ledger_clear 50 [u0, u1, u2] [.inl (-1 : Int32)] h Q) : Wb rod d B_Ledger_clear 42 [u0, u1, u2] [] h Q := by
  refine Wb.go (fun r hr q => b_Ledger_clear_42 ?_) k
  (first | exact q | (simp only [Option.getD_some]; exact q))
theorem w_Ledger_clear_46 {rod : Nat → Nat × (Nat → Int32)} {d : Nat} {Q : Option MV → MH → Prop} {u0 : Option MV} {x1 : Int32} {u2 : Option MV} {h : MH}   (k : Wb rod d B_Ledger_clear 50 [u0, some (.inl x1), u2] [.inl ((63 : Int32) - x1)] h Q) : Wb rod d B_Ledger_clear 46 [u0, some (.inl x1), u2] [] h Q := by
  refine Wb.go (fun r hr q => b_Ledger_clear_46 ?_) k
  (first | exact q | (simp only [Option.getD_some]; exact q))
theorem w_Ledger_clear_50 {rod : Nat → Nat × (Nat → Int32)} {d : Nat} {Q : Option MV → MH → Prop} {u0 : Option MV} {u1 : Option MV} {u2 : Option MV} {xs0 : Int32} {h : MH}   (q : Q (some (.inl xs0)) h) : Wb rod d B_Ledger_clear 50 [u0, u1, u2] [.inl xs0] h Q := by
  refine Wb.ret (b_Ledger_clear_50) ?_
  (first | exact q | (simp only [Option.getD_some]; exact q))
theorem n_Ledger_fittingSet {rod : Nat → Nat × (Nat → Int32)} {d : Nat} {Q : Option MV → MH → Prop} {a0 : Nat} {x1 : Int32} {h : MH} (k : Wb rod d B_Ledger_fittingSet 0 [some (.inr (.inr (.inl (some a0)))), some (.inl x1), none, none] [] h Q) : Wc rod (d + 1) 125 [.inr (.inr (.inl (some a0))), .inl x1] h Q := Wc.en (fun _ _ => e_Ledger_fittingSet) k
theorem w_Ledger_fittingSet_0 {rod : Nat → Nat × (Nat → Int32)} {d : Nat} {Q : Option MV → MH → Prop} {u0 : Option MV} {u1 : Option MV} {u2 : Option MV} {u3 : Option MV} {h : MH}  (g0 : okl [u0, u1, u2, u3] 2 = true) (k : Wb rod d B_Ledger_fittingSet 4 [u0, u1, some (.inl (0 : Int32)), some (.inl (0 : Int32))] [] h Q) : Wb rod d B_Ledger_fittingSet 0 [u0, u1, u2, u3] [] h Q := by
  refine Wb.go (fun r hr q => b_Ledger_fittingSet_0 g0 ?_) k
  (first | exact q | (simp only [Option.getD_some]; exact q))
theorem w_Ledger_fittingSet_4 {rod : Nat → Nat × (Nat → Int32)} {d : Nat} {Q : Option MV → MH → Prop} {u0 : Option MV} {u1 : Option MV} {u2 : Option MV} {x3 : Int32} {h : MH}   (k1 : 64 ≤ x3.toInt → Wb rod d B_Ledger_fittingSet 34 [u0, u1, u2, some (.inl x3)] [] h Q) (k2 : ¬ 64 ≤ x3.toInt → Wb rod d B_Ledger_fittingSet 10 [u0, u1, u2, some (.inl x3)] [] h Q) : Wb rod d B_Ledger_fittingSet 4 [u0, u1, u2, some (.inl x3)] [] h Q := by
  refine Wb.br (fun _ _ => b_Ledger_fittingSet_4) (fun c => ?_) (fun c => ?_)
  · have c : (decide ((64 : Int32) ≤ x3)) = true := by first | exact c | (simp only [Option.getD_some] at c; exact c)
    (first | exact (k1 (c_let c)) | (simp only [Option.getD_some]; exact (k1 (c_let c))))
  · have c : (decide ((64 : Int32) ≤ x3)) = false := by first | exact c | (simp only [Option.getD_some] at c; exact c)
    (first | exact (k2 (c_lef c)) | (simp only [Option.getD_some]; exact (k2 (c_lef c))))
theorem w_Ledger_fittingSet_10 {rod : Nat → Nat × (Nat → Int32)} {d : Nat} {Q : Option MV → MH → Prop} {a0 : Nat} {u1 : Option MV} {u2 : Option MV} {x3 : Int32} {h : MH} (A0 : LedgerA h.2 a0)  {Q1 : Option MV → MH → Prop} (c : Wc rod d 122 [.inr (.inr (.inl (some a0))), .inl x3] h Q1) (k : ∀ r1 h2, Q1 r1 h2 → Wb rod d B_Ledger_fittingSet 15 [some (.inr (.inr (.inl (some a0)))), u1, u2, some (.inl x3)] (r1.toList ++ []) h2 Q) : Wb rod d B_Ledger_fittingSet 10 [some (.inr (.inr (.inl (some a0)))), u1, u2, some (.inl x3)] [] h Q := by
  refine Wb.call (fun _ _ _ _ => b_Ledger_fittingSet_10 (A0.o)) (Q1 := Q1) ?_ ?_
  · (first | exact c | (simp only [Option.getD_some]; exact c))
  · (first | exact k | (simp only [Option.getD_some]; exact k))
theorem w_Ledger_fittingSet_15 {rod : Nat → Nat × (Nat → Int32)} {d : Nat} {Q : Option MV → MH → Prop} {u0 : Option MV} {u1 : Option MV} {u2 : Option MV} {u3 : Option MV} {xs0 : Int32} {h : MH}   (k1 : xs0.toInt = 0 → Wb rod d B_Ledger_fittingSet 28 [u0, u1, u2, u3] [] h Q) (k2 : ¬ xs0.toInt = 0 → Wb rod d B_Ledger_fittingSet 18 [u0, u1, u2, u3] [] h Q) : Wb rod d B_Ledger_fittingSet 15 [u0, u1, u2, u3] [.inl xs0] h Q := by
  refine Wb.br (fun _ _ => b_Ledger_fittingSet_15) (fun c => ?_) (fun c => ?_)
  · have c : (decide (xs0 = 0)) = true := by first | exact c | (simp only [Option.getD_some] at c; exact c)
    (first | exact (k1 (c_eqt c)) | (simp only [Option.getD_some]; exact (k1 (c_eqt c))))
  · have c : (decide (xs0 = 0)) = false := by first | exact c | (simp only [Option.getD_some] at c; exact c)
    (first | exact (k2 (c_eqf c)) | (simp only [Option.getD_some]; exact (k2 (c_eqf c))))
theorem w_Ledger_fittingSet_18 {rod : Nat → Nat × (Nat → Int32)} {d : Nat} {Q : Option MV → MH → Prop} {u0 : Option MV} {x1 : Int32} {x2 : Int32} {u3 : Option MV} {h : MH}   (k1 : ¬ x2.toInt = x1.toInt → Wb rod d B_Ledger_fittingSet 25 [u0, some (.inl x1), some (.inl x2), u3] [] h Q) (k2 : x2.toInt = x1.toInt → Wb rod d B_Ledger_fittingSet 23 [u0, some (.inl x1), some (.inl x2), u3] [] h Q) : Wb rod d B_Ledger_fittingSet 18 [u0, some (.inl x1), some (.inl x2), u3] [] h Q := by
  refine Wb.br (fun _ _ => b_Ledger_fittingSet_18) (fun c => ?_) (fun c => ?_)
  · have c : (!(decide (x2 = x1))) = true := by first | exact c | (simp only [Option.getD_some] at c; exact c)
    (first | exact (k1 (c_net c)) | (simp only [Option.getD_some]; exact (k1 (c_net c))))
  · have c : (!(decide (x2 = x1))) = false := by first | exact c | (simp only [Option.getD_some] at c; exact c)
    (first | exact (k2 (c_nef c)) | (simp only [Option.getD_some]; exact (k2 (c_nef c))))
theorem w_Ledger_fittingSet_23 {rod : Nat → Nat × (Nat → Int32)} {d : Nat} {Q : Option MV → MH → Prop} {u0 : Option MV} {u1 : Option MV} {u2 : Option MV} {x3 : Int32} {h : MH}   (q : Q (some (.inl x3)) h) : Wb rod d B_Ledger_fittingSet 23 [u0, u1, u2, some (.inl x3)] [] h Q := by
  refine Wb.ret (b_Ledger_fittingSet_23) ?_
  (first | exact q | (simp only [Option.getD_some]; exact q))
theorem w_Ledger_fittingSet_25 {rod : Nat → Nat × (Nat → Int32)} {d : Nat} {Q : Option MV → MH → Prop} {u0 : Option MV} {u1 : Option MV} {x2 : Int32} {u3 : Option MV} {h : MH}  (g0 : okl [u0, u1, some (.inl x2), u3] 2 = true) (k : Wb rod d B_Ledger_fittingSet 28 [u0, u1, some (.inl (x2 + 1)), u3] [] h Q) : Wb rod d B_Ledger_fittingSet 25 [u0, u1, some (.inl x2), u3] [] h Q := by
  refine Wb.go (fun r hr q => b_Ledger_fittingSet_25 g0 ?_) k
  (first | exact q | (simp only [Option.getD_some]; exact q))
theorem w_Ledger_fittingSet_28 {rod : Nat → Nat × (Nat → Int32)} {d : Nat} {Q : Option MV → MH → Prop} {u0 : Option MV} {u1 : Option MV} {u2 : Option MV} {x3 : Int32} {h : MH}  (g0 : okl [u0, u1, u2, some (.inl x3)] 3 = true) (k : Wb rod d B_Ledger_fittingSet 4 [u0, u1, u2, some (.inl (x3 + 1))] [] h Q) : Wb rod d B_Ledger_fittingSet 28 [u0, u1, u2, some (.inl x3)] [] h Q := by
  refine Wb.go (fun r hr q => b_Ledger_fittingSet_28 g0 ?_) k
  (first | exact q | (simp only [Option.getD_some]; exact q))
theorem w_Ledger_fittingSet_34 {rod : Nat → Nat × (Nat → Int32)} {d : Nat} {Q : Option MV → MH → Prop} {u0 : Option MV} {u1 : Option MV} {u2 : Option MV} {u3 : Option MV} {h : MH}   (q : Q (some (.inl (-2 : Int32))) h) : Wb rod d B_Ledger_fittingSet 34 [u0, u1, u2, u3] [] h Q := by
  refine Wb.ret (b_Ledger_fittingSet_34) ?_
  (first | exact q | (simp only [Option.getD_some]; exact q))
theorem n_Main_bargain {rod : Nat → Nat × (Nat → Int32)} {d : Nat} {Q : Option MV → MH → Prop} {x1 : Int32} {x2 : Int32} {h : MH} (k : Wb rod d B_Main_bargain 0 [some (.inr (.inr (.inl (some 0)))), some (.inl x1), some (.inl x2), none] [] h Q) : Wc rod (d + 1) 126 [.inr (.inr (.inl (some 0))), .inl x1, .inl x2] h Q := Wc.en (fun _ _ => e_Main_bargain) k
theorem w_Main_bargain_0 {rod : Nat → Nat × (Nat → Int32)} {d : Nat} {Q : Option MV → MH → Prop} {x1 : Int32} {u2 : Option MV} {u3 : Option MV} {h : MH} (L : Lay h.2)  {Q1 : Option MV → MH → Prop} (c : Wc rod d 127 [.inr (.inr (.inl (some 1))), .inl x1] h Q1) (k : ∀ r1 h2, Q1 r1 h2 → Wb rod d B_Main_bargain 8 [some (.inr (.inr (.inl (some 0)))), some (.inl x1), u2, u3] (r1.toList ++ []) h2 Q) : Wb rod d B_Main_bargain 0 [some (.inr (.inr (.inl (some 0)))), some (.inl x1), u2, u3] [] h Q := by
  refine Wb.call (fun _ _ _ _ => b_Main_bargain_0 (Lay.o0 L) (Lay.k0_0 L)) (Q1 := Q1) ?_ ?_
  · (first | exact c | (simp only [Option.getD_some, (Lay.r0_0 L)]; exact c))
  · (first | exact k | (simp only [Option.getD_some, (Lay.r0_0 L)]; exact k))
theorem w_Main_bargain_8 {rod : Nat → Nat × (Nat → Int32)} {d : Nat} {Q : Option MV → MH → Prop} {u0 : Option MV} {u1 : Option MV} {u2 : Option MV} {u3 : Option MV} {os0 : Option Nat} {h : MH}  (g0 : okl [u0, u1, u2, u3] 3 = true) (k1 : os0 = none → Wb rod d B_Main_bargain 13 [u0, u1, u2, some (.inr (.inr (.inl os0)))] [] h Q) (k2 : ∀ v, os0 = some v → Wb rod d B_Main_bargain 15 [u0, u1, u2, some (.inr (.inr (.inl os0)))] [] h Q) : Wb rod d B_Main_bargain 8 [u0, u1, u2, u3] [.inr (.inr (.inl os0))] h Q := by
  cases os0 with
  | none =>
    refine Wb.br (fun _ _ => b_Main_bargain_8 g0) (fun c => ?_) (fun c => ?_)
    · simp at c
    · exact k1 rfl
  | some v =>
    refine Wb.br (fun _ _ => b_Main_bargain_8 g0) (fun c => ?_) (fun c => ?_)
    · exact k2 v rfl
    · simp at c
theorem w_Main_bargain_13 {rod : Nat → Nat × (Nat → Int32)} {d : Nat} {Q : Option MV → MH → Prop} {u0 : Option MV} {u1 : Option MV} {u2 : Option MV} {u3 : Option MV} {h : MH}   (q : Q (some (.inl (-1 : Int32))) h) : Wb rod d B_Main_bargain 13 [u0, u1, u2, u3] [] h Q := by
  refine Wb.ret (b_Main_bargain_13) ?_
  (first | exact q | (simp only [Option.getD_some]; exact q))
theorem w_Main_bargain_15 {rod : Nat → Nat × (Nat → Int32)} {d : Nat} {Q : Option MV → MH → Prop} {u0 : Option MV} {u1 : Option MV} {x2 : Int32} {u3 : Option MV} {h : MH}   (k1 : ¬ x2.toInt = 0 → Wb rod d B_Main_bargain 24 [u0, u1, some (.inl x2), u3] [] h Q) (k2 : x2.toInt = 0 → Wb rod d B_Main_bargain 19 [u0, u1, some (.inl x2), u3] [] h Q) : Wb rod d B_Main_bargain 15 [u0, u1, some (.inl x2), u3] [] h Q := by
  refine Wb.br (fun _ _ => b_Main_bargain_15) (fun c => ?_) (fun c => ?_)
  · have c : (!(decide (x2 = 0))) = true := by first | exact c | (simp only [Option.getD_some] at c; exact c)
    (first | exact (k1 (c_net c)) | (simp only [Option.getD_some]; exact (k1 (c_net c))))
  · have c : (!(decide (x2 = 0))) = false := by first | exact c | (simp only [Option.getD_some] at c; exact c)
    (first | exact (k2 (c_nef c)) | (simp only [Option.getD_some]; exact (k2 (c_nef c))))
theorem w_Main_bargain_19 {rod : Nat → Nat × (Nat → Int32)} {d : Nat} {Q : Option MV → MH → Prop} {u0 : Option MV} {u1 : Option MV} {u2 : Option MV} {a3 : Nat} {h : MH} (A3 : BargA h.2 a3)  (q : Q (some (.inl (h.1 a3 0))) h) : Wb rod d B_Main_bargain 19 [u0, u1, u2, some (.inr (.inr (.inl (some a3))))] [] h Q := by
  refine Wb.ret (b_Main_bargain_19 (A3.o)) ?_
  (first | exact q | (simp only [Option.getD_some]; exact q))
theorem w_Main_bargain_24 {rod : Nat → Nat × (Nat → Int32)} {d : Nat} {Q : Option MV → MH → Prop} {u0 : Option MV} {u1 : Option MV} {x2 : Int32} {u3 : Option MV} {h : MH}   (k1 : x2.toInt ≤ 0 → Wb rod d B_Main_bargain 44 [u0, u1, some (.inl x2), u3] [] h Q) (k2 : ¬ x2.toInt ≤ 0 → Wb rod d B_Main_bargain 28 [u0, u1, some (.inl x2), u3] [] h Q) : Wb rod d B_Main_bargain 24 [u0, u1, some (.inl x2), u3] [] h Q := by
  refine Wb.br (fun _ _ => b_Main_bargain_24) (fun c => ?_) (fun c => ?_)
  · have c : (decide (x2 ≤ 0)) = true := by first | exact c | (simp only [Option.getD_some] at c; exact c)
    (first | exact (k1 (c_let c)) | (simp only [Option.getD_some]; exact (k1 (c_let c))))
  · have c : (decide (x2 ≤ 0)) = false := by first | exact c | (simp only [Option.getD_some] at c; exact c)
    (first | exact (k2 (c_lef c)) | (simp only [Option.getD_some]; exact (k2 (c_lef c))))
theorem w_Main_bargain_28 {rod : Nat → Nat × (Nat → Int32)} {d : Nat} {Q : Option MV → MH → Prop} {u0 : Option MV} {u1 : Option MV} {x2 : Int32} {a3 : Nat} {h : MH} (A3 : BargA h.2 a3)  {Q1 : Option MV → MH → Prop} (c : Wc rod d 128 [.inr (.inr (.inl (some a3)))] h Q1) (k : ∀ r1 h2, Q1 r1 h2 → Wb rod d B_Main_bargain 33 [u0, u1, some (.inl x2), some (.inr (.inr (.inl (some a3))))] (r1.toList ++ [.inl x2]) h2 Q) : Wb rod d B_Main_bargain 28 [u0, u1, some (.inl x2), some (.inr (.inr (.inl (some a3))))] [] h Q := by
  refine Wb.call (fun _ _ _ _ => b_Main_bargain_28 (A3.o)) (Q1 := Q1) ?_ ?_
  · (first | exact c | (simp only [Option.getD_some]; exact c))
  · (first | exact k | (simp only [Option.getD_some]; exact k))
theorem w_Main_bargain_33 {rod : Nat → Nat × (Nat → Int32)} {d : Nat} {Q : Option MV → MH → Prop} {u0 : Option MV} {u1 : Option MV} {u2 : Option MV} {u3 : Option MV} {xs0 : Int32} {xs1 : Int32} {h : MH}   (k1 : xs1.toInt < xs0.toInt → Wb rod d B_Main_bargain 44 [u0, u1, u2, u3] [] h Q) (k2 : ¬ xs1.toInt < xs0.toInt → Wb rod d B_Main_bargain 36 [u0, u1, u2, u3] [] h Q) : Wb rod d B_Main_bargain 33 [u0, u1, u2, u3] [.inl xs1, .inl xs0] h Q := by
  refine Wb.br (fun _ _ => b_Main_bargain_33) (fun c => ?_) (fun c => ?_)
  · have c : (decide (xs1 < xs0)) = true := by first | exact c | (simp only [Option.getD_some] at c; exact c)
    (first | exact (k1 (c_ltt c)) | (simp only [Option.getD_some]; exact (k1 (c_ltt c))))
  · have c : (decide (xs1 < xs0)) = false := by first | exact c | (simp only [Option.getD_some] at c; exact c)
    (first | exact (k2 (c_ltf c)) | (simp only [Option.getD_some]; exact (k2 (c_ltf c))))
theorem w_Main_bargain_36 {rod : Nat → Nat × (Nat → Int32)} {d : Nat} {Q : Option MV → MH → Prop} {u0 : Option MV} {u1 : Option MV} {x2 : Int32} {a3 : Nat} {h : MH} (A3 : BargA h.2 a3)  {Q1 : Option MV → MH → Prop} (c : Wc rod d 129 [.inr (.inr (.inl (some a3))), .inl x2] h Q1) (k : ∀ r1 h2, Q1 r1 h2 → Wb rod d B_Main_bargain 41 [u0, u1, some (.inl x2), some (.inr (.inr (.inl (some a3))))] (r1.toList ++ []) h2 Q) : Wb rod d B_Main_bargain 36 [u0, u1, some (.inl x2), some (.inr (.inr (.inl (some a3))))] [] h Q := by
  refine Wb.call (fun _ _ _ _ => b_Main_bargain_36 (A3.o)) (Q1 := Q1) ?_ ?_
  · (first | exact c | (simp only [Option.getD_some]; exact c))
  · (first | exact k | (simp only [Option.getD_some]; exact k))
theorem w_Main_bargain_41 {rod : Nat → Nat × (Nat → Int32)} {d : Nat} {Q : Option MV → MH → Prop} {u0 : Option MV} {u1 : Option MV} {u2 : Option MV} {u3 : Option MV} {xs0 : Int32} {h : MH}   (k : Wb rod d B_Main_bargain 45 [u0, u1, u2, u3] [.inl xs0] h Q) : Wb rod d B_Main_bargain 41 [u0, u1, u2, u3] [.inl xs0] h Q := by
  refine Wb.go (fun r hr q => b_Main_bargain_41 ?_) k
  (first | exact q | (simp only [Option.getD_some]; exact q))
theorem w_Main_bargain_44 {rod : Nat → Nat × (Nat → Int32)} {d : Nat} {Q : Option MV → MH → Prop} {u0 : Option MV} {u1 : Option MV} {u2 : Option MV} {u3 : Option MV} {h : MH}   (k : Wb rod d B_Main_bargain 45 [u0, u1, u2, u3] [.inl (-1 : Int32)] h Q) : Wb rod d B_Main_bargain 44 [u0, u1, u2, u3] [] h Q := by
  refine Wb.go (fun r hr q => b_Main_bargain_44 ?_) k
  (first | exact q | (simp only [Option.getD_some]; exact q))
theorem w_Main_bargain_45 {rod : Nat → Nat × (Nat → Int32)} {d : Nat} {Q : Option MV → MH → Prop} {u0 : Option MV} {u1 : Option MV} {u2 : Option MV} {u3 : Option MV} {xs0 : Int32} {h : MH}   (q : Q (some (.inl xs0)) h) : Wb rod d B_Main_bargain 45 [u0, u1, u2, u3] [.inl xs0] h Q := by
  refine Wb.ret (b_Main_bargain_45) ?_
  (first | exact q | (simp only [Option.getD_some]; exact q))
theorem n_Bargain_everybody {rod : Nat → Nat × (Nat → Int32)} {d : Nat} {Q : Option MV → MH → Prop} {a0 : Nat} {h : MH} (k : Wb rod d B_Bargain_everybody 0 [some (.inr (.inr (.inl (some a0))))] [] h Q) : Wc rod (d + 1) 128 [.inr (.inr (.inl (some a0)))] h Q := Wc.en (fun _ _ => e_Bargain_everybody) k
theorem w_Bargain_everybody_0 {rod : Nat → Nat × (Nat → Int32)} {d : Nat} {Q : Option MV → MH → Prop} {a0 : Nat} {h : MH} (A0 : BargA h.2 a0)  (q : Q (some (.inl (((1 : Int32) <<< ((h.1 a0 0) &&& 31)) - (1 : Int32)))) h) : Wb rod d B_Bargain_everybody 0 [some (.inr (.inr (.inl (some a0))))] [] h Q := by
  refine Wb.ret (b_Bargain_everybody_0 (A0.o)) ?_
  (first | exact q | (simp only [Option.getD_some]; exact q))
theorem n_Bargain_worthOf {rod : Nat → Nat × (Nat → Int32)} {d : Nat} {Q : Option MV → MH → Prop} {a0 : Nat} {x1 : Int32} {h : MH} (k : Wb rod d B_Bargain_worthOf 0 [some (.inr (.inr (.inl (some a0)))), some (.inl x1)] [] h Q) : Wc rod (d + 1) 129 [.inr (.inr (.inl (some a0))), .inl x1] h Q := Wc.en (fun _ _ => e_Bargain_worthOf) k
theorem w_Bargain_worthOf_0 {rod : Nat → Nat × (Nat → Int32)} {d : Nat} {Q : Option MV → MH → Prop} {u0 : Option MV} {x1 : Int32} {h : MH}   (k1 : x1.toInt < 0 → Wb rod d B_Bargain_worthOf 19 [u0, some (.inl x1)] [] h Q) (k2 : ¬ x1.toInt < 0 → Wb rod d B_Bargain_worthOf 4 [u0, some (.inl x1)] [] h Q) : Wb rod d B_Bargain_worthOf 0 [u0, some (.inl x1)] [] h Q := by
  refine Wb.br (fun _ _ => b_Bargain_worthOf_0) (fun c => ?_) (fun c => ?_)
  · have c : (decide (x1 < 0)) = true := by first | exact c | (simp only [Option.getD_some] at c; exact c)
    (first | exact (k1 (c_ltt c)) | (simp only [Option.getD_some]; exact (k1 (c_ltt c))))
  · have c : (decide (x1 < 0)) = false := by first | exact c | (simp only [Option.getD_some] at c; exact c)
    (first | exact (k2 (c_ltf c)) | (simp only [Option.getD_some]; exact (k2 (c_ltf c))))
theorem w_Bargain_worthOf_4 {rod : Nat → Nat × (Nat → Int32)} {d : Nat} {Q : Option MV → MH → Prop} {u0 : Option MV} {x1 : Int32} {h : MH}   (k1 : 16 ≤ x1.toInt → Wb rod d B_Bargain_worthOf 19 [u0, some (.inl x1)] [] h Q) (k2 : ¬ 16 ≤ x1.toInt → Wb rod d B_Bargain_worthOf 10 [u0, some (.inl x1)] [] h Q) : Wb rod d B_Bargain_worthOf 4 [u0, some (.inl x1)] [] h Q := by
  refine Wb.br (fun _ _ => b_Bargain_worthOf_4) (fun c => ?_) (fun c => ?_)
  · have c : (decide ((16 : Int32) ≤ x1)) = true := by first | exact c | (simp only [Option.getD_some] at c; exact c)
    (first | exact (k1 (c_let c)) | (simp only [Option.getD_some]; exact (k1 (c_let c))))
  · have c : (decide ((16 : Int32) ≤ x1)) = false := by first | exact c | (simp only [Option.getD_some] at c; exact c)
    (first | exact (k2 (c_lef c)) | (simp only [Option.getD_some]; exact (k2 (c_lef c))))
theorem w_Bargain_worthOf_10 {rod : Nat → Nat × (Nat → Int32)} {d : Nat} {Q : Option MV → MH → Prop} {a0 : Nat} {x1 : Int32} {h : MH} (A0 : BargA h.2 a0) (g0 : 0 ≤ x1.toInt ∧ x1.toInt < 16) (k : Wb rod d B_Bargain_worthOf 20 [some (.inr (.inr (.inl (some a0)))), some (.inl x1)] [.inl (h.1 (a0 + 1) x1.toNatClampNeg)] h Q) : Wb rod d B_Bargain_worthOf 10 [some (.inr (.inr (.inl (some a0)))), some (.inl x1)] [] h Q := by
  refine Wb.go (fun r hr q => b_Bargain_worthOf_10 (A0.o) (A0.a1 g0) ?_) k
  (first | exact q | (simp only [Option.getD_some, A0.r1]; exact q))
theorem w_Bargain_worthOf_19 {rod : Nat → Nat × (Nat → Int32)} {d : Nat} {Q : Option MV → MH → Prop} {u0 : Option MV} {u1 : Option MV} {h : MH}   (k : Wb rod d B_Bargain_worthOf 20 [u0, u1] [.inl (0 : Int32)] h Q) : Wb rod d B_Bargain_worthOf 19 [u0, u1] [] h Q := by
  refine Wb.go (fun r hr q => b_Bargain_worthOf_19 ?_) k
  (first | exact q | (simp only [Option.getD_some]; exact q))
theorem w_Bargain_worthOf_20 {rod : Nat → Nat × (Nat → Int32)} {d : Nat} {Q : Option MV → MH → Prop} {u0 : Option MV} {u1 : Option MV} {xs0 : Int32} {h : MH}   (q : Q (some (.inl xs0)) h) : Wb rod d B_Bargain_worthOf 20 [u0, u1] [.inl xs0] h Q := by
  refine Wb.ret (b_Bargain_worthOf_20) ?_
  (first | exact q | (simp only [Option.getD_some]; exact q))
theorem n_Main_rows {rod : Nat → Nat × (Nat → Int32)} {d : Nat} {Q : Option MV → MH → Prop} {x1 : Int32} {x2 : Int32} {h : MH} (k : Wb rod d B_Main_rows 0 [some (.inr (.inr (.inl (some 0)))), some (.inl x1), some (.inl x2), none] [] h Q) : Wc rod (d + 1) 130 [.inr (.inr (.inl (some 0))), .inl x1, .inl x2] h Q := Wc.en (fun _ _ => e_Main_rows) k
theorem w_Main_rows_0 {rod : Nat → Nat × (Nat → Int32)} {d : Nat} {Q : Option MV → MH → Prop} {x1 : Int32} {u2 : Option MV} {u3 : Option MV} {h : MH} (L : Lay h.2)  {Q1 : Option MV → MH → Prop} (c : Wc rod d 127 [.inr (.inr (.inl (some 1))), .inl x1] h Q1) (k : ∀ r1 h2, Q1 r1 h2 → Wb rod d B_Main_rows 8 [some (.inr (.inr (.inl (some 0)))), some (.inl x1), u2, u3] (r1.toList ++ []) h2 Q) : Wb rod d B_Main_rows 0 [some (.inr (.inr (.inl (some 0)))), some (.inl x1), u2, u3] [] h Q := by
  refine Wb.call (fun _ _ _ _ => b_Main_rows_0 (Lay.o0 L) (Lay.k0_0 L)) (Q1 := Q1) ?_ ?_
  · (first | exact c | (simp only [Option.getD_some, (Lay.r0_0 L)]; exact c))
  · (first | exact k | (simp only [Option.getD_some, (Lay.r0_0 L)]; exact k))
theorem w_Main_rows_8 {rod : Nat → Nat × (Nat → Int32)} {d : Nat} {Q : Option MV → MH → Prop} {u0 : Option MV} {u1 : Option MV} {u2 : Option MV} {u3 : Option MV} {os0 : Option Nat} {h : MH}  (g0 : okl [u0, u1, u2, u3] 3 = true) (k1 : os0 = none → Wb rod d B_Main_rows 13 [u0, u1, u2, some (.inr (.inr (.inl os0)))] [] h Q) (k2 : ∀ v, os0 = some v → Wb rod d B_Main_rows 15 [u0, u1, u2, some (.inr (.inr (.inl os0)))] [] h Q) : Wb rod d B_Main_rows 8 [u0, u1, u2, u3] [.inr (.inr (.inl os0))] h Q := by
  cases os0 with
  | none =>
    refine Wb.br (fun _ _ => b_Main_rows_8 g0) (fun c => ?_) (fun c => ?_)
    · simp at c
    · exact k1 rfl
  | some v =>
    refine Wb.br (fun _ _ => b_Main_rows_8 g0) (fun c => ?_) (fun c => ?_)
    · exact k2 v rfl
    · simp at c
theorem w_Main_rows_13 {rod : Nat → Nat × (Nat → Int32)} {d : Nat} {Q : Option MV → MH → Prop} {u0 : Option MV} {u1 : Option MV} {u2 : Option MV} {u3 : Option MV} {h : MH}   (q : Q (some (.inl (-1 : Int32))) h) : Wb rod d B_Main_rows 13 [u0, u1, u2, u3] [] h Q := by
  refine Wb.ret (b_Main_rows_13) ?_
  (first | exact q | (simp only [Option.getD_some]; exact q))
theorem w_Main_rows_15 {rod : Nat → Nat × (Nat → Int32)} {d : Nat} {Q : Option MV → MH → Prop} {u1 : Option MV} {u2 : Option MV} {a3 : Nat} {h : MH} (L : Lay h.2)  {Q1 : Option MV → MH → Prop} (c : Wc rod d 131 [.inr (.inr (.inl (some 78))), .inr (.inr (.inl (some a3)))] h Q1) (k : ∀ r1 h2, Q1 r1 h2 → Wb rod d B_Main_rows 23 [some (.inr (.inr (.inl (some 0)))), u1, u2, some (.inr (.inr (.inl (some a3))))] (r1.toList ++ []) h2 Q) : Wb rod d B_Main_rows 15 [some (.inr (.inr (.inl (some 0)))), u1, u2, some (.inr (.inr (.inl (some a3))))] [] h Q := by
  refine Wb.call (fun _ _ _ _ => b_Main_rows_15 (Lay.o0 L) (Lay.k0_6 L)) (Q1 := Q1) ?_ ?_
  · (first | exact c | (simp only [Option.getD_some, (Lay.r0_6 L)]; exact c))
  · (first | exact k | (simp only [Option.getD_some, (Lay.r0_6 L)]; exact k))
theorem w_Main_rows_23 {rod : Nat → Nat × (Nat → Int32)} {d : Nat} {Q : Option MV → MH → Prop} {u0 : Option MV} {u1 : Option MV} {x2 : Int32} {u3 : Option MV} {h : MH}   (k1 : ¬ x2.toInt = (-1) → Wb rod d B_Main_rows 36 [u0, u1, some (.inl x2), u3] [] h Q) (k2 : x2.toInt = (-1) → Wb rod d B_Main_rows 28 [u0, u1, some (.inl x2), u3] [] h Q) : Wb rod d B_Main_rows 23 [u0, u1, some (.inl x2), u3] [] h Q := by
  refine Wb.br (fun _ _ => b_Main_rows_23) (fun c => ?_) (fun c => ?_)
  · have c : (!(decide (x2 = (-1 : Int32)))) = true := by first | exact c | (simp only [Option.getD_some] at c; exact c)
    (first | exact (k1 (c_net c)) | (simp only [Option.getD_some]; exact (k1 (c_net c))))
  · have c : (!(decide (x2 = (-1 : Int32)))) = false := by first | exact c | (simp only [Option.getD_some] at c; exact c)
    (first | exact (k2 (c_nef c)) | (simp only [Option.getD_some]; exact (k2 (c_nef c))))
theorem w_Main_rows_28 {rod : Nat → Nat × (Nat → Int32)} {d : Nat} {Q : Option MV → MH → Prop} {u1 : Option MV} {u2 : Option MV} {u3 : Option MV} {h : MH} (L : Lay h.2)  (q : Q (some (.inl (h.1 78 0))) h) : Wb rod d B_Main_rows 28 [some (.inr (.inr (.inl (some 0)))), u1, u2, u3] [] h Q := by
  refine Wb.ret (b_Main_rows_28 (Lay.o0 L) (Lay.k0_6 L)) ?_
  (first | exact q | (simp only [Option.getD_some, (Lay.r0_6 L)]; exact q))
theorem w_Main_rows_36 {rod : Nat → Nat × (Nat → Int32)} {d : Nat} {Q : Option MV → MH → Prop} {u0 : Option MV} {u1 : Option MV} {x2 : Int32} {a3 : Nat} {h : MH} (A3 : BargA h.2 a3)  {Q1 : Option MV → MH → Prop} (c : Wc rod d 134 [.inr (.inr (.inl (some a3))), .inl x2] h Q1) (k : ∀ r1 h2, Q1 r1 h2 → Wb rod d B_Main_rows 41 [u0, u1, some (.inl x2), some (.inr (.inr (.inl (some a3))))] (r1.toList ++ []) h2 Q) : Wb rod d B_Main_rows 36 [u0, u1, some (.inl x2), some (.inr (.inr (.inl (some a3))))] [] h Q := by
  refine Wb.call (fun _ _ _ _ => b_Main_rows_36 (A3.o)) (Q1 := Q1) ?_ ?_
  · (first | exact c | (simp only [Option.getD_some]; exact c))
  · (first | exact k | (simp only [Option.getD_some]; exact k))
theorem w_Main_rows_41 {rod : Nat → Nat × (Nat → Int32)} {d : Nat} {Q : Option MV → MH → Prop} {u0 : Option MV} {u1 : Option MV} {u2 : Option MV} {u3 : Option MV} {xs0 : Int32} {h : MH}   (k1 : xs0.toInt = 0 → Wb rod d B_Main_rows 66 [u0, u1, u2, u3] [] h Q) (k2 : ¬ xs0.toInt = 0 → Wb rod d B_Main_rows 44 [u0, u1, u2, u3] [] h Q) : Wb rod d B_Main_rows 41 [u0, u1, u2, u3] [.inl xs0] h Q := by
  refine Wb.br (fun _ _ => b_Main_rows_41) (fun c => ?_) (fun c => ?_)
  · have c : (decide (xs0 = 0)) = true := by first | exact c | (simp only [Option.getD_some] at c; exact c)
    (first | exact (k1 (c_eqt c)) | (simp only [Option.getD_some]; exact (k1 (c_eqt c))))
  · have c : (decide (xs0 = 0)) = false := by first | exact c | (simp only [Option.getD_some] at c; exact c)
    (first | exact (k2 (c_eqf c)) | (simp only [Option.getD_some]; exact (k2 (c_eqf c))))
theorem w_Main_rows_44 {rod : Nat → Nat × (Nat → Int32)} {d : Nat} {Q : Option MV → MH → Prop} {u1 : Option MV} {u2 : Option MV} {u3 : Option MV} {h : MH} (L : Lay h.2)  (k1 : (h.1 78 0).toInt ≤ 0 → Wb rod d B_Main_rows 66 [some (.inr (.inr (.inl (some 0)))), u1, u2, u3] [] h Q) (k2 : ¬ (h.1 78 0).toInt ≤ 0 → Wb rod d B_Main_rows 54 [some (.inr (.inr (.inl (some 0)))), u1, u2, u3] [] h Q) : Wb rod d B_Main_rows 44 [some (.inr (.inr (.inl (some 0)))), u1, u2, u3] [] h Q := by
  refine Wb.br (fun _ _ => b_Main_rows_44 (Lay.o0 L) (Lay.k0_6 L)) (fun c => ?_) (fun c => ?_)
  · have c : (decide ((h.1 78 0) ≤ 0)) = true := by first | exact c | (simp only [Option.getD_some, (Lay.r0_6 L)] at c; exact c)
    (first | exact (k1 (c_let c)) | (simp only [Option.getD_some, (Lay.r0_6 L)]; exact (k1 (c_let c))))
  · have c : (decide ((h.1 78 0) ≤ 0)) = false := by first | exact c | (simp only [Option.getD_some, (Lay.r0_6 L)] at c; exact c)
    (first | exact (k2 (c_lef c)) | (simp only [Option.getD_some, (Lay.r0_6 L)]; exact (k2 (c_lef c))))
theorem w_Main_rows_54 {rod : Nat → Nat × (Nat → Int32)} {d : Nat} {Q : Option MV → MH → Prop} {u1 : Option MV} {x2 : Int32} {u3 : Option MV} {h : MH} (L : Lay h.2) (g0 : 0 ≤ x2.toInt ∧ x2.toInt < 4) (k : Wb rod d B_Main_rows 67 [some (.inr (.inr (.inl (some 0)))), u1, some (.inl x2), u3] [.inl (h.1 80 x2.toNatClampNeg)] h Q) : Wb rod d B_Main_rows 54 [some (.inr (.inr (.inl (some 0)))), u1, some (.inl x2), u3] [] h Q := by
  refine Wb.go (fun r hr q => b_Main_rows_54 (Lay.o0 L) (Lay.k0_6 L) (by simp only [Option.getD_some, (Lay.r0_6 L), (Lay.r78_2 L)]; exact gA_of (L.1 80 _ rfl) (inB_of (And.left g0) (by have q := And.right g0; omega))) ?_) k
  (first | exact q | (simp only [Option.getD_some, (Lay.r0_6 L), (Lay.r78_2 L)]; exact q))
theorem w_Main_rows_66 {rod : Nat → Nat × (Nat → Int32)} {d : Nat} {Q : Option MV → MH → Prop} {u0 : Option MV} {u1 : Option MV} {u2 : Option MV} {u3 : Option MV} {h : MH}   (k : Wb rod d B_Main_rows 67 [u0, u1, u2, u3] [.inl (-1 : Int32)] h Q) : Wb rod d B_Main_rows 66 [u0, u1, u2, u3] [] h Q := by
  refine Wb.go (fun r hr q => b_Main_rows_66 ?_) k
  (first | exact q | (simp only [Option.getD_some]; exact q))
theorem w_Main_rows_67 {rod : Nat → Nat × (Nat → Int32)} {d : Nat} {Q : Option MV → MH → Prop} {u0 : Option MV} {u1 : Option MV} {u2 : Option MV} {u3 : Option MV} {xs0 : Int32} {h : MH}   (q : Q (some (.inl xs0)) h) : Wb rod d B_Main_rows 67 [u0, u1, u2, u3] [.inl xs0] h Q := by
  refine Wb.ret (b_Main_rows_67) ?_
  (first | exact q | (simp only [Option.getD_some]; exact q))
theorem n_Sharing_standing {rod : Nat → Nat × (Nat → Int32)} {d : Nat} {Q : Option MV → MH → Prop} {a1 : Nat} {h : MH} (k : Wb rod d B_Sharing_standing 0 [some (.inr (.inr (.inl (some 78)))), some (.inr (.inr (.inl (some a1)))), none] [] h Q) : Wc rod (d + 1) 131 [.inr (.inr (.inl (some 78))), .inr (.inr (.inl (some a1)))] h Q := Wc.en (fun _ _ => e_Sharing_standing) k
theorem w_Sharing_standing_0 {rod : Nat → Nat × (Nat → Int32)} {d : Nat} {Q : Option MV → MH → Prop} {u1 : Option MV} {u2 : Option MV} {h : MH} (L : Lay h.2)  (k : Wb rod d B_Sharing_standing 5 [some (.inr (.inr (.inl (some 78)))), u1, u2] [] (sI h 78 0 (0 : Int32)) Q) : Wb rod d B_Sharing_standing 0 [some (.inr (.inr (.inl (some 78)))), u1, u2] [] h Q := by
  refine Wb.go (fun r hr q => b_Sharing_standing_0 (Lay.o78 L) ?_) k
  (first | exact q | (simp only [Option.getD_some]; exact q))
theorem w_Sharing_standing_5 {rod : Nat → Nat × (Nat → Int32)} {d : Nat} {Q : Option MV → MH → Prop} {u1 : Option MV} {u2 : Option MV} {h : MH} (L : Lay h.2)  (k : Wb rod d B_Sharing_standing 12 [some (.inr (.inr (.inl (some 78)))), u1, u2] [] (sI h 81 (0 : Int32).toNatClampNeg (0 : Int32)) Q) : Wb rod d B_Sharing_standing 5 [some (.inr (.inr (.inl (some 78)))), u1, u2] [] h Q := by
  refine Wb.go (fun r hr q => b_Sharing_standing_5 (Lay.o78 L) (Lay.a78_3 L ⟨by decide, by decide⟩) ?_) k
  (first | exact q | (simp only [Option.getD_some, (Lay.r78_3 L)]; exact q))
theorem w_Sharing_standing_12 {rod : Nat → Nat × (Nat → Int32)} {d : Nat} {Q : Option MV → MH → Prop} {u0 : Option MV} {a1 : Nat} {u2 : Option MV} {h : MH} (A1 : BargA h.2 a1)  {Q1 : Option MV → MH → Prop} (c : Wc rod d 128 [.inr (.inr (.inl (some a1)))] h Q1) (k : ∀ r1 h2, Q1 r1 h2 → Wb rod d B_Sharing_standing 17 [u0, some (.inr (.inr (.inl (some a1)))), u2] (r1.toList ++ [.inr (.inr (.inl (some a1)))]) h2 Q) : Wb rod d B_Sharing_standing 12 [u0, some (.inr (.inr (.inl (some a1)))), u2] [] h Q := by
  refine Wb.call (fun _ _ _ _ => b_Sharing_standing_12 (A1.o)) (Q1 := Q1) ?_ ?_
  · (first | exact c | (simp only [Option.getD_some]; exact c))
  · (first | exact k | (simp only [Option.getD_some]; exact k))
theorem w_Sharing_standing_17 {rod : Nat → Nat × (Nat → Int32)} {d : Nat} {Q : Option MV → MH → Prop} {u0 : Option MV} {u1 : Option MV} {u2 : Option MV} {as0 : Nat} {xs1 : Int32} {h : MH} (As0 : BargA h.2 as0)  {Q1 : Option MV → MH → Prop} (c : Wc rod d 129 [.inr (.inr (.inl (some as0))), .inl xs1] h Q1) (k : ∀ r1 h2, Q1 r1 h2 → Wb rod d B_Sharing_standing 20 [u0, u1, u2] (r1.toList ++ []) h2 Q) : Wb rod d B_Sharing_standing 17 [u0, u1, u2] [.inl xs1, .inr (.inr (.inl (some as0)))] h Q := by
  refine Wb.call (fun _ _ _ _ => b_Sharing_standing_17 (As0.o)) (Q1 := Q1) ?_ ?_
  · (first | exact c | (simp only [Option.getD_some]; exact c))
  · (first | exact k | (simp only [Option.getD_some]; exact k))
theorem w_Sharing_standing_20 {rod : Nat → Nat × (Nat → Int32)} {d : Nat} {Q : Option MV → MH → Prop} {u0 : Option MV} {a1 : Nat} {u2 : Option MV} {xs0 : Int32} {h : MH} (A1 : BargA h.2 a1)  (k1 : ¬ (h.1 a1 0).toInt = 1 → Wb rod d B_Sharing_standing 44 [u0, some (.inr (.inr (.inl (some a1)))), some (.inl xs0)] [] h Q) (k2 : (h.1 a1 0).toInt = 1 → Wb rod d B_Sharing_standing 29 [u0, some (.inr (.inr (.inl (some a1)))), some (.inl xs0)] [] h Q) : Wb rod d B_Sharing_standing 20 [u0, some (.inr (.inr (.inl (some a1)))), u2] [.inl xs0] h Q := by
  refine Wb.br (fun _ _ => b_Sharing_standing_20 (A1.o)) (fun c => ?_) (fun c => ?_)
  · have c : (!(decide ((h.1 a1 0) = (1 : Int32)))) = true := by first | exact c | (simp only [Option.getD_some] at c; exact c)
    (first | exact (k1 (c_net c)) | (simp only [Option.getD_some]; exact (k1 (c_net c))))
  · have c : (!(decide ((h.1 a1 0) = (1 : Int32)))) = false := by first | exact c | (simp only [Option.getD_some] at c; exact c)
    (first | exact (k2 (c_nef c)) | (simp only [Option.getD_some]; exact (k2 (c_nef c))))
theorem w_Sharing_standing_29 {rod : Nat → Nat × (Nat → Int32)} {d : Nat} {Q : Option MV → MH → Prop} {u1 : Option MV} {x2 : Int32} {h : MH} (L : Lay h.2)  (k : Wb rod d B_Sharing_standing 36 [some (.inr (.inr (.inl (some 78)))), u1, some (.inl x2)] [] (sI h 79 (0 : Int32).toNatClampNeg x2) Q) : Wb rod d B_Sharing_standing 29 [some (.inr (.inr (.inl (some 78)))), u1, some (.inl x2)] [] h Q := by
  refine Wb.go (fun r hr q => b_Sharing_standing_29 (Lay.o78 L) (Lay.a78_1 L ⟨by decide, by decide⟩) ?_) k
  (first | exact q | (simp only [Option.getD_some, (Lay.r78_1 L)]; exact q))
theorem w_Sharing_standing_36 {rod : Nat → Nat × (Nat → Int32)} {d : Nat} {Q : Option MV → MH → Prop} {u1 : Option MV} {u2 : Option MV} {h : MH} (L : Lay h.2)  {Q1 : Option MV → MH → Prop} (c : Wc rod d 132 [.inr (.inr (.inl (some 78))), .inl (1 : Int32)] h Q1) (k : ∀ r1 h2, Q1 r1 h2 → Wb rod d B_Sharing_standing 41 [some (.inr (.inr (.inl (some 78)))), u1, u2] (r1.toList ++ []) h2 Q) : Wb rod d B_Sharing_standing 36 [some (.inr (.inr (.inl (some 78)))), u1, u2] [] h Q := by
  refine Wb.call (fun _ _ _ _ => b_Sharing_standing_36 (Lay.o78 L)) (Q1 := Q1) ?_ ?_
  · (first | exact c | (simp only [Option.getD_some]; exact c))
  · (first | exact k | (simp only [Option.getD_some]; exact k))
theorem w_Sharing_standing_41 {rod : Nat → Nat × (Nat → Int32)} {d : Nat} {Q : Option MV → MH → Prop} {u0 : Option MV} {u1 : Option MV} {u2 : Option MV} {h : MH}   (k : Wb rod d B_Sharing_standing 51 [u0, u1, u2] [] h Q) : Wb rod d B_Sharing_standing 41 [u0, u1, u2] [] h Q := by
  refine Wb.go (fun r hr q => b_Sharing_standing_41 ?_) k
  (first | exact q | (simp only [Option.getD_some]; exact q))
theorem w_Sharing_standing_44 {rod : Nat → Nat × (Nat → Int32)} {d : Nat} {Q : Option MV → MH → Prop} {a1 : Nat} {x2 : Int32} {h : MH} (L : Lay h.2)  {Q1 : Option MV → MH → Prop} (c : Wc rod d 133 [.inr (.inr (.inl (some 78))), .inr (.inr (.inl (some a1))), .inl (0 : Int32), .inl x2] h Q1) (k : ∀ r1 h2, Q1 r1 h2 → Wb rod d B_Sharing_standing 51 [some (.inr (.inr (.inl (some 78)))), some (.inr (.inr (.inl (some a1)))), some (.inl x2)] (r1.toList ++ []) h2 Q) : Wb rod d B_Sharing_standing 44 [some (.inr (.inr (.inl (some 78)))), some (.inr (.inr (.inl (some a1)))), some (.inl x2)] [] h Q := by
  refine Wb.call (fun _ _ _ _ => b_Sharing_standing_44 (Lay.o78 L)) (Q1 := Q1) ?_ ?_
  · (first | exact c | (simp only [Option.getD_some]; exact c))
  · (first | exact k | (simp only [Option.getD_some]; exact k))
theorem w_Sharing_standing_51 {rod : Nat → Nat × (Nat → Int32)} {d : Nat} {Q : Option MV → MH → Prop} {u0 : Option MV} {u1 : Option MV} {u2 : Option MV} {h : MH}   (q : Q (none) h) : Wb rod d B_Sharing_standing 51 [u0, u1, u2] [] h Q := by
  refine Wb.ret (b_Sharing_standing_51) ?_
  (first | exact q | (simp only [Option.getD_some]; exact q))
theorem n_Sharing_countRows {rod : Nat → Nat × (Nat → Int32)} {d : Nat} {Q : Option MV → MH → Prop} {x1 : Int32} {h : MH} (k : Wb rod d B_Sharing_countRows 0 [some (.inr (.inr (.inl (some 78)))), some (.inl x1)] [] h Q) : Wc rod (d + 1) 132 [.inr (.inr (.inl (some 78))), .inl x1] h Q := Wc.en (fun _ _ => e_Sharing_countRows) k
theorem w_Sharing_countRows_0 {rod : Nat → Nat × (Nat → Int32)} {d : Nat} {Q : Option MV → MH → Prop} {u1 : Option MV} {h : MH} (L : Lay h.2)  (k1 : ¬ (h.1 78 0).toInt = 0 → Wb rod d B_Sharing_countRows 21 [some (.inr (.inr (.inl (some 78)))), u1] [] h Q) (k2 : (h.1 78 0).toInt = 0 → Wb rod d B_Sharing_countRows 7 [some (.inr (.inr (.inl (some 78)))), u1] [] h Q) : Wb rod d B_Sharing_countRows 0 [some (.inr (.inr (.inl (some 78)))), u1] [] h Q := by
  refine Wb.br (fun _ _ => b_Sharing_countRows_0 (Lay.o78 L)) (fun c => ?_) (fun c => ?_)
  · have c : (!(decide ((h.1 78 0) = 0))) = true := by first | exact c | (simp only [Option.getD_some] at c; exact c)
    (first | exact (k1 (c_net c)) | (simp only [Option.getD_some]; exact (k1 (c_net c))))
  · have c : (!(decide ((h.1 78 0) = 0))) = false := by first | exact c | (simp only [Option.getD_some] at c; exact c)
    (first | exact (k2 (c_nef c)) | (simp only [Option.getD_some]; exact (k2 (c_nef c))))
theorem w_Sharing_countRows_7 {rod : Nat → Nat × (Nat → Int32)} {d : Nat} {Q : Option MV → MH → Prop} {u1 : Option MV} {h : MH} (L : Lay h.2)  (k : Wb rod d B_Sharing_countRows 21 [some (.inr (.inr (.inl (some 78)))), u1] [] (sC h 79 80 (0 : Int32).toNatClampNeg (0 : Int32).toNatClampNeg (4 : Int32).toNatClampNeg) Q) : Wb rod d B_Sharing_countRows 7 [some (.inr (.inr (.inl (some 78)))), u1] [] h Q := by
  refine Wb.go (fun r hr q => b_Sharing_countRows_7 (Lay.o78 L) (cp_ok (N1 := 4) (N2 := 4) (N := 4) (Lay.k78_1 L) (Lay.k78_2 L) (by decide) (Lay.n78_1 L) (Lay.n78_2 L) ⟨by decide, by decide⟩ (by decide) (by decide)) ?_) k
  (first | exact q | (simp only [Option.getD_some, (Lay.r78_1 L), (Lay.r78_2 L)]; exact q))
theorem w_Sharing_countRows_21 {rod : Nat → Nat × (Nat → Int32)} {d : Nat} {Q : Option MV → MH → Prop} {x1 : Int32} {h : MH} (L : Lay h.2)  (k : Wb rod d B_Sharing_countRows 31 [some (.inr (.inr (.inl (some 78)))), some (.inl x1)] [] (sI h 78 0 ((h.1 78 0) + x1)) Q) : Wb rod d B_Sharing_countRows 21 [some (.inr (.inr (.inl (some 78)))), some (.inl x1)] [] h Q := by
  refine Wb.go (fun r hr q => b_Sharing_countRows_21 (Lay.o78 L) ?_) k
  (first | exact q | (simp only [Option.getD_some]; exact q))
theorem w_Sharing_countRows_31 {rod : Nat → Nat × (Nat → Int32)} {d : Nat} {Q : Option MV → MH → Prop} {u0 : Option MV} {u1 : Option MV} {h : MH}   (q : Q (none) h) : Wb rod d B_Sharing_countRows 31 [u0, u1] [] h Q := by
  refine Wb.ret (b_Sharing_countRows_31) ?_
  (first | exact q | (simp only [Option.getD_some]; exact q))
theorem n_Sharing_deal {rod : Nat → Nat × (Nat → Int32)} {d : Nat} {Q : Option MV → MH → Prop} {a1 : Nat} {x2 : Int32} {x3 : Int32} {h : MH} (k : Wb rod d B_Sharing_deal 0 [some (.inr (.inr (.inl (some 78)))), some (.inr (.inr (.inl (some a1)))), some (.inl x2), some (.inl x3), none, none] [] h Q) : Wc rod (d + 1) 133 [.inr (.inr (.inl (some 78))), .inr (.inr (.inl (some a1))), .inl x2, .inl x3] h Q := Wc.en (fun _ _ => e_Sharing_deal) k
theorem w_Sharing_deal_0 {rod : Nat → Nat × (Nat → Int32)} {d : Nat} {Q : Option MV → MH → Prop} {u0 : Option MV} {a1 : Nat} {x2 : Int32} {u3 : Option MV} {u4 : Option MV} {u5 : Option MV} {h : MH} (A1 : BargA h.2 a1)  {Q1 : Option MV → MH → Prop} (c : Wc rod d 134 [.inr (.inr (.inl (some a1))), .inl (x2 + (1 : Int32))] h Q1) (k : ∀ r1 h2, Q1 r1 h2 → Wb rod d B_Sharing_deal 7 [u0, some (.inr (.inr (.inl (some a1)))), some (.inl x2), u3, u4, u5] (r1.toList ++ []) h2 Q) : Wb rod d B_Sharing_deal 0 [u0, some (.inr (.inr (.inl (some a1)))), some (.inl x2), u3, u4, u5] [] h Q := by
  refine Wb.call (fun _ _ _ _ => b_Sharing_deal_0 (A1.o)) (Q1 := Q1) ?_ ?_
  · (first | exact c | (simp only [Option.getD_some]; exact c))
  · (first | exact k | (simp only [Option.getD_some]; exact k))
theorem w_Sharing_deal_7 {rod : Nat → Nat × (Nat → Int32)} {d : Nat} {Q : Option MV → MH → Prop} {u0 : Option MV} {u1 : Option MV} {u2 : Option MV} {u3 : Option MV} {u4 : Option MV} {u5 : Option MV} {xs0 : Int32} {h : MH}   (k1 : ¬ xs0.toInt = 0 → Wb rod d B_Sharing_deal 11 [u0, u1, u2, u3, u4, u5] [] h Q) (k2 : xs0.toInt = 0 → Wb rod d B_Sharing_deal 10 [u0, u1, u2, u3, u4, u5] [] h Q) : Wb rod d B_Sharing_deal 7 [u0, u1, u2, u3, u4, u5] [.inl xs0] h Q := by
  refine Wb.br (fun _ _ => b_Sharing_deal_7) (fun c => ?_) (fun c => ?_)
  · have c : (!(decide (xs0 = 0))) = true := by first | exact c | (simp only [Option.getD_some] at c; exact c)
    (first | exact (k1 (c_net c)) | (simp only [Option.getD_some]; exact (k1 (c_net c))))
  · have c : (!(decide (xs0 = 0))) = false := by first | exact c | (simp only [Option.getD_some] at c; exact c)
    (first | exact (k2 (c_nef c)) | (simp only [Option.getD_some]; exact (k2 (c_nef c))))
theorem w_Sharing_deal_10 {rod : Nat → Nat × (Nat → Int32)} {d : Nat} {Q : Option MV → MH → Prop} {u0 : Option MV} {u1 : Option MV} {u2 : Option MV} {u3 : Option MV} {u4 : Option MV} {u5 : Option MV} {h : MH}   (q : Q (none) h) : Wb rod d B_Sharing_deal 10 [u0, u1, u2, u3, u4, u5] [] h Q := by
  refine Wb.ret (b_Sharing_deal_10) ?_
  (first | exact q | (simp only [Option.getD_some]; exact q))
theorem w_Sharing_deal_11 {rod : Nat → Nat × (Nat → Int32)} {d : Nat} {Q : Option MV → MH → Prop} {a1 : Nat} {x2 : Int32} {u3 : Option MV} {u4 : Option MV} {u5 : Option MV} {h : MH} (L : Lay h.2)  {Q1 : Option MV → MH → Prop} (c : Wc rod d 135 [.inr (.inr (.inl (some 78))), .inr (.inr (.inl (some a1))), .inl x2, .inl ((1 : Int32) <<< (x2 &&& 31))] h Q1) (k : ∀ r1 h2, Q1 r1 h2 → Wb rod d B_Sharing_deal 20 [some (.inr (.inr (.inl (some 78)))), some (.inr (.inr (.inl (some a1)))), some (.inl x2), u3, u4, u5] (r1.toList ++ []) h2 Q) : Wb rod d B_Sharing_deal 11 [some (.inr (.inr (.inl (some 78)))), some (.inr (.inr (.inl (some a1)))), some (.inl x2), u3, u4, u5] [] h Q := by
  refine Wb.call (fun _ _ _ _ => b_Sharing_deal_11 (Lay.o78 L)) (Q1 := Q1) ?_ ?_
  · (first | exact c | (simp only [Option.getD_some]; exact c))
  · (first | exact k | (simp only [Option.getD_some]; exact k))
theorem w_Sharing_deal_20 {rod : Nat → Nat × (Nat → Int32)} {d : Nat} {Q : Option MV → MH → Prop} {u0 : Option MV} {a1 : Nat} {x2 : Int32} {u3 : Option MV} {u4 : Option MV} {u5 : Option MV} {xs0 : Int32} {h : MH} (A1 : BargA h.2 a1) (g0 : okl [u0, some (.inr (.inr (.inl (some a1)))), some (.inl x2), u3, u4, u5] 4 = true) (k1 : ¬ (x2 + (2 : Int32)).toInt = (h.1 a1 0).toInt → Wb rod d B_Sharing_deal 42 [u0, some (.inr (.inr (.inl (some a1)))), some (.inl x2), u3, some (.inl xs0), u5] [] h Q) (k2 : (x2 + (2 : Int32)).toInt = (h.1 a1 0).toInt → Wb rod d B_Sharing_deal 32 [u0, some (.inr (.inr (.inl (some a1)))), some (.inl x2), u3, some (.inl xs0), u5] [] h Q) : Wb rod d B_Sharing_deal 20 [u0, some (.inr (.inr (.inl (some a1)))), some (.inl x2), u3, u4, u5] [.inl xs0] h Q := by
  refine Wb.br (fun _ _ => b_Sharing_deal_20 g0 (A1.o)) (fun c => ?_) (fun c => ?_)
  · have c : (!(decide ((x2 + (2 : Int32)) = (h.1 a1 0)))) = true := by first | exact c | (simp only [Option.getD_some] at c; exact c)
    (first | exact (k1 (c_net c)) | (simp only [Option.getD_some]; exact (k1 (c_net c))))
  · have c : (!(decide ((x2 + (2 : Int32)) = (h.1 a1 0)))) = false := by first | exact c | (simp only [Option.getD_some] at c; exact c)
    (first | exact (k2 (c_nef c)) | (simp only [Option.getD_some]; exact (k2 (c_nef c))))
theorem w_Sharing_deal_32 {rod : Nat → Nat × (Nat → Int32)} {d : Nat} {Q : Option MV → MH → Prop} {a1 : Nat} {x2 : Int32} {x3 : Int32} {x4 : Int32} {u5 : Option MV} {h : MH} (L : Lay h.2)  {Q1 : Option MV → MH → Prop} (c : Wc rod d 136 [.inr (.inr (.inl (some 78))), .inr (.inr (.inl (some a1))), .inl x2, .inl x4, .inl x3] h Q1) (k : ∀ r1 h2, Q1 r1 h2 → Wb rod d B_Sharing_deal 41 [some (.inr (.inr (.inl (some 78)))), some (.inr (.inr (.inl (some a1)))), some (.inl x2), some (.inl x3), some (.inl x4), u5] (r1.toList ++ []) h2 Q) : Wb rod d B_Sharing_deal 32 [some (.inr (.inr (.inl (some 78)))), some (.inr (.inr (.inl (some a1)))), some (.inl x2), some (.inl x3), some (.inl x4), u5] [] h Q := by
  refine Wb.call (fun _ _ _ _ => b_Sharing_deal_32 (Lay.o78 L)) (Q1 := Q1) ?_ ?_
  · (first | exact c | (simp only [Option.getD_some]; exact c))
  · (first | exact k | (simp only [Option.getD_some]; exact k))
theorem w_Sharing_deal_41 {rod : Nat → Nat × (Nat → Int32)} {d : Nat} {Q : Option MV → MH → Prop} {u0 : Option MV} {u1 : Option MV} {u2 : Option MV} {u3 : Option MV} {u4 : Option MV} {u5 : Option MV} {h : MH}   (q : Q (none) h) : Wb rod d B_Sharing_deal 41 [u0, u1, u2, u3, u4, u5] [] h Q := by
  refine Wb.ret (b_Sharing_deal_41) ?_
  (first | exact q | (simp only [Option.getD_some]; exact q))
theorem w_Sharing_deal_42 {rod : Nat → Nat × (Nat → Int32)} {d : Nat} {Q : Option MV → MH → Prop} {u0 : Option MV} {u1 : Option MV} {u2 : Option MV} {u3 : Option MV} {x4 : Int32} {u5 : Option MV} {h : MH}   (k : Wb rod d B_Sharing_deal 46 [u0, u1, u2, u3, some (.inl x4), some (.inl x4)] [] h Q) : Wb rod d B_Sharing_deal 42 [u0, u1, u2, u3, some (.inl x4), u5] [] h Q := by
  refine Wb.go (fun r hr q => b_Sharing_deal_42 ?_) k
  (first | exact q | (simp only [Option.getD_some]; exact q))
theorem w_Sharing_deal_46 {rod : Nat → Nat × (Nat → Int32)} {d : Nat} {Q : Option MV → MH → Prop} {u0 : Option MV} {u1 : Option MV} {u2 : Option MV} {x3 : Int32} {u4 : Option MV} {x5 : Int32} {h : MH}   (k1 : x3.toInt < x5.toInt → Wb rod d B_Sharing_deal 85 [u0, u1, u2, some (.inl x3), u4, some (.inl x5)] [] h Q) (k2 : ¬ x3.toInt < x5.toInt → Wb rod d B_Sharing_deal 52 [u0, u1, u2, some (.inl x3), u4, some (.inl x5)] [] h Q) : Wb rod d B_Sharing_deal 46 [u0, u1, u2, some (.inl x3), u4, some (.inl x5)] [] h Q := by
  refine Wb.br (fun _ _ => b_Sharing_deal_46) (fun c => ?_) (fun c => ?_)
  · have c : (decide (x3 < x5)) = true := by first | exact c | (simp only [Option.getD_some] at c; exact c)
    (first | exact (k1 (c_ltt c)) | (simp only [Option.getD_some]; exact (k1 (c_ltt c))))
  · have c : (decide (x3 < x5)) = false := by first | exact c | (simp only [Option.getD_some] at c; exact c)
    (first | exact (k2 (c_ltf c)) | (simp only [Option.getD_some]; exact (k2 (c_ltf c))))
theorem w_Sharing_deal_52 {rod : Nat → Nat × (Nat → Int32)} {d : Nat} {Q : Option MV → MH → Prop} {u1 : Option MV} {x2 : Int32} {u3 : Option MV} {u4 : Option MV} {x5 : Int32} {h : MH} (L : Lay h.2) (g0 : 0 ≤ x2.toInt ∧ x2.toInt < 4) (k : Wb rod d B_Sharing_deal 60 [some (.inr (.inr (.inl (some 78)))), u1, some (.inl x2), u3, u4, some (.inl x5)] [] (sI h 79 x2.toNatClampNeg x5) Q) : Wb rod d B_Sharing_deal 52 [some (.inr (.inr (.inl (some 78)))), u1, some (.inl x2), u3, u4, some (.inl x5)] [] h Q := by
  refine Wb.go (fun r hr q => b_Sharing_deal_52 (Lay.o78 L) (Lay.a78_1 L g0) ?_) k
  (first | exact q | (simp only [Option.getD_some, (Lay.r78_1 L)]; exact q))
theorem w_Sharing_deal_60 {rod : Nat → Nat × (Nat → Int32)} {d : Nat} {Q : Option MV → MH → Prop} {u1 : Option MV} {x2 : Int32} {u3 : Option MV} {u4 : Option MV} {x5 : Int32} {h : MH} (L : Lay h.2)  {Q1 : Option MV → MH → Prop} (c : Wc rod d 137 [.inr (.inr (.inl (some 78))), .inl x2, .inl x5] h Q1) (k : ∀ r1 h2, Q1 r1 h2 → Wb rod d B_Sharing_deal 67 [some (.inr (.inr (.inl (some 78)))), u1, some (.inl x2), u3, u4, some (.inl x5)] (r1.toList ++ []) h2 Q) : Wb rod d B_Sharing_deal 60 [some (.inr (.inr (.inl (some 78)))), u1, some (.inl x2), u3, u4, some (.inl x5)] [] h Q := by
  refine Wb.call (fun _ _ _ _ => b_Sharing_deal_60 (Lay.o78 L)) (Q1 := Q1) ?_ ?_
  · (first | exact c | (simp only [Option.getD_some]; exact c))
  · (first | exact k | (simp only [Option.getD_some]; exact k))
theorem w_Sharing_deal_67 {rod : Nat → Nat × (Nat → Int32)} {d : Nat} {Q : Option MV → MH → Prop} {a1 : Nat} {x2 : Int32} {x3 : Int32} {u4 : Option MV} {x5 : Int32} {h : MH} (L : Lay h.2)  {Q1 : Option MV → MH → Prop} (c : Wc rod d 133 [.inr (.inr (.inl (some 78))), .inr (.inr (.inl (some a1))), .inl (x2 + (1 : Int32)), .inl (x3 - x5)] h Q1) (k : ∀ r1 h2, Q1 r1 h2 → Wb rod d B_Sharing_deal 79 [some (.inr (.inr (.inl (some 78)))), some (.inr (.inr (.inl (some a1)))), some (.inl x2), some (.inl x3), u4, some (.inl x5)] (r1.toList ++ []) h2 Q) : Wb rod d B_Sharing_deal 67 [some (.inr (.inr (.inl (some 78)))), some (.inr (.inr (.inl (some a1)))), some (.inl x2), some (.inl x3), u4, some (.inl x5)] [] h Q := by
  refine Wb.call (fun _ _ _ _ => b_Sharing_deal_67 (Lay.o78 L)) (Q1 := Q1) ?_ ?_
  · (first | exact c | (simp only [Option.getD_some]; exact c))
  · (first | exact k | (simp only [Option.getD_some]; exact k))
theorem w_Sharing_deal_79 {rod : Nat → Nat × (Nat → Int32)} {d : Nat} {Q : Option MV → MH → Prop} {u0 : Option MV} {u1 : Option MV} {u2 : Option MV} {u3 : Option MV} {u4 : Option MV} {x5 : Int32} {h : MH}  (g0 : okl [u0, u1, u2, u3, u4, some (.inl x5)] 5 = true) (k : Wb rod d B_Sharing_deal 46 [u0, u1, u2, u3, u4, some (.inl (x5 + 1))] [] h Q) : Wb rod d B_Sharing_deal 79 [u0, u1, u2, u3, u4, some (.inl x5)] [] h Q := by
  refine Wb.go (fun r hr q => b_Sharing_deal_79 g0 ?_) k
  (first | exact q | (simp only [Option.getD_some]; exact q))
theorem w_Sharing_deal_85 {rod : Nat → Nat × (Nat → Int32)} {d : Nat} {Q : Option MV → MH → Prop} {u0 : Option MV} {u1 : Option MV} {u2 : Option MV} {u3 : Option MV} {u4 : Option MV} {u5 : Option MV} {h : MH}   (q : Q (none) h) : Wb rod d B_Sharing_deal 85 [u0, u1, u2, u3, u4, u5] [] h Q := by
  refine Wb.ret (b_Sharing_deal_85) ?_
  (first | exact q | (simp only [Option.getD_some]; exact q))
theorem n_Bargain_hasParty {rod : Nat → Nat × (Nat → Int32)} {d : Nat} {Q : Option MV → MH → Prop} {a0 : Nat} {x1 : Int32} {h : MH} (k : Wb rod d B_Bargain_hasParty 0 [some (.inr (.inr (.inl (some a0)))), some (.inl x1)] [] h Q) : Wc rod (d + 1) 134 [.inr (.inr (.inl (some a0))), .inl x1] h Q := Wc.en (fun _ _ => e_Bargain_hasParty) k
theorem w_Bargain_hasParty_0 {rod : Nat → Nat × (Nat → Int32)} {d : Nat} {Q : Option MV → MH → Prop} {u0 : Option MV} {x1 : Int32} {h : MH}   (k1 : x1.toInt < 0 → Wb rod d B_Bargain_hasParty 16 [u0, some (.inl x1)] [] h Q) (k2 : ¬ x1.toInt < 0 → Wb rod d B_Bargain_hasParty 4 [u0, some (.inl x1)] [] h Q) : Wb rod d B_Bargain_hasParty 0 [u0, some (.inl x1)] [] h Q := by
  refine Wb.br (fun _ _ => b_Bargain_hasParty_0) (fun c => ?_) (fun c => ?_)
  · have c : (decide (x1 < 0)) = true := by first | exact c | (simp only [Option.getD_some] at c; exact c)
    (first | exact (k1 (c_ltt c)) | (simp only [Option.getD_some]; exact (k1 (c_ltt c))))
  · have c : (decide (x1 < 0)) = false := by first | exact c | (simp only [Option.getD_some] at c; exact c)
    (first | exact (k2 (c_ltf c)) | (simp only [Option.getD_some]; exact (k2 (c_ltf c))))
theorem w_Bargain_hasParty_4 {rod : Nat → Nat × (Nat → Int32)} {d : Nat} {Q : Option MV → MH → Prop} {a0 : Nat} {x1 : Int32} {h : MH} (A0 : BargA h.2 a0)  (k1 : (h.1 a0 0).toInt ≤ x1.toInt → Wb rod d B_Bargain_hasParty 16 [some (.inr (.inr (.inl (some a0)))), some (.inl x1)] [] h Q) (k2 : ¬ (h.1 a0 0).toInt ≤ x1.toInt → Wb rod d B_Bargain_hasParty 12 [some (.inr (.inr (.inl (some a0)))), some (.inl x1)] [] h Q) : Wb rod d B_Bargain_hasParty 4 [some (.inr (.inr (.inl (some a0)))), some (.inl x1)] [] h Q := by
  refine Wb.br (fun _ _ => b_Bargain_hasParty_4 (A0.o)) (fun c => ?_) (fun c => ?_)
  · have c : (decide ((h.1 a0 0) ≤ x1)) = true := by first | exact c | (simp only [Option.getD_some] at c; exact c)
    (first | exact (k1 (c_let c)) | (simp only [Option.getD_some]; exact (k1 (c_let c))))
  · have c : (decide ((h.1 a0 0) ≤ x1)) = false := by first | exact c | (simp only [Option.getD_some] at c; exact c)
    (first | exact (k2 (c_lef c)) | (simp only [Option.getD_some]; exact (k2 (c_lef c))))
theorem w_Bargain_hasParty_12 {rod : Nat → Nat × (Nat → Int32)} {d : Nat} {Q : Option MV → MH → Prop} {u0 : Option MV} {u1 : Option MV} {h : MH}   (k : Wb rod d B_Bargain_hasParty 17 [u0, u1] [.inl (1 : Int32)] h Q) : Wb rod d B_Bargain_hasParty 12 [u0, u1] [] h Q := by
  refine Wb.go (fun r hr q => b_Bargain_hasParty_12 ?_) k
  (first | exact q | (simp only [Option.getD_some]; exact q))
theorem w_Bargain_hasParty_16 {rod : Nat → Nat × (Nat → Int32)} {d : Nat} {Q : Option MV → MH → Prop} {u0 : Option MV} {u1 : Option MV} {h : MH}   (k : Wb rod d B_Bargain_hasParty 17 [u0, u1] [.inl (0 : Int32)] h Q) : Wb rod d B_Bargain_hasParty 16 [u0, u1] [] h Q := by
  refine Wb.go (fun r hr q => b_Bargain_hasParty_16 ?_) k
  (first | exact q | (simp only [Option.getD_some]; exact q))
theorem w_Bargain_hasParty_17 {rod : Nat → Nat × (Nat → Int32)} {d : Nat} {Q : Option MV → MH → Prop} {u0 : Option MV} {u1 : Option MV} {xs0 : Int32} {h : MH}  (g0 : xs0 = 0 ∨ xs0 = 1) (q : Q (some (.inl xs0)) h) : Wb rod d B_Bargain_hasParty 17 [u0, u1] [.inl xs0] h Q := by
  refine Wb.ret (b_Bargain_hasParty_17 (d01 g0)) ?_
  (first | exact q | (simp only [Option.getD_some]; exact q))
theorem n_Sharing_leastShare {rod : Nat → Nat × (Nat → Int32)} {d : Nat} {Q : Option MV → MH → Prop} {a1 : Nat} {x2 : Int32} {x3 : Int32} {h : MH} (k : Wb rod d B_Sharing_leastShare 0 [some (.inr (.inr (.inl (some 78)))), some (.inr (.inr (.inl (some a1)))), some (.inl x2), some (.inl x3), none, none] [] h Q) : Wc rod (d + 1) 135 [.inr (.inr (.inl (some 78))), .inr (.inr (.inl (some a1))), .inl x2, .inl x3] h Q := Wc.en (fun _ _ => e_Sharing_leastShare) k
theorem w_Sharing_leastShare_0 {rod : Nat → Nat × (Nat → Int32)} {d : Nat} {Q : Option MV → MH → Prop} {u0 : Option MV} {u1 : Option MV} {u2 : Option MV} {u3 : Option MV} {u4 : Option MV} {u5 : Option MV} {h : MH}  (g0 : okl [u0, u1, u2, u3, u4, u5] 4 = true) (k : Wb rod d B_Sharing_leastShare 6 [u0, u1, u2, u3, some (.inl (0 : Int32)), some (.inl (0 : Int32))] [] h Q) : Wb rod d B_Sharing_leastShare 0 [u0, u1, u2, u3, u4, u5] [] h Q := by
  refine Wb.go (fun r hr q => b_Sharing_leastShare_0 g0 ?_) k
  (first | exact q | (simp only [Option.getD_some]; exact q))
theorem w_Sharing_leastShare_6 {rod : Nat → Nat × (Nat → Int32)} {d : Nat} {Q : Option MV → MH → Prop} {u0 : Option MV} {u1 : Option MV} {x2 : Int32} {u3 : Option MV} {u4 : Option MV} {x5 : Int32} {h : MH}   (k1 : ((1 : Int32) <<< (x2 &&& 31)).toInt ≤ x5.toInt → Wb rod d B_Sharing_leastShare 50 [u0, u1, some (.inl x2), u3, u4, some (.inl x5)] [] h Q) (k2 : ¬ ((1 : Int32) <<< (x2 &&& 31)).toInt ≤ x5.toInt → Wb rod d B_Sharing_leastShare 14 [u0, u1, some (.inl x2), u3, u4, some (.inl x5)] [] h Q) : Wb rod d B_Sharing_leastShare 6 [u0, u1, some (.inl x2), u3, u4, some (.inl x5)] [] h Q := by
  refine Wb.br (fun _ _ => b_Sharing_leastShare_6) (fun c => ?_) (fun c => ?_)
  · have c : (decide (((1 : Int32) <<< (x2 &&& 31)) ≤ x5)) = true := by first | exact c | (simp only [Option.getD_some] at c; exact c)
    (first | exact (k1 (c_let c)) | (simp only [Option.getD_some]; exact (k1 (c_let c))))
  · have c : (decide (((1 : Int32) <<< (x2 &&& 31)) ≤ x5)) = false := by first | exact c | (simp only [Option.getD_some] at c; exact c)
    (first | exact (k2 (c_lef c)) | (simp only [Option.getD_some]; exact (k2 (c_lef c))))
theorem w_Sharing_leastShare_14 {rod : Nat → Nat × (Nat → Int32)} {d : Nat} {Q : Option MV → MH → Prop} {u0 : Option MV} {u1 : Option MV} {u2 : Option MV} {u3 : Option MV} {u4 : Option MV} {x5 : Int32} {h : MH}   (k1 : 16 ≤ x5.toInt → Wb rod d B_Sharing_leastShare 50 [u0, u1, u2, u3, u4, some (.inl x5)] [] h Q) (k2 : ¬ 16 ≤ x5.toInt → Wb rod d B_Sharing_leastShare 21 [u0, u1, u2, u3, u4, some (.inl x5)] [] h Q) : Wb rod d B_Sharing_leastShare 14 [u0, u1, u2, u3, u4, some (.inl x5)] [] h Q := by
  refine Wb.br (fun _ _ => b_Sharing_leastShare_14) (fun c => ?_) (fun c => ?_)
  · have c : (decide ((16 : Int32) ≤ x5)) = true := by first | exact c | (simp only [Option.getD_some] at c; exact c)
    (first | exact (k1 (c_let c)) | (simp only [Option.getD_some]; exact (k1 (c_let c))))
  · have c : (decide ((16 : Int32) ≤ x5)) = false := by first | exact c | (simp only [Option.getD_some] at c; exact c)
    (first | exact (k2 (c_lef c)) | (simp only [Option.getD_some]; exact (k2 (c_lef c))))
theorem w_Sharing_leastShare_21 {rod : Nat → Nat × (Nat → Int32)} {d : Nat} {Q : Option MV → MH → Prop} {u0 : Option MV} {a1 : Nat} {u2 : Option MV} {x3 : Int32} {x4 : Int32} {x5 : Int32} {h : MH} (A1 : BargA h.2 a1)  {Q1 : Option MV → MH → Prop} (c : Wc rod d 129 [.inr (.inr (.inl (some a1))), .inl (x5 ||| x3)] h Q1) (k : ∀ r1 h2, Q1 r1 h2 → Wb rod d B_Sharing_leastShare 31 [u0, some (.inr (.inr (.inl (some a1)))), u2, some (.inl x3), some (.inl x4), some (.inl x5)] (r1.toList ++ [.inl x4]) h2 Q) : Wb rod d B_Sharing_leastShare 21 [u0, some (.inr (.inr (.inl (some a1)))), u2, some (.inl x3), some (.inl x4), some (.inl x5)] [] h Q := by
  refine Wb.call (fun _ _ _ _ => b_Sharing_leastShare_21 (A1.o)) (Q1 := Q1) ?_ ?_
  · (first | exact c | (simp only [Option.getD_some]; exact c))
  · (first | exact k | (simp only [Option.getD_some]; exact k))
theorem w_Sharing_leastShare_31 {rod : Nat → Nat × (Nat → Int32)} {d : Nat} {Q : Option MV → MH → Prop} {u1 : Option MV} {u2 : Option MV} {u3 : Option MV} {u4 : Option MV} {x5 : Int32} {xs0 : Int32} {xs1 : Int32} {h : MH} (L : Lay h.2) (g0 : 0 ≤ x5.toInt ∧ x5.toInt < 16) (g1 : okl [some (.inr (.inr (.inl (some 78)))), u1, u2, u3, u4, some (.inl x5)] 4 = true) (k : Wb rod d B_Sharing_leastShare 6 [some (.inr (.inr (.inl (some 78)))), u1, u2, u3, some (.inl (if xs0 < (xs1 - (h.1 81 x5.toNatClampNeg)) then (xs1 - (h.1 81 x5.toNatClampNeg)) else xs0)), some (.inl (x5 + 1))] [] h Q) : Wb rod d B_Sharing_leastShare 31 [some (.inr (.inr (.inl (some 78)))), u1, u2, u3, u4, some (.inl x5)] [.inl xs1, .inl xs0] h Q := by
  refine Wb.go (fun r hr q => b_Sharing_leastShare_31 (Lay.o78 L) (Lay.a78_3 L g0) g1 ?_) k
  (first | exact q | (simp only [Option.getD_some, (Lay.r78_3 L)]; exact q))
theorem w_Sharing_leastShare_50 {rod : Nat → Nat × (Nat → Int32)} {d : Nat} {Q : Option MV → MH → Prop} {u0 : Option MV} {u1 : Option MV} {u2 : Option MV} {u3 : Option MV} {x4 : Int32} {u5 : Option MV} {h : MH}   (q : Q (some (.inl x4)) h) : Wb rod d B_Sharing_leastShare 50 [u0, u1, u2, u3, some (.inl x4), u5] [] h Q := by
  refine Wb.ret (b_Sharing_leastShare_50) ?_
  (first | exact q | (simp only [Option.getD_some]; exact q))
theorem n_Sharing_dealToLastTwo {rod : Nat → Nat × (Nat → Int32)} {d : Nat} {Q : Option MV → MH → Prop} {a1 : Nat} {x2 : Int32} {x3 : Int32} {x4 : Int32} {h : MH} (k : Wb rod d B_Sharing_dealToLastTwo 0 [some (.inr (.inr (.inl (some 78)))), some (.inr (.inr (.inl (some a1)))), some (.inl x2), some (.inl x3), some (.inl x4), none, none, none] [] h Q) : Wc rod (d + 1) 136 [.inr (.inr (.inl (some 78))), .inr (.inr (.inl (some a1))), .inl x2, .inl x3, .inl x4] h Q := Wc.en (fun _ _ => e_Sharing_dealToLastTwo) k
theorem w_Sharing_dealToLastTwo_0 {rod : Nat → Nat × (Nat → Int32)} {d : Nat} {Q : Option MV → MH → Prop} {a1 : Nat} {x2 : Int32} {u3 : Option MV} {x4 : Int32} {u5 : Option MV} {u6 : Option MV} {u7 : Option MV} {h : MH} (L : Lay h.2)  {Q1 : Option MV → MH → Prop} (c : Wc rod d 135 [.inr (.inr (.inl (some 78))), .inr (.inr (.inl (some a1))), .inl x2, .inl ((1 : Int32) <<< ((x2 + (1 : Int32)) &&& 31))] h Q1) (k : ∀ r1 h2, Q1 r1 h2 → Wb rod d B_Sharing_dealToLastTwo 17 [some (.inr (.inr (.inl (some 78)))), some (.inr (.inr (.inl (some a1)))), some (.inl x2), u3, some (.inl x4), some (.inl (x2 + (1 : Int32))), u6, u7] (r1.toList ++ [.inl x4]) h2 Q) : Wb rod d B_Sharing_dealToLastTwo 0 [some (.inr (.inr (.inl (some 78)))), some (.inr (.inr (.inl (some a1)))), some (.inl x2), u3, some (.inl x4), u5, u6, u7] [] h Q := by
  refine Wb.call (fun _ _ _ _ => b_Sharing_dealToLastTwo_0 (Lay.o78 L)) (Q1 := Q1) ?_ ?_
  · (first | exact c | (simp only [Option.getD_some]; exact c))
  · (first | exact k | (simp only [Option.getD_some]; exact k))
theorem w_Sharing_dealToLastTwo_17 {rod : Nat → Nat × (Nat → Int32)} {d : Nat} {Q : Option MV → MH → Prop} {a1 : Nat} {x2 : Int32} {u3 : Option MV} {u4 : Option MV} {x5 : Int32} {u6 : Option MV} {u7 : Option MV} {xs0 : Int32} {xs1 : Int32} {h : MH} (L : Lay h.2)  {Q1 : Option MV → MH → Prop} (c : Wc rod d 135 [.inr (.inr (.inl (some 78))), .inr (.inr (.inl (some a1))), .inl x2, .inl (((1 : Int32) <<< (x2 &&& 31)) ||| ((1 : Int32) <<< (x5 &&& 31)))] h Q1) (k : ∀ r1 h2, Q1 r1 h2 → Wb rod d B_Sharing_dealToLastTwo 34 [some (.inr (.inr (.inl (some 78)))), some (.inr (.inr (.inl (some a1)))), some (.inl x2), u3, u4, some (.inl x5), some (.inl (xs0 - xs1)), u7] (r1.toList ++ []) h2 Q) : Wb rod d B_Sharing_dealToLastTwo 17 [some (.inr (.inr (.inl (some 78)))), some (.inr (.inr (.inl (some a1)))), some (.inl x2), u3, u4, some (.inl x5), u6, u7] [.inl xs1, .inl xs0] h Q := by
  refine Wb.call (fun _ _ _ _ => b_Sharing_dealToLastTwo_17 (Lay.o78 L)) (Q1 := Q1) ?_ ?_
  · (first | exact c | (simp only [Option.getD_some]; exact c))
  · (first | exact k | (simp only [Option.getD_some]; exact k))
theorem w_Sharing_dealToLastTwo_34 {rod : Nat → Nat × (Nat → Int32)} {d : Nat} {Q : Option MV → MH → Prop} {u0 : Option MV} {u1 : Option MV} {u2 : Option MV} {u3 : Option MV} {x4 : Int32} {u5 : Option MV} {u6 : Option MV} {u7 : Option MV} {xs0 : Int32} {h : MH}   (k1 : x4.toInt < xs0.toInt → Wb rod d B_Sharing_dealToLastTwo 43 [u0, u1, u2, u3, some (.inl x4), u5, u6, u7] [] h Q) (k2 : ¬ x4.toInt < xs0.toInt → Wb rod d B_Sharing_dealToLastTwo 39 [u0, u1, u2, u3, some (.inl x4), u5, u6, u7] [] h Q) : Wb rod d B_Sharing_dealToLastTwo 34 [u0, u1, u2, u3, some (.inl x4), u5, u6, u7] [.inl xs0] h Q := by
  refine Wb.br (fun _ _ => b_Sharing_dealToLastTwo_34) (fun c => ?_) (fun c => ?_)
  · have c : (decide (x4 < xs0)) = true := by first | exact c | (simp only [Option.getD_some] at c; exact c)
    (first | exact (k1 (c_ltt c)) | (simp only [Option.getD_some]; exact (k1 (c_ltt c))))
  · have c : (decide (x4 < xs0)) = false := by first | exact c | (simp only [Option.getD_some] at c; exact c)
    (first | exact (k2 (c_ltf c)) | (simp only [Option.getD_some]; exact (k2 (c_ltf c))))
theorem w_Sharing_dealToLastTwo_39 {rod : Nat → Nat × (Nat → Int32)} {d : Nat} {Q : Option MV → MH → Prop} {u0 : Option MV} {u1 : Option MV} {u2 : Option MV} {u3 : Option MV} {u4 : Option MV} {u5 : Option MV} {u6 : Option MV} {u7 : Option MV} {h : MH}   (k : Wb rod d B_Sharing_dealToLastTwo 44 [u0, u1, u2, u3, u4, u5, u6, u7] [.inl (1 : Int32)] h Q) : Wb rod d B_Sharing_dealToLastTwo 39 [u0, u1, u2, u3, u4, u5, u6, u7] [] h Q := by
  refine Wb.go (fun r hr q => b_Sharing_dealToLastTwo_39 ?_) k
  (first | exact q | (simp only [Option.getD_some]; exact q))
theorem w_Sharing_dealToLastTwo_43 {rod : Nat → Nat × (Nat → Int32)} {d : Nat} {Q : Option MV → MH → Prop} {u0 : Option MV} {u1 : Option MV} {u2 : Option MV} {u3 : Option MV} {u4 : Option MV} {u5 : Option MV} {u6 : Option MV} {u7 : Option MV} {h : MH}   (k : Wb rod d B_Sharing_dealToLastTwo 44 [u0, u1, u2, u3, u4, u5, u6, u7] [.inl (0 : Int32)] h Q) : Wb rod d B_Sharing_dealToLastTwo 43 [u0, u1, u2, u3, u4, u5, u6, u7] [] h Q := by
  refine Wb.go (fun r hr q => b_Sharing_dealToLastTwo_43 ?_) k
  (first | exact q | (simp only [Option.getD_some]; exact q))
theorem w_Sharing_dealToLastTwo_44 {rod : Nat → Nat × (Nat → Int32)} {d : Nat} {Q : Option MV → MH → Prop} {u0 : Option MV} {u1 : Option MV} {u2 : Option MV} {u3 : Option MV} {u4 : Option MV} {u5 : Option MV} {u6 : Option MV} {u7 : Option MV} {xs0 : Int32} {h : MH}  (g0 : okl [u0, u1, u2, u3, u4, u5, u6, u7] 7 = true) (k1 : xs0.toInt = 0 → Wb rod d B_Sharing_dealToLastTwo 85 [u0, u1, u2, u3, u4, u5, u6, some (.inl xs0)] [] h Q) (k2 : ¬ xs0.toInt = 0 → Wb rod d B_Sharing_dealToLastTwo 51 [u0, u1, u2, u3, u4, u5, u6, some (.inl xs0)] [] h Q) : Wb rod d B_Sharing_dealToLastTwo 44 [u0, u1, u2, u3, u4, u5, u6, u7] [.inl xs0] h Q := by
  refine Wb.br (fun _ _ => b_Sharing_dealToLastTwo_44 g0) (fun c => ?_) (fun c => ?_)
  · have c : (decide (xs0 = 0)) = true := by first | exact c | (simp only [Option.getD_some] at c; exact c)
    (first | exact (k1 (c_eqt c)) | (simp only [Option.getD_some]; exact (k1 (c_eqt c))))
  · have c : (decide (xs0 = 0)) = false := by first | exact c | (simp only [Option.getD_some] at c; exact c)
    (first | exact (k2 (c_eqf c)) | (simp only [Option.getD_some]; exact (k2 (c_eqf c))))
theorem w_Sharing_dealToLastTwo_51 {rod : Nat → Nat × (Nat → Int32)} {d : Nat} {Q : Option MV → MH → Prop} {u0 : Option MV} {u1 : Option MV} {u2 : Option MV} {x3 : Int32} {u4 : Option MV} {u5 : Option MV} {x6 : Int32} {u7 : Option MV} {h : MH}   (k1 : x6.toInt < x3.toInt → Wb rod d B_Sharing_dealToLastTwo 85 [u0, u1, u2, some (.inl x3), u4, u5, some (.inl x6), u7] [] h Q) (k2 : ¬ x6.toInt < x3.toInt → Wb rod d B_Sharing_dealToLastTwo 57 [u0, u1, u2, some (.inl x3), u4, u5, some (.inl x6), u7] [] h Q) : Wb rod d B_Sharing_dealToLastTwo 51 [u0, u1, u2, some (.inl x3), u4, u5, some (.inl x6), u7] [] h Q := by
  refine Wb.br (fun _ _ => b_Sharing_dealToLastTwo_51) (fun c => ?_) (fun c => ?_)
  · have c : (decide (x6 < x3)) = true := by first | exact c | (simp only [Option.getD_some] at c; exact c)
    (first | exact (k1 (c_ltt c)) | (simp only [Option.getD_some]; exact (k1 (c_ltt c))))
  · have c : (decide (x6 < x3)) = false := by first | exact c | (simp only [Option.getD_some] at c; exact c)
    (first | exact (k2 (c_ltf c)) | (simp only [Option.getD_some]; exact (k2 (c_ltf c))))
theorem w_Sharing_dealToLastTwo_57 {rod : Nat → Nat × (Nat → Int32)} {d : Nat} {Q : Option MV → MH → Prop} {u1 : Option MV} {x2 : Int32} {x3 : Int32} {u4 : Option MV} {u5 : Option MV} {u6 : Option MV} {u7 : Option MV} {h : MH} (L : Lay h.2) (g0 : 0 ≤ x2.toInt ∧ x2.toInt < 4) (k : Wb rod d B_Sharing_dealToLastTwo 64 [some (.inr (.inr (.inl (some 78)))), u1, some (.inl x2), some (.inl x3), u4, u5, u6, u7] [] (sI h 79 x2.toNatClampNeg x3) Q) : Wb rod d B_Sharing_dealToLastTwo 57 [some (.inr (.inr (.inl (some 78)))), u1, some (.inl x2), some (.inl x3), u4, u5, u6, u7] [] h Q := by
  refine Wb.go (fun r hr q => b_Sharing_dealToLastTwo_57 (Lay.o78 L) (Lay.a78_1 L g0) ?_) k
  (first | exact q | (simp only [Option.getD_some, (Lay.r78_1 L)]; exact q))
theorem w_Sharing_dealToLastTwo_64 {rod : Nat → Nat × (Nat → Int32)} {d : Nat} {Q : Option MV → MH → Prop} {u1 : Option MV} {u2 : Option MV} {x3 : Int32} {x4 : Int32} {x5 : Int32} {u6 : Option MV} {u7 : Option MV} {h : MH} (L : Lay h.2) (g0 : 0 ≤ x5.toInt ∧ x5.toInt < 4) (k : Wb rod d B_Sharing_dealToLastTwo 75 [some (.inr (.inr (.inl (some 78)))), u1, u2, some (.inl x3), some (.inl x4), some (.inl x5), u6, u7] [] (sI h 79 x5.toNatClampNeg (x4 - x3)) Q) : Wb rod d B_Sharing_dealToLastTwo 64 [some (.inr (.inr (.inl (some 78)))), u1, u2, some (.inl x3), some (.inl x4), some (.inl x5), u6, u7] [] h Q := by
  refine Wb.go (fun r hr q => b_Sharing_dealToLastTwo_64 (Lay.o78 L) (Lay.a78_1 L g0) ?_) k
  (first | exact q | (simp only [Option.getD_some, (Lay.r78_1 L)]; exact q))
theorem w_Sharing_dealToLastTwo_75 {rod : Nat → Nat × (Nat → Int32)} {d : Nat} {Q : Option MV → MH → Prop} {u1 : Option MV} {u2 : Option MV} {x3 : Int32} {u4 : Option MV} {u5 : Option MV} {x6 : Int32} {u7 : Option MV} {h : MH} (L : Lay h.2)  {Q1 : Option MV → MH → Prop} (c : Wc rod d 132 [.inr (.inr (.inl (some 78))), .inl ((x6 - x3) + (1 : Int32))] h Q1) (k : ∀ r1 h2, Q1 r1 h2 → Wb rod d B_Sharing_dealToLastTwo 85 [some (.inr (.inr (.inl (some 78)))), u1, u2, some (.inl x3), u4, u5, some (.inl x6), u7] (r1.toList ++ []) h2 Q) : Wb rod d B_Sharing_dealToLastTwo 75 [some (.inr (.inr (.inl (some 78)))), u1, u2, some (.inl x3), u4, u5, some (.inl x6), u7] [] h Q := by
  refine Wb.call (fun _ _ _ _ => b_Sharing_dealToLastTwo_75 (Lay.o78 L)) (Q1 := Q1) ?_ ?_
  · (first | exact c | (simp only [Option.getD_some]; exact c))
  · (first | exact k | (simp only [Option.getD_some]; exact k))
theorem w_Sharing_dealToLastTwo_85 {rod : Nat → Nat × (Nat → Int32)} {d : Nat} {Q : Option MV → MH → Prop} {u0 : Option MV} {u1 : Option MV} {u2 : Option MV} {u3 : Option MV} {u4 : Option MV} {u5 : Option MV} {u6 : Option MV} {u7 : Option MV} {h : MH}   (q : Q (none) h) : Wb rod d B_Sharing_dealToLastTwo 85 [u0, u1, u2, u3, u4, u5, u6, u7] [] h Q := by
  refine Wb.ret (b_Sharing_dealToLastTwo_85) ?_
  (first | exact q | (simp only [Option.getD_some]; exact q))
theorem n_Sharing_giveShare {rod : Nat → Nat × (Nat → Int32)} {d : Nat} {Q : Option MV → MH → Prop} {x1 : Int32} {x2 : Int32} {h : MH} (k : Wb rod d B_Sharing_giveShare 0 [some (.inr (.inr (.inl (some 78)))), some (.inl x1), some (.inl x2), none, none] [] h Q) : Wc rod (d + 1) 137 [.inr (.inr (.inl (some 78))), .inl x1, .inl x2] h Q := Wc.en (fun _ _ => e_Sharing_giveShare) k
theorem w_Sharing_giveShare_0 {rod : Nat → Nat × (Nat → Int32)} {d : Nat} {Q : Option MV → MH → Prop} {u0 : Option MV} {x1 : Int32} {u2 : Option MV} {u3 : Option MV} {u4 : Option MV} {h : MH}  (g0 : okl [u0, some (.inl x1), u2, u3, u4] 3 = true) (k : Wb rod d B_Sharing_giveShare 7 [u0, some (.inl x1), u2, some (.inl ((1 : Int32) <<< (x1 &&& 31))), some (.inl (0 : Int32))] [] h Q) : Wb rod d B_Sharing_giveShare 0 [u0, some (.inl x1), u2, u3, u4] [] h Q := by
  refine Wb.go (fun r hr q => b_Sharing_giveShare_0 g0 ?_) k
  (first | exact q | (simp only [Option.getD_some]; exact q))
theorem w_Sharing_giveShare_7 {rod : Nat → Nat × (Nat → Int32)} {d : Nat} {Q : Option MV → MH → Prop} {u0 : Option MV} {u1 : Option MV} {u2 : Option MV} {x3 : Int32} {x4 : Int32} {h : MH}   (k1 : x3.toInt ≤ x4.toInt → Wb rod d B_Sharing_giveShare 46 [u0, u1, u2, some (.inl x3), some (.inl x4)] [] h Q) (k2 : ¬ x3.toInt ≤ x4.toInt → Wb rod d B_Sharing_giveShare 13 [u0, u1, u2, some (.inl x3), some (.inl x4)] [] h Q) : Wb rod d B_Sharing_giveShare 7 [u0, u1, u2, some (.inl x3), some (.inl x4)] [] h Q := by
  refine Wb.br (fun _ _ => b_Sharing_giveShare_7) (fun c => ?_) (fun c => ?_)
  · have c : (decide (x3 ≤ x4)) = true := by first | exact c | (simp only [Option.getD_some] at c; exact c)
    (first | exact (k1 (c_let c)) | (simp only [Option.getD_some]; exact (k1 (c_let c))))
  · have c : (decide (x3 ≤ x4)) = false := by first | exact c | (simp only [Option.getD_some] at c; exact c)
    (first | exact (k2 (c_lef c)) | (simp only [Option.getD_some]; exact (k2 (c_lef c))))
theorem w_Sharing_giveShare_13 {rod : Nat → Nat × (Nat → Int32)} {d : Nat} {Q : Option MV → MH → Prop} {u0 : Option MV} {u1 : Option MV} {u2 : Option MV} {x3 : Int32} {x4 : Int32} {h : MH}   (k1 : 16 ≤ (x3 + x4).toInt → Wb rod d B_Sharing_giveShare 46 [u0, u1, u2, some (.inl x3), some (.inl x4)] [] h Q) (k2 : ¬ 16 ≤ (x3 + x4).toInt → Wb rod d B_Sharing_giveShare 22 [u0, u1, u2, some (.inl x3), some (.inl x4)] [] h Q) : Wb rod d B_Sharing_giveShare 13 [u0, u1, u2, some (.inl x3), some (.inl x4)] [] h Q := by
  refine Wb.br (fun _ _ => b_Sharing_giveShare_13) (fun c => ?_) (fun c => ?_)
  · have c : (decide ((16 : Int32) ≤ (x3 + x4))) = true := by first | exact c | (simp only [Option.getD_some] at c; exact c)
    (first | exact (k1 (c_let c)) | (simp only [Option.getD_some]; exact (k1 (c_let c))))
  · have c : (decide ((16 : Int32) ≤ (x3 + x4))) = false := by first | exact c | (simp only [Option.getD_some] at c; exact c)
    (first | exact (k2 (c_lef c)) | (simp only [Option.getD_some]; exact (k2 (c_lef c))))
theorem w_Sharing_giveShare_22 {rod : Nat → Nat × (Nat → Int32)} {d : Nat} {Q : Option MV → MH → Prop} {u1 : Option MV} {x2 : Int32} {x3 : Int32} {x4 : Int32} {h : MH} (L : Lay h.2) (g0 : 0 ≤ x4.toInt ∧ x4.toInt < 16) (g1 : 0 ≤ (x3 + x4).toInt ∧ (x3 + x4).toInt < 16) (k : Wb rod d B_Sharing_giveShare 40 [some (.inr (.inr (.inl (some 78)))), u1, some (.inl x2), some (.inl x3), some (.inl x4)] [] (sI h 81 (x3 + x4).toNatClampNeg ((h.1 81 x4.toNatClampNeg) + x2)) Q) : Wb rod d B_Sharing_giveShare 22 [some (.inr (.inr (.inl (some 78)))), u1, some (.inl x2), some (.inl x3), some (.inl x4)] [] h Q := by
  refine Wb.go (fun r hr q => b_Sharing_giveShare_22 (Lay.o78 L) (Lay.a78_3 L g0) (Lay.a78_3 L g1) ?_) k
  (first | exact q | (simp only [Option.getD_some, (Lay.r78_3 L)]; exact q))
theorem w_Sharing_giveShare_40 {rod : Nat → Nat × (Nat → Int32)} {d : Nat} {Q : Option MV → MH → Prop} {u0 : Option MV} {u1 : Option MV} {u2 : Option MV} {u3 : Option MV} {x4 : Int32} {h : MH}  (g0 : okl [u0, u1, u2, u3, some (.inl x4)] 4 = true) (k : Wb rod d B_Sharing_giveShare 7 [u0, u1, u2, u3, some (.inl (x4 + 1))] [] h Q) : Wb rod d B_Sharing_giveShare 40 [u0, u1, u2, u3, some (.inl x4)] [] h Q := by
  refine Wb.go (fun r hr q => b_Sharing_giveShare_40 g0 ?_) k
  (first | exact q | (simp only [Option.getD_some]; exact q))
theorem w_Sharing_giveShare_46 {rod : Nat → Nat × (Nat → Int32)} {d : Nat} {Q : Option MV → MH → Prop} {u0 : Option MV} {u1 : Option MV} {u2 : Option MV} {u3 : Option MV} {u4 : Option MV} {h : MH}   (q : Q (none) h) : Wb rod d B_Sharing_giveShare 46 [u0, u1, u2, u3, u4] [] h Q := by
  refine Wb.ret (b_Sharing_giveShare_46) ?_
  (first | exact q | (simp only [Option.getD_some]; exact q))
theorem n_Main_fair {rod : Nat → Nat × (Nat → Int32)} {d : Nat} {Q : Option MV → MH → Prop} {x1 : Int32} {x2 : Int32} {x3 : Int32} {h : MH} (k : Wb rod d B_Main_fair 0 [some (.inr (.inr (.inl (some 0)))), some (.inl x1), some (.inl x2), some (.inl x3), none, none, none, none] [] h Q) : Wc rod (d + 1) 138 [.inr (.inr (.inl (some 0))), .inl x1, .inl x2, .inl x3] h Q := Wc.en (fun _ _ => e_Main_fair) k
theorem w_Main_fair_0 {rod : Nat → Nat × (Nat → Int32)} {d : Nat} {Q : Option MV → MH → Prop} {x1 : Int32} {u2 : Option MV} {u3 : Option MV} {u4 : Option MV} {u5 : Option MV} {u6 : Option MV} {u7 : Option MV} {h : MH} (L : Lay h.2)  {Q1 : Option MV → MH → Prop} (c : Wc rod d 127 [.inr (.inr (.inl (some 1))), .inl x1] h Q1) (k : ∀ r1 h2, Q1 r1 h2 → Wb rod d B_Main_fair 8 [some (.inr (.inr (.inl (some 0)))), some (.inl x1), u2, u3, u4, u5, u6, u7] (r1.toList ++ []) h2 Q) : Wb rod d B_Main_fair 0 [some (.inr (.inr (.inl (some 0)))), some (.inl x1), u2, u3, u4, u5, u6, u7] [] h Q := by
  refine Wb.call (fun _ _ _ _ => b_Main_fair_0 (Lay.o0 L) (Lay.k0_0 L)) (Q1 := Q1) ?_ ?_
  · (first | exact c | (simp only [Option.getD_some, (Lay.r0_0 L)]; exact c))
  · (first | exact k | (simp only [Option.getD_some, (Lay.r0_0 L)]; exact k))
theorem w_Main_fair_8 {rod : Nat → Nat × (Nat → Int32)} {d : Nat} {Q : Option MV → MH → Prop} {u0 : Option MV} {u1 : Option MV} {u2 : Option MV} {u3 : Option MV} {u4 : Option MV} {u5 : Option MV} {u6 : Option MV} {u7 : Option MV} {os0 : Option Nat} {h : MH}  (g0 : okl [u0, u1, u2, u3, u4, u5, u6, u7] 4 = true) (k1 : os0 = none → Wb rod d B_Main_fair 24 [u0, u1, u2, u3, some (.inr (.inr (.inl os0))), u5, u6, u7] [] h Q) (k2 : ∀ v, os0 = some v → Wb rod d B_Main_fair 15 [u0, u1, u2, u3, some (.inr (.inr (.inl os0))), u5, u6, u7] [] h Q) : Wb rod d B_Main_fair 8 [u0, u1, u2, u3, u4, u5, u6, u7] [.inr (.inr (.inl os0))] h Q := by
  cases os0 with
  | none =>
    refine Wb.br (fun _ _ => b_Main_fair_8 g0) (fun c => ?_) (fun c => ?_)
    · exact k1 rfl
    · simp at c
  | some v =>
    refine Wb.br (fun _ _ => b_Main_fair_8 g0) (fun c => ?_) (fun c => ?_)
    · simp at c
    · exact k2 v rfl
theorem w_Main_fair_15 {rod : Nat → Nat × (Nat → Int32)} {d : Nat} {Q : Option MV → MH → Prop} {u0 : Option MV} {u1 : Option MV} {x2 : Int32} {u3 : Option MV} {a4 : Nat} {u5 : Option MV} {u6 : Option MV} {u7 : Option MV} {h : MH} (A4 : BargA h.2 a4)  {Q1 : Option MV → MH → Prop} (c : Wc rod d 134 [.inr (.inr (.inl (some a4))), .inl x2] h Q1) (k : ∀ r1 h2, Q1 r1 h2 → Wb rod d B_Main_fair 21 [u0, u1, some (.inl x2), u3, some (.inr (.inr (.inl (some a4)))), u5, u6, u7] (r1.toList ++ []) h2 Q) : Wb rod d B_Main_fair 15 [u0, u1, some (.inl x2), u3, some (.inr (.inr (.inl (some a4)))), u5, u6, u7] [] h Q := by
  refine Wb.call (fun _ _ _ _ => b_Main_fair_15 (A4.o)) (Q1 := Q1) ?_ ?_
  · (first | exact c | (simp only [Option.getD_some]; exact c))
  · (first | exact k | (simp only [Option.getD_some]; exact k))
theorem w_Main_fair_21 {rod : Nat → Nat × (Nat → Int32)} {d : Nat} {Q : Option MV → MH → Prop} {u0 : Option MV} {u1 : Option MV} {u2 : Option MV} {u3 : Option MV} {u4 : Option MV} {u5 : Option MV} {u6 : Option MV} {u7 : Option MV} {xs0 : Int32} {h : MH}   (k1 : ¬ xs0.toInt = 0 → Wb rod d B_Main_fair 28 [u0, u1, u2, u3, u4, u5, u6, u7] [] h Q) (k2 : xs0.toInt = 0 → Wb rod d B_Main_fair 24 [u0, u1, u2, u3, u4, u5, u6, u7] [] h Q) : Wb rod d B_Main_fair 21 [u0, u1, u2, u3, u4, u5, u6, u7] [.inl xs0] h Q := by
  refine Wb.br (fun _ _ => b_Main_fair_21) (fun c => ?_) (fun c => ?_)
  · have c : (!(decide (xs0 = 0))) = true := by first | exact c | (simp only [Option.getD_some] at c; exact c)
    (first | exact (k1 (c_net c)) | (simp only [Option.getD_some]; exact (k1 (c_net c))))
  · have c : (!(decide (xs0 = 0))) = false := by first | exact c | (simp only [Option.getD_some] at c; exact c)
    (first | exact (k2 (c_nef c)) | (simp only [Option.getD_some]; exact (k2 (c_nef c))))
theorem w_Main_fair_24 {rod : Nat → Nat × (Nat → Int32)} {d : Nat} {Q : Option MV → MH → Prop} {u0 : Option MV} {u1 : Option MV} {u2 : Option MV} {u3 : Option MV} {u4 : Option MV} {u5 : Option MV} {u6 : Option MV} {u7 : Option MV} {h : MH}   (q : Q (some (.inr (.inl (-1000 : Int64)))) h) : Wb rod d B_Main_fair 24 [u0, u1, u2, u3, u4, u5, u6, u7] [] h Q := by
  refine Wb.ret (b_Main_fair_24) ?_
  (first | exact q | (simp only [Option.getD_some]; exact q))
theorem w_Main_fair_28 {rod : Nat → Nat × (Nat → Int32)} {d : Nat} {Q : Option MV → MH → Prop} {u1 : Option MV} {x2 : Int32} {u3 : Option MV} {a4 : Nat} {u5 : Option MV} {u6 : Option MV} {u7 : Option MV} {h : MH} (L : Lay h.2)  {Q1 : Option MV → MH → Prop} (c : Wc rod d 139 [.inr (.inr (.inl (some 78))), .inr (.inr (.inl (some a4))), .inl x2] h Q1) (k : ∀ r1 h2, Q1 r1 h2 → Wb rod d B_Main_fair 38 [some (.inr (.inr (.inl (some 0)))), u1, some (.inl x2), u3, some (.inr (.inr (.inl (some a4)))), u5, u6, u7] (r1.toList ++ []) h2 Q) : Wb rod d B_Main_fair 28 [some (.inr (.inr (.inl (some 0)))), u1, some (.inl x2), u3, some (.inr (.inr (.inl (some a4)))), u5, u6, u7] [] h Q := by
  refine Wb.call (fun _ _ _ _ => b_Main_fair_28 (Lay.o0 L) (Lay.k0_6 L)) (Q1 := Q1) ?_ ?_
  · (first | exact c | (simp only [Option.getD_some, (Lay.r0_6 L)]; exact c))
  · (first | exact k | (simp only [Option.getD_some, (Lay.r0_6 L)]; exact k))
theorem w_Main_fair_38 {rod : Nat → Nat × (Nat → Int32)} {d : Nat} {Q : Option MV → MH → Prop} {u1 : Option MV} {u2 : Option MV} {u3 : Option MV} {a4 : Nat} {u5 : Option MV} {u6 : Option MV} {u7 : Option MV} {xs0 : Int32} {h : MH} (L : Lay h.2)  {Q1 : Option MV → MH → Prop} (c : Wc rod d 143 [.inr (.inr (.inl (some 78))), .inr (.inr (.inl (some a4)))] h Q1) (k : ∀ r1 h2, Q1 r1 h2 → Wb rod d B_Main_fair 49 [some (.inr (.inr (.inl (some 0)))), u1, u2, u3, some (.inr (.inr (.inl (some a4)))), some (.inl xs0), u6, u7] (r1.toList ++ []) h2 Q) : Wb rod d B_Main_fair 38 [some (.inr (.inr (.inl (some 0)))), u1, u2, u3, some (.inr (.inr (.inl (some a4)))), u5, u6, u7] [.inl xs0] h Q := by
  refine Wb.call (fun _ _ _ _ => b_Main_fair_38 (Lay.o0 L) (Lay.k0_6 L)) (Q1 := Q1) ?_ ?_
  · (first | exact c | (simp only [Option.getD_some, (Lay.r0_6 L)]; exact c))
  · (first | exact k | (simp only [Option.getD_some, (Lay.r0_6 L)]; exact k))
theorem w_Main_fair_49 {rod : Nat → Nat × (Nat → Int32)} {d : Nat} {Q : Option MV → MH → Prop} {u0 : Option MV} {u1 : Option MV} {u2 : Option MV} {u3 : Option MV} {u4 : Option MV} {x5 : Int32} {u6 : Option MV} {u7 : Option MV} {xs0 : Int32} {h : MH}   {Q1 : Option MV → MH → Prop} (c : Wc rod d 144 [.inl x5, .inl xs0] h Q1) (k : ∀ r1 h2, Q1 r1 h2 → Wb rod d B_Main_fair 58 [u0, u1, u2, u3, u4, some (.inl x5), some (.inl xs0), u7] (r1.toList ++ []) h2 Q) : Wb rod d B_Main_fair 49 [u0, u1, u2, u3, u4, some (.inl x5), u6, u7] [.inl xs0] h Q := by
  refine Wb.call (fun _ _ _ _ => b_Main_fair_49) (Q1 := Q1) ?_ ?_
  · (first | exact c | (simp only [Option.getD_some]; exact c))
  · (first | exact k | (simp only [Option.getD_some]; exact k))
theorem w_Main_fair_58 {rod : Nat → Nat × (Nat → Int32)} {d : Nat} {Q : Option MV → MH → Prop} {u0 : Option MV} {u1 : Option MV} {u2 : Option MV} {x3 : Int32} {u4 : Option MV} {u5 : Option MV} {u6 : Option MV} {u7 : Option MV} {xs0 : Int32} {h : MH}  (g0 : okl [u0, u1, u2, some (.inl x3), u4, u5, u6, u7] 7 = true) (k1 : x3.toInt = 0 → Wb rod d B_Main_fair 73 [u0, u1, u2, some (.inl x3), u4, u5, u6, some (.inl xs0)] [] h Q) (k2 : ¬ x3.toInt = 0 → Wb rod d B_Main_fair 64 [u0, u1, u2, some (.inl x3), u4, u5, u6, some (.inl xs0)] [] h Q) : Wb rod d B_Main_fair 58 [u0, u1, u2, some (.inl x3), u4, u5, u6, u7] [.inl xs0] h Q := by
  refine Wb.br (fun _ _ => b_Main_fair_58 g0) (fun c => ?_) (fun c => ?_)
  · have c : (decide (x3 = 0)) = true := by first | exact c | (simp only [Option.getD_some] at c; exact c)
    (first | exact (k1 (c_eqt c)) | (simp only [Option.getD_some]; exact (k1 (c_eqt c))))
  · have c : (decide (x3 = 0)) = false := by first | exact c | (simp only [Option.getD_some] at c; exact c)
    (first | exact (k2 (c_eqf c)) | (simp only [Option.getD_some]; exact (k2 (c_eqf c))))
theorem w_Main_fair_64 {rod : Nat → Nat × (Nat → Int32)} {d : Nat} {Q : Option MV → MH → Prop} {u0 : Option MV} {u1 : Option MV} {u2 : Option MV} {u3 : Option MV} {u4 : Option MV} {u5 : Option MV} {x6 : Int32} {x7 : Int32} {h : MH}  (g0 : x7 ≠ 0) (k : Wb rod d B_Main_fair 79 [u0, u1, u2, u3, u4, u5, some (.inl x6), some (.inl x7)] [.inr (.inl ((x6 / x7).toInt64))] h Q) : Wb rod d B_Main_fair 64 [u0, u1, u2, u3, u4, u5, some (.inl x6), some (.inl x7)] [] h Q := by
  refine Wb.go (fun r hr q => b_Main_fair_64 (ndec g0) ?_) k
  (first | exact q | (simp only [Option.getD_some]; exact q))
theorem w_Main_fair_73 {rod : Nat → Nat × (Nat → Int32)} {d : Nat} {Q : Option MV → MH → Prop} {u0 : Option MV} {u1 : Option MV} {u2 : Option MV} {u3 : Option MV} {u4 : Option MV} {x5 : Int32} {u6 : Option MV} {x7 : Int32} {h : MH}  (g0 : x7 ≠ 0) (k : Wb rod d B_Main_fair 79 [u0, u1, u2, u3, u4, some (.inl x5), u6, some (.inl x7)] [.inr (.inl ((x5 / x7).toInt64))] h Q) : Wb rod d B_Main_fair 73 [u0, u1, u2, u3, u4, some (.inl x5), u6, some (.inl x7)] [] h Q := by
  refine Wb.go (fun r hr q => b_Main_fair_73 (ndec g0) ?_) k
  (first | exact q | (simp only [Option.getD_some]; exact q))
theorem w_Main_fair_79 {rod : Nat → Nat × (Nat → Int32)} {d : Nat} {Q : Option MV → MH → Prop} {u0 : Option MV} {u1 : Option MV} {u2 : Option MV} {u3 : Option MV} {u4 : Option MV} {u5 : Option MV} {u6 : Option MV} {u7 : Option MV} {zs0 : Int64} {h : MH}   (q : Q (some (.inr (.inl zs0))) h) : Wb rod d B_Main_fair 79 [u0, u1, u2, u3, u4, u5, u6, u7] [.inr (.inl zs0)] h Q := by
  refine Wb.ret (b_Main_fair_79) ?_
  (first | exact q | (simp only [Option.getD_some]; exact q))
theorem n_Sharing_sumOfGains {rod : Nat → Nat × (Nat → Int32)} {d : Nat} {Q : Option MV → MH → Prop} {a1 : Nat} {x2 : Int32} {h : MH} (k : Wb rod d B_Sharing_sumOfGains 0 [some (.inr (.inr (.inl (some 78)))), some (.inr (.inr (.inl (some a1)))), some (.inl x2), none, none, none] [] h Q) : Wc rod (d + 1) 139 [.inr (.inr (.inl (some 78))), .inr (.inr (.inl (some a1))), .inl x2] h Q := Wc.en (fun _ _ => e_Sharing_sumOfGains) k
theorem w_Sharing_sumOfGains_0 {rod : Nat → Nat × (Nat → Int32)} {d : Nat} {Q : Option MV → MH → Prop} {u0 : Option MV} {u1 : Option MV} {u2 : Option MV} {u3 : Option MV} {u4 : Option MV} {u5 : Option MV} {h : MH}  (g0 : okl [u0, u1, u2, u3, u4, u5] 3 = true) (k : Wb rod d B_Sharing_sumOfGains 5 [u0, u1, u2, some (.inl (0 : Int32)), some (.inl (0 : Int32)), u5] [] h Q) : Wb rod d B_Sharing_sumOfGains 0 [u0, u1, u2, u3, u4, u5] [] h Q := by
  refine Wb.go (fun r hr q => b_Sharing_sumOfGains_0 g0 ?_) k
  (first | exact q | (simp only [Option.getD_some]; exact q))
theorem w_Sharing_sumOfGains_5 {rod : Nat → Nat × (Nat → Int32)} {d : Nat} {Q : Option MV → MH → Prop} {u0 : Option MV} {a1 : Nat} {u2 : Option MV} {u3 : Option MV} {x4 : Int32} {u5 : Option MV} {h : MH} (A1 : BargA h.2 a1)  {Q1 : Option MV → MH → Prop} (c : Wc rod d 128 [.inr (.inr (.inl (some a1)))] h Q1) (k : ∀ r1 h2, Q1 r1 h2 → Wb rod d B_Sharing_sumOfGains 11 [u0, some (.inr (.inr (.inl (some a1)))), u2, u3, some (.inl x4), u5] (r1.toList ++ [.inl x4]) h2 Q) : Wb rod d B_Sharing_sumOfGains 5 [u0, some (.inr (.inr (.inl (some a1)))), u2, u3, some (.inl x4), u5] [] h Q := by
  refine Wb.call (fun _ _ _ _ => b_Sharing_sumOfGains_5 (A1.o)) (Q1 := Q1) ?_ ?_
  · (first | exact c | (simp only [Option.getD_some]; exact c))
  · (first | exact k | (simp only [Option.getD_some]; exact k))
theorem w_Sharing_sumOfGains_11 {rod : Nat → Nat × (Nat → Int32)} {d : Nat} {Q : Option MV → MH → Prop} {u0 : Option MV} {u1 : Option MV} {u2 : Option MV} {u3 : Option MV} {u4 : Option MV} {u5 : Option MV} {xs0 : Int32} {xs1 : Int32} {h : MH}   (k1 : xs1.toInt < xs0.toInt → Wb rod d B_Sharing_sumOfGains 65 [u0, u1, u2, u3, u4, u5] [] h Q) (k2 : ¬ xs1.toInt < xs0.toInt → Wb rod d B_Sharing_sumOfGains 14 [u0, u1, u2, u3, u4, u5] [] h Q) : Wb rod d B_Sharing_sumOfGains 11 [u0, u1, u2, u3, u4, u5] [.inl xs1, .inl xs0] h Q := by
  refine Wb.br (fun _ _ => b_Sharing_sumOfGains_11) (fun c => ?_) (fun c => ?_)
  · have c : (decide (xs1 < xs0)) = true := by first | exact c | (simp only [Option.getD_some] at c; exact c)
    (first | exact (k1 (c_ltt c)) | (simp only [Option.getD_some]; exact (k1 (c_ltt c))))
  · have c : (decide (xs1 < xs0)) = false := by first | exact c | (simp only [Option.getD_some] at c; exact c)
    (first | exact (k2 (c_ltf c)) | (simp only [Option.getD_some]; exact (k2 (c_ltf c))))
theorem w_Sharing_sumOfGains_14 {rod : Nat → Nat × (Nat → Int32)} {d : Nat} {Q : Option MV → MH → Prop} {u0 : Option MV} {u1 : Option MV} {x2 : Int32} {u3 : Option MV} {x4 : Int32} {u5 : Option MV} {h : MH}   (k1 : ¬ ((x4 >>> (x2 &&& 31)) &&& (1 : Int32)).toInt = 0 → Wb rod d B_Sharing_sumOfGains 59 [u0, u1, some (.inl x2), u3, some (.inl x4), u5] [] h Q) (k2 : ((x4 >>> (x2 &&& 31)) &&& (1 : Int32)).toInt = 0 → Wb rod d B_Sharing_sumOfGains 23 [u0, u1, some (.inl x2), u3, some (.inl x4), u5] [] h Q) : Wb rod d B_Sharing_sumOfGains 14 [u0, u1, some (.inl x2), u3, some (.inl x4), u5] [] h Q := by
  refine Wb.br (fun _ _ => b_Sharing_sumOfGains_14) (fun c => ?_) (fun c => ?_)
  · have c : (!(decide (((x4 >>> (x2 &&& 31)) &&& (1 : Int32)) = 0))) = true := by first | exact c | (simp only [Option.getD_some] at c; exact c)
    (first | exact (k1 (c_net c)) | (simp only [Option.getD_some]; exact (k1 (c_net c))))
  · have c : (!(decide (((x4 >>> (x2 &&& 31)) &&& (1 : Int32)) = 0))) = false := by first | exact c | (simp only [Option.getD_some] at c; exact c)
    (first | exact (k2 (c_nef c)) | (simp only [Option.getD_some]; exact (k2 (c_nef c))))
theorem w_Sharing_sumOfGains_23 {rod : Nat → Nat × (Nat → Int32)} {d : Nat} {Q : Option MV → MH → Prop} {u0 : Option MV} {u1 : Option MV} {u2 : Option MV} {u3 : Option MV} {x4 : Int32} {u5 : Option MV} {h : MH}   {Q1 : Option MV → MH → Prop} (c : Wc rod d 140 [.inl x4] h Q1) (k : ∀ r1 h2, Q1 r1 h2 → Wb rod d B_Sharing_sumOfGains 28 [u0, u1, u2, u3, some (.inl x4), u5] (r1.toList ++ []) h2 Q) : Wb rod d B_Sharing_sumOfGains 23 [u0, u1, u2, u3, some (.inl x4), u5] [] h Q := by
  refine Wb.call (fun _ _ _ _ => b_Sharing_sumOfGains_23) (Q1 := Q1) ?_ ?_
  · (first | exact c | (simp only [Option.getD_some]; exact c))
  · (first | exact k | (simp only [Option.getD_some]; exact k))
theorem w_Sharing_sumOfGains_28 {rod : Nat → Nat × (Nat → Int32)} {d : Nat} {Q : Option MV → MH → Prop} {u0 : Option MV} {u1 : Option MV} {u2 : Option MV} {x3 : Int32} {u4 : Option MV} {u5 : Option MV} {xs0 : Int32} {h : MH}  (g0 : okl [u0, u1, u2, some (.inl x3), u4, u5] 5 = true) {Q1 : Option MV → MH → Prop} (c : Wc rod d 141 [.inl xs0] h Q1) (k : ∀ r1 h2, Q1 r1 h2 → Wb rod d B_Sharing_sumOfGains 36 [u0, u1, u2, some (.inl x3), u4, some (.inl xs0)] (r1.toList ++ [.inl x3]) h2 Q) : Wb rod d B_Sharing_sumOfGains 28 [u0, u1, u2, some (.inl x3), u4, u5] [.inl xs0] h Q := by
  refine Wb.call (fun _ _ _ _ => b_Sharing_sumOfGains_28 g0) (Q1 := Q1) ?_ ?_
  · (first | exact c | (simp only [Option.getD_some]; exact c))
  · (first | exact k | (simp only [Option.getD_some]; exact k))
theorem w_Sharing_sumOfGains_36 {rod : Nat → Nat × (Nat → Int32)} {d : Nat} {Q : Option MV → MH → Prop} {u0 : Option MV} {a1 : Nat} {u2 : Option MV} {u3 : Option MV} {u4 : Option MV} {x5 : Int32} {xs0 : Int32} {xs1 : Int32} {h : MH} (A1 : BargA h.2 a1)  {Q1 : Option MV → MH → Prop} (c : Wc rod d 141 [.inl (((h.1 a1 0) - (1 : Int32)) - x5)] h Q1) (k : ∀ r1 h2, Q1 r1 h2 → Wb rod d B_Sharing_sumOfGains 48 [u0, some (.inr (.inr (.inl (some a1)))), u2, u3, u4, some (.inl x5)] (r1.toList ++ [.inl xs1, .inl xs0]) h2 Q) : Wb rod d B_Sharing_sumOfGains 36 [u0, some (.inr (.inr (.inl (some a1)))), u2, u3, u4, some (.inl x5)] [.inl xs1, .inl xs0] h Q := by
  refine Wb.call (fun _ _ _ _ => b_Sharing_sumOfGains_36 (A1.o)) (Q1 := Q1) ?_ ?_
  · (first | exact c | (simp only [Option.getD_some]; exact c))
  · (first | exact k | (simp only [Option.getD_some]; exact k))
theorem w_Sharing_sumOfGains_48 {rod : Nat → Nat × (Nat → Int32)} {d : Nat} {Q : Option MV → MH → Prop} {u0 : Option MV} {a1 : Nat} {x2 : Int32} {u3 : Option MV} {x4 : Int32} {u5 : Option MV} {xs0 : Int32} {xs1 : Int32} {xs2 : Int32} {h : MH} (A1 : BargA h.2 a1)  {Q1 : Option MV → MH → Prop} (c : Wc rod d 142 [.inr (.inr (.inl (some a1))), .inl x4, .inl x2] h Q1) (k : ∀ r1 h2, Q1 r1 h2 → Wb rod d B_Sharing_sumOfGains 56 [u0, some (.inr (.inr (.inl (some a1)))), some (.inl x2), u3, some (.inl x4), u5] (r1.toList ++ [.inl (xs1 * xs2), .inl xs0]) h2 Q) : Wb rod d B_Sharing_sumOfGains 48 [u0, some (.inr (.inr (.inl (some a1)))), some (.inl x2), u3, some (.inl x4), u5] [.inl xs2, .inl xs1, .inl xs0] h Q := by
  refine Wb.call (fun _ _ _ _ => b_Sharing_sumOfGains_48 (A1.o)) (Q1 := Q1) ?_ ?_
  · (first | exact c | (simp only [Option.getD_some]; exact c))
  · (first | exact k | (simp only [Option.getD_some]; exact k))
theorem w_Sharing_sumOfGains_56 {rod : Nat → Nat × (Nat → Int32)} {d : Nat} {Q : Option MV → MH → Prop} {u0 : Option MV} {u1 : Option MV} {u2 : Option MV} {u3 : Option MV} {u4 : Option MV} {u5 : Option MV} {xs0 : Int32} {xs1 : Int32} {xs2 : Int32} {h : MH}  (g0 : okl [u0, u1, u2, u3, u4, u5] 3 = true) (k : Wb rod d B_Sharing_sumOfGains 59 [u0, u1, u2, some (.inl (xs0 + (xs1 * xs2))), u4, u5] [] h Q) : Wb rod d B_Sharing_sumOfGains 56 [u0, u1, u2, u3, u4, u5] [.inl xs2, .inl xs1, .inl xs0] h Q := by
  refine Wb.go (fun r hr q => b_Sharing_sumOfGains_56 g0 ?_) k
  (first | exact q | (simp only [Option.getD_some]; exact q))
theorem w_Sharing_sumOfGains_59 {rod : Nat → Nat × (Nat → Int32)} {d : Nat} {Q : Option MV → MH → Prop} {u0 : Option MV} {u1 : Option MV} {u2 : Option MV} {u3 : Option MV} {x4 : Int32} {u5 : Option MV} {h : MH}  (g0 : okl [u0, u1, u2, u3, some (.inl x4), u5] 4 = true) (k : Wb rod d B_Sharing_sumOfGains 5 [u0, u1, u2, u3, some (.inl (x4 + 1)), u5] [] h Q) : Wb rod d B_Sharing_sumOfGains 59 [u0, u1, u2, u3, some (.inl x4), u5] [] h Q := by
  refine Wb.go (fun r hr q => b_Sharing_sumOfGains_59 g0 ?_) k
  (first | exact q | (simp only [Option.getD_some]; exact q))
theorem w_Sharing_sumOfGains_65 {rod : Nat → Nat × (Nat → Int32)} {d : Nat} {Q : Option MV → MH → Prop} {u0 : Option MV} {u1 : Option MV} {u2 : Option MV} {x3 : Int32} {u4 : Option MV} {u5 : Option MV} {h : MH}   (q : Q (some (.inl x3)) h) : Wb rod d B_Sharing_sumOfGains 65 [u0, u1, u2, some (.inl x3), u4, u5] [] h Q := by
  refine Wb.ret (b_Sharing_sumOfGains_65) ?_
  (first | exact q | (simp only [Option.getD_some]; exact q))
theorem n_Integer_bitCount {rod : Nat → Nat × (Nat → Int32)} {d : Nat} {Q : Option MV → MH → Prop} {x0 : Int32} {h : MH} (k : Wb rod d B_Integer_bitCount 0 [some (.inl x0)] [] h Q) : Wc rod (d + 1) 140 [.inl x0] h Q := Wc.en (fun _ _ => e_Integer_bitCount) k
theorem w_Integer_bitCount_0 {rod : Nat → Nat × (Nat → Int32)} {d : Nat} {Q : Option MV → MH → Prop} {x0 : Int32} {h : MH}   (q : Q (some (.inl ((((((((x0 - (((x0.toUInt32 >>> ((1 : Int32).toUInt32 &&& Int32.toUInt32 31)).toInt32) &&& (1431655765 : Int32))) &&& (858993459 : Int32)) + ((((x0 - (((x0.toUInt32 >>> ((1 : Int32).toUInt32 &&& Int32.toUInt32 31)).toInt32) &&& (1431655765 : Int32))).toUInt32 >>> ((2 : Int32).toUInt32 &&& Int32.toUInt32 31)).toInt32) &&& (858993459 : Int32))) + (((((x0 - (((x0.toUInt32 >>> ((1 : Int32).toUInt32 &&& Int32.toUInt32 31)).toInt32) &&& (1431655765 : Int32))) &&& (858993459 : Int32)) + ((((x0 - (((x0.toUInt32 >>> ((1 : Int32).toUInt32 &&& Int32.toUInt32 31)).toInt32) &&& (1431655765 : Int32))).toUInt32 >>> ((2 : Int32).toUInt32 &&& Int32.toUInt32 31)).toInt32) &&& (858993459 : Int32))).toUInt32 >>> ((4 : Int32).toUInt32 &&& Int32.toUInt32 31)).toInt32)) &&& (252645135 : Int32)) + (((((((x0 - (((x0.toUInt32 >>> ((1 : Int32).toUInt32 &&& Int32.toUInt32 31)).toInt32) &&& (1431655765 : Int32))) &&& (858993459 : Int32)) + ((((x0 - (((x0.toUInt32 >>> ((1 : Int32).toUInt32 &&& Int32.toUInt32 31)).toInt32) &&& (1431655765 : Int32))).toUInt32 >>> ((2 : Int32).toUInt32 &&& Int32.toUInt32 31)).toInt32) &&& (858993459 : Int32))) + (((((x0 - (((x0.toUInt32 >>> ((1 : Int32).toUInt32 &&& Int32.toUInt32 31)).toInt32) &&& (1431655765 : Int32))) &&& (858993459 : Int32)) + ((((x0 - (((x0.toUInt32 >>> ((1 : Int32).toUInt32 &&& Int32.toUInt32 31)).toInt32) &&& (1431655765 : Int32))).toUInt32 >>> ((2 : Int32).toUInt32 &&& Int32.toUInt32 31)).toInt32) &&& (858993459 : Int32))).toUInt32 >>> ((4 : Int32).toUInt32 &&& Int32.toUInt32 31)).toInt32)) &&& (252645135 : Int32)).toUInt32 >>> ((8 : Int32).toUInt32 &&& Int32.toUInt32 31)).toInt32)) + ((((((((x0 - (((x0.toUInt32 >>> ((1 : Int32).toUInt32 &&& Int32.toUInt32 31)).toInt32) &&& (1431655765 : Int32))) &&& (858993459 : Int32)) + ((((x0 - (((x0.toUInt32 >>> ((1 : Int32).toUInt32 &&& Int32.toUInt32 31)).toInt32) &&& (1431655765 : Int32))).toUInt32 >>> ((2 : Int32).toUInt32 &&& Int32.toUInt32 31)).toInt32) &&& (858993459 : Int32))) + (((((x0 - (((x0.toUInt32 >>> ((1 : Int32).toUInt32 &&& Int32.toUInt32 31)).toInt32) &&& (1431655765 : Int32))) &&& (858993459 : Int32)) + ((((x0 - (((x0.toUInt32 >>> ((1 : Int32).toUInt32 &&& Int32.toUInt32 31)).toInt32) &&& (1431655765 : Int32))).toUInt32 >>> ((2 : Int32).toUInt32 &&& Int32.toUInt32 31)).toInt32) &&& (858993459 : Int32))).toUInt32 >>> ((4 : Int32).toUInt32 &&& Int32.toUInt32 31)).toInt32)) &&& (252645135 : Int32)) + (((((((x0 - (((x0.toUInt32 >>> ((1 : Int32).toUInt32 &&& Int32.toUInt32 31)).toInt32) &&& (1431655765 : Int32))) &&& (858993459 : Int32)) + ((((x0 - (((x0.toUInt32 >>> ((1 : Int32).toUInt32 &&& Int32.toUInt32 31)).toInt32) &&& (1431655765 : Int32))).toUInt32 >>> ((2 : Int32).toUInt32 &&& Int32.toUInt32 31)).toInt32) &&& (858993459 : Int32))) + (((((x0 - (((x0.toUInt32 >>> ((1 : Int32).toUInt32 &&& Int32.toUInt32 31)).toInt32) &&& (1431655765 : Int32))) &&& (858993459 : Int32)) + ((((x0 - (((x0.toUInt32 >>> ((1 : Int32).toUInt32 &&& Int32.toUInt32 31)).toInt32) &&& (1431655765 : Int32))).toUInt32 >>> ((2 : Int32).toUInt32 &&& Int32.toUInt32 31)).toInt32) &&& (858993459 : Int32))).toUInt32 >>> ((4 : Int32).toUInt32 &&& Int32.toUInt32 31)).toInt32)) &&& (252645135 : Int32)).toUInt32 >>> ((8 : Int32).toUInt32 &&& Int32.toUInt32 31)).toInt32)).toUInt32 >>> ((16 : Int32).toUInt32 &&& Int32.toUInt32 31)).toInt32)) &&& (63 : Int32)))) h) : Wb rod d B_Integer_bitCount 0 [some (.inl x0)] [] h Q := by
  refine Wb.ret (b_Integer_bitCount_0) ?_
  (first | exact q | (simp only [Option.getD_some]; exact q))
theorem n_Sharing_factorial {rod : Nat → Nat × (Nat → Int32)} {d : Nat} {Q : Option MV → MH → Prop} {x0 : Int32} {h : MH} (k : Wb rod d B_Sharing_factorial 0 [some (.inl x0)] [] h Q) : Wc rod (d + 1) 141 [.inl x0] h Q := Wc.en (fun _ _ => e_Sharing_factorial) k
theorem w_Sharing_factorial_0 {rod : Nat → Nat × (Nat → Int32)} {d : Nat} {Q : Option MV → MH → Prop} {x0 : Int32} {h : MH}   (k1 : x0.toInt < 0 → Wb rod d B_Sharing_factorial 20 [some (.inl x0)] [] h Q) (k2 : ¬ x0.toInt < 0 → Wb rod d B_Sharing_factorial 4 [some (.inl x0)] [] h Q) : Wb rod d B_Sharing_factorial 0 [some (.inl x0)] [] h Q := by
  refine Wb.br (fun _ _ => b_Sharing_factorial_0) (fun c => ?_) (fun c => ?_)
  · have c : (decide (x0 < 0)) = true := by first | exact c | (simp only [Option.getD_some] at c; exact c)
    (first | exact (k1 (c_ltt c)) | (simp only [Option.getD_some]; exact (k1 (c_ltt c))))
  · have c : (decide (x0 < 0)) = false := by first | exact c | (simp only [Option.getD_some] at c; exact c)
    (first | exact (k2 (c_ltf c)) | (simp only [Option.getD_some]; exact (k2 (c_ltf c))))
theorem w_Sharing_factorial_4 {rod : Nat → Nat × (Nat → Int32)} {d : Nat} {Q : Option MV → MH → Prop} {x0 : Int32} {h : MH}   (k1 : (Int32.ofNat (rod 4).1).toInt ≤ x0.toInt → Wb rod d B_Sharing_factorial 20 [some (.inl x0)] [] h Q) (k2 : ¬ (Int32.ofNat (rod 4).1).toInt ≤ x0.toInt → Wb rod d B_Sharing_factorial 12 [some (.inl x0)] [] h Q) : Wb rod d B_Sharing_factorial 4 [some (.inl x0)] [] h Q := by
  refine Wb.br (fun _ _ => b_Sharing_factorial_4) (fun c => ?_) (fun c => ?_)
  · have c : (decide ((Int32.ofNat (rod 4).1) ≤ x0)) = true := by first | exact c | (simp only [Option.getD_some] at c; exact c)
    (first | exact (k1 (c_let c)) | (simp only [Option.getD_some]; exact (k1 (c_let c))))
  · have c : (decide ((Int32.ofNat (rod 4).1) ≤ x0)) = false := by first | exact c | (simp only [Option.getD_some] at c; exact c)
    (first | exact (k2 (c_lef c)) | (simp only [Option.getD_some]; exact (k2 (c_lef c))))
theorem w_Sharing_factorial_12 {rod : Nat → Nat × (Nat → Int32)} {d : Nat} {Q : Option MV → MH → Prop} {x0 : Int32} {h : MH}  (g0 : inB x0 (rod 4).1 = true) (k : Wb rod d B_Sharing_factorial 21 [some (.inl x0)] [.inl ((rod 4).2 x0.toNatClampNeg)] h Q) : Wb rod d B_Sharing_factorial 12 [some (.inl x0)] [] h Q := by
  refine Wb.go (fun r hr q => b_Sharing_factorial_12 g0 ?_) k
  (first | exact q | (simp only [Option.getD_some]; exact q))
theorem w_Sharing_factorial_20 {rod : Nat → Nat × (Nat → Int32)} {d : Nat} {Q : Option MV → MH → Prop} {u0 : Option MV} {h : MH}   (k : Wb rod d B_Sharing_factorial 21 [u0] [.inl (1 : Int32)] h Q) : Wb rod d B_Sharing_factorial 20 [u0] [] h Q := by
  refine Wb.go (fun r hr q => b_Sharing_factorial_20 ?_) k
  (first | exact q | (simp only [Option.getD_some]; exact q))
theorem w_Sharing_factorial_21 {rod : Nat → Nat × (Nat → Int32)} {d : Nat} {Q : Option MV → MH → Prop} {u0 : Option MV} {xs0 : Int32} {h : MH}   (q : Q (some (.inl xs0)) h) : Wb rod d B_Sharing_factorial 21 [u0] [.inl xs0] h Q := by
  refine Wb.ret (b_Sharing_factorial_21) ?_
  (first | exact q | (simp only [Option.getD_some]; exact q))
theorem n_Bargain_gain {rod : Nat → Nat × (Nat → Int32)} {d : Nat} {Q : Option MV → MH → Prop} {a0 : Nat} {x1 : Int32} {x2 : Int32} {h : MH} (k : Wb rod d B_Bargain_gain 0 [some (.inr (.inr (.inl (some a0)))), some (.inl x1), some (.inl x2)] [] h Q) : Wc rod (d + 1) 142 [.inr (.inr (.inl (some a0))), .inl x1, .inl x2] h Q := Wc.en (fun _ _ => e_Bargain_gain) k
theorem w_Bargain_gain_0 {rod : Nat → Nat × (Nat → Int32)} {d : Nat} {Q : Option MV → MH → Prop} {a0 : Nat} {x1 : Int32} {x2 : Int32} {h : MH} (A0 : BargA h.2 a0)  {Q1 : Option MV → MH → Prop} (c : Wc rod d 129 [.inr (.inr (.inl (some a0))), .inl (x1 ||| ((1 : Int32) <<< (x2 &&& 31)))] h Q1) (k : ∀ r1 h2, Q1 r1 h2 → Wb rod d B_Bargain_gain 9 [some (.inr (.inr (.inl (some a0)))), some (.inl x1), some (.inl x2)] (r1.toList ++ []) h2 Q) : Wb rod d B_Bargain_gain 0 [some (.inr (.inr (.inl (some a0)))), some (.inl x1), some (.inl x2)] [] h Q := by
  refine Wb.call (fun _ _ _ _ => b_Bargain_gain_0 (A0.o)) (Q1 := Q1) ?_ ?_
  · (first | exact c | (simp only [Option.getD_some]; exact c))
  · (first | exact k | (simp only [Option.getD_some]; exact k))
theorem w_Bargain_gain_9 {rod : Nat → Nat × (Nat → Int32)} {d : Nat} {Q : Option MV → MH → Prop} {a0 : Nat} {x1 : Int32} {u2 : Option MV} {xs0 : Int32} {h : MH} (A0 : BargA h.2 a0)  {Q1 : Option MV → MH → Prop} (c : Wc rod d 129 [.inr (.inr (.inl (some a0))), .inl x1] h Q1) (k : ∀ r1 h2, Q1 r1 h2 → Wb rod d B_Bargain_gain 14 [some (.inr (.inr (.inl (some a0)))), some (.inl x1), u2] (r1.toList ++ [.inl xs0]) h2 Q) : Wb rod d B_Bargain_gain 9 [some (.inr (.inr (.inl (some a0)))), some (.inl x1), u2] [.inl xs0] h Q := by
  refine Wb.call (fun _ _ _ _ => b_Bargain_gain_9 (A0.o)) (Q1 := Q1) ?_ ?_
  · (first | exact c | (simp only [Option.getD_some]; exact c))
  · (first | exact k | (simp only [Option.getD_some]; exact k))
theorem w_Bargain_gain_14 {rod : Nat → Nat × (Nat → Int32)} {d : Nat} {Q : Option MV → MH → Prop} {u0 : Option MV} {u1 : Option MV} {u2 : Option MV} {xs0 : Int32} {xs1 : Int32} {h : MH}   (q : Q (some (.inl (xs0 - xs1))) h) : Wb rod d B_Bargain_gain 14 [u0, u1, u2] [.inl xs1, .inl xs0] h Q := by
  refine Wb.ret (b_Bargain_gain_14) ?_
  (first | exact q | (simp only [Option.getD_some]; exact q))
theorem n_Sharing_orders {rod : Nat → Nat × (Nat → Int32)} {d : Nat} {Q : Option MV → MH → Prop} {a1 : Nat} {h : MH} (k : Wb rod d B_Sharing_orders 0 [some (.inr (.inr (.inl (some 78)))), some (.inr (.inr (.inl (some a1))))] [] h Q) : Wc rod (d + 1) 143 [.inr (.inr (.inl (some 78))), .inr (.inr (.inl (some a1)))] h Q := Wc.en (fun _ _ => e_Sharing_orders) k
theorem w_Sharing_orders_0 {rod : Nat → Nat × (Nat → Int32)} {d : Nat} {Q : Option MV → MH → Prop} {u0 : Option MV} {a1 : Nat} {h : MH} (A1 : BargA h.2 a1)  {Q1 : Option MV → MH → Prop} (c : Wc rod d 141 [.inl (h.1 a1 0)] h Q1) (k : ∀ r1 h2, Q1 r1 h2 → Wb rod d B_Sharing_orders 7 [u0, some (.inr (.inr (.inl (some a1))))] (r1.toList ++ []) h2 Q) : Wb rod d B_Sharing_orders 0 [u0, some (.inr (.inr (.inl (some a1))))] [] h Q := by
  refine Wb.call (fun _ _ _ _ => b_Sharing_orders_0 (A1.o)) (Q1 := Q1) ?_ ?_
  · (first | exact c | (simp only [Option.getD_some]; exact c))
  · (first | exact k | (simp only [Option.getD_some]; exact k))
theorem w_Sharing_orders_7 {rod : Nat → Nat × (Nat → Int32)} {d : Nat} {Q : Option MV → MH → Prop} {u0 : Option MV} {u1 : Option MV} {xs0 : Int32} {h : MH}   (q : Q (some (.inl xs0)) h) : Wb rod d B_Sharing_orders 7 [u0, u1] [.inl xs0] h Q := by
  refine Wb.ret (b_Sharing_orders_7) ?_
  (first | exact q | (simp only [Option.getD_some]; exact q))
theorem n_Sharing_commonDivisor {rod : Nat → Nat × (Nat → Int32)} {d : Nat} {Q : Option MV → MH → Prop} {x0 : Int32} {x1 : Int32} {h : MH} (k : Wb rod d B_Sharing_commonDivisor 0 [some (.inl x0), some (.inl x1), none, none, none, none] [] h Q) : Wc rod (d + 1) 144 [.inl x0, .inl x1] h Q := Wc.en (fun _ _ => e_Sharing_commonDivisor) k
theorem w_Sharing_commonDivisor_0 {rod : Nat → Nat × (Nat → Int32)} {d : Nat} {Q : Option MV → MH → Prop} {x0 : Int32} {x1 : Int32} {u2 : Option MV} {u3 : Option MV} {u4 : Option MV} {u5 : Option MV} {h : MH}   (k : Wb rod d B_Sharing_commonDivisor 13 [some (.inl x0), some (.inl x1), some (.inl (if 0 ≤ x0 then x0 else 0 - x0)), some (.inl (if 0 ≤ x1 then x1 else 0 - x1)), some (.inl (0 : Int32)), u5] [] h Q) : Wb rod d B_Sharing_commonDivisor 0 [some (.inl x0), some (.inl x1), u2, u3, u4, u5] [] h Q := by
  refine Wb.go (fun r hr q => b_Sharing_commonDivisor_0 ?_) k
  (first | exact q | (simp only [Option.getD_some]; exact q))
theorem w_Sharing_commonDivisor_13 {rod : Nat → Nat × (Nat → Int32)} {d : Nat} {Q : Option MV → MH → Prop} {u0 : Option MV} {u1 : Option MV} {u2 : Option MV} {u3 : Option MV} {x4 : Int32} {u5 : Option MV} {h : MH}   (k1 : 64 ≤ x4.toInt → Wb rod d B_Sharing_commonDivisor 40 [u0, u1, u2, u3, some (.inl x4), u5] [] h Q) (k2 : ¬ 64 ≤ x4.toInt → Wb rod d B_Sharing_commonDivisor 20 [u0, u1, u2, u3, some (.inl x4), u5] [] h Q) : Wb rod d B_Sharing_commonDivisor 13 [u0, u1, u2, u3, some (.inl x4), u5] [] h Q := by
  refine Wb.br (fun _ _ => b_Sharing_commonDivisor_13) (fun c => ?_) (fun c => ?_)
  · have c : (decide ((64 : Int32) ≤ x4)) = true := by first | exact c | (simp only [Option.getD_some] at c; exact c)
    (first | exact (k1 (c_let c)) | (simp only [Option.getD_some]; exact (k1 (c_let c))))
  · have c : (decide ((64 : Int32) ≤ x4)) = false := by first | exact c | (simp only [Option.getD_some] at c; exact c)
    (first | exact (k2 (c_lef c)) | (simp only [Option.getD_some]; exact (k2 (c_lef c))))
theorem w_Sharing_commonDivisor_20 {rod : Nat → Nat × (Nat → Int32)} {d : Nat} {Q : Option MV → MH → Prop} {u0 : Option MV} {u1 : Option MV} {u2 : Option MV} {x3 : Int32} {u4 : Option MV} {u5 : Option MV} {h : MH}   (k1 : x3.toInt = 0 → Wb rod d B_Sharing_commonDivisor 40 [u0, u1, u2, some (.inl x3), u4, u5] [] h Q) (k2 : ¬ x3.toInt = 0 → Wb rod d B_Sharing_commonDivisor 24 [u0, u1, u2, some (.inl x3), u4, u5] [] h Q) : Wb rod d B_Sharing_commonDivisor 20 [u0, u1, u2, some (.inl x3), u4, u5] [] h Q := by
  refine Wb.br (fun _ _ => b_Sharing_commonDivisor_20) (fun c => ?_) (fun c => ?_)
  · have c : (decide (x3 = 0)) = true := by first | exact c | (simp only [Option.getD_some] at c; exact c)
    (first | exact (k1 (c_eqt c)) | (simp only [Option.getD_some]; exact (k1 (c_eqt c))))
  · have c : (decide (x3 = 0)) = false := by first | exact c | (simp only [Option.getD_some] at c; exact c)
    (first | exact (k2 (c_eqf c)) | (simp only [Option.getD_some]; exact (k2 (c_eqf c))))
theorem w_Sharing_commonDivisor_24 {rod : Nat → Nat × (Nat → Int32)} {d : Nat} {Q : Option MV → MH → Prop} {u0 : Option MV} {u1 : Option MV} {x2 : Int32} {x3 : Int32} {x4 : Int32} {u5 : Option MV} {h : MH}  (g0 : x3 ≠ 0) (g1 : okl [u0, u1, some (.inl x2), some (.inl x3), some (.inl x4), some (.inl (x2 - x2 / x3 * x3))] 2 = true) (k : Wb rod d B_Sharing_commonDivisor 13 [u0, u1, some (.inl x3), some (.inl (x2 - x2 / x3 * x3)), some (.inl (x4 + 1)), some (.inl (x2 - x2 / x3 * x3))] [] h Q) : Wb rod d B_Sharing_commonDivisor 24 [u0, u1, some (.inl x2), some (.inl x3), some (.inl x4), u5] [] h Q := by
  refine Wb.go (fun r hr q => b_Sharing_commonDivisor_24 (ndec g0) g1 ?_) k
  (first | exact q | (simp only [Option.getD_some]; exact q))
theorem w_Sharing_commonDivisor_40 {rod : Nat → Nat × (Nat → Int32)} {d : Nat} {Q : Option MV → MH → Prop} {u0 : Option MV} {u1 : Option MV} {x2 : Int32} {u3 : Option MV} {u4 : Option MV} {u5 : Option MV} {h : MH}   (q : Q (some (.inl (if (1 : Int32) < x2 then x2 else (1 : Int32)))) h) : Wb rod d B_Sharing_commonDivisor 40 [u0, u1, some (.inl x2), u3, u4, u5] [] h Q := by
  refine Wb.ret (b_Sharing_commonDivisor_40) ?_
  (first | exact q | (simp only [Option.getD_some]; exact q))
theorem n_Main_drawn {rod : Nat → Nat × (Nat → Int32)} {d : Nat} {Q : Option MV → MH → Prop} {x1 : Int32} {x2 : Int32} {x3 : Int32} {x4 : Int32} {h : MH} (k : Wb rod d B_Main_drawn 0 [some (.inr (.inr (.inl (some 0)))), some (.inl x1), some (.inl x2), some (.inl x3), some (.inl x4), none] [] h Q) : Wc rod (d + 1) 145 [.inr (.inr (.inl (some 0))), .inl x1, .inl x2, .inl x3, .inl x4] h Q := Wc.en (fun _ _ => e_Main_drawn) k
theorem w_Main_drawn_0 {rod : Nat → Nat × (Nat → Int32)} {d : Nat} {Q : Option MV → MH → Prop} {x1 : Int32} {u2 : Option MV} {u3 : Option MV} {u4 : Option MV} {u5 : Option MV} {h : MH} (L : Lay h.2)  {Q1 : Option MV → MH → Prop} (c : Wc rod d 61 [.inr (.inr (.inl (some 1))), .inl x1] h Q1) (k : ∀ r1 h2, Q1 r1 h2 → Wb rod d B_Main_drawn 8 [some (.inr (.inr (.inl (some 0)))), some (.inl x1), u2, u3, u4, u5] (r1.toList ++ []) h2 Q) : Wb rod d B_Main_drawn 0 [some (.inr (.inr (.inl (some 0)))), some (.inl x1), u2, u3, u4, u5] [] h Q := by
  refine Wb.call (fun _ _ _ _ => b_Main_drawn_0 (Lay.o0 L) (Lay.k0_0 L)) (Q1 := Q1) ?_ ?_
  · (first | exact c | (simp only [Option.getD_some, (Lay.r0_0 L)]; exact c))
  · (first | exact k | (simp only [Option.getD_some, (Lay.r0_0 L)]; exact k))
theorem w_Main_drawn_8 {rod : Nat → Nat × (Nat → Int32)} {d : Nat} {Q : Option MV → MH → Prop} {u0 : Option MV} {u1 : Option MV} {u2 : Option MV} {u3 : Option MV} {u4 : Option MV} {u5 : Option MV} {os0 : Option Nat} {h : MH}  (g0 : okl [u0, u1, u2, u3, u4, u5] 5 = true) (k1 : os0 = none → Wb rod d B_Main_drawn 25 [u0, u1, u2, u3, u4, some (.inr (.inr (.inl os0)))] [] h Q) (k2 : ∀ v, os0 = some v → Wb rod d B_Main_drawn 15 [u0, u1, u2, u3, u4, some (.inr (.inr (.inl os0)))] [] h Q) : Wb rod d B_Main_drawn 8 [u0, u1, u2, u3, u4, u5] [.inr (.inr (.inl os0))] h Q := by
  cases os0 with
  | none =>
    refine Wb.br (fun _ _ => b_Main_drawn_8 g0) (fun c => ?_) (fun c => ?_)
    · exact k1 rfl
    · simp at c
  | some v =>
    refine Wb.br (fun _ _ => b_Main_drawn_8 g0) (fun c => ?_) (fun c => ?_)
    · simp at c
    · exact k2 v rfl
theorem w_Main_drawn_15 {rod : Nat → Nat × (Nat → Int32)} {d : Nat} {Q : Option MV → MH → Prop} {u0 : Option MV} {u1 : Option MV} {u2 : Option MV} {x3 : Int32} {u4 : Option MV} {u5 : Option MV} {h : MH}   (k1 : x3.toInt < 0 → Wb rod d B_Main_drawn 25 [u0, u1, u2, some (.inl x3), u4, u5] [] h Q) (k2 : ¬ x3.toInt < 0 → Wb rod d B_Main_drawn 19 [u0, u1, u2, some (.inl x3), u4, u5] [] h Q) : Wb rod d B_Main_drawn 15 [u0, u1, u2, some (.inl x3), u4, u5] [] h Q := by
  refine Wb.br (fun _ _ => b_Main_drawn_15) (fun c => ?_) (fun c => ?_)
  · have c : (decide (x3 < 0)) = true := by first | exact c | (simp only [Option.getD_some] at c; exact c)
    (first | exact (k1 (c_ltt c)) | (simp only [Option.getD_some]; exact (k1 (c_ltt c))))
  · have c : (decide (x3 < 0)) = false := by first | exact c | (simp only [Option.getD_some] at c; exact c)
    (first | exact (k2 (c_ltf c)) | (simp only [Option.getD_some]; exact (k2 (c_ltf c))))
theorem w_Main_drawn_19 {rod : Nat → Nat × (Nat → Int32)} {d : Nat} {Q : Option MV → MH → Prop} {u0 : Option MV} {u1 : Option MV} {u2 : Option MV} {x3 : Int32} {u4 : Option MV} {u5 : Option MV} {h : MH}   (k1 : x3.toInt ≤ 60 → Wb rod d B_Main_drawn 29 [u0, u1, u2, some (.inl x3), u4, u5] [] h Q) (k2 : ¬ x3.toInt ≤ 60 → Wb rod d B_Main_drawn 25 [u0, u1, u2, some (.inl x3), u4, u5] [] h Q) : Wb rod d B_Main_drawn 19 [u0, u1, u2, some (.inl x3), u4, u5] [] h Q := by
  refine Wb.br (fun _ _ => b_Main_drawn_19) (fun c => ?_) (fun c => ?_)
  · have c : (decide (x3 ≤ (60 : Int32))) = true := by first | exact c | (simp only [Option.getD_some] at c; exact c)
    (first | exact (k1 (c_let c)) | (simp only [Option.getD_some]; exact (k1 (c_let c))))
  · have c : (decide (x3 ≤ (60 : Int32))) = false := by first | exact c | (simp only [Option.getD_some] at c; exact c)
    (first | exact (k2 (c_lef c)) | (simp only [Option.getD_some]; exact (k2 (c_lef c))))
theorem w_Main_drawn_25 {rod : Nat → Nat × (Nat → Int32)} {d : Nat} {Q : Option MV → MH → Prop} {u0 : Option MV} {u1 : Option MV} {u2 : Option MV} {u3 : Option MV} {u4 : Option MV} {u5 : Option MV} {h : MH}   (q : Q (some (.inl (-1000 : Int32))) h) : Wb rod d B_Main_drawn 25 [u0, u1, u2, u3, u4, u5] [] h Q := by
  refine Wb.ret (b_Main_drawn_25) ?_
  (first | exact q | (simp only [Option.getD_some]; exact q))
theorem w_Main_drawn_29 {rod : Nat → Nat × (Nat → Int32)} {d : Nat} {Q : Option MV → MH → Prop} {u1 : Option MV} {x2 : Int32} {x3 : Int32} {u4 : Option MV} {a5 : Nat} {h : MH} (L : Lay h.2)  {Q1 : Option MV → MH → Prop} (c : Wc rod d 146 [.inr (.inr (.inl (some 65))), .inr (.inr (.inl (some a5))), .inl x2, .inl x3] h Q1) (k : ∀ r1 h2, Q1 r1 h2 → Wb rod d B_Main_drawn 40 [some (.inr (.inr (.inl (some 0)))), u1, some (.inl x2), some (.inl x3), u4, some (.inr (.inr (.inl (some a5))))] (r1.toList ++ []) h2 Q) : Wb rod d B_Main_drawn 29 [some (.inr (.inr (.inl (some 0)))), u1, some (.inl x2), some (.inl x3), u4, some (.inr (.inr (.inl (some a5))))] [] h Q := by
  refine Wb.call (fun _ _ _ _ => b_Main_drawn_29 (Lay.o0 L) (Lay.k0_3 L)) (Q1 := Q1) ?_ ?_
  · (first | exact c | (simp only [Option.getD_some, (Lay.r0_3 L)]; exact c))
  · (first | exact k | (simp only [Option.getD_some, (Lay.r0_3 L)]; exact k))
theorem w_Main_drawn_40 {rod : Nat → Nat × (Nat → Int32)} {d : Nat} {Q : Option MV → MH → Prop} {u1 : Option MV} {u2 : Option MV} {u3 : Option MV} {x4 : Int32} {a5 : Nat} {h : MH} (L : Lay h.2)  {Q1 : Option MV → MH → Prop} (c : Wc rod d 89 [.inr (.inr (.inl (some 65))), .inr (.inr (.inl (some a5))), .inl x4] h Q1) (k : ∀ r1 h2, Q1 r1 h2 → Wb rod d B_Main_drawn 51 [some (.inr (.inr (.inl (some 0)))), u1, u2, u3, some (.inl x4), some (.inr (.inr (.inl (some a5))))] (r1.toList ++ []) h2 Q) : Wb rod d B_Main_drawn 40 [some (.inr (.inr (.inl (some 0)))), u1, u2, u3, some (.inl x4), some (.inr (.inr (.inl (some a5))))] [] h Q := by
  refine Wb.call (fun _ _ _ _ => b_Main_drawn_40 (Lay.o0 L) (Lay.k0_3 L)) (Q1 := Q1) ?_ ?_
  · (first | exact c | (simp only [Option.getD_some, (Lay.r0_3 L)]; exact c))
  · (first | exact k | (simp only [Option.getD_some, (Lay.r0_3 L)]; exact k))
theorem w_Main_drawn_51 {rod : Nat → Nat × (Nat → Int32)} {d : Nat} {Q : Option MV → MH → Prop} {u0 : Option MV} {u1 : Option MV} {u2 : Option MV} {u3 : Option MV} {u4 : Option MV} {u5 : Option MV} {xs0 : Int32} {h : MH}   (q : Q (some (.inl xs0)) h) : Wb rod d B_Main_drawn 51 [u0, u1, u2, u3, u4, u5] [.inl xs0] h Q := by
  refine Wb.ret (b_Main_drawn_51) ?_
  (first | exact q | (simp only [Option.getD_some]; exact q))
theorem n_Walk_drawDeeds {rod : Nat → Nat × (Nat → Int32)} {d : Nat} {Q : Option MV → MH → Prop} {a1 : Nat} {x2 : Int32} {x3 : Int32} {h : MH} (k : Wb rod d B_Walk_drawDeeds 0 [some (.inr (.inr (.inl (some 65)))), some (.inr (.inr (.inl (some a1)))), some (.inl x2), some (.inl x3), none] [] h Q) : Wc rod (d + 1) 146 [.inr (.inr (.inl (some 65))), .inr (.inr (.inl (some a1))), .inl x2, .inl x3] h Q := Wc.en (fun _ _ => e_Walk_drawDeeds) k
theorem w_Walk_drawDeeds_0 {rod : Nat → Nat × (Nat → Int32)} {d : Nat} {Q : Option MV → MH → Prop} {a1 : Nat} {u2 : Option MV} {u3 : Option MV} {u4 : Option MV} {h : MH} (L : Lay h.2)  {Q1 : Option MV → MH → Prop} (c : Wc rod d 77 [.inr (.inr (.inl (some 65))), .inr (.inr (.inl (some a1)))] h Q1) (k : ∀ r1 h2, Q1 r1 h2 → Wb rod d B_Walk_drawDeeds 5 [some (.inr (.inr (.inl (some 65)))), some (.inr (.inr (.inl (some a1)))), u2, u3, u4] (r1.toList ++ []) h2 Q) : Wb rod d B_Walk_drawDeeds 0 [some (.inr (.inr (.inl (some 65)))), some (.inr (.inr (.inl (some a1)))), u2, u3, u4] [] h Q := by
  refine Wb.call (fun _ _ _ _ => b_Walk_drawDeeds_0 (Lay.o65 L)) (Q1 := Q1) ?_ ?_
  · (first | exact c | (simp only [Option.getD_some]; exact c))
  · (first | exact k | (simp only [Option.getD_some]; exact k))
theorem w_Walk_drawDeeds_5 {rod : Nat → Nat × (Nat → Int32)} {d : Nat} {Q : Option MV → MH → Prop} {u1 : Option MV} {x2 : Int32} {u3 : Option MV} {u4 : Option MV} {h : MH} (L : Lay h.2)  (k : Wb rod d B_Walk_drawDeeds 10 [some (.inr (.inr (.inl (some 65)))), u1, some (.inl x2), u3, u4] [] (sI h 65 7 x2) Q) : Wb rod d B_Walk_drawDeeds 5 [some (.inr (.inr (.inl (some 65)))), u1, some (.inl x2), u3, u4] [] h Q := by
  refine Wb.go (fun r hr q => b_Walk_drawDeeds_5 (Lay.o65 L) ?_) k
  (first | exact q | (simp only [Option.getD_some]; exact q))
theorem w_Walk_drawDeeds_10 {rod : Nat → Nat × (Nat → Int32)} {d : Nat} {Q : Option MV → MH → Prop} {u0 : Option MV} {u1 : Option MV} {u2 : Option MV} {u3 : Option MV} {u4 : Option MV} {h : MH}  (g0 : okl [u0, u1, u2, u3, u4] 4 = true) (k : Wb rod d B_Walk_drawDeeds 13 [u0, u1, u2, u3, some (.inl (0 : Int32))] [] h Q) : Wb rod d B_Walk_drawDeeds 10 [u0, u1, u2, u3, u4] [] h Q := by
  refine Wb.go (fun r hr q => b_Walk_drawDeeds_10 g0 ?_) k
  (first | exact q | (simp only [Option.getD_some]; exact q))
theorem w_Walk_drawDeeds_13 {rod : Nat → Nat × (Nat → Int32)} {d : Nat} {Q : Option MV → MH → Prop} {u0 : Option MV} {u1 : Option MV} {u2 : Option MV} {x3 : Int32} {x4 : Int32} {h : MH}   (k1 : x3.toInt ≤ x4.toInt → Wb rod d B_Walk_drawDeeds 30 [u0, u1, u2, some (.inl x3), some (.inl x4)] [] h Q) (k2 : ¬ x3.toInt ≤ x4.toInt → Wb rod d B_Walk_drawDeeds 19 [u0, u1, u2, some (.inl x3), some (.inl x4)] [] h Q) : Wb rod d B_Walk_drawDeeds 13 [u0, u1, u2, some (.inl x3), some (.inl x4)] [] h Q := by
  refine Wb.br (fun _ _ => b_Walk_drawDeeds_13) (fun c => ?_) (fun c => ?_)
  · have c : (decide (x3 ≤ x4)) = true := by first | exact c | (simp only [Option.getD_some] at c; exact c)
    (first | exact (k1 (c_let c)) | (simp only [Option.getD_some]; exact (k1 (c_let c))))
  · have c : (decide (x3 ≤ x4)) = false := by first | exact c | (simp only [Option.getD_some] at c; exact c)
    (first | exact (k2 (c_lef c)) | (simp only [Option.getD_some]; exact (k2 (c_lef c))))
theorem w_Walk_drawDeeds_19 {rod : Nat → Nat × (Nat → Int32)} {d : Nat} {Q : Option MV → MH → Prop} {a1 : Nat} {u2 : Option MV} {u3 : Option MV} {u4 : Option MV} {h : MH} (L : Lay h.2)  {Q1 : Option MV → MH → Prop} (c : Wc rod d 147 [.inr (.inr (.inl (some 65))), .inr (.inr (.inl (some a1)))] h Q1) (k : ∀ r1 h2, Q1 r1 h2 → Wb rod d B_Walk_drawDeeds 24 [some (.inr (.inr (.inl (some 65)))), some (.inr (.inr (.inl (some a1)))), u2, u3, u4] (r1.toList ++ []) h2 Q) : Wb rod d B_Walk_drawDeeds 19 [some (.inr (.inr (.inl (some 65)))), some (.inr (.inr (.inl (some a1)))), u2, u3, u4] [] h Q := by
  refine Wb.call (fun _ _ _ _ => b_Walk_drawDeeds_19 (Lay.o65 L)) (Q1 := Q1) ?_ ?_
  · (first | exact c | (simp only [Option.getD_some]; exact c))
  · (first | exact k | (simp only [Option.getD_some]; exact k))
theorem w_Walk_drawDeeds_24 {rod : Nat → Nat × (Nat → Int32)} {d : Nat} {Q : Option MV → MH → Prop} {u0 : Option MV} {u1 : Option MV} {u2 : Option MV} {u3 : Option MV} {x4 : Int32} {h : MH}  (g0 : okl [u0, u1, u2, u3, some (.inl x4)] 4 = true) (k : Wb rod d B_Walk_drawDeeds 13 [u0, u1, u2, u3, some (.inl (x4 + 1))] [] h Q) : Wb rod d B_Walk_drawDeeds 24 [u0, u1, u2, u3, some (.inl x4)] [] h Q := by
  refine Wb.go (fun r hr q => b_Walk_drawDeeds_24 g0 ?_) k
  (first | exact q | (simp only [Option.getD_some]; exact q))
theorem w_Walk_drawDeeds_30 {rod : Nat → Nat × (Nat → Int32)} {d : Nat} {Q : Option MV → MH → Prop} {u0 : Option MV} {u1 : Option MV} {u2 : Option MV} {u3 : Option MV} {u4 : Option MV} {h : MH}   (q : Q (none) h) : Wb rod d B_Walk_drawDeeds 30 [u0, u1, u2, u3, u4] [] h Q := by
  refine Wb.ret (b_Walk_drawDeeds_30) ?_
  (first | exact q | (simp only [Option.getD_some]; exact q))
theorem n_Walk_drawDeed {rod : Nat → Nat × (Nat → Int32)} {d : Nat} {Q : Option MV → MH → Prop} {a1 : Nat} {h : MH} (k : Wb rod d B_Walk_drawDeed 0 [some (.inr (.inr (.inl (some 65)))), some (.inr (.inr (.inl (some a1)))), none] [] h Q) : Wc rod (d + 1) 147 [.inr (.inr (.inl (some 65))), .inr (.inr (.inl (some a1)))] h Q := Wc.en (fun _ _ => e_Walk_drawDeed) k
theorem w_Walk_drawDeed_0 {rod : Nat → Nat × (Nat → Int32)} {d : Nat} {Q : Option MV → MH → Prop} {u1 : Option MV} {u2 : Option MV} {h : MH} (L : Lay h.2)  {Q1 : Option MV → MH → Prop} (c : Wc rod d 148 [.inr (.inr (.inl (some 65))), .inl (8 : Int32)] h Q1) (k : ∀ r1 h2, Q1 r1 h2 → Wb rod d B_Walk_drawDeed 6 [some (.inr (.inr (.inl (some 65)))), u1, u2] (r1.toList ++ []) h2 Q) : Wb rod d B_Walk_drawDeed 0 [some (.inr (.inr (.inl (some 65)))), u1, u2] [] h Q := by
  refine Wb.call (fun _ _ _ _ => b_Walk_drawDeed_0 (Lay.o65 L)) (Q1 := Q1) ?_ ?_
  · (first | exact c | (simp only [Option.getD_some]; exact c))
  · (first | exact k | (simp only [Option.getD_some]; exact k))
theorem w_Walk_drawDeed_6 {rod : Nat → Nat × (Nat → Int32)} {d : Nat} {Q : Option MV → MH → Prop} {u0 : Option MV} {u1 : Option MV} {u2 : Option MV} {xs0 : Int32} {h : MH}  (g0 : okl [u0, u1, u2] 2 = true) (k0 : xs0.toInt = 0 → Wb rod d B_Walk_drawDeed 56 [u0, u1, some (.inl xs0)] [] h Q) (k1 : xs0.toInt = 1 → Wb rod d B_Walk_drawDeed 99 [u0, u1, some (.inl xs0)] [] h Q) (k2 : xs0.toInt = 2 → Wb rod d B_Walk_drawDeed 99 [u0, u1, some (.inl xs0)] [] h Q) (k3 : xs0.toInt = 3 → Wb rod d B_Walk_drawDeed 99 [u0, u1, some (.inl xs0)] [] h Q) (k4 : xs0.toInt = 4 → Wb rod d B_Walk_drawDeed 99 [u0, u1, some (.inl xs0)] [] h Q) (k5 : xs0.toInt = 5 → Wb rod d B_Walk_drawDeed 73 [u0, u1, some (.inl xs0)] [] h Q) (k6 : xs0.toInt = 6 → Wb rod d B_Walk_drawDeed 81 [u0, u1, some (.inl xs0)] [] h Q) (k7 : xs0.toInt = 7 → Wb rod d B_Walk_drawDeed 90 [u0, u1, some (.inl xs0)] [] h Q) (kd : xs0.toInt ≠ 0 → xs0.toInt ≠ 1 → xs0.toInt ≠ 2 → xs0.toInt ≠ 3 → xs0.toInt ≠ 4 → xs0.toInt ≠ 5 → xs0.toInt ≠ 6 → xs0.toInt ≠ 7 → Wb rod d B_Walk_drawDeed 99 [u0, u1, some (.inl xs0)] [] h Q) : Wb rod d B_Walk_drawDeed 6 [u0, u1, u2] [.inl xs0] h Q := by
  have key : Wb rod d B_Walk_drawDeed (tabT [48, 91, 91, 91, 91, 65, 73, 82] 0 xs0 8 99) [u0, u1, some (.inl xs0)] [] h Q := by
    by_cases e0 : xs0 = Int32.ofInt 0
    · rw [show tabT [48, 91, 91, 91, 91, 65, 73, 82] 0 xs0 8 99 = 56 from by rw [e0]; rfl]
      exact k0 (by rw [e0]; rfl)
    by_cases e1 : xs0 = Int32.ofInt 1
    · rw [show tabT [48, 91, 91, 91, 91, 65, 73, 82] 0 xs0 8 99 = 99 from by rw [e1]; rfl]
      exact k1 (by rw [e1]; rfl)
    by_cases e2 : xs0 = Int32.ofInt 2
    · rw [show tabT [48, 91, 91, 91, 91, 65, 73, 82] 0 xs0 8 99 = 99 from by rw [e2]; rfl]
      exact k2 (by rw [e2]; rfl)
    by_cases e3 : xs0 = Int32.ofInt 3
    · rw [show tabT [48, 91, 91, 91, 91, 65, 73, 82] 0 xs0 8 99 = 99 from by rw [e3]; rfl]
      exact k3 (by rw [e3]; rfl)
    by_cases e4 : xs0 = Int32.ofInt 4
    · rw [show tabT [48, 91, 91, 91, 91, 65, 73, 82] 0 xs0 8 99 = 99 from by rw [e4]; rfl]
      exact k4 (by rw [e4]; rfl)
    by_cases e5 : xs0 = Int32.ofInt 5
    · rw [show tabT [48, 91, 91, 91, 91, 65, 73, 82] 0 xs0 8 99 = 73 from by rw [e5]; rfl]
      exact k5 (by rw [e5]; rfl)
    by_cases e6 : xs0 = Int32.ofInt 6
    · rw [show tabT [48, 91, 91, 91, 91, 65, 73, 82] 0 xs0 8 99 = 81 from by rw [e6]; rfl]
      exact k6 (by rw [e6]; rfl)
    by_cases e7 : xs0 = Int32.ofInt 7
    · rw [show tabT [48, 91, 91, 91, 91, 65, 73, 82] 0 xs0 8 99 = 90 from by rw [e7]; rfl]
      exact k7 (by rw [e7]; rfl)
    rw [show tabT [48, 91, 91, 91, 91, 65, 73, 82] 0 xs0 8 99 = 99 from (if_neg e0).trans ((if_neg e1).trans ((if_neg e2).trans ((if_neg e3).trans ((if_neg e4).trans ((if_neg e5).trans ((if_neg e6).trans ((if_neg e7).trans (rfl))))))))]
    exact kd (fun q => e0 (Int32.toInt_inj.mp q)) (fun q => e1 (Int32.toInt_inj.mp q)) (fun q => e2 (Int32.toInt_inj.mp q)) (fun q => e3 (Int32.toInt_inj.mp q)) (fun q => e4 (Int32.toInt_inj.mp q)) (fun q => e5 (Int32.toInt_inj.mp q)) (fun q => e6 (Int32.toInt_inj.mp q)) (fun q => e7 (Int32.toInt_inj.mp q))
  refine Wb.go (fun r hr q => b_Walk_drawDeed_6 g0 ?_) key
  (first | exact q | (simp only [Option.getD_some]; exact q))
theorem w_Walk_drawDeed_56 {rod : Nat → Nat × (Nat → Int32)} {d : Nat} {Q : Option MV → MH → Prop} {a1 : Nat} {u2 : Option MV} {h : MH} (A1 : LandA h.2 a1) (L : Lay h.2)  {Q1 : Option MV → MH → Prop} (c : Wc rod d 148 [.inr (.inr (.inl (some 65))), .inl (h.1 a1 0)] h Q1) (k : ∀ r1 h2, Q1 r1 h2 → Wb rod d B_Walk_drawDeed 66 [some (.inr (.inr (.inl (some 65)))), some (.inr (.inr (.inl (some a1)))), u2] (r1.toList ++ [.inr (.inr (.inl (some a1))), .inr (.inr (.inl (some 65)))]) h2 Q) : Wb rod d B_Walk_drawDeed 56 [some (.inr (.inr (.inl (some 65)))), some (.inr (.inr (.inl (some a1)))), u2] [] h Q := by
  refine Wb.call (fun _ _ _ _ => b_Walk_drawDeed_56 (A1.o) (Lay.o65 L)) (Q1 := Q1) ?_ ?_
  · (first | exact c | (simp only [Option.getD_some]; exact c))
  · (first | exact k | (simp only [Option.getD_some]; exact k))
theorem w_Walk_drawDeed_66 {rod : Nat → Nat × (Nat → Int32)} {d : Nat} {Q : Option MV → MH → Prop} {u0 : Option MV} {u1 : Option MV} {u2 : Option MV} {as1 : Nat} {xs2 : Int32} {h : MH} (L : Lay h.2)  {Q1 : Option MV → MH → Prop} (c : Wc rod d 84 [.inr (.inr (.inl (some 65))), .inr (.inr (.inl (some as1))), .inl xs2] h Q1) (k : ∀ r1 h2, Q1 r1 h2 → Wb rod d B_Walk_drawDeed 69 [u0, u1, u2] (r1.toList ++ []) h2 Q) : Wb rod d B_Walk_drawDeed 66 [u0, u1, u2] [.inl xs2, .inr (.inr (.inl (some as1))), .inr (.inr (.inl (some 65)))] h Q := by
  refine Wb.call (fun _ _ _ _ => b_Walk_drawDeed_66 (Lay.o65 L)) (Q1 := Q1) ?_ ?_
  · (first | exact c | (simp only [Option.getD_some]; exact c))
  · (first | exact k | (simp only [Option.getD_some]; exact k))
theorem w_Walk_drawDeed_69 {rod : Nat → Nat × (Nat → Int32)} {d : Nat} {Q : Option MV → MH → Prop} {u0 : Option MV} {u1 : Option MV} {u2 : Option MV} {xs0 : Int32} {h : MH}   (k : Wb rod d B_Walk_drawDeed 104 [u0, u1, u2] [] h Q) : Wb rod d B_Walk_drawDeed 69 [u0, u1, u2] [.inl xs0] h Q := by
  refine Wb.go (fun r hr q => b_Walk_drawDeed_69 ?_) k
  (first | exact q | (simp only [Option.getD_some]; exact q))
theorem w_Walk_drawDeed_73 {rod : Nat → Nat × (Nat → Int32)} {d : Nat} {Q : Option MV → MH → Prop} {a1 : Nat} {u2 : Option MV} {h : MH} (L : Lay h.2)  {Q1 : Option MV → MH → Prop} (c : Wc rod d 149 [.inr (.inr (.inl (some 65))), .inr (.inr (.inl (some a1)))] h Q1) (k : ∀ r1 h2, Q1 r1 h2 → Wb rod d B_Walk_drawDeed 78 [some (.inr (.inr (.inl (some 65)))), some (.inr (.inr (.inl (some a1)))), u2] (r1.toList ++ []) h2 Q) : Wb rod d B_Walk_drawDeed 73 [some (.inr (.inr (.inl (some 65)))), some (.inr (.inr (.inl (some a1)))), u2] [] h Q := by
  refine Wb.call (fun _ _ _ _ => b_Walk_drawDeed_73 (Lay.o65 L)) (Q1 := Q1) ?_ ?_
  · (first | exact c | (simp only [Option.getD_some]; exact c))
  · (first | exact k | (simp only [Option.getD_some]; exact k))
theorem w_Walk_drawDeed_78 {rod : Nat → Nat × (Nat → Int32)} {d : Nat} {Q : Option MV → MH → Prop} {u0 : Option MV} {u1 : Option MV} {u2 : Option MV} {h : MH}   (k : Wb rod d B_Walk_drawDeed 104 [u0, u1, u2] [] h Q) : Wb rod d B_Walk_drawDeed 78 [u0, u1, u2] [] h Q := by
  refine Wb.go (fun r hr q => b_Walk_drawDeed_78 ?_) k
  (first | exact q | (simp only [Option.getD_some]; exact q))
theorem w_Walk_drawDeed_81 {rod : Nat → Nat × (Nat → Int32)} {d : Nat} {Q : Option MV → MH → Prop} {a1 : Nat} {u2 : Option MV} {h : MH} (L : Lay h.2)  {Q1 : Option MV → MH → Prop} (c : Wc rod d 86 [.inr (.inr (.inl (some 65))), .inr (.inr (.inl (some a1)))] h Q1) (k : ∀ r1 h2, Q1 r1 h2 → Wb rod d B_Walk_drawDeed 86 [some (.inr (.inr (.inl (some 65)))), some (.inr (.inr (.inl (some a1)))), u2] (r1.toList ++ []) h2 Q) : Wb rod d B_Walk_drawDeed 81 [some (.inr (.inr (.inl (some 65)))), some (.inr (.inr (.inl (some a1)))), u2] [] h Q := by
  refine Wb.call (fun _ _ _ _ => b_Walk_drawDeed_81 (Lay.o65 L)) (Q1 := Q1) ?_ ?_
  · (first | exact c | (simp only [Option.getD_some]; exact c))
  · (first | exact k | (simp only [Option.getD_some]; exact k))
theorem w_Walk_drawDeed_86 {rod : Nat → Nat × (Nat → Int32)} {d : Nat} {Q : Option MV → MH → Prop} {u0 : Option MV} {u1 : Option MV} {u2 : Option MV} {xs0 : Int32} {h : MH}   (k : Wb rod d B_Walk_drawDeed 104 [u0, u1, u2] [] h Q) : Wb rod d B_Walk_drawDeed 86 [u0, u1, u2] [.inl xs0] h Q := by
  refine Wb.go (fun r hr q => b_Walk_drawDeed_86 ?_) k
  (first | exact q | (simp only [Option.getD_some]; exact q))
theorem w_Walk_drawDeed_90 {rod : Nat → Nat × (Nat → Int32)} {d : Nat} {Q : Option MV → MH → Prop} {a1 : Nat} {u2 : Option MV} {h : MH} (L : Lay h.2)  {Q1 : Option MV → MH → Prop} (c : Wc rod d 87 [.inr (.inr (.inl (some 65))), .inr (.inr (.inl (some a1)))] h Q1) (k : ∀ r1 h2, Q1 r1 h2 → Wb rod d B_Walk_drawDeed 95 [some (.inr (.inr (.inl (some 65)))), some (.inr (.inr (.inl (some a1)))), u2] (r1.toList ++ []) h2 Q) : Wb rod d B_Walk_drawDeed 90 [some (.inr (.inr (.inl (some 65)))), some (.inr (.inr (.inl (some a1)))), u2] [] h Q := by
  refine Wb.call (fun _ _ _ _ => b_Walk_drawDeed_90 (Lay.o65 L)) (Q1 := Q1) ?_ ?_
  · (first | exact c | (simp only [Option.getD_some]; exact c))
  · (first | exact k | (simp only [Option.getD_some]; exact k))
theorem w_Walk_drawDeed_95 {rod : Nat → Nat × (Nat → Int32)} {d : Nat} {Q : Option MV → MH → Prop} {u0 : Option MV} {u1 : Option MV} {u2 : Option MV} {xs0 : Int32} {h : MH}   (k : Wb rod d B_Walk_drawDeed 104 [u0, u1, u2] [] h Q) : Wb rod d B_Walk_drawDeed 95 [u0, u1, u2] [.inl xs0] h Q := by
  refine Wb.go (fun r hr q => b_Walk_drawDeed_95 ?_) k
  (first | exact q | (simp only [Option.getD_some]; exact q))
theorem w_Walk_drawDeed_99 {rod : Nat → Nat × (Nat → Int32)} {d : Nat} {Q : Option MV → MH → Prop} {a1 : Nat} {u2 : Option MV} {h : MH} (L : Lay h.2)  {Q1 : Option MV → MH → Prop} (c : Wc rod d 150 [.inr (.inr (.inl (some 65))), .inr (.inr (.inl (some a1)))] h Q1) (k : ∀ r1 h2, Q1 r1 h2 → Wb rod d B_Walk_drawDeed 104 [some (.inr (.inr (.inl (some 65)))), some (.inr (.inr (.inl (some a1)))), u2] (r1.toList ++ []) h2 Q) : Wb rod d B_Walk_drawDeed 99 [some (.inr (.inr (.inl (some 65)))), some (.inr (.inr (.inl (some a1)))), u2] [] h Q := by
  refine Wb.call (fun _ _ _ _ => b_Walk_drawDeed_99 (Lay.o65 L)) (Q1 := Q1) ?_ ?_
  · (first | exact c | (simp only [Option.getD_some]; exact c))
  · (first | exact k | (simp only [Option.getD_some]; exact k))
theorem w_Walk_drawDeed_104 {rod : Nat → Nat × (Nat → Int32)} {d : Nat} {Q : Option MV → MH → Prop} {u0 : Option MV} {u1 : Option MV} {u2 : Option MV} {h : MH}   (q : Q (none) h) : Wb rod d B_Walk_drawDeed 104 [u0, u1, u2] [] h Q := by
  refine Wb.ret (b_Walk_drawDeed_104) ?_
  (first | exact q | (simp only [Option.getD_some]; exact q))
theorem n_Walk_draw {rod : Nat → Nat × (Nat → Int32)} {d : Nat} {Q : Option MV → MH → Prop} {x1 : Int32} {h : MH} (k : Wb rod d B_Walk_draw 0 [some (.inr (.inr (.inl (some 65)))), some (.inl x1)] [] h Q) : Wc rod (d + 1) 148 [.inr (.inr (.inl (some 65))), .inl x1] h Q := Wc.en (fun _ _ => e_Walk_draw) k
theorem w_Walk_draw_0 {rod : Nat → Nat × (Nat → Int32)} {d : Nat} {Q : Option MV → MH → Prop} {u1 : Option MV} {h : MH} (L : Lay h.2)  (k : Wb rod d B_Walk_draw 15 [some (.inr (.inr (.inl (some 65)))), u1] [] (sI h 65 7 (((h.1 65 7) * (1103515245 : Int32)) + (12345 : Int32))) Q) : Wb rod d B_Walk_draw 0 [some (.inr (.inr (.inl (some 65)))), u1] [] h Q := by
  refine Wb.go (fun r hr q => b_Walk_draw_0 (Lay.o65 L) ?_) k
  (first | exact q | (simp only [Option.getD_some]; exact q))
theorem w_Walk_draw_15 {rod : Nat → Nat × (Nat → Int32)} {d : Nat} {Q : Option MV → MH → Prop} {u0 : Option MV} {x1 : Int32} {h : MH}   (k1 : x1.toInt ≤ 0 → Wb rod d B_Walk_draw 31 [u0, some (.inl x1)] [] h Q) (k2 : ¬ x1.toInt ≤ 0 → Wb rod d B_Walk_draw 19 [u0, some (.inl x1)] [] h Q) : Wb rod d B_Walk_draw 15 [u0, some (.inl x1)] [] h Q := by
  refine Wb.br (fun _ _ => b_Walk_draw_15) (fun c => ?_) (fun c => ?_)
  · have c : (decide (x1 ≤ 0)) = true := by first | exact c | (simp only [Option.getD_some] at c; exact c)
    (first | exact (k1 (c_let c)) | (simp only [Option.getD_some]; exact (k1 (c_let c))))
  · have c : (decide (x1 ≤ 0)) = false := by first | exact c | (simp only [Option.getD_some] at c; exact c)
    (first | exact (k2 (c_lef c)) | (simp only [Option.getD_some]; exact (k2 (c_lef c))))
theorem w_Walk_draw_19 {rod : Nat → Nat × (Nat → Int32)} {d : Nat} {Q : Option MV → MH → Prop} {x1 : Int32} {h : MH} (L : Lay h.2) (g0 : x1 ≠ 0) (k : Wb rod d B_Walk_draw 32 [some (.inr (.inr (.inl (some 65)))), some (.inl x1)] [.inl ((((h.1 65 7).toUInt32 >>> ((16 : Int32).toUInt32 &&& Int32.toUInt32 31)).toInt32) - (((h.1 65 7).toUInt32 >>> ((16 : Int32).toUInt32 &&& Int32.toUInt32 31)).toInt32) / x1 * x1)] h Q) : Wb rod d B_Walk_draw 19 [some (.inr (.inr (.inl (some 65)))), some (.inl x1)] [] h Q := by
  refine Wb.go (fun r hr q => b_Walk_draw_19 (Lay.o65 L) (ndec g0) ?_) k
  (first | exact q | (simp only [Option.getD_some]; exact q))
theorem w_Walk_draw_31 {rod : Nat → Nat × (Nat → Int32)} {d : Nat} {Q : Option MV → MH → Prop} {u0 : Option MV} {u1 : Option MV} {h : MH}   (k : Wb rod d B_Walk_draw 32 [u0, u1] [.inl (0 : Int32)] h Q) : Wb rod d B_Walk_draw 31 [u0, u1] [] h Q := by
  refine Wb.go (fun r hr q => b_Walk_draw_31 ?_) k
  (first | exact q | (simp only [Option.getD_some]; exact q))
theorem w_Walk_draw_32 {rod : Nat → Nat × (Nat → Int32)} {d : Nat} {Q : Option MV → MH → Prop} {u0 : Option MV} {u1 : Option MV} {xs0 : Int32} {h : MH}   (q : Q (some (.inl xs0)) h) : Wb rod d B_Walk_draw 32 [u0, u1] [.inl xs0] h Q := by
  refine Wb.ret (b_Walk_draw_32) ?_
  (first | exact q | (simp only [Option.getD_some]; exact q))
