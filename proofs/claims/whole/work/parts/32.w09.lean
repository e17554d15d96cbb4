/-! RULES OF BLOCKS over postconditions, references resolved (9) -/
theorem n_Model_bargainLine {rod : Nat → Nat × (Nat → Int32)} {d : Nat} {Q : Option MV → MH → Prop}  {h : MH} (k : Wb rod d B_Model_bargainLine 0 [some (.inr (.inr (.inl (some 84)))), none, none, none] [] h Q) : Wc rod (d + 1) 214 [.inr (.inr (.inl (some 84)))] h Q := Wc.en (fun _ _ => e_Model_bargainLine) k
theorem w_Model_bargainLine_0 {rod : Nat → Nat × (Nat → Int32)} {d : Nat} {Q : Option MV → MH → Prop} {u1 : Option MV} {u2 : Option MV} {u3 : Option MV} {h : MH} (L : Lay h.2)  {Q1 : Option MV → MH → Prop} (c : Wc rod d 203 [.inr (.inr (.inl (some 84))), .inl (21 : Int32), .inl (22 : Int32)] h Q1) (k : ∀ r1 h2, Q1 r1 h2 → Wb rod d B_Model_bargainLine 8 [some (.inr (.inr (.inl (some 84)))), u1, u2, u3] (r1.toList ++ []) h2 Q) : Wb rod d B_Model_bargainLine 0 [some (.inr (.inr (.inl (some 84)))), u1, u2, u3] [] h Q := by
  refine Wb.call (fun _ _ _ _ => b_Model_bargainLine_0 (Lay.o84 L)) (Q1 := Q1) ?_ ?_
  · (first | exact c | (simp only [Option.getD_some]; exact c))
  · (first | exact k | (simp only [Option.getD_some]; exact k))
theorem w_Model_bargainLine_8 {rod : Nat → Nat × (Nat → Int32)} {d : Nat} {Q : Option MV → MH → Prop} {u0 : Option MV} {u1 : Option MV} {u2 : Option MV} {u3 : Option MV} {xs0 : Int32} {h : MH}  (g0 : okl [u0, u1, u2, u3] 1 = true) (k1 : ¬ xs0.toInt = 21 → Wb rod d B_Model_bargainLine 30 [u0, some (.inl xs0), u2, u3] [] h Q) (k2 : xs0.toInt = 21 → Wb rod d B_Model_bargainLine 15 [u0, some (.inl xs0), u2, u3] [] h Q) : Wb rod d B_Model_bargainLine 8 [u0, u1, u2, u3] [.inl xs0] h Q := by
  refine Wb.br (fun _ _ => b_Model_bargainLine_8 g0) (fun c => ?_) (fun c => ?_)
  · have c : (!(decide (xs0 = (21 : Int32)))) = true := by first | exact c | (simp only [Option.getD_some] at c; exact c)
    (first | exact (k1 (c_net c)) | (simp only [Option.getD_some]; exact (k1 (c_net c))))
  · have c : (!(decide (xs0 = (21 : Int32)))) = false := by first | exact c | (simp only [Option.getD_some] at c; exact c)
    (first | exact (k2 (c_nef c)) | (simp only [Option.getD_some]; exact (k2 (c_nef c))))
theorem w_Model_bargainLine_15 {rod : Nat → Nat × (Nat → Int32)} {d : Nat} {Q : Option MV → MH → Prop} {u1 : Option MV} {u2 : Option MV} {u3 : Option MV} {h : MH} (L : Lay h.2)  {Q1 : Option MV → MH → Prop} (c : Wc rod d 207 [.inr (.inr (.inl (some 84))), .inl (1 : Int32), .inl (4 : Int32)] h Q1) (k : ∀ r1 h2, Q1 r1 h2 → Wb rod d B_Model_bargainLine 26 [some (.inr (.inr (.inl (some 84)))), u1, u2, u3] (r1.toList ++ [.inl (0 : Int32), .inr (.inr (.inl (some 87)))]) h2 Q) : Wb rod d B_Model_bargainLine 15 [some (.inr (.inr (.inl (some 84)))), u1, u2, u3] [] h Q := by
  refine Wb.call (fun _ _ _ _ => b_Model_bargainLine_15 (Lay.o84 L)) (Q1 := Q1) ?_ ?_
  · (first | exact c | (simp only [Option.getD_some, (Lay.r84_10 L)]; exact c))
  · (first | exact k | (simp only [Option.getD_some, (Lay.r84_10 L)]; exact k))
theorem w_Model_bargainLine_26 {rod : Nat → Nat × (Nat → Int32)} {d : Nat} {Q : Option MV → MH → Prop} {u0 : Option MV} {u1 : Option MV} {u2 : Option MV} {u3 : Option MV} {cs0 : Nat} {ncs0 : Nat} {xs1 : Int32} {xs2 : Int32} {h : MH} (Scs0 : h.2.2[cs0]? = some (0, ncs0)) (g0 : 0 ≤ xs1.toInt ∧ xs1.toInt < ncs0) (k : Wb rod d B_Model_bargainLine 27 [u0, u1, u2, u3] [] (sI h cs0 xs1.toNatClampNeg xs2) Q) : Wb rod d B_Model_bargainLine 26 [u0, u1, u2, u3] [.inl xs2, .inl xs1, .inr (.inr (.inl (some cs0)))] h Q := by
  refine Wb.go (fun r hr q => b_Model_bargainLine_26 (gA_of Scs0 (inB_of g0.1 g0.2)) ?_) k
  (first | exact q | (simp only [Option.getD_some]; exact q))
theorem w_Model_bargainLine_27 {rod : Nat → Nat × (Nat → Int32)} {d : Nat} {Q : Option MV → MH → Prop} {u0 : Option MV} {u1 : Option MV} {u2 : Option MV} {u3 : Option MV} {h : MH}   (k : Wb rod d B_Model_bargainLine 81 [u0, u1, u2, u3] [] h Q) : Wb rod d B_Model_bargainLine 27 [u0, u1, u2, u3] [] h Q := by
  refine Wb.go (fun r hr q => b_Model_bargainLine_27 ?_) k
  (first | exact q | (simp only [Option.getD_some]; exact q))
theorem w_Model_bargainLine_30 {rod : Nat → Nat × (Nat → Int32)} {d : Nat} {Q : Option MV → MH → Prop} {u1 : Option MV} {u2 : Option MV} {u3 : Option MV} {h : MH} (L : Lay h.2)  {Q1 : Option MV → MH → Prop} (c : Wc rod d 207 [.inr (.inr (.inl (some 84))), .inl (1 : Int32), .inl (15 : Int32)] h Q1) (k : ∀ r1 h2, Q1 r1 h2 → Wb rod d B_Model_bargainLine 37 [some (.inr (.inr (.inl (some 84)))), u1, u2, u3] (r1.toList ++ []) h2 Q) : Wb rod d B_Model_bargainLine 30 [some (.inr (.inr (.inl (some 84)))), u1, u2, u3] [] h Q := by
  refine Wb.call (fun _ _ _ _ => b_Model_bargainLine_30 (Lay.o84 L)) (Q1 := Q1) ?_ ?_
  · (first | exact c | (simp only [Option.getD_some]; exact c))
  · (first | exact k | (simp only [Option.getD_some]; exact k))
theorem w_Model_bargainLine_37 {rod : Nat → Nat × (Nat → Int32)} {d : Nat} {Q : Option MV → MH → Prop} {u1 : Option MV} {u2 : Option MV} {u3 : Option MV} {xs0 : Int32} {h : MH} (L : Lay h.2) (g0 : okl [some (.inr (.inr (.inl (some 84)))), u1, u2, u3] 2 = true) {Q1 : Option MV → MH → Prop} (c : Wc rod d 207 [.inr (.inr (.inl (some 84))), .inl (0 : Int32), .inl (40 : Int32)] h Q1) (k : ∀ r1 h2, Q1 r1 h2 → Wb rod d B_Model_bargainLine 45 [some (.inr (.inr (.inl (some 84)))), u1, some (.inl xs0), u3] (r1.toList ++ []) h2 Q) : Wb rod d B_Model_bargainLine 37 [some (.inr (.inr (.inl (some 84)))), u1, u2, u3] [.inl xs0] h Q := by
  refine Wb.call (fun _ _ _ _ => b_Model_bargainLine_37 g0 (Lay.o84 L)) (Q1 := Q1) ?_ ?_
  · (first | exact c | (simp only [Option.getD_some]; exact c))
  · (first | exact k | (simp only [Option.getD_some]; exact k))
theorem w_Model_bargainLine_45 {rod : Nat → Nat × (Nat → Int32)} {d : Nat} {Q : Option MV → MH → Prop} {u1 : Option MV} {u2 : Option MV} {u3 : Option MV} {xs0 : Int32} {h : MH} (L : Lay h.2) (g0 : okl [some (.inr (.inr (.inl (some 84)))), u1, u2, u3] 3 = true) (k1 : (h.1 84 8).toInt = 0 → Wb rod d B_Model_bargainLine 62 [some (.inr (.inr (.inl (some 84)))), u1, u2, some (.inl xs0)] [.inl (h.1 84 11), .inr (.inr (.inl (some 84)))] h Q) (k2 : ¬ (h.1 84 8).toInt = 0 → Wb rod d B_Model_bargainLine 58 [some (.inr (.inr (.inl (some 84)))), u1, u2, some (.inl xs0)] [.inl (h.1 84 11), .inr (.inr (.inl (some 84)))] h Q) : Wb rod d B_Model_bargainLine 45 [some (.inr (.inr (.inl (some 84)))), u1, u2, u3] [.inl xs0] h Q := by
  refine Wb.br (fun _ _ => b_Model_bargainLine_45 g0 (Lay.o84 L)) (fun c => ?_) (fun c => ?_)
  · have c : (decide ((h.1 84 8) = 0)) = true := by first | exact c | (simp only [Option.getD_some] at c; exact c)
    (first | exact (k1 (c_eqt c)) | (simp only [Option.getD_some]; exact (k1 (c_eqt c))))
  · have c : (decide ((h.1 84 8) = 0)) = false := by first | exact c | (simp only [Option.getD_some] at c; exact c)
    (first | exact (k2 (c_eqf c)) | (simp only [Option.getD_some]; exact (k2 (c_eqf c))))
theorem w_Model_bargainLine_58 {rod : Nat → Nat × (Nat → Int32)} {d : Nat} {Q : Option MV → MH → Prop} {u0 : Option MV} {u1 : Option MV} {u2 : Option MV} {u3 : Option MV} {xs1 : Int32} {h : MH}   (k : Wb rod d B_Model_bargainLine 63 [u0, u1, u2, u3] [.inl (0 : Int32), .inl xs1, .inr (.inr (.inl (some 84)))] h Q) : Wb rod d B_Model_bargainLine 58 [u0, u1, u2, u3] [.inl xs1, .inr (.inr (.inl (some 84)))] h Q := by
  refine Wb.go (fun r hr q => b_Model_bargainLine_58 ?_) k
  (first | exact q | (simp only [Option.getD_some]; exact q))
theorem w_Model_bargainLine_62 {rod : Nat → Nat × (Nat → Int32)} {d : Nat} {Q : Option MV → MH → Prop} {u0 : Option MV} {u1 : Option MV} {x2 : Int32} {u3 : Option MV} {xs1 : Int32} {h : MH}   (k : Wb rod d B_Model_bargainLine 63 [u0, u1, some (.inl x2), u3] [.inl x2, .inl xs1, .inr (.inr (.inl (some 84)))] h Q) : Wb rod d B_Model_bargainLine 62 [u0, u1, some (.inl x2), u3] [.inl xs1, .inr (.inr (.inl (some 84)))] h Q := by
  refine Wb.go (fun r hr q => b_Model_bargainLine_62 ?_) k
  (first | exact q | (simp only [Option.getD_some]; exact q))
theorem w_Model_bargainLine_63 {rod : Nat → Nat × (Nat → Int32)} {d : Nat} {Q : Option MV → MH → Prop} {u0 : Option MV} {u1 : Option MV} {u2 : Option MV} {u3 : Option MV} {xs1 : Int32} {xs2 : Int32} {h : MH} (L : Lay h.2)  (k : Wb rod d B_Model_bargainLine 67 [u0, u1, u2, u3] [] (sI h 84 11 (xs1 ||| xs2)) Q) : Wb rod d B_Model_bargainLine 63 [u0, u1, u2, u3] [.inl xs2, .inl xs1, .inr (.inr (.inl (some 84)))] h Q := by
  refine Wb.go (fun r hr q => b_Model_bargainLine_63 (Lay.o84 L) ?_) k
  (first | exact q | (simp only [Option.getD_some]; exact q))
theorem w_Model_bargainLine_67 {rod : Nat → Nat × (Nat → Int32)} {d : Nat} {Q : Option MV → MH → Prop} {u1 : Option MV} {u2 : Option MV} {u3 : Option MV} {h : MH} (L : Lay h.2)  (k1 : ¬ (h.1 84 8).toInt = 0 → Wb rod d B_Model_bargainLine 81 [some (.inr (.inr (.inl (some 84)))), u1, u2, u3] [] h Q) (k2 : (h.1 84 8).toInt = 0 → Wb rod d B_Model_bargainLine 74 [some (.inr (.inr (.inl (some 84)))), u1, u2, u3] [] h Q) : Wb rod d B_Model_bargainLine 67 [some (.inr (.inr (.inl (some 84)))), u1, u2, u3] [] h Q := by
  refine Wb.br (fun _ _ => b_Model_bargainLine_67 (Lay.o84 L)) (fun c => ?_) (fun c => ?_)
  · have c : (!(decide ((h.1 84 8) = 0))) = true := by first | exact c | (simp only [Option.getD_some] at c; exact c)
    (first | exact (k1 (c_net c)) | (simp only [Option.getD_some]; exact (k1 (c_net c))))
  · have c : (!(decide ((h.1 84 8) = 0))) = false := by first | exact c | (simp only [Option.getD_some] at c; exact c)
    (first | exact (k2 (c_nef c)) | (simp only [Option.getD_some]; exact (k2 (c_nef c))))
theorem w_Model_bargainLine_74 {rod : Nat → Nat × (Nat → Int32)} {d : Nat} {Q : Option MV → MH → Prop} {u1 : Option MV} {x2 : Int32} {x3 : Int32} {h : MH} (L : Lay h.2) (g0 : 0 ≤ x2.toInt ∧ x2.toInt < 121) (k : Wb rod d B_Model_bargainLine 81 [some (.inr (.inr (.inl (some 84)))), u1, some (.inl x2), some (.inl x3)] [] (sI h 87 x2.toNatClampNeg x3) Q) : Wb rod d B_Model_bargainLine 74 [some (.inr (.inr (.inl (some 84)))), u1, some (.inl x2), some (.inl x3)] [] h Q := by
  refine Wb.go (fun r hr q => b_Model_bargainLine_74 (Lay.o84 L) (Lay.a84_10 L g0) ?_) k
  (first | exact q | (simp only [Option.getD_some, (Lay.r84_10 L)]; exact q))
theorem w_Model_bargainLine_81 {rod : Nat → Nat × (Nat → Int32)} {d : Nat} {Q : Option MV → MH → Prop} {u1 : Option MV} {u2 : Option MV} {u3 : Option MV} {h : MH} (L : Lay h.2)  {Q1 : Option MV → MH → Prop} (c : Wc rod d 211 [.inr (.inr (.inl (some 84)))] h Q1) (k : ∀ r1 h2, Q1 r1 h2 → Wb rod d B_Model_bargainLine 85 [some (.inr (.inr (.inl (some 84)))), u1, u2, u3] (r1.toList ++ []) h2 Q) : Wb rod d B_Model_bargainLine 81 [some (.inr (.inr (.inl (some 84)))), u1, u2, u3] [] h Q := by
  refine Wb.call (fun _ _ _ _ => b_Model_bargainLine_81 (Lay.o84 L)) (Q1 := Q1) ?_ ?_
  · (first | exact c | (simp only [Option.getD_some]; exact c))
  · (first | exact k | (simp only [Option.getD_some]; exact k))
theorem w_Model_bargainLine_85 {rod : Nat → Nat × (Nat → Int32)} {d : Nat} {Q : Option MV → MH → Prop} {u0 : Option MV} {u1 : Option MV} {u2 : Option MV} {u3 : Option MV} {h : MH}   (q : Q (none) h) : Wb rod d B_Model_bargainLine 85 [u0, u1, u2, u3] [] h Q := by
  refine Wb.ret (b_Model_bargainLine_85) ?_
  (first | exact q | (simp only [Option.getD_some]; exact q))
theorem n_Model_sizeOf {rod : Nat → Nat × (Nat → Int32)} {d : Nat} {Q : Option MV → MH → Prop} {x0 : Int32} {h : MH} (k : Wb rod d B_Model_sizeOf 0 [some (.inl x0)] [] h Q) : Wc rod (d + 1) 215 [.inl x0] h Q := Wc.en (fun _ _ => e_Model_sizeOf) k
theorem w_Model_sizeOf_0 {rod : Nat → Nat × (Nat → Int32)} {d : Nat} {Q : Option MV → MH → Prop} {x0 : Int32} {h : MH}   (k1 : ¬ x0.toInt = 0 → Wb rod d B_Model_sizeOf 9 [some (.inl x0)] [] h Q) (k2 : x0.toInt = 0 → Wb rod d B_Model_sizeOf 4 [some (.inl x0)] [] h Q) : Wb rod d B_Model_sizeOf 0 [some (.inl x0)] [] h Q := by
  refine Wb.br (fun _ _ => b_Model_sizeOf_0) (fun c => ?_) (fun c => ?_)
  · have c : (!(decide (x0 = 0))) = true := by first | exact c | (simp only [Option.getD_some] at c; exact c)
    (first | exact (k1 (c_net c)) | (simp only [Option.getD_some]; exact (k1 (c_net c))))
  · have c : (!(decide (x0 = 0))) = false := by first | exact c | (simp only [Option.getD_some] at c; exact c)
    (first | exact (k2 (c_nef c)) | (simp only [Option.getD_some]; exact (k2 (c_nef c))))
theorem w_Model_sizeOf_4 {rod : Nat → Nat × (Nat → Int32)} {d : Nat} {Q : Option MV → MH → Prop} {u0 : Option MV} {h : MH}   (k : Wb rod d B_Model_sizeOf 31 [u0] [.inl (90 : Int32)] h Q) : Wb rod d B_Model_sizeOf 4 [u0] [] h Q := by
  refine Wb.go (fun r hr q => b_Model_sizeOf_4 ?_) k
  (first | exact q | (simp only [Option.getD_some]; exact q))
theorem w_Model_sizeOf_9 {rod : Nat → Nat × (Nat → Int32)} {d : Nat} {Q : Option MV → MH → Prop} {x0 : Int32} {h : MH}   (k1 : ¬ x0.toInt = 1 → Wb rod d B_Model_sizeOf 19 [some (.inl x0)] [] h Q) (k2 : x0.toInt = 1 → Wb rod d B_Model_sizeOf 14 [some (.inl x0)] [] h Q) : Wb rod d B_Model_sizeOf 9 [some (.inl x0)] [] h Q := by
  refine Wb.br (fun _ _ => b_Model_sizeOf_9) (fun c => ?_) (fun c => ?_)
  · have c : (!(decide (x0 = (1 : Int32)))) = true := by first | exact c | (simp only [Option.getD_some] at c; exact c)
    (first | exact (k1 (c_net c)) | (simp only [Option.getD_some]; exact (k1 (c_net c))))
  · have c : (!(decide (x0 = (1 : Int32)))) = false := by first | exact c | (simp only [Option.getD_some] at c; exact c)
    (first | exact (k2 (c_nef c)) | (simp only [Option.getD_some]; exact (k2 (c_nef c))))
theorem w_Model_sizeOf_14 {rod : Nat → Nat × (Nat → Int32)} {d : Nat} {Q : Option MV → MH → Prop} {u0 : Option MV} {h : MH}   (k : Wb rod d B_Model_sizeOf 31 [u0] [.inl (121 : Int32)] h Q) : Wb rod d B_Model_sizeOf 14 [u0] [] h Q := by
  refine Wb.go (fun r hr q => b_Model_sizeOf_14 ?_) k
  (first | exact q | (simp only [Option.getD_some]; exact q))
theorem w_Model_sizeOf_19 {rod : Nat → Nat × (Nat → Int32)} {d : Nat} {Q : Option MV → MH → Prop} {x0 : Int32} {h : MH}   (k1 : ¬ x0.toInt = 2 → Wb rod d B_Model_sizeOf 29 [some (.inl x0)] [] h Q) (k2 : x0.toInt = 2 → Wb rod d B_Model_sizeOf 24 [some (.inl x0)] [] h Q) : Wb rod d B_Model_sizeOf 19 [some (.inl x0)] [] h Q := by
  refine Wb.br (fun _ _ => b_Model_sizeOf_19) (fun c => ?_) (fun c => ?_)
  · have c : (!(decide (x0 = (2 : Int32)))) = true := by first | exact c | (simp only [Option.getD_some] at c; exact c)
    (first | exact (k1 (c_net c)) | (simp only [Option.getD_some]; exact (k1 (c_net c))))
  · have c : (!(decide (x0 = (2 : Int32)))) = false := by first | exact c | (simp only [Option.getD_some] at c; exact c)
    (first | exact (k2 (c_nef c)) | (simp only [Option.getD_some]; exact (k2 (c_nef c))))
theorem w_Model_sizeOf_24 {rod : Nat → Nat × (Nat → Int32)} {d : Nat} {Q : Option MV → MH → Prop} {u0 : Option MV} {h : MH}   (k : Wb rod d B_Model_sizeOf 31 [u0] [.inl (41 : Int32)] h Q) : Wb rod d B_Model_sizeOf 24 [u0] [] h Q := by
  refine Wb.go (fun r hr q => b_Model_sizeOf_24 ?_) k
  (first | exact q | (simp only [Option.getD_some]; exact q))
theorem w_Model_sizeOf_29 {rod : Nat → Nat × (Nat → Int32)} {d : Nat} {Q : Option MV → MH → Prop} {u0 : Option MV} {h : MH}   (k : Wb rod d B_Model_sizeOf 31 [u0] [.inl (16 : Int32)] h Q) : Wb rod d B_Model_sizeOf 29 [u0] [] h Q := by
  refine Wb.go (fun r hr q => b_Model_sizeOf_29 ?_) k
  (first | exact q | (simp only [Option.getD_some]; exact q))
theorem w_Model_sizeOf_31 {rod : Nat → Nat × (Nat → Int32)} {d : Nat} {Q : Option MV → MH → Prop} {u0 : Option MV} {xs0 : Int32} {h : MH}   (q : Q (some (.inl xs0)) h) : Wb rod d B_Model_sizeOf 31 [u0] [.inl xs0] h Q := by
  refine Wb.ret (b_Model_sizeOf_31) ?_
  (first | exact q | (simp only [Option.getD_some]; exact q))
theorem n_Model_fault {rod : Nat → Nat × (Nat → Int32)} {d : Nat} {Q : Option MV → MH → Prop} {x1 : Int32} {h : MH} (k : Wb rod d B_Model_fault 0 [some (.inr (.inr (.inl (some 84)))), some (.inl x1)] [] h Q) : Wc rod (d + 1) 217 [.inr (.inr (.inl (some 84))), .inl x1] h Q := Wc.en (fun _ _ => e_Model_fault) k
theorem w_Model_fault_0 {rod : Nat → Nat × (Nat → Int32)} {d : Nat} {Q : Option MV → MH → Prop} {u0 : Option MV} {x1 : Int32} {h : MH}   (k1 : ¬ x1.toInt = 0 → Wb rod d B_Model_fault 13 [u0, some (.inl x1)] [] h Q) (k2 : x1.toInt = 0 → Wb rod d B_Model_fault 4 [u0, some (.inl x1)] [] h Q) : Wb rod d B_Model_fault 0 [u0, some (.inl x1)] [] h Q := by
  refine Wb.br (fun _ _ => b_Model_fault_0) (fun c => ?_) (fun c => ?_)
  · have c : (!(decide (x1 = 0))) = true := by first | exact c | (simp only [Option.getD_some] at c; exact c)
    (first | exact (k1 (c_net c)) | (simp only [Option.getD_some]; exact (k1 (c_net c))))
  · have c : (!(decide (x1 = 0))) = false := by first | exact c | (simp only [Option.getD_some] at c; exact c)
    (first | exact (k2 (c_nef c)) | (simp only [Option.getD_some]; exact (k2 (c_nef c))))
theorem w_Model_fault_4 {rod : Nat → Nat × (Nat → Int32)} {d : Nat} {Q : Option MV → MH → Prop} {u1 : Option MV} {h : MH} (L : Lay h.2)  (k : Wb rod d B_Model_fault 29 [some (.inr (.inr (.inl (some 84)))), u1] [.inl (h.1 85 (5 : Int32).toNatClampNeg)] h Q) : Wb rod d B_Model_fault 4 [some (.inr (.inr (.inl (some 84)))), u1] [] h Q := by
  refine Wb.go (fun r hr q => b_Model_fault_4 (Lay.o84 L) (Lay.a84_0 L ⟨by decide, by decide⟩) ?_) k
  (first | exact q | (simp only [Option.getD_some, (Lay.r84_0 L)]; exact q))
theorem w_Model_fault_13 {rod : Nat → Nat × (Nat → Int32)} {d : Nat} {Q : Option MV → MH → Prop} {u0 : Option MV} {x1 : Int32} {h : MH}   (k1 : ¬ x1.toInt = 1 → Wb rod d B_Model_fault 28 [u0, some (.inl x1)] [] h Q) (k2 : x1.toInt = 1 → Wb rod d B_Model_fault 18 [u0, some (.inl x1)] [] h Q) : Wb rod d B_Model_fault 13 [u0, some (.inl x1)] [] h Q := by
  refine Wb.br (fun _ _ => b_Model_fault_13) (fun c => ?_) (fun c => ?_)
  · have c : (!(decide (x1 = (1 : Int32)))) = true := by first | exact c | (simp only [Option.getD_some] at c; exact c)
    (first | exact (k1 (c_net c)) | (simp only [Option.getD_some]; exact (k1 (c_net c))))
  · have c : (!(decide (x1 = (1 : Int32)))) = false := by first | exact c | (simp only [Option.getD_some] at c; exact c)
    (first | exact (k2 (c_nef c)) | (simp only [Option.getD_some]; exact (k2 (c_nef c))))
theorem w_Model_fault_18 {rod : Nat → Nat × (Nat → Int32)} {d : Nat} {Q : Option MV → MH → Prop} {u1 : Option MV} {h : MH} (L : Lay h.2)  (k : Wb rod d B_Model_fault 29 [some (.inr (.inr (.inl (some 84)))), u1] [.inl (h.1 85 (6 : Int32).toNatClampNeg)] h Q) : Wb rod d B_Model_fault 18 [some (.inr (.inr (.inl (some 84)))), u1] [] h Q := by
  refine Wb.go (fun r hr q => b_Model_fault_18 (Lay.o84 L) (Lay.a84_0 L ⟨by decide, by decide⟩) ?_) k
  (first | exact q | (simp only [Option.getD_some, (Lay.r84_0 L)]; exact q))
theorem w_Model_fault_28 {rod : Nat → Nat × (Nat → Int32)} {d : Nat} {Q : Option MV → MH → Prop} {u0 : Option MV} {u1 : Option MV} {h : MH}   (k : Wb rod d B_Model_fault 29 [u0, u1] [.inl (-1 : Int32)] h Q) : Wb rod d B_Model_fault 28 [u0, u1] [] h Q := by
  refine Wb.go (fun r hr q => b_Model_fault_28 ?_) k
  (first | exact q | (simp only [Option.getD_some]; exact q))
theorem w_Model_fault_29 {rod : Nat → Nat × (Nat → Int32)} {d : Nat} {Q : Option MV → MH → Prop} {u0 : Option MV} {u1 : Option MV} {xs0 : Int32} {h : MH}   (q : Q (some (.inl xs0)) h) : Wb rod d B_Model_fault 29 [u0, u1] [.inl xs0] h Q := by
  refine Wb.ret (b_Model_fault_29) ?_
  (first | exact q | (simp only [Option.getD_some]; exact q))
theorem n_Model_land {rod : Nat → Nat × (Nat → Int32)} {d : Nat} {Q : Option MV → MH → Prop} {x1 : Int32} {x2 : Int32} {h : MH} (k : Wb rod d B_Model_land 0 [some (.inr (.inr (.inl (some 84)))), some (.inl x1), some (.inl x2), none] [] h Q) : Wc rod (d + 1) 218 [.inr (.inr (.inl (some 84))), .inl x1, .inl x2] h Q := Wc.en (fun _ _ => e_Model_land) k
theorem w_Model_land_0 {rod : Nat → Nat × (Nat → Int32)} {d : Nat} {Q : Option MV → MH → Prop} {x1 : Int32} {u2 : Option MV} {u3 : Option MV} {h : MH} (L : Lay h.2)  {Q1 : Option MV → MH → Prop} (c : Wc rod d 219 [.inr (.inr (.inl (some 84))), .inl x1] h Q1) (k : ∀ r1 h2, Q1 r1 h2 → Wb rod d B_Model_land 5 [some (.inr (.inr (.inl (some 84)))), some (.inl x1), u2, u3] (r1.toList ++ []) h2 Q) : Wb rod d B_Model_land 0 [some (.inr (.inr (.inl (some 84)))), some (.inl x1), u2, u3] [] h Q := by
  refine Wb.call (fun _ _ _ _ => b_Model_land_0 (Lay.o84 L)) (Q1 := Q1) ?_ ?_
  · (first | exact c | (simp only [Option.getD_some]; exact c))
  · (first | exact k | (simp only [Option.getD_some]; exact k))
theorem w_Model_land_5 {rod : Nat → Nat × (Nat → Int32)} {d : Nat} {Q : Option MV → MH → Prop} {u0 : Option MV} {u1 : Option MV} {u2 : Option MV} {u3 : Option MV} {xs0 : Int32} {h : MH}   (k1 : ¬ xs0.toInt = 0 → Wb rod d B_Model_land 10 [u0, u1, u2, u3] [] h Q) (k2 : xs0.toInt = 0 → Wb rod d B_Model_land 8 [u0, u1, u2, u3] [] h Q) : Wb rod d B_Model_land 5 [u0, u1, u2, u3] [.inl xs0] h Q := by
  refine Wb.br (fun _ _ => b_Model_land_5) (fun c => ?_) (fun c => ?_)
  · have c : (!(decide (xs0 = 0))) = true := by first | exact c | (simp only [Option.getD_some] at c; exact c)
    (first | exact (k1 (c_net c)) | (simp only [Option.getD_some]; exact (k1 (c_net c))))
  · have c : (!(decide (xs0 = 0))) = false := by first | exact c | (simp only [Option.getD_some] at c; exact c)
    (first | exact (k2 (c_nef c)) | (simp only [Option.getD_some]; exact (k2 (c_nef c))))
theorem w_Model_land_8 {rod : Nat → Nat × (Nat → Int32)} {d : Nat} {Q : Option MV → MH → Prop} {u0 : Option MV} {u1 : Option MV} {u2 : Option MV} {u3 : Option MV} {h : MH}   (q : Q (some (.inl (-1 : Int32))) h) : Wb rod d B_Model_land 8 [u0, u1, u2, u3] [] h Q := by
  refine Wb.ret (b_Model_land_8) ?_
  (first | exact q | (simp only [Option.getD_some]; exact q))
theorem w_Model_land_10 {rod : Nat → Nat × (Nat → Int32)} {d : Nat} {Q : Option MV → MH → Prop} {u0 : Option MV} {u1 : Option MV} {x2 : Int32} {u3 : Option MV} {h : MH}   {Q1 : Option MV → MH → Prop} (c : Wc rod d 193 [.inl x2, .inl (0 : Int32), .inl (5 : Int32)] h Q1) (k : ∀ r1 h2, Q1 r1 h2 → Wb rod d B_Model_land 16 [u0, u1, some (.inl x2), u3] (r1.toList ++ []) h2 Q) : Wb rod d B_Model_land 10 [u0, u1, some (.inl x2), u3] [] h Q := by
  refine Wb.call (fun _ _ _ _ => b_Model_land_10) (Q1 := Q1) ?_ ?_
  · (first | exact c | (simp only [Option.getD_some]; exact c))
  · (first | exact k | (simp only [Option.getD_some]; exact k))
theorem w_Model_land_16 {rod : Nat → Nat × (Nat → Int32)} {d : Nat} {Q : Option MV → MH → Prop} {u0 : Option MV} {u1 : Option MV} {u2 : Option MV} {u3 : Option MV} {xs0 : Int32} {h : MH}   (k1 : xs0.toInt = 0 → Wb rod d B_Model_land 31 [u0, u1, u2, u3] [] h Q) (k2 : ¬ xs0.toInt = 0 → Wb rod d B_Model_land 19 [u0, u1, u2, u3] [] h Q) : Wb rod d B_Model_land 16 [u0, u1, u2, u3] [.inl xs0] h Q := by
  refine Wb.br (fun _ _ => b_Model_land_16) (fun c => ?_) (fun c => ?_)
  · have c : (decide (xs0 = 0)) = true := by first | exact c | (simp only [Option.getD_some] at c; exact c)
    (first | exact (k1 (c_eqt c)) | (simp only [Option.getD_some]; exact (k1 (c_eqt c))))
  · have c : (decide (xs0 = 0)) = false := by first | exact c | (simp only [Option.getD_some] at c; exact c)
    (first | exact (k2 (c_eqf c)) | (simp only [Option.getD_some]; exact (k2 (c_eqf c))))
theorem w_Model_land_19 {rod : Nat → Nat × (Nat → Int32)} {d : Nat} {Q : Option MV → MH → Prop} {u1 : Option MV} {x2 : Int32} {u3 : Option MV} {h : MH} (L : Lay h.2) (g0 : 0 ≤ ((h.1 84 12) + x2).toInt ∧ ((h.1 84 12) + x2).toInt < 4584) (q : Q (some (.inl (h.1 85 ((h.1 84 12) + x2).toNatClampNeg))) h) : Wb rod d B_Model_land 19 [some (.inr (.inr (.inl (some 84)))), u1, some (.inl x2), u3] [] h Q := by
  refine Wb.ret (b_Model_land_19 (Lay.o84 L) (Lay.a84_0 L (by first | exact g0 | (simp only [Option.getD_some, (Lay.r84_0 L)]; exact g0)))) ?_
  (first | exact q | (simp only [Option.getD_some, (Lay.r84_0 L)]; exact q))
theorem w_Model_land_31 {rod : Nat → Nat × (Nat → Int32)} {d : Nat} {Q : Option MV → MH → Prop} {u0 : Option MV} {u1 : Option MV} {x2 : Int32} {u3 : Option MV} {h : MH}   {Q1 : Option MV → MH → Prop} (c : Wc rod d 193 [.inl x2, .inl (10 : Int32), .inl (59 : Int32)] h Q1) (k : ∀ r1 h2, Q1 r1 h2 → Wb rod d B_Model_land 44 [u0, u1, some (.inl x2), some (.inl (x2 - x2 / (10 : Int32) * (10 : Int32)))] (r1.toList ++ []) h2 Q) : Wb rod d B_Model_land 31 [u0, u1, some (.inl x2), u3] [] h Q := by
  refine Wb.call (fun _ _ _ _ => b_Model_land_31 (by decide)) (Q1 := Q1) ?_ ?_
  · (first | exact c | (simp only [Option.getD_some]; exact c))
  · (first | exact k | (simp only [Option.getD_some]; exact k))
theorem w_Model_land_44 {rod : Nat → Nat × (Nat → Int32)} {d : Nat} {Q : Option MV → MH → Prop} {u0 : Option MV} {u1 : Option MV} {u2 : Option MV} {u3 : Option MV} {xs0 : Int32} {h : MH}   (k1 : xs0.toInt = 0 → Wb rod d B_Model_land 71 [u0, u1, u2, u3] [] h Q) (k2 : ¬ xs0.toInt = 0 → Wb rod d B_Model_land 47 [u0, u1, u2, u3] [] h Q) : Wb rod d B_Model_land 44 [u0, u1, u2, u3] [.inl xs0] h Q := by
  refine Wb.br (fun _ _ => b_Model_land_44) (fun c => ?_) (fun c => ?_)
  · have c : (decide (xs0 = 0)) = true := by first | exact c | (simp only [Option.getD_some] at c; exact c)
    (first | exact (k1 (c_eqt c)) | (simp only [Option.getD_some]; exact (k1 (c_eqt c))))
  · have c : (decide (xs0 = 0)) = false := by first | exact c | (simp only [Option.getD_some] at c; exact c)
    (first | exact (k2 (c_eqf c)) | (simp only [Option.getD_some]; exact (k2 (c_eqf c))))
theorem w_Model_land_47 {rod : Nat → Nat × (Nat → Int32)} {d : Nat} {Q : Option MV → MH → Prop} {u1 : Option MV} {u2 : Option MV} {x3 : Int32} {h : MH} (L : Lay h.2)  {Q1 : Option MV → MH → Prop} (c : Wc rod d 220 [.inr (.inr (.inl (some 84))), .inl x3] h Q1) (k : ∀ r1 h2, Q1 r1 h2 → Wb rod d B_Model_land 52 [some (.inr (.inr (.inl (some 84)))), u1, u2, some (.inl x3)] (r1.toList ++ []) h2 Q) : Wb rod d B_Model_land 47 [some (.inr (.inr (.inl (some 84)))), u1, u2, some (.inl x3)] [] h Q := by
  refine Wb.call (fun _ _ _ _ => b_Model_land_47 (Lay.o84 L)) (Q1 := Q1) ?_ ?_
  · (first | exact c | (simp only [Option.getD_some]; exact c))
  · (first | exact k | (simp only [Option.getD_some]; exact k))
theorem w_Model_land_52 {rod : Nat → Nat × (Nat → Int32)} {d : Nat} {Q : Option MV → MH → Prop} {u0 : Option MV} {u1 : Option MV} {u2 : Option MV} {u3 : Option MV} {xs0 : Int32} {h : MH}   (k1 : xs0.toInt = 0 → Wb rod d B_Model_land 69 [u0, u1, u2, u3] [] h Q) (k2 : ¬ xs0.toInt = 0 → Wb rod d B_Model_land 55 [u0, u1, u2, u3] [] h Q) : Wb rod d B_Model_land 52 [u0, u1, u2, u3] [.inl xs0] h Q := by
  refine Wb.br (fun _ _ => b_Model_land_52) (fun c => ?_) (fun c => ?_)
  · have c : (decide (xs0 = 0)) = true := by first | exact c | (simp only [Option.getD_some] at c; exact c)
    (first | exact (k1 (c_eqt c)) | (simp only [Option.getD_some]; exact (k1 (c_eqt c))))
  · have c : (decide (xs0 = 0)) = false := by first | exact c | (simp only [Option.getD_some] at c; exact c)
    (first | exact (k2 (c_eqf c)) | (simp only [Option.getD_some]; exact (k2 (c_eqf c))))
theorem w_Model_land_55 {rod : Nat → Nat × (Nat → Int32)} {d : Nat} {Q : Option MV → MH → Prop} {u1 : Option MV} {x2 : Int32} {x3 : Int32} {h : MH} (L : Lay h.2)  {Q1 : Option MV → MH → Prop} (c : Wc rod d 221 [.inr (.inr (.inl (some 84))), .inl x3, .inl ((x2 / (10 : Int32)) - (1 : Int32))] h Q1) (k : ∀ r1 h2, Q1 r1 h2 → Wb rod d B_Model_land 66 [some (.inr (.inr (.inl (some 84)))), u1, some (.inl x2), some (.inl x3)] (r1.toList ++ []) h2 Q) : Wb rod d B_Model_land 55 [some (.inr (.inr (.inl (some 84)))), u1, some (.inl x2), some (.inl x3)] [] h Q := by
  refine Wb.call (fun _ _ _ _ => b_Model_land_55 (by decide) (Lay.o84 L)) (Q1 := Q1) ?_ ?_
  · (first | exact c | (simp only [Option.getD_some]; exact c))
  · (first | exact k | (simp only [Option.getD_some]; exact k))
theorem w_Model_land_66 {rod : Nat → Nat × (Nat → Int32)} {d : Nat} {Q : Option MV → MH → Prop} {u0 : Option MV} {u1 : Option MV} {u2 : Option MV} {u3 : Option MV} {xs0 : Int32} {h : MH}   (k : Wb rod d B_Model_land 70 [u0, u1, u2, u3] [.inl xs0] h Q) : Wb rod d B_Model_land 66 [u0, u1, u2, u3] [.inl xs0] h Q := by
  refine Wb.go (fun r hr q => b_Model_land_66 ?_) k
  (first | exact q | (simp only [Option.getD_some]; exact q))
theorem w_Model_land_69 {rod : Nat → Nat × (Nat → Int32)} {d : Nat} {Q : Option MV → MH → Prop} {u0 : Option MV} {u1 : Option MV} {u2 : Option MV} {u3 : Option MV} {h : MH}   (k : Wb rod d B_Model_land 70 [u0, u1, u2, u3] [.inl (-1 : Int32)] h Q) : Wb rod d B_Model_land 69 [u0, u1, u2, u3] [] h Q := by
  refine Wb.go (fun r hr q => b_Model_land_69 ?_) k
  (first | exact q | (simp only [Option.getD_some]; exact q))
theorem w_Model_land_70 {rod : Nat → Nat × (Nat → Int32)} {d : Nat} {Q : Option MV → MH → Prop} {u0 : Option MV} {u1 : Option MV} {u2 : Option MV} {u3 : Option MV} {xs0 : Int32} {h : MH}   (q : Q (some (.inl xs0)) h) : Wb rod d B_Model_land 70 [u0, u1, u2, u3] [.inl xs0] h Q := by
  refine Wb.ret (b_Model_land_70) ?_
  (first | exact q | (simp only [Option.getD_some]; exact q))
theorem w_Model_land_71 {rod : Nat → Nat × (Nat → Int32)} {d : Nat} {Q : Option MV → MH → Prop} {u0 : Option MV} {u1 : Option MV} {x2 : Int32} {u3 : Option MV} {h : MH}   {Q1 : Option MV → MH → Prop} (c : Wc rod d 193 [.inl x2, .inl (60 : Int32), .inl (79 : Int32)] h Q1) (k : ∀ r1 h2, Q1 r1 h2 → Wb rod d B_Model_land 79 [u0, u1, some (.inl x2), u3] (r1.toList ++ []) h2 Q) : Wb rod d B_Model_land 71 [u0, u1, some (.inl x2), u3] [] h Q := by
  refine Wb.call (fun _ _ _ _ => b_Model_land_71) (Q1 := Q1) ?_ ?_
  · (first | exact c | (simp only [Option.getD_some]; exact c))
  · (first | exact k | (simp only [Option.getD_some]; exact k))
theorem w_Model_land_79 {rod : Nat → Nat × (Nat → Int32)} {d : Nat} {Q : Option MV → MH → Prop} {u0 : Option MV} {u1 : Option MV} {u2 : Option MV} {u3 : Option MV} {xs0 : Int32} {h : MH}   (k1 : xs0.toInt = 0 → Wb rod d B_Model_land 107 [u0, u1, u2, u3] [] h Q) (k2 : ¬ xs0.toInt = 0 → Wb rod d B_Model_land 82 [u0, u1, u2, u3] [] h Q) : Wb rod d B_Model_land 79 [u0, u1, u2, u3] [.inl xs0] h Q := by
  refine Wb.br (fun _ _ => b_Model_land_79) (fun c => ?_) (fun c => ?_)
  · have c : (decide (xs0 = 0)) = true := by first | exact c | (simp only [Option.getD_some] at c; exact c)
    (first | exact (k1 (c_eqt c)) | (simp only [Option.getD_some]; exact (k1 (c_eqt c))))
  · have c : (decide (xs0 = 0)) = false := by first | exact c | (simp only [Option.getD_some] at c; exact c)
    (first | exact (k2 (c_eqf c)) | (simp only [Option.getD_some]; exact (k2 (c_eqf c))))
theorem w_Model_land_82 {rod : Nat → Nat × (Nat → Int32)} {d : Nat} {Q : Option MV → MH → Prop} {u1 : Option MV} {u2 : Option MV} {x3 : Int32} {h : MH} (L : Lay h.2)  {Q1 : Option MV → MH → Prop} (c : Wc rod d 222 [.inr (.inr (.inl (some 84))), .inl x3] h Q1) (k : ∀ r1 h2, Q1 r1 h2 → Wb rod d B_Model_land 87 [some (.inr (.inr (.inl (some 84)))), u1, u2, some (.inl x3)] (r1.toList ++ []) h2 Q) : Wb rod d B_Model_land 82 [some (.inr (.inr (.inl (some 84)))), u1, u2, some (.inl x3)] [] h Q := by
  refine Wb.call (fun _ _ _ _ => b_Model_land_82 (Lay.o84 L)) (Q1 := Q1) ?_ ?_
  · (first | exact c | (simp only [Option.getD_some]; exact c))
  · (first | exact k | (simp only [Option.getD_some]; exact k))
theorem w_Model_land_87 {rod : Nat → Nat × (Nat → Int32)} {d : Nat} {Q : Option MV → MH → Prop} {u0 : Option MV} {u1 : Option MV} {u2 : Option MV} {u3 : Option MV} {xs0 : Int32} {h : MH}   (k1 : xs0.toInt = 0 → Wb rod d B_Model_land 105 [u0, u1, u2, u3] [] h Q) (k2 : ¬ xs0.toInt = 0 → Wb rod d B_Model_land 90 [u0, u1, u2, u3] [] h Q) : Wb rod d B_Model_land 87 [u0, u1, u2, u3] [.inl xs0] h Q := by
  refine Wb.br (fun _ _ => b_Model_land_87) (fun c => ?_) (fun c => ?_)
  · have c : (decide (xs0 = 0)) = true := by first | exact c | (simp only [Option.getD_some] at c; exact c)
    (first | exact (k1 (c_eqt c)) | (simp only [Option.getD_some]; exact (k1 (c_eqt c))))
  · have c : (decide (xs0 = 0)) = false := by first | exact c | (simp only [Option.getD_some] at c; exact c)
    (first | exact (k2 (c_eqf c)) | (simp only [Option.getD_some]; exact (k2 (c_eqf c))))
theorem w_Model_land_90 {rod : Nat → Nat × (Nat → Int32)} {d : Nat} {Q : Option MV → MH → Prop} {u1 : Option MV} {x2 : Int32} {x3 : Int32} {h : MH} (L : Lay h.2)  {Q1 : Option MV → MH → Prop} (c : Wc rod d 223 [.inr (.inr (.inl (some 84))), .inl x3, .inl ((x2 / (10 : Int32)) - (6 : Int32))] h Q1) (k : ∀ r1 h2, Q1 r1 h2 → Wb rod d B_Model_land 102 [some (.inr (.inr (.inl (some 84)))), u1, some (.inl x2), some (.inl x3)] (r1.toList ++ []) h2 Q) : Wb rod d B_Model_land 90 [some (.inr (.inr (.inl (some 84)))), u1, some (.inl x2), some (.inl x3)] [] h Q := by
  refine Wb.call (fun _ _ _ _ => b_Model_land_90 (by decide) (Lay.o84 L)) (Q1 := Q1) ?_ ?_
  · (first | exact c | (simp only [Option.getD_some]; exact c))
  · (first | exact k | (simp only [Option.getD_some]; exact k))
theorem w_Model_land_102 {rod : Nat → Nat × (Nat → Int32)} {d : Nat} {Q : Option MV → MH → Prop} {u0 : Option MV} {u1 : Option MV} {u2 : Option MV} {u3 : Option MV} {xs0 : Int32} {h : MH}   (k : Wb rod d B_Model_land 106 [u0, u1, u2, u3] [.inl xs0] h Q) : Wb rod d B_Model_land 102 [u0, u1, u2, u3] [.inl xs0] h Q := by
  refine Wb.go (fun r hr q => b_Model_land_102 ?_) k
  (first | exact q | (simp only [Option.getD_some]; exact q))
theorem w_Model_land_105 {rod : Nat → Nat × (Nat → Int32)} {d : Nat} {Q : Option MV → MH → Prop} {u0 : Option MV} {u1 : Option MV} {u2 : Option MV} {u3 : Option MV} {h : MH}   (k : Wb rod d B_Model_land 106 [u0, u1, u2, u3] [.inl (-1 : Int32)] h Q) : Wb rod d B_Model_land 105 [u0, u1, u2, u3] [] h Q := by
  refine Wb.go (fun r hr q => b_Model_land_105 ?_) k
  (first | exact q | (simp only [Option.getD_some]; exact q))
theorem w_Model_land_106 {rod : Nat → Nat × (Nat → Int32)} {d : Nat} {Q : Option MV → MH → Prop} {u0 : Option MV} {u1 : Option MV} {u2 : Option MV} {u3 : Option MV} {xs0 : Int32} {h : MH}   (q : Q (some (.inl xs0)) h) : Wb rod d B_Model_land 106 [u0, u1, u2, u3] [.inl xs0] h Q := by
  refine Wb.ret (b_Model_land_106) ?_
  (first | exact q | (simp only [Option.getD_some]; exact q))
theorem w_Model_land_107 {rod : Nat → Nat × (Nat → Int32)} {d : Nat} {Q : Option MV → MH → Prop} {u0 : Option MV} {u1 : Option MV} {x2 : Int32} {u3 : Option MV} {h : MH}   {Q1 : Option MV → MH → Prop} (c : Wc rod d 193 [.inl x2, .inl (100 : Int32), .inl (135 : Int32)] h Q1) (k : ∀ r1 h2, Q1 r1 h2 → Wb rod d B_Model_land 116 [u0, u1, some (.inl x2), u3] (r1.toList ++ []) h2 Q) : Wb rod d B_Model_land 107 [u0, u1, some (.inl x2), u3] [] h Q := by
  refine Wb.call (fun _ _ _ _ => b_Model_land_107) (Q1 := Q1) ?_ ?_
  · (first | exact c | (simp only [Option.getD_some]; exact c))
  · (first | exact k | (simp only [Option.getD_some]; exact k))
theorem w_Model_land_116 {rod : Nat → Nat × (Nat → Int32)} {d : Nat} {Q : Option MV → MH → Prop} {u0 : Option MV} {u1 : Option MV} {u2 : Option MV} {u3 : Option MV} {xs0 : Int32} {h : MH}   (k1 : ¬ xs0.toInt = 0 → Wb rod d B_Model_land 121 [u0, u1, u2, u3] [] h Q) (k2 : xs0.toInt = 0 → Wb rod d B_Model_land 119 [u0, u1, u2, u3] [] h Q) : Wb rod d B_Model_land 116 [u0, u1, u2, u3] [.inl xs0] h Q := by
  refine Wb.br (fun _ _ => b_Model_land_116) (fun c => ?_) (fun c => ?_)
  · have c : (!(decide (xs0 = 0))) = true := by first | exact c | (simp only [Option.getD_some] at c; exact c)
    (first | exact (k1 (c_net c)) | (simp only [Option.getD_some]; exact (k1 (c_net c))))
  · have c : (!(decide (xs0 = 0))) = false := by first | exact c | (simp only [Option.getD_some] at c; exact c)
    (first | exact (k2 (c_nef c)) | (simp only [Option.getD_some]; exact (k2 (c_nef c))))
theorem w_Model_land_119 {rod : Nat → Nat × (Nat → Int32)} {d : Nat} {Q : Option MV → MH → Prop} {u0 : Option MV} {u1 : Option MV} {u2 : Option MV} {u3 : Option MV} {h : MH}   (q : Q (some (.inl (-1 : Int32))) h) : Wb rod d B_Model_land 119 [u0, u1, u2, u3] [] h Q := by
  refine Wb.ret (b_Model_land_119) ?_
  (first | exact q | (simp only [Option.getD_some]; exact q))
theorem w_Model_land_121 {rod : Nat → Nat × (Nat → Int32)} {d : Nat} {Q : Option MV → MH → Prop} {u1 : Option MV} {x2 : Int32} {u3 : Option MV} {h : MH} (L : Lay h.2)  {Q1 : Option MV → MH → Prop} (c : Wc rod d 224 [.inr (.inr (.inl (some 84))), .inl ((x2 - (100 : Int32)) / (6 : Int32))] h Q1) (k : ∀ r1 h2, Q1 r1 h2 → Wb rod d B_Model_land 132 [some (.inr (.inr (.inl (some 84)))), u1, some (.inl x2), u3] (r1.toList ++ []) h2 Q) : Wb rod d B_Model_land 121 [some (.inr (.inr (.inl (some 84)))), u1, some (.inl x2), u3] [] h Q := by
  refine Wb.call (fun _ _ _ _ => b_Model_land_121 (by decide) (Lay.o84 L)) (Q1 := Q1) ?_ ?_
  · (first | exact c | (simp only [Option.getD_some]; exact c))
  · (first | exact k | (simp only [Option.getD_some]; exact k))
theorem w_Model_land_132 {rod : Nat → Nat × (Nat → Int32)} {d : Nat} {Q : Option MV → MH → Prop} {u0 : Option MV} {u1 : Option MV} {u2 : Option MV} {u3 : Option MV} {xs0 : Int32} {h : MH}   (k1 : xs0.toInt = 0 → Wb rod d B_Model_land 170 [u0, u1, u2, u3] [] h Q) (k2 : ¬ xs0.toInt = 0 → Wb rod d B_Model_land 135 [u0, u1, u2, u3] [] h Q) : Wb rod d B_Model_land 132 [u0, u1, u2, u3] [.inl xs0] h Q := by
  refine Wb.br (fun _ _ => b_Model_land_132) (fun c => ?_) (fun c => ?_)
  · have c : (decide (xs0 = 0)) = true := by first | exact c | (simp only [Option.getD_some] at c; exact c)
    (first | exact (k1 (c_eqt c)) | (simp only [Option.getD_some]; exact (k1 (c_eqt c))))
  · have c : (decide (xs0 = 0)) = false := by first | exact c | (simp only [Option.getD_some] at c; exact c)
    (first | exact (k2 (c_eqf c)) | (simp only [Option.getD_some]; exact (k2 (c_eqf c))))
theorem w_Model_land_135 {rod : Nat → Nat × (Nat → Int32)} {d : Nat} {Q : Option MV → MH → Prop} {u1 : Option MV} {x2 : Int32} {u3 : Option MV} {h : MH} (L : Lay h.2)  {Q1 : Option MV → MH → Prop} (c : Wc rod d 224 [.inr (.inr (.inl (some 84))), .inl ((x2 - (100 : Int32)) - (x2 - (100 : Int32)) / (6 : Int32) * (6 : Int32))] h Q1) (k : ∀ r1 h2, Q1 r1 h2 → Wb rod d B_Model_land 146 [some (.inr (.inr (.inl (some 84)))), u1, some (.inl x2), u3] (r1.toList ++ []) h2 Q) : Wb rod d B_Model_land 135 [some (.inr (.inr (.inl (some 84)))), u1, some (.inl x2), u3] [] h Q := by
  refine Wb.call (fun _ _ _ _ => b_Model_land_135 (by decide) (Lay.o84 L)) (Q1 := Q1) ?_ ?_
  · (first | exact c | (simp only [Option.getD_some]; exact c))
  · (first | exact k | (simp only [Option.getD_some]; exact k))
theorem w_Model_land_146 {rod : Nat → Nat × (Nat → Int32)} {d : Nat} {Q : Option MV → MH → Prop} {u0 : Option MV} {u1 : Option MV} {u2 : Option MV} {u3 : Option MV} {xs0 : Int32} {h : MH}   (k1 : xs0.toInt = 0 → Wb rod d B_Model_land 170 [u0, u1, u2, u3] [] h Q) (k2 : ¬ xs0.toInt = 0 → Wb rod d B_Model_land 149 [u0, u1, u2, u3] [] h Q) : Wb rod d B_Model_land 146 [u0, u1, u2, u3] [.inl xs0] h Q := by
  refine Wb.br (fun _ _ => b_Model_land_146) (fun c => ?_) (fun c => ?_)
  · have c : (decide (xs0 = 0)) = true := by first | exact c | (simp only [Option.getD_some] at c; exact c)
    (first | exact (k1 (c_eqt c)) | (simp only [Option.getD_some]; exact (k1 (c_eqt c))))
  · have c : (decide (xs0 = 0)) = false := by first | exact c | (simp only [Option.getD_some] at c; exact c)
    (first | exact (k2 (c_eqf c)) | (simp only [Option.getD_some]; exact (k2 (c_eqf c))))
theorem w_Model_land_149 {rod : Nat → Nat × (Nat → Int32)} {d : Nat} {Q : Option MV → MH → Prop} {u1 : Option MV} {x2 : Int32} {u3 : Option MV} {h : MH} (L : Lay h.2)  {Q1 : Option MV → MH → Prop} (c : Wc rod d 225 [.inr (.inr (.inl (some 84))), .inl ((x2 - (100 : Int32)) / (6 : Int32)), .inl ((x2 - (100 : Int32)) - (x2 - (100 : Int32)) / (6 : Int32) * (6 : Int32))] h Q1) (k : ∀ r1 h2, Q1 r1 h2 → Wb rod d B_Model_land 167 [some (.inr (.inr (.inl (some 84)))), u1, some (.inl x2), u3] (r1.toList ++ []) h2 Q) : Wb rod d B_Model_land 149 [some (.inr (.inr (.inl (some 84)))), u1, some (.inl x2), u3] [] h Q := by
  refine Wb.call (fun _ _ _ _ => b_Model_land_149 (by decide) (Lay.o84 L)) (Q1 := Q1) ?_ ?_
  · (first | exact c | (simp only [Option.getD_some]; exact c))
  · (first | exact k | (simp only [Option.getD_some]; exact k))
theorem w_Model_land_167 {rod : Nat → Nat × (Nat → Int32)} {d : Nat} {Q : Option MV → MH → Prop} {u0 : Option MV} {u1 : Option MV} {u2 : Option MV} {u3 : Option MV} {xs0 : Int32} {h : MH}   (k : Wb rod d B_Model_land 171 [u0, u1, u2, u3] [.inl xs0] h Q) : Wb rod d B_Model_land 167 [u0, u1, u2, u3] [.inl xs0] h Q := by
  refine Wb.go (fun r hr q => b_Model_land_167 ?_) k
  (first | exact q | (simp only [Option.getD_some]; exact q))
theorem w_Model_land_170 {rod : Nat → Nat × (Nat → Int32)} {d : Nat} {Q : Option MV → MH → Prop} {u0 : Option MV} {u1 : Option MV} {u2 : Option MV} {u3 : Option MV} {h : MH}   (k : Wb rod d B_Model_land 171 [u0, u1, u2, u3] [.inl (-1 : Int32)] h Q) : Wb rod d B_Model_land 170 [u0, u1, u2, u3] [] h Q := by
  refine Wb.go (fun r hr q => b_Model_land_170 ?_) k
  (first | exact q | (simp only [Option.getD_some]; exact q))
theorem w_Model_land_171 {rod : Nat → Nat × (Nat → Int32)} {d : Nat} {Q : Option MV → MH → Prop} {u0 : Option MV} {u1 : Option MV} {u2 : Option MV} {u3 : Option MV} {xs0 : Int32} {h : MH}   (q : Q (some (.inl xs0)) h) : Wb rod d B_Model_land 171 [u0, u1, u2, u3] [.inl xs0] h Q := by
  refine Wb.ret (b_Model_land_171) ?_
  (first | exact q | (simp only [Option.getD_some]; exact q))
theorem n_Model_isLand {rod : Nat → Nat × (Nat → Int32)} {d : Nat} {Q : Option MV → MH → Prop} {x1 : Int32} {h : MH} (k : Wb rod d B_Model_isLand 0 [some (.inr (.inr (.inl (some 84)))), some (.inl x1)] [] h Q) : Wc rod (d + 1) 219 [.inr (.inr (.inl (some 84))), .inl x1] h Q := Wc.en (fun _ _ => e_Model_isLand) k
theorem w_Model_isLand_0 {rod : Nat → Nat × (Nat → Int32)} {d : Nat} {Q : Option MV → MH → Prop} {x1 : Int32} {h : MH} (L : Lay h.2)  {Q1 : Option MV → MH → Prop} (c : Wc rod d 194 [.inr (.inr (.inl (some 84))), .inl (0 : Int32), .inl x1] h Q1) (k : ∀ r1 h2, Q1 r1 h2 → Wb rod d B_Model_isLand 6 [some (.inr (.inr (.inl (some 84)))), some (.inl x1)] (r1.toList ++ []) h2 Q) : Wb rod d B_Model_isLand 0 [some (.inr (.inr (.inl (some 84)))), some (.inl x1)] [] h Q := by
  refine Wb.call (fun _ _ _ _ => b_Model_isLand_0 (Lay.o84 L)) (Q1 := Q1) ?_ ?_
  · (first | exact c | (simp only [Option.getD_some]; exact c))
  · (first | exact k | (simp only [Option.getD_some]; exact k))
theorem w_Model_isLand_6 {rod : Nat → Nat × (Nat → Int32)} {d : Nat} {Q : Option MV → MH → Prop} {u0 : Option MV} {u1 : Option MV} {xs0 : Int32} {h : MH}   (k1 : ¬ xs0.toInt = 0 → Wb rod d B_Model_isLand 11 [u0, u1] [] h Q) (k2 : xs0.toInt = 0 → Wb rod d B_Model_isLand 9 [u0, u1] [] h Q) : Wb rod d B_Model_isLand 6 [u0, u1] [.inl xs0] h Q := by
  refine Wb.br (fun _ _ => b_Model_isLand_6) (fun c => ?_) (fun c => ?_)
  · have c : (!(decide (xs0 = 0))) = true := by first | exact c | (simp only [Option.getD_some] at c; exact c)
    (first | exact (k1 (c_net c)) | (simp only [Option.getD_some]; exact (k1 (c_net c))))
  · have c : (!(decide (xs0 = 0))) = false := by first | exact c | (simp only [Option.getD_some] at c; exact c)
    (first | exact (k2 (c_nef c)) | (simp only [Option.getD_some]; exact (k2 (c_nef c))))
theorem w_Model_isLand_9 {rod : Nat → Nat × (Nat → Int32)} {d : Nat} {Q : Option MV → MH → Prop} {u0 : Option MV} {u1 : Option MV} {h : MH}   (q : Q (some (.inl (0 : Int32))) h) : Wb rod d B_Model_isLand 9 [u0, u1] [] h Q := by
  refine Wb.ret (b_Model_isLand_9) ?_
  (first | exact q | (simp only [Option.getD_some]; exact q))
theorem w_Model_isLand_11 {rod : Nat → Nat × (Nat → Int32)} {d : Nat} {Q : Option MV → MH → Prop} {x1 : Int32} {h : MH}   {Q1 : Option MV → MH → Prop} (c : Wc rod d 216 [.inl (0 : Int32), .inl x1] h Q1) (k : ∀ r1 h2, Q1 r1 h2 → Wb rod d B_Model_isLand 17 [some (.inr (.inr (.inl (some 84)))), some (.inl x1)] (r1.toList ++ [.inr (.inr (.inl (some 84)))]) h2 Q) : Wb rod d B_Model_isLand 11 [some (.inr (.inr (.inl (some 84)))), some (.inl x1)] [] h Q := by
  refine Wb.call (fun _ _ _ _ => b_Model_isLand_11) (Q1 := Q1) ?_ ?_
  · (first | exact c | (simp only [Option.getD_some]; exact c))
  · (first | exact k | (simp only [Option.getD_some]; exact k))
theorem w_Model_isLand_17 {rod : Nat → Nat × (Nat → Int32)} {d : Nat} {Q : Option MV → MH → Prop} {u0 : Option MV} {u1 : Option MV} {xs1 : Int32} {h : MH} (L : Lay h.2)  (k : Wb rod d B_Model_isLand 20 [u0, u1] [] (sI h 84 12 xs1) Q) : Wb rod d B_Model_isLand 17 [u0, u1] [.inl xs1, .inr (.inr (.inl (some 84)))] h Q := by
  refine Wb.go (fun r hr q => b_Model_isLand_17 (Lay.o84 L) ?_) k
  (first | exact q | (simp only [Option.getD_some]; exact q))
theorem w_Model_isLand_20 {rod : Nat → Nat × (Nat → Int32)} {d : Nat} {Q : Option MV → MH → Prop} {u1 : Option MV} {h : MH} (L : Lay h.2) (g0 : 0 ≤ (h.1 84 12).toInt ∧ (h.1 84 12).toInt < 4584) (k : Wb rod d B_Model_isLand 33 [some (.inr (.inr (.inl (some 84)))), u1] [] (sI h 84 13 (h.1 85 (h.1 84 12).toNatClampNeg)) Q) : Wb rod d B_Model_isLand 20 [some (.inr (.inr (.inl (some 84)))), u1] [] h Q := by
  refine Wb.go (fun r hr q => b_Model_isLand_20 (Lay.o84 L) (Lay.a84_0 L (by first | exact g0 | (simp only [Option.getD_some, (Lay.r84_0 L)]; exact g0))) ?_) k
  (first | exact q | (simp only [Option.getD_some, (Lay.r84_0 L)]; exact q))
theorem w_Model_isLand_33 {rod : Nat → Nat × (Nat → Int32)} {d : Nat} {Q : Option MV → MH → Prop} {u1 : Option MV} {h : MH} (L : Lay h.2) (g0 : 0 ≤ ((h.1 84 12) + (1 : Int32)).toInt ∧ ((h.1 84 12) + (1 : Int32)).toInt < 4584) (k : Wb rod d B_Model_isLand 48 [some (.inr (.inr (.inl (some 84)))), u1] [] (sI h 84 14 (h.1 85 ((h.1 84 12) + (1 : Int32)).toNatClampNeg)) Q) : Wb rod d B_Model_isLand 33 [some (.inr (.inr (.inl (some 84)))), u1] [] h Q := by
  refine Wb.go (fun r hr q => b_Model_isLand_33 (Lay.o84 L) (Lay.a84_0 L (by first | exact g0 | (simp only [Option.getD_some, (Lay.r84_0 L)]; exact g0))) ?_) k
  (first | exact q | (simp only [Option.getD_some, (Lay.r84_0 L)]; exact q))
theorem w_Model_isLand_48 {rod : Nat → Nat × (Nat → Int32)} {d : Nat} {Q : Option MV → MH → Prop} {u1 : Option MV} {h : MH} (L : Lay h.2) (g0 : 0 ≤ ((h.1 84 12) + (2 : Int32)).toInt ∧ ((h.1 84 12) + (2 : Int32)).toInt < 4584) (k : Wb rod d B_Model_isLand 63 [some (.inr (.inr (.inl (some 84)))), u1] [] (sI h 84 15 (h.1 85 ((h.1 84 12) + (2 : Int32)).toNatClampNeg)) Q) : Wb rod d B_Model_isLand 48 [some (.inr (.inr (.inl (some 84)))), u1] [] h Q := by
  refine Wb.go (fun r hr q => b_Model_isLand_48 (Lay.o84 L) (Lay.a84_0 L (by first | exact g0 | (simp only [Option.getD_some, (Lay.r84_0 L)]; exact g0))) ?_) k
  (first | exact q | (simp only [Option.getD_some, (Lay.r84_0 L)]; exact q))
theorem w_Model_isLand_63 {rod : Nat → Nat × (Nat → Int32)} {d : Nat} {Q : Option MV → MH → Prop} {u0 : Option MV} {u1 : Option MV} {h : MH}   (q : Q (some (.inl (1 : Int32))) h) : Wb rod d B_Model_isLand 63 [u0, u1] [] h Q := by
  refine Wb.ret (b_Model_isLand_63) ?_
  (first | exact q | (simp only [Option.getD_some]; exact q))
theorem n_Model_isBuyer {rod : Nat → Nat × (Nat → Int32)} {d : Nat} {Q : Option MV → MH → Prop} {x1 : Int32} {h : MH} (k : Wb rod d B_Model_isBuyer 0 [some (.inr (.inr (.inl (some 84)))), some (.inl x1)] [] h Q) : Wc rod (d + 1) 220 [.inr (.inr (.inl (some 84))), .inl x1] h Q := Wc.en (fun _ _ => e_Model_isBuyer) k
theorem w_Model_isBuyer_0 {rod : Nat → Nat × (Nat → Int32)} {d : Nat} {Q : Option MV → MH → Prop} {x1 : Int32} {h : MH} (L : Lay h.2)  {Q1 : Option MV → MH → Prop} (c : Wc rod d 193 [.inl x1, .inl (0 : Int32), .inl ((h.1 84 14) - (1 : Int32))] h Q1) (k : ∀ r1 h2, Q1 r1 h2 → Wb rod d B_Model_isBuyer 11 [some (.inr (.inr (.inl (some 84)))), some (.inl x1)] (r1.toList ++ []) h2 Q) : Wb rod d B_Model_isBuyer 0 [some (.inr (.inr (.inl (some 84)))), some (.inl x1)] [] h Q := by
  refine Wb.call (fun _ _ _ _ => b_Model_isBuyer_0 (Lay.o84 L)) (Q1 := Q1) ?_ ?_
  · (first | exact c | (simp only [Option.getD_some]; exact c))
  · (first | exact k | (simp only [Option.getD_some]; exact k))
theorem w_Model_isBuyer_11 {rod : Nat → Nat × (Nat → Int32)} {d : Nat} {Q : Option MV → MH → Prop} {u0 : Option MV} {u1 : Option MV} {xs0 : Int32} {h : MH}  (g0 : xs0 = 0 ∨ xs0 = 1) (q : Q (some (.inl xs0)) h) : Wb rod d B_Model_isBuyer 11 [u0, u1] [.inl xs0] h Q := by
  refine Wb.ret (b_Model_isBuyer_11 (d01 g0)) ?_
  (first | exact q | (simp only [Option.getD_some]; exact q))
theorem n_Model_of {rod : Nat → Nat × (Nat → Int32)} {d : Nat} {Q : Option MV → MH → Prop} {x1 : Int32} {x2 : Int32} {h : MH} (k : Wb rod d B_Model_of 0 [some (.inr (.inr (.inl (some 84)))), some (.inl x1), some (.inl x2)] [] h Q) : Wc rod (d + 1) 221 [.inr (.inr (.inl (some 84))), .inl x1, .inl x2] h Q := Wc.en (fun _ _ => e_Model_of) k
theorem w_Model_of_0 {rod : Nat → Nat × (Nat → Int32)} {d : Nat} {Q : Option MV → MH → Prop} {x1 : Int32} {x2 : Int32} {h : MH} (L : Lay h.2) (g0 : 0 ≤ ((((h.1 84 12) + (6 : Int32)) + ((5 : Int32) * x1)) + x2).toInt ∧ ((((h.1 84 12) + (6 : Int32)) + ((5 : Int32) * x1)) + x2).toInt < 4584) (q : Q (some (.inl (h.1 85 ((((h.1 84 12) + (6 : Int32)) + ((5 : Int32) * x1)) + x2).toNatClampNeg))) h) : Wb rod d B_Model_of 0 [some (.inr (.inr (.inl (some 84)))), some (.inl x1), some (.inl x2)] [] h Q := by
  refine Wb.ret (b_Model_of_0 (Lay.o84 L) (Lay.a84_0 L (by first | exact g0 | (simp only [Option.getD_some, (Lay.r84_0 L)]; exact g0)))) ?_
  (first | exact q | (simp only [Option.getD_some, (Lay.r84_0 L)]; exact q))
theorem n_Model_isSheet {rod : Nat → Nat × (Nat → Int32)} {d : Nat} {Q : Option MV → MH → Prop} {x1 : Int32} {h : MH} (k : Wb rod d B_Model_isSheet 0 [some (.inr (.inr (.inl (some 84)))), some (.inl x1)] [] h Q) : Wc rod (d + 1) 222 [.inr (.inr (.inl (some 84))), .inl x1] h Q := Wc.en (fun _ _ => e_Model_isSheet) k
theorem w_Model_isSheet_0 {rod : Nat → Nat × (Nat → Int32)} {d : Nat} {Q : Option MV → MH → Prop} {x1 : Int32} {h : MH} (L : Lay h.2)  {Q1 : Option MV → MH → Prop} (c : Wc rod d 193 [.inl x1, .inl (0 : Int32), .inl ((h.1 84 15) - (1 : Int32))] h Q1) (k : ∀ r1 h2, Q1 r1 h2 → Wb rod d B_Model_isSheet 11 [some (.inr (.inr (.inl (some 84)))), some (.inl x1)] (r1.toList ++ []) h2 Q) : Wb rod d B_Model_isSheet 0 [some (.inr (.inr (.inl (some 84)))), some (.inl x1)] [] h Q := by
  refine Wb.call (fun _ _ _ _ => b_Model_isSheet_0 (Lay.o84 L)) (Q1 := Q1) ?_ ?_
  · (first | exact c | (simp only [Option.getD_some]; exact c))
  · (first | exact k | (simp only [Option.getD_some]; exact k))
theorem w_Model_isSheet_11 {rod : Nat → Nat × (Nat → Int32)} {d : Nat} {Q : Option MV → MH → Prop} {u0 : Option MV} {u1 : Option MV} {xs0 : Int32} {h : MH}  (g0 : xs0 = 0 ∨ xs0 = 1) (q : Q (some (.inl xs0)) h) : Wb rod d B_Model_isSheet 11 [u0, u1] [.inl xs0] h Q := by
  refine Wb.ret (b_Model_isSheet_11 (d01 g0)) ?_
  (first | exact q | (simp only [Option.getD_some]; exact q))
theorem n_Model_ofLetter {rod : Nat → Nat × (Nat → Int32)} {d : Nat} {Q : Option MV → MH → Prop} {x1 : Int32} {x2 : Int32} {h : MH} (k : Wb rod d B_Model_ofLetter 0 [some (.inr (.inr (.inl (some 84)))), some (.inl x1), some (.inl x2)] [] h Q) : Wc rod (d + 1) 223 [.inr (.inr (.inl (some 84))), .inl x1, .inl x2] h Q := Wc.en (fun _ _ => e_Model_ofLetter) k
theorem w_Model_ofLetter_0 {rod : Nat → Nat × (Nat → Int32)} {d : Nat} {Q : Option MV → MH → Prop} {x1 : Int32} {x2 : Int32} {h : MH} (L : Lay h.2) (g0 : 0 ≤ ((((h.1 84 12) + (46 : Int32)) + ((2 : Int32) * x1)) + x2).toInt ∧ ((((h.1 84 12) + (46 : Int32)) + ((2 : Int32) * x1)) + x2).toInt < 4584) (q : Q (some (.inl (h.1 85 ((((h.1 84 12) + (46 : Int32)) + ((2 : Int32) * x1)) + x2).toNatClampNeg))) h) : Wb rod d B_Model_ofLetter 0 [some (.inr (.inr (.inl (some 84)))), some (.inl x1), some (.inl x2)] [] h Q := by
  refine Wb.ret (b_Model_ofLetter_0 (Lay.o84 L) (Lay.a84_0 L (by first | exact g0 | (simp only [Option.getD_some, (Lay.r84_0 L)]; exact g0)))) ?_
  (first | exact q | (simp only [Option.getD_some, (Lay.r84_0 L)]; exact q))
theorem n_Model_isTown {rod : Nat → Nat × (Nat → Int32)} {d : Nat} {Q : Option MV → MH → Prop} {x1 : Int32} {h : MH} (k : Wb rod d B_Model_isTown 0 [some (.inr (.inr (.inl (some 84)))), some (.inl x1)] [] h Q) : Wc rod (d + 1) 224 [.inr (.inr (.inl (some 84))), .inl x1] h Q := Wc.en (fun _ _ => e_Model_isTown) k
theorem w_Model_isTown_0 {rod : Nat → Nat × (Nat → Int32)} {d : Nat} {Q : Option MV → MH → Prop} {x1 : Int32} {h : MH} (L : Lay h.2)  {Q1 : Option MV → MH → Prop} (c : Wc rod d 193 [.inl x1, .inl (0 : Int32), .inl ((h.1 84 13) - (1 : Int32))] h Q1) (k : ∀ r1 h2, Q1 r1 h2 → Wb rod d B_Model_isTown 11 [some (.inr (.inr (.inl (some 84)))), some (.inl x1)] (r1.toList ++ []) h2 Q) : Wb rod d B_Model_isTown 0 [some (.inr (.inr (.inl (some 84)))), some (.inl x1)] [] h Q := by
  refine Wb.call (fun _ _ _ _ => b_Model_isTown_0 (Lay.o84 L)) (Q1 := Q1) ?_ ?_
  · (first | exact c | (simp only [Option.getD_some]; exact c))
  · (first | exact k | (simp only [Option.getD_some]; exact k))
theorem w_Model_isTown_11 {rod : Nat → Nat × (Nat → Int32)} {d : Nat} {Q : Option MV → MH → Prop} {u0 : Option MV} {u1 : Option MV} {xs0 : Int32} {h : MH}  (g0 : xs0 = 0 ∨ xs0 = 1) (q : Q (some (.inl xs0)) h) : Wb rod d B_Model_isTown 11 [u0, u1] [.inl xs0] h Q := by
  refine Wb.ret (b_Model_isTown_11 (d01 g0)) ?_
  (first | exact q | (simp only [Option.getD_some]; exact q))
theorem n_Model_road {rod : Nat → Nat × (Nat → Int32)} {d : Nat} {Q : Option MV → MH → Prop} {x1 : Int32} {x2 : Int32} {h : MH} (k : Wb rod d B_Model_road 0 [some (.inr (.inr (.inl (some 84)))), some (.inl x1), some (.inl x2)] [] h Q) : Wc rod (d + 1) 225 [.inr (.inr (.inl (some 84))), .inl x1, .inl x2] h Q := Wc.en (fun _ _ => e_Model_road) k
theorem w_Model_road_0 {rod : Nat → Nat × (Nat → Int32)} {d : Nat} {Q : Option MV → MH → Prop} {x1 : Int32} {x2 : Int32} {h : MH} (L : Lay h.2) (g0 : 0 ≤ ((((h.1 84 12) + (54 : Int32)) + ((6 : Int32) * x1)) + x2).toInt ∧ ((((h.1 84 12) + (54 : Int32)) + ((6 : Int32) * x1)) + x2).toInt < 4584) (q : Q (some (.inl (h.1 85 ((((h.1 84 12) + (54 : Int32)) + ((6 : Int32) * x1)) + x2).toNatClampNeg))) h) : Wb rod d B_Model_road 0 [some (.inr (.inr (.inl (some 84)))), some (.inl x1), some (.inl x2)] [] h Q := by
  refine Wb.ret (b_Model_road_0 (Lay.o84 L) (Lay.a84_0 L (by first | exact g0 | (simp only [Option.getD_some, (Lay.r84_0 L)]; exact g0)))) ?_
  (first | exact q | (simp only [Option.getD_some, (Lay.r84_0 L)]; exact q))
theorem n_Model_takes {rod : Nat → Nat × (Nat → Int32)} {d : Nat} {Q : Option MV → MH → Prop} {x1 : Int32} {x2 : Int32} {x3 : Int32} {x4 : Int32} {h : MH} (k : Wb rod d B_Model_takes 0 [some (.inr (.inr (.inl (some 84)))), some (.inl x1), some (.inl x2), some (.inl x3), some (.inl x4)] [] h Q) : Wc rod (d + 1) 226 [.inr (.inr (.inl (some 84))), .inl x1, .inl x2, .inl x3, .inl x4] h Q := Wc.en (fun _ _ => e_Model_takes) k
theorem w_Model_takes_0 {rod : Nat → Nat × (Nat → Int32)} {d : Nat} {Q : Option MV → MH → Prop} {x1 : Int32} {u2 : Option MV} {u3 : Option MV} {u4 : Option MV} {h : MH} (L : Lay h.2)  {Q1 : Option MV → MH → Prop} (c : Wc rod d 219 [.inr (.inr (.inl (some 84))), .inl x1] h Q1) (k : ∀ r1 h2, Q1 r1 h2 → Wb rod d B_Model_takes 5 [some (.inr (.inr (.inl (some 84)))), some (.inl x1), u2, u3, u4] (r1.toList ++ []) h2 Q) : Wb rod d B_Model_takes 0 [some (.inr (.inr (.inl (some 84)))), some (.inl x1), u2, u3, u4] [] h Q := by
  refine Wb.call (fun _ _ _ _ => b_Model_takes_0 (Lay.o84 L)) (Q1 := Q1) ?_ ?_
  · (first | exact c | (simp only [Option.getD_some]; exact c))
  · (first | exact k | (simp only [Option.getD_some]; exact k))
theorem w_Model_takes_5 {rod : Nat → Nat × (Nat → Int32)} {d : Nat} {Q : Option MV → MH → Prop} {u0 : Option MV} {u1 : Option MV} {u2 : Option MV} {u3 : Option MV} {u4 : Option MV} {xs0 : Int32} {h : MH}   (k1 : xs0.toInt = 0 → Wb rod d B_Model_takes 37 [u0, u1, u2, u3, u4] [] h Q) (k2 : ¬ xs0.toInt = 0 → Wb rod d B_Model_takes 8 [u0, u1, u2, u3, u4] [] h Q) : Wb rod d B_Model_takes 5 [u0, u1, u2, u3, u4] [.inl xs0] h Q := by
  refine Wb.br (fun _ _ => b_Model_takes_5) (fun c => ?_) (fun c => ?_)
  · have c : (decide (xs0 = 0)) = true := by first | exact c | (simp only [Option.getD_some] at c; exact c)
    (first | exact (k1 (c_eqt c)) | (simp only [Option.getD_some]; exact (k1 (c_eqt c))))
  · have c : (decide (xs0 = 0)) = false := by first | exact c | (simp only [Option.getD_some] at c; exact c)
    (first | exact (k2 (c_eqf c)) | (simp only [Option.getD_some]; exact (k2 (c_eqf c))))
theorem w_Model_takes_8 {rod : Nat → Nat × (Nat → Int32)} {d : Nat} {Q : Option MV → MH → Prop} {u1 : Option MV} {x2 : Int32} {u3 : Option MV} {u4 : Option MV} {h : MH} (L : Lay h.2)  {Q1 : Option MV → MH → Prop} (c : Wc rod d 220 [.inr (.inr (.inl (some 84))), .inl x2] h Q1) (k : ∀ r1 h2, Q1 r1 h2 → Wb rod d B_Model_takes 13 [some (.inr (.inr (.inl (some 84)))), u1, some (.inl x2), u3, u4] (r1.toList ++ []) h2 Q) : Wb rod d B_Model_takes 8 [some (.inr (.inr (.inl (some 84)))), u1, some (.inl x2), u3, u4] [] h Q := by
  refine Wb.call (fun _ _ _ _ => b_Model_takes_8 (Lay.o84 L)) (Q1 := Q1) ?_ ?_
  · (first | exact c | (simp only [Option.getD_some]; exact c))
  · (first | exact k | (simp only [Option.getD_some]; exact k))
theorem w_Model_takes_13 {rod : Nat → Nat × (Nat → Int32)} {d : Nat} {Q : Option MV → MH → Prop} {u0 : Option MV} {u1 : Option MV} {u2 : Option MV} {u3 : Option MV} {u4 : Option MV} {xs0 : Int32} {h : MH}   (k1 : xs0.toInt = 0 → Wb rod d B_Model_takes 37 [u0, u1, u2, u3, u4] [] h Q) (k2 : ¬ xs0.toInt = 0 → Wb rod d B_Model_takes 16 [u0, u1, u2, u3, u4] [] h Q) : Wb rod d B_Model_takes 13 [u0, u1, u2, u3, u4] [.inl xs0] h Q := by
  refine Wb.br (fun _ _ => b_Model_takes_13) (fun c => ?_) (fun c => ?_)
  · have c : (decide (xs0 = 0)) = true := by first | exact c | (simp only [Option.getD_some] at c; exact c)
    (first | exact (k1 (c_eqt c)) | (simp only [Option.getD_some]; exact (k1 (c_eqt c))))
  · have c : (decide (xs0 = 0)) = false := by first | exact c | (simp only [Option.getD_some] at c; exact c)
    (first | exact (k2 (c_eqf c)) | (simp only [Option.getD_some]; exact (k2 (c_eqf c))))
theorem w_Model_takes_16 {rod : Nat → Nat × (Nat → Int32)} {d : Nat} {Q : Option MV → MH → Prop} {u0 : Option MV} {u1 : Option MV} {u2 : Option MV} {x3 : Int32} {u4 : Option MV} {h : MH}   {Q1 : Option MV → MH → Prop} (c : Wc rod d 193 [.inl x3, .inl (1 : Int32), .inl (60 : Int32)] h Q1) (k : ∀ r1 h2, Q1 r1 h2 → Wb rod d B_Model_takes 23 [u0, u1, u2, some (.inl x3), u4] (r1.toList ++ []) h2 Q) : Wb rod d B_Model_takes 16 [u0, u1, u2, some (.inl x3), u4] [] h Q := by
  refine Wb.call (fun _ _ _ _ => b_Model_takes_16) (Q1 := Q1) ?_ ?_
  · (first | exact c | (simp only [Option.getD_some]; exact c))
  · (first | exact k | (simp only [Option.getD_some]; exact k))
theorem w_Model_takes_23 {rod : Nat → Nat × (Nat → Int32)} {d : Nat} {Q : Option MV → MH → Prop} {u0 : Option MV} {u1 : Option MV} {u2 : Option MV} {u3 : Option MV} {u4 : Option MV} {xs0 : Int32} {h : MH}   (k1 : xs0.toInt = 0 → Wb rod d B_Model_takes 37 [u0, u1, u2, u3, u4] [] h Q) (k2 : ¬ xs0.toInt = 0 → Wb rod d B_Model_takes 26 [u0, u1, u2, u3, u4] [] h Q) : Wb rod d B_Model_takes 23 [u0, u1, u2, u3, u4] [.inl xs0] h Q := by
  refine Wb.br (fun _ _ => b_Model_takes_23) (fun c => ?_) (fun c => ?_)
  · have c : (decide (xs0 = 0)) = true := by first | exact c | (simp only [Option.getD_some] at c; exact c)
    (first | exact (k1 (c_eqt c)) | (simp only [Option.getD_some]; exact (k1 (c_eqt c))))
  · have c : (decide (xs0 = 0)) = false := by first | exact c | (simp only [Option.getD_some] at c; exact c)
    (first | exact (k2 (c_eqf c)) | (simp only [Option.getD_some]; exact (k2 (c_eqf c))))
theorem w_Model_takes_26 {rod : Nat → Nat × (Nat → Int32)} {d : Nat} {Q : Option MV → MH → Prop} {u0 : Option MV} {u1 : Option MV} {u2 : Option MV} {u3 : Option MV} {x4 : Int32} {h : MH}   {Q1 : Option MV → MH → Prop} (c : Wc rod d 193 [.inl x4, .inl (0 : Int32), .inl (99 : Int32)] h Q1) (k : ∀ r1 h2, Q1 r1 h2 → Wb rod d B_Model_takes 34 [u0, u1, u2, u3, some (.inl x4)] (r1.toList ++ []) h2 Q) : Wb rod d B_Model_takes 26 [u0, u1, u2, u3, some (.inl x4)] [] h Q := by
  refine Wb.call (fun _ _ _ _ => b_Model_takes_26) (Q1 := Q1) ?_ ?_
  · (first | exact c | (simp only [Option.getD_some]; exact c))
  · (first | exact k | (simp only [Option.getD_some]; exact k))
theorem w_Model_takes_34 {rod : Nat → Nat × (Nat → Int32)} {d : Nat} {Q : Option MV → MH → Prop} {u0 : Option MV} {u1 : Option MV} {u2 : Option MV} {u3 : Option MV} {u4 : Option MV} {xs0 : Int32} {h : MH}   (k1 : ¬ xs0.toInt = 0 → Wb rod d B_Model_takes 39 [u0, u1, u2, u3, u4] [] h Q) (k2 : xs0.toInt = 0 → Wb rod d B_Model_takes 37 [u0, u1, u2, u3, u4] [] h Q) : Wb rod d B_Model_takes 34 [u0, u1, u2, u3, u4] [.inl xs0] h Q := by
  refine Wb.br (fun _ _ => b_Model_takes_34) (fun c => ?_) (fun c => ?_)
  · have c : (!(decide (xs0 = 0))) = true := by first | exact c | (simp only [Option.getD_some] at c; exact c)
    (first | exact (k1 (c_net c)) | (simp only [Option.getD_some]; exact (k1 (c_net c))))
  · have c : (!(decide (xs0 = 0))) = false := by first | exact c | (simp only [Option.getD_some] at c; exact c)
    (first | exact (k2 (c_nef c)) | (simp only [Option.getD_some]; exact (k2 (c_nef c))))
theorem w_Model_takes_37 {rod : Nat → Nat × (Nat → Int32)} {d : Nat} {Q : Option MV → MH → Prop} {u0 : Option MV} {u1 : Option MV} {u2 : Option MV} {u3 : Option MV} {u4 : Option MV} {h : MH}   (q : Q (some (.inl (-1 : Int32))) h) : Wb rod d B_Model_takes 37 [u0, u1, u2, u3, u4] [] h Q := by
  refine Wb.ret (b_Model_takes_37) ?_
  (first | exact q | (simp only [Option.getD_some]; exact q))
theorem w_Model_takes_39 {rod : Nat → Nat × (Nat → Int32)} {d : Nat} {Q : Option MV → MH → Prop} {u1 : Option MV} {u2 : Option MV} {u3 : Option MV} {u4 : Option MV} {h : MH} (L : Lay h.2)  {Q1 : Option MV → MH → Prop} (c : Wc rod d 227 [.inr (.inr (.inl (some 84)))] h Q1) (k : ∀ r1 h2, Q1 r1 h2 → Wb rod d B_Model_takes 43 [some (.inr (.inr (.inl (some 84)))), u1, u2, u3, u4] (r1.toList ++ []) h2 Q) : Wb rod d B_Model_takes 39 [some (.inr (.inr (.inl (some 84)))), u1, u2, u3, u4] [] h Q := by
  refine Wb.call (fun _ _ _ _ => b_Model_takes_39 (Lay.o84 L)) (Q1 := Q1) ?_ ?_
  · (first | exact c | (simp only [Option.getD_some]; exact c))
  · (first | exact k | (simp only [Option.getD_some]; exact k))
theorem w_Model_takes_43 {rod : Nat → Nat × (Nat → Int32)} {d : Nat} {Q : Option MV → MH → Prop} {u1 : Option MV} {x2 : Int32} {x3 : Int32} {x4 : Int32} {h : MH} (L : Lay h.2)  {Q1 : Option MV → MH → Prop} (c : Wc rod d 228 [.inr (.inr (.inl (some 84))), .inl x2, .inl x3, .inl x4] h Q1) (k : ∀ r1 h2, Q1 r1 h2 → Wb rod d B_Model_takes 51 [some (.inr (.inr (.inl (some 84)))), u1, some (.inl x2), some (.inl x3), some (.inl x4)] (r1.toList ++ []) h2 Q) : Wb rod d B_Model_takes 43 [some (.inr (.inr (.inl (some 84)))), u1, some (.inl x2), some (.inl x3), some (.inl x4)] [] h Q := by
  refine Wb.call (fun _ _ _ _ => b_Model_takes_43 (Lay.o84 L)) (Q1 := Q1) ?_ ?_
  · (first | exact c | (simp only [Option.getD_some]; exact c))
  · (first | exact k | (simp only [Option.getD_some]; exact k))
theorem w_Model_takes_51 {rod : Nat → Nat × (Nat → Int32)} {d : Nat} {Q : Option MV → MH → Prop} {u0 : Option MV} {u1 : Option MV} {u2 : Option MV} {u3 : Option MV} {u4 : Option MV} {xs0 : Int32} {h : MH}   (k1 : xs0.toInt = 0 → Wb rod d B_Model_takes 58 [u0, u1, u2, u3, u4] [] h Q) (k2 : ¬ xs0.toInt = 0 → Wb rod d B_Model_takes 54 [u0, u1, u2, u3, u4] [] h Q) : Wb rod d B_Model_takes 51 [u0, u1, u2, u3, u4] [.inl xs0] h Q := by
  refine Wb.br (fun _ _ => b_Model_takes_51) (fun c => ?_) (fun c => ?_)
  · have c : (decide (xs0 = 0)) = true := by first | exact c | (simp only [Option.getD_some] at c; exact c)
    (first | exact (k1 (c_eqt c)) | (simp only [Option.getD_some]; exact (k1 (c_eqt c))))
  · have c : (decide (xs0 = 0)) = false := by first | exact c | (simp only [Option.getD_some] at c; exact c)
    (first | exact (k2 (c_eqf c)) | (simp only [Option.getD_some]; exact (k2 (c_eqf c))))
theorem w_Model_takes_54 {rod : Nat → Nat × (Nat → Int32)} {d : Nat} {Q : Option MV → MH → Prop} {u0 : Option MV} {u1 : Option MV} {u2 : Option MV} {u3 : Option MV} {u4 : Option MV} {h : MH}   (k : Wb rod d B_Model_takes 59 [u0, u1, u2, u3, u4] [.inl (1 : Int32)] h Q) : Wb rod d B_Model_takes 54 [u0, u1, u2, u3, u4] [] h Q := by
  refine Wb.go (fun r hr q => b_Model_takes_54 ?_) k
  (first | exact q | (simp only [Option.getD_some]; exact q))
theorem w_Model_takes_58 {rod : Nat → Nat × (Nat → Int32)} {d : Nat} {Q : Option MV → MH → Prop} {u0 : Option MV} {u1 : Option MV} {u2 : Option MV} {u3 : Option MV} {u4 : Option MV} {h : MH}   (k : Wb rod d B_Model_takes 59 [u0, u1, u2, u3, u4] [.inl (0 : Int32)] h Q) : Wb rod d B_Model_takes 58 [u0, u1, u2, u3, u4] [] h Q := by
  refine Wb.go (fun r hr q => b_Model_takes_58 ?_) k
  (first | exact q | (simp only [Option.getD_some]; exact q))
theorem w_Model_takes_59 {rod : Nat → Nat × (Nat → Int32)} {d : Nat} {Q : Option MV → MH → Prop} {u0 : Option MV} {u1 : Option MV} {u2 : Option MV} {u3 : Option MV} {u4 : Option MV} {xs0 : Int32} {h : MH}   (q : Q (some (.inl xs0)) h) : Wb rod d B_Model_takes 59 [u0, u1, u2, u3, u4] [.inl xs0] h Q := by
  refine Wb.ret (b_Model_takes_59) ?_
  (first | exact q | (simp only [Option.getD_some]; exact q))
theorem n_Model_asTold {rod : Nat → Nat × (Nat → Int32)} {d : Nat} {Q : Option MV → MH → Prop}  {h : MH} (k : Wb rod d B_Model_asTold 0 [some (.inr (.inr (.inl (some 84)))), none] [] h Q) : Wc rod (d + 1) 227 [.inr (.inr (.inl (some 84)))] h Q := Wc.en (fun _ _ => e_Model_asTold) k
theorem w_Model_asTold_0 {rod : Nat → Nat × (Nat → Int32)} {d : Nat} {Q : Option MV → MH → Prop} {u0 : Option MV} {u1 : Option MV} {h : MH}  (g0 : okl [u0, u1] 1 = true) (k : Wb rod d B_Model_asTold 2 [u0, some (.inl (0 : Int32))] [] h Q) : Wb rod d B_Model_asTold 0 [u0, u1] [] h Q := by
  refine Wb.go (fun r hr q => b_Model_asTold_0 g0 ?_) k
  (first | exact q | (simp only [Option.getD_some]; exact q))
theorem w_Model_asTold_2 {rod : Nat → Nat × (Nat → Int32)} {d : Nat} {Q : Option MV → MH → Prop} {x1 : Int32} {h : MH} (L : Lay h.2)  (k1 : (h.1 84 14).toInt ≤ x1.toInt → Wb rod d B_Model_asTold 59 [some (.inr (.inr (.inl (some 84)))), some (.inl x1)] [] h Q) (k2 : ¬ (h.1 84 14).toInt ≤ x1.toInt → Wb rod d B_Model_asTold 10 [some (.inr (.inr (.inl (some 84)))), some (.inl x1)] [] h Q) : Wb rod d B_Model_asTold 2 [some (.inr (.inr (.inl (some 84)))), some (.inl x1)] [] h Q := by
  refine Wb.br (fun _ _ => b_Model_asTold_2 (Lay.o84 L)) (fun c => ?_) (fun c => ?_)
  · have c : (decide ((h.1 84 14) ≤ x1)) = true := by first | exact c | (simp only [Option.getD_some] at c; exact c)
    (first | exact (k1 (c_let c)) | (simp only [Option.getD_some]; exact (k1 (c_let c))))
  · have c : (decide ((h.1 84 14) ≤ x1)) = false := by first | exact c | (simp only [Option.getD_some] at c; exact c)
    (first | exact (k2 (c_lef c)) | (simp only [Option.getD_some]; exact (k2 (c_lef c))))
theorem w_Model_asTold_10 {rod : Nat → Nat × (Nat → Int32)} {d : Nat} {Q : Option MV → MH → Prop} {x1 : Int32} {h : MH} (L : Lay h.2)  {Q1 : Option MV → MH → Prop} (c : Wc rod d 221 [.inr (.inr (.inl (some 84))), .inl x1, .inl (2 : Int32)] h Q1) (k : ∀ r1 h2, Q1 r1 h2 → Wb rod d B_Model_asTold 21 [some (.inr (.inr (.inl (some 84)))), some (.inl x1)] (r1.toList ++ [.inl x1, .inr (.inr (.inl (some 88)))]) h2 Q) : Wb rod d B_Model_asTold 10 [some (.inr (.inr (.inl (some 84)))), some (.inl x1)] [] h Q := by
  refine Wb.call (fun _ _ _ _ => b_Model_asTold_10 (Lay.o84 L)) (Q1 := Q1) ?_ ?_
  · (first | exact c | (simp only [Option.getD_some, (Lay.r84_16 L)]; exact c))
  · (first | exact k | (simp only [Option.getD_some, (Lay.r84_16 L)]; exact k))
theorem w_Model_asTold_21 {rod : Nat → Nat × (Nat → Int32)} {d : Nat} {Q : Option MV → MH → Prop} {u0 : Option MV} {u1 : Option MV} {cs0 : Nat} {ncs0 : Nat} {xs1 : Int32} {xs2 : Int32} {h : MH} (Scs0 : h.2.2[cs0]? = some (0, ncs0)) (g0 : 0 ≤ xs1.toInt ∧ xs1.toInt < ncs0) (k : Wb rod d B_Model_asTold 22 [u0, u1] [] (sI h cs0 xs1.toNatClampNeg xs2) Q) : Wb rod d B_Model_asTold 21 [u0, u1] [.inl xs2, .inl xs1, .inr (.inr (.inl (some cs0)))] h Q := by
  refine Wb.go (fun r hr q => b_Model_asTold_21 (gA_of Scs0 (inB_of g0.1 g0.2)) ?_) k
  (first | exact q | (simp only [Option.getD_some]; exact q))
theorem w_Model_asTold_22 {rod : Nat → Nat × (Nat → Int32)} {d : Nat} {Q : Option MV → MH → Prop} {x1 : Int32} {h : MH} (L : Lay h.2)  {Q1 : Option MV → MH → Prop} (c : Wc rod d 221 [.inr (.inr (.inl (some 84))), .inl x1, .inl (3 : Int32)] h Q1) (k : ∀ r1 h2, Q1 r1 h2 → Wb rod d B_Model_asTold 33 [some (.inr (.inr (.inl (some 84)))), some (.inl x1)] (r1.toList ++ [.inl x1, .inr (.inr (.inl (some 89)))]) h2 Q) : Wb rod d B_Model_asTold 22 [some (.inr (.inr (.inl (some 84)))), some (.inl x1)] [] h Q := by
  refine Wb.call (fun _ _ _ _ => b_Model_asTold_22 (Lay.o84 L)) (Q1 := Q1) ?_ ?_
  · (first | exact c | (simp only [Option.getD_some, (Lay.r84_17 L)]; exact c))
  · (first | exact k | (simp only [Option.getD_some, (Lay.r84_17 L)]; exact k))
theorem w_Model_asTold_33 {rod : Nat → Nat × (Nat → Int32)} {d : Nat} {Q : Option MV → MH → Prop} {u0 : Option MV} {u1 : Option MV} {cs0 : Nat} {ncs0 : Nat} {xs1 : Int32} {xs2 : Int32} {h : MH} (Scs0 : h.2.2[cs0]? = some (0, ncs0)) (g0 : 0 ≤ xs1.toInt ∧ xs1.toInt < ncs0) (k : Wb rod d B_Model_asTold 34 [u0, u1] [] (sI h cs0 xs1.toNatClampNeg xs2) Q) : Wb rod d B_Model_asTold 33 [u0, u1] [.inl xs2, .inl xs1, .inr (.inr (.inl (some cs0)))] h Q := by
  refine Wb.go (fun r hr q => b_Model_asTold_33 (gA_of Scs0 (inB_of g0.1 g0.2)) ?_) k
  (first | exact q | (simp only [Option.getD_some]; exact q))
theorem w_Model_asTold_34 {rod : Nat → Nat × (Nat → Int32)} {d : Nat} {Q : Option MV → MH → Prop} {x1 : Int32} {h : MH} (L : Lay h.2)  {Q1 : Option MV → MH → Prop} (c : Wc rod d 221 [.inr (.inr (.inl (some 84))), .inl x1, .inl (4 : Int32)] h Q1) (k : ∀ r1 h2, Q1 r1 h2 → Wb rod d B_Model_asTold 45 [some (.inr (.inr (.inl (some 84)))), some (.inl x1)] (r1.toList ++ [.inl x1, .inr (.inr (.inl (some 90)))]) h2 Q) : Wb rod d B_Model_asTold 34 [some (.inr (.inr (.inl (some 84)))), some (.inl x1)] [] h Q := by
  refine Wb.call (fun _ _ _ _ => b_Model_asTold_34 (Lay.o84 L)) (Q1 := Q1) ?_ ?_
  · (first | exact c | (simp only [Option.getD_some, (Lay.r84_18 L)]; exact c))
  · (first | exact k | (simp only [Option.getD_some, (Lay.r84_18 L)]; exact k))
theorem w_Model_asTold_45 {rod : Nat → Nat × (Nat → Int32)} {d : Nat} {Q : Option MV → MH → Prop} {u0 : Option MV} {u1 : Option MV} {cs0 : Nat} {ncs0 : Nat} {xs1 : Int32} {xs2 : Int32} {h : MH} (Scs0 : h.2.2[cs0]? = some (0, ncs0)) (g0 : 0 ≤ xs1.toInt ∧ xs1.toInt < ncs0) (k : Wb rod d B_Model_asTold 46 [u0, u1] [] (sI h cs0 xs1.toNatClampNeg xs2) Q) : Wb rod d B_Model_asTold 45 [u0, u1] [.inl xs2, .inl xs1, .inr (.inr (.inl (some cs0)))] h Q := by
  refine Wb.go (fun r hr q => b_Model_asTold_45 (gA_of Scs0 (inB_of g0.1 g0.2)) ?_) k
  (first | exact q | (simp only [Option.getD_some]; exact q))
theorem w_Model_asTold_46 {rod : Nat → Nat × (Nat → Int32)} {d : Nat} {Q : Option MV → MH → Prop} {x1 : Int32} {h : MH} (L : Lay h.2) (g0 : 0 ≤ x1.toInt ∧ x1.toInt < 8) (k : Wb rod d B_Model_asTold 53 [some (.inr (.inr (.inl (some 84)))), some (.inl x1)] [] (sI h 91 x1.toNatClampNeg (0 : Int32)) Q) : Wb rod d B_Model_asTold 46 [some (.inr (.inr (.inl (some 84)))), some (.inl x1)] [] h Q := by
  refine Wb.go (fun r hr q => b_Model_asTold_46 (Lay.o84 L) (Lay.a84_19 L g0) ?_) k
  (first | exact q | (simp only [Option.getD_some, (Lay.r84_19 L)]; exact q))
theorem w_Model_asTold_53 {rod : Nat → Nat × (Nat → Int32)} {d : Nat} {Q : Option MV → MH → Prop} {u0 : Option MV} {x1 : Int32} {h : MH}  (g0 : okl [u0, some (.inl x1)] 1 = true) (k : Wb rod d B_Model_asTold 2 [u0, some (.inl (x1 + 1))] [] h Q) : Wb rod d B_Model_asTold 53 [u0, some (.inl x1)] [] h Q := by
  refine Wb.go (fun r hr q => b_Model_asTold_53 g0 ?_) k
  (first | exact q | (simp only [Option.getD_some]; exact q))
theorem w_Model_asTold_59 {rod : Nat → Nat × (Nat → Int32)} {d : Nat} {Q : Option MV → MH → Prop} {u0 : Option MV} {u1 : Option MV} {h : MH}   (q : Q (none) h) : Wb rod d B_Model_asTold 59 [u0, u1] [] h Q := by
  refine Wb.ret (b_Model_asTold_59) ?_
  (first | exact q | (simp only [Option.getD_some]; exact q))
theorem n_Model_wants {rod : Nat → Nat × (Nat → Int32)} {d : Nat} {Q : Option MV → MH → Prop} {x1 : Int32} {x2 : Int32} {x3 : Int32} {h : MH} (k : Wb rod d B_Model_wants 0 [some (.inr (.inr (.inl (some 84)))), some (.inl x1), some (.inl x2), some (.inl x3), none, none] [] h Q) : Wc rod (d + 1) 228 [.inr (.inr (.inl (some 84))), .inl x1, .inl x2, .inl x3] h Q := Wc.en (fun _ _ => e_Model_wants) k
theorem w_Model_wants_0 {rod : Nat → Nat × (Nat → Int32)} {d : Nat} {Q : Option MV → MH → Prop} {x1 : Int32} {u2 : Option MV} {x3 : Int32} {u4 : Option MV} {u5 : Option MV} {h : MH} (L : Lay h.2) (g0 : 0 ≤ x1.toInt ∧ x1.toInt < 8) (k1 : x3.toInt ≤ (h.1 89 x1.toNatClampNeg).toInt → Wb rod d B_Model_wants 12 [some (.inr (.inr (.inl (some 84)))), some (.inl x1), u2, some (.inl x3), u4, u5] [] h Q) (k2 : ¬ x3.toInt ≤ (h.1 89 x1.toNatClampNeg).toInt → Wb rod d B_Model_wants 10 [some (.inr (.inr (.inl (some 84)))), some (.inl x1), u2, some (.inl x3), u4, u5] [] h Q) : Wb rod d B_Model_wants 0 [some (.inr (.inr (.inl (some 84)))), some (.inl x1), u2, some (.inl x3), u4, u5] [] h Q := by
  refine Wb.br (fun _ _ => b_Model_wants_0 (Lay.o84 L) (Lay.a84_17 L g0)) (fun c => ?_) (fun c => ?_)
  · have c : (decide (x3 ≤ (h.1 89 x1.toNatClampNeg))) = true := by first | exact c | (simp only [Option.getD_some, (Lay.r84_17 L)] at c; exact c)
    (first | exact (k1 (c_let c)) | (simp only [Option.getD_some, (Lay.r84_17 L)]; exact (k1 (c_let c))))
  · have c : (decide (x3 ≤ (h.1 89 x1.toNatClampNeg))) = false := by first | exact c | (simp only [Option.getD_some, (Lay.r84_17 L)] at c; exact c)
    (first | exact (k2 (c_lef c)) | (simp only [Option.getD_some, (Lay.r84_17 L)]; exact (k2 (c_lef c))))
theorem w_Model_wants_10 {rod : Nat → Nat × (Nat → Int32)} {d : Nat} {Q : Option MV → MH → Prop} {u0 : Option MV} {u1 : Option MV} {u2 : Option MV} {u3 : Option MV} {u4 : Option MV} {u5 : Option MV} {h : MH}   (q : Q (some (.inl (0 : Int32))) h) : Wb rod d B_Model_wants 10 [u0, u1, u2, u3, u4, u5] [] h Q := by
  refine Wb.ret (b_Model_wants_10) ?_
  (first | exact q | (simp only [Option.getD_some]; exact q))
theorem w_Model_wants_12 {rod : Nat → Nat × (Nat → Int32)} {d : Nat} {Q : Option MV → MH → Prop} {x1 : Int32} {u2 : Option MV} {u3 : Option MV} {u4 : Option MV} {u5 : Option MV} {h : MH} (L : Lay h.2)  {Q1 : Option MV → MH → Prop} (c : Wc rod d 221 [.inr (.inr (.inl (some 84))), .inl x1, .inl (0 : Int32)] h Q1) (k : ∀ r1 h2, Q1 r1 h2 → Wb rod d B_Model_wants 18 [some (.inr (.inr (.inl (some 84)))), some (.inl x1), u2, u3, u4, u5] (r1.toList ++ []) h2 Q) : Wb rod d B_Model_wants 12 [some (.inr (.inr (.inl (some 84)))), some (.inl x1), u2, u3, u4, u5] [] h Q := by
  refine Wb.call (fun _ _ _ _ => b_Model_wants_12 (Lay.o84 L)) (Q1 := Q1) ?_ ?_
  · (first | exact c | (simp only [Option.getD_some]; exact c))
  · (first | exact k | (simp only [Option.getD_some]; exact k))
theorem w_Model_wants_18 {rod : Nat → Nat × (Nat → Int32)} {d : Nat} {Q : Option MV → MH → Prop} {u0 : Option MV} {u1 : Option MV} {u2 : Option MV} {u3 : Option MV} {u4 : Option MV} {u5 : Option MV} {xs0 : Int32} {h : MH}  (g0 : okl [u0, u1, u2, u3, u4, u5] 4 = true) (k1 : ¬ xs0.toInt = 1 → Wb rod d B_Model_wants 44 [u0, u1, u2, u3, some (.inl xs0), u5] [] h Q) (k2 : xs0.toInt = 1 → Wb rod d B_Model_wants 26 [u0, u1, u2, u3, some (.inl xs0), u5] [] h Q) : Wb rod d B_Model_wants 18 [u0, u1, u2, u3, u4, u5] [.inl xs0] h Q := by
  refine Wb.br (fun _ _ => b_Model_wants_18 g0) (fun c => ?_) (fun c => ?_)
  · have c : (!(decide (xs0 = (1 : Int32)))) = true := by first | exact c | (simp only [Option.getD_some] at c; exact c)
    (first | exact (k1 (c_net c)) | (simp only [Option.getD_some]; exact (k1 (c_net c))))
  · have c : (!(decide (xs0 = (1 : Int32)))) = false := by first | exact c | (simp only [Option.getD_some] at c; exact c)
    (first | exact (k2 (c_nef c)) | (simp only [Option.getD_some]; exact (k2 (c_nef c))))
theorem w_Model_wants_26 {rod : Nat → Nat × (Nat → Int32)} {d : Nat} {Q : Option MV → MH → Prop} {x1 : Int32} {x2 : Int32} {x3 : Int32} {u4 : Option MV} {u5 : Option MV} {h : MH} (L : Lay h.2) (g0 : 0 ≤ x1.toInt ∧ x1.toInt < 8) (k1 : ((h.1 90 x1.toNatClampNeg) * x2).toInt < x3.toInt → Wb rod d B_Model_wants 42 [some (.inr (.inr (.inl (some 84)))), some (.inl x1), some (.inl x2), some (.inl x3), u4, u5] [] h Q) (k2 : ¬ ((h.1 90 x1.toNatClampNeg) * x2).toInt < x3.toInt → Wb rod d B_Model_wants 38 [some (.inr (.inr (.inl (some 84)))), some (.inl x1), some (.inl x2), some (.inl x3), u4, u5] [] h Q) : Wb rod d B_Model_wants 26 [some (.inr (.inr (.inl (some 84)))), some (.inl x1), some (.inl x2), some (.inl x3), u4, u5] [] h Q := by
  refine Wb.br (fun _ _ => b_Model_wants_26 (Lay.o84 L) (Lay.a84_18 L g0)) (fun c => ?_) (fun c => ?_)
  · have c : (decide (((h.1 90 x1.toNatClampNeg) * x2) < x3)) = true := by first | exact c | (simp only [Option.getD_some, (Lay.r84_18 L)] at c; exact c)
    (first | exact (k1 (c_ltt c)) | (simp only [Option.getD_some, (Lay.r84_18 L)]; exact (k1 (c_ltt c))))
  · have c : (decide (((h.1 90 x1.toNatClampNeg) * x2) < x3)) = false := by first | exact c | (simp only [Option.getD_some, (Lay.r84_18 L)] at c; exact c)
    (first | exact (k2 (c_ltf c)) | (simp only [Option.getD_some, (Lay.r84_18 L)]; exact (k2 (c_ltf c))))
theorem w_Model_wants_38 {rod : Nat → Nat × (Nat → Int32)} {d : Nat} {Q : Option MV → MH → Prop} {u0 : Option MV} {u1 : Option MV} {u2 : Option MV} {u3 : Option MV} {u4 : Option MV} {u5 : Option MV} {h : MH}   (k : Wb rod d B_Model_wants 43 [u0, u1, u2, u3, u4, u5] [.inl (1 : Int32)] h Q) : Wb rod d B_Model_wants 38 [u0, u1, u2, u3, u4, u5] [] h Q := by
  refine Wb.go (fun r hr q => b_Model_wants_38 ?_) k
  (first | exact q | (simp only [Option.getD_some]; exact q))
theorem w_Model_wants_42 {rod : Nat → Nat × (Nat → Int32)} {d : Nat} {Q : Option MV → MH → Prop} {u0 : Option MV} {u1 : Option MV} {u2 : Option MV} {u3 : Option MV} {u4 : Option MV} {u5 : Option MV} {h : MH}   (k : Wb rod d B_Model_wants 43 [u0, u1, u2, u3, u4, u5] [.inl (0 : Int32)] h Q) : Wb rod d B_Model_wants 42 [u0, u1, u2, u3, u4, u5] [] h Q := by
  refine Wb.go (fun r hr q => b_Model_wants_42 ?_) k
  (first | exact q | (simp only [Option.getD_some]; exact q))
theorem w_Model_wants_43 {rod : Nat → Nat × (Nat → Int32)} {d : Nat} {Q : Option MV → MH → Prop} {u0 : Option MV} {u1 : Option MV} {u2 : Option MV} {u3 : Option MV} {u4 : Option MV} {u5 : Option MV} {xs0 : Int32} {h : MH}  (g0 : xs0 = 0 ∨ xs0 = 1) (q : Q (some (.inl xs0)) h) : Wb rod d B_Model_wants 43 [u0, u1, u2, u3, u4, u5] [.inl xs0] h Q := by
  refine Wb.ret (b_Model_wants_43 (d01 g0)) ?_
  (first | exact q | (simp only [Option.getD_some]; exact q))
theorem w_Model_wants_44 {rod : Nat → Nat × (Nat → Int32)} {d : Nat} {Q : Option MV → MH → Prop} {x1 : Int32} {u2 : Option MV} {u3 : Option MV} {u4 : Option MV} {u5 : Option MV} {h : MH} (L : Lay h.2) (g0 : 0 ≤ x1.toInt ∧ x1.toInt < 8) (k1 : 0 < (h.1 88 x1.toNatClampNeg).toInt → Wb rod d B_Model_wants 55 [some (.inr (.inr (.inl (some 84)))), some (.inl x1), u2, u3, u4, u5] [] h Q) (k2 : ¬ 0 < (h.1 88 x1.toNatClampNeg).toInt → Wb rod d B_Model_wants 53 [some (.inr (.inr (.inl (some 84)))), some (.inl x1), u2, u3, u4, u5] [] h Q) : Wb rod d B_Model_wants 44 [some (.inr (.inr (.inl (some 84)))), some (.inl x1), u2, u3, u4, u5] [] h Q := by
  refine Wb.br (fun _ _ => b_Model_wants_44 (Lay.o84 L) (Lay.a84_16 L g0)) (fun c => ?_) (fun c => ?_)
  · have c : (decide (0 < (h.1 88 x1.toNatClampNeg))) = true := by first | exact c | (simp only [Option.getD_some, (Lay.r84_16 L)] at c; exact c)
    (first | exact (k1 (c_ltt c)) | (simp only [Option.getD_some, (Lay.r84_16 L)]; exact (k1 (c_ltt c))))
  · have c : (decide (0 < (h.1 88 x1.toNatClampNeg))) = false := by first | exact c | (simp only [Option.getD_some, (Lay.r84_16 L)] at c; exact c)
    (first | exact (k2 (c_ltf c)) | (simp only [Option.getD_some, (Lay.r84_16 L)]; exact (k2 (c_ltf c))))
theorem w_Model_wants_53 {rod : Nat → Nat × (Nat → Int32)} {d : Nat} {Q : Option MV → MH → Prop} {u0 : Option MV} {u1 : Option MV} {u2 : Option MV} {u3 : Option MV} {u4 : Option MV} {u5 : Option MV} {h : MH}   (q : Q (some (.inl (0 : Int32))) h) : Wb rod d B_Model_wants 53 [u0, u1, u2, u3, u4, u5] [] h Q := by
  refine Wb.ret (b_Model_wants_53) ?_
  (first | exact q | (simp only [Option.getD_some]; exact q))
theorem w_Model_wants_55 {rod : Nat → Nat × (Nat → Int32)} {d : Nat} {Q : Option MV → MH → Prop} {x1 : Int32} {x2 : Int32} {u3 : Option MV} {u4 : Option MV} {u5 : Option MV} {h : MH} (L : Lay h.2) (g0 : 0 ≤ x1.toInt ∧ x1.toInt < 8) (k1 : (h.1 88 x1.toNatClampNeg).toInt ≤ x2.toInt → Wb rod d B_Model_wants 69 [some (.inr (.inr (.inl (some 84)))), some (.inl x1), some (.inl x2), u3, u4, u5] [] h Q) (k2 : ¬ (h.1 88 x1.toNatClampNeg).toInt ≤ x2.toInt → Wb rod d B_Model_wants 65 [some (.inr (.inr (.inl (some 84)))), some (.inl x1), some (.inl x2), u3, u4, u5] [] h Q) : Wb rod d B_Model_wants 55 [some (.inr (.inr (.inl (some 84)))), some (.inl x1), some (.inl x2), u3, u4, u5] [] h Q := by
  refine Wb.br (fun _ _ => b_Model_wants_55 (Lay.o84 L) (Lay.a84_16 L g0)) (fun c => ?_) (fun c => ?_)
  · have c : (decide ((h.1 88 x1.toNatClampNeg) ≤ x2)) = true := by first | exact c | (simp only [Option.getD_some, (Lay.r84_16 L)] at c; exact c)
    (first | exact (k1 (c_let c)) | (simp only [Option.getD_some, (Lay.r84_16 L)]; exact (k1 (c_let c))))
  · have c : (decide ((h.1 88 x1.toNatClampNeg) ≤ x2)) = false := by first | exact c | (simp only [Option.getD_some, (Lay.r84_16 L)] at c; exact c)
    (first | exact (k2 (c_lef c)) | (simp only [Option.getD_some, (Lay.r84_16 L)]; exact (k2 (c_lef c))))
theorem w_Model_wants_65 {rod : Nat → Nat × (Nat → Int32)} {d : Nat} {Q : Option MV → MH → Prop} {u0 : Option MV} {u1 : Option MV} {x2 : Int32} {u3 : Option MV} {u4 : Option MV} {u5 : Option MV} {h : MH}   (k : Wb rod d B_Model_wants 75 [u0, u1, some (.inl x2), u3, u4, u5] [.inl x2] h Q) : Wb rod d B_Model_wants 65 [u0, u1, some (.inl x2), u3, u4, u5] [] h Q := by
  refine Wb.go (fun r hr q => b_Model_wants_65 ?_) k
  (first | exact q | (simp only [Option.getD_some]; exact q))
theorem w_Model_wants_69 {rod : Nat → Nat × (Nat → Int32)} {d : Nat} {Q : Option MV → MH → Prop} {x1 : Int32} {u2 : Option MV} {u3 : Option MV} {u4 : Option MV} {u5 : Option MV} {h : MH} (L : Lay h.2) (g0 : 0 ≤ x1.toInt ∧ x1.toInt < 8) (k : Wb rod d B_Model_wants 75 [some (.inr (.inr (.inl (some 84)))), some (.inl x1), u2, u3, u4, u5] [.inl (h.1 88 x1.toNatClampNeg)] h Q) : Wb rod d B_Model_wants 69 [some (.inr (.inr (.inl (some 84)))), some (.inl x1), u2, u3, u4, u5] [] h Q := by
  refine Wb.go (fun r hr q => b_Model_wants_69 (Lay.o84 L) (Lay.a84_16 L g0) ?_) k
  (first | exact q | (simp only [Option.getD_some, (Lay.r84_16 L)]; exact q))
theorem w_Model_wants_75 {rod : Nat → Nat × (Nat → Int32)} {d : Nat} {Q : Option MV → MH → Prop} {u0 : Option MV} {u1 : Option MV} {u2 : Option MV} {x3 : Int32} {x4 : Int32} {u5 : Option MV} {xs0 : Int32} {h : MH}   (k1 : ¬ x4.toInt = 3 → Wb rod d B_Model_wants 88 [u0, u1, u2, some (.inl x3), some (.inl x4), some (.inl xs0)] [.inl x3] h Q) (k2 : x4.toInt = 3 → Wb rod d B_Model_wants 84 [u0, u1, u2, some (.inl x3), some (.inl x4), some (.inl xs0)] [.inl x3] h Q) : Wb rod d B_Model_wants 75 [u0, u1, u2, some (.inl x3), some (.inl x4), u5] [.inl xs0] h Q := by
  refine Wb.br (fun _ _ => b_Model_wants_75) (fun c => ?_) (fun c => ?_)
  · have c : (!(decide (x4 = (3 : Int32)))) = true := by first | exact c | (simp only [Option.getD_some] at c; exact c)
    (first | exact (k1 (c_net c)) | (simp only [Option.getD_some]; exact (k1 (c_net c))))
  · have c : (!(decide (x4 = (3 : Int32)))) = false := by first | exact c | (simp only [Option.getD_some] at c; exact c)
    (first | exact (k2 (c_nef c)) | (simp only [Option.getD_some]; exact (k2 (c_nef c))))
theorem w_Model_wants_84 {rod : Nat → Nat × (Nat → Int32)} {d : Nat} {Q : Option MV → MH → Prop} {u0 : Option MV} {u1 : Option MV} {u2 : Option MV} {u3 : Option MV} {u4 : Option MV} {u5 : Option MV} {xs0 : Int32} {h : MH}   (k : Wb rod d B_Model_wants 89 [u0, u1, u2, u3, u4, u5] [.inl (2 : Int32), .inl xs0] h Q) : Wb rod d B_Model_wants 84 [u0, u1, u2, u3, u4, u5] [.inl xs0] h Q := by
  refine Wb.go (fun r hr q => b_Model_wants_84 ?_) k
  (first | exact q | (simp only [Option.getD_some]; exact q))
theorem w_Model_wants_88 {rod : Nat → Nat × (Nat → Int32)} {d : Nat} {Q : Option MV → MH → Prop} {u0 : Option MV} {u1 : Option MV} {u2 : Option MV} {u3 : Option MV} {u4 : Option MV} {u5 : Option MV} {xs0 : Int32} {h : MH}   (k : Wb rod d B_Model_wants 89 [u0, u1, u2, u3, u4, u5] [.inl (1 : Int32), .inl xs0] h Q) : Wb rod d B_Model_wants 88 [u0, u1, u2, u3, u4, u5] [.inl xs0] h Q := by
  refine Wb.go (fun r hr q => b_Model_wants_88 ?_) k
  (first | exact q | (simp only [Option.getD_some]; exact q))
theorem w_Model_wants_89 {rod : Nat → Nat × (Nat → Int32)} {d : Nat} {Q : Option MV → MH → Prop} {x1 : Int32} {u2 : Option MV} {u3 : Option MV} {x4 : Int32} {x5 : Int32} {xs0 : Int32} {xs1 : Int32} {h : MH} (L : Lay h.2) (g0 : 0 ≤ x1.toInt ∧ x1.toInt < 8) (k1 : ¬ x4.toInt = 2 → Wb rod d B_Model_wants 109 [some (.inr (.inr (.inl (some 84)))), some (.inl x1), u2, u3, some (.inl x4), some (.inl x5)] [.inl ((h.1 90 x1.toNatClampNeg) * x5), .inl (xs0 * xs1)] h Q) (k2 : x4.toInt = 2 → Wb rod d B_Model_wants 105 [some (.inr (.inr (.inl (some 84)))), some (.inl x1), u2, u3, some (.inl x4), some (.inl x5)] [.inl ((h.1 90 x1.toNatClampNeg) * x5), .inl (xs0 * xs1)] h Q) : Wb rod d B_Model_wants 89 [some (.inr (.inr (.inl (some 84)))), some (.inl x1), u2, u3, some (.inl x4), some (.inl x5)] [.inl xs1, .inl xs0] h Q := by
  refine Wb.br (fun _ _ => b_Model_wants_89 (Lay.o84 L) (Lay.a84_18 L g0)) (fun c => ?_) (fun c => ?_)
  · have c : (!(decide (x4 = (2 : Int32)))) = true := by first | exact c | (simp only [Option.getD_some, (Lay.r84_18 L)] at c; exact c)
    (first | exact (k1 (c_net c)) | (simp only [Option.getD_some, (Lay.r84_18 L)]; exact (k1 (c_net c))))
  · have c : (!(decide (x4 = (2 : Int32)))) = false := by first | exact c | (simp only [Option.getD_some, (Lay.r84_18 L)] at c; exact c)
    (first | exact (k2 (c_nef c)) | (simp only [Option.getD_some, (Lay.r84_18 L)]; exact (k2 (c_nef c))))
theorem w_Model_wants_105 {rod : Nat → Nat × (Nat → Int32)} {d : Nat} {Q : Option MV → MH → Prop} {u0 : Option MV} {u1 : Option MV} {u2 : Option MV} {u3 : Option MV} {u4 : Option MV} {u5 : Option MV} {xs0 : Int32} {xs1 : Int32} {h : MH}   (k : Wb rod d B_Model_wants 110 [u0, u1, u2, u3, u4, u5] [.inl (2 : Int32), .inl xs1, .inl xs0] h Q) : Wb rod d B_Model_wants 105 [u0, u1, u2, u3, u4, u5] [.inl xs1, .inl xs0] h Q := by
  refine Wb.go (fun r hr q => b_Model_wants_105 ?_) k
  (first | exact q | (simp only [Option.getD_some]; exact q))
theorem w_Model_wants_109 {rod : Nat → Nat × (Nat → Int32)} {d : Nat} {Q : Option MV → MH → Prop} {u0 : Option MV} {u1 : Option MV} {u2 : Option MV} {u3 : Option MV} {u4 : Option MV} {u5 : Option MV} {xs0 : Int32} {xs1 : Int32} {h : MH}   (k : Wb rod d B_Model_wants 110 [u0, u1, u2, u3, u4, u5] [.inl (1 : Int32), .inl xs1, .inl xs0] h Q) : Wb rod d B_Model_wants 109 [u0, u1, u2, u3, u4, u5] [.inl xs1, .inl xs0] h Q := by
  refine Wb.go (fun r hr q => b_Model_wants_109 ?_) k
  (first | exact q | (simp only [Option.getD_some]; exact q))
theorem w_Model_wants_110 {rod : Nat → Nat × (Nat → Int32)} {d : Nat} {Q : Option MV → MH → Prop} {u0 : Option MV} {u1 : Option MV} {u2 : Option MV} {u3 : Option MV} {u4 : Option MV} {u5 : Option MV} {xs0 : Int32} {xs1 : Int32} {xs2 : Int32} {h : MH}   (k1 : (xs1 * xs2).toInt < xs0.toInt → Wb rod d B_Model_wants 118 [u0, u1, u2, u3, u4, u5] [] h Q) (k2 : ¬ (xs1 * xs2).toInt < xs0.toInt → Wb rod d B_Model_wants 114 [u0, u1, u2, u3, u4, u5] [] h Q) : Wb rod d B_Model_wants 110 [u0, u1, u2, u3, u4, u5] [.inl xs2, .inl xs1, .inl xs0] h Q := by
  refine Wb.br (fun _ _ => b_Model_wants_110) (fun c => ?_) (fun c => ?_)
  · have c : (decide ((xs1 * xs2) < xs0)) = true := by first | exact c | (simp only [Option.getD_some] at c; exact c)
    (first | exact (k1 (c_ltt c)) | (simp only [Option.getD_some]; exact (k1 (c_ltt c))))
  · have c : (decide ((xs1 * xs2) < xs0)) = false := by first | exact c | (simp only [Option.getD_some] at c; exact c)
    (first | exact (k2 (c_ltf c)) | (simp only [Option.getD_some]; exact (k2 (c_ltf c))))
theorem w_Model_wants_114 {rod : Nat → Nat × (Nat → Int32)} {d : Nat} {Q : Option MV → MH → Prop} {u0 : Option MV} {u1 : Option MV} {u2 : Option MV} {u3 : Option MV} {u4 : Option MV} {u5 : Option MV} {h : MH}   (k : Wb rod d B_Model_wants 119 [u0, u1, u2, u3, u4, u5] [.inl (1 : Int32)] h Q) : Wb rod d B_Model_wants 114 [u0, u1, u2, u3, u4, u5] [] h Q := by
  refine Wb.go (fun r hr q => b_Model_wants_114 ?_) k
  (first | exact q | (simp only [Option.getD_some]; exact q))
theorem w_Model_wants_118 {rod : Nat → Nat × (Nat → Int32)} {d : Nat} {Q : Option MV → MH → Prop} {u0 : Option MV} {u1 : Option MV} {u2 : Option MV} {u3 : Option MV} {u4 : Option MV} {u5 : Option MV} {h : MH}   (k : Wb rod d B_Model_wants 119 [u0, u1, u2, u3, u4, u5] [.inl (0 : Int32)] h Q) : Wb rod d B_Model_wants 118 [u0, u1, u2, u3, u4, u5] [] h Q := by
  refine Wb.go (fun r hr q => b_Model_wants_118 ?_) k
  (first | exact q | (simp only [Option.getD_some]; exact q))
theorem w_Model_wants_119 {rod : Nat → Nat × (Nat → Int32)} {d : Nat} {Q : Option MV → MH → Prop} {u0 : Option MV} {u1 : Option MV} {u2 : Option MV} {u3 : Option MV} {u4 : Option MV} {u5 : Option MV} {xs0 : Int32} {h : MH}  (g0 : xs0 = 0 ∨ xs0 = 1) (q : Q (some (.inl xs0)) h) : Wb rod d B_Model_wants 119 [u0, u1, u2, u3, u4, u5] [.inl xs0] h Q := by
  refine Wb.ret (b_Model_wants_119 (d01 g0)) ?_
  (first | exact q | (simp only [Option.getD_some]; exact q))
theorem n_Model_deed {rod : Nat → Nat × (Nat → Int32)} {d : Nat} {Q : Option MV → MH → Prop} {x1 : Int32} {x2 : Int32} {x3 : Int32} {h : MH} (k : Wb rod d B_Model_deed 0 [some (.inr (.inr (.inl (some 84)))), some (.inl x1), some (.inl x2), some (.inl x3)] [] h Q) : Wc rod (d + 1) 229 [.inr (.inr (.inl (some 84))), .inl x1, .inl x2, .inl x3] h Q := Wc.en (fun _ _ => e_Model_deed) k
theorem w_Model_deed_0 {rod : Nat → Nat × (Nat → Int32)} {d : Nat} {Q : Option MV → MH → Prop} {x1 : Int32} {u2 : Option MV} {u3 : Option MV} {h : MH} (L : Lay h.2)  {Q1 : Option MV → MH → Prop} (c : Wc rod d 230 [.inr (.inr (.inl (some 84))), .inl x1] h Q1) (k : ∀ r1 h2, Q1 r1 h2 → Wb rod d B_Model_deed 5 [some (.inr (.inr (.inl (some 84)))), some (.inl x1), u2, u3] (r1.toList ++ []) h2 Q) : Wb rod d B_Model_deed 0 [some (.inr (.inr (.inl (some 84)))), some (.inl x1), u2, u3] [] h Q := by
  refine Wb.call (fun _ _ _ _ => b_Model_deed_0 (Lay.o84 L)) (Q1 := Q1) ?_ ?_
  · (first | exact c | (simp only [Option.getD_some]; exact c))
  · (first | exact k | (simp only [Option.getD_some]; exact k))
theorem w_Model_deed_5 {rod : Nat → Nat × (Nat → Int32)} {d : Nat} {Q : Option MV → MH → Prop} {u0 : Option MV} {u1 : Option MV} {u2 : Option MV} {u3 : Option MV} {xs0 : Int32} {h : MH}   (k1 : ¬ xs0.toInt = 0 → Wb rod d B_Model_deed 11 [u0, u1, u2, u3] [] h Q) (k2 : xs0.toInt = 0 → Wb rod d B_Model_deed 8 [u0, u1, u2, u3] [] h Q) : Wb rod d B_Model_deed 5 [u0, u1, u2, u3] [.inl xs0] h Q := by
  refine Wb.br (fun _ _ => b_Model_deed_5) (fun c => ?_) (fun c => ?_)
  · have c : (!(decide (xs0 = 0))) = true := by first | exact c | (simp only [Option.getD_some] at c; exact c)
    (first | exact (k1 (c_net c)) | (simp only [Option.getD_some]; exact (k1 (c_net c))))
  · have c : (!(decide (xs0 = 0))) = false := by first | exact c | (simp only [Option.getD_some] at c; exact c)
    (first | exact (k2 (c_nef c)) | (simp only [Option.getD_some]; exact (k2 (c_nef c))))
theorem w_Model_deed_8 {rod : Nat → Nat × (Nat → Int32)} {d : Nat} {Q : Option MV → MH → Prop} {u0 : Option MV} {u1 : Option MV} {u2 : Option MV} {u3 : Option MV} {h : MH}   (q : Q (some (.inl (-2 : Int32))) h) : Wb rod d B_Model_deed 8 [u0, u1, u2, u3] [] h Q := by
  refine Wb.ret (b_Model_deed_8) ?_
  (first | exact q | (simp only [Option.getD_some]; exact q))
theorem w_Model_deed_11 {rod : Nat → Nat × (Nat → Int32)} {d : Nat} {Q : Option MV → MH → Prop} {u0 : Option MV} {u1 : Option MV} {x2 : Int32} {u3 : Option MV} {h : MH}   (k1 : ¬ x2.toInt = (-1) → Wb rod d B_Model_deed 35 [u0, u1, some (.inl x2), u3] [] h Q) (k2 : x2.toInt = (-1) → Wb rod d B_Model_deed 16 [u0, u1, some (.inl x2), u3] [] h Q) : Wb rod d B_Model_deed 11 [u0, u1, some (.inl x2), u3] [] h Q := by
  refine Wb.br (fun _ _ => b_Model_deed_11) (fun c => ?_) (fun c => ?_)
  · have c : (!(decide (x2 = (-1 : Int32)))) = true := by first | exact c | (simp only [Option.getD_some] at c; exact c)
    (first | exact (k1 (c_net c)) | (simp only [Option.getD_some]; exact (k1 (c_net c))))
  · have c : (!(decide (x2 = (-1 : Int32)))) = false := by first | exact c | (simp only [Option.getD_some] at c; exact c)
    (first | exact (k2 (c_nef c)) | (simp only [Option.getD_some]; exact (k2 (c_nef c))))
theorem w_Model_deed_16 {rod : Nat → Nat × (Nat → Int32)} {d : Nat} {Q : Option MV → MH → Prop} {u0 : Option MV} {u1 : Option MV} {u2 : Option MV} {x3 : Int32} {h : MH}   (k1 : ¬ x3.toInt = 0 → Wb rod d B_Model_deed 32 [u0, u1, u2, some (.inl x3)] [] h Q) (k2 : x3.toInt = 0 → Wb rod d B_Model_deed 20 [u0, u1, u2, some (.inl x3)] [] h Q) : Wb rod d B_Model_deed 16 [u0, u1, u2, some (.inl x3)] [] h Q := by
  refine Wb.br (fun _ _ => b_Model_deed_16) (fun c => ?_) (fun c => ?_)
  · have c : (!(decide (x3 = 0))) = true := by first | exact c | (simp only [Option.getD_some] at c; exact c)
    (first | exact (k1 (c_net c)) | (simp only [Option.getD_some]; exact (k1 (c_net c))))
  · have c : (!(decide (x3 = 0))) = false := by first | exact c | (simp only [Option.getD_some] at c; exact c)
    (first | exact (k2 (c_nef c)) | (simp only [Option.getD_some]; exact (k2 (c_nef c))))
theorem w_Model_deed_20 {rod : Nat → Nat × (Nat → Int32)} {d : Nat} {Q : Option MV → MH → Prop} {u1 : Option MV} {u2 : Option MV} {u3 : Option MV} {h : MH} (L : Lay h.2) (g0 : 0 ≤ (h.1 84 20).toInt ∧ (h.1 84 20).toInt < 4584) (k : Wb rod d B_Model_deed 34 [some (.inr (.inr (.inl (some 84)))), u1, u2, u3] [.inl (h.1 85 (h.1 84 20).toNatClampNeg)] h Q) : Wb rod d B_Model_deed 20 [some (.inr (.inr (.inl (some 84)))), u1, u2, u3] [] h Q := by
  refine Wb.go (fun r hr q => b_Model_deed_20 (Lay.o84 L) (Lay.a84_0 L (by first | exact g0 | (simp only [Option.getD_some, (Lay.r84_0 L)]; exact g0))) ?_) k
  (first | exact q | (simp only [Option.getD_some, (Lay.r84_0 L)]; exact q))
theorem w_Model_deed_32 {rod : Nat → Nat × (Nat → Int32)} {d : Nat} {Q : Option MV → MH → Prop} {u0 : Option MV} {u1 : Option MV} {u2 : Option MV} {u3 : Option MV} {h : MH}   (k : Wb rod d B_Model_deed 34 [u0, u1, u2, u3] [.inl (-2 : Int32)] h Q) : Wb rod d B_Model_deed 32 [u0, u1, u2, u3] [] h Q := by
  refine Wb.go (fun r hr q => b_Model_deed_32 ?_) k
  (first | exact q | (simp only [Option.getD_some]; exact q))
theorem w_Model_deed_34 {rod : Nat → Nat × (Nat → Int32)} {d : Nat} {Q : Option MV → MH → Prop} {u0 : Option MV} {u1 : Option MV} {u2 : Option MV} {u3 : Option MV} {xs0 : Int32} {h : MH}   (q : Q (some (.inl xs0)) h) : Wb rod d B_Model_deed 34 [u0, u1, u2, u3] [.inl xs0] h Q := by
  refine Wb.ret (b_Model_deed_34) ?_
  (first | exact q | (simp only [Option.getD_some]; exact q))
theorem w_Model_deed_35 {rod : Nat → Nat × (Nat → Int32)} {d : Nat} {Q : Option MV → MH → Prop} {u1 : Option MV} {x2 : Int32} {u3 : Option MV} {h : MH} (L : Lay h.2) (g0 : 0 ≤ (h.1 84 20).toInt ∧ (h.1 84 20).toInt < 4584) {Q1 : Option MV → MH → Prop} (c : Wc rod d 193 [.inl x2, .inl (0 : Int32), .inl ((h.1 85 (h.1 84 20).toNatClampNeg) - (1 : Int32))] h Q1) (k : ∀ r1 h2, Q1 r1 h2 → Wb rod d B_Model_deed 51 [some (.inr (.inr (.inl (some 84)))), u1, some (.inl x2), u3] (r1.toList ++ []) h2 Q) : Wb rod d B_Model_deed 35 [some (.inr (.inr (.inl (some 84)))), u1, some (.inl x2), u3] [] h Q := by
  refine Wb.call (fun _ _ _ _ => b_Model_deed_35 (Lay.o84 L) (Lay.a84_0 L (by first | exact g0 | (simp only [Option.getD_some, (Lay.r84_0 L)]; exact g0)))) (Q1 := Q1) ?_ ?_
  · (first | exact c | (simp only [Option.getD_some, (Lay.r84_0 L)]; exact c))
  · (first | exact k | (simp only [Option.getD_some, (Lay.r84_0 L)]; exact k))
theorem w_Model_deed_51 {rod : Nat → Nat × (Nat → Int32)} {d : Nat} {Q : Option MV → MH → Prop} {u0 : Option MV} {u1 : Option MV} {u2 : Option MV} {u3 : Option MV} {xs0 : Int32} {h : MH}   (k1 : xs0.toInt = 0 → Wb rod d B_Model_deed 83 [u0, u1, u2, u3] [] h Q) (k2 : ¬ xs0.toInt = 0 → Wb rod d B_Model_deed 54 [u0, u1, u2, u3] [] h Q) : Wb rod d B_Model_deed 51 [u0, u1, u2, u3] [.inl xs0] h Q := by
  refine Wb.br (fun _ _ => b_Model_deed_51) (fun c => ?_) (fun c => ?_)
  · have c : (decide (xs0 = 0)) = true := by first | exact c | (simp only [Option.getD_some] at c; exact c)
    (first | exact (k1 (c_eqt c)) | (simp only [Option.getD_some]; exact (k1 (c_eqt c))))
  · have c : (decide (xs0 = 0)) = false := by first | exact c | (simp only [Option.getD_some] at c; exact c)
    (first | exact (k2 (c_eqf c)) | (simp only [Option.getD_some]; exact (k2 (c_eqf c))))
theorem w_Model_deed_54 {rod : Nat → Nat × (Nat → Int32)} {d : Nat} {Q : Option MV → MH → Prop} {u0 : Option MV} {u1 : Option MV} {u2 : Option MV} {x3 : Int32} {h : MH}   {Q1 : Option MV → MH → Prop} (c : Wc rod d 193 [.inl x3, .inl (0 : Int32), .inl (2 : Int32)] h Q1) (k : ∀ r1 h2, Q1 r1 h2 → Wb rod d B_Model_deed 60 [u0, u1, u2, some (.inl x3)] (r1.toList ++ []) h2 Q) : Wb rod d B_Model_deed 54 [u0, u1, u2, some (.inl x3)] [] h Q := by
  refine Wb.call (fun _ _ _ _ => b_Model_deed_54) (Q1 := Q1) ?_ ?_
  · (first | exact c | (simp only [Option.getD_some]; exact c))
  · (first | exact k | (simp only [Option.getD_some]; exact k))
theorem w_Model_deed_60 {rod : Nat → Nat × (Nat → Int32)} {d : Nat} {Q : Option MV → MH → Prop} {u0 : Option MV} {u1 : Option MV} {u2 : Option MV} {u3 : Option MV} {xs0 : Int32} {h : MH}   (k1 : xs0.toInt = 0 → Wb rod d B_Model_deed 83 [u0, u1, u2, u3] [] h Q) (k2 : ¬ xs0.toInt = 0 → Wb rod d B_Model_deed 63 [u0, u1, u2, u3] [] h Q) : Wb rod d B_Model_deed 60 [u0, u1, u2, u3] [.inl xs0] h Q := by
  refine Wb.br (fun _ _ => b_Model_deed_60) (fun c => ?_) (fun c => ?_)
  · have c : (decide (xs0 = 0)) = true := by first | exact c | (simp only [Option.getD_some] at c; exact c)
    (first | exact (k1 (c_eqt c)) | (simp only [Option.getD_some]; exact (k1 (c_eqt c))))
  · have c : (decide (xs0 = 0)) = false := by first | exact c | (simp only [Option.getD_some] at c; exact c)
    (first | exact (k2 (c_eqf c)) | (simp only [Option.getD_some]; exact (k2 (c_eqf c))))
theorem w_Model_deed_63 {rod : Nat → Nat × (Nat → Int32)} {d : Nat} {Q : Option MV → MH → Prop} {u1 : Option MV} {x2 : Int32} {x3 : Int32} {h : MH} (L : Lay h.2) (g0 : 0 ≤ ((((h.1 84 20) + (1 : Int32)) + ((3 : Int32) * x2)) + x3).toInt ∧ ((((h.1 84 20) + (1 : Int32)) + ((3 : Int32) * x2)) + x3).toInt < 4584) (k : Wb rod d B_Model_deed 85 [some (.inr (.inr (.inl (some 84)))), u1, some (.inl x2), some (.inl x3)] [.inl (h.1 85 ((((h.1 84 20) + (1 : Int32)) + ((3 : Int32) * x2)) + x3).toNatClampNeg)] h Q) : Wb rod d B_Model_deed 63 [some (.inr (.inr (.inl (some 84)))), u1, some (.inl x2), some (.inl x3)] [] h Q := by
  refine Wb.go (fun r hr q => b_Model_deed_63 (Lay.o84 L) (Lay.a84_0 L (by first | exact g0 | (simp only [Option.getD_some, (Lay.r84_0 L)]; exact g0))) ?_) k
  (first | exact q | (simp only [Option.getD_some, (Lay.r84_0 L)]; exact q))
theorem w_Model_deed_83 {rod : Nat → Nat × (Nat → Int32)} {d : Nat} {Q : Option MV → MH → Prop} {u0 : Option MV} {u1 : Option MV} {u2 : Option MV} {u3 : Option MV} {h : MH}   (k : Wb rod d B_Model_deed 85 [u0, u1, u2, u3] [.inl (-2 : Int32)] h Q) : Wb rod d B_Model_deed 83 [u0, u1, u2, u3] [] h Q := by
  refine Wb.go (fun r hr q => b_Model_deed_83 ?_) k
  (first | exact q | (simp only [Option.getD_some]; exact q))
theorem w_Model_deed_85 {rod : Nat → Nat × (Nat → Int32)} {d : Nat} {Q : Option MV → MH → Prop} {u0 : Option MV} {u1 : Option MV} {u2 : Option MV} {u3 : Option MV} {xs0 : Int32} {h : MH}   (q : Q (some (.inl xs0)) h) : Wb rod d B_Model_deed 85 [u0, u1, u2, u3] [.inl xs0] h Q := by
  refine Wb.ret (b_Model_deed_85) ?_
  (first | exact q | (simp only [Option.getD_some]; exact q))
theorem n_Model_isSeason {rod : Nat → Nat × (Nat → Int32)} {d : Nat} {Q : Option MV → MH → Prop} {x1 : Int32} {h : MH} (k : Wb rod d B_Model_isSeason 0 [some (.inr (.inr (.inl (some 84)))), some (.inl x1)] [] h Q) : Wc rod (d + 1) 230 [.inr (.inr (.inl (some 84))), .inl x1] h Q := Wc.en (fun _ _ => e_Model_isSeason) k
theorem w_Model_isSeason_0 {rod : Nat → Nat × (Nat → Int32)} {d : Nat} {Q : Option MV → MH → Prop} {x1 : Int32} {h : MH} (L : Lay h.2)  {Q1 : Option MV → MH → Prop} (c : Wc rod d 194 [.inr (.inr (.inl (some 84))), .inl (1 : Int32), .inl x1] h Q1) (k : ∀ r1 h2, Q1 r1 h2 → Wb rod d B_Model_isSeason 6 [some (.inr (.inr (.inl (some 84)))), some (.inl x1)] (r1.toList ++ []) h2 Q) : Wb rod d B_Model_isSeason 0 [some (.inr (.inr (.inl (some 84)))), some (.inl x1)] [] h Q := by
  refine Wb.call (fun _ _ _ _ => b_Model_isSeason_0 (Lay.o84 L)) (Q1 := Q1) ?_ ?_
  · (first | exact c | (simp only [Option.getD_some]; exact c))
  · (first | exact k | (simp only [Option.getD_some]; exact k))
theorem w_Model_isSeason_6 {rod : Nat → Nat × (Nat → Int32)} {d : Nat} {Q : Option MV → MH → Prop} {u0 : Option MV} {u1 : Option MV} {xs0 : Int32} {h : MH}   (k1 : ¬ xs0.toInt = 0 → Wb rod d B_Model_isSeason 11 [u0, u1] [] h Q) (k2 : xs0.toInt = 0 → Wb rod d B_Model_isSeason 9 [u0, u1] [] h Q) : Wb rod d B_Model_isSeason 6 [u0, u1] [.inl xs0] h Q := by
  refine Wb.br (fun _ _ => b_Model_isSeason_6) (fun c => ?_) (fun c => ?_)
  · have c : (!(decide (xs0 = 0))) = true := by first | exact c | (simp only [Option.getD_some] at c; exact c)
    (first | exact (k1 (c_net c)) | (simp only [Option.getD_some]; exact (k1 (c_net c))))
  · have c : (!(decide (xs0 = 0))) = false := by first | exact c | (simp only [Option.getD_some] at c; exact c)
    (first | exact (k2 (c_nef c)) | (simp only [Option.getD_some]; exact (k2 (c_nef c))))
theorem w_Model_isSeason_9 {rod : Nat → Nat × (Nat → Int32)} {d : Nat} {Q : Option MV → MH → Prop} {u0 : Option MV} {u1 : Option MV} {h : MH}   (q : Q (some (.inl (0 : Int32))) h) : Wb rod d B_Model_isSeason 9 [u0, u1] [] h Q := by
  refine Wb.ret (b_Model_isSeason_9) ?_
  (first | exact q | (simp only [Option.getD_some]; exact q))
theorem w_Model_isSeason_11 {rod : Nat → Nat × (Nat → Int32)} {d : Nat} {Q : Option MV → MH → Prop} {x1 : Int32} {h : MH}   {Q1 : Option MV → MH → Prop} (c : Wc rod d 216 [.inl (1 : Int32), .inl x1] h Q1) (k : ∀ r1 h2, Q1 r1 h2 → Wb rod d B_Model_isSeason 17 [some (.inr (.inr (.inl (some 84)))), some (.inl x1)] (r1.toList ++ [.inr (.inr (.inl (some 84)))]) h2 Q) : Wb rod d B_Model_isSeason 11 [some (.inr (.inr (.inl (some 84)))), some (.inl x1)] [] h Q := by
  refine Wb.call (fun _ _ _ _ => b_Model_isSeason_11) (Q1 := Q1) ?_ ?_
  · (first | exact c | (simp only [Option.getD_some]; exact c))
  · (first | exact k | (simp only [Option.getD_some]; exact k))
theorem w_Model_isSeason_17 {rod : Nat → Nat × (Nat → Int32)} {d : Nat} {Q : Option MV → MH → Prop} {u0 : Option MV} {u1 : Option MV} {xs1 : Int32} {h : MH} (L : Lay h.2)  (k : Wb rod d B_Model_isSeason 20 [u0, u1] [] (sI h 84 20 xs1) Q) : Wb rod d B_Model_isSeason 17 [u0, u1] [.inl xs1, .inr (.inr (.inl (some 84)))] h Q := by
  refine Wb.go (fun r hr q => b_Model_isSeason_17 (Lay.o84 L) ?_) k
  (first | exact q | (simp only [Option.getD_some]; exact q))
theorem w_Model_isSeason_20 {rod : Nat → Nat × (Nat → Int32)} {d : Nat} {Q : Option MV → MH → Prop} {u0 : Option MV} {u1 : Option MV} {h : MH}   (q : Q (some (.inl (1 : Int32))) h) : Wb rod d B_Model_isSeason 20 [u0, u1] [] h Q := by
  refine Wb.ret (b_Model_isSeason_20) ?_
  (first | exact q | (simp only [Option.getD_some]; exact q))
theorem n_Model_stop {rod : Nat → Nat × (Nat → Int32)} {d : Nat} {Q : Option MV → MH → Prop} {x1 : Int32} {x2 : Int32} {h : MH} (k : Wb rod d B_Model_stop 0 [some (.inr (.inr (.inl (some 84)))), some (.inl x1), some (.inl x2)] [] h Q) : Wc rod (d + 1) 231 [.inr (.inr (.inl (some 84))), .inl x1, .inl x2] h Q := Wc.en (fun _ _ => e_Model_stop) k
theorem w_Model_stop_0 {rod : Nat → Nat × (Nat → Int32)} {d : Nat} {Q : Option MV → MH → Prop} {x1 : Int32} {u2 : Option MV} {h : MH} (L : Lay h.2)  {Q1 : Option MV → MH → Prop} (c : Wc rod d 219 [.inr (.inr (.inl (some 84))), .inl x1] h Q1) (k : ∀ r1 h2, Q1 r1 h2 → Wb rod d B_Model_stop 5 [some (.inr (.inr (.inl (some 84)))), some (.inl x1), u2] (r1.toList ++ []) h2 Q) : Wb rod d B_Model_stop 0 [some (.inr (.inr (.inl (some 84)))), some (.inl x1), u2] [] h Q := by
  refine Wb.call (fun _ _ _ _ => b_Model_stop_0 (Lay.o84 L)) (Q1 := Q1) ?_ ?_
  · (first | exact c | (simp only [Option.getD_some]; exact c))
  · (first | exact k | (simp only [Option.getD_some]; exact k))
theorem w_Model_stop_5 {rod : Nat → Nat × (Nat → Int32)} {d : Nat} {Q : Option MV → MH → Prop} {u0 : Option MV} {u1 : Option MV} {u2 : Option MV} {xs0 : Int32} {h : MH}   (k1 : xs0.toInt = 0 → Wb rod d B_Model_stop 16 [u0, u1, u2] [] h Q) (k2 : ¬ xs0.toInt = 0 → Wb rod d B_Model_stop 8 [u0, u1, u2] [] h Q) : Wb rod d B_Model_stop 5 [u0, u1, u2] [.inl xs0] h Q := by
  refine Wb.br (fun _ _ => b_Model_stop_5) (fun c => ?_) (fun c => ?_)
  · have c : (decide (xs0 = 0)) = true := by first | exact c | (simp only [Option.getD_some] at c; exact c)
    (first | exact (k1 (c_eqt c)) | (simp only [Option.getD_some]; exact (k1 (c_eqt c))))
  · have c : (decide (xs0 = 0)) = false := by first | exact c | (simp only [Option.getD_some] at c; exact c)
    (first | exact (k2 (c_eqf c)) | (simp only [Option.getD_some]; exact (k2 (c_eqf c))))
theorem w_Model_stop_8 {rod : Nat → Nat × (Nat → Int32)} {d : Nat} {Q : Option MV → MH → Prop} {u1 : Option MV} {x2 : Int32} {h : MH} (L : Lay h.2)  {Q1 : Option MV → MH → Prop} (c : Wc rod d 230 [.inr (.inr (.inl (some 84))), .inl x2] h Q1) (k : ∀ r1 h2, Q1 r1 h2 → Wb rod d B_Model_stop 13 [some (.inr (.inr (.inl (some 84)))), u1, some (.inl x2)] (r1.toList ++ []) h2 Q) : Wb rod d B_Model_stop 8 [some (.inr (.inr (.inl (some 84)))), u1, some (.inl x2)] [] h Q := by
  refine Wb.call (fun _ _ _ _ => b_Model_stop_8 (Lay.o84 L)) (Q1 := Q1) ?_ ?_
  · (first | exact c | (simp only [Option.getD_some]; exact c))
  · (first | exact k | (simp only [Option.getD_some]; exact k))
theorem w_Model_stop_13 {rod : Nat → Nat × (Nat → Int32)} {d : Nat} {Q : Option MV → MH → Prop} {u0 : Option MV} {u1 : Option MV} {u2 : Option MV} {xs0 : Int32} {h : MH}   (k1 : ¬ xs0.toInt = 0 → Wb rod d B_Model_stop 18 [u0, u1, u2] [] h Q) (k2 : xs0.toInt = 0 → Wb rod d B_Model_stop 16 [u0, u1, u2] [] h Q) : Wb rod d B_Model_stop 13 [u0, u1, u2] [.inl xs0] h Q := by
  refine Wb.br (fun _ _ => b_Model_stop_13) (fun c => ?_) (fun c => ?_)
  · have c : (!(decide (xs0 = 0))) = true := by first | exact c | (simp only [Option.getD_some] at c; exact c)
    (first | exact (k1 (c_net c)) | (simp only [Option.getD_some]; exact (k1 (c_net c))))
  · have c : (!(decide (xs0 = 0))) = false := by first | exact c | (simp only [Option.getD_some] at c; exact c)
    (first | exact (k2 (c_nef c)) | (simp only [Option.getD_some]; exact (k2 (c_nef c))))
theorem w_Model_stop_16 {rod : Nat → Nat × (Nat → Int32)} {d : Nat} {Q : Option MV → MH → Prop} {u0 : Option MV} {u1 : Option MV} {u2 : Option MV} {h : MH}   (q : Q (some (.inl (-1 : Int32))) h) : Wb rod d B_Model_stop 16 [u0, u1, u2] [] h Q := by
  refine Wb.ret (b_Model_stop_16) ?_
  (first | exact q | (simp only [Option.getD_some]; exact q))
theorem w_Model_stop_18 {rod : Nat → Nat × (Nat → Int32)} {d : Nat} {Q : Option MV → MH → Prop} {u1 : Option MV} {u2 : Option MV} {h : MH} (L : Lay h.2)  {Q1 : Option MV → MH → Prop} (c : Wc rod d 232 [.inr (.inr (.inl (some 84))), .inl (40 : Int32)] h Q1) (k : ∀ r1 h2, Q1 r1 h2 → Wb rod d B_Model_stop 24 [some (.inr (.inr (.inl (some 84)))), u1, u2] (r1.toList ++ []) h2 Q) : Wb rod d B_Model_stop 18 [some (.inr (.inr (.inl (some 84)))), u1, u2] [] h Q := by
  refine Wb.call (fun _ _ _ _ => b_Model_stop_18 (Lay.o84 L)) (Q1 := Q1) ?_ ?_
  · (first | exact c | (simp only [Option.getD_some]; exact c))
  · (first | exact k | (simp only [Option.getD_some]; exact k))
theorem w_Model_stop_24 {rod : Nat → Nat × (Nat → Int32)} {d : Nat} {Q : Option MV → MH → Prop} {u1 : Option MV} {u2 : Option MV} {h : MH} (L : Lay h.2)  (q : Q (some (.inl (h.1 84 28))) h) : Wb rod d B_Model_stop 24 [some (.inr (.inr (.inl (some 84)))), u1, u2] [] h Q := by
  refine Wb.ret (b_Model_stop_24 (Lay.o84 L)) ?_
  (first | exact q | (simp only [Option.getD_some]; exact q))
theorem n_Model_runs {rod : Nat → Nat × (Nat → Int32)} {d : Nat} {Q : Option MV → MH → Prop} {x1 : Int32} {h : MH} (k : Wb rod d B_Model_runs 0 [some (.inr (.inr (.inl (some 84)))), some (.inl x1)] [] h Q) : Wc rod (d + 1) 232 [.inr (.inr (.inl (some 84))), .inl x1] h Q := Wc.en (fun _ _ => e_Model_runs) k
theorem w_Model_runs_0 {rod : Nat → Nat × (Nat → Int32)} {d : Nat} {Q : Option MV → MH → Prop} {u1 : Option MV} {h : MH} (L : Lay h.2)  {Q1 : Option MV → MH → Prop} (c : Wc rod d 233 [.inr (.inr (.inl (some 84)))] h Q1) (k : ∀ r1 h2, Q1 r1 h2 → Wb rod d B_Model_runs 4 [some (.inr (.inr (.inl (some 84)))), u1] (r1.toList ++ []) h2 Q) : Wb rod d B_Model_runs 0 [some (.inr (.inr (.inl (some 84)))), u1] [] h Q := by
  refine Wb.call (fun _ _ _ _ => b_Model_runs_0 (Lay.o84 L)) (Q1 := Q1) ?_ ?_
  · (first | exact c | (simp only [Option.getD_some]; exact c))
  · (first | exact k | (simp only [Option.getD_some]; exact k))
theorem w_Model_runs_4 {rod : Nat → Nat × (Nat → Int32)} {d : Nat} {Q : Option MV → MH → Prop} {x1 : Int32} {h : MH} (L : Lay h.2)  (k1 : x1.toInt ≤ (h.1 84 28).toInt → Wb rod d B_Model_runs 102 [some (.inr (.inr (.inl (some 84)))), some (.inl x1)] [] h Q) (k2 : ¬ x1.toInt ≤ (h.1 84 28).toInt → Wb rod d B_Model_runs 12 [some (.inr (.inr (.inl (some 84)))), some (.inl x1)] [] h Q) : Wb rod d B_Model_runs 4 [some (.inr (.inr (.inl (some 84)))), some (.inl x1)] [] h Q := by
  refine Wb.br (fun _ _ => b_Model_runs_4 (Lay.o84 L)) (fun c => ?_) (fun c => ?_)
  · have c : (decide (x1 ≤ (h.1 84 28))) = true := by first | exact c | (simp only [Option.getD_some] at c; exact c)
    (first | exact (k1 (c_let c)) | (simp only [Option.getD_some]; exact (k1 (c_let c))))
  · have c : (decide (x1 ≤ (h.1 84 28))) = false := by first | exact c | (simp only [Option.getD_some] at c; exact c)
    (first | exact (k2 (c_lef c)) | (simp only [Option.getD_some]; exact (k2 (c_lef c))))
theorem w_Model_runs_12 {rod : Nat → Nat × (Nat → Int32)} {d : Nat} {Q : Option MV → MH → Prop} {u1 : Option MV} {h : MH} (L : Lay h.2) (g0 : 0 ≤ (h.1 84 20).toInt ∧ (h.1 84 20).toInt < 4584) (k1 : (h.1 85 (h.1 84 20).toNatClampNeg).toInt ≤ (h.1 84 28).toInt → Wb rod d B_Model_runs 102 [some (.inr (.inr (.inl (some 84)))), u1] [] h Q) (k2 : ¬ (h.1 85 (h.1 84 20).toNatClampNeg).toInt ≤ (h.1 84 28).toInt → Wb rod d B_Model_runs 28 [some (.inr (.inr (.inl (some 84)))), u1] [] h Q) : Wb rod d B_Model_runs 12 [some (.inr (.inr (.inl (some 84)))), u1] [] h Q := by
  refine Wb.br (fun _ _ => b_Model_runs_12 (Lay.o84 L) (Lay.a84_0 L (by first | exact g0 | (simp only [Option.getD_some, (Lay.r84_0 L)]; exact g0)))) (fun c => ?_) (fun c => ?_)
  · have c : (decide ((h.1 85 (h.1 84 20).toNatClampNeg) ≤ (h.1 84 28))) = true := by first | exact c | (simp only [Option.getD_some, (Lay.r84_0 L)] at c; exact c)
    (first | exact (k1 (c_let c)) | (simp only [Option.getD_some, (Lay.r84_0 L)]; exact (k1 (c_let c))))
  · have c : (decide ((h.1 85 (h.1 84 20).toNatClampNeg) ≤ (h.1 84 28))) = false := by first | exact c | (simp only [Option.getD_some, (Lay.r84_0 L)] at c; exact c)
    (first | exact (k2 (c_lef c)) | (simp only [Option.getD_some, (Lay.r84_0 L)]; exact (k2 (c_lef c))))
theorem w_Model_runs_28 {rod : Nat → Nat × (Nat → Int32)} {d : Nat} {Q : Option MV → MH → Prop} {u1 : Option MV} {h : MH} (L : Lay h.2) (g0 : 0 ≤ (((h.1 84 20) + (1 : Int32)) + ((3 : Int32) * (h.1 84 28))).toInt ∧ (((h.1 84 20) + (1 : Int32)) + ((3 : Int32) * (h.1 84 28))).toInt < 4584) (g1 : 0 ≤ (((h.1 84 20) + (2 : Int32)) + ((3 : Int32) * (h.1 84 28))).toInt ∧ (((h.1 84 20) + (2 : Int32)) + ((3 : Int32) * (h.1 84 28))).toInt < 4584) (g2 : 0 ≤ (((h.1 84 20) + (3 : Int32)) + ((3 : Int32) * (h.1 84 28))).toInt ∧ (((h.1 84 20) + (3 : Int32)) + ((3 : Int32) * (h.1 84 28))).toInt < 4584) {Q1 : Option MV → MH → Prop} (c : Wc rod d 234 [.inr (.inr (.inl (some 84))), .inl (h.1 85 (((h.1 84 20) + (1 : Int32)) + ((3 : Int32) * (h.1 84 28))).toNatClampNeg), .inl (h.1 85 (((h.1 84 20) + (2 : Int32)) + ((3 : Int32) * (h.1 84 28))).toNatClampNeg), .inl (h.1 85 (((h.1 84 20) + (3 : Int32)) + ((3 : Int32) * (h.1 84 28))).toNatClampNeg)] h Q1) (k : ∀ r1 h2, Q1 r1 h2 → Wb rod d B_Model_runs 86 [some (.inr (.inr (.inl (some 84)))), u1] (r1.toList ++ []) h2 Q) : Wb rod d B_Model_runs 28 [some (.inr (.inr (.inl (some 84)))), u1] [] h Q := by
  refine Wb.call (fun _ _ _ _ => b_Model_runs_28 (Lay.o84 L) (Lay.a84_0 L (by first | exact g0 | (simp only [Option.getD_some, (Lay.r84_0 L)]; exact g0))) (Lay.a84_0 L (by first | exact g1 | (simp only [Option.getD_some, (Lay.r84_0 L)]; exact g1))) (Lay.a84_0 L (by first | exact g2 | (simp only [Option.getD_some, (Lay.r84_0 L)]; exact g2)))) (Q1 := Q1) ?_ ?_
  · (first | exact c | (simp only [Option.getD_some, (Lay.r84_0 L)]; exact c))
  · (first | exact k | (simp only [Option.getD_some, (Lay.r84_0 L)]; exact k))
theorem w_Model_runs_86 {rod : Nat → Nat × (Nat → Int32)} {d : Nat} {Q : Option MV → MH → Prop} {u0 : Option MV} {u1 : Option MV} {xs0 : Int32} {h : MH}   (k1 : xs0.toInt = 0 → Wb rod d B_Model_runs 102 [u0, u1] [] h Q) (k2 : ¬ xs0.toInt = 0 → Wb rod d B_Model_runs 89 [u0, u1] [] h Q) : Wb rod d B_Model_runs 86 [u0, u1] [.inl xs0] h Q := by
  refine Wb.br (fun _ _ => b_Model_runs_86) (fun c => ?_) (fun c => ?_)
  · have c : (decide (xs0 = 0)) = true := by first | exact c | (simp only [Option.getD_some] at c; exact c)
    (first | exact (k1 (c_eqt c)) | (simp only [Option.getD_some]; exact (k1 (c_eqt c))))
  · have c : (decide (xs0 = 0)) = false := by first | exact c | (simp only [Option.getD_some] at c; exact c)
    (first | exact (k2 (c_eqf c)) | (simp only [Option.getD_some]; exact (k2 (c_eqf c))))
theorem w_Model_runs_89 {rod : Nat → Nat × (Nat → Int32)} {d : Nat} {Q : Option MV → MH → Prop} {u1 : Option MV} {h : MH} (L : Lay h.2)  (k : Wb rod d B_Model_runs 99 [some (.inr (.inr (.inl (some 84)))), u1] [] (sI h 84 28 ((h.1 84 28) + (1 : Int32))) Q) : Wb rod d B_Model_runs 89 [some (.inr (.inr (.inl (some 84)))), u1] [] h Q := by
  refine Wb.go (fun r hr q => b_Model_runs_89 (Lay.o84 L) ?_) k
  (first | exact q | (simp only [Option.getD_some]; exact q))
theorem w_Model_runs_99 {rod : Nat → Nat × (Nat → Int32)} {d : Nat} {Q : Option MV → MH → Prop} {u0 : Option MV} {u1 : Option MV} {h : MH}   (k : Wb rod d B_Model_runs 4 [u0, u1] [] h Q) : Wb rod d B_Model_runs 99 [u0, u1] [] h Q := by
  refine Wb.go (fun r hr q => b_Model_runs_99 ?_) k
  (first | exact q | (simp only [Option.getD_some]; exact q))
theorem w_Model_runs_102 {rod : Nat → Nat × (Nat → Int32)} {d : Nat} {Q : Option MV → MH → Prop} {u0 : Option MV} {u1 : Option MV} {h : MH}   (q : Q (none) h) : Wb rod d B_Model_runs 102 [u0, u1] [] h Q := by
  refine Wb.ret (b_Model_runs_102) ?_
  (first | exact q | (simp only [Option.getD_some]; exact q))
theorem n_Model_begins {rod : Nat → Nat × (Nat → Int32)} {d : Nat} {Q : Option MV → MH → Prop}  {h : MH} (k : Wb rod d B_Model_begins 0 [some (.inr (.inr (.inl (some 84))))] [] h Q) : Wc rod (d + 1) 233 [.inr (.inr (.inl (some 84)))] h Q := Wc.en (fun _ _ => e_Model_begins) k
theorem w_Model_begins_0 {rod : Nat → Nat × (Nat → Int32)} {d : Nat} {Q : Option MV → MH → Prop}  {h : MH} (L : Lay h.2)  {Q1 : Option MV → MH → Prop} (c : Wc rod d 227 [.inr (.inr (.inl (some 84)))] h Q1) (k : ∀ r1 h2, Q1 r1 h2 → Wb rod d B_Model_begins 4 [some (.inr (.inr (.inl (some 84))))] (r1.toList ++ []) h2 Q) : Wb rod d B_Model_begins 0 [some (.inr (.inr (.inl (some 84))))] [] h Q := by
  refine Wb.call (fun _ _ _ _ => b_Model_begins_0 (Lay.o84 L)) (Q1 := Q1) ?_ ?_
  · (first | exact c | (simp only [Option.getD_some]; exact c))
  · (first | exact k | (simp only [Option.getD_some]; exact k))
theorem w_Model_begins_4 {rod : Nat → Nat × (Nat → Int32)} {d : Nat} {Q : Option MV → MH → Prop}  {h : MH} (L : Lay h.2)  (k : Wb rod d B_Model_begins 9 [some (.inr (.inr (.inl (some 84))))] [] (sI h 84 21 (0 : Int32)) Q) : Wb rod d B_Model_begins 4 [some (.inr (.inr (.inl (some 84))))] [] h Q := by
  refine Wb.go (fun r hr q => b_Model_begins_4 (Lay.o84 L) ?_) k
  (first | exact q | (simp only [Option.getD_some]; exact q))
theorem w_Model_begins_9 {rod : Nat → Nat × (Nat → Int32)} {d : Nat} {Q : Option MV → MH → Prop}  {h : MH} (L : Lay h.2)  (k : Wb rod d B_Model_begins 14 [some (.inr (.inr (.inl (some 84))))] [] (sI h 84 22 (0 : Int32)) Q) : Wb rod d B_Model_begins 9 [some (.inr (.inr (.inl (some 84))))] [] h Q := by
  refine Wb.go (fun r hr q => b_Model_begins_9 (Lay.o84 L) ?_) k
  (first | exact q | (simp only [Option.getD_some]; exact q))
theorem w_Model_begins_14 {rod : Nat → Nat × (Nat → Int32)} {d : Nat} {Q : Option MV → MH → Prop}  {h : MH} (L : Lay h.2) (g0 : 0 ≤ ((h.1 84 12) + (5 : Int32)).toInt ∧ ((h.1 84 12) + (5 : Int32)).toInt < 4584) (k : Wb rod d B_Model_begins 29 [some (.inr (.inr (.inl (some 84))))] [] (sI h 84 23 (h.1 85 ((h.1 84 12) + (5 : Int32)).toNatClampNeg)) Q) : Wb rod d B_Model_begins 14 [some (.inr (.inr (.inl (some 84))))] [] h Q := by
  refine Wb.go (fun r hr q => b_Model_begins_14 (Lay.o84 L) (Lay.a84_0 L (by first | exact g0 | (simp only [Option.getD_some, (Lay.r84_0 L)]; exact g0))) ?_) k
  (first | exact q | (simp only [Option.getD_some, (Lay.r84_0 L)]; exact q))
theorem w_Model_begins_29 {rod : Nat → Nat × (Nat → Int32)} {d : Nat} {Q : Option MV → MH → Prop}  {h : MH} (L : Lay h.2)  (k : Wb rod d B_Model_begins 34 [some (.inr (.inr (.inl (some 84))))] [] (sI h 84 24 (0 : Int32)) Q) : Wb rod d B_Model_begins 29 [some (.inr (.inr (.inl (some 84))))] [] h Q := by
  refine Wb.go (fun r hr q => b_Model_begins_29 (Lay.o84 L) ?_) k
  (first | exact q | (simp only [Option.getD_some]; exact q))
theorem w_Model_begins_34 {rod : Nat → Nat × (Nat → Int32)} {d : Nat} {Q : Option MV → MH → Prop}  {h : MH} (L : Lay h.2)  (k : Wb rod d B_Model_begins 39 [some (.inr (.inr (.inl (some 84))))] [] (sI h 84 25 (0 : Int32)) Q) : Wb rod d B_Model_begins 34 [some (.inr (.inr (.inl (some 84))))] [] h Q := by
  refine Wb.go (fun r hr q => b_Model_begins_34 (Lay.o84 L) ?_) k
  (first | exact q | (simp only [Option.getD_some]; exact q))
theorem w_Model_begins_39 {rod : Nat → Nat × (Nat → Int32)} {d : Nat} {Q : Option MV → MH → Prop}  {h : MH} (L : Lay h.2)  (k : Wb rod d B_Model_begins 44 [some (.inr (.inr (.inl (some 84))))] [] (sI h 84 26 (0 : Int32)) Q) : Wb rod d B_Model_begins 39 [some (.inr (.inr (.inl (some 84))))] [] h Q := by
  refine Wb.go (fun r hr q => b_Model_begins_39 (Lay.o84 L) ?_) k
  (first | exact q | (simp only [Option.getD_some]; exact q))
theorem w_Model_begins_44 {rod : Nat → Nat × (Nat → Int32)} {d : Nat} {Q : Option MV → MH → Prop}  {h : MH} (L : Lay h.2)  (k : Wb rod d B_Model_begins 49 [some (.inr (.inr (.inl (some 84))))] [] (sI h 84 27 (0 : Int32)) Q) : Wb rod d B_Model_begins 44 [some (.inr (.inr (.inl (some 84))))] [] h Q := by
  refine Wb.go (fun r hr q => b_Model_begins_44 (Lay.o84 L) ?_) k
  (first | exact q | (simp only [Option.getD_some]; exact q))
theorem w_Model_begins_49 {rod : Nat → Nat × (Nat → Int32)} {d : Nat} {Q : Option MV → MH → Prop}  {h : MH} (L : Lay h.2)  (k : Wb rod d B_Model_begins 54 [some (.inr (.inr (.inl (some 84))))] [] (sI h 84 28 (0 : Int32)) Q) : Wb rod d B_Model_begins 49 [some (.inr (.inr (.inl (some 84))))] [] h Q := by
  refine Wb.go (fun r hr q => b_Model_begins_49 (Lay.o84 L) ?_) k
  (first | exact q | (simp only [Option.getD_some]; exact q))
theorem w_Model_begins_54 {rod : Nat → Nat × (Nat → Int32)} {d : Nat} {Q : Option MV → MH → Prop} {u0 : Option MV} {h : MH}   (q : Q (none) h) : Wb rod d B_Model_begins 54 [u0] [] h Q := by
  refine Wb.ret (b_Model_begins_54) ?_
  (first | exact q | (simp only [Option.getD_some]; exact q))
theorem n_Model_does {rod : Nat → Nat × (Nat → Int32)} {d : Nat} {Q : Option MV → MH → Prop} {x1 : Int32} {x2 : Int32} {x3 : Int32} {h : MH} (k : Wb rod d B_Model_does 0 [some (.inr (.inr (.inl (some 84)))), some (.inl x1), some (.inl x2), some (.inl x3), none] [] h Q) : Wc rod (d + 1) 234 [.inr (.inr (.inl (some 84))), .inl x1, .inl x2, .inl x3] h Q := Wc.en (fun _ _ => e_Model_does) k
theorem w_Model_does_0 {rod : Nat → Nat × (Nat → Int32)} {d : Nat} {Q : Option MV → MH → Prop} {u0 : Option MV} {x1 : Int32} {u2 : Option MV} {u3 : Option MV} {u4 : Option MV} {h : MH}   (k0 : x1.toInt = 0 → Wb rod d B_Model_does 40 [u0, some (.inl x1), u2, u3, u4] [] h Q) (k1 : x1.toInt = 1 → Wb rod d B_Model_does 47 [u0, some (.inl x1), u2, u3, u4] [] h Q) (k2 : x1.toInt = 2 → Wb rod d B_Model_does 78 [u0, some (.inl x1), u2, u3, u4] [] h Q) (k3 : x1.toInt = 3 → Wb rod d B_Model_does 84 [u0, some (.inl x1), u2, u3, u4] [] h Q) (k4 : x1.toInt = 4 → Wb rod d B_Model_does 84 [u0, some (.inl x1), u2, u3, u4] [] h Q) (k5 : x1.toInt = 5 → Wb rod d B_Model_does 126 [u0, some (.inl x1), u2, u3, u4] [] h Q) (kd : x1.toInt ≠ 0 → x1.toInt ≠ 1 → x1.toInt ≠ 2 → x1.toInt ≠ 3 → x1.toInt ≠ 4 → x1.toInt ≠ 5 → Wb rod d B_Model_does 171 [u0, some (.inl x1), u2, u3, u4] [] h Q) : Wb rod d B_Model_does 0 [u0, some (.inl x1), u2, u3, u4] [] h Q := by
  have key : Wb rod d B_Model_does (tabT [39, 46, 77, 83, 83, 125] 0 x1 1 171) [u0, some (.inl x1), u2, u3, u4] [] h Q := by
    by_cases e0 : x1 = Int32.ofInt 0
    · rw [show tabT [39, 46, 77, 83, 83, 125] 0 x1 1 171 = 40 from by rw [e0]; rfl]
      exact k0 (by rw [e0]; rfl)
    by_cases e1 : x1 = Int32.ofInt 1
    · rw [show tabT [39, 46, 77, 83, 83, 125] 0 x1 1 171 = 47 from by rw [e1]; rfl]
      exact k1 (by rw [e1]; rfl)
    by_cases e2 : x1 = Int32.ofInt 2
    · rw [show tabT [39, 46, 77, 83, 83, 125] 0 x1 1 171 = 78 from by rw [e2]; rfl]
      exact k2 (by rw [e2]; rfl)
    by_cases e3 : x1 = Int32.ofInt 3
    · rw [show tabT [39, 46, 77, 83, 83, 125] 0 x1 1 171 = 84 from by rw [e3]; rfl]
      exact k3 (by rw [e3]; rfl)
    by_cases e4 : x1 = Int32.ofInt 4
    · rw [show tabT [39, 46, 77, 83, 83, 125] 0 x1 1 171 = 84 from by rw [e4]; rfl]
      exact k4 (by rw [e4]; rfl)
    by_cases e5 : x1 = Int32.ofInt 5
    · rw [show tabT [39, 46, 77, 83, 83, 125] 0 x1 1 171 = 126 from by rw [e5]; rfl]
      exact k5 (by rw [e5]; rfl)
    rw [show tabT [39, 46, 77, 83, 83, 125] 0 x1 1 171 = 171 from (if_neg e0).trans ((if_neg e1).trans ((if_neg e2).trans ((if_neg e3).trans ((if_neg e4).trans ((if_neg e5).trans (rfl))))))]
    exact kd (fun q => e0 (Int32.toInt_inj.mp q)) (fun q => e1 (Int32.toInt_inj.mp q)) (fun q => e2 (Int32.toInt_inj.mp q)) (fun q => e3 (Int32.toInt_inj.mp q)) (fun q => e4 (Int32.toInt_inj.mp q)) (fun q => e5 (Int32.toInt_inj.mp q))
  refine Wb.go (fun r hr q => b_Model_does_0 ?_) key
  (first | exact q | (simp only [Option.getD_some]; exact q))
theorem w_Model_does_40 {rod : Nat → Nat × (Nat → Int32)} {d : Nat} {Q : Option MV → MH → Prop} {u1 : Option MV} {x2 : Int32} {x3 : Int32} {u4 : Option MV} {h : MH} (L : Lay h.2)  {Q1 : Option MV → MH → Prop} (c : Wc rod d 235 [.inr (.inr (.inl (some 84))), .inl x2, .inl x3] h Q1) (k : ∀ r1 h2, Q1 r1 h2 → Wb rod d B_Model_does 46 [some (.inr (.inr (.inl (some 84)))), u1, some (.inl x2), some (.inl x3), u4] (r1.toList ++ []) h2 Q) : Wb rod d B_Model_does 40 [some (.inr (.inr (.inl (some 84)))), u1, some (.inl x2), some (.inl x3), u4] [] h Q := by
  refine Wb.call (fun _ _ _ _ => b_Model_does_40 (Lay.o84 L)) (Q1 := Q1) ?_ ?_
  · (first | exact c | (simp only [Option.getD_some]; exact c))
  · (first | exact k | (simp only [Option.getD_some]; exact k))
theorem w_Model_does_46 {rod : Nat → Nat × (Nat → Int32)} {d : Nat} {Q : Option MV → MH → Prop} {u0 : Option MV} {u1 : Option MV} {u2 : Option MV} {u3 : Option MV} {u4 : Option MV} {xs0 : Int32} {h : MH}  (g0 : xs0 = 0 ∨ xs0 = 1) (q : Q (some (.inl xs0)) h) : Wb rod d B_Model_does 46 [u0, u1, u2, u3, u4] [.inl xs0] h Q := by
  refine Wb.ret (b_Model_does_46 (d01 g0)) ?_
  (first | exact q | (simp only [Option.getD_some]; exact q))
theorem w_Model_does_47 {rod : Nat → Nat × (Nat → Int32)} {d : Nat} {Q : Option MV → MH → Prop} {u1 : Option MV} {x2 : Int32} {u3 : Option MV} {u4 : Option MV} {h : MH} (L : Lay h.2)  {Q1 : Option MV → MH → Prop} (c : Wc rod d 220 [.inr (.inr (.inl (some 84))), .inl x2] h Q1) (k : ∀ r1 h2, Q1 r1 h2 → Wb rod d B_Model_does 52 [some (.inr (.inr (.inl (some 84)))), u1, some (.inl x2), u3, u4] (r1.toList ++ []) h2 Q) : Wb rod d B_Model_does 47 [some (.inr (.inr (.inl (some 84)))), u1, some (.inl x2), u3, u4] [] h Q := by
  refine Wb.call (fun _ _ _ _ => b_Model_does_47 (Lay.o84 L)) (Q1 := Q1) ?_ ?_
  · (first | exact c | (simp only [Option.getD_some]; exact c))
  · (first | exact k | (simp only [Option.getD_some]; exact k))
theorem w_Model_does_52 {rod : Nat → Nat × (Nat → Int32)} {d : Nat} {Q : Option MV → MH → Prop} {u0 : Option MV} {u1 : Option MV} {u2 : Option MV} {u3 : Option MV} {u4 : Option MV} {xs0 : Int32} {h : MH}   (k1 : ¬ xs0.toInt = 0 → Wb rod d B_Model_does 57 [u0, u1, u2, u3, u4] [] h Q) (k2 : xs0.toInt = 0 → Wb rod d B_Model_does 55 [u0, u1, u2, u3, u4] [] h Q) : Wb rod d B_Model_does 52 [u0, u1, u2, u3, u4] [.inl xs0] h Q := by
  refine Wb.br (fun _ _ => b_Model_does_52) (fun c => ?_) (fun c => ?_)
  · have c : (!(decide (xs0 = 0))) = true := by first | exact c | (simp only [Option.getD_some] at c; exact c)
    (first | exact (k1 (c_net c)) | (simp only [Option.getD_some]; exact (k1 (c_net c))))
  · have c : (!(decide (xs0 = 0))) = false := by first | exact c | (simp only [Option.getD_some] at c; exact c)
    (first | exact (k2 (c_nef c)) | (simp only [Option.getD_some]; exact (k2 (c_nef c))))
theorem w_Model_does_55 {rod : Nat → Nat × (Nat → Int32)} {d : Nat} {Q : Option MV → MH → Prop} {u0 : Option MV} {u1 : Option MV} {u2 : Option MV} {u3 : Option MV} {u4 : Option MV} {h : MH}   (q : Q (some (.inl (0 : Int32))) h) : Wb rod d B_Model_does 55 [u0, u1, u2, u3, u4] [] h Q := by
  refine Wb.ret (b_Model_does_55) ?_
  (first | exact q | (simp only [Option.getD_some]; exact q))
theorem w_Model_does_57 {rod : Nat → Nat × (Nat → Int32)} {d : Nat} {Q : Option MV → MH → Prop} {u1 : Option MV} {x2 : Int32} {x3 : Int32} {u4 : Option MV} {h : MH} (L : Lay h.2) (g0 : 0 ≤ x2.toInt ∧ x2.toInt < 8) {Q1 : Option MV → MH → Prop} (c : Wc rod d 237 [.inl ((h.1 88 x2.toNatClampNeg) + x3), .inl (99 : Int32)] h Q1) (k : ∀ r1 h2, Q1 r1 h2 → Wb rod d B_Model_does 75 [some (.inr (.inr (.inl (some 84)))), u1, some (.inl x2), some (.inl x3), u4] (r1.toList ++ [.inl x2, .inr (.inr (.inl (some 88)))]) h2 Q) : Wb rod d B_Model_does 57 [some (.inr (.inr (.inl (some 84)))), u1, some (.inl x2), some (.inl x3), u4] [] h Q := by
  refine Wb.call (fun _ _ _ _ => b_Model_does_57 (Lay.o84 L) (Lay.a84_16 L g0)) (Q1 := Q1) ?_ ?_
  · (first | exact c | (simp only [Option.getD_some, (Lay.r84_16 L)]; exact c))
  · (first | exact k | (simp only [Option.getD_some, (Lay.r84_16 L)]; exact k))
theorem w_Model_does_75 {rod : Nat → Nat × (Nat → Int32)} {d : Nat} {Q : Option MV → MH → Prop} {u0 : Option MV} {u1 : Option MV} {u2 : Option MV} {u3 : Option MV} {u4 : Option MV} {cs0 : Nat} {ncs0 : Nat} {xs1 : Int32} {xs2 : Int32} {h : MH} (Scs0 : h.2.2[cs0]? = some (0, ncs0)) (g0 : 0 ≤ xs1.toInt ∧ xs1.toInt < ncs0) (k : Wb rod d B_Model_does 76 [u0, u1, u2, u3, u4] [] (sI h cs0 xs1.toNatClampNeg xs2) Q) : Wb rod d B_Model_does 75 [u0, u1, u2, u3, u4] [.inl xs2, .inl xs1, .inr (.inr (.inl (some cs0)))] h Q := by
  refine Wb.go (fun r hr q => b_Model_does_75 (gA_of Scs0 (inB_of g0.1 g0.2)) ?_) k
  (first | exact q | (simp only [Option.getD_some]; exact q))
theorem w_Model_does_76 {rod : Nat → Nat × (Nat → Int32)} {d : Nat} {Q : Option MV → MH → Prop} {u0 : Option MV} {u1 : Option MV} {u2 : Option MV} {u3 : Option MV} {u4 : Option MV} {h : MH}   (q : Q (some (.inl (1 : Int32))) h) : Wb rod d B_Model_does 76 [u0, u1, u2, u3, u4] [] h Q := by
  refine Wb.ret (b_Model_does_76) ?_
  (first | exact q | (simp only [Option.getD_some]; exact q))
theorem w_Model_does_78 {rod : Nat → Nat × (Nat → Int32)} {d : Nat} {Q : Option MV → MH → Prop} {u1 : Option MV} {x2 : Int32} {u3 : Option MV} {u4 : Option MV} {h : MH} (L : Lay h.2)  {Q1 : Option MV → MH → Prop} (c : Wc rod d 238 [.inr (.inr (.inl (some 84))), .inl x2] h Q1) (k : ∀ r1 h2, Q1 r1 h2 → Wb rod d B_Model_does 83 [some (.inr (.inr (.inl (some 84)))), u1, some (.inl x2), u3, u4] (r1.toList ++ []) h2 Q) : Wb rod d B_Model_does 78 [some (.inr (.inr (.inl (some 84)))), u1, some (.inl x2), u3, u4] [] h Q := by
  refine Wb.call (fun _ _ _ _ => b_Model_does_78 (Lay.o84 L)) (Q1 := Q1) ?_ ?_
  · (first | exact c | (simp only [Option.getD_some]; exact c))
  · (first | exact k | (simp only [Option.getD_some]; exact k))
theorem w_Model_does_83 {rod : Nat → Nat × (Nat → Int32)} {d : Nat} {Q : Option MV → MH → Prop} {u0 : Option MV} {u1 : Option MV} {u2 : Option MV} {u3 : Option MV} {u4 : Option MV} {xs0 : Int32} {h : MH}  (g0 : xs0 = 0 ∨ xs0 = 1) (q : Q (some (.inl xs0)) h) : Wb rod d B_Model_does 83 [u0, u1, u2, u3, u4] [.inl xs0] h Q := by
  refine Wb.ret (b_Model_does_83 (d01 g0)) ?_
  (first | exact q | (simp only [Option.getD_some]; exact q))
theorem w_Model_does_84 {rod : Nat → Nat × (Nat → Int32)} {d : Nat} {Q : Option MV → MH → Prop} {u1 : Option MV} {x2 : Int32} {u3 : Option MV} {u4 : Option MV} {h : MH} (L : Lay h.2)  {Q1 : Option MV → MH → Prop} (c : Wc rod d 224 [.inr (.inr (.inl (some 84))), .inl x2] h Q1) (k : ∀ r1 h2, Q1 r1 h2 → Wb rod d B_Model_does 89 [some (.inr (.inr (.inl (some 84)))), u1, some (.inl x2), u3, u4] (r1.toList ++ []) h2 Q) : Wb rod d B_Model_does 84 [some (.inr (.inr (.inl (some 84)))), u1, some (.inl x2), u3, u4] [] h Q := by
  refine Wb.call (fun _ _ _ _ => b_Model_does_84 (Lay.o84 L)) (Q1 := Q1) ?_ ?_
  · (first | exact c | (simp only [Option.getD_some]; exact c))
  · (first | exact k | (simp only [Option.getD_some]; exact k))
theorem w_Model_does_89 {rod : Nat → Nat × (Nat → Int32)} {d : Nat} {Q : Option MV → MH → Prop} {u0 : Option MV} {u1 : Option MV} {u2 : Option MV} {u3 : Option MV} {u4 : Option MV} {xs0 : Int32} {h : MH}   (k1 : xs0.toInt = 0 → Wb rod d B_Model_does 110 [u0, u1, u2, u3, u4] [] h Q) (k2 : ¬ xs0.toInt = 0 → Wb rod d B_Model_does 92 [u0, u1, u2, u3, u4] [] h Q) : Wb rod d B_Model_does 89 [u0, u1, u2, u3, u4] [.inl xs0] h Q := by
  refine Wb.br (fun _ _ => b_Model_does_89) (fun c => ?_) (fun c => ?_)
  · have c : (decide (xs0 = 0)) = true := by first | exact c | (simp only [Option.getD_some] at c; exact c)
    (first | exact (k1 (c_eqt c)) | (simp only [Option.getD_some]; exact (k1 (c_eqt c))))
  · have c : (decide (xs0 = 0)) = false := by first | exact c | (simp only [Option.getD_some] at c; exact c)
    (first | exact (k2 (c_eqf c)) | (simp only [Option.getD_some]; exact (k2 (c_eqf c))))
theorem w_Model_does_92 {rod : Nat → Nat × (Nat → Int32)} {d : Nat} {Q : Option MV → MH → Prop} {u1 : Option MV} {x2 : Int32} {u3 : Option MV} {u4 : Option MV} {h : MH} (L : Lay h.2)  {Q1 : Option MV → MH → Prop} (c : Wc rod d 236 [.inr (.inr (.inl (some 84))), .inl x2] h Q1) (k : ∀ r1 h2, Q1 r1 h2 → Wb rod d B_Model_does 97 [some (.inr (.inr (.inl (some 84)))), u1, some (.inl x2), u3, u4] (r1.toList ++ []) h2 Q) : Wb rod d B_Model_does 92 [some (.inr (.inr (.inl (some 84)))), u1, some (.inl x2), u3, u4] [] h Q := by
  refine Wb.call (fun _ _ _ _ => b_Model_does_92 (Lay.o84 L)) (Q1 := Q1) ?_ ?_
  · (first | exact c | (simp only [Option.getD_some]; exact c))
  · (first | exact k | (simp only [Option.getD_some]; exact k))
theorem w_Model_does_97 {rod : Nat → Nat × (Nat → Int32)} {d : Nat} {Q : Option MV → MH → Prop} {u0 : Option MV} {x1 : Int32} {u2 : Option MV} {u3 : Option MV} {u4 : Option MV} {xs0 : Int32} {h : MH}   (k1 : ¬ x1.toInt = 4 → Wb rod d B_Model_does 106 [u0, some (.inl x1), u2, u3, u4] [.inl xs0] h Q) (k2 : x1.toInt = 4 → Wb rod d B_Model_does 102 [u0, some (.inl x1), u2, u3, u4] [.inl xs0] h Q) : Wb rod d B_Model_does 97 [u0, some (.inl x1), u2, u3, u4] [.inl xs0] h Q := by
  refine Wb.br (fun _ _ => b_Model_does_97) (fun c => ?_) (fun c => ?_)
  · have c : (!(decide (x1 = (4 : Int32)))) = true := by first | exact c | (simp only [Option.getD_some] at c; exact c)
    (first | exact (k1 (c_net c)) | (simp only [Option.getD_some]; exact (k1 (c_net c))))
  · have c : (!(decide (x1 = (4 : Int32)))) = false := by first | exact c | (simp only [Option.getD_some] at c; exact c)
    (first | exact (k2 (c_nef c)) | (simp only [Option.getD_some]; exact (k2 (c_nef c))))
theorem w_Model_does_102 {rod : Nat → Nat × (Nat → Int32)} {d : Nat} {Q : Option MV → MH → Prop} {u0 : Option MV} {u1 : Option MV} {u2 : Option MV} {u3 : Option MV} {u4 : Option MV} {xs0 : Int32} {h : MH}   (k : Wb rod d B_Model_does 107 [u0, u1, u2, u3, u4] [.inl (1 : Int32), .inl xs0] h Q) : Wb rod d B_Model_does 102 [u0, u1, u2, u3, u4] [.inl xs0] h Q := by
  refine Wb.go (fun r hr q => b_Model_does_102 ?_) k
  (first | exact q | (simp only [Option.getD_some]; exact q))
theorem w_Model_does_106 {rod : Nat → Nat × (Nat → Int32)} {d : Nat} {Q : Option MV → MH → Prop} {u0 : Option MV} {u1 : Option MV} {u2 : Option MV} {u3 : Option MV} {u4 : Option MV} {xs0 : Int32} {h : MH}   (k : Wb rod d B_Model_does 107 [u0, u1, u2, u3, u4] [.inl (0 : Int32), .inl xs0] h Q) : Wb rod d B_Model_does 106 [u0, u1, u2, u3, u4] [.inl xs0] h Q := by
  refine Wb.go (fun r hr q => b_Model_does_106 ?_) k
  (first | exact q | (simp only [Option.getD_some]; exact q))
theorem w_Model_does_107 {rod : Nat → Nat × (Nat → Int32)} {d : Nat} {Q : Option MV → MH → Prop} {u0 : Option MV} {u1 : Option MV} {u2 : Option MV} {u3 : Option MV} {u4 : Option MV} {xs0 : Int32} {xs1 : Int32} {h : MH}   (k1 : xs0.toInt = xs1.toInt → Wb rod d B_Model_does 112 [u0, u1, u2, u3, u4] [] h Q) (k2 : ¬ xs0.toInt = xs1.toInt → Wb rod d B_Model_does 110 [u0, u1, u2, u3, u4] [] h Q) : Wb rod d B_Model_does 107 [u0, u1, u2, u3, u4] [.inl xs1, .inl xs0] h Q := by
  refine Wb.br (fun _ _ => b_Model_does_107) (fun c => ?_) (fun c => ?_)
  · have c : (decide (xs0 = xs1)) = true := by first | exact c | (simp only [Option.getD_some] at c; exact c)
    (first | exact (k1 (c_eqt c)) | (simp only [Option.getD_some]; exact (k1 (c_eqt c))))
  · have c : (decide (xs0 = xs1)) = false := by first | exact c | (simp only [Option.getD_some] at c; exact c)
    (first | exact (k2 (c_eqf c)) | (simp only [Option.getD_some]; exact (k2 (c_eqf c))))
theorem w_Model_does_110 {rod : Nat → Nat × (Nat → Int32)} {d : Nat} {Q : Option MV → MH → Prop} {u0 : Option MV} {u1 : Option MV} {u2 : Option MV} {u3 : Option MV} {u4 : Option MV} {h : MH}   (q : Q (some (.inl (0 : Int32))) h) : Wb rod d B_Model_does 110 [u0, u1, u2, u3, u4] [] h Q := by
  refine Wb.ret (b_Model_does_110) ?_
  (first | exact q | (simp only [Option.getD_some]; exact q))
theorem w_Model_does_112 {rod : Nat → Nat × (Nat → Int32)} {d : Nat} {Q : Option MV → MH → Prop} {u1 : Option MV} {x2 : Int32} {u3 : Option MV} {u4 : Option MV} {h : MH} (L : Lay h.2)  (k : Wb rod d B_Model_does 124 [some (.inr (.inr (.inl (some 84)))), u1, some (.inl x2), u3, u4] [] (sI h 84 23 ((h.1 84 23) ^^^ ((1 : Int32) <<< (x2 &&& 31)))) Q) : Wb rod d B_Model_does 112 [some (.inr (.inr (.inl (some 84)))), u1, some (.inl x2), u3, u4] [] h Q := by
  refine Wb.go (fun r hr q => b_Model_does_112 (Lay.o84 L) ?_) k
  (first | exact q | (simp only [Option.getD_some]; exact q))
theorem w_Model_does_124 {rod : Nat → Nat × (Nat → Int32)} {d : Nat} {Q : Option MV → MH → Prop} {u0 : Option MV} {u1 : Option MV} {u2 : Option MV} {u3 : Option MV} {u4 : Option MV} {h : MH}   (q : Q (some (.inl (1 : Int32))) h) : Wb rod d B_Model_does 124 [u0, u1, u2, u3, u4] [] h Q := by
  refine Wb.ret (b_Model_does_124) ?_
  (first | exact q | (simp only [Option.getD_some]; exact q))
theorem w_Model_does_126 {rod : Nat → Nat × (Nat → Int32)} {d : Nat} {Q : Option MV → MH → Prop} {u0 : Option MV} {u1 : Option MV} {u2 : Option MV} {u3 : Option MV} {u4 : Option MV} {h : MH}  (g0 : okl [u0, u1, u2, u3, u4] 4 = true) (k : Wb rod d B_Model_does 129 [u0, u1, u2, u3, some (.inl (0 : Int32))] [] h Q) : Wb rod d B_Model_does 126 [u0, u1, u2, u3, u4] [] h Q := by
  refine Wb.go (fun r hr q => b_Model_does_126 g0 ?_) k
  (first | exact q | (simp only [Option.getD_some]; exact q))
theorem w_Model_does_129 {rod : Nat → Nat × (Nat → Int32)} {d : Nat} {Q : Option MV → MH → Prop} {u1 : Option MV} {u2 : Option MV} {u3 : Option MV} {x4 : Int32} {h : MH} (L : Lay h.2)  (k1 : (h.1 84 14).toInt ≤ x4.toInt → Wb rod d B_Model_does 169 [some (.inr (.inr (.inl (some 84)))), u1, u2, u3, some (.inl x4)] [] h Q) (k2 : ¬ (h.1 84 14).toInt ≤ x4.toInt → Wb rod d B_Model_does 138 [some (.inr (.inr (.inl (some 84)))), u1, u2, u3, some (.inl x4)] [] h Q) : Wb rod d B_Model_does 129 [some (.inr (.inr (.inl (some 84)))), u1, u2, u3, some (.inl x4)] [] h Q := by
  refine Wb.br (fun _ _ => b_Model_does_129 (Lay.o84 L)) (fun c => ?_) (fun c => ?_)
  · have c : (decide ((h.1 84 14) ≤ x4)) = true := by first | exact c | (simp only [Option.getD_some] at c; exact c)
    (first | exact (k1 (c_let c)) | (simp only [Option.getD_some]; exact (k1 (c_let c))))
  · have c : (decide ((h.1 84 14) ≤ x4)) = false := by first | exact c | (simp only [Option.getD_some] at c; exact c)
    (first | exact (k2 (c_lef c)) | (simp only [Option.getD_some]; exact (k2 (c_lef c))))
theorem w_Model_does_138 {rod : Nat → Nat × (Nat → Int32)} {d : Nat} {Q : Option MV → MH → Prop} {u1 : Option MV} {u2 : Option MV} {u3 : Option MV} {x4 : Int32} {h : MH} (L : Lay h.2) (g0 : 0 ≤ x4.toInt ∧ x4.toInt < 8) (k1 : (h.1 90 x4.toNatClampNeg).toInt ≤ 0 → Wb rod d B_Model_does 160 [some (.inr (.inr (.inl (some 84)))), u1, u2, u3, some (.inl x4)] [.inl (h.1 90 x4.toNatClampNeg), .inl x4, .inr (.inr (.inl (some 90)))] h Q) (k2 : ¬ (h.1 90 x4.toNatClampNeg).toInt ≤ 0 → Wb rod d B_Model_does 156 [some (.inr (.inr (.inl (some 84)))), u1, u2, u3, some (.inl x4)] [.inl (h.1 90 x4.toNatClampNeg), .inl x4, .inr (.inr (.inl (some 90)))] h Q) : Wb rod d B_Model_does 138 [some (.inr (.inr (.inl (some 84)))), u1, u2, u3, some (.inl x4)] [] h Q := by
  refine Wb.br (fun _ _ => b_Model_does_138 (Lay.o84 L) (Lay.a84_18 L g0)) (fun c => ?_) (fun c => ?_)
  · have c : (decide ((h.1 90 x4.toNatClampNeg) ≤ 0)) = true := by first | exact c | (simp only [Option.getD_some, (Lay.r84_18 L)] at c; exact c)
    (first | exact (k1 (c_let c)) | (simp only [Option.getD_some, (Lay.r84_18 L)]; exact (k1 (c_let c))))
  · have c : (decide ((h.1 90 x4.toNatClampNeg) ≤ 0)) = false := by first | exact c | (simp only [Option.getD_some, (Lay.r84_18 L)] at c; exact c)
    (first | exact (k2 (c_lef c)) | (simp only [Option.getD_some, (Lay.r84_18 L)]; exact (k2 (c_lef c))))
theorem w_Model_does_156 {rod : Nat → Nat × (Nat → Int32)} {d : Nat} {Q : Option MV → MH → Prop} {u0 : Option MV} {u1 : Option MV} {u2 : Option MV} {u3 : Option MV} {u4 : Option MV} {cs0 : Nat} {xs1 : Int32} {xs2 : Int32} {h : MH}   (k : Wb rod d B_Model_does 161 [u0, u1, u2, u3, u4] [.inl (1 : Int32), .inl xs2, .inl xs1, .inr (.inr (.inl (some cs0)))] h Q) : Wb rod d B_Model_does 156 [u0, u1, u2, u3, u4] [.inl xs2, .inl xs1, .inr (.inr (.inl (some cs0)))] h Q := by
  refine Wb.go (fun r hr q => b_Model_does_156 ?_) k
  (first | exact q | (simp only [Option.getD_some]; exact q))
theorem w_Model_does_160 {rod : Nat → Nat × (Nat → Int32)} {d : Nat} {Q : Option MV → MH → Prop} {u0 : Option MV} {u1 : Option MV} {u2 : Option MV} {u3 : Option MV} {u4 : Option MV} {cs0 : Nat} {xs1 : Int32} {xs2 : Int32} {h : MH}   (k : Wb rod d B_Model_does 161 [u0, u1, u2, u3, u4] [.inl (0 : Int32), .inl xs2, .inl xs1, .inr (.inr (.inl (some cs0)))] h Q) : Wb rod d B_Model_does 160 [u0, u1, u2, u3, u4] [.inl xs2, .inl xs1, .inr (.inr (.inl (some cs0)))] h Q := by
  refine Wb.go (fun r hr q => b_Model_does_160 ?_) k
  (first | exact q | (simp only [Option.getD_some]; exact q))
theorem w_Model_does_161 {rod : Nat → Nat × (Nat → Int32)} {d : Nat} {Q : Option MV → MH → Prop} {u0 : Option MV} {u1 : Option MV} {u2 : Option MV} {u3 : Option MV} {u4 : Option MV} {cs0 : Nat} {ncs0 : Nat} {xs1 : Int32} {xs2 : Int32} {xs3 : Int32} {h : MH} (Scs0 : h.2.2[cs0]? = some (0, ncs0)) (g0 : 0 ≤ xs1.toInt ∧ xs1.toInt < ncs0) (k : Wb rod d B_Model_does 163 [u0, u1, u2, u3, u4] [] (sI h cs0 xs1.toNatClampNeg (xs2 - xs3)) Q) : Wb rod d B_Model_does 161 [u0, u1, u2, u3, u4] [.inl xs3, .inl xs2, .inl xs1, .inr (.inr (.inl (some cs0)))] h Q := by
  refine Wb.go (fun r hr q => b_Model_does_161 (gA_of Scs0 (inB_of g0.1 g0.2)) ?_) k
  (first | exact q | (simp only [Option.getD_some]; exact q))
theorem w_Model_does_163 {rod : Nat → Nat × (Nat → Int32)} {d : Nat} {Q : Option MV → MH → Prop} {u0 : Option MV} {u1 : Option MV} {u2 : Option MV} {u3 : Option MV} {x4 : Int32} {h : MH}  (g0 : okl [u0, u1, u2, u3, some (.inl x4)] 4 = true) (k : Wb rod d B_Model_does 129 [u0, u1, u2, u3, some (.inl (x4 + 1))] [] h Q) : Wb rod d B_Model_does 163 [u0, u1, u2, u3, some (.inl x4)] [] h Q := by
  refine Wb.go (fun r hr q => b_Model_does_163 g0 ?_) k
  (first | exact q | (simp only [Option.getD_some]; exact q))
theorem w_Model_does_169 {rod : Nat → Nat × (Nat → Int32)} {d : Nat} {Q : Option MV → MH → Prop} {u0 : Option MV} {u1 : Option MV} {u2 : Option MV} {u3 : Option MV} {u4 : Option MV} {h : MH}   (q : Q (some (.inl (1 : Int32))) h) : Wb rod d B_Model_does 169 [u0, u1, u2, u3, u4] [] h Q := by
  refine Wb.ret (b_Model_does_169) ?_
  (first | exact q | (simp only [Option.getD_some]; exact q))
theorem w_Model_does_171 {rod : Nat → Nat × (Nat → Int32)} {d : Nat} {Q : Option MV → MH → Prop} {u1 : Option MV} {u2 : Option MV} {u3 : Option MV} {u4 : Option MV} {h : MH} (L : Lay h.2)  {Q1 : Option MV → MH → Prop} (c : Wc rod d 239 [.inr (.inr (.inl (some 84)))] h Q1) (k : ∀ r1 h2, Q1 r1 h2 → Wb rod d B_Model_does 175 [some (.inr (.inr (.inl (some 84)))), u1, u2, u3, u4] (r1.toList ++ []) h2 Q) : Wb rod d B_Model_does 171 [some (.inr (.inr (.inl (some 84)))), u1, u2, u3, u4] [] h Q := by
  refine Wb.call (fun _ _ _ _ => b_Model_does_171 (Lay.o84 L)) (Q1 := Q1) ?_ ?_
  · (first | exact c | (simp only [Option.getD_some]; exact c))
  · (first | exact k | (simp only [Option.getD_some]; exact k))
theorem w_Model_does_175 {rod : Nat → Nat × (Nat → Int32)} {d : Nat} {Q : Option MV → MH → Prop} {u0 : Option MV} {u1 : Option MV} {u2 : Option MV} {u3 : Option MV} {u4 : Option MV} {h : MH}   (q : Q (some (.inl (1 : Int32))) h) : Wb rod d B_Model_does 175 [u0, u1, u2, u3, u4] [] h Q := by
  refine Wb.ret (b_Model_does_175) ?_
  (first | exact q | (simp only [Option.getD_some]; exact q))
theorem n_Model_sells {rod : Nat → Nat × (Nat → Int32)} {d : Nat} {Q : Option MV → MH → Prop} {x1 : Int32} {x2 : Int32} {h : MH} (k : Wb rod d B_Model_sells 0 [some (.inr (.inr (.inl (some 84)))), some (.inl x1), some (.inl x2), none, none, none, none] [] h Q) : Wc rod (d + 1) 235 [.inr (.inr (.inl (some 84))), .inl x1, .inl x2] h Q := Wc.en (fun _ _ => e_Model_sells) k
theorem w_Model_sells_0 {rod : Nat → Nat × (Nat → Int32)} {d : Nat} {Q : Option MV → MH → Prop} {x1 : Int32} {u2 : Option MV} {u3 : Option MV} {u4 : Option MV} {u5 : Option MV} {u6 : Option MV} {h : MH} (L : Lay h.2)  {Q1 : Option MV → MH → Prop} (c : Wc rod d 220 [.inr (.inr (.inl (some 84))), .inl x1] h Q1) (k : ∀ r1 h2, Q1 r1 h2 → Wb rod d B_Model_sells 5 [some (.inr (.inr (.inl (some 84)))), some (.inl x1), u2, u3, u4, u5, u6] (r1.toList ++ []) h2 Q) : Wb rod d B_Model_sells 0 [some (.inr (.inr (.inl (some 84)))), some (.inl x1), u2, u3, u4, u5, u6] [] h Q := by
  refine Wb.call (fun _ _ _ _ => b_Model_sells_0 (Lay.o84 L)) (Q1 := Q1) ?_ ?_
  · (first | exact c | (simp only [Option.getD_some]; exact c))
  · (first | exact k | (simp only [Option.getD_some]; exact k))
theorem w_Model_sells_5 {rod : Nat → Nat × (Nat → Int32)} {d : Nat} {Q : Option MV → MH → Prop} {u0 : Option MV} {u1 : Option MV} {u2 : Option MV} {u3 : Option MV} {u4 : Option MV} {u5 : Option MV} {u6 : Option MV} {xs0 : Int32} {h : MH}   (k1 : xs0.toInt = 0 → Wb rod d B_Model_sells 40 [u0, u1, u2, u3, u4, u5, u6] [] h Q) (k2 : ¬ xs0.toInt = 0 → Wb rod d B_Model_sells 8 [u0, u1, u2, u3, u4, u5, u6] [] h Q) : Wb rod d B_Model_sells 5 [u0, u1, u2, u3, u4, u5, u6] [.inl xs0] h Q := by
  refine Wb.br (fun _ _ => b_Model_sells_5) (fun c => ?_) (fun c => ?_)
  · have c : (decide (xs0 = 0)) = true := by first | exact c | (simp only [Option.getD_some] at c; exact c)
    (first | exact (k1 (c_eqt c)) | (simp only [Option.getD_some]; exact (k1 (c_eqt c))))
  · have c : (decide (xs0 = 0)) = false := by first | exact c | (simp only [Option.getD_some] at c; exact c)
    (first | exact (k2 (c_eqf c)) | (simp only [Option.getD_some]; exact (k2 (c_eqf c))))
theorem w_Model_sells_8 {rod : Nat → Nat × (Nat → Int32)} {d : Nat} {Q : Option MV → MH → Prop} {u1 : Option MV} {x2 : Int32} {u3 : Option MV} {u4 : Option MV} {u5 : Option MV} {u6 : Option MV} {h : MH} (L : Lay h.2)  {Q1 : Option MV → MH → Prop} (c : Wc rod d 222 [.inr (.inr (.inl (some 84))), .inl x2] h Q1) (k : ∀ r1 h2, Q1 r1 h2 → Wb rod d B_Model_sells 13 [some (.inr (.inr (.inl (some 84)))), u1, some (.inl x2), u3, u4, u5, u6] (r1.toList ++ []) h2 Q) : Wb rod d B_Model_sells 8 [some (.inr (.inr (.inl (some 84)))), u1, some (.inl x2), u3, u4, u5, u6] [] h Q := by
  refine Wb.call (fun _ _ _ _ => b_Model_sells_8 (Lay.o84 L)) (Q1 := Q1) ?_ ?_
  · (first | exact c | (simp only [Option.getD_some]; exact c))
  · (first | exact k | (simp only [Option.getD_some]; exact k))
theorem w_Model_sells_13 {rod : Nat → Nat × (Nat → Int32)} {d : Nat} {Q : Option MV → MH → Prop} {u0 : Option MV} {u1 : Option MV} {u2 : Option MV} {u3 : Option MV} {u4 : Option MV} {u5 : Option MV} {u6 : Option MV} {xs0 : Int32} {h : MH}   (k1 : xs0.toInt = 0 → Wb rod d B_Model_sells 40 [u0, u1, u2, u3, u4, u5, u6] [] h Q) (k2 : ¬ xs0.toInt = 0 → Wb rod d B_Model_sells 16 [u0, u1, u2, u3, u4, u5, u6] [] h Q) : Wb rod d B_Model_sells 13 [u0, u1, u2, u3, u4, u5, u6] [.inl xs0] h Q := by
  refine Wb.br (fun _ _ => b_Model_sells_13) (fun c => ?_) (fun c => ?_)
  · have c : (decide (xs0 = 0)) = true := by first | exact c | (simp only [Option.getD_some] at c; exact c)
    (first | exact (k1 (c_eqt c)) | (simp only [Option.getD_some]; exact (k1 (c_eqt c))))
  · have c : (decide (xs0 = 0)) = false := by first | exact c | (simp only [Option.getD_some] at c; exact c)
    (first | exact (k2 (c_eqf c)) | (simp only [Option.getD_some]; exact (k2 (c_eqf c))))
theorem w_Model_sells_16 {rod : Nat → Nat × (Nat → Int32)} {d : Nat} {Q : Option MV → MH → Prop} {x1 : Int32} {u2 : Option MV} {u3 : Option MV} {u4 : Option MV} {u5 : Option MV} {u6 : Option MV} {h : MH} (L : Lay h.2)  {Q1 : Option MV → MH → Prop} (c : Wc rod d 221 [.inr (.inr (.inl (some 84))), .inl x1, .inl (1 : Int32)] h Q1) (k : ∀ r1 h2, Q1 r1 h2 → Wb rod d B_Model_sells 22 [some (.inr (.inr (.inl (some 84)))), some (.inl x1), u2, u3, u4, u5, u6] (r1.toList ++ []) h2 Q) : Wb rod d B_Model_sells 16 [some (.inr (.inr (.inl (some 84)))), some (.inl x1), u2, u3, u4, u5, u6] [] h Q := by
  refine Wb.call (fun _ _ _ _ => b_Model_sells_16 (Lay.o84 L)) (Q1 := Q1) ?_ ?_
  · (first | exact c | (simp only [Option.getD_some]; exact c))
  · (first | exact k | (simp only [Option.getD_some]; exact k))
theorem w_Model_sells_22 {rod : Nat → Nat × (Nat → Int32)} {d : Nat} {Q : Option MV → MH → Prop} {u1 : Option MV} {u2 : Option MV} {u3 : Option MV} {u4 : Option MV} {u5 : Option MV} {u6 : Option MV} {xs0 : Int32} {h : MH} (L : Lay h.2)  (k1 : ¬ xs0.toInt = (h.1 84 22).toInt → Wb rod d B_Model_sells 40 [some (.inr (.inr (.inl (some 84)))), u1, u2, u3, u4, u5, u6] [] h Q) (k2 : xs0.toInt = (h.1 84 22).toInt → Wb rod d B_Model_sells 29 [some (.inr (.inr (.inl (some 84)))), u1, u2, u3, u4, u5, u6] [] h Q) : Wb rod d B_Model_sells 22 [some (.inr (.inr (.inl (some 84)))), u1, u2, u3, u4, u5, u6] [.inl xs0] h Q := by
  refine Wb.br (fun _ _ => b_Model_sells_22 (Lay.o84 L)) (fun c => ?_) (fun c => ?_)
  · have c : (!(decide (xs0 = (h.1 84 22)))) = true := by first | exact c | (simp only [Option.getD_some] at c; exact c)
    (first | exact (k1 (c_net c)) | (simp only [Option.getD_some]; exact (k1 (c_net c))))
  · have c : (!(decide (xs0 = (h.1 84 22)))) = false := by first | exact c | (simp only [Option.getD_some] at c; exact c)
    (first | exact (k2 (c_nef c)) | (simp only [Option.getD_some]; exact (k2 (c_nef c))))
theorem w_Model_sells_29 {rod : Nat → Nat × (Nat → Int32)} {d : Nat} {Q : Option MV → MH → Prop} {u1 : Option MV} {u2 : Option MV} {u3 : Option MV} {u4 : Option MV} {u5 : Option MV} {u6 : Option MV} {h : MH} (L : Lay h.2)  {Q1 : Option MV → MH → Prop} (c : Wc rod d 236 [.inr (.inr (.inl (some 84))), .inl (h.1 84 22)] h Q1) (k : ∀ r1 h2, Q1 r1 h2 → Wb rod d B_Model_sells 37 [some (.inr (.inr (.inl (some 84)))), u1, u2, u3, u4, u5, u6] (r1.toList ++ []) h2 Q) : Wb rod d B_Model_sells 29 [some (.inr (.inr (.inl (some 84)))), u1, u2, u3, u4, u5, u6] [] h Q := by
  refine Wb.call (fun _ _ _ _ => b_Model_sells_29 (Lay.o84 L)) (Q1 := Q1) ?_ ?_
  · (first | exact c | (simp only [Option.getD_some]; exact c))
  · (first | exact k | (simp only [Option.getD_some]; exact k))
theorem w_Model_sells_37 {rod : Nat → Nat × (Nat → Int32)} {d : Nat} {Q : Option MV → MH → Prop} {u0 : Option MV} {u1 : Option MV} {u2 : Option MV} {u3 : Option MV} {u4 : Option MV} {u5 : Option MV} {u6 : Option MV} {xs0 : Int32} {h : MH}   (k1 : xs0.toInt = 0 → Wb rod d B_Model_sells 42 [u0, u1, u2, u3, u4, u5, u6] [] h Q) (k2 : ¬ xs0.toInt = 0 → Wb rod d B_Model_sells 40 [u0, u1, u2, u3, u4, u5, u6] [] h Q) : Wb rod d B_Model_sells 37 [u0, u1, u2, u3, u4, u5, u6] [.inl xs0] h Q := by
  refine Wb.br (fun _ _ => b_Model_sells_37) (fun c => ?_) (fun c => ?_)
  · have c : (decide (xs0 = 0)) = true := by first | exact c | (simp only [Option.getD_some] at c; exact c)
    (first | exact (k1 (c_eqt c)) | (simp only [Option.getD_some]; exact (k1 (c_eqt c))))
  · have c : (decide (xs0 = 0)) = false := by first | exact c | (simp only [Option.getD_some] at c; exact c)
    (first | exact (k2 (c_eqf c)) | (simp only [Option.getD_some]; exact (k2 (c_eqf c))))
theorem w_Model_sells_40 {rod : Nat → Nat × (Nat → Int32)} {d : Nat} {Q : Option MV → MH → Prop} {u0 : Option MV} {u1 : Option MV} {u2 : Option MV} {u3 : Option MV} {u4 : Option MV} {u5 : Option MV} {u6 : Option MV} {h : MH}   (q : Q (some (.inl (0 : Int32))) h) : Wb rod d B_Model_sells 40 [u0, u1, u2, u3, u4, u5, u6] [] h Q := by
  refine Wb.ret (b_Model_sells_40) ?_
  (first | exact q | (simp only [Option.getD_some]; exact q))
theorem w_Model_sells_42 {rod : Nat → Nat × (Nat → Int32)} {d : Nat} {Q : Option MV → MH → Prop} {u1 : Option MV} {x2 : Int32} {u3 : Option MV} {u4 : Option MV} {u5 : Option MV} {u6 : Option MV} {h : MH} (L : Lay h.2)  {Q1 : Option MV → MH → Prop} (c : Wc rod d 223 [.inr (.inr (.inl (some 84))), .inl x2, .inl (0 : Int32)] h Q1) (k : ∀ r1 h2, Q1 r1 h2 → Wb rod d B_Model_sells 48 [some (.inr (.inr (.inl (some 84)))), u1, some (.inl x2), u3, u4, u5, u6] (r1.toList ++ []) h2 Q) : Wb rod d B_Model_sells 42 [some (.inr (.inr (.inl (some 84)))), u1, some (.inl x2), u3, u4, u5, u6] [] h Q := by
  refine Wb.call (fun _ _ _ _ => b_Model_sells_42 (Lay.o84 L)) (Q1 := Q1) ?_ ?_
  · (first | exact c | (simp only [Option.getD_some]; exact c))
  · (first | exact k | (simp only [Option.getD_some]; exact k))
theorem w_Model_sells_48 {rod : Nat → Nat × (Nat → Int32)} {d : Nat} {Q : Option MV → MH → Prop} {u1 : Option MV} {x2 : Int32} {u3 : Option MV} {u4 : Option MV} {u5 : Option MV} {u6 : Option MV} {xs0 : Int32} {h : MH} (L : Lay h.2)  {Q1 : Option MV → MH → Prop} (c : Wc rod d 223 [.inr (.inr (.inl (some 84))), .inl x2, .inl (1 : Int32)] h Q1) (k : ∀ r1 h2, Q1 r1 h2 → Wb rod d B_Model_sells 55 [some (.inr (.inr (.inl (some 84)))), u1, some (.inl x2), some (.inl xs0), u4, u5, u6] (r1.toList ++ []) h2 Q) : Wb rod d B_Model_sells 48 [some (.inr (.inr (.inl (some 84)))), u1, some (.inl x2), u3, u4, u5, u6] [.inl xs0] h Q := by
  refine Wb.call (fun _ _ _ _ => b_Model_sells_48 (Lay.o84 L)) (Q1 := Q1) ?_ ?_
  · (first | exact c | (simp only [Option.getD_some]; exact c))
  · (first | exact k | (simp only [Option.getD_some]; exact k))
theorem w_Model_sells_55 {rod : Nat → Nat × (Nat → Int32)} {d : Nat} {Q : Option MV → MH → Prop} {x1 : Int32} {u2 : Option MV} {x3 : Int32} {u4 : Option MV} {u5 : Option MV} {u6 : Option MV} {xs0 : Int32} {h : MH} (L : Lay h.2)  {Q1 : Option MV → MH → Prop} (c : Wc rod d 228 [.inr (.inr (.inl (some 84))), .inl x1, .inl x3, .inl xs0] h Q1) (k : ∀ r1 h2, Q1 r1 h2 → Wb rod d B_Model_sells 65 [some (.inr (.inr (.inl (some 84)))), some (.inl x1), u2, some (.inl x3), some (.inl xs0), u5, u6] (r1.toList ++ []) h2 Q) : Wb rod d B_Model_sells 55 [some (.inr (.inr (.inl (some 84)))), some (.inl x1), u2, some (.inl x3), u4, u5, u6] [.inl xs0] h Q := by
  refine Wb.call (fun _ _ _ _ => b_Model_sells_55 (Lay.o84 L)) (Q1 := Q1) ?_ ?_
  · (first | exact c | (simp only [Option.getD_some]; exact c))
  · (first | exact k | (simp only [Option.getD_some]; exact k))
theorem w_Model_sells_65 {rod : Nat → Nat × (Nat → Int32)} {d : Nat} {Q : Option MV → MH → Prop} {u0 : Option MV} {u1 : Option MV} {u2 : Option MV} {u3 : Option MV} {u4 : Option MV} {u5 : Option MV} {u6 : Option MV} {xs0 : Int32} {h : MH}   (k1 : ¬ xs0.toInt = 0 → Wb rod d B_Model_sells 70 [u0, u1, u2, u3, u4, u5, u6] [] h Q) (k2 : xs0.toInt = 0 → Wb rod d B_Model_sells 68 [u0, u1, u2, u3, u4, u5, u6] [] h Q) : Wb rod d B_Model_sells 65 [u0, u1, u2, u3, u4, u5, u6] [.inl xs0] h Q := by
  refine Wb.br (fun _ _ => b_Model_sells_65) (fun c => ?_) (fun c => ?_)
  · have c : (!(decide (xs0 = 0))) = true := by first | exact c | (simp only [Option.getD_some] at c; exact c)
    (first | exact (k1 (c_net c)) | (simp only [Option.getD_some]; exact (k1 (c_net c))))
  · have c : (!(decide (xs0 = 0))) = false := by first | exact c | (simp only [Option.getD_some] at c; exact c)
    (first | exact (k2 (c_nef c)) | (simp only [Option.getD_some]; exact (k2 (c_nef c))))
theorem w_Model_sells_68 {rod : Nat → Nat × (Nat → Int32)} {d : Nat} {Q : Option MV → MH → Prop} {u0 : Option MV} {u1 : Option MV} {u2 : Option MV} {u3 : Option MV} {u4 : Option MV} {u5 : Option MV} {u6 : Option MV} {h : MH}   (q : Q (some (.inl (0 : Int32))) h) : Wb rod d B_Model_sells 68 [u0, u1, u2, u3, u4, u5, u6] [] h Q := by
  refine Wb.ret (b_Model_sells_68) ?_
  (first | exact q | (simp only [Option.getD_some]; exact q))
theorem w_Model_sells_70 {rod : Nat → Nat × (Nat → Int32)} {d : Nat} {Q : Option MV → MH → Prop} {x1 : Int32} {u2 : Option MV} {u3 : Option MV} {x4 : Int32} {u5 : Option MV} {u6 : Option MV} {h : MH} (L : Lay h.2) (g0 : 0 ≤ x1.toInt ∧ x1.toInt < 8) (k : Wb rod d B_Model_sells 81 [some (.inr (.inr (.inl (some 84)))), some (.inl x1), u2, u3, some (.inl x4), u5, u6] [] (sI h 89 x1.toNatClampNeg ((h.1 89 x1.toNatClampNeg) - x4)) Q) : Wb rod d B_Model_sells 70 [some (.inr (.inr (.inl (some 84)))), some (.inl x1), u2, u3, some (.inl x4), u5, u6] [] h Q := by
  refine Wb.go (fun r hr q => b_Model_sells_70 (Lay.o84 L) (Lay.a84_17 L g0) ?_) k
  (first | exact q | (simp only [Option.getD_some, (Lay.r84_17 L)]; exact q))
theorem w_Model_sells_81 {rod : Nat → Nat × (Nat → Int32)} {d : Nat} {Q : Option MV → MH → Prop} {x1 : Int32} {u2 : Option MV} {x3 : Int32} {u4 : Option MV} {u5 : Option MV} {u6 : Option MV} {h : MH} (L : Lay h.2) (g0 : 0 ≤ x1.toInt ∧ x1.toInt < 8) (k : Wb rod d B_Model_sells 91 [some (.inr (.inr (.inl (some 84)))), some (.inl x1), u2, some (.inl x3), u4, u5, u6] [] (sI h 88 x1.toNatClampNeg ((h.1 88 x1.toNatClampNeg) - x3)) Q) : Wb rod d B_Model_sells 81 [some (.inr (.inr (.inl (some 84)))), some (.inl x1), u2, some (.inl x3), u4, u5, u6] [] h Q := by
  refine Wb.go (fun r hr q => b_Model_sells_81 (Lay.o84 L) (Lay.a84_16 L g0) ?_) k
  (first | exact q | (simp only [Option.getD_some, (Lay.r84_16 L)]; exact q))
theorem w_Model_sells_91 {rod : Nat → Nat × (Nat → Int32)} {d : Nat} {Q : Option MV → MH → Prop} {x1 : Int32} {u2 : Option MV} {u3 : Option MV} {u4 : Option MV} {u5 : Option MV} {u6 : Option MV} {h : MH} (L : Lay h.2) (g0 : 0 ≤ x1.toInt ∧ x1.toInt < 8) (k1 : 0 ≤ (h.1 88 x1.toNatClampNeg).toInt → Wb rod d B_Model_sells 117 [some (.inr (.inr (.inl (some 84)))), some (.inl x1), u2, u3, u4, u5, u6] [] h Q) (k2 : ¬ 0 ≤ (h.1 88 x1.toNatClampNeg).toInt → Wb rod d B_Model_sells 100 [some (.inr (.inr (.inl (some 84)))), some (.inl x1), u2, u3, u4, u5, u6] [] h Q) : Wb rod d B_Model_sells 91 [some (.inr (.inr (.inl (some 84)))), some (.inl x1), u2, u3, u4, u5, u6] [] h Q := by
  refine Wb.br (fun _ _ => b_Model_sells_91 (Lay.o84 L) (Lay.a84_16 L g0)) (fun c => ?_) (fun c => ?_)
  · have c : (decide (0 ≤ (h.1 88 x1.toNatClampNeg))) = true := by first | exact c | (simp only [Option.getD_some, (Lay.r84_16 L)] at c; exact c)
    (first | exact (k1 (c_let c)) | (simp only [Option.getD_some, (Lay.r84_16 L)]; exact (k1 (c_let c))))
  · have c : (decide (0 ≤ (h.1 88 x1.toNatClampNeg))) = false := by first | exact c | (simp only [Option.getD_some, (Lay.r84_16 L)] at c; exact c)
    (first | exact (k2 (c_lef c)) | (simp only [Option.getD_some, (Lay.r84_16 L)]; exact (k2 (c_lef c))))
theorem w_Model_sells_100 {rod : Nat → Nat × (Nat → Int32)} {d : Nat} {Q : Option MV → MH → Prop} {x1 : Int32} {u2 : Option MV} {u3 : Option MV} {u4 : Option MV} {u5 : Option MV} {u6 : Option MV} {h : MH} (L : Lay h.2)  {Q1 : Option MV → MH → Prop} (c : Wc rod d 221 [.inr (.inr (.inl (some 84))), .inl x1, .inl (0 : Int32)] h Q1) (k : ∀ r1 h2, Q1 r1 h2 → Wb rod d B_Model_sells 106 [some (.inr (.inr (.inl (some 84)))), some (.inl x1), u2, u3, u4, u5, u6] (r1.toList ++ []) h2 Q) : Wb rod d B_Model_sells 100 [some (.inr (.inr (.inl (some 84)))), some (.inl x1), u2, u3, u4, u5, u6] [] h Q := by
  refine Wb.call (fun _ _ _ _ => b_Model_sells_100 (Lay.o84 L)) (Q1 := Q1) ?_ ?_
  · (first | exact c | (simp only [Option.getD_some]; exact c))
  · (first | exact k | (simp only [Option.getD_some]; exact k))
theorem w_Model_sells_106 {rod : Nat → Nat × (Nat → Int32)} {d : Nat} {Q : Option MV → MH → Prop} {u0 : Option MV} {u1 : Option MV} {u2 : Option MV} {u3 : Option MV} {u4 : Option MV} {u5 : Option MV} {u6 : Option MV} {xs0 : Int32} {h : MH}   (k1 : xs0.toInt = 1 → Wb rod d B_Model_sells 117 [u0, u1, u2, u3, u4, u5, u6] [] h Q) (k2 : ¬ xs0.toInt = 1 → Wb rod d B_Model_sells 110 [u0, u1, u2, u3, u4, u5, u6] [] h Q) : Wb rod d B_Model_sells 106 [u0, u1, u2, u3, u4, u5, u6] [.inl xs0] h Q := by
  refine Wb.br (fun _ _ => b_Model_sells_106) (fun c => ?_) (fun c => ?_)
  · have c : (decide (xs0 = (1 : Int32))) = true := by first | exact c | (simp only [Option.getD_some] at c; exact c)
    (first | exact (k1 (c_eqt c)) | (simp only [Option.getD_some]; exact (k1 (c_eqt c))))
  · have c : (decide (xs0 = (1 : Int32))) = false := by first | exact c | (simp only [Option.getD_some] at c; exact c)
    (first | exact (k2 (c_eqf c)) | (simp only [Option.getD_some]; exact (k2 (c_eqf c))))
theorem w_Model_sells_110 {rod : Nat → Nat × (Nat → Int32)} {d : Nat} {Q : Option MV → MH → Prop} {x1 : Int32} {u2 : Option MV} {u3 : Option MV} {u4 : Option MV} {u5 : Option MV} {u6 : Option MV} {h : MH} (L : Lay h.2) (g0 : 0 ≤ x1.toInt ∧ x1.toInt < 8) (k : Wb rod d B_Model_sells 117 [some (.inr (.inr (.inl (some 84)))), some (.inl x1), u2, u3, u4, u5, u6] [] (sI h 88 x1.toNatClampNeg (0 : Int32)) Q) : Wb rod d B_Model_sells 110 [some (.inr (.inr (.inl (some 84)))), some (.inl x1), u2, u3, u4, u5, u6] [] h Q := by
  refine Wb.go (fun r hr q => b_Model_sells_110 (Lay.o84 L) (Lay.a84_16 L g0) ?_) k
  (first | exact q | (simp only [Option.getD_some, (Lay.r84_16 L)]; exact q))
theorem w_Model_sells_117 {rod : Nat → Nat × (Nat → Int32)} {d : Nat} {Q : Option MV → MH → Prop} {x1 : Int32} {u2 : Option MV} {x3 : Int32} {u4 : Option MV} {u5 : Option MV} {u6 : Option MV} {h : MH} (L : Lay h.2) (g0 : 0 ≤ x1.toInt ∧ x1.toInt < 8) (k : Wb rod d B_Model_sells 127 [some (.inr (.inr (.inl (some 84)))), some (.inl x1), u2, some (.inl x3), u4, u5, u6] [] (sI h 91 x1.toNatClampNeg ((h.1 91 x1.toNatClampNeg) + x3)) Q) : Wb rod d B_Model_sells 117 [some (.inr (.inr (.inl (some 84)))), some (.inl x1), u2, some (.inl x3), u4, u5, u6] [] h Q := by
  refine Wb.go (fun r hr q => b_Model_sells_117 (Lay.o84 L) (Lay.a84_19 L g0) ?_) k
  (first | exact q | (simp only [Option.getD_some, (Lay.r84_19 L)]; exact q))
theorem w_Model_sells_127 {rod : Nat → Nat × (Nat → Int32)} {d : Nat} {Q : Option MV → MH → Prop} {u1 : Option MV} {u2 : Option MV} {u3 : Option MV} {u4 : Option MV} {u5 : Option MV} {u6 : Option MV} {h : MH} (L : Lay h.2)  (k : Wb rod d B_Model_sells 137 [some (.inr (.inr (.inl (some 84)))), u1, u2, u3, u4, u5, u6] [] (sI h 84 24 ((h.1 84 24) + (1 : Int32))) Q) : Wb rod d B_Model_sells 127 [some (.inr (.inr (.inl (some 84)))), u1, u2, u3, u4, u5, u6] [] h Q := by
  refine Wb.go (fun r hr q => b_Model_sells_127 (Lay.o84 L) ?_) k
  (first | exact q | (simp only [Option.getD_some]; exact q))
theorem w_Model_sells_137 {rod : Nat → Nat × (Nat → Int32)} {d : Nat} {Q : Option MV → MH → Prop} {u1 : Option MV} {u2 : Option MV} {u3 : Option MV} {x4 : Int32} {u5 : Option MV} {u6 : Option MV} {h : MH} (L : Lay h.2) (g0 : 0 ≤ ((h.1 84 12) + (3 : Int32)).toInt ∧ ((h.1 84 12) + (3 : Int32)).toInt < 4584) (g1 : 0 ≤ ((h.1 84 12) + (4 : Int32)).toInt ∧ ((h.1 84 12) + (4 : Int32)).toInt < 4584) (k : Wb rod d B_Model_sells 186 [some (.inr (.inr (.inl (some 84)))), u1, u2, u3, some (.inl x4), some (.inl ((x4 * (h.1 85 ((h.1 84 12) + (3 : Int32)).toNatClampNeg)) / (10 : Int32))), some (.inl ((x4 * (h.1 85 ((h.1 84 12) + (4 : Int32)).toNatClampNeg)) / (10 : Int32)))] [] (sI h 84 25 ((h.1 84 25) + ((x4 * (h.1 85 ((h.1 84 12) + (3 : Int32)).toNatClampNeg)) / (10 : Int32)))) Q) : Wb rod d B_Model_sells 137 [some (.inr (.inr (.inl (some 84)))), u1, u2, u3, some (.inl x4), u5, u6] [] h Q := by
  refine Wb.go (fun r hr q => b_Model_sells_137 (Lay.o84 L) (Lay.a84_0 L (by first | exact g0 | (simp only [Option.getD_some, (Lay.r84_0 L)]; exact g0))) (by decide) (Lay.a84_0 L (by first | exact g1 | (simp only [Option.getD_some, (Lay.r84_0 L)]; exact g1))) ?_) k
  (first | exact q | (simp only [Option.getD_some, (Lay.r84_0 L)]; exact q))
theorem w_Model_sells_186 {rod : Nat → Nat × (Nat → Int32)} {d : Nat} {Q : Option MV → MH → Prop} {u1 : Option MV} {u2 : Option MV} {u3 : Option MV} {u4 : Option MV} {u5 : Option MV} {x6 : Int32} {h : MH} (L : Lay h.2)  (k : Wb rod d B_Model_sells 197 [some (.inr (.inr (.inl (some 84)))), u1, u2, u3, u4, u5, some (.inl x6)] [] (sI h 84 26 ((h.1 84 26) + x6)) Q) : Wb rod d B_Model_sells 186 [some (.inr (.inr (.inl (some 84)))), u1, u2, u3, u4, u5, some (.inl x6)] [] h Q := by
  refine Wb.go (fun r hr q => b_Model_sells_186 (Lay.o84 L) ?_) k
  (first | exact q | (simp only [Option.getD_some]; exact q))
theorem w_Model_sells_197 {rod : Nat → Nat × (Nat → Int32)} {d : Nat} {Q : Option MV → MH → Prop} {u1 : Option MV} {u2 : Option MV} {u3 : Option MV} {x4 : Int32} {x5 : Int32} {x6 : Int32} {h : MH} (L : Lay h.2)  (k : Wb rod d B_Model_sells 214 [some (.inr (.inr (.inl (some 84)))), u1, u2, u3, some (.inl x4), some (.inl x5), some (.inl x6)] [] (sI h 84 27 ((h.1 84 27) + ((x4 - x5) - x6))) Q) : Wb rod d B_Model_sells 197 [some (.inr (.inr (.inl (some 84)))), u1, u2, u3, some (.inl x4), some (.inl x5), some (.inl x6)] [] h Q := by
  refine Wb.go (fun r hr q => b_Model_sells_197 (Lay.o84 L) ?_) k
  (first | exact q | (simp only [Option.getD_some]; exact q))
theorem w_Model_sells_214 {rod : Nat → Nat × (Nat → Int32)} {d : Nat} {Q : Option MV → MH → Prop} {u0 : Option MV} {u1 : Option MV} {u2 : Option MV} {u3 : Option MV} {u4 : Option MV} {u5 : Option MV} {u6 : Option MV} {h : MH}   (q : Q (some (.inl (1 : Int32))) h) : Wb rod d B_Model_sells 214 [u0, u1, u2, u3, u4, u5, u6] [] h Q := by
  refine Wb.ret (b_Model_sells_214) ?_
  (first | exact q | (simp only [Option.getD_some]; exact q))
theorem n_Model_isShut {rod : Nat → Nat × (Nat → Int32)} {d : Nat} {Q : Option MV → MH → Prop} {x1 : Int32} {h : MH} (k : Wb rod d B_Model_isShut 0 [some (.inr (.inr (.inl (some 84)))), some (.inl x1)] [] h Q) : Wc rod (d + 1) 236 [.inr (.inr (.inl (some 84))), .inl x1] h Q := Wc.en (fun _ _ => e_Model_isShut) k
theorem w_Model_isShut_0 {rod : Nat → Nat × (Nat → Int32)} {d : Nat} {Q : Option MV → MH → Prop} {x1 : Int32} {h : MH} (L : Lay h.2)  (k1 : ¬ (((h.1 84 23) >>> (x1 &&& 31)) &&& (1 : Int32)).toInt = 1 → Wb rod d B_Model_isShut 16 [some (.inr (.inr (.inl (some 84)))), some (.inl x1)] [] h Q) (k2 : (((h.1 84 23) >>> (x1 &&& 31)) &&& (1 : Int32)).toInt = 1 → Wb rod d B_Model_isShut 12 [some (.inr (.inr (.inl (some 84)))), some (.inl x1)] [] h Q) : Wb rod d B_Model_isShut 0 [some (.inr (.inr (.inl (some 84)))), some (.inl x1)] [] h Q := by
  refine Wb.br (fun _ _ => b_Model_isShut_0 (Lay.o84 L)) (fun c => ?_) (fun c => ?_)
  · have c : (!(decide ((((h.1 84 23) >>> (x1 &&& 31)) &&& (1 : Int32)) = (1 : Int32)))) = true := by first | exact c | (simp only [Option.getD_some] at c; exact c)
    (first | exact (k1 (c_net c)) | (simp only [Option.getD_some]; exact (k1 (c_net c))))
  · have c : (!(decide ((((h.1 84 23) >>> (x1 &&& 31)) &&& (1 : Int32)) = (1 : Int32)))) = false := by first | exact c | (simp only [Option.getD_some] at c; exact c)
    (first | exact (k2 (c_nef c)) | (simp only [Option.getD_some]; exact (k2 (c_nef c))))
theorem w_Model_isShut_12 {rod : Nat → Nat × (Nat → Int32)} {d : Nat} {Q : Option MV → MH → Prop} {u0 : Option MV} {u1 : Option MV} {h : MH}   (k : Wb rod d B_Model_isShut 17 [u0, u1] [.inl (1 : Int32)] h Q) : Wb rod d B_Model_isShut 12 [u0, u1] [] h Q := by
  refine Wb.go (fun r hr q => b_Model_isShut_12 ?_) k
  (first | exact q | (simp only [Option.getD_some]; exact q))
theorem w_Model_isShut_16 {rod : Nat → Nat × (Nat → Int32)} {d : Nat} {Q : Option MV → MH → Prop} {u0 : Option MV} {u1 : Option MV} {h : MH}   (k : Wb rod d B_Model_isShut 17 [u0, u1] [.inl (0 : Int32)] h Q) : Wb rod d B_Model_isShut 16 [u0, u1] [] h Q := by
  refine Wb.go (fun r hr q => b_Model_isShut_16 ?_) k
  (first | exact q | (simp only [Option.getD_some]; exact q))
theorem w_Model_isShut_17 {rod : Nat → Nat × (Nat → Int32)} {d : Nat} {Q : Option MV → MH → Prop} {u0 : Option MV} {u1 : Option MV} {xs0 : Int32} {h : MH}  (g0 : xs0 = 0 ∨ xs0 = 1) (q : Q (some (.inl xs0)) h) : Wb rod d B_Model_isShut 17 [u0, u1] [.inl xs0] h Q := by
  refine Wb.ret (b_Model_isShut_17 (d01 g0)) ?_
  (first | exact q | (simp only [Option.getD_some]; exact q))
theorem n_Model_goesTo {rod : Nat → Nat × (Nat → Int32)} {d : Nat} {Q : Option MV → MH → Prop} {x1 : Int32} {h : MH} (k : Wb rod d B_Model_goesTo 0 [some (.inr (.inr (.inl (some 84)))), some (.inl x1)] [] h Q) : Wc rod (d + 1) 238 [.inr (.inr (.inl (some 84))), .inl x1] h Q := Wc.en (fun _ _ => e_Model_goesTo) k
theorem w_Model_goesTo_0 {rod : Nat → Nat × (Nat → Int32)} {d : Nat} {Q : Option MV → MH → Prop} {x1 : Int32} {h : MH} (L : Lay h.2)  {Q1 : Option MV → MH → Prop} (c : Wc rod d 224 [.inr (.inr (.inl (some 84))), .inl x1] h Q1) (k : ∀ r1 h2, Q1 r1 h2 → Wb rod d B_Model_goesTo 5 [some (.inr (.inr (.inl (some 84)))), some (.inl x1)] (r1.toList ++ []) h2 Q) : Wb rod d B_Model_goesTo 0 [some (.inr (.inr (.inl (some 84)))), some (.inl x1)] [] h Q := by
  refine Wb.call (fun _ _ _ _ => b_Model_goesTo_0 (Lay.o84 L)) (Q1 := Q1) ?_ ?_
  · (first | exact c | (simp only [Option.getD_some]; exact c))
  · (first | exact k | (simp only [Option.getD_some]; exact k))
theorem w_Model_goesTo_5 {rod : Nat → Nat × (Nat → Int32)} {d : Nat} {Q : Option MV → MH → Prop} {u0 : Option MV} {u1 : Option MV} {xs0 : Int32} {h : MH}   (k1 : xs0.toInt = 0 → Wb rod d B_Model_goesTo 47 [u0, u1] [] h Q) (k2 : ¬ xs0.toInt = 0 → Wb rod d B_Model_goesTo 8 [u0, u1] [] h Q) : Wb rod d B_Model_goesTo 5 [u0, u1] [.inl xs0] h Q := by
  refine Wb.br (fun _ _ => b_Model_goesTo_5) (fun c => ?_) (fun c => ?_)
  · have c : (decide (xs0 = 0)) = true := by first | exact c | (simp only [Option.getD_some] at c; exact c)
    (first | exact (k1 (c_eqt c)) | (simp only [Option.getD_some]; exact (k1 (c_eqt c))))
  · have c : (decide (xs0 = 0)) = false := by first | exact c | (simp only [Option.getD_some] at c; exact c)
    (first | exact (k2 (c_eqf c)) | (simp only [Option.getD_some]; exact (k2 (c_eqf c))))
theorem w_Model_goesTo_8 {rod : Nat → Nat × (Nat → Int32)} {d : Nat} {Q : Option MV → MH → Prop} {x1 : Int32} {h : MH} (L : Lay h.2)  {Q1 : Option MV → MH → Prop} (c : Wc rod d 236 [.inr (.inr (.inl (some 84))), .inl x1] h Q1) (k : ∀ r1 h2, Q1 r1 h2 → Wb rod d B_Model_goesTo 13 [some (.inr (.inr (.inl (some 84)))), some (.inl x1)] (r1.toList ++ []) h2 Q) : Wb rod d B_Model_goesTo 8 [some (.inr (.inr (.inl (some 84)))), some (.inl x1)] [] h Q := by
  refine Wb.call (fun _ _ _ _ => b_Model_goesTo_8 (Lay.o84 L)) (Q1 := Q1) ?_ ?_
  · (first | exact c | (simp only [Option.getD_some]; exact c))
  · (first | exact k | (simp only [Option.getD_some]; exact k))
theorem w_Model_goesTo_13 {rod : Nat → Nat × (Nat → Int32)} {d : Nat} {Q : Option MV → MH → Prop} {u0 : Option MV} {u1 : Option MV} {xs0 : Int32} {h : MH}   (k1 : ¬ xs0.toInt = 0 → Wb rod d B_Model_goesTo 47 [u0, u1] [] h Q) (k2 : xs0.toInt = 0 → Wb rod d B_Model_goesTo 16 [u0, u1] [] h Q) : Wb rod d B_Model_goesTo 13 [u0, u1] [.inl xs0] h Q := by
  refine Wb.br (fun _ _ => b_Model_goesTo_13) (fun c => ?_) (fun c => ?_)
  · have c : (!(decide (xs0 = 0))) = true := by first | exact c | (simp only [Option.getD_some] at c; exact c)
    (first | exact (k1 (c_net c)) | (simp only [Option.getD_some]; exact (k1 (c_net c))))
  · have c : (!(decide (xs0 = 0))) = false := by first | exact c | (simp only [Option.getD_some] at c; exact c)
    (first | exact (k2 (c_nef c)) | (simp only [Option.getD_some]; exact (k2 (c_nef c))))
theorem w_Model_goesTo_16 {rod : Nat → Nat × (Nat → Int32)} {d : Nat} {Q : Option MV → MH → Prop} {x1 : Int32} {h : MH} (L : Lay h.2)  {Q1 : Option MV → MH → Prop} (c : Wc rod d 225 [.inr (.inr (.inl (some 84))), .inl (h.1 84 22), .inl x1] h Q1) (k : ∀ r1 h2, Q1 r1 h2 → Wb rod d B_Model_goesTo 25 [some (.inr (.inr (.inl (some 84)))), some (.inl x1)] (r1.toList ++ []) h2 Q) : Wb rod d B_Model_goesTo 16 [some (.inr (.inr (.inl (some 84)))), some (.inl x1)] [] h Q := by
  refine Wb.call (fun _ _ _ _ => b_Model_goesTo_16 (Lay.o84 L)) (Q1 := Q1) ?_ ?_
  · (first | exact c | (simp only [Option.getD_some]; exact c))
  · (first | exact k | (simp only [Option.getD_some]; exact k))
theorem w_Model_goesTo_25 {rod : Nat → Nat × (Nat → Int32)} {d : Nat} {Q : Option MV → MH → Prop} {u0 : Option MV} {u1 : Option MV} {xs0 : Int32} {h : MH}   (k1 : xs0.toInt = 0 → Wb rod d B_Model_goesTo 47 [u0, u1] [] h Q) (k2 : ¬ xs0.toInt = 0 → Wb rod d B_Model_goesTo 28 [u0, u1] [] h Q) : Wb rod d B_Model_goesTo 25 [u0, u1] [.inl xs0] h Q := by
  refine Wb.br (fun _ _ => b_Model_goesTo_25) (fun c => ?_) (fun c => ?_)
  · have c : (decide (xs0 = 0)) = true := by first | exact c | (simp only [Option.getD_some] at c; exact c)
    (first | exact (k1 (c_eqt c)) | (simp only [Option.getD_some]; exact (k1 (c_eqt c))))
  · have c : (decide (xs0 = 0)) = false := by first | exact c | (simp only [Option.getD_some] at c; exact c)
    (first | exact (k2 (c_eqf c)) | (simp only [Option.getD_some]; exact (k2 (c_eqf c))))
theorem w_Model_goesTo_28 {rod : Nat → Nat × (Nat → Int32)} {d : Nat} {Q : Option MV → MH → Prop} {x1 : Int32} {h : MH} (L : Lay h.2)  {Q1 : Option MV → MH → Prop} (c : Wc rod d 225 [.inr (.inr (.inl (some 84))), .inl (h.1 84 22), .inl x1] h Q1) (k : ∀ r1 h2, Q1 r1 h2 → Wb rod d B_Model_goesTo 41 [some (.inr (.inr (.inl (some 84)))), some (.inl x1)] (r1.toList ++ [.inl (h.1 84 21)]) h2 Q) : Wb rod d B_Model_goesTo 28 [some (.inr (.inr (.inl (some 84)))), some (.inl x1)] [] h Q := by
  refine Wb.call (fun _ _ _ _ => b_Model_goesTo_28 (Lay.o84 L)) (Q1 := Q1) ?_ ?_
  · (first | exact c | (simp only [Option.getD_some]; exact c))
  · (first | exact k | (simp only [Option.getD_some]; exact k))
theorem w_Model_goesTo_41 {rod : Nat → Nat × (Nat → Int32)} {d : Nat} {Q : Option MV → MH → Prop} {u0 : Option MV} {u1 : Option MV} {xs0 : Int32} {xs1 : Int32} {h : MH}   (k1 : (xs0 + xs1).toInt ≤ 99 → Wb rod d B_Model_goesTo 49 [u0, u1] [] h Q) (k2 : ¬ (xs0 + xs1).toInt ≤ 99 → Wb rod d B_Model_goesTo 47 [u0, u1] [] h Q) : Wb rod d B_Model_goesTo 41 [u0, u1] [.inl xs1, .inl xs0] h Q := by
  refine Wb.br (fun _ _ => b_Model_goesTo_41) (fun c => ?_) (fun c => ?_)
  · have c : (decide ((xs0 + xs1) ≤ (99 : Int32))) = true := by first | exact c | (simp only [Option.getD_some] at c; exact c)
    (first | exact (k1 (c_let c)) | (simp only [Option.getD_some]; exact (k1 (c_let c))))
  · have c : (decide ((xs0 + xs1) ≤ (99 : Int32))) = false := by first | exact c | (simp only [Option.getD_some] at c; exact c)
    (first | exact (k2 (c_lef c)) | (simp only [Option.getD_some]; exact (k2 (c_lef c))))
theorem w_Model_goesTo_47 {rod : Nat → Nat × (Nat → Int32)} {d : Nat} {Q : Option MV → MH → Prop} {u0 : Option MV} {u1 : Option MV} {h : MH}   (q : Q (some (.inl (0 : Int32))) h) : Wb rod d B_Model_goesTo 47 [u0, u1] [] h Q := by
  refine Wb.ret (b_Model_goesTo_47) ?_
  (first | exact q | (simp only [Option.getD_some]; exact q))
theorem w_Model_goesTo_49 {rod : Nat → Nat × (Nat → Int32)} {d : Nat} {Q : Option MV → MH → Prop} {x1 : Int32} {h : MH} (L : Lay h.2)  {Q1 : Option MV → MH → Prop} (c : Wc rod d 225 [.inr (.inr (.inl (some 84))), .inl (h.1 84 22), .inl x1] h Q1) (k : ∀ r1 h2, Q1 r1 h2 → Wb rod d B_Model_goesTo 63 [some (.inr (.inr (.inl (some 84)))), some (.inl x1)] (r1.toList ++ [.inl (h.1 84 21), .inr (.inr (.inl (some 84)))]) h2 Q) : Wb rod d B_Model_goesTo 49 [some (.inr (.inr (.inl (some 84)))), some (.inl x1)] [] h Q := by
  refine Wb.call (fun _ _ _ _ => b_Model_goesTo_49 (Lay.o84 L)) (Q1 := Q1) ?_ ?_
  · (first | exact c | (simp only [Option.getD_some]; exact c))
  · (first | exact k | (simp only [Option.getD_some]; exact k))
theorem w_Model_goesTo_63 {rod : Nat → Nat × (Nat → Int32)} {d : Nat} {Q : Option MV → MH → Prop} {u0 : Option MV} {u1 : Option MV} {xs1 : Int32} {xs2 : Int32} {h : MH} (L : Lay h.2)  (k : Wb rod d B_Model_goesTo 67 [u0, u1] [] (sI h 84 21 (xs1 + xs2)) Q) : Wb rod d B_Model_goesTo 63 [u0, u1] [.inl xs2, .inl xs1, .inr (.inr (.inl (some 84)))] h Q := by
  refine Wb.go (fun r hr q => b_Model_goesTo_63 (Lay.o84 L) ?_) k
  (first | exact q | (simp only [Option.getD_some]; exact q))
theorem w_Model_goesTo_67 {rod : Nat → Nat × (Nat → Int32)} {d : Nat} {Q : Option MV → MH → Prop} {x1 : Int32} {h : MH} (L : Lay h.2)  (k : Wb rod d B_Model_goesTo 72 [some (.inr (.inr (.inl (some 84)))), some (.inl x1)] [] (sI h 84 22 x1) Q) : Wb rod d B_Model_goesTo 67 [some (.inr (.inr (.inl (some 84)))), some (.inl x1)] [] h Q := by
  refine Wb.go (fun r hr q => b_Model_goesTo_67 (Lay.o84 L) ?_) k
  (first | exact q | (simp only [Option.getD_some]; exact q))
theorem w_Model_goesTo_72 {rod : Nat → Nat × (Nat → Int32)} {d : Nat} {Q : Option MV → MH → Prop} {u0 : Option MV} {u1 : Option MV} {h : MH}   (q : Q (some (.inl (1 : Int32))) h) : Wb rod d B_Model_goesTo 72 [u0, u1] [] h Q := by
  refine Wb.ret (b_Model_goesTo_72) ?_
  (first | exact q | (simp only [Option.getD_some]; exact q))
