/-! RULES OF BLOCKS over postconditions, references resolved (13) -/
theorem n_Model_rows {rod : Nat → Nat × (Nat → Int32)} {d : Nat} {Q : Option MV → MH → Prop} {x1 : Int32} {x2 : Int32} {h : MH} (k : Wb rod d B_Model_rows 0 [some (.inr (.inr (.inl (some 84)))), some (.inl x1), some (.inl x2), none, none, none, none] [] h Q) : Wc rod (d + 1) 283 [.inr (.inr (.inl (some 84))), .inl x1, .inl x2] h Q := Wc.en (fun _ _ => e_Model_rows) k
theorem w_Model_rows_0 {rod : Nat → Nat × (Nat → Int32)} {d : Nat} {Q : Option MV → MH → Prop} {x1 : Int32} {u2 : Option MV} {u3 : Option MV} {u4 : Option MV} {u5 : Option MV} {u6 : Option MV} {h : MH} (L : Lay h.2)  {Q1 : Option MV → MH → Prop} (c : Wc rod d 282 [.inr (.inr (.inl (some 84))), .inl x1] h Q1) (k : ∀ r1 h2, Q1 r1 h2 → Wb rod d B_Model_rows 5 [some (.inr (.inr (.inl (some 84)))), some (.inl x1), u2, u3, u4, u5, u6] (r1.toList ++ []) h2 Q) : Wb rod d B_Model_rows 0 [some (.inr (.inr (.inl (some 84)))), some (.inl x1), u2, u3, u4, u5, u6] [] h Q := by
  refine Wb.call (fun _ _ _ _ => b_Model_rows_0 (Lay.o84 L)) (Q1 := Q1) ?_ ?_
  · (first | exact c | (simp only [Option.getD_some]; exact c))
  · (first | exact k | (simp only [Option.getD_some]; exact k))
theorem w_Model_rows_5 {rod : Nat → Nat × (Nat → Int32)} {d : Nat} {Q : Option MV → MH → Prop} {u0 : Option MV} {u1 : Option MV} {u2 : Option MV} {u3 : Option MV} {u4 : Option MV} {u5 : Option MV} {u6 : Option MV} {xs0 : Int32} {h : MH}   (k1 : xs0.toInt = 0 → Wb rod d B_Model_rows 22 [u0, u1, u2, u3, u4, u5, u6] [] h Q) (k2 : ¬ xs0.toInt = 0 → Wb rod d B_Model_rows 8 [u0, u1, u2, u3, u4, u5, u6] [] h Q) : Wb rod d B_Model_rows 5 [u0, u1, u2, u3, u4, u5, u6] [.inl xs0] h Q := by
  refine Wb.br (fun _ _ => b_Model_rows_5) (fun c => ?_) (fun c => ?_)
  · have c : (decide (xs0 = 0)) = true := by first | exact c | (simp only [Option.getD_some] at c; exact c)
    (first | exact (k1 (c_eqt c)) | (simp only [Option.getD_some]; exact (k1 (c_eqt c))))
  · have c : (decide (xs0 = 0)) = false := by first | exact c | (simp only [Option.getD_some] at c; exact c)
    (first | exact (k2 (c_eqf c)) | (simp only [Option.getD_some]; exact (k2 (c_eqf c))))
theorem w_Model_rows_8 {rod : Nat → Nat × (Nat → Int32)} {d : Nat} {Q : Option MV → MH → Prop} {u1 : Option MV} {x2 : Int32} {u3 : Option MV} {u4 : Option MV} {u5 : Option MV} {u6 : Option MV} {h : MH} (L : Lay h.2)  {Q1 : Option MV → MH → Prop} (c : Wc rod d 193 [.inl x2, .inl (-1 : Int32), .inl ((h.1 84 43) - (1 : Int32))] h Q1) (k : ∀ r1 h2, Q1 r1 h2 → Wb rod d B_Model_rows 19 [some (.inr (.inr (.inl (some 84)))), u1, some (.inl x2), u3, u4, u5, u6] (r1.toList ++ []) h2 Q) : Wb rod d B_Model_rows 8 [some (.inr (.inr (.inl (some 84)))), u1, some (.inl x2), u3, u4, u5, u6] [] h Q := by
  refine Wb.call (fun _ _ _ _ => b_Model_rows_8 (Lay.o84 L)) (Q1 := Q1) ?_ ?_
  · (first | exact c | (simp only [Option.getD_some]; exact c))
  · (first | exact k | (simp only [Option.getD_some]; exact k))
theorem w_Model_rows_19 {rod : Nat → Nat × (Nat → Int32)} {d : Nat} {Q : Option MV → MH → Prop} {u0 : Option MV} {u1 : Option MV} {u2 : Option MV} {u3 : Option MV} {u4 : Option MV} {u5 : Option MV} {u6 : Option MV} {xs0 : Int32} {h : MH}   (k1 : ¬ xs0.toInt = 0 → Wb rod d B_Model_rows 24 [u0, u1, u2, u3, u4, u5, u6] [] h Q) (k2 : xs0.toInt = 0 → Wb rod d B_Model_rows 22 [u0, u1, u2, u3, u4, u5, u6] [] h Q) : Wb rod d B_Model_rows 19 [u0, u1, u2, u3, u4, u5, u6] [.inl xs0] h Q := by
  refine Wb.br (fun _ _ => b_Model_rows_19) (fun c => ?_) (fun c => ?_)
  · have c : (!(decide (xs0 = 0))) = true := by first | exact c | (simp only [Option.getD_some] at c; exact c)
    (first | exact (k1 (c_net c)) | (simp only [Option.getD_some]; exact (k1 (c_net c))))
  · have c : (!(decide (xs0 = 0))) = false := by first | exact c | (simp only [Option.getD_some] at c; exact c)
    (first | exact (k2 (c_nef c)) | (simp only [Option.getD_some]; exact (k2 (c_nef c))))
theorem w_Model_rows_22 {rod : Nat → Nat × (Nat → Int32)} {d : Nat} {Q : Option MV → MH → Prop} {u0 : Option MV} {u1 : Option MV} {u2 : Option MV} {u3 : Option MV} {u4 : Option MV} {u5 : Option MV} {u6 : Option MV} {h : MH}   (q : Q (some (.inl (-1 : Int32))) h) : Wb rod d B_Model_rows 22 [u0, u1, u2, u3, u4, u5, u6] [] h Q := by
  refine Wb.ret (b_Model_rows_22) ?_
  (first | exact q | (simp only [Option.getD_some]; exact q))
theorem w_Model_rows_24 {rod : Nat → Nat × (Nat → Int32)} {d : Nat} {Q : Option MV → MH → Prop} {u1 : Option MV} {u2 : Option MV} {u3 : Option MV} {u4 : Option MV} {u5 : Option MV} {u6 : Option MV} {h : MH} (L : Lay h.2)  {Q1 : Option MV → MH → Prop} (c : Wc rod d 284 [.inr (.inr (.inl (some 84))), .inl (((1 : Int32) <<< ((h.1 84 43) &&& 31)) - (1 : Int32))] h Q1) (k : ∀ r1 h2, Q1 r1 h2 → Wb rod d B_Model_rows 36 [some (.inr (.inr (.inl (some 84)))), u1, u2, u3, u4, u5, u6] (r1.toList ++ []) h2 Q) : Wb rod d B_Model_rows 24 [some (.inr (.inr (.inl (some 84)))), u1, u2, u3, u4, u5, u6] [] h Q := by
  refine Wb.call (fun _ _ _ _ => b_Model_rows_24 (Lay.o84 L)) (Q1 := Q1) ?_ ?_
  · (first | exact c | (simp only [Option.getD_some]; exact c))
  · (first | exact k | (simp only [Option.getD_some]; exact k))
theorem w_Model_rows_36 {rod : Nat → Nat × (Nat → Int32)} {d : Nat} {Q : Option MV → MH → Prop} {u0 : Option MV} {u1 : Option MV} {u2 : Option MV} {u3 : Option MV} {u4 : Option MV} {u5 : Option MV} {u6 : Option MV} {xs0 : Int32} {h : MH}  (g0 : okl [u0, u1, u2, u3, u4, u5, u6] 3 = true) (k : Wb rod d B_Model_rows 43 [u0, u1, u2, some (.inl xs0), some (.inl (1 : Int32)), some (.inl (1 : Int32)), u6] [] h Q) : Wb rod d B_Model_rows 36 [u0, u1, u2, u3, u4, u5, u6] [.inl xs0] h Q := by
  refine Wb.go (fun r hr q => b_Model_rows_36 g0 ?_) k
  (first | exact q | (simp only [Option.getD_some]; exact q))
theorem w_Model_rows_43 {rod : Nat → Nat × (Nat → Int32)} {d : Nat} {Q : Option MV → MH → Prop} {u1 : Option MV} {u2 : Option MV} {u3 : Option MV} {u4 : Option MV} {x5 : Int32} {u6 : Option MV} {h : MH} (L : Lay h.2)  (k1 : (h.1 84 43).toInt ≤ x5.toInt → Wb rod d B_Model_rows 66 [some (.inr (.inr (.inl (some 84)))), u1, u2, u3, u4, some (.inl x5), u6] [] h Q) (k2 : ¬ (h.1 84 43).toInt ≤ x5.toInt → Wb rod d B_Model_rows 52 [some (.inr (.inr (.inl (some 84)))), u1, u2, u3, u4, some (.inl x5), u6] [] h Q) : Wb rod d B_Model_rows 43 [some (.inr (.inr (.inl (some 84)))), u1, u2, u3, u4, some (.inl x5), u6] [] h Q := by
  refine Wb.br (fun _ _ => b_Model_rows_43 (Lay.o84 L)) (fun c => ?_) (fun c => ?_)
  · have c : (decide ((h.1 84 43) ≤ x5)) = true := by first | exact c | (simp only [Option.getD_some] at c; exact c)
    (first | exact (k1 (c_let c)) | (simp only [Option.getD_some]; exact (k1 (c_let c))))
  · have c : (decide ((h.1 84 43) ≤ x5)) = false := by first | exact c | (simp only [Option.getD_some] at c; exact c)
    (first | exact (k2 (c_lef c)) | (simp only [Option.getD_some]; exact (k2 (c_lef c))))
theorem w_Model_rows_52 {rod : Nat → Nat × (Nat → Int32)} {d : Nat} {Q : Option MV → MH → Prop} {u0 : Option MV} {u1 : Option MV} {u2 : Option MV} {x3 : Int32} {x4 : Int32} {x5 : Int32} {u6 : Option MV} {h : MH}   (k : Wb rod d B_Model_rows 43 [u0, u1, u2, some (.inl x3), some (.inl (x4 * (x3 + (1 : Int32)))), some (.inl (x5 + 1)), u6] [] h Q) : Wb rod d B_Model_rows 52 [u0, u1, u2, some (.inl x3), some (.inl x4), some (.inl x5), u6] [] h Q := by
  refine Wb.go (fun r hr q => b_Model_rows_52 ?_) k
  (first | exact q | (simp only [Option.getD_some]; exact q))
theorem w_Model_rows_66 {rod : Nat → Nat × (Nat → Int32)} {d : Nat} {Q : Option MV → MH → Prop} {u0 : Option MV} {u1 : Option MV} {u2 : Option MV} {u3 : Option MV} {u4 : Option MV} {u5 : Option MV} {u6 : Option MV} {h : MH}  (g0 : okl [u0, u1, u2, u3, u4, u5, u6] 5 = true) (k : Wb rod d B_Model_rows 72 [u0, u1, u2, u3, u4, some (.inl (0 : Int32)), some (.inl (0 : Int32))] [] h Q) : Wb rod d B_Model_rows 66 [u0, u1, u2, u3, u4, u5, u6] [] h Q := by
  refine Wb.go (fun r hr q => b_Model_rows_66 g0 ?_) k
  (first | exact q | (simp only [Option.getD_some]; exact q))
theorem w_Model_rows_72 {rod : Nat → Nat × (Nat → Int32)} {d : Nat} {Q : Option MV → MH → Prop} {u0 : Option MV} {u1 : Option MV} {u2 : Option MV} {u3 : Option MV} {x4 : Int32} {u5 : Option MV} {x6 : Int32} {h : MH}   (k1 : x4.toInt ≤ x6.toInt → Wb rod d B_Model_rows 120 [u0, u1, u2, u3, some (.inl x4), u5, some (.inl x6)] [] h Q) (k2 : ¬ x4.toInt ≤ x6.toInt → Wb rod d B_Model_rows 79 [u0, u1, u2, u3, some (.inl x4), u5, some (.inl x6)] [] h Q) : Wb rod d B_Model_rows 72 [u0, u1, u2, u3, some (.inl x4), u5, some (.inl x6)] [] h Q := by
  refine Wb.br (fun _ _ => b_Model_rows_72) (fun c => ?_) (fun c => ?_)
  · have c : (decide (x4 ≤ x6)) = true := by first | exact c | (simp only [Option.getD_some] at c; exact c)
    (first | exact (k1 (c_let c)) | (simp only [Option.getD_some]; exact (k1 (c_let c))))
  · have c : (decide (x4 ≤ x6)) = false := by first | exact c | (simp only [Option.getD_some] at c; exact c)
    (first | exact (k2 (c_lef c)) | (simp only [Option.getD_some]; exact (k2 (c_lef c))))
theorem w_Model_rows_79 {rod : Nat → Nat × (Nat → Int32)} {d : Nat} {Q : Option MV → MH → Prop} {u1 : Option MV} {u2 : Option MV} {x3 : Int32} {u4 : Option MV} {u5 : Option MV} {x6 : Int32} {h : MH} (L : Lay h.2)  {Q1 : Option MV → MH → Prop} (c : Wc rod d 285 [.inr (.inr (.inl (some 84))), .inl x6, .inl x3] h Q1) (k : ∀ r1 h2, Q1 r1 h2 → Wb rod d B_Model_rows 86 [some (.inr (.inr (.inl (some 84)))), u1, u2, some (.inl x3), u4, u5, some (.inl x6)] (r1.toList ++ []) h2 Q) : Wb rod d B_Model_rows 79 [some (.inr (.inr (.inl (some 84)))), u1, u2, some (.inl x3), u4, u5, some (.inl x6)] [] h Q := by
  refine Wb.call (fun _ _ _ _ => b_Model_rows_79 (Lay.o84 L)) (Q1 := Q1) ?_ ?_
  · (first | exact c | (simp only [Option.getD_some]; exact c))
  · (first | exact k | (simp only [Option.getD_some]; exact k))
theorem w_Model_rows_86 {rod : Nat → Nat × (Nat → Int32)} {d : Nat} {Q : Option MV → MH → Prop} {u0 : Option MV} {u1 : Option MV} {u2 : Option MV} {u3 : Option MV} {u4 : Option MV} {u5 : Option MV} {u6 : Option MV} {xs0 : Int32} {h : MH}   (k1 : xs0.toInt = 0 → Wb rod d B_Model_rows 114 [u0, u1, u2, u3, u4, u5, u6] [] h Q) (k2 : ¬ xs0.toInt = 0 → Wb rod d B_Model_rows 89 [u0, u1, u2, u3, u4, u5, u6] [] h Q) : Wb rod d B_Model_rows 86 [u0, u1, u2, u3, u4, u5, u6] [.inl xs0] h Q := by
  refine Wb.br (fun _ _ => b_Model_rows_86) (fun c => ?_) (fun c => ?_)
  · have c : (decide (xs0 = 0)) = true := by first | exact c | (simp only [Option.getD_some] at c; exact c)
    (first | exact (k1 (c_eqt c)) | (simp only [Option.getD_some]; exact (k1 (c_eqt c))))
  · have c : (decide (xs0 = 0)) = false := by first | exact c | (simp only [Option.getD_some] at c; exact c)
    (first | exact (k2 (c_eqf c)) | (simp only [Option.getD_some]; exact (k2 (c_eqf c))))
theorem w_Model_rows_89 {rod : Nat → Nat × (Nat → Int32)} {d : Nat} {Q : Option MV → MH → Prop} {u1 : Option MV} {u2 : Option MV} {u3 : Option MV} {u4 : Option MV} {u5 : Option MV} {u6 : Option MV} {h : MH} (L : Lay h.2)  {Q1 : Option MV → MH → Prop} (c : Wc rod d 286 [.inr (.inr (.inl (some 84)))] h Q1) (k : ∀ r1 h2, Q1 r1 h2 → Wb rod d B_Model_rows 93 [some (.inr (.inr (.inl (some 84)))), u1, u2, u3, u4, u5, u6] (r1.toList ++ []) h2 Q) : Wb rod d B_Model_rows 89 [some (.inr (.inr (.inl (some 84)))), u1, u2, u3, u4, u5, u6] [] h Q := by
  refine Wb.call (fun _ _ _ _ => b_Model_rows_89 (Lay.o84 L)) (Q1 := Q1) ?_ ?_
  · (first | exact c | (simp only [Option.getD_some]; exact c))
  · (first | exact k | (simp only [Option.getD_some]; exact k))
theorem w_Model_rows_93 {rod : Nat → Nat × (Nat → Int32)} {d : Nat} {Q : Option MV → MH → Prop} {u0 : Option MV} {u1 : Option MV} {u2 : Option MV} {u3 : Option MV} {u4 : Option MV} {u5 : Option MV} {u6 : Option MV} {xs0 : Int32} {h : MH}   (k1 : ¬ xs0.toInt = 0 → Wb rod d B_Model_rows 99 [u0, u1, u2, u3, u4, u5, u6] [] h Q) (k2 : xs0.toInt = 0 → Wb rod d B_Model_rows 96 [u0, u1, u2, u3, u4, u5, u6] [] h Q) : Wb rod d B_Model_rows 93 [u0, u1, u2, u3, u4, u5, u6] [.inl xs0] h Q := by
  refine Wb.br (fun _ _ => b_Model_rows_93) (fun c => ?_) (fun c => ?_)
  · have c : (!(decide (xs0 = 0))) = true := by first | exact c | (simp only [Option.getD_some] at c; exact c)
    (first | exact (k1 (c_net c)) | (simp only [Option.getD_some]; exact (k1 (c_net c))))
  · have c : (!(decide (xs0 = 0))) = false := by first | exact c | (simp only [Option.getD_some] at c; exact c)
    (first | exact (k2 (c_nef c)) | (simp only [Option.getD_some]; exact (k2 (c_nef c))))
theorem w_Model_rows_96 {rod : Nat → Nat × (Nat → Int32)} {d : Nat} {Q : Option MV → MH → Prop} {u0 : Option MV} {u1 : Option MV} {u2 : Option MV} {u3 : Option MV} {u4 : Option MV} {u5 : Option MV} {u6 : Option MV} {h : MH}   (k : Wb rod d B_Model_rows 114 [u0, u1, u2, u3, u4, u5, u6] [] h Q) : Wb rod d B_Model_rows 96 [u0, u1, u2, u3, u4, u5, u6] [] h Q := by
  refine Wb.go (fun r hr q => b_Model_rows_96 ?_) k
  (first | exact q | (simp only [Option.getD_some]; exact q))
theorem w_Model_rows_99 {rod : Nat → Nat × (Nat → Int32)} {d : Nat} {Q : Option MV → MH → Prop} {u0 : Option MV} {u1 : Option MV} {x2 : Int32} {u3 : Option MV} {u4 : Option MV} {u5 : Option MV} {u6 : Option MV} {h : MH}   (k1 : x2.toInt = (-1) → Wb rod d B_Model_rows 111 [u0, u1, some (.inl x2), u3, u4, u5, u6] [] h Q) (k2 : ¬ x2.toInt = (-1) → Wb rod d B_Model_rows 104 [u0, u1, some (.inl x2), u3, u4, u5, u6] [] h Q) : Wb rod d B_Model_rows 99 [u0, u1, some (.inl x2), u3, u4, u5, u6] [] h Q := by
  refine Wb.br (fun _ _ => b_Model_rows_99) (fun c => ?_) (fun c => ?_)
  · have c : (decide (x2 = (-1 : Int32))) = true := by first | exact c | (simp only [Option.getD_some] at c; exact c)
    (first | exact (k1 (c_eqt c)) | (simp only [Option.getD_some]; exact (k1 (c_eqt c))))
  · have c : (decide (x2 = (-1 : Int32))) = false := by first | exact c | (simp only [Option.getD_some] at c; exact c)
    (first | exact (k2 (c_eqf c)) | (simp only [Option.getD_some]; exact (k2 (c_eqf c))))
theorem w_Model_rows_104 {rod : Nat → Nat × (Nat → Int32)} {d : Nat} {Q : Option MV → MH → Prop} {u1 : Option MV} {x2 : Int32} {u3 : Option MV} {u4 : Option MV} {u5 : Option MV} {u6 : Option MV} {h : MH} (L : Lay h.2) (g0 : 0 ≤ x2.toInt ∧ x2.toInt < 4) (q : Q (some (.inl (h.1 97 x2.toNatClampNeg))) h) : Wb rod d B_Model_rows 104 [some (.inr (.inr (.inl (some 84)))), u1, some (.inl x2), u3, u4, u5, u6] [] h Q := by
  refine Wb.ret (b_Model_rows_104 (Lay.o84 L) (Lay.a84_44 L g0)) ?_
  (first | exact q | (simp only [Option.getD_some, (Lay.r84_44 L)]; exact q))
theorem w_Model_rows_111 {rod : Nat → Nat × (Nat → Int32)} {d : Nat} {Q : Option MV → MH → Prop} {u0 : Option MV} {u1 : Option MV} {u2 : Option MV} {u3 : Option MV} {u4 : Option MV} {x5 : Int32} {u6 : Option MV} {h : MH}  (g0 : okl [u0, u1, u2, u3, u4, some (.inl x5), u6] 5 = true) (k : Wb rod d B_Model_rows 114 [u0, u1, u2, u3, u4, some (.inl (x5 + 1)), u6] [] h Q) : Wb rod d B_Model_rows 111 [u0, u1, u2, u3, u4, some (.inl x5), u6] [] h Q := by
  refine Wb.go (fun r hr q => b_Model_rows_111 g0 ?_) k
  (first | exact q | (simp only [Option.getD_some]; exact q))
theorem w_Model_rows_114 {rod : Nat → Nat × (Nat → Int32)} {d : Nat} {Q : Option MV → MH → Prop} {u0 : Option MV} {u1 : Option MV} {u2 : Option MV} {u3 : Option MV} {u4 : Option MV} {u5 : Option MV} {x6 : Int32} {h : MH}  (g0 : okl [u0, u1, u2, u3, u4, u5, some (.inl x6)] 6 = true) (k : Wb rod d B_Model_rows 72 [u0, u1, u2, u3, u4, u5, some (.inl (x6 + 1))] [] h Q) : Wb rod d B_Model_rows 114 [u0, u1, u2, u3, u4, u5, some (.inl x6)] [] h Q := by
  refine Wb.go (fun r hr q => b_Model_rows_114 g0 ?_) k
  (first | exact q | (simp only [Option.getD_some]; exact q))
theorem w_Model_rows_120 {rod : Nat → Nat × (Nat → Int32)} {d : Nat} {Q : Option MV → MH → Prop} {u0 : Option MV} {u1 : Option MV} {x2 : Int32} {u3 : Option MV} {u4 : Option MV} {u5 : Option MV} {u6 : Option MV} {h : MH}   (k1 : ¬ x2.toInt = (-1) → Wb rod d B_Model_rows 130 [u0, u1, some (.inl x2), u3, u4, u5, u6] [] h Q) (k2 : x2.toInt = (-1) → Wb rod d B_Model_rows 125 [u0, u1, some (.inl x2), u3, u4, u5, u6] [] h Q) : Wb rod d B_Model_rows 120 [u0, u1, some (.inl x2), u3, u4, u5, u6] [] h Q := by
  refine Wb.br (fun _ _ => b_Model_rows_120) (fun c => ?_) (fun c => ?_)
  · have c : (!(decide (x2 = (-1 : Int32)))) = true := by first | exact c | (simp only [Option.getD_some] at c; exact c)
    (first | exact (k1 (c_net c)) | (simp only [Option.getD_some]; exact (k1 (c_net c))))
  · have c : (!(decide (x2 = (-1 : Int32)))) = false := by first | exact c | (simp only [Option.getD_some] at c; exact c)
    (first | exact (k2 (c_nef c)) | (simp only [Option.getD_some]; exact (k2 (c_nef c))))
theorem w_Model_rows_125 {rod : Nat → Nat × (Nat → Int32)} {d : Nat} {Q : Option MV → MH → Prop} {u0 : Option MV} {u1 : Option MV} {u2 : Option MV} {u3 : Option MV} {u4 : Option MV} {x5 : Int32} {u6 : Option MV} {h : MH}   (k : Wb rod d B_Model_rows 131 [u0, u1, u2, u3, u4, some (.inl x5), u6] [.inl x5] h Q) : Wb rod d B_Model_rows 125 [u0, u1, u2, u3, u4, some (.inl x5), u6] [] h Q := by
  refine Wb.go (fun r hr q => b_Model_rows_125 ?_) k
  (first | exact q | (simp only [Option.getD_some]; exact q))
theorem w_Model_rows_130 {rod : Nat → Nat × (Nat → Int32)} {d : Nat} {Q : Option MV → MH → Prop} {u0 : Option MV} {u1 : Option MV} {u2 : Option MV} {u3 : Option MV} {u4 : Option MV} {u5 : Option MV} {u6 : Option MV} {h : MH}   (k : Wb rod d B_Model_rows 131 [u0, u1, u2, u3, u4, u5, u6] [.inl (-1 : Int32)] h Q) : Wb rod d B_Model_rows 130 [u0, u1, u2, u3, u4, u5, u6] [] h Q := by
  refine Wb.go (fun r hr q => b_Model_rows_130 ?_) k
  (first | exact q | (simp only [Option.getD_some]; exact q))
theorem w_Model_rows_131 {rod : Nat → Nat × (Nat → Int32)} {d : Nat} {Q : Option MV → MH → Prop} {u0 : Option MV} {u1 : Option MV} {u2 : Option MV} {u3 : Option MV} {u4 : Option MV} {u5 : Option MV} {u6 : Option MV} {xs0 : Int32} {h : MH}   (q : Q (some (.inl xs0)) h) : Wb rod d B_Model_rows 131 [u0, u1, u2, u3, u4, u5, u6] [.inl xs0] h Q := by
  refine Wb.ret (b_Model_rows_131) ?_
  (first | exact q | (simp only [Option.getD_some]; exact q))
theorem n_Model_worthOf {rod : Nat → Nat × (Nat → Int32)} {d : Nat} {Q : Option MV → MH → Prop} {x1 : Int32} {h : MH} (k : Wb rod d B_Model_worthOf 0 [some (.inr (.inr (.inl (some 84)))), some (.inl x1)] [] h Q) : Wc rod (d + 1) 284 [.inr (.inr (.inl (some 84))), .inl x1] h Q := Wc.en (fun _ _ => e_Model_worthOf) k
theorem w_Model_worthOf_0 {rod : Nat → Nat × (Nat → Int32)} {d : Nat} {Q : Option MV → MH → Prop} {u0 : Option MV} {x1 : Int32} {h : MH}   (k1 : ¬ x1.toInt = 0 → Wb rod d B_Model_worthOf 8 [u0, some (.inl x1)] [] h Q) (k2 : x1.toInt = 0 → Wb rod d B_Model_worthOf 4 [u0, some (.inl x1)] [] h Q) : Wb rod d B_Model_worthOf 0 [u0, some (.inl x1)] [] h Q := by
  refine Wb.br (fun _ _ => b_Model_worthOf_0) (fun c => ?_) (fun c => ?_)
  · have c : (!(decide (x1 = 0))) = true := by first | exact c | (simp only [Option.getD_some] at c; exact c)
    (first | exact (k1 (c_net c)) | (simp only [Option.getD_some]; exact (k1 (c_net c))))
  · have c : (!(decide (x1 = 0))) = false := by first | exact c | (simp only [Option.getD_some] at c; exact c)
    (first | exact (k2 (c_nef c)) | (simp only [Option.getD_some]; exact (k2 (c_nef c))))
theorem w_Model_worthOf_4 {rod : Nat → Nat × (Nat → Int32)} {d : Nat} {Q : Option MV → MH → Prop} {u0 : Option MV} {u1 : Option MV} {h : MH}   (k : Wb rod d B_Model_worthOf 19 [u0, u1] [.inl (0 : Int32)] h Q) : Wb rod d B_Model_worthOf 4 [u0, u1] [] h Q := by
  refine Wb.go (fun r hr q => b_Model_worthOf_4 ?_) k
  (first | exact q | (simp only [Option.getD_some]; exact q))
theorem w_Model_worthOf_8 {rod : Nat → Nat × (Nat → Int32)} {d : Nat} {Q : Option MV → MH → Prop} {x1 : Int32} {h : MH} (L : Lay h.2) (g0 : 0 ≤ ((h.1 84 42) + x1).toInt ∧ ((h.1 84 42) + x1).toInt < 4584) (k : Wb rod d B_Model_worthOf 19 [some (.inr (.inr (.inl (some 84)))), some (.inl x1)] [.inl (h.1 85 ((h.1 84 42) + x1).toNatClampNeg)] h Q) : Wb rod d B_Model_worthOf 8 [some (.inr (.inr (.inl (some 84)))), some (.inl x1)] [] h Q := by
  refine Wb.go (fun r hr q => b_Model_worthOf_8 (Lay.o84 L) (Lay.a84_0 L (by first | exact g0 | (simp only [Option.getD_some, (Lay.r84_0 L)]; exact g0))) ?_) k
  (first | exact q | (simp only [Option.getD_some, (Lay.r84_0 L)]; exact q))
theorem w_Model_worthOf_19 {rod : Nat → Nat × (Nat → Int32)} {d : Nat} {Q : Option MV → MH → Prop} {u0 : Option MV} {u1 : Option MV} {xs0 : Int32} {h : MH}   (q : Q (some (.inl xs0)) h) : Wb rod d B_Model_worthOf 19 [u0, u1] [.inl xs0] h Q := by
  refine Wb.ret (b_Model_worthOf_19) ?_
  (first | exact q | (simp only [Option.getD_some]; exact q))
theorem n_Model_isShared {rod : Nat → Nat × (Nat → Int32)} {d : Nat} {Q : Option MV → MH → Prop} {x1 : Int32} {x2 : Int32} {h : MH} (k : Wb rod d B_Model_isShared 0 [some (.inr (.inr (.inl (some 84)))), some (.inl x1), some (.inl x2), none, none, none] [] h Q) : Wc rod (d + 1) 285 [.inr (.inr (.inl (some 84))), .inl x1, .inl x2] h Q := Wc.en (fun _ _ => e_Model_isShared) k
theorem w_Model_isShared_0 {rod : Nat → Nat × (Nat → Int32)} {d : Nat} {Q : Option MV → MH → Prop} {x1 : Int32} {u2 : Option MV} {u3 : Option MV} {u4 : Option MV} {u5 : Option MV} {h : MH} (L : Lay h.2) (g0 : okl [some (.inr (.inr (.inl (some 84)))), some (.inl x1), u2, u3, u4, u5] 3 = true) (k : Wb rod d B_Model_isShared 13 [some (.inr (.inr (.inl (some 84)))), some (.inl x1), u2, some (.inl x1), some (.inl (0 : Int32)), some (.inl ((h.1 84 43) - (2 : Int32)))] [] h Q) : Wb rod d B_Model_isShared 0 [some (.inr (.inr (.inl (some 84)))), some (.inl x1), u2, u3, u4, u5] [] h Q := by
  refine Wb.go (fun r hr q => b_Model_isShared_0 g0 (Lay.o84 L) ?_) k
  (first | exact q | (simp only [Option.getD_some]; exact q))
theorem w_Model_isShared_13 {rod : Nat → Nat × (Nat → Int32)} {d : Nat} {Q : Option MV → MH → Prop} {u0 : Option MV} {u1 : Option MV} {u2 : Option MV} {u3 : Option MV} {u4 : Option MV} {x5 : Int32} {h : MH}   (k1 : x5.toInt < 0 → Wb rod d B_Model_isShared 54 [u0, u1, u2, u3, u4, some (.inl x5)] [] h Q) (k2 : ¬ x5.toInt < 0 → Wb rod d B_Model_isShared 18 [u0, u1, u2, u3, u4, some (.inl x5)] [] h Q) : Wb rod d B_Model_isShared 13 [u0, u1, u2, u3, u4, some (.inl x5)] [] h Q := by
  refine Wb.br (fun _ _ => b_Model_isShared_13) (fun c => ?_) (fun c => ?_)
  · have c : (decide (x5 < 0)) = true := by first | exact c | (simp only [Option.getD_some] at c; exact c)
    (first | exact (k1 (c_ltt c)) | (simp only [Option.getD_some]; exact (k1 (c_ltt c))))
  · have c : (decide (x5 < 0)) = false := by first | exact c | (simp only [Option.getD_some] at c; exact c)
    (first | exact (k2 (c_ltf c)) | (simp only [Option.getD_some]; exact (k2 (c_ltf c))))
theorem w_Model_isShared_18 {rod : Nat → Nat × (Nat → Int32)} {d : Nat} {Q : Option MV → MH → Prop} {u1 : Option MV} {x2 : Int32} {x3 : Int32} {u4 : Option MV} {x5 : Int32} {h : MH} (L : Lay h.2) (g0 : (x2 + (1 : Int32)) ≠ 0) (g1 : 0 ≤ x5.toInt ∧ x5.toInt < 4) (k : Wb rod d B_Model_isShared 30 [some (.inr (.inr (.inl (some 84)))), u1, some (.inl x2), some (.inl x3), u4, some (.inl x5)] [] (sI h 97 x5.toNatClampNeg (x3 - x3 / (x2 + (1 : Int32)) * (x2 + (1 : Int32)))) Q) : Wb rod d B_Model_isShared 18 [some (.inr (.inr (.inl (some 84)))), u1, some (.inl x2), some (.inl x3), u4, some (.inl x5)] [] h Q := by
  refine Wb.go (fun r hr q => b_Model_isShared_18 (Lay.o84 L) (ndec g0) (Lay.a84_44 L g1) ?_) k
  (first | exact q | (simp only [Option.getD_some, (Lay.r84_44 L)]; exact q))
theorem w_Model_isShared_30 {rod : Nat → Nat × (Nat → Int32)} {d : Nat} {Q : Option MV → MH → Prop} {u1 : Option MV} {x2 : Int32} {x3 : Int32} {x4 : Int32} {x5 : Int32} {h : MH} (L : Lay h.2) (g0 : (x2 + (1 : Int32)) ≠ 0) (g1 : 0 ≤ x5.toInt ∧ x5.toInt < 4) (k : Wb rod d B_Model_isShared 13 [some (.inr (.inr (.inl (some 84)))), u1, some (.inl x2), some (.inl (x3 / (x2 + (1 : Int32)))), some (.inl (x4 + (h.1 97 x5.toNatClampNeg))), some (.inl (x5 + (-1)))] [] h Q) : Wb rod d B_Model_isShared 30 [some (.inr (.inr (.inl (some 84)))), u1, some (.inl x2), some (.inl x3), some (.inl x4), some (.inl x5)] [] h Q := by
  refine Wb.go (fun r hr q => b_Model_isShared_30 (ndec g0) (Lay.o84 L) (Lay.a84_44 L g1) ?_) k
  (first | exact q | (simp only [Option.getD_some, (Lay.r84_44 L)]; exact q))
theorem w_Model_isShared_54 {rod : Nat → Nat × (Nat → Int32)} {d : Nat} {Q : Option MV → MH → Prop} {u1 : Option MV} {x2 : Int32} {u3 : Option MV} {x4 : Int32} {u5 : Option MV} {h : MH} (L : Lay h.2) (g0 : 0 ≤ ((h.1 84 43) - (1 : Int32)).toInt ∧ ((h.1 84 43) - (1 : Int32)).toInt < 4) (k : Wb rod d B_Model_isShared 69 [some (.inr (.inr (.inl (some 84)))), u1, some (.inl x2), u3, some (.inl x4), u5] [] (sI h 97 ((h.1 84 43) - (1 : Int32)).toNatClampNeg (x2 - x4)) Q) : Wb rod d B_Model_isShared 54 [some (.inr (.inr (.inl (some 84)))), u1, some (.inl x2), u3, some (.inl x4), u5] [] h Q := by
  refine Wb.go (fun r hr q => b_Model_isShared_54 (Lay.o84 L) (Lay.a84_44 L (by first | exact g0 | (simp only [Option.getD_some, (Lay.r84_44 L)]; exact g0))) ?_) k
  (first | exact q | (simp only [Option.getD_some, (Lay.r84_44 L)]; exact q))
theorem w_Model_isShared_69 {rod : Nat → Nat × (Nat → Int32)} {d : Nat} {Q : Option MV → MH → Prop} {u0 : Option MV} {u1 : Option MV} {x2 : Int32} {u3 : Option MV} {x4 : Int32} {u5 : Option MV} {h : MH}   (k1 : x2.toInt < x4.toInt → Wb rod d B_Model_isShared 79 [u0, u1, some (.inl x2), u3, some (.inl x4), u5] [] h Q) (k2 : ¬ x2.toInt < x4.toInt → Wb rod d B_Model_isShared 75 [u0, u1, some (.inl x2), u3, some (.inl x4), u5] [] h Q) : Wb rod d B_Model_isShared 69 [u0, u1, some (.inl x2), u3, some (.inl x4), u5] [] h Q := by
  refine Wb.br (fun _ _ => b_Model_isShared_69) (fun c => ?_) (fun c => ?_)
  · have c : (decide (x2 < x4)) = true := by first | exact c | (simp only [Option.getD_some] at c; exact c)
    (first | exact (k1 (c_ltt c)) | (simp only [Option.getD_some]; exact (k1 (c_ltt c))))
  · have c : (decide (x2 < x4)) = false := by first | exact c | (simp only [Option.getD_some] at c; exact c)
    (first | exact (k2 (c_ltf c)) | (simp only [Option.getD_some]; exact (k2 (c_ltf c))))
theorem w_Model_isShared_75 {rod : Nat → Nat × (Nat → Int32)} {d : Nat} {Q : Option MV → MH → Prop} {u0 : Option MV} {u1 : Option MV} {u2 : Option MV} {u3 : Option MV} {u4 : Option MV} {u5 : Option MV} {h : MH}   (k : Wb rod d B_Model_isShared 80 [u0, u1, u2, u3, u4, u5] [.inl (1 : Int32)] h Q) : Wb rod d B_Model_isShared 75 [u0, u1, u2, u3, u4, u5] [] h Q := by
  refine Wb.go (fun r hr q => b_Model_isShared_75 ?_) k
  (first | exact q | (simp only [Option.getD_some]; exact q))
theorem w_Model_isShared_79 {rod : Nat → Nat × (Nat → Int32)} {d : Nat} {Q : Option MV → MH → Prop} {u0 : Option MV} {u1 : Option MV} {u2 : Option MV} {u3 : Option MV} {u4 : Option MV} {u5 : Option MV} {h : MH}   (k : Wb rod d B_Model_isShared 80 [u0, u1, u2, u3, u4, u5] [.inl (0 : Int32)] h Q) : Wb rod d B_Model_isShared 79 [u0, u1, u2, u3, u4, u5] [] h Q := by
  refine Wb.go (fun r hr q => b_Model_isShared_79 ?_) k
  (first | exact q | (simp only [Option.getD_some]; exact q))
theorem w_Model_isShared_80 {rod : Nat → Nat × (Nat → Int32)} {d : Nat} {Q : Option MV → MH → Prop} {u0 : Option MV} {u1 : Option MV} {u2 : Option MV} {u3 : Option MV} {u4 : Option MV} {u5 : Option MV} {xs0 : Int32} {h : MH}  (g0 : xs0 = 0 ∨ xs0 = 1) (q : Q (some (.inl xs0)) h) : Wb rod d B_Model_isShared 80 [u0, u1, u2, u3, u4, u5] [.inl xs0] h Q := by
  refine Wb.ret (b_Model_isShared_80 (d01 g0)) ?_
  (first | exact q | (simp only [Option.getD_some]; exact q))
theorem n_Model_stands {rod : Nat → Nat × (Nat → Int32)} {d : Nat} {Q : Option MV → MH → Prop}  {h : MH} (k : Wb rod d B_Model_stands 0 [some (.inr (.inr (.inl (some 84)))), none, none, none, none] [] h Q) : Wc rod (d + 1) 286 [.inr (.inr (.inl (some 84)))] h Q := Wc.en (fun _ _ => e_Model_stands) k
theorem w_Model_stands_0 {rod : Nat → Nat × (Nat → Int32)} {d : Nat} {Q : Option MV → MH → Prop} {u0 : Option MV} {u1 : Option MV} {u2 : Option MV} {u3 : Option MV} {u4 : Option MV} {h : MH}  (g0 : okl [u0, u1, u2, u3, u4] 1 = true) (k : Wb rod d B_Model_stands 4 [u0, some (.inl (1 : Int32)), some (.inl (1 : Int32)), u3, u4] [] h Q) : Wb rod d B_Model_stands 0 [u0, u1, u2, u3, u4] [] h Q := by
  refine Wb.go (fun r hr q => b_Model_stands_0 g0 ?_) k
  (first | exact q | (simp only [Option.getD_some]; exact q))
theorem w_Model_stands_4 {rod : Nat → Nat × (Nat → Int32)} {d : Nat} {Q : Option MV → MH → Prop} {u1 : Option MV} {x2 : Int32} {u3 : Option MV} {u4 : Option MV} {h : MH} (L : Lay h.2)  (k1 : ((1 : Int32) <<< ((h.1 84 43) &&& 31)).toInt ≤ x2.toInt → Wb rod d B_Model_stands 83 [some (.inr (.inr (.inl (some 84)))), u1, some (.inl x2), u3, u4] [] h Q) (k2 : ¬ ((1 : Int32) <<< ((h.1 84 43) &&& 31)).toInt ≤ x2.toInt → Wb rod d B_Model_stands 14 [some (.inr (.inr (.inl (some 84)))), u1, some (.inl x2), u3, u4] [] h Q) : Wb rod d B_Model_stands 4 [some (.inr (.inr (.inl (some 84)))), u1, some (.inl x2), u3, u4] [] h Q := by
  refine Wb.br (fun _ _ => b_Model_stands_4 (Lay.o84 L)) (fun c => ?_) (fun c => ?_)
  · have c : (decide (((1 : Int32) <<< ((h.1 84 43) &&& 31)) ≤ x2)) = true := by first | exact c | (simp only [Option.getD_some] at c; exact c)
    (first | exact (k1 (c_let c)) | (simp only [Option.getD_some]; exact (k1 (c_let c))))
  · have c : (decide (((1 : Int32) <<< ((h.1 84 43) &&& 31)) ≤ x2)) = false := by first | exact c | (simp only [Option.getD_some] at c; exact c)
    (first | exact (k2 (c_lef c)) | (simp only [Option.getD_some]; exact (k2 (c_lef c))))
theorem w_Model_stands_14 {rod : Nat → Nat × (Nat → Int32)} {d : Nat} {Q : Option MV → MH → Prop} {u0 : Option MV} {x1 : Int32} {u2 : Option MV} {u3 : Option MV} {u4 : Option MV} {h : MH}   (k1 : x1.toInt = 0 → Wb rod d B_Model_stands 83 [u0, some (.inl x1), u2, u3, u4] [] h Q) (k2 : ¬ x1.toInt = 0 → Wb rod d B_Model_stands 18 [u0, some (.inl x1), u2, u3, u4] [] h Q) : Wb rod d B_Model_stands 14 [u0, some (.inl x1), u2, u3, u4] [] h Q := by
  refine Wb.br (fun _ _ => b_Model_stands_14) (fun c => ?_) (fun c => ?_)
  · have c : (decide (x1 = 0)) = true := by first | exact c | (simp only [Option.getD_some] at c; exact c)
    (first | exact (k1 (c_eqt c)) | (simp only [Option.getD_some]; exact (k1 (c_eqt c))))
  · have c : (decide (x1 = 0)) = false := by first | exact c | (simp only [Option.getD_some] at c; exact c)
    (first | exact (k2 (c_eqf c)) | (simp only [Option.getD_some]; exact (k2 (c_eqf c))))
theorem w_Model_stands_18 {rod : Nat → Nat × (Nat → Int32)} {d : Nat} {Q : Option MV → MH → Prop} {u0 : Option MV} {u1 : Option MV} {u2 : Option MV} {u3 : Option MV} {u4 : Option MV} {h : MH}  (g0 : okl [u0, u1, u2, u3, u4] 3 = true) (k : Wb rod d B_Model_stands 23 [u0, u1, u2, some (.inl (0 : Int32)), some (.inl (0 : Int32))] [] h Q) : Wb rod d B_Model_stands 18 [u0, u1, u2, u3, u4] [] h Q := by
  refine Wb.go (fun r hr q => b_Model_stands_18 g0 ?_) k
  (first | exact q | (simp only [Option.getD_some]; exact q))
theorem w_Model_stands_23 {rod : Nat → Nat × (Nat → Int32)} {d : Nat} {Q : Option MV → MH → Prop} {u1 : Option MV} {u2 : Option MV} {u3 : Option MV} {x4 : Int32} {h : MH} (L : Lay h.2)  (k1 : (h.1 84 43).toInt ≤ x4.toInt → Wb rod d B_Model_stands 62 [some (.inr (.inr (.inl (some 84)))), u1, u2, u3, some (.inl x4)] [] h Q) (k2 : ¬ (h.1 84 43).toInt ≤ x4.toInt → Wb rod d B_Model_stands 32 [some (.inr (.inr (.inl (some 84)))), u1, u2, u3, some (.inl x4)] [] h Q) : Wb rod d B_Model_stands 23 [some (.inr (.inr (.inl (some 84)))), u1, u2, u3, some (.inl x4)] [] h Q := by
  refine Wb.br (fun _ _ => b_Model_stands_23 (Lay.o84 L)) (fun c => ?_) (fun c => ?_)
  · have c : (decide ((h.1 84 43) ≤ x4)) = true := by first | exact c | (simp only [Option.getD_some] at c; exact c)
    (first | exact (k1 (c_let c)) | (simp only [Option.getD_some]; exact (k1 (c_let c))))
  · have c : (decide ((h.1 84 43) ≤ x4)) = false := by first | exact c | (simp only [Option.getD_some] at c; exact c)
    (first | exact (k2 (c_lef c)) | (simp only [Option.getD_some]; exact (k2 (c_lef c))))
theorem w_Model_stands_32 {rod : Nat → Nat × (Nat → Int32)} {d : Nat} {Q : Option MV → MH → Prop} {u0 : Option MV} {u1 : Option MV} {x2 : Int32} {x3 : Int32} {x4 : Int32} {h : MH}   (k1 : ¬ ((x2 >>> (x4 &&& 31)) &&& (1 : Int32)).toInt = 1 → Wb rod d B_Model_stands 53 [u0, u1, some (.inl x2), some (.inl x3), some (.inl x4)] [.inl x3] h Q) (k2 : ((x2 >>> (x4 &&& 31)) &&& (1 : Int32)).toInt = 1 → Wb rod d B_Model_stands 43 [u0, u1, some (.inl x2), some (.inl x3), some (.inl x4)] [.inl x3] h Q) : Wb rod d B_Model_stands 32 [u0, u1, some (.inl x2), some (.inl x3), some (.inl x4)] [] h Q := by
  refine Wb.br (fun _ _ => b_Model_stands_32) (fun c => ?_) (fun c => ?_)
  · have c : (!(decide (((x2 >>> (x4 &&& 31)) &&& (1 : Int32)) = (1 : Int32)))) = true := by first | exact c | (simp only [Option.getD_some] at c; exact c)
    (first | exact (k1 (c_net c)) | (simp only [Option.getD_some]; exact (k1 (c_net c))))
  · have c : (!(decide (((x2 >>> (x4 &&& 31)) &&& (1 : Int32)) = (1 : Int32)))) = false := by first | exact c | (simp only [Option.getD_some] at c; exact c)
    (first | exact (k2 (c_nef c)) | (simp only [Option.getD_some]; exact (k2 (c_nef c))))
theorem w_Model_stands_43 {rod : Nat → Nat × (Nat → Int32)} {d : Nat} {Q : Option MV → MH → Prop} {u1 : Option MV} {u2 : Option MV} {u3 : Option MV} {x4 : Int32} {xs0 : Int32} {h : MH} (L : Lay h.2) (g0 : 0 ≤ x4.toInt ∧ x4.toInt < 4) (k : Wb rod d B_Model_stands 54 [some (.inr (.inr (.inl (some 84)))), u1, u2, u3, some (.inl x4)] [.inl (h.1 97 x4.toNatClampNeg), .inl xs0] h Q) : Wb rod d B_Model_stands 43 [some (.inr (.inr (.inl (some 84)))), u1, u2, u3, some (.inl x4)] [.inl xs0] h Q := by
  refine Wb.go (fun r hr q => b_Model_stands_43 (Lay.o84 L) (Lay.a84_44 L g0) ?_) k
  (first | exact q | (simp only [Option.getD_some, (Lay.r84_44 L)]; exact q))
theorem w_Model_stands_53 {rod : Nat → Nat × (Nat → Int32)} {d : Nat} {Q : Option MV → MH → Prop} {u0 : Option MV} {u1 : Option MV} {u2 : Option MV} {u3 : Option MV} {u4 : Option MV} {xs0 : Int32} {h : MH}   (k : Wb rod d B_Model_stands 54 [u0, u1, u2, u3, u4] [.inl (0 : Int32), .inl xs0] h Q) : Wb rod d B_Model_stands 53 [u0, u1, u2, u3, u4] [.inl xs0] h Q := by
  refine Wb.go (fun r hr q => b_Model_stands_53 ?_) k
  (first | exact q | (simp only [Option.getD_some]; exact q))
theorem w_Model_stands_54 {rod : Nat → Nat × (Nat → Int32)} {d : Nat} {Q : Option MV → MH → Prop} {u0 : Option MV} {u1 : Option MV} {u2 : Option MV} {u3 : Option MV} {x4 : Int32} {xs0 : Int32} {xs1 : Int32} {h : MH}  (g0 : okl [u0, u1, u2, u3, some (.inl x4)] 3 = true) (k : Wb rod d B_Model_stands 23 [u0, u1, u2, some (.inl (xs0 + xs1)), some (.inl (x4 + 1))] [] h Q) : Wb rod d B_Model_stands 54 [u0, u1, u2, u3, some (.inl x4)] [.inl xs1, .inl xs0] h Q := by
  refine Wb.go (fun r hr q => b_Model_stands_54 g0 ?_) k
  (first | exact q | (simp only [Option.getD_some]; exact q))
theorem w_Model_stands_62 {rod : Nat → Nat × (Nat → Int32)} {d : Nat} {Q : Option MV → MH → Prop} {u1 : Option MV} {x2 : Int32} {x3 : Int32} {u4 : Option MV} {h : MH} (L : Lay h.2)  {Q1 : Option MV → MH → Prop} (c : Wc rod d 284 [.inr (.inr (.inl (some 84))), .inl x2] h Q1) (k : ∀ r1 h2, Q1 r1 h2 → Wb rod d B_Model_stands 68 [some (.inr (.inr (.inl (some 84)))), u1, some (.inl x2), some (.inl x3), u4] (r1.toList ++ [.inl x3]) h2 Q) : Wb rod d B_Model_stands 62 [some (.inr (.inr (.inl (some 84)))), u1, some (.inl x2), some (.inl x3), u4] [] h Q := by
  refine Wb.call (fun _ _ _ _ => b_Model_stands_62 (Lay.o84 L)) (Q1 := Q1) ?_ ?_
  · (first | exact c | (simp only [Option.getD_some]; exact c))
  · (first | exact k | (simp only [Option.getD_some]; exact k))
theorem w_Model_stands_68 {rod : Nat → Nat × (Nat → Int32)} {d : Nat} {Q : Option MV → MH → Prop} {u0 : Option MV} {u1 : Option MV} {u2 : Option MV} {u3 : Option MV} {u4 : Option MV} {xs0 : Int32} {xs1 : Int32} {h : MH}   (k1 : xs0.toInt < xs1.toInt → Wb rod d B_Model_stands 75 [u0, u1, u2, u3, u4] [] h Q) (k2 : ¬ xs0.toInt < xs1.toInt → Wb rod d B_Model_stands 71 [u0, u1, u2, u3, u4] [] h Q) : Wb rod d B_Model_stands 68 [u0, u1, u2, u3, u4] [.inl xs1, .inl xs0] h Q := by
  refine Wb.br (fun _ _ => b_Model_stands_68) (fun c => ?_) (fun c => ?_)
  · have c : (decide (xs0 < xs1)) = true := by first | exact c | (simp only [Option.getD_some] at c; exact c)
    (first | exact (k1 (c_ltt c)) | (simp only [Option.getD_some]; exact (k1 (c_ltt c))))
  · have c : (decide (xs0 < xs1)) = false := by first | exact c | (simp only [Option.getD_some] at c; exact c)
    (first | exact (k2 (c_ltf c)) | (simp only [Option.getD_some]; exact (k2 (c_ltf c))))
theorem w_Model_stands_71 {rod : Nat → Nat × (Nat → Int32)} {d : Nat} {Q : Option MV → MH → Prop} {u0 : Option MV} {u1 : Option MV} {u2 : Option MV} {u3 : Option MV} {u4 : Option MV} {h : MH}   (k : Wb rod d B_Model_stands 76 [u0, u1, u2, u3, u4] [.inl (1 : Int32)] h Q) : Wb rod d B_Model_stands 71 [u0, u1, u2, u3, u4] [] h Q := by
  refine Wb.go (fun r hr q => b_Model_stands_71 ?_) k
  (first | exact q | (simp only [Option.getD_some]; exact q))
theorem w_Model_stands_75 {rod : Nat → Nat × (Nat → Int32)} {d : Nat} {Q : Option MV → MH → Prop} {u0 : Option MV} {u1 : Option MV} {u2 : Option MV} {u3 : Option MV} {u4 : Option MV} {h : MH}   (k : Wb rod d B_Model_stands 76 [u0, u1, u2, u3, u4] [.inl (0 : Int32)] h Q) : Wb rod d B_Model_stands 75 [u0, u1, u2, u3, u4] [] h Q := by
  refine Wb.go (fun r hr q => b_Model_stands_75 ?_) k
  (first | exact q | (simp only [Option.getD_some]; exact q))
theorem w_Model_stands_76 {rod : Nat → Nat × (Nat → Int32)} {d : Nat} {Q : Option MV → MH → Prop} {u0 : Option MV} {u1 : Option MV} {x2 : Int32} {u3 : Option MV} {u4 : Option MV} {xs0 : Int32} {h : MH}  (g0 : okl [u0, u1, some (.inl x2), u3, u4] 1 = true) (k : Wb rod d B_Model_stands 4 [u0, some (.inl xs0), some (.inl (x2 + 1)), u3, u4] [] h Q) : Wb rod d B_Model_stands 76 [u0, u1, some (.inl x2), u3, u4] [.inl xs0] h Q := by
  refine Wb.go (fun r hr q => b_Model_stands_76 g0 ?_) k
  (first | exact q | (simp only [Option.getD_some]; exact q))
theorem w_Model_stands_83 {rod : Nat → Nat × (Nat → Int32)} {d : Nat} {Q : Option MV → MH → Prop} {u0 : Option MV} {x1 : Int32} {u2 : Option MV} {u3 : Option MV} {u4 : Option MV} {h : MH}  (g0 : x1 = 0 ∨ x1 = 1) (q : Q (some (.inl x1)) h) : Wb rod d B_Model_stands 83 [u0, some (.inl x1), u2, u3, u4] [] h Q := by
  refine Wb.ret (b_Model_stands_83 (d01 g0)) ?_
  (first | exact q | (simp only [Option.getD_some]; exact q))
theorem n_Model_fair {rod : Nat → Nat × (Nat → Int32)} {d : Nat} {Q : Option MV → MH → Prop} {x1 : Int32} {x2 : Int32} {x3 : Int32} {h : MH} (k : Wb rod d B_Model_fair 0 [some (.inr (.inr (.inl (some 84)))), some (.inl x1), some (.inl x2), some (.inl x3), none, none, none, none] [] h Q) : Wc rod (d + 1) 287 [.inr (.inr (.inl (some 84))), .inl x1, .inl x2, .inl x3] h Q := Wc.en (fun _ _ => e_Model_fair) k
theorem w_Model_fair_0 {rod : Nat → Nat × (Nat → Int32)} {d : Nat} {Q : Option MV → MH → Prop} {x1 : Int32} {u2 : Option MV} {u3 : Option MV} {u4 : Option MV} {u5 : Option MV} {u6 : Option MV} {u7 : Option MV} {h : MH} (L : Lay h.2)  {Q1 : Option MV → MH → Prop} (c : Wc rod d 282 [.inr (.inr (.inl (some 84))), .inl x1] h Q1) (k : ∀ r1 h2, Q1 r1 h2 → Wb rod d B_Model_fair 5 [some (.inr (.inr (.inl (some 84)))), some (.inl x1), u2, u3, u4, u5, u6, u7] (r1.toList ++ []) h2 Q) : Wb rod d B_Model_fair 0 [some (.inr (.inr (.inl (some 84)))), some (.inl x1), u2, u3, u4, u5, u6, u7] [] h Q := by
  refine Wb.call (fun _ _ _ _ => b_Model_fair_0 (Lay.o84 L)) (Q1 := Q1) ?_ ?_
  · (first | exact c | (simp only [Option.getD_some]; exact c))
  · (first | exact k | (simp only [Option.getD_some]; exact k))
theorem w_Model_fair_5 {rod : Nat → Nat × (Nat → Int32)} {d : Nat} {Q : Option MV → MH → Prop} {u0 : Option MV} {u1 : Option MV} {u2 : Option MV} {u3 : Option MV} {u4 : Option MV} {u5 : Option MV} {u6 : Option MV} {u7 : Option MV} {xs0 : Int32} {h : MH}   (k1 : xs0.toInt = 0 → Wb rod d B_Model_fair 22 [u0, u1, u2, u3, u4, u5, u6, u7] [] h Q) (k2 : ¬ xs0.toInt = 0 → Wb rod d B_Model_fair 8 [u0, u1, u2, u3, u4, u5, u6, u7] [] h Q) : Wb rod d B_Model_fair 5 [u0, u1, u2, u3, u4, u5, u6, u7] [.inl xs0] h Q := by
  refine Wb.br (fun _ _ => b_Model_fair_5) (fun c => ?_) (fun c => ?_)
  · have c : (decide (xs0 = 0)) = true := by first | exact c | (simp only [Option.getD_some] at c; exact c)
    (first | exact (k1 (c_eqt c)) | (simp only [Option.getD_some]; exact (k1 (c_eqt c))))
  · have c : (decide (xs0 = 0)) = false := by first | exact c | (simp only [Option.getD_some] at c; exact c)
    (first | exact (k2 (c_eqf c)) | (simp only [Option.getD_some]; exact (k2 (c_eqf c))))
theorem w_Model_fair_8 {rod : Nat → Nat × (Nat → Int32)} {d : Nat} {Q : Option MV → MH → Prop} {u1 : Option MV} {x2 : Int32} {u3 : Option MV} {u4 : Option MV} {u5 : Option MV} {u6 : Option MV} {u7 : Option MV} {h : MH} (L : Lay h.2)  {Q1 : Option MV → MH → Prop} (c : Wc rod d 193 [.inl x2, .inl (0 : Int32), .inl ((h.1 84 43) - (1 : Int32))] h Q1) (k : ∀ r1 h2, Q1 r1 h2 → Wb rod d B_Model_fair 19 [some (.inr (.inr (.inl (some 84)))), u1, some (.inl x2), u3, u4, u5, u6, u7] (r1.toList ++ []) h2 Q) : Wb rod d B_Model_fair 8 [some (.inr (.inr (.inl (some 84)))), u1, some (.inl x2), u3, u4, u5, u6, u7] [] h Q := by
  refine Wb.call (fun _ _ _ _ => b_Model_fair_8 (Lay.o84 L)) (Q1 := Q1) ?_ ?_
  · (first | exact c | (simp only [Option.getD_some]; exact c))
  · (first | exact k | (simp only [Option.getD_some]; exact k))
theorem w_Model_fair_19 {rod : Nat → Nat × (Nat → Int32)} {d : Nat} {Q : Option MV → MH → Prop} {u0 : Option MV} {u1 : Option MV} {u2 : Option MV} {u3 : Option MV} {u4 : Option MV} {u5 : Option MV} {u6 : Option MV} {u7 : Option MV} {xs0 : Int32} {h : MH}   (k1 : ¬ xs0.toInt = 0 → Wb rod d B_Model_fair 26 [u0, u1, u2, u3, u4, u5, u6, u7] [] h Q) (k2 : xs0.toInt = 0 → Wb rod d B_Model_fair 22 [u0, u1, u2, u3, u4, u5, u6, u7] [] h Q) : Wb rod d B_Model_fair 19 [u0, u1, u2, u3, u4, u5, u6, u7] [.inl xs0] h Q := by
  refine Wb.br (fun _ _ => b_Model_fair_19) (fun c => ?_) (fun c => ?_)
  · have c : (!(decide (xs0 = 0))) = true := by first | exact c | (simp only [Option.getD_some] at c; exact c)
    (first | exact (k1 (c_net c)) | (simp only [Option.getD_some]; exact (k1 (c_net c))))
  · have c : (!(decide (xs0 = 0))) = false := by first | exact c | (simp only [Option.getD_some] at c; exact c)
    (first | exact (k2 (c_nef c)) | (simp only [Option.getD_some]; exact (k2 (c_nef c))))
theorem w_Model_fair_22 {rod : Nat → Nat × (Nat → Int32)} {d : Nat} {Q : Option MV → MH → Prop} {u0 : Option MV} {u1 : Option MV} {u2 : Option MV} {u3 : Option MV} {u4 : Option MV} {u5 : Option MV} {u6 : Option MV} {u7 : Option MV} {h : MH}   (q : Q (some (.inr (.inl (-1000 : Int64)))) h) : Wb rod d B_Model_fair 22 [u0, u1, u2, u3, u4, u5, u6, u7] [] h Q := by
  refine Wb.ret (b_Model_fair_22) ?_
  (first | exact q | (simp only [Option.getD_some]; exact q))
theorem w_Model_fair_26 {rod : Nat → Nat × (Nat → Int32)} {d : Nat} {Q : Option MV → MH → Prop} {u1 : Option MV} {x2 : Int32} {u3 : Option MV} {u4 : Option MV} {u5 : Option MV} {u6 : Option MV} {u7 : Option MV} {h : MH} (L : Lay h.2)  {Q1 : Option MV → MH → Prop} (c : Wc rod d 288 [.inr (.inr (.inl (some 84))), .inl x2] h Q1) (k : ∀ r1 h2, Q1 r1 h2 → Wb rod d B_Model_fair 31 [some (.inr (.inr (.inl (some 84)))), u1, some (.inl x2), u3, u4, u5, u6, u7] (r1.toList ++ []) h2 Q) : Wb rod d B_Model_fair 26 [some (.inr (.inr (.inl (some 84)))), u1, some (.inl x2), u3, u4, u5, u6, u7] [] h Q := by
  refine Wb.call (fun _ _ _ _ => b_Model_fair_26 (Lay.o84 L)) (Q1 := Q1) ?_ ?_
  · (first | exact c | (simp only [Option.getD_some]; exact c))
  · (first | exact k | (simp only [Option.getD_some]; exact k))
theorem w_Model_fair_31 {rod : Nat → Nat × (Nat → Int32)} {d : Nat} {Q : Option MV → MH → Prop} {u1 : Option MV} {u2 : Option MV} {u3 : Option MV} {u4 : Option MV} {u5 : Option MV} {u6 : Option MV} {u7 : Option MV} {xs0 : Int32} {h : MH} (L : Lay h.2) (g0 : okl [some (.inr (.inr (.inl (some 84)))), u1, u2, u3, u4, u5, u6, u7] 4 = true) {Q1 : Option MV → MH → Prop} (c : Wc rod d 290 [.inl (h.1 84 43)] h Q1) (k : ∀ r1 h2, Q1 r1 h2 → Wb rod d B_Model_fair 41 [some (.inr (.inr (.inl (some 84)))), u1, u2, u3, some (.inr (.inl (xs0.toInt64))), none, u6, u7] (r1.toList ++ []) h2 Q) : Wb rod d B_Model_fair 31 [some (.inr (.inr (.inl (some 84)))), u1, u2, u3, u4, u5, u6, u7] [.inl xs0] h Q := by
  refine Wb.call (fun _ _ _ _ => b_Model_fair_31 g0 (Lay.o84 L)) (Q1 := Q1) ?_ ?_
  · (first | exact c | (simp only [Option.getD_some]; exact c))
  · (first | exact k | (simp only [Option.getD_some]; exact k))
theorem w_Model_fair_41 {rod : Nat → Nat × (Nat → Int32)} {d : Nat} {Q : Option MV → MH → Prop} {u0 : Option MV} {u1 : Option MV} {u2 : Option MV} {x3 : Int32} {u4 : Option MV} {u5 : Option MV} {u6 : Option MV} {u7 : Option MV} {xs0 : Int32} {h : MH}  (g0 : okl [u0, u1, u2, some (.inl x3), u4, u5, u6, u7] 6 = true) (k1 : x3.toInt = 0 → Wb rod d B_Model_fair 53 [u0, u1, u2, some (.inl x3), u4, u5, some (.inr (.inl (xs0.toInt64))), none] [] h Q) (k2 : ¬ x3.toInt = 0 → Wb rod d B_Model_fair 48 [u0, u1, u2, some (.inl x3), u4, u5, some (.inr (.inl (xs0.toInt64))), none] [] h Q) : Wb rod d B_Model_fair 41 [u0, u1, u2, some (.inl x3), u4, u5, u6, u7] [.inl xs0] h Q := by
  refine Wb.br (fun _ _ => b_Model_fair_41 g0) (fun c => ?_) (fun c => ?_)
  · have c : (decide (x3 = 0)) = true := by first | exact c | (simp only [Option.getD_some] at c; exact c)
    (first | exact (k1 (c_eqt c)) | (simp only [Option.getD_some]; exact (k1 (c_eqt c))))
  · have c : (decide (x3 = 0)) = false := by first | exact c | (simp only [Option.getD_some] at c; exact c)
    (first | exact (k2 (c_eqf c)) | (simp only [Option.getD_some]; exact (k2 (c_eqf c))))
theorem w_Model_fair_48 {rod : Nat → Nat × (Nat → Int32)} {d : Nat} {Q : Option MV → MH → Prop} {u0 : Option MV} {u1 : Option MV} {u2 : Option MV} {u3 : Option MV} {u4 : Option MV} {u5 : Option MV} {z6 : Int64} {u7 : Option MV} {h : MH}   (k : Wb rod d B_Model_fair 55 [u0, u1, u2, u3, u4, u5, some (.inr (.inl z6)), u7] [.inr (.inl z6)] h Q) : Wb rod d B_Model_fair 48 [u0, u1, u2, u3, u4, u5, some (.inr (.inl z6)), u7] [] h Q := by
  refine Wb.go (fun r hr q => b_Model_fair_48 ?_) k
  (first | exact q | (simp only [Option.getD_some]; exact q))
theorem w_Model_fair_53 {rod : Nat → Nat × (Nat → Int32)} {d : Nat} {Q : Option MV → MH → Prop} {u0 : Option MV} {u1 : Option MV} {u2 : Option MV} {u3 : Option MV} {z4 : Int64} {u5 : Option MV} {u6 : Option MV} {u7 : Option MV} {h : MH}   (k : Wb rod d B_Model_fair 55 [u0, u1, u2, u3, some (.inr (.inl z4)), u5, u6, u7] [.inr (.inl z4)] h Q) : Wb rod d B_Model_fair 53 [u0, u1, u2, u3, some (.inr (.inl z4)), u5, u6, u7] [] h Q := by
  refine Wb.go (fun r hr q => b_Model_fair_53 ?_) k
  (first | exact q | (simp only [Option.getD_some]; exact q))
theorem w_Model_fair_55 {rod : Nat → Nat × (Nat → Int32)} {d : Nat} {Q : Option MV → MH → Prop} {u0 : Option MV} {u1 : Option MV} {u2 : Option MV} {u3 : Option MV} {z4 : Int64} {u5 : Option MV} {z6 : Int64} {u7 : Option MV} {zs0 : Int64} {h : MH}   {Q1 : Option MV → MH → Prop} (c : Wc rod d 291 [.inr (.inl z4), .inr (.inl z6)] h Q1) (k : ∀ r1 h2, Q1 r1 h2 → Wb rod d B_Model_fair 62 [u0, u1, u2, u3, some (.inr (.inl z4)), u5, some (.inr (.inl z6)), u7] (r1.toList ++ [.inr (.inl zs0)]) h2 Q) : Wb rod d B_Model_fair 55 [u0, u1, u2, u3, some (.inr (.inl z4)), u5, some (.inr (.inl z6)), u7] [.inr (.inl zs0)] h Q := by
  refine Wb.call (fun _ _ _ _ => b_Model_fair_55) (Q1 := Q1) ?_ ?_
  · (first | exact c | (simp only [Option.getD_some]; exact c))
  · (first | exact k | (simp only [Option.getD_some]; exact k))
theorem w_Model_fair_62 {rod : Nat → Nat × (Nat → Int32)} {d : Nat} {Q : Option MV → MH → Prop} {u0 : Option MV} {u1 : Option MV} {u2 : Option MV} {u3 : Option MV} {u4 : Option MV} {u5 : Option MV} {u6 : Option MV} {u7 : Option MV} {zs0 : Int64} {zs1 : Int64} {h : MH}  (g0 : zs1 ≠ 0) (q : Q (some (.inr (.inl (zs0 / zs1)))) h) : Wb rod d B_Model_fair 62 [u0, u1, u2, u3, u4, u5, u6, u7] [.inr (.inl zs1), .inr (.inl zs0)] h Q := by
  refine Wb.ret (b_Model_fair_62 (ndecJ g0)) ?_
  (first | exact q | (simp only [Option.getD_some]; exact q))
theorem n_Model_sumOf {rod : Nat → Nat × (Nat → Int32)} {d : Nat} {Q : Option MV → MH → Prop} {x1 : Int32} {h : MH} (k : Wb rod d B_Model_sumOf 0 [some (.inr (.inr (.inl (some 84)))), some (.inl x1), none, none] [] h Q) : Wc rod (d + 1) 288 [.inr (.inr (.inl (some 84))), .inl x1] h Q := Wc.en (fun _ _ => e_Model_sumOf) k
theorem w_Model_sumOf_0 {rod : Nat → Nat × (Nat → Int32)} {d : Nat} {Q : Option MV → MH → Prop} {u0 : Option MV} {u1 : Option MV} {u2 : Option MV} {u3 : Option MV} {h : MH}  (g0 : okl [u0, u1, u2, u3] 2 = true) (k : Wb rod d B_Model_sumOf 4 [u0, u1, some (.inl (0 : Int32)), some (.inl (0 : Int32))] [] h Q) : Wb rod d B_Model_sumOf 0 [u0, u1, u2, u3] [] h Q := by
  refine Wb.go (fun r hr q => b_Model_sumOf_0 g0 ?_) k
  (first | exact q | (simp only [Option.getD_some]; exact q))
theorem w_Model_sumOf_4 {rod : Nat → Nat × (Nat → Int32)} {d : Nat} {Q : Option MV → MH → Prop} {u1 : Option MV} {u2 : Option MV} {x3 : Int32} {h : MH} (L : Lay h.2)  (k1 : ((1 : Int32) <<< ((h.1 84 43) &&& 31)).toInt ≤ x3.toInt → Wb rod d B_Model_sumOf 73 [some (.inr (.inr (.inl (some 84)))), u1, u2, some (.inl x3)] [] h Q) (k2 : ¬ ((1 : Int32) <<< ((h.1 84 43) &&& 31)).toInt ≤ x3.toInt → Wb rod d B_Model_sumOf 14 [some (.inr (.inr (.inl (some 84)))), u1, u2, some (.inl x3)] [] h Q) : Wb rod d B_Model_sumOf 4 [some (.inr (.inr (.inl (some 84)))), u1, u2, some (.inl x3)] [] h Q := by
  refine Wb.br (fun _ _ => b_Model_sumOf_4 (Lay.o84 L)) (fun c => ?_) (fun c => ?_)
  · have c : (decide (((1 : Int32) <<< ((h.1 84 43) &&& 31)) ≤ x3)) = true := by first | exact c | (simp only [Option.getD_some] at c; exact c)
    (first | exact (k1 (c_let c)) | (simp only [Option.getD_some]; exact (k1 (c_let c))))
  · have c : (decide (((1 : Int32) <<< ((h.1 84 43) &&& 31)) ≤ x3)) = false := by first | exact c | (simp only [Option.getD_some] at c; exact c)
    (first | exact (k2 (c_lef c)) | (simp only [Option.getD_some]; exact (k2 (c_lef c))))
theorem w_Model_sumOf_14 {rod : Nat → Nat × (Nat → Int32)} {d : Nat} {Q : Option MV → MH → Prop} {u0 : Option MV} {x1 : Int32} {u2 : Option MV} {x3 : Int32} {h : MH}   (k1 : ¬ ((x3 >>> (x1 &&& 31)) &&& (1 : Int32)).toInt = 1 → Wb rod d B_Model_sumOf 26 [u0, some (.inl x1), u2, some (.inl x3)] [] h Q) (k2 : ((x3 >>> (x1 &&& 31)) &&& (1 : Int32)).toInt = 1 → Wb rod d B_Model_sumOf 23 [u0, some (.inl x1), u2, some (.inl x3)] [] h Q) : Wb rod d B_Model_sumOf 14 [u0, some (.inl x1), u2, some (.inl x3)] [] h Q := by
  refine Wb.br (fun _ _ => b_Model_sumOf_14) (fun c => ?_) (fun c => ?_)
  · have c : (!(decide (((x3 >>> (x1 &&& 31)) &&& (1 : Int32)) = (1 : Int32)))) = true := by first | exact c | (simp only [Option.getD_some] at c; exact c)
    (first | exact (k1 (c_net c)) | (simp only [Option.getD_some]; exact (k1 (c_net c))))
  · have c : (!(decide (((x3 >>> (x1 &&& 31)) &&& (1 : Int32)) = (1 : Int32)))) = false := by first | exact c | (simp only [Option.getD_some] at c; exact c)
    (first | exact (k2 (c_nef c)) | (simp only [Option.getD_some]; exact (k2 (c_nef c))))
theorem w_Model_sumOf_23 {rod : Nat → Nat × (Nat → Int32)} {d : Nat} {Q : Option MV → MH → Prop} {u0 : Option MV} {u1 : Option MV} {u2 : Option MV} {u3 : Option MV} {h : MH}   (k : Wb rod d B_Model_sumOf 67 [u0, u1, u2, u3] [] h Q) : Wb rod d B_Model_sumOf 23 [u0, u1, u2, u3] [] h Q := by
  refine Wb.go (fun r hr q => b_Model_sumOf_23 ?_) k
  (first | exact q | (simp only [Option.getD_some]; exact q))
theorem w_Model_sumOf_26 {rod : Nat → Nat × (Nat → Int32)} {d : Nat} {Q : Option MV → MH → Prop} {u0 : Option MV} {u1 : Option MV} {x2 : Int32} {x3 : Int32} {h : MH}   {Q1 : Option MV → MH → Prop} (c : Wc rod d 289 [.inl x3] h Q1) (k : ∀ r1 h2, Q1 r1 h2 → Wb rod d B_Model_sumOf 31 [u0, u1, some (.inl x2), some (.inl x3)] (r1.toList ++ [.inl x2]) h2 Q) : Wb rod d B_Model_sumOf 26 [u0, u1, some (.inl x2), some (.inl x3)] [] h Q := by
  refine Wb.call (fun _ _ _ _ => b_Model_sumOf_26) (Q1 := Q1) ?_ ?_
  · (first | exact c | (simp only [Option.getD_some]; exact c))
  · (first | exact k | (simp only [Option.getD_some]; exact k))
theorem w_Model_sumOf_31 {rod : Nat → Nat × (Nat → Int32)} {d : Nat} {Q : Option MV → MH → Prop} {u0 : Option MV} {u1 : Option MV} {u2 : Option MV} {u3 : Option MV} {xs0 : Int32} {xs1 : Int32} {h : MH}   {Q1 : Option MV → MH → Prop} (c : Wc rod d 290 [.inl xs1] h Q1) (k : ∀ r1 h2, Q1 r1 h2 → Wb rod d B_Model_sumOf 34 [u0, u1, u2, u3] (r1.toList ++ [.inl xs0]) h2 Q) : Wb rod d B_Model_sumOf 31 [u0, u1, u2, u3] [.inl xs1, .inl xs0] h Q := by
  refine Wb.call (fun _ _ _ _ => b_Model_sumOf_31) (Q1 := Q1) ?_ ?_
  · (first | exact c | (simp only [Option.getD_some]; exact c))
  · (first | exact k | (simp only [Option.getD_some]; exact k))
theorem w_Model_sumOf_34 {rod : Nat → Nat × (Nat → Int32)} {d : Nat} {Q : Option MV → MH → Prop} {u1 : Option MV} {u2 : Option MV} {x3 : Int32} {xs0 : Int32} {xs1 : Int32} {h : MH} (L : Lay h.2)  {Q1 : Option MV → MH → Prop} (c : Wc rod d 289 [.inl x3] h Q1) (k : ∀ r1 h2, Q1 r1 h2 → Wb rod d B_Model_sumOf 44 [some (.inr (.inr (.inl (some 84)))), u1, u2, some (.inl x3)] (r1.toList ++ [.inl ((h.1 84 43) - (1 : Int32)), .inl xs1, .inl xs0]) h2 Q) : Wb rod d B_Model_sumOf 34 [some (.inr (.inr (.inl (some 84)))), u1, u2, some (.inl x3)] [.inl xs1, .inl xs0] h Q := by
  refine Wb.call (fun _ _ _ _ => b_Model_sumOf_34 (Lay.o84 L)) (Q1 := Q1) ?_ ?_
  · (first | exact c | (simp only [Option.getD_some]; exact c))
  · (first | exact k | (simp only [Option.getD_some]; exact k))
theorem w_Model_sumOf_44 {rod : Nat → Nat × (Nat → Int32)} {d : Nat} {Q : Option MV → MH → Prop} {u0 : Option MV} {u1 : Option MV} {u2 : Option MV} {u3 : Option MV} {xs0 : Int32} {xs1 : Int32} {xs2 : Int32} {xs3 : Int32} {h : MH}   {Q1 : Option MV → MH → Prop} (c : Wc rod d 290 [.inl (xs2 - xs3)] h Q1) (k : ∀ r1 h2, Q1 r1 h2 → Wb rod d B_Model_sumOf 48 [u0, u1, u2, u3] (r1.toList ++ [.inl xs1, .inl xs0]) h2 Q) : Wb rod d B_Model_sumOf 44 [u0, u1, u2, u3] [.inl xs3, .inl xs2, .inl xs1, .inl xs0] h Q := by
  refine Wb.call (fun _ _ _ _ => b_Model_sumOf_44) (Q1 := Q1) ?_ ?_
  · (first | exact c | (simp only [Option.getD_some]; exact c))
  · (first | exact k | (simp only [Option.getD_some]; exact k))
theorem w_Model_sumOf_48 {rod : Nat → Nat × (Nat → Int32)} {d : Nat} {Q : Option MV → MH → Prop} {x1 : Int32} {u2 : Option MV} {x3 : Int32} {xs0 : Int32} {xs1 : Int32} {xs2 : Int32} {h : MH} (L : Lay h.2)  {Q1 : Option MV → MH → Prop} (c : Wc rod d 284 [.inr (.inr (.inl (some 84))), .inl (x3 ||| ((1 : Int32) <<< (x1 &&& 31)))] h Q1) (k : ∀ r1 h2, Q1 r1 h2 → Wb rod d B_Model_sumOf 58 [some (.inr (.inr (.inl (some 84)))), some (.inl x1), u2, some (.inl x3)] (r1.toList ++ [.inl (xs1 * xs2), .inl xs0]) h2 Q) : Wb rod d B_Model_sumOf 48 [some (.inr (.inr (.inl (some 84)))), some (.inl x1), u2, some (.inl x3)] [.inl xs2, .inl xs1, .inl xs0] h Q := by
  refine Wb.call (fun _ _ _ _ => b_Model_sumOf_48 (Lay.o84 L)) (Q1 := Q1) ?_ ?_
  · (first | exact c | (simp only [Option.getD_some]; exact c))
  · (first | exact k | (simp only [Option.getD_some]; exact k))
theorem w_Model_sumOf_58 {rod : Nat → Nat × (Nat → Int32)} {d : Nat} {Q : Option MV → MH → Prop} {u1 : Option MV} {u2 : Option MV} {x3 : Int32} {xs0 : Int32} {xs1 : Int32} {xs2 : Int32} {h : MH} (L : Lay h.2)  {Q1 : Option MV → MH → Prop} (c : Wc rod d 284 [.inr (.inr (.inl (some 84))), .inl x3] h Q1) (k : ∀ r1 h2, Q1 r1 h2 → Wb rod d B_Model_sumOf 63 [some (.inr (.inr (.inl (some 84)))), u1, u2, some (.inl x3)] (r1.toList ++ [.inl xs2, .inl xs1, .inl xs0]) h2 Q) : Wb rod d B_Model_sumOf 58 [some (.inr (.inr (.inl (some 84)))), u1, u2, some (.inl x3)] [.inl xs2, .inl xs1, .inl xs0] h Q := by
  refine Wb.call (fun _ _ _ _ => b_Model_sumOf_58 (Lay.o84 L)) (Q1 := Q1) ?_ ?_
  · (first | exact c | (simp only [Option.getD_some]; exact c))
  · (first | exact k | (simp only [Option.getD_some]; exact k))
theorem w_Model_sumOf_63 {rod : Nat → Nat × (Nat → Int32)} {d : Nat} {Q : Option MV → MH → Prop} {u0 : Option MV} {u1 : Option MV} {u2 : Option MV} {u3 : Option MV} {xs0 : Int32} {xs1 : Int32} {xs2 : Int32} {xs3 : Int32} {h : MH}  (g0 : okl [u0, u1, u2, u3] 2 = true) (k : Wb rod d B_Model_sumOf 67 [u0, u1, some (.inl (xs0 + (xs1 * (xs2 - xs3)))), u3] [] h Q) : Wb rod d B_Model_sumOf 63 [u0, u1, u2, u3] [.inl xs3, .inl xs2, .inl xs1, .inl xs0] h Q := by
  refine Wb.go (fun r hr q => b_Model_sumOf_63 g0 ?_) k
  (first | exact q | (simp only [Option.getD_some]; exact q))
theorem w_Model_sumOf_67 {rod : Nat → Nat × (Nat → Int32)} {d : Nat} {Q : Option MV → MH → Prop} {u0 : Option MV} {u1 : Option MV} {u2 : Option MV} {x3 : Int32} {h : MH}  (g0 : okl [u0, u1, u2, some (.inl x3)] 3 = true) (k : Wb rod d B_Model_sumOf 4 [u0, u1, u2, some (.inl (x3 + 1))] [] h Q) : Wb rod d B_Model_sumOf 67 [u0, u1, u2, some (.inl x3)] [] h Q := by
  refine Wb.go (fun r hr q => b_Model_sumOf_67 g0 ?_) k
  (first | exact q | (simp only [Option.getD_some]; exact q))
theorem w_Model_sumOf_73 {rod : Nat → Nat × (Nat → Int32)} {d : Nat} {Q : Option MV → MH → Prop} {u0 : Option MV} {u1 : Option MV} {x2 : Int32} {u3 : Option MV} {h : MH}   (q : Q (some (.inl x2)) h) : Wb rod d B_Model_sumOf 73 [u0, u1, some (.inl x2), u3] [] h Q := by
  refine Wb.ret (b_Model_sumOf_73) ?_
  (first | exact q | (simp only [Option.getD_some]; exact q))
theorem n_Model_bitsOf {rod : Nat → Nat × (Nat → Int32)} {d : Nat} {Q : Option MV → MH → Prop} {x0 : Int32} {h : MH} (k : Wb rod d B_Model_bitsOf 0 [some (.inl x0), none, none] [] h Q) : Wc rod (d + 1) 289 [.inl x0] h Q := Wc.en (fun _ _ => e_Model_bitsOf) k
theorem w_Model_bitsOf_0 {rod : Nat → Nat × (Nat → Int32)} {d : Nat} {Q : Option MV → MH → Prop} {u0 : Option MV} {u1 : Option MV} {u2 : Option MV} {h : MH}  (g0 : okl [u0, u1, u2] 1 = true) (k : Wb rod d B_Model_bitsOf 4 [u0, some (.inl (0 : Int32)), some (.inl (0 : Int32))] [] h Q) : Wb rod d B_Model_bitsOf 0 [u0, u1, u2] [] h Q := by
  refine Wb.go (fun r hr q => b_Model_bitsOf_0 g0 ?_) k
  (first | exact q | (simp only [Option.getD_some]; exact q))
theorem w_Model_bitsOf_4 {rod : Nat → Nat × (Nat → Int32)} {d : Nat} {Q : Option MV → MH → Prop} {u0 : Option MV} {u1 : Option MV} {x2 : Int32} {h : MH}   (k1 : 8 ≤ x2.toInt → Wb rod d B_Model_bitsOf 24 [u0, u1, some (.inl x2)] [] h Q) (k2 : ¬ 8 ≤ x2.toInt → Wb rod d B_Model_bitsOf 10 [u0, u1, some (.inl x2)] [] h Q) : Wb rod d B_Model_bitsOf 4 [u0, u1, some (.inl x2)] [] h Q := by
  refine Wb.br (fun _ _ => b_Model_bitsOf_4) (fun c => ?_) (fun c => ?_)
  · have c : (decide ((8 : Int32) ≤ x2)) = true := by first | exact c | (simp only [Option.getD_some] at c; exact c)
    (first | exact (k1 (c_let c)) | (simp only [Option.getD_some]; exact (k1 (c_let c))))
  · have c : (decide ((8 : Int32) ≤ x2)) = false := by first | exact c | (simp only [Option.getD_some] at c; exact c)
    (first | exact (k2 (c_lef c)) | (simp only [Option.getD_some]; exact (k2 (c_lef c))))
theorem w_Model_bitsOf_10 {rod : Nat → Nat × (Nat → Int32)} {d : Nat} {Q : Option MV → MH → Prop} {x0 : Int32} {x1 : Int32} {x2 : Int32} {h : MH}   (k : Wb rod d B_Model_bitsOf 4 [some (.inl x0), some (.inl (x1 + ((x0 >>> (x2 &&& 31)) &&& (1 : Int32)))), some (.inl (x2 + 1))] [] h Q) : Wb rod d B_Model_bitsOf 10 [some (.inl x0), some (.inl x1), some (.inl x2)] [] h Q := by
  refine Wb.go (fun r hr q => b_Model_bitsOf_10 ?_) k
  (first | exact q | (simp only [Option.getD_some]; exact q))
theorem w_Model_bitsOf_24 {rod : Nat → Nat × (Nat → Int32)} {d : Nat} {Q : Option MV → MH → Prop} {u0 : Option MV} {x1 : Int32} {u2 : Option MV} {h : MH}   (q : Q (some (.inl x1)) h) : Wb rod d B_Model_bitsOf 24 [u0, some (.inl x1), u2] [] h Q := by
  refine Wb.ret (b_Model_bitsOf_24) ?_
  (first | exact q | (simp only [Option.getD_some]; exact q))
theorem n_Model_orders {rod : Nat → Nat × (Nat → Int32)} {d : Nat} {Q : Option MV → MH → Prop} {x0 : Int32} {h : MH} (k : Wb rod d B_Model_orders 0 [some (.inl x0)] [] h Q) : Wc rod (d + 1) 290 [.inl x0] h Q := Wc.en (fun _ _ => e_Model_orders) k
theorem w_Model_orders_0 {rod : Nat → Nat × (Nat → Int32)} {d : Nat} {Q : Option MV → MH → Prop} {x0 : Int32} {h : MH}   (k1 : 2 ≤ x0.toInt → Wb rod d B_Model_orders 9 [some (.inl x0)] [] h Q) (k2 : ¬ 2 ≤ x0.toInt → Wb rod d B_Model_orders 5 [some (.inl x0)] [] h Q) : Wb rod d B_Model_orders 0 [some (.inl x0)] [] h Q := by
  refine Wb.br (fun _ _ => b_Model_orders_0) (fun c => ?_) (fun c => ?_)
  · have c : (decide ((2 : Int32) ≤ x0)) = true := by first | exact c | (simp only [Option.getD_some] at c; exact c)
    (first | exact (k1 (c_let c)) | (simp only [Option.getD_some]; exact (k1 (c_let c))))
  · have c : (decide ((2 : Int32) ≤ x0)) = false := by first | exact c | (simp only [Option.getD_some] at c; exact c)
    (first | exact (k2 (c_lef c)) | (simp only [Option.getD_some]; exact (k2 (c_lef c))))
theorem w_Model_orders_5 {rod : Nat → Nat × (Nat → Int32)} {d : Nat} {Q : Option MV → MH → Prop} {u0 : Option MV} {h : MH}   (k : Wb rod d B_Model_orders 30 [u0] [.inl (1 : Int32)] h Q) : Wb rod d B_Model_orders 5 [u0] [] h Q := by
  refine Wb.go (fun r hr q => b_Model_orders_5 ?_) k
  (first | exact q | (simp only [Option.getD_some]; exact q))
theorem w_Model_orders_9 {rod : Nat → Nat × (Nat → Int32)} {d : Nat} {Q : Option MV → MH → Prop} {x0 : Int32} {h : MH}   (k1 : ¬ x0.toInt = 2 → Wb rod d B_Model_orders 18 [some (.inl x0)] [] h Q) (k2 : x0.toInt = 2 → Wb rod d B_Model_orders 14 [some (.inl x0)] [] h Q) : Wb rod d B_Model_orders 9 [some (.inl x0)] [] h Q := by
  refine Wb.br (fun _ _ => b_Model_orders_9) (fun c => ?_) (fun c => ?_)
  · have c : (!(decide (x0 = (2 : Int32)))) = true := by first | exact c | (simp only [Option.getD_some] at c; exact c)
    (first | exact (k1 (c_net c)) | (simp only [Option.getD_some]; exact (k1 (c_net c))))
  · have c : (!(decide (x0 = (2 : Int32)))) = false := by first | exact c | (simp only [Option.getD_some] at c; exact c)
    (first | exact (k2 (c_nef c)) | (simp only [Option.getD_some]; exact (k2 (c_nef c))))
theorem w_Model_orders_14 {rod : Nat → Nat × (Nat → Int32)} {d : Nat} {Q : Option MV → MH → Prop} {u0 : Option MV} {h : MH}   (k : Wb rod d B_Model_orders 30 [u0] [.inl (2 : Int32)] h Q) : Wb rod d B_Model_orders 14 [u0] [] h Q := by
  refine Wb.go (fun r hr q => b_Model_orders_14 ?_) k
  (first | exact q | (simp only [Option.getD_some]; exact q))
theorem w_Model_orders_18 {rod : Nat → Nat × (Nat → Int32)} {d : Nat} {Q : Option MV → MH → Prop} {x0 : Int32} {h : MH}   (k1 : ¬ x0.toInt = 3 → Wb rod d B_Model_orders 28 [some (.inl x0)] [] h Q) (k2 : x0.toInt = 3 → Wb rod d B_Model_orders 23 [some (.inl x0)] [] h Q) : Wb rod d B_Model_orders 18 [some (.inl x0)] [] h Q := by
  refine Wb.br (fun _ _ => b_Model_orders_18) (fun c => ?_) (fun c => ?_)
  · have c : (!(decide (x0 = (3 : Int32)))) = true := by first | exact c | (simp only [Option.getD_some] at c; exact c)
    (first | exact (k1 (c_net c)) | (simp only [Option.getD_some]; exact (k1 (c_net c))))
  · have c : (!(decide (x0 = (3 : Int32)))) = false := by first | exact c | (simp only [Option.getD_some] at c; exact c)
    (first | exact (k2 (c_nef c)) | (simp only [Option.getD_some]; exact (k2 (c_nef c))))
theorem w_Model_orders_23 {rod : Nat → Nat × (Nat → Int32)} {d : Nat} {Q : Option MV → MH → Prop} {u0 : Option MV} {h : MH}   (k : Wb rod d B_Model_orders 30 [u0] [.inl (6 : Int32)] h Q) : Wb rod d B_Model_orders 23 [u0] [] h Q := by
  refine Wb.go (fun r hr q => b_Model_orders_23 ?_) k
  (first | exact q | (simp only [Option.getD_some]; exact q))
theorem w_Model_orders_28 {rod : Nat → Nat × (Nat → Int32)} {d : Nat} {Q : Option MV → MH → Prop} {u0 : Option MV} {h : MH}   (k : Wb rod d B_Model_orders 30 [u0] [.inl (24 : Int32)] h Q) : Wb rod d B_Model_orders 28 [u0] [] h Q := by
  refine Wb.go (fun r hr q => b_Model_orders_28 ?_) k
  (first | exact q | (simp only [Option.getD_some]; exact q))
theorem w_Model_orders_30 {rod : Nat → Nat × (Nat → Int32)} {d : Nat} {Q : Option MV → MH → Prop} {u0 : Option MV} {xs0 : Int32} {h : MH}   (q : Q (some (.inl xs0)) h) : Wb rod d B_Model_orders 30 [u0] [.inl xs0] h Q := by
  refine Wb.ret (b_Model_orders_30) ?_
  (first | exact q | (simp only [Option.getD_some]; exact q))
theorem n_Model_common {rod : Nat → Nat × (Nat → Int32)} {d : Nat} {Q : Option MV → MH → Prop} {z0 : Int64} {z2 : Int64} {h : MH} (k : Wb rod d B_Model_common 0 [some (.inr (.inl z0)), none, some (.inr (.inl z2)), none, none, none, none, none, none, none] [] h Q) : Wc rod (d + 1) 291 [.inr (.inl z0), .inr (.inl z2)] h Q := Wc.en (fun _ _ => e_Model_common) k
theorem w_Model_common_0 {rod : Nat → Nat × (Nat → Int32)} {d : Nat} {Q : Option MV → MH → Prop} {z0 : Int64} {u1 : Option MV} {u2 : Option MV} {u3 : Option MV} {u4 : Option MV} {u5 : Option MV} {u6 : Option MV} {u7 : Option MV} {u8 : Option MV} {u9 : Option MV} {h : MH}   (k1 : 0 ≤ (lg_cmp z0 (0 : Int64)).toInt → Wb rod d B_Model_common 11 [some (.inr (.inl z0)), u1, u2, u3, u4, u5, u6, u7, u8, u9] [] h Q) (k2 : ¬ 0 ≤ (lg_cmp z0 (0 : Int64)).toInt → Wb rod d B_Model_common 6 [some (.inr (.inl z0)), u1, u2, u3, u4, u5, u6, u7, u8, u9] [] h Q) : Wb rod d B_Model_common 0 [some (.inr (.inl z0)), u1, u2, u3, u4, u5, u6, u7, u8, u9] [] h Q := by
  refine Wb.br (fun _ _ => b_Model_common_0) (fun c => ?_) (fun c => ?_)
  · have c : (decide (0 ≤ (lg_cmp z0 (0 : Int64)))) = true := by first | exact c | (simp only [Option.getD_some] at c; exact c)
    (first | exact (k1 (c_let c)) | (simp only [Option.getD_some]; exact (k1 (c_let c))))
  · have c : (decide (0 ≤ (lg_cmp z0 (0 : Int64)))) = false := by first | exact c | (simp only [Option.getD_some] at c; exact c)
    (first | exact (k2 (c_lef c)) | (simp only [Option.getD_some]; exact (k2 (c_lef c))))
theorem w_Model_common_6 {rod : Nat → Nat × (Nat → Int32)} {d : Nat} {Q : Option MV → MH → Prop} {z0 : Int64} {u1 : Option MV} {u2 : Option MV} {u3 : Option MV} {u4 : Option MV} {u5 : Option MV} {u6 : Option MV} {u7 : Option MV} {u8 : Option MV} {u9 : Option MV} {h : MH}   (k : Wb rod d B_Model_common 12 [some (.inr (.inl z0)), u1, u2, u3, u4, u5, u6, u7, u8, u9] [.inr (.inl (-z0))] h Q) : Wb rod d B_Model_common 6 [some (.inr (.inl z0)), u1, u2, u3, u4, u5, u6, u7, u8, u9] [] h Q := by
  refine Wb.go (fun r hr q => b_Model_common_6 ?_) k
  (first | exact q | (simp only [Option.getD_some]; exact q))
theorem w_Model_common_11 {rod : Nat → Nat × (Nat → Int32)} {d : Nat} {Q : Option MV → MH → Prop} {z0 : Int64} {u1 : Option MV} {u2 : Option MV} {u3 : Option MV} {u4 : Option MV} {u5 : Option MV} {u6 : Option MV} {u7 : Option MV} {u8 : Option MV} {u9 : Option MV} {h : MH}   (k : Wb rod d B_Model_common 12 [some (.inr (.inl z0)), u1, u2, u3, u4, u5, u6, u7, u8, u9] [.inr (.inl z0)] h Q) : Wb rod d B_Model_common 11 [some (.inr (.inl z0)), u1, u2, u3, u4, u5, u6, u7, u8, u9] [] h Q := by
  refine Wb.go (fun r hr q => b_Model_common_11 ?_) k
  (first | exact q | (simp only [Option.getD_some]; exact q))
theorem w_Model_common_12 {rod : Nat → Nat × (Nat → Int32)} {d : Nat} {Q : Option MV → MH → Prop} {u0 : Option MV} {u1 : Option MV} {z2 : Int64} {u3 : Option MV} {u4 : Option MV} {u5 : Option MV} {u6 : Option MV} {u7 : Option MV} {u8 : Option MV} {u9 : Option MV} {zs0 : Int64} {h : MH}  (g0 : okl [u0, u1, some (.inr (.inl z2)), u3, u4, u5, u6, u7, u8, u9] 4 = true) (g1 : okl [u0, u1, some (.inr (.inl z2)), u3, some (.inr (.inl zs0)), none, u6, u7, u8, u9] 6 = true) (k : Wb rod d B_Model_common 17 [u0, u1, some (.inr (.inl z2)), u3, some (.inr (.inl zs0)), none, some (.inr (.inl z2)), none, u8, u9] [] h Q) : Wb rod d B_Model_common 12 [u0, u1, some (.inr (.inl z2)), u3, u4, u5, u6, u7, u8, u9] [.inr (.inl zs0)] h Q := by
  refine Wb.go (fun r hr q => b_Model_common_12 g0 g1 ?_) k
  (first | exact q | (simp only [Option.getD_some]; exact q))
theorem w_Model_common_17 {rod : Nat → Nat × (Nat → Int32)} {d : Nat} {Q : Option MV → MH → Prop} {u0 : Option MV} {u1 : Option MV} {u2 : Option MV} {u3 : Option MV} {u4 : Option MV} {u5 : Option MV} {z6 : Int64} {u7 : Option MV} {u8 : Option MV} {u9 : Option MV} {h : MH}   (k1 : (lg_cmp z6 (0 : Int64)).toInt = 0 → Wb rod d B_Model_common 42 [u0, u1, u2, u3, u4, u5, some (.inr (.inl z6)), u7, u8, u9] [] h Q) (k2 : ¬ (lg_cmp z6 (0 : Int64)).toInt = 0 → Wb rod d B_Model_common 24 [u0, u1, u2, u3, u4, u5, some (.inr (.inl z6)), u7, u8, u9] [] h Q) : Wb rod d B_Model_common 17 [u0, u1, u2, u3, u4, u5, some (.inr (.inl z6)), u7, u8, u9] [] h Q := by
  refine Wb.br (fun _ _ => b_Model_common_17) (fun c => ?_) (fun c => ?_)
  · have c : (decide ((lg_cmp z6 (0 : Int64)) = 0)) = true := by first | exact c | (simp only [Option.getD_some] at c; exact c)
    (first | exact (k1 (c_eqt c)) | (simp only [Option.getD_some]; exact (k1 (c_eqt c))))
  · have c : (decide ((lg_cmp z6 (0 : Int64)) = 0)) = false := by first | exact c | (simp only [Option.getD_some] at c; exact c)
    (first | exact (k2 (c_eqf c)) | (simp only [Option.getD_some]; exact (k2 (c_eqf c))))
theorem w_Model_common_24 {rod : Nat → Nat × (Nat → Int32)} {d : Nat} {Q : Option MV → MH → Prop} {u0 : Option MV} {u1 : Option MV} {u2 : Option MV} {u3 : Option MV} {z4 : Int64} {u5 : Option MV} {z6 : Int64} {u7 : Option MV} {u8 : Option MV} {u9 : Option MV} {h : MH}  (g0 : z6 ≠ 0) (g1 : okl [u0, u1, u2, u3, some (.inr (.inl z4)), u5, some (.inr (.inl z6)), u7, u8, u9] 8 = true) (g2 : okl [u0, u1, u2, u3, some (.inr (.inl z4)), u5, some (.inr (.inl z6)), u7, some (.inr (.inl (z4 - z4 / z6 * z6))), none] 4 = true) (g3 : okl [u0, u1, u2, u3, some (.inr (.inl z6)), none, some (.inr (.inl z6)), u7, some (.inr (.inl (z4 - z4 / z6 * z6))), none] 6 = true) (k : Wb rod d B_Model_common 17 [u0, u1, u2, u3, some (.inr (.inl z6)), none, some (.inr (.inl (z4 - z4 / z6 * z6))), none, some (.inr (.inl (z4 - z4 / z6 * z6))), none] [] h Q) : Wb rod d B_Model_common 24 [u0, u1, u2, u3, some (.inr (.inl z4)), u5, some (.inr (.inl z6)), u7, u8, u9] [] h Q := by
  refine Wb.go (fun r hr q => b_Model_common_24 (ndecJ g0) g1 g2 g3 ?_) k
  (first | exact q | (simp only [Option.getD_some]; exact q))
theorem w_Model_common_42 {rod : Nat → Nat × (Nat → Int32)} {d : Nat} {Q : Option MV → MH → Prop} {u0 : Option MV} {u1 : Option MV} {u2 : Option MV} {u3 : Option MV} {z4 : Int64} {u5 : Option MV} {u6 : Option MV} {u7 : Option MV} {u8 : Option MV} {u9 : Option MV} {h : MH}   (q : Q (some (.inr (.inl z4))) h) : Wb rod d B_Model_common 42 [u0, u1, u2, u3, some (.inr (.inl z4)), u5, u6, u7, u8, u9] [] h Q := by
  refine Wb.ret (b_Model_common_42) ?_
  (first | exact q | (simp only [Option.getD_some]; exact q))
theorem n_Model_even {rod : Nat → Nat × (Nat → Int32)} {d : Nat} {Q : Option MV → MH → Prop} {x1 : Int32} {x2 : Int32} {h : MH} (k : Wb rod d B_Model_even 0 [some (.inr (.inr (.inl (some 84)))), some (.inl x1), some (.inl x2), none, none, none, none] [] h Q) : Wc rod (d + 1) 292 [.inr (.inr (.inl (some 84))), .inl x1, .inl x2] h Q := Wc.en (fun _ _ => e_Model_even) k
theorem w_Model_even_0 {rod : Nat → Nat × (Nat → Int32)} {d : Nat} {Q : Option MV → MH → Prop} {x1 : Int32} {u2 : Option MV} {u3 : Option MV} {u4 : Option MV} {u5 : Option MV} {u6 : Option MV} {h : MH} (L : Lay h.2)  {Q1 : Option MV → MH → Prop} (c : Wc rod d 282 [.inr (.inr (.inl (some 84))), .inl x1] h Q1) (k : ∀ r1 h2, Q1 r1 h2 → Wb rod d B_Model_even 5 [some (.inr (.inr (.inl (some 84)))), some (.inl x1), u2, u3, u4, u5, u6] (r1.toList ++ []) h2 Q) : Wb rod d B_Model_even 0 [some (.inr (.inr (.inl (some 84)))), some (.inl x1), u2, u3, u4, u5, u6] [] h Q := by
  refine Wb.call (fun _ _ _ _ => b_Model_even_0 (Lay.o84 L)) (Q1 := Q1) ?_ ?_
  · (first | exact c | (simp only [Option.getD_some]; exact c))
  · (first | exact k | (simp only [Option.getD_some]; exact k))
theorem w_Model_even_5 {rod : Nat → Nat × (Nat → Int32)} {d : Nat} {Q : Option MV → MH → Prop} {u0 : Option MV} {u1 : Option MV} {u2 : Option MV} {u3 : Option MV} {u4 : Option MV} {u5 : Option MV} {u6 : Option MV} {xs0 : Int32} {h : MH}   (k1 : xs0.toInt = 0 → Wb rod d B_Model_even 22 [u0, u1, u2, u3, u4, u5, u6] [] h Q) (k2 : ¬ xs0.toInt = 0 → Wb rod d B_Model_even 8 [u0, u1, u2, u3, u4, u5, u6] [] h Q) : Wb rod d B_Model_even 5 [u0, u1, u2, u3, u4, u5, u6] [.inl xs0] h Q := by
  refine Wb.br (fun _ _ => b_Model_even_5) (fun c => ?_) (fun c => ?_)
  · have c : (decide (xs0 = 0)) = true := by first | exact c | (simp only [Option.getD_some] at c; exact c)
    (first | exact (k1 (c_eqt c)) | (simp only [Option.getD_some]; exact (k1 (c_eqt c))))
  · have c : (decide (xs0 = 0)) = false := by first | exact c | (simp only [Option.getD_some] at c; exact c)
    (first | exact (k2 (c_eqf c)) | (simp only [Option.getD_some]; exact (k2 (c_eqf c))))
theorem w_Model_even_8 {rod : Nat → Nat × (Nat → Int32)} {d : Nat} {Q : Option MV → MH → Prop} {u1 : Option MV} {x2 : Int32} {u3 : Option MV} {u4 : Option MV} {u5 : Option MV} {u6 : Option MV} {h : MH} (L : Lay h.2)  {Q1 : Option MV → MH → Prop} (c : Wc rod d 193 [.inl x2, .inl (0 : Int32), .inl ((h.1 84 43) - (1 : Int32))] h Q1) (k : ∀ r1 h2, Q1 r1 h2 → Wb rod d B_Model_even 19 [some (.inr (.inr (.inl (some 84)))), u1, some (.inl x2), u3, u4, u5, u6] (r1.toList ++ []) h2 Q) : Wb rod d B_Model_even 8 [some (.inr (.inr (.inl (some 84)))), u1, some (.inl x2), u3, u4, u5, u6] [] h Q := by
  refine Wb.call (fun _ _ _ _ => b_Model_even_8 (Lay.o84 L)) (Q1 := Q1) ?_ ?_
  · (first | exact c | (simp only [Option.getD_some]; exact c))
  · (first | exact k | (simp only [Option.getD_some]; exact k))
theorem w_Model_even_19 {rod : Nat → Nat × (Nat → Int32)} {d : Nat} {Q : Option MV → MH → Prop} {u0 : Option MV} {u1 : Option MV} {u2 : Option MV} {u3 : Option MV} {u4 : Option MV} {u5 : Option MV} {u6 : Option MV} {xs0 : Int32} {h : MH}   (k1 : ¬ xs0.toInt = 0 → Wb rod d B_Model_even 26 [u0, u1, u2, u3, u4, u5, u6] [] h Q) (k2 : xs0.toInt = 0 → Wb rod d B_Model_even 22 [u0, u1, u2, u3, u4, u5, u6] [] h Q) : Wb rod d B_Model_even 19 [u0, u1, u2, u3, u4, u5, u6] [.inl xs0] h Q := by
  refine Wb.br (fun _ _ => b_Model_even_19) (fun c => ?_) (fun c => ?_)
  · have c : (!(decide (xs0 = 0))) = true := by first | exact c | (simp only [Option.getD_some] at c; exact c)
    (first | exact (k1 (c_net c)) | (simp only [Option.getD_some]; exact (k1 (c_net c))))
  · have c : (!(decide (xs0 = 0))) = false := by first | exact c | (simp only [Option.getD_some] at c; exact c)
    (first | exact (k2 (c_nef c)) | (simp only [Option.getD_some]; exact (k2 (c_nef c))))
theorem w_Model_even_22 {rod : Nat → Nat × (Nat → Int32)} {d : Nat} {Q : Option MV → MH → Prop} {u0 : Option MV} {u1 : Option MV} {u2 : Option MV} {u3 : Option MV} {u4 : Option MV} {u5 : Option MV} {u6 : Option MV} {h : MH}   (q : Q (some (.inl (-1000 : Int32))) h) : Wb rod d B_Model_even 22 [u0, u1, u2, u3, u4, u5, u6] [] h Q := by
  refine Wb.ret (b_Model_even_22) ?_
  (first | exact q | (simp only [Option.getD_some]; exact q))
theorem w_Model_even_26 {rod : Nat → Nat × (Nat → Int32)} {d : Nat} {Q : Option MV → MH → Prop} {u1 : Option MV} {u2 : Option MV} {u3 : Option MV} {u4 : Option MV} {u5 : Option MV} {u6 : Option MV} {h : MH} (L : Lay h.2)  {Q1 : Option MV → MH → Prop} (c : Wc rod d 290 [.inl (h.1 84 43)] h Q1) (k : ∀ r1 h2, Q1 r1 h2 → Wb rod d B_Model_even 33 [some (.inr (.inr (.inl (some 84)))), u1, u2, u3, u4, u5, u6] (r1.toList ++ []) h2 Q) : Wb rod d B_Model_even 26 [some (.inr (.inr (.inl (some 84)))), u1, u2, u3, u4, u5, u6] [] h Q := by
  refine Wb.call (fun _ _ _ _ => b_Model_even_26 (Lay.o84 L)) (Q1 := Q1) ?_ ?_
  · (first | exact c | (simp only [Option.getD_some]; exact c))
  · (first | exact k | (simp only [Option.getD_some]; exact k))
theorem w_Model_even_33 {rod : Nat → Nat × (Nat → Int32)} {d : Nat} {Q : Option MV → MH → Prop} {u1 : Option MV} {u2 : Option MV} {u3 : Option MV} {u4 : Option MV} {u5 : Option MV} {u6 : Option MV} {xs0 : Int32} {h : MH} (L : Lay h.2) (g0 : okl [some (.inr (.inr (.inl (some 84)))), u1, u2, u3, u4, u5, u6] 3 = true) {Q1 : Option MV → MH → Prop} (c : Wc rod d 284 [.inr (.inr (.inl (some 84))), .inl (((1 : Int32) <<< ((h.1 84 43) &&& 31)) - (1 : Int32))] h Q1) (k : ∀ r1 h2, Q1 r1 h2 → Wb rod d B_Model_even 46 [some (.inr (.inr (.inl (some 84)))), u1, u2, some (.inl xs0), u4, u5, u6] (r1.toList ++ []) h2 Q) : Wb rod d B_Model_even 33 [some (.inr (.inr (.inl (some 84)))), u1, u2, u3, u4, u5, u6] [.inl xs0] h Q := by
  refine Wb.call (fun _ _ _ _ => b_Model_even_33 g0 (Lay.o84 L)) (Q1 := Q1) ?_ ?_
  · (first | exact c | (simp only [Option.getD_some]; exact c))
  · (first | exact k | (simp only [Option.getD_some]; exact k))
theorem w_Model_even_46 {rod : Nat → Nat × (Nat → Int32)} {d : Nat} {Q : Option MV → MH → Prop} {u0 : Option MV} {u1 : Option MV} {u2 : Option MV} {u3 : Option MV} {u4 : Option MV} {u5 : Option MV} {u6 : Option MV} {xs0 : Int32} {h : MH}  (g0 : okl [u0, u1, u2, u3, u4, u5, u6] 4 = true) (k : Wb rod d B_Model_even 54 [u0, u1, u2, u3, some (.inl xs0), some (.inl (0 : Int32)), some (.inl (0 : Int32))] [] h Q) : Wb rod d B_Model_even 46 [u0, u1, u2, u3, u4, u5, u6] [.inl xs0] h Q := by
  refine Wb.go (fun r hr q => b_Model_even_46 g0 ?_) k
  (first | exact q | (simp only [Option.getD_some]; exact q))
theorem w_Model_even_54 {rod : Nat → Nat × (Nat → Int32)} {d : Nat} {Q : Option MV → MH → Prop} {u1 : Option MV} {u2 : Option MV} {u3 : Option MV} {u4 : Option MV} {u5 : Option MV} {x6 : Int32} {h : MH} (L : Lay h.2)  (k1 : (h.1 84 43).toInt ≤ x6.toInt → Wb rod d B_Model_even 133 [some (.inr (.inr (.inl (some 84)))), u1, u2, u3, u4, u5, some (.inl x6)] [] h Q) (k2 : ¬ (h.1 84 43).toInt ≤ x6.toInt → Wb rod d B_Model_even 63 [some (.inr (.inr (.inl (some 84)))), u1, u2, u3, u4, u5, some (.inl x6)] [] h Q) : Wb rod d B_Model_even 54 [some (.inr (.inr (.inl (some 84)))), u1, u2, u3, u4, u5, some (.inl x6)] [] h Q := by
  refine Wb.br (fun _ _ => b_Model_even_54 (Lay.o84 L)) (fun c => ?_) (fun c => ?_)
  · have c : (decide ((h.1 84 43) ≤ x6)) = true := by first | exact c | (simp only [Option.getD_some] at c; exact c)
    (first | exact (k1 (c_let c)) | (simp only [Option.getD_some]; exact (k1 (c_let c))))
  · have c : (decide ((h.1 84 43) ≤ x6)) = false := by first | exact c | (simp only [Option.getD_some] at c; exact c)
    (first | exact (k2 (c_lef c)) | (simp only [Option.getD_some]; exact (k2 (c_lef c))))
theorem w_Model_even_63 {rod : Nat → Nat × (Nat → Int32)} {d : Nat} {Q : Option MV → MH → Prop} {u1 : Option MV} {u2 : Option MV} {u3 : Option MV} {x4 : Int32} {u5 : Option MV} {x6 : Int32} {h : MH} (L : Lay h.2)  {Q1 : Option MV → MH → Prop} (c : Wc rod d 288 [.inr (.inr (.inl (some 84))), .inl x6] h Q1) (k : ∀ r1 h2, Q1 r1 h2 → Wb rod d B_Model_even 71 [some (.inr (.inr (.inl (some 84)))), u1, u2, u3, some (.inl x4), u5, some (.inl x6)] (r1.toList ++ [.inl x4]) h2 Q) : Wb rod d B_Model_even 63 [some (.inr (.inr (.inl (some 84)))), u1, u2, u3, some (.inl x4), u5, some (.inl x6)] [] h Q := by
  refine Wb.call (fun _ _ _ _ => b_Model_even_63 (Lay.o84 L)) (Q1 := Q1) ?_ ?_
  · (first | exact c | (simp only [Option.getD_some]; exact c))
  · (first | exact k | (simp only [Option.getD_some]; exact k))
theorem w_Model_even_71 {rod : Nat → Nat × (Nat → Int32)} {d : Nat} {Q : Option MV → MH → Prop} {u1 : Option MV} {u2 : Option MV} {u3 : Option MV} {u4 : Option MV} {u5 : Option MV} {x6 : Int32} {xs0 : Int32} {xs1 : Int32} {h : MH} (L : Lay h.2)  {Q1 : Option MV → MH → Prop} (c : Wc rod d 293 [.inr (.inr (.inl (some 84))), .inl x6] h Q1) (k : ∀ r1 h2, Q1 r1 h2 → Wb rod d B_Model_even 77 [some (.inr (.inr (.inl (some 84)))), u1, u2, u3, u4, u5, some (.inl x6)] (r1.toList ++ [.inl xs1, .inl xs0]) h2 Q) : Wb rod d B_Model_even 71 [some (.inr (.inr (.inl (some 84)))), u1, u2, u3, u4, u5, some (.inl x6)] [.inl xs1, .inl xs0] h Q := by
  refine Wb.call (fun _ _ _ _ => b_Model_even_71 (Lay.o84 L)) (Q1 := Q1) ?_ ?_
  · (first | exact c | (simp only [Option.getD_some]; exact c))
  · (first | exact k | (simp only [Option.getD_some]; exact k))
theorem w_Model_even_77 {rod : Nat → Nat × (Nat → Int32)} {d : Nat} {Q : Option MV → MH → Prop} {u1 : Option MV} {u2 : Option MV} {x3 : Int32} {u4 : Option MV} {x5 : Int32} {x6 : Int32} {xs0 : Int32} {xs1 : Int32} {xs2 : Int32} {h : MH} (L : Lay h.2) (g0 : x3 ≠ 0) {Q1 : Option MV → MH → Prop} (c : Wc rod d 293 [.inr (.inr (.inl (some 84))), .inl x6] h Q1) (k : ∀ r1 h2, Q1 r1 h2 → Wb rod d B_Model_even 91 [some (.inr (.inr (.inl (some 84)))), u1, u2, some (.inl x3), some (.inl (xs0 - ((xs1 - xs2) / x3))), some (.inl x5), some (.inl x6)] (r1.toList ++ [.inl x5]) h2 Q) : Wb rod d B_Model_even 77 [some (.inr (.inr (.inl (some 84)))), u1, u2, some (.inl x3), u4, some (.inl x5), some (.inl x6)] [.inl xs2, .inl xs1, .inl xs0] h Q := by
  refine Wb.call (fun _ _ _ _ => b_Model_even_77 (ndec g0) (Lay.o84 L)) (Q1 := Q1) ?_ ?_
  · (first | exact c | (simp only [Option.getD_some]; exact c))
  · (first | exact k | (simp only [Option.getD_some]; exact k))
theorem w_Model_even_91 {rod : Nat → Nat × (Nat → Int32)} {d : Nat} {Q : Option MV → MH → Prop} {u1 : Option MV} {x2 : Int32} {u3 : Option MV} {u4 : Option MV} {u5 : Option MV} {u6 : Option MV} {xs0 : Int32} {xs1 : Int32} {h : MH} (L : Lay h.2)  {Q1 : Option MV → MH → Prop} (c : Wc rod d 293 [.inr (.inr (.inl (some 84))), .inl x2] h Q1) (k : ∀ r1 h2, Q1 r1 h2 → Wb rod d B_Model_even 96 [some (.inr (.inr (.inl (some 84)))), u1, some (.inl x2), u3, u4, u5, u6] (r1.toList ++ [.inl xs1, .inl xs0]) h2 Q) : Wb rod d B_Model_even 91 [some (.inr (.inr (.inl (some 84)))), u1, some (.inl x2), u3, u4, u5, u6] [.inl xs1, .inl xs0] h Q := by
  refine Wb.call (fun _ _ _ _ => b_Model_even_91 (Lay.o84 L)) (Q1 := Q1) ?_ ?_
  · (first | exact c | (simp only [Option.getD_some]; exact c))
  · (first | exact k | (simp only [Option.getD_some]; exact k))
theorem w_Model_even_96 {rod : Nat → Nat × (Nat → Int32)} {d : Nat} {Q : Option MV → MH → Prop} {u0 : Option MV} {u1 : Option MV} {u2 : Option MV} {u3 : Option MV} {u4 : Option MV} {u5 : Option MV} {u6 : Option MV} {xs0 : Int32} {xs1 : Int32} {xs2 : Int32} {h : MH}   (k1 : xs2.toInt < xs1.toInt → Wb rod d B_Model_even 119 [u0, u1, u2, u3, u4, u5, u6] [.inl xs0] h Q) (k2 : ¬ xs2.toInt < xs1.toInt → Wb rod d B_Model_even 99 [u0, u1, u2, u3, u4, u5, u6] [.inl xs0] h Q) : Wb rod d B_Model_even 96 [u0, u1, u2, u3, u4, u5, u6] [.inl xs2, .inl xs1, .inl xs0] h Q := by
  refine Wb.br (fun _ _ => b_Model_even_96) (fun c => ?_) (fun c => ?_)
  · have c : (decide (xs2 < xs1)) = true := by first | exact c | (simp only [Option.getD_some] at c; exact c)
    (first | exact (k1 (c_ltt c)) | (simp only [Option.getD_some]; exact (k1 (c_ltt c))))
  · have c : (decide (xs2 < xs1)) = false := by first | exact c | (simp only [Option.getD_some] at c; exact c)
    (first | exact (k2 (c_ltf c)) | (simp only [Option.getD_some]; exact (k2 (c_ltf c))))
theorem w_Model_even_99 {rod : Nat → Nat × (Nat → Int32)} {d : Nat} {Q : Option MV → MH → Prop} {u1 : Option MV} {u2 : Option MV} {u3 : Option MV} {u4 : Option MV} {u5 : Option MV} {x6 : Int32} {xs0 : Int32} {h : MH} (L : Lay h.2)  {Q1 : Option MV → MH → Prop} (c : Wc rod d 293 [.inr (.inr (.inl (some 84))), .inl x6] h Q1) (k : ∀ r1 h2, Q1 r1 h2 → Wb rod d B_Model_even 105 [some (.inr (.inr (.inl (some 84)))), u1, u2, u3, u4, u5, some (.inl x6)] (r1.toList ++ [.inl xs0]) h2 Q) : Wb rod d B_Model_even 99 [some (.inr (.inr (.inl (some 84)))), u1, u2, u3, u4, u5, some (.inl x6)] [.inl xs0] h Q := by
  refine Wb.call (fun _ _ _ _ => b_Model_even_99 (Lay.o84 L)) (Q1 := Q1) ?_ ?_
  · (first | exact c | (simp only [Option.getD_some]; exact c))
  · (first | exact k | (simp only [Option.getD_some]; exact k))
theorem w_Model_even_105 {rod : Nat → Nat × (Nat → Int32)} {d : Nat} {Q : Option MV → MH → Prop} {u1 : Option MV} {x2 : Int32} {u3 : Option MV} {u4 : Option MV} {u5 : Option MV} {u6 : Option MV} {xs0 : Int32} {xs1 : Int32} {h : MH} (L : Lay h.2)  {Q1 : Option MV → MH → Prop} (c : Wc rod d 293 [.inr (.inr (.inl (some 84))), .inl x2] h Q1) (k : ∀ r1 h2, Q1 r1 h2 → Wb rod d B_Model_even 110 [some (.inr (.inr (.inl (some 84)))), u1, some (.inl x2), u3, u4, u5, u6] (r1.toList ++ [.inl xs1, .inl xs0]) h2 Q) : Wb rod d B_Model_even 105 [some (.inr (.inr (.inl (some 84)))), u1, some (.inl x2), u3, u4, u5, u6] [.inl xs1, .inl xs0] h Q := by
  refine Wb.call (fun _ _ _ _ => b_Model_even_105 (Lay.o84 L)) (Q1 := Q1) ?_ ?_
  · (first | exact c | (simp only [Option.getD_some]; exact c))
  · (first | exact k | (simp only [Option.getD_some]; exact k))
theorem w_Model_even_110 {rod : Nat → Nat × (Nat → Int32)} {d : Nat} {Q : Option MV → MH → Prop} {u0 : Option MV} {u1 : Option MV} {u2 : Option MV} {u3 : Option MV} {u4 : Option MV} {u5 : Option MV} {u6 : Option MV} {xs0 : Int32} {xs1 : Int32} {xs2 : Int32} {h : MH}   (k1 : ¬ xs1.toInt = xs2.toInt → Wb rod d B_Model_even 123 [u0, u1, u2, u3, u4, u5, u6] [.inl xs0] h Q) (k2 : xs1.toInt = xs2.toInt → Wb rod d B_Model_even 113 [u0, u1, u2, u3, u4, u5, u6] [.inl xs0] h Q) : Wb rod d B_Model_even 110 [u0, u1, u2, u3, u4, u5, u6] [.inl xs2, .inl xs1, .inl xs0] h Q := by
  refine Wb.br (fun _ _ => b_Model_even_110) (fun c => ?_) (fun c => ?_)
  · have c : (!(decide (xs1 = xs2))) = true := by first | exact c | (simp only [Option.getD_some] at c; exact c)
    (first | exact (k1 (c_net c)) | (simp only [Option.getD_some]; exact (k1 (c_net c))))
  · have c : (!(decide (xs1 = xs2))) = false := by first | exact c | (simp only [Option.getD_some] at c; exact c)
    (first | exact (k2 (c_nef c)) | (simp only [Option.getD_some]; exact (k2 (c_nef c))))
theorem w_Model_even_113 {rod : Nat → Nat × (Nat → Int32)} {d : Nat} {Q : Option MV → MH → Prop} {u0 : Option MV} {u1 : Option MV} {x2 : Int32} {u3 : Option MV} {u4 : Option MV} {u5 : Option MV} {x6 : Int32} {xs0 : Int32} {h : MH}   (k1 : x2.toInt ≤ x6.toInt → Wb rod d B_Model_even 123 [u0, u1, some (.inl x2), u3, u4, u5, some (.inl x6)] [.inl xs0] h Q) (k2 : ¬ x2.toInt ≤ x6.toInt → Wb rod d B_Model_even 119 [u0, u1, some (.inl x2), u3, u4, u5, some (.inl x6)] [.inl xs0] h Q) : Wb rod d B_Model_even 113 [u0, u1, some (.inl x2), u3, u4, u5, some (.inl x6)] [.inl xs0] h Q := by
  refine Wb.br (fun _ _ => b_Model_even_113) (fun c => ?_) (fun c => ?_)
  · have c : (decide (x2 ≤ x6)) = true := by first | exact c | (simp only [Option.getD_some] at c; exact c)
    (first | exact (k1 (c_let c)) | (simp only [Option.getD_some]; exact (k1 (c_let c))))
  · have c : (decide (x2 ≤ x6)) = false := by first | exact c | (simp only [Option.getD_some] at c; exact c)
    (first | exact (k2 (c_lef c)) | (simp only [Option.getD_some]; exact (k2 (c_lef c))))
theorem w_Model_even_119 {rod : Nat → Nat × (Nat → Int32)} {d : Nat} {Q : Option MV → MH → Prop} {u0 : Option MV} {u1 : Option MV} {u2 : Option MV} {u3 : Option MV} {u4 : Option MV} {u5 : Option MV} {u6 : Option MV} {xs0 : Int32} {h : MH}   (k : Wb rod d B_Model_even 124 [u0, u1, u2, u3, u4, u5, u6] [.inl (1 : Int32), .inl xs0] h Q) : Wb rod d B_Model_even 119 [u0, u1, u2, u3, u4, u5, u6] [.inl xs0] h Q := by
  refine Wb.go (fun r hr q => b_Model_even_119 ?_) k
  (first | exact q | (simp only [Option.getD_some]; exact q))
theorem w_Model_even_123 {rod : Nat → Nat × (Nat → Int32)} {d : Nat} {Q : Option MV → MH → Prop} {u0 : Option MV} {u1 : Option MV} {u2 : Option MV} {u3 : Option MV} {u4 : Option MV} {u5 : Option MV} {u6 : Option MV} {xs0 : Int32} {h : MH}   (k : Wb rod d B_Model_even 124 [u0, u1, u2, u3, u4, u5, u6] [.inl (0 : Int32), .inl xs0] h Q) : Wb rod d B_Model_even 123 [u0, u1, u2, u3, u4, u5, u6] [.inl xs0] h Q := by
  refine Wb.go (fun r hr q => b_Model_even_123 ?_) k
  (first | exact q | (simp only [Option.getD_some]; exact q))
theorem w_Model_even_124 {rod : Nat → Nat × (Nat → Int32)} {d : Nat} {Q : Option MV → MH → Prop} {u0 : Option MV} {u1 : Option MV} {u2 : Option MV} {u3 : Option MV} {u4 : Option MV} {u5 : Option MV} {x6 : Int32} {xs0 : Int32} {xs1 : Int32} {h : MH}  (g0 : okl [u0, u1, u2, u3, u4, u5, some (.inl x6)] 5 = true) (k : Wb rod d B_Model_even 54 [u0, u1, u2, u3, u4, some (.inl (xs0 + xs1)), some (.inl (x6 + 1))] [] h Q) : Wb rod d B_Model_even 124 [u0, u1, u2, u3, u4, u5, some (.inl x6)] [.inl xs1, .inl xs0] h Q := by
  refine Wb.go (fun r hr q => b_Model_even_124 g0 ?_) k
  (first | exact q | (simp only [Option.getD_some]; exact q))
theorem w_Model_even_133 {rod : Nat → Nat × (Nat → Int32)} {d : Nat} {Q : Option MV → MH → Prop} {u1 : Option MV} {x2 : Int32} {u3 : Option MV} {u4 : Option MV} {u5 : Option MV} {u6 : Option MV} {h : MH} (L : Lay h.2)  {Q1 : Option MV → MH → Prop} (c : Wc rod d 288 [.inr (.inr (.inl (some 84))), .inl x2] h Q1) (k : ∀ r1 h2, Q1 r1 h2 → Wb rod d B_Model_even 138 [some (.inr (.inr (.inl (some 84)))), u1, some (.inl x2), u3, u4, u5, u6] (r1.toList ++ []) h2 Q) : Wb rod d B_Model_even 133 [some (.inr (.inr (.inl (some 84)))), u1, some (.inl x2), u3, u4, u5, u6] [] h Q := by
  refine Wb.call (fun _ _ _ _ => b_Model_even_133 (Lay.o84 L)) (Q1 := Q1) ?_ ?_
  · (first | exact c | (simp only [Option.getD_some]; exact c))
  · (first | exact k | (simp only [Option.getD_some]; exact k))
theorem w_Model_even_138 {rod : Nat → Nat × (Nat → Int32)} {d : Nat} {Q : Option MV → MH → Prop} {u1 : Option MV} {x2 : Int32} {u3 : Option MV} {u4 : Option MV} {u5 : Option MV} {u6 : Option MV} {xs0 : Int32} {h : MH} (L : Lay h.2)  {Q1 : Option MV → MH → Prop} (c : Wc rod d 293 [.inr (.inr (.inl (some 84))), .inl x2] h Q1) (k : ∀ r1 h2, Q1 r1 h2 → Wb rod d B_Model_even 143 [some (.inr (.inr (.inl (some 84)))), u1, some (.inl x2), u3, u4, u5, u6] (r1.toList ++ [.inl xs0]) h2 Q) : Wb rod d B_Model_even 138 [some (.inr (.inr (.inl (some 84)))), u1, some (.inl x2), u3, u4, u5, u6] [.inl xs0] h Q := by
  refine Wb.call (fun _ _ _ _ => b_Model_even_138 (Lay.o84 L)) (Q1 := Q1) ?_ ?_
  · (first | exact c | (simp only [Option.getD_some]; exact c))
  · (first | exact k | (simp only [Option.getD_some]; exact k))
theorem w_Model_even_143 {rod : Nat → Nat × (Nat → Int32)} {d : Nat} {Q : Option MV → MH → Prop} {u0 : Option MV} {u1 : Option MV} {u2 : Option MV} {x3 : Int32} {x4 : Int32} {x5 : Int32} {u6 : Option MV} {xs0 : Int32} {xs1 : Int32} {h : MH}  (g0 : x3 ≠ 0) (k1 : x4.toInt ≤ x5.toInt → Wb rod d B_Model_even 157 [u0, u1, u2, some (.inl x3), some (.inl x4), some (.inl x5), u6] [.inl ((xs0 - xs1) / x3)] h Q) (k2 : ¬ x4.toInt ≤ x5.toInt → Wb rod d B_Model_even 153 [u0, u1, u2, some (.inl x3), some (.inl x4), some (.inl x5), u6] [.inl ((xs0 - xs1) / x3)] h Q) : Wb rod d B_Model_even 143 [u0, u1, u2, some (.inl x3), some (.inl x4), some (.inl x5), u6] [.inl xs1, .inl xs0] h Q := by
  refine Wb.br (fun _ _ => b_Model_even_143 (ndec g0)) (fun c => ?_) (fun c => ?_)
  · have c : (decide (x4 ≤ x5)) = true := by first | exact c | (simp only [Option.getD_some] at c; exact c)
    (first | exact (k1 (c_let c)) | (simp only [Option.getD_some]; exact (k1 (c_let c))))
  · have c : (decide (x4 ≤ x5)) = false := by first | exact c | (simp only [Option.getD_some] at c; exact c)
    (first | exact (k2 (c_lef c)) | (simp only [Option.getD_some]; exact (k2 (c_lef c))))
theorem w_Model_even_153 {rod : Nat → Nat × (Nat → Int32)} {d : Nat} {Q : Option MV → MH → Prop} {u0 : Option MV} {u1 : Option MV} {u2 : Option MV} {u3 : Option MV} {u4 : Option MV} {u5 : Option MV} {u6 : Option MV} {xs0 : Int32} {h : MH}   (k : Wb rod d B_Model_even 158 [u0, u1, u2, u3, u4, u5, u6] [.inl (1 : Int32), .inl xs0] h Q) : Wb rod d B_Model_even 153 [u0, u1, u2, u3, u4, u5, u6] [.inl xs0] h Q := by
  refine Wb.go (fun r hr q => b_Model_even_153 ?_) k
  (first | exact q | (simp only [Option.getD_some]; exact q))
theorem w_Model_even_157 {rod : Nat → Nat × (Nat → Int32)} {d : Nat} {Q : Option MV → MH → Prop} {u0 : Option MV} {u1 : Option MV} {u2 : Option MV} {u3 : Option MV} {u4 : Option MV} {u5 : Option MV} {u6 : Option MV} {xs0 : Int32} {h : MH}   (k : Wb rod d B_Model_even 158 [u0, u1, u2, u3, u4, u5, u6] [.inl (0 : Int32), .inl xs0] h Q) : Wb rod d B_Model_even 157 [u0, u1, u2, u3, u4, u5, u6] [.inl xs0] h Q := by
  refine Wb.go (fun r hr q => b_Model_even_157 ?_) k
  (first | exact q | (simp only [Option.getD_some]; exact q))
theorem w_Model_even_158 {rod : Nat → Nat × (Nat → Int32)} {d : Nat} {Q : Option MV → MH → Prop} {u0 : Option MV} {u1 : Option MV} {u2 : Option MV} {u3 : Option MV} {u4 : Option MV} {u5 : Option MV} {u6 : Option MV} {xs0 : Int32} {xs1 : Int32} {h : MH}   (q : Q (some (.inl (xs0 + xs1))) h) : Wb rod d B_Model_even 158 [u0, u1, u2, u3, u4, u5, u6] [.inl xs1, .inl xs0] h Q := by
  refine Wb.ret (b_Model_even_158) ?_
  (first | exact q | (simp only [Option.getD_some]; exact q))
theorem n_Model_offOf {rod : Nat → Nat × (Nat → Int32)} {d : Nat} {Q : Option MV → MH → Prop} {x1 : Int32} {h : MH} (k : Wb rod d B_Model_offOf 0 [some (.inr (.inr (.inl (some 84)))), some (.inl x1), none, none] [] h Q) : Wc rod (d + 1) 293 [.inr (.inr (.inl (some 84))), .inl x1] h Q := Wc.en (fun _ _ => e_Model_offOf) k
theorem w_Model_offOf_0 {rod : Nat → Nat × (Nat → Int32)} {d : Nat} {Q : Option MV → MH → Prop} {u1 : Option MV} {u2 : Option MV} {u3 : Option MV} {h : MH} (L : Lay h.2)  {Q1 : Option MV → MH → Prop} (c : Wc rod d 290 [.inl (h.1 84 43)] h Q1) (k : ∀ r1 h2, Q1 r1 h2 → Wb rod d B_Model_offOf 7 [some (.inr (.inr (.inl (some 84)))), u1, u2, u3] (r1.toList ++ []) h2 Q) : Wb rod d B_Model_offOf 0 [some (.inr (.inr (.inl (some 84)))), u1, u2, u3] [] h Q := by
  refine Wb.call (fun _ _ _ _ => b_Model_offOf_0 (Lay.o84 L)) (Q1 := Q1) ?_ ?_
  · (first | exact c | (simp only [Option.getD_some]; exact c))
  · (first | exact k | (simp only [Option.getD_some]; exact k))
theorem w_Model_offOf_7 {rod : Nat → Nat × (Nat → Int32)} {d : Nat} {Q : Option MV → MH → Prop} {x1 : Int32} {u2 : Option MV} {u3 : Option MV} {xs0 : Int32} {h : MH} (L : Lay h.2)  {Q1 : Option MV → MH → Prop} (c : Wc rod d 288 [.inr (.inr (.inl (some 84))), .inl x1] h Q1) (k : ∀ r1 h2, Q1 r1 h2 → Wb rod d B_Model_offOf 13 [some (.inr (.inr (.inl (some 84)))), some (.inl x1), some (.inl xs0), u3] (r1.toList ++ []) h2 Q) : Wb rod d B_Model_offOf 7 [some (.inr (.inr (.inl (some 84)))), some (.inl x1), u2, u3] [.inl xs0] h Q := by
  refine Wb.call (fun _ _ _ _ => b_Model_offOf_7 (Lay.o84 L)) (Q1 := Q1) ?_ ?_
  · (first | exact c | (simp only [Option.getD_some]; exact c))
  · (first | exact k | (simp only [Option.getD_some]; exact k))
theorem w_Model_offOf_13 {rod : Nat → Nat × (Nat → Int32)} {d : Nat} {Q : Option MV → MH → Prop} {u0 : Option MV} {u1 : Option MV} {x2 : Int32} {u3 : Option MV} {xs0 : Int32} {h : MH}  (g0 : x2 ≠ 0) (k1 : 0 ≤ (xs0 - xs0 / x2 * x2).toInt → Wb rod d B_Model_offOf 26 [u0, u1, some (.inl x2), some (.inl (xs0 - xs0 / x2 * x2))] [] h Q) (k2 : ¬ 0 ≤ (xs0 - xs0 / x2 * x2).toInt → Wb rod d B_Model_offOf 20 [u0, u1, some (.inl x2), some (.inl (xs0 - xs0 / x2 * x2))] [] h Q) : Wb rod d B_Model_offOf 13 [u0, u1, some (.inl x2), u3] [.inl xs0] h Q := by
  refine Wb.br (fun _ _ => b_Model_offOf_13 (ndec g0)) (fun c => ?_) (fun c => ?_)
  · have c : (decide (0 ≤ (xs0 - xs0 / x2 * x2))) = true := by first | exact c | (simp only [Option.getD_some] at c; exact c)
    (first | exact (k1 (c_let c)) | (simp only [Option.getD_some]; exact (k1 (c_let c))))
  · have c : (decide (0 ≤ (xs0 - xs0 / x2 * x2))) = false := by first | exact c | (simp only [Option.getD_some] at c; exact c)
    (first | exact (k2 (c_lef c)) | (simp only [Option.getD_some]; exact (k2 (c_lef c))))
theorem w_Model_offOf_20 {rod : Nat → Nat × (Nat → Int32)} {d : Nat} {Q : Option MV → MH → Prop} {u0 : Option MV} {u1 : Option MV} {x2 : Int32} {x3 : Int32} {h : MH}   (k : Wb rod d B_Model_offOf 27 [u0, u1, some (.inl x2), some (.inl x3)] [.inl (x3 + x2)] h Q) : Wb rod d B_Model_offOf 20 [u0, u1, some (.inl x2), some (.inl x3)] [] h Q := by
  refine Wb.go (fun r hr q => b_Model_offOf_20 ?_) k
  (first | exact q | (simp only [Option.getD_some]; exact q))
theorem w_Model_offOf_26 {rod : Nat → Nat × (Nat → Int32)} {d : Nat} {Q : Option MV → MH → Prop} {u0 : Option MV} {u1 : Option MV} {u2 : Option MV} {x3 : Int32} {h : MH}   (k : Wb rod d B_Model_offOf 27 [u0, u1, u2, some (.inl x3)] [.inl x3] h Q) : Wb rod d B_Model_offOf 26 [u0, u1, u2, some (.inl x3)] [] h Q := by
  refine Wb.go (fun r hr q => b_Model_offOf_26 ?_) k
  (first | exact q | (simp only [Option.getD_some]; exact q))
theorem w_Model_offOf_27 {rod : Nat → Nat × (Nat → Int32)} {d : Nat} {Q : Option MV → MH → Prop} {u0 : Option MV} {u1 : Option MV} {u2 : Option MV} {u3 : Option MV} {xs0 : Int32} {h : MH}   (q : Q (some (.inl xs0)) h) : Wb rod d B_Model_offOf 27 [u0, u1, u2, u3] [.inl xs0] h Q := by
  refine Wb.ret (b_Model_offOf_27) ?_
  (first | exact q | (simp only [Option.getD_some]; exact q))
theorem n_Model_power {rod : Nat → Nat × (Nat → Int32)} {d : Nat} {Q : Option MV → MH → Prop} {x1 : Int32} {x2 : Int32} {h : MH} (k : Wb rod d B_Model_power 0 [some (.inr (.inr (.inl (some 84)))), some (.inl x1), some (.inl x2), none, none] [] h Q) : Wc rod (d + 1) 294 [.inr (.inr (.inl (some 84))), .inl x1, .inl x2] h Q := Wc.en (fun _ _ => e_Model_power) k
theorem w_Model_power_0 {rod : Nat → Nat × (Nat → Int32)} {d : Nat} {Q : Option MV → MH → Prop} {x1 : Int32} {u2 : Option MV} {u3 : Option MV} {u4 : Option MV} {h : MH} (L : Lay h.2)  {Q1 : Option MV → MH → Prop} (c : Wc rod d 282 [.inr (.inr (.inl (some 84))), .inl x1] h Q1) (k : ∀ r1 h2, Q1 r1 h2 → Wb rod d B_Model_power 5 [some (.inr (.inr (.inl (some 84)))), some (.inl x1), u2, u3, u4] (r1.toList ++ []) h2 Q) : Wb rod d B_Model_power 0 [some (.inr (.inr (.inl (some 84)))), some (.inl x1), u2, u3, u4] [] h Q := by
  refine Wb.call (fun _ _ _ _ => b_Model_power_0 (Lay.o84 L)) (Q1 := Q1) ?_ ?_
  · (first | exact c | (simp only [Option.getD_some]; exact c))
  · (first | exact k | (simp only [Option.getD_some]; exact k))
theorem w_Model_power_5 {rod : Nat → Nat × (Nat → Int32)} {d : Nat} {Q : Option MV → MH → Prop} {u0 : Option MV} {u1 : Option MV} {u2 : Option MV} {u3 : Option MV} {u4 : Option MV} {xs0 : Int32} {h : MH}   (k1 : ¬ xs0.toInt = 0 → Wb rod d B_Model_power 10 [u0, u1, u2, u3, u4] [] h Q) (k2 : xs0.toInt = 0 → Wb rod d B_Model_power 8 [u0, u1, u2, u3, u4] [] h Q) : Wb rod d B_Model_power 5 [u0, u1, u2, u3, u4] [.inl xs0] h Q := by
  refine Wb.br (fun _ _ => b_Model_power_5) (fun c => ?_) (fun c => ?_)
  · have c : (!(decide (xs0 = 0))) = true := by first | exact c | (simp only [Option.getD_some] at c; exact c)
    (first | exact (k1 (c_net c)) | (simp only [Option.getD_some]; exact (k1 (c_net c))))
  · have c : (!(decide (xs0 = 0))) = false := by first | exact c | (simp only [Option.getD_some] at c; exact c)
    (first | exact (k2 (c_nef c)) | (simp only [Option.getD_some]; exact (k2 (c_nef c))))
theorem w_Model_power_8 {rod : Nat → Nat × (Nat → Int32)} {d : Nat} {Q : Option MV → MH → Prop} {u0 : Option MV} {u1 : Option MV} {u2 : Option MV} {u3 : Option MV} {u4 : Option MV} {h : MH}   (q : Q (some (.inl (-1 : Int32))) h) : Wb rod d B_Model_power 8 [u0, u1, u2, u3, u4] [] h Q := by
  refine Wb.ret (b_Model_power_8) ?_
  (first | exact q | (simp only [Option.getD_some]; exact q))
theorem w_Model_power_10 {rod : Nat → Nat × (Nat → Int32)} {d : Nat} {Q : Option MV → MH → Prop} {u0 : Option MV} {u1 : Option MV} {x2 : Int32} {u3 : Option MV} {u4 : Option MV} {h : MH}   (k1 : ¬ x2.toInt = 0 → Wb rod d B_Model_power 19 [u0, u1, some (.inl x2), u3, u4] [] h Q) (k2 : x2.toInt = 0 → Wb rod d B_Model_power 14 [u0, u1, some (.inl x2), u3, u4] [] h Q) : Wb rod d B_Model_power 10 [u0, u1, some (.inl x2), u3, u4] [] h Q := by
  refine Wb.br (fun _ _ => b_Model_power_10) (fun c => ?_) (fun c => ?_)
  · have c : (!(decide (x2 = 0))) = true := by first | exact c | (simp only [Option.getD_some] at c; exact c)
    (first | exact (k1 (c_net c)) | (simp only [Option.getD_some]; exact (k1 (c_net c))))
  · have c : (!(decide (x2 = 0))) = false := by first | exact c | (simp only [Option.getD_some] at c; exact c)
    (first | exact (k2 (c_nef c)) | (simp only [Option.getD_some]; exact (k2 (c_nef c))))
theorem w_Model_power_14 {rod : Nat → Nat × (Nat → Int32)} {d : Nat} {Q : Option MV → MH → Prop} {u1 : Option MV} {u2 : Option MV} {u3 : Option MV} {u4 : Option MV} {h : MH} (L : Lay h.2)  {Q1 : Option MV → MH → Prop} (c : Wc rod d 295 [.inr (.inr (.inl (some 84)))] h Q1) (k : ∀ r1 h2, Q1 r1 h2 → Wb rod d B_Model_power 18 [some (.inr (.inr (.inl (some 84)))), u1, u2, u3, u4] (r1.toList ++ []) h2 Q) : Wb rod d B_Model_power 14 [some (.inr (.inr (.inl (some 84)))), u1, u2, u3, u4] [] h Q := by
  refine Wb.call (fun _ _ _ _ => b_Model_power_14 (Lay.o84 L)) (Q1 := Q1) ?_ ?_
  · (first | exact c | (simp only [Option.getD_some]; exact c))
  · (first | exact k | (simp only [Option.getD_some]; exact k))
theorem w_Model_power_18 {rod : Nat → Nat × (Nat → Int32)} {d : Nat} {Q : Option MV → MH → Prop} {u0 : Option MV} {u1 : Option MV} {u2 : Option MV} {u3 : Option MV} {u4 : Option MV} {xs0 : Int32} {h : MH}   (q : Q (some (.inl xs0)) h) : Wb rod d B_Model_power 18 [u0, u1, u2, u3, u4] [.inl xs0] h Q := by
  refine Wb.ret (b_Model_power_18) ?_
  (first | exact q | (simp only [Option.getD_some]; exact q))
theorem w_Model_power_19 {rod : Nat → Nat × (Nat → Int32)} {d : Nat} {Q : Option MV → MH → Prop} {u0 : Option MV} {u1 : Option MV} {x2 : Int32} {u3 : Option MV} {u4 : Option MV} {h : MH}   (k1 : ¬ x2.toInt = 1 → Wb rod d B_Model_power 67 [u0, u1, some (.inl x2), u3, u4] [] h Q) (k2 : x2.toInt = 1 → Wb rod d B_Model_power 24 [u0, u1, some (.inl x2), u3, u4] [] h Q) : Wb rod d B_Model_power 19 [u0, u1, some (.inl x2), u3, u4] [] h Q := by
  refine Wb.br (fun _ _ => b_Model_power_19) (fun c => ?_) (fun c => ?_)
  · have c : (!(decide (x2 = (1 : Int32)))) = true := by first | exact c | (simp only [Option.getD_some] at c; exact c)
    (first | exact (k1 (c_net c)) | (simp only [Option.getD_some]; exact (k1 (c_net c))))
  · have c : (!(decide (x2 = (1 : Int32)))) = false := by first | exact c | (simp only [Option.getD_some] at c; exact c)
    (first | exact (k2 (c_nef c)) | (simp only [Option.getD_some]; exact (k2 (c_nef c))))
theorem w_Model_power_24 {rod : Nat → Nat × (Nat → Int32)} {d : Nat} {Q : Option MV → MH → Prop} {u0 : Option MV} {u1 : Option MV} {u2 : Option MV} {u3 : Option MV} {u4 : Option MV} {h : MH}  (g0 : okl [u0, u1, u2, u3, u4] 3 = true) (k : Wb rod d B_Model_power 29 [u0, u1, u2, some (.inl (0 : Int32)), some (.inl (0 : Int32))] [] h Q) : Wb rod d B_Model_power 24 [u0, u1, u2, u3, u4] [] h Q := by
  refine Wb.go (fun r hr q => b_Model_power_24 g0 ?_) k
  (first | exact q | (simp only [Option.getD_some]; exact q))
theorem w_Model_power_29 {rod : Nat → Nat × (Nat → Int32)} {d : Nat} {Q : Option MV → MH → Prop} {u1 : Option MV} {u2 : Option MV} {u3 : Option MV} {x4 : Int32} {h : MH} (L : Lay h.2)  (k1 : (h.1 84 43).toInt ≤ x4.toInt → Wb rod d B_Model_power 65 [some (.inr (.inr (.inl (some 84)))), u1, u2, u3, some (.inl x4)] [] h Q) (k2 : ¬ (h.1 84 43).toInt ≤ x4.toInt → Wb rod d B_Model_power 38 [some (.inr (.inr (.inl (some 84)))), u1, u2, u3, some (.inl x4)] [] h Q) : Wb rod d B_Model_power 29 [some (.inr (.inr (.inl (some 84)))), u1, u2, u3, some (.inl x4)] [] h Q := by
  refine Wb.br (fun _ _ => b_Model_power_29 (Lay.o84 L)) (fun c => ?_) (fun c => ?_)
  · have c : (decide ((h.1 84 43) ≤ x4)) = true := by first | exact c | (simp only [Option.getD_some] at c; exact c)
    (first | exact (k1 (c_let c)) | (simp only [Option.getD_some]; exact (k1 (c_let c))))
  · have c : (decide ((h.1 84 43) ≤ x4)) = false := by first | exact c | (simp only [Option.getD_some] at c; exact c)
    (first | exact (k2 (c_lef c)) | (simp only [Option.getD_some]; exact (k2 (c_lef c))))
theorem w_Model_power_38 {rod : Nat → Nat × (Nat → Int32)} {d : Nat} {Q : Option MV → MH → Prop} {u1 : Option MV} {u2 : Option MV} {x3 : Int32} {x4 : Int32} {h : MH} (L : Lay h.2)  {Q1 : Option MV → MH → Prop} (c : Wc rod d 296 [.inr (.inr (.inl (some 84))), .inl x4, .inl (1 : Int32)] h Q1) (k : ∀ r1 h2, Q1 r1 h2 → Wb rod d B_Model_power 46 [some (.inr (.inr (.inl (some 84)))), u1, u2, some (.inl x3), some (.inl x4)] (r1.toList ++ [.inl x3]) h2 Q) : Wb rod d B_Model_power 38 [some (.inr (.inr (.inl (some 84)))), u1, u2, some (.inl x3), some (.inl x4)] [] h Q := by
  refine Wb.call (fun _ _ _ _ => b_Model_power_38 (Lay.o84 L)) (Q1 := Q1) ?_ ?_
  · (first | exact c | (simp only [Option.getD_some]; exact c))
  · (first | exact k | (simp only [Option.getD_some]; exact k))
theorem w_Model_power_46 {rod : Nat → Nat × (Nat → Int32)} {d : Nat} {Q : Option MV → MH → Prop} {u0 : Option MV} {u1 : Option MV} {u2 : Option MV} {u3 : Option MV} {u4 : Option MV} {xs0 : Int32} {xs1 : Int32} {h : MH}   (k1 : ¬ xs1.toInt = 0 → Wb rod d B_Model_power 56 [u0, u1, u2, u3, u4] [.inl xs0] h Q) (k2 : xs1.toInt = 0 → Wb rod d B_Model_power 49 [u0, u1, u2, u3, u4] [.inl xs0] h Q) : Wb rod d B_Model_power 46 [u0, u1, u2, u3, u4] [.inl xs1, .inl xs0] h Q := by
  refine Wb.br (fun _ _ => b_Model_power_46) (fun c => ?_) (fun c => ?_)
  · have c : (!(decide (xs1 = 0))) = true := by first | exact c | (simp only [Option.getD_some] at c; exact c)
    (first | exact (k1 (c_net c)) | (simp only [Option.getD_some]; exact (k1 (c_net c))))
  · have c : (!(decide (xs1 = 0))) = false := by first | exact c | (simp only [Option.getD_some] at c; exact c)
    (first | exact (k2 (c_nef c)) | (simp only [Option.getD_some]; exact (k2 (c_nef c))))
theorem w_Model_power_49 {rod : Nat → Nat × (Nat → Int32)} {d : Nat} {Q : Option MV → MH → Prop} {u0 : Option MV} {u1 : Option MV} {u2 : Option MV} {u3 : Option MV} {x4 : Int32} {xs0 : Int32} {h : MH}   (k : Wb rod d B_Model_power 57 [u0, u1, u2, u3, some (.inl x4)] [.inl ((1 : Int32) <<< (x4 &&& 31)), .inl xs0] h Q) : Wb rod d B_Model_power 49 [u0, u1, u2, u3, some (.inl x4)] [.inl xs0] h Q := by
  refine Wb.go (fun r hr q => b_Model_power_49 ?_) k
  (first | exact q | (simp only [Option.getD_some]; exact q))
theorem w_Model_power_56 {rod : Nat → Nat × (Nat → Int32)} {d : Nat} {Q : Option MV → MH → Prop} {u0 : Option MV} {u1 : Option MV} {u2 : Option MV} {u3 : Option MV} {u4 : Option MV} {xs0 : Int32} {h : MH}   (k : Wb rod d B_Model_power 57 [u0, u1, u2, u3, u4] [.inl (0 : Int32), .inl xs0] h Q) : Wb rod d B_Model_power 56 [u0, u1, u2, u3, u4] [.inl xs0] h Q := by
  refine Wb.go (fun r hr q => b_Model_power_56 ?_) k
  (first | exact q | (simp only [Option.getD_some]; exact q))
theorem w_Model_power_57 {rod : Nat → Nat × (Nat → Int32)} {d : Nat} {Q : Option MV → MH → Prop} {u0 : Option MV} {u1 : Option MV} {u2 : Option MV} {u3 : Option MV} {x4 : Int32} {xs0 : Int32} {xs1 : Int32} {h : MH}  (g0 : okl [u0, u1, u2, u3, some (.inl x4)] 3 = true) (k : Wb rod d B_Model_power 29 [u0, u1, u2, some (.inl (xs0 ||| xs1)), some (.inl (x4 + 1))] [] h Q) : Wb rod d B_Model_power 57 [u0, u1, u2, u3, some (.inl x4)] [.inl xs1, .inl xs0] h Q := by
  refine Wb.go (fun r hr q => b_Model_power_57 g0 ?_) k
  (first | exact q | (simp only [Option.getD_some]; exact q))
theorem w_Model_power_65 {rod : Nat → Nat × (Nat → Int32)} {d : Nat} {Q : Option MV → MH → Prop} {u0 : Option MV} {u1 : Option MV} {u2 : Option MV} {x3 : Int32} {u4 : Option MV} {h : MH}   (q : Q (some (.inl x3)) h) : Wb rod d B_Model_power 65 [u0, u1, u2, some (.inl x3), u4] [] h Q := by
  refine Wb.ret (b_Model_power_65) ?_
  (first | exact q | (simp only [Option.getD_some]; exact q))
theorem w_Model_power_67 {rod : Nat → Nat × (Nat → Int32)} {d : Nat} {Q : Option MV → MH → Prop} {u1 : Option MV} {x2 : Int32} {u3 : Option MV} {u4 : Option MV} {h : MH} (L : Lay h.2)  {Q1 : Option MV → MH → Prop} (c : Wc rod d 193 [.inl x2, .inl (10 : Int32), .inl ((9 : Int32) + (h.1 84 43))] h Q1) (k : ∀ r1 h2, Q1 r1 h2 → Wb rod d B_Model_power 80 [some (.inr (.inr (.inl (some 84)))), u1, some (.inl x2), u3, u4] (r1.toList ++ []) h2 Q) : Wb rod d B_Model_power 67 [some (.inr (.inr (.inl (some 84)))), u1, some (.inl x2), u3, u4] [] h Q := by
  refine Wb.call (fun _ _ _ _ => b_Model_power_67 (Lay.o84 L)) (Q1 := Q1) ?_ ?_
  · (first | exact c | (simp only [Option.getD_some]; exact c))
  · (first | exact k | (simp only [Option.getD_some]; exact k))
theorem w_Model_power_80 {rod : Nat → Nat × (Nat → Int32)} {d : Nat} {Q : Option MV → MH → Prop} {u0 : Option MV} {u1 : Option MV} {u2 : Option MV} {u3 : Option MV} {u4 : Option MV} {xs0 : Int32} {h : MH}   (k1 : xs0.toInt = 0 → Wb rod d B_Model_power 95 [u0, u1, u2, u3, u4] [] h Q) (k2 : ¬ xs0.toInt = 0 → Wb rod d B_Model_power 83 [u0, u1, u2, u3, u4] [] h Q) : Wb rod d B_Model_power 80 [u0, u1, u2, u3, u4] [.inl xs0] h Q := by
  refine Wb.br (fun _ _ => b_Model_power_80) (fun c => ?_) (fun c => ?_)
  · have c : (decide (xs0 = 0)) = true := by first | exact c | (simp only [Option.getD_some] at c; exact c)
    (first | exact (k1 (c_eqt c)) | (simp only [Option.getD_some]; exact (k1 (c_eqt c))))
  · have c : (decide (xs0 = 0)) = false := by first | exact c | (simp only [Option.getD_some] at c; exact c)
    (first | exact (k2 (c_eqf c)) | (simp only [Option.getD_some]; exact (k2 (c_eqf c))))
theorem w_Model_power_83 {rod : Nat → Nat × (Nat → Int32)} {d : Nat} {Q : Option MV → MH → Prop} {u1 : Option MV} {x2 : Int32} {u3 : Option MV} {u4 : Option MV} {h : MH} (L : Lay h.2)  {Q1 : Option MV → MH → Prop} (c : Wc rod d 296 [.inr (.inr (.inl (some 84))), .inl (x2 - (10 : Int32)), .inl (0 : Int32)] h Q1) (k : ∀ r1 h2, Q1 r1 h2 → Wb rod d B_Model_power 92 [some (.inr (.inr (.inl (some 84)))), u1, some (.inl x2), u3, u4] (r1.toList ++ []) h2 Q) : Wb rod d B_Model_power 83 [some (.inr (.inr (.inl (some 84)))), u1, some (.inl x2), u3, u4] [] h Q := by
  refine Wb.call (fun _ _ _ _ => b_Model_power_83 (Lay.o84 L)) (Q1 := Q1) ?_ ?_
  · (first | exact c | (simp only [Option.getD_some]; exact c))
  · (first | exact k | (simp only [Option.getD_some]; exact k))
theorem w_Model_power_92 {rod : Nat → Nat × (Nat → Int32)} {d : Nat} {Q : Option MV → MH → Prop} {u0 : Option MV} {u1 : Option MV} {u2 : Option MV} {u3 : Option MV} {u4 : Option MV} {xs0 : Int32} {h : MH}   (k : Wb rod d B_Model_power 96 [u0, u1, u2, u3, u4] [.inl xs0] h Q) : Wb rod d B_Model_power 92 [u0, u1, u2, u3, u4] [.inl xs0] h Q := by
  refine Wb.go (fun r hr q => b_Model_power_92 ?_) k
  (first | exact q | (simp only [Option.getD_some]; exact q))
theorem w_Model_power_95 {rod : Nat → Nat × (Nat → Int32)} {d : Nat} {Q : Option MV → MH → Prop} {u0 : Option MV} {u1 : Option MV} {u2 : Option MV} {u3 : Option MV} {u4 : Option MV} {h : MH}   (k : Wb rod d B_Model_power 96 [u0, u1, u2, u3, u4] [.inl (-1 : Int32)] h Q) : Wb rod d B_Model_power 95 [u0, u1, u2, u3, u4] [] h Q := by
  refine Wb.go (fun r hr q => b_Model_power_95 ?_) k
  (first | exact q | (simp only [Option.getD_some]; exact q))
theorem w_Model_power_96 {rod : Nat → Nat × (Nat → Int32)} {d : Nat} {Q : Option MV → MH → Prop} {u0 : Option MV} {u1 : Option MV} {u2 : Option MV} {u3 : Option MV} {u4 : Option MV} {xs0 : Int32} {h : MH}   (q : Q (some (.inl xs0)) h) : Wb rod d B_Model_power 96 [u0, u1, u2, u3, u4] [.inl xs0] h Q := by
  refine Wb.ret (b_Model_power_96) ?_
  (first | exact q | (simp only [Option.getD_some]; exact q))
theorem n_Model_vetoes {rod : Nat → Nat × (Nat → Int32)} {d : Nat} {Q : Option MV → MH → Prop}  {h : MH} (k : Wb rod d B_Model_vetoes 0 [some (.inr (.inr (.inl (some 84)))), none, none, none, none] [] h Q) : Wc rod (d + 1) 295 [.inr (.inr (.inl (some 84)))] h Q := Wc.en (fun _ _ => e_Model_vetoes) k
theorem w_Model_vetoes_0 {rod : Nat → Nat × (Nat → Int32)} {d : Nat} {Q : Option MV → MH → Prop} {u0 : Option MV} {u1 : Option MV} {u2 : Option MV} {u3 : Option MV} {u4 : Option MV} {h : MH}  (g0 : okl [u0, u1, u2, u3, u4] 1 = true) (k : Wb rod d B_Model_vetoes 4 [u0, some (.inl (0 : Int32)), some (.inl (0 : Int32)), u3, u4] [] h Q) : Wb rod d B_Model_vetoes 0 [u0, u1, u2, u3, u4] [] h Q := by
  refine Wb.go (fun r hr q => b_Model_vetoes_0 g0 ?_) k
  (first | exact q | (simp only [Option.getD_some]; exact q))
theorem w_Model_vetoes_4 {rod : Nat → Nat × (Nat → Int32)} {d : Nat} {Q : Option MV → MH → Prop} {u1 : Option MV} {x2 : Int32} {u3 : Option MV} {u4 : Option MV} {h : MH} (L : Lay h.2)  (k1 : (h.1 84 43).toInt ≤ x2.toInt → Wb rod d B_Model_vetoes 83 [some (.inr (.inr (.inl (some 84)))), u1, some (.inl x2), u3, u4] [] h Q) (k2 : ¬ (h.1 84 43).toInt ≤ x2.toInt → Wb rod d B_Model_vetoes 12 [some (.inr (.inr (.inl (some 84)))), u1, some (.inl x2), u3, u4] [] h Q) : Wb rod d B_Model_vetoes 4 [some (.inr (.inr (.inl (some 84)))), u1, some (.inl x2), u3, u4] [] h Q := by
  refine Wb.br (fun _ _ => b_Model_vetoes_4 (Lay.o84 L)) (fun c => ?_) (fun c => ?_)
  · have c : (decide ((h.1 84 43) ≤ x2)) = true := by first | exact c | (simp only [Option.getD_some] at c; exact c)
    (first | exact (k1 (c_let c)) | (simp only [Option.getD_some]; exact (k1 (c_let c))))
  · have c : (decide ((h.1 84 43) ≤ x2)) = false := by first | exact c | (simp only [Option.getD_some] at c; exact c)
    (first | exact (k2 (c_lef c)) | (simp only [Option.getD_some]; exact (k2 (c_lef c))))
theorem w_Model_vetoes_12 {rod : Nat → Nat × (Nat → Int32)} {d : Nat} {Q : Option MV → MH → Prop} {u0 : Option MV} {u1 : Option MV} {u2 : Option MV} {u3 : Option MV} {u4 : Option MV} {h : MH}  (g0 : okl [u0, u1, u2, u3, u4] 3 = true) (k : Wb rod d B_Model_vetoes 17 [u0, u1, u2, some (.inl (1 : Int32)), some (.inl (1 : Int32))] [] h Q) : Wb rod d B_Model_vetoes 12 [u0, u1, u2, u3, u4] [] h Q := by
  refine Wb.go (fun r hr q => b_Model_vetoes_12 g0 ?_) k
  (first | exact q | (simp only [Option.getD_some]; exact q))
theorem w_Model_vetoes_17 {rod : Nat → Nat × (Nat → Int32)} {d : Nat} {Q : Option MV → MH → Prop} {u1 : Option MV} {u2 : Option MV} {u3 : Option MV} {x4 : Int32} {h : MH} (L : Lay h.2)  (k1 : ((1 : Int32) <<< ((h.1 84 43) &&& 31)).toInt ≤ x4.toInt → Wb rod d B_Model_vetoes 63 [some (.inr (.inr (.inl (some 84)))), u1, u2, u3, some (.inl x4)] [] h Q) (k2 : ¬ ((1 : Int32) <<< ((h.1 84 43) &&& 31)).toInt ≤ x4.toInt → Wb rod d B_Model_vetoes 28 [some (.inr (.inr (.inl (some 84)))), u1, u2, u3, some (.inl x4)] [] h Q) : Wb rod d B_Model_vetoes 17 [some (.inr (.inr (.inl (some 84)))), u1, u2, u3, some (.inl x4)] [] h Q := by
  refine Wb.br (fun _ _ => b_Model_vetoes_17 (Lay.o84 L)) (fun c => ?_) (fun c => ?_)
  · have c : (decide (((1 : Int32) <<< ((h.1 84 43) &&& 31)) ≤ x4)) = true := by first | exact c | (simp only [Option.getD_some] at c; exact c)
    (first | exact (k1 (c_let c)) | (simp only [Option.getD_some]; exact (k1 (c_let c))))
  · have c : (decide (((1 : Int32) <<< ((h.1 84 43) &&& 31)) ≤ x4)) = false := by first | exact c | (simp only [Option.getD_some] at c; exact c)
    (first | exact (k2 (c_lef c)) | (simp only [Option.getD_some]; exact (k2 (c_lef c))))
theorem w_Model_vetoes_28 {rod : Nat → Nat × (Nat → Int32)} {d : Nat} {Q : Option MV → MH → Prop} {u0 : Option MV} {u1 : Option MV} {u2 : Option MV} {x3 : Int32} {u4 : Option MV} {h : MH}   (k1 : x3.toInt = 0 → Wb rod d B_Model_vetoes 55 [u0, u1, u2, some (.inl x3), u4] [] h Q) (k2 : ¬ x3.toInt = 0 → Wb rod d B_Model_vetoes 32 [u0, u1, u2, some (.inl x3), u4] [] h Q) : Wb rod d B_Model_vetoes 28 [u0, u1, u2, some (.inl x3), u4] [] h Q := by
  refine Wb.br (fun _ _ => b_Model_vetoes_28) (fun c => ?_) (fun c => ?_)
  · have c : (decide (x3 = 0)) = true := by first | exact c | (simp only [Option.getD_some] at c; exact c)
    (first | exact (k1 (c_eqt c)) | (simp only [Option.getD_some]; exact (k1 (c_eqt c))))
  · have c : (decide (x3 = 0)) = false := by first | exact c | (simp only [Option.getD_some] at c; exact c)
    (first | exact (k2 (c_eqf c)) | (simp only [Option.getD_some]; exact (k2 (c_eqf c))))
theorem w_Model_vetoes_32 {rod : Nat → Nat × (Nat → Int32)} {d : Nat} {Q : Option MV → MH → Prop} {u0 : Option MV} {u1 : Option MV} {x2 : Int32} {u3 : Option MV} {x4 : Int32} {h : MH}   (k1 : ((x4 >>> (x2 &&& 31)) &&& (1 : Int32)).toInt = 1 → Wb rod d B_Model_vetoes 51 [u0, u1, some (.inl x2), u3, some (.inl x4)] [] h Q) (k2 : ¬ ((x4 >>> (x2 &&& 31)) &&& (1 : Int32)).toInt = 1 → Wb rod d B_Model_vetoes 42 [u0, u1, some (.inl x2), u3, some (.inl x4)] [] h Q) : Wb rod d B_Model_vetoes 32 [u0, u1, some (.inl x2), u3, some (.inl x4)] [] h Q := by
  refine Wb.br (fun _ _ => b_Model_vetoes_32) (fun c => ?_) (fun c => ?_)
  · have c : (decide (((x4 >>> (x2 &&& 31)) &&& (1 : Int32)) = (1 : Int32))) = true := by first | exact c | (simp only [Option.getD_some] at c; exact c)
    (first | exact (k1 (c_eqt c)) | (simp only [Option.getD_some]; exact (k1 (c_eqt c))))
  · have c : (decide (((x4 >>> (x2 &&& 31)) &&& (1 : Int32)) = (1 : Int32))) = false := by first | exact c | (simp only [Option.getD_some] at c; exact c)
    (first | exact (k2 (c_eqf c)) | (simp only [Option.getD_some]; exact (k2 (c_eqf c))))
theorem w_Model_vetoes_42 {rod : Nat → Nat × (Nat → Int32)} {d : Nat} {Q : Option MV → MH → Prop} {u1 : Option MV} {u2 : Option MV} {u3 : Option MV} {x4 : Int32} {h : MH} (L : Lay h.2)  {Q1 : Option MV → MH → Prop} (c : Wc rod d 284 [.inr (.inr (.inl (some 84))), .inl x4] h Q1) (k : ∀ r1 h2, Q1 r1 h2 → Wb rod d B_Model_vetoes 48 [some (.inr (.inr (.inl (some 84)))), u1, u2, u3, some (.inl x4)] (r1.toList ++ []) h2 Q) : Wb rod d B_Model_vetoes 42 [some (.inr (.inr (.inl (some 84)))), u1, u2, u3, some (.inl x4)] [] h Q := by
  refine Wb.call (fun _ _ _ _ => b_Model_vetoes_42 (Lay.o84 L)) (Q1 := Q1) ?_ ?_
  · (first | exact c | (simp only [Option.getD_some]; exact c))
  · (first | exact k | (simp only [Option.getD_some]; exact k))
theorem w_Model_vetoes_48 {rod : Nat → Nat × (Nat → Int32)} {d : Nat} {Q : Option MV → MH → Prop} {u0 : Option MV} {u1 : Option MV} {u2 : Option MV} {u3 : Option MV} {u4 : Option MV} {xs0 : Int32} {h : MH}   (k1 : ¬ xs0.toInt = 0 → Wb rod d B_Model_vetoes 55 [u0, u1, u2, u3, u4] [] h Q) (k2 : xs0.toInt = 0 → Wb rod d B_Model_vetoes 51 [u0, u1, u2, u3, u4] [] h Q) : Wb rod d B_Model_vetoes 48 [u0, u1, u2, u3, u4] [.inl xs0] h Q := by
  refine Wb.br (fun _ _ => b_Model_vetoes_48) (fun c => ?_) (fun c => ?_)
  · have c : (!(decide (xs0 = 0))) = true := by first | exact c | (simp only [Option.getD_some] at c; exact c)
    (first | exact (k1 (c_net c)) | (simp only [Option.getD_some]; exact (k1 (c_net c))))
  · have c : (!(decide (xs0 = 0))) = false := by first | exact c | (simp only [Option.getD_some] at c; exact c)
    (first | exact (k2 (c_nef c)) | (simp only [Option.getD_some]; exact (k2 (c_nef c))))
theorem w_Model_vetoes_51 {rod : Nat → Nat × (Nat → Int32)} {d : Nat} {Q : Option MV → MH → Prop} {u0 : Option MV} {u1 : Option MV} {u2 : Option MV} {u3 : Option MV} {u4 : Option MV} {h : MH}   (k : Wb rod d B_Model_vetoes 56 [u0, u1, u2, u3, u4] [.inl (1 : Int32)] h Q) : Wb rod d B_Model_vetoes 51 [u0, u1, u2, u3, u4] [] h Q := by
  refine Wb.go (fun r hr q => b_Model_vetoes_51 ?_) k
  (first | exact q | (simp only [Option.getD_some]; exact q))
theorem w_Model_vetoes_55 {rod : Nat → Nat × (Nat → Int32)} {d : Nat} {Q : Option MV → MH → Prop} {u0 : Option MV} {u1 : Option MV} {u2 : Option MV} {u3 : Option MV} {u4 : Option MV} {h : MH}   (k : Wb rod d B_Model_vetoes 56 [u0, u1, u2, u3, u4] [.inl (0 : Int32)] h Q) : Wb rod d B_Model_vetoes 55 [u0, u1, u2, u3, u4] [] h Q := by
  refine Wb.go (fun r hr q => b_Model_vetoes_55 ?_) k
  (first | exact q | (simp only [Option.getD_some]; exact q))
theorem w_Model_vetoes_56 {rod : Nat → Nat × (Nat → Int32)} {d : Nat} {Q : Option MV → MH → Prop} {u0 : Option MV} {u1 : Option MV} {u2 : Option MV} {u3 : Option MV} {x4 : Int32} {xs0 : Int32} {h : MH}  (g0 : okl [u0, u1, u2, u3, some (.inl x4)] 3 = true) (k : Wb rod d B_Model_vetoes 17 [u0, u1, u2, some (.inl xs0), some (.inl (x4 + 1))] [] h Q) : Wb rod d B_Model_vetoes 56 [u0, u1, u2, u3, some (.inl x4)] [.inl xs0] h Q := by
  refine Wb.go (fun r hr q => b_Model_vetoes_56 g0 ?_) k
  (first | exact q | (simp only [Option.getD_some]; exact q))
theorem w_Model_vetoes_63 {rod : Nat → Nat × (Nat → Int32)} {d : Nat} {Q : Option MV → MH → Prop} {u0 : Option MV} {x1 : Int32} {u2 : Option MV} {x3 : Int32} {u4 : Option MV} {h : MH}   (k1 : x3.toInt = 0 → Wb rod d B_Model_vetoes 74 [u0, some (.inl x1), u2, some (.inl x3), u4] [.inl x1] h Q) (k2 : ¬ x3.toInt = 0 → Wb rod d B_Model_vetoes 68 [u0, some (.inl x1), u2, some (.inl x3), u4] [.inl x1] h Q) : Wb rod d B_Model_vetoes 63 [u0, some (.inl x1), u2, some (.inl x3), u4] [] h Q := by
  refine Wb.br (fun _ _ => b_Model_vetoes_63) (fun c => ?_) (fun c => ?_)
  · have c : (decide (x3 = 0)) = true := by first | exact c | (simp only [Option.getD_some] at c; exact c)
    (first | exact (k1 (c_eqt c)) | (simp only [Option.getD_some]; exact (k1 (c_eqt c))))
  · have c : (decide (x3 = 0)) = false := by first | exact c | (simp only [Option.getD_some] at c; exact c)
    (first | exact (k2 (c_eqf c)) | (simp only [Option.getD_some]; exact (k2 (c_eqf c))))
theorem w_Model_vetoes_68 {rod : Nat → Nat × (Nat → Int32)} {d : Nat} {Q : Option MV → MH → Prop} {u0 : Option MV} {u1 : Option MV} {x2 : Int32} {u3 : Option MV} {u4 : Option MV} {xs0 : Int32} {h : MH}   (k : Wb rod d B_Model_vetoes 75 [u0, u1, some (.inl x2), u3, u4] [.inl ((1 : Int32) <<< (x2 &&& 31)), .inl xs0] h Q) : Wb rod d B_Model_vetoes 68 [u0, u1, some (.inl x2), u3, u4] [.inl xs0] h Q := by
  refine Wb.go (fun r hr q => b_Model_vetoes_68 ?_) k
  (first | exact q | (simp only [Option.getD_some]; exact q))
theorem w_Model_vetoes_74 {rod : Nat → Nat × (Nat → Int32)} {d : Nat} {Q : Option MV → MH → Prop} {u0 : Option MV} {u1 : Option MV} {u2 : Option MV} {u3 : Option MV} {u4 : Option MV} {xs0 : Int32} {h : MH}   (k : Wb rod d B_Model_vetoes 75 [u0, u1, u2, u3, u4] [.inl (0 : Int32), .inl xs0] h Q) : Wb rod d B_Model_vetoes 74 [u0, u1, u2, u3, u4] [.inl xs0] h Q := by
  refine Wb.go (fun r hr q => b_Model_vetoes_74 ?_) k
  (first | exact q | (simp only [Option.getD_some]; exact q))
theorem w_Model_vetoes_75 {rod : Nat → Nat × (Nat → Int32)} {d : Nat} {Q : Option MV → MH → Prop} {u0 : Option MV} {u1 : Option MV} {x2 : Int32} {u3 : Option MV} {u4 : Option MV} {xs0 : Int32} {xs1 : Int32} {h : MH}  (g0 : okl [u0, u1, some (.inl x2), u3, u4] 1 = true) (k : Wb rod d B_Model_vetoes 4 [u0, some (.inl (xs0 ||| xs1)), some (.inl (x2 + 1)), u3, u4] [] h Q) : Wb rod d B_Model_vetoes 75 [u0, u1, some (.inl x2), u3, u4] [.inl xs1, .inl xs0] h Q := by
  refine Wb.go (fun r hr q => b_Model_vetoes_75 g0 ?_) k
  (first | exact q | (simp only [Option.getD_some]; exact q))
theorem w_Model_vetoes_83 {rod : Nat → Nat × (Nat → Int32)} {d : Nat} {Q : Option MV → MH → Prop} {u0 : Option MV} {x1 : Int32} {u2 : Option MV} {u3 : Option MV} {u4 : Option MV} {h : MH}   (q : Q (some (.inl x1)) h) : Wb rod d B_Model_vetoes 83 [u0, some (.inl x1), u2, u3, u4] [] h Q := by
  refine Wb.ret (b_Model_vetoes_83) ?_
  (first | exact q | (simp only [Option.getD_some]; exact q))
theorem n_Model_swingsOf {rod : Nat → Nat × (Nat → Int32)} {d : Nat} {Q : Option MV → MH → Prop} {x1 : Int32} {x2 : Int32} {h : MH} (k : Wb rod d B_Model_swingsOf 0 [some (.inr (.inr (.inl (some 84)))), some (.inl x1), some (.inl x2), none, none, none] [] h Q) : Wc rod (d + 1) 296 [.inr (.inr (.inl (some 84))), .inl x1, .inl x2] h Q := Wc.en (fun _ _ => e_Model_swingsOf) k
theorem w_Model_swingsOf_0 {rod : Nat → Nat × (Nat → Int32)} {d : Nat} {Q : Option MV → MH → Prop} {u0 : Option MV} {u1 : Option MV} {u2 : Option MV} {u3 : Option MV} {u4 : Option MV} {u5 : Option MV} {h : MH}  (g0 : okl [u0, u1, u2, u3, u4, u5] 3 = true) (k : Wb rod d B_Model_swingsOf 5 [u0, u1, u2, some (.inl (0 : Int32)), some (.inl (1 : Int32)), u5] [] h Q) : Wb rod d B_Model_swingsOf 0 [u0, u1, u2, u3, u4, u5] [] h Q := by
  refine Wb.go (fun r hr q => b_Model_swingsOf_0 g0 ?_) k
  (first | exact q | (simp only [Option.getD_some]; exact q))
theorem w_Model_swingsOf_5 {rod : Nat → Nat × (Nat → Int32)} {d : Nat} {Q : Option MV → MH → Prop} {u1 : Option MV} {u2 : Option MV} {u3 : Option MV} {x4 : Int32} {u5 : Option MV} {h : MH} (L : Lay h.2)  (k1 : ((1 : Int32) <<< ((h.1 84 43) &&& 31)).toInt ≤ x4.toInt → Wb rod d B_Model_swingsOf 77 [some (.inr (.inr (.inl (some 84)))), u1, u2, u3, some (.inl x4), u5] [] h Q) (k2 : ¬ ((1 : Int32) <<< ((h.1 84 43) &&& 31)).toInt ≤ x4.toInt → Wb rod d B_Model_swingsOf 16 [some (.inr (.inr (.inl (some 84)))), u1, u2, u3, some (.inl x4), u5] [] h Q) : Wb rod d B_Model_swingsOf 5 [some (.inr (.inr (.inl (some 84)))), u1, u2, u3, some (.inl x4), u5] [] h Q := by
  refine Wb.br (fun _ _ => b_Model_swingsOf_5 (Lay.o84 L)) (fun c => ?_) (fun c => ?_)
  · have c : (decide (((1 : Int32) <<< ((h.1 84 43) &&& 31)) ≤ x4)) = true := by first | exact c | (simp only [Option.getD_some] at c; exact c)
    (first | exact (k1 (c_let c)) | (simp only [Option.getD_some]; exact (k1 (c_let c))))
  · have c : (decide (((1 : Int32) <<< ((h.1 84 43) &&& 31)) ≤ x4)) = false := by first | exact c | (simp only [Option.getD_some] at c; exact c)
    (first | exact (k2 (c_lef c)) | (simp only [Option.getD_some]; exact (k2 (c_lef c))))
theorem w_Model_swingsOf_16 {rod : Nat → Nat × (Nat → Int32)} {d : Nat} {Q : Option MV → MH → Prop} {u0 : Option MV} {x1 : Int32} {u2 : Option MV} {u3 : Option MV} {x4 : Int32} {u5 : Option MV} {h : MH}   (k1 : ¬ ((x4 >>> (x1 &&& 31)) &&& (1 : Int32)).toInt = 0 → Wb rod d B_Model_swingsOf 28 [u0, some (.inl x1), u2, u3, some (.inl x4), u5] [] h Q) (k2 : ((x4 >>> (x1 &&& 31)) &&& (1 : Int32)).toInt = 0 → Wb rod d B_Model_swingsOf 25 [u0, some (.inl x1), u2, u3, some (.inl x4), u5] [] h Q) : Wb rod d B_Model_swingsOf 16 [u0, some (.inl x1), u2, u3, some (.inl x4), u5] [] h Q := by
  refine Wb.br (fun _ _ => b_Model_swingsOf_16) (fun c => ?_) (fun c => ?_)
  · have c : (!(decide (((x4 >>> (x1 &&& 31)) &&& (1 : Int32)) = 0))) = true := by first | exact c | (simp only [Option.getD_some] at c; exact c)
    (first | exact (k1 (c_net c)) | (simp only [Option.getD_some]; exact (k1 (c_net c))))
  · have c : (!(decide (((x4 >>> (x1 &&& 31)) &&& (1 : Int32)) = 0))) = false := by first | exact c | (simp only [Option.getD_some] at c; exact c)
    (first | exact (k2 (c_nef c)) | (simp only [Option.getD_some]; exact (k2 (c_nef c))))
theorem w_Model_swingsOf_25 {rod : Nat → Nat × (Nat → Int32)} {d : Nat} {Q : Option MV → MH → Prop} {u0 : Option MV} {u1 : Option MV} {u2 : Option MV} {u3 : Option MV} {u4 : Option MV} {u5 : Option MV} {h : MH}   (k : Wb rod d B_Model_swingsOf 71 [u0, u1, u2, u3, u4, u5] [] h Q) : Wb rod d B_Model_swingsOf 25 [u0, u1, u2, u3, u4, u5] [] h Q := by
  refine Wb.go (fun r hr q => b_Model_swingsOf_25 ?_) k
  (first | exact q | (simp only [Option.getD_some]; exact q))
theorem w_Model_swingsOf_28 {rod : Nat → Nat × (Nat → Int32)} {d : Nat} {Q : Option MV → MH → Prop} {u1 : Option MV} {u2 : Option MV} {u3 : Option MV} {x4 : Int32} {u5 : Option MV} {h : MH} (L : Lay h.2)  {Q1 : Option MV → MH → Prop} (c : Wc rod d 284 [.inr (.inr (.inl (some 84))), .inl x4] h Q1) (k : ∀ r1 h2, Q1 r1 h2 → Wb rod d B_Model_swingsOf 34 [some (.inr (.inr (.inl (some 84)))), u1, u2, u3, some (.inl x4), u5] (r1.toList ++ []) h2 Q) : Wb rod d B_Model_swingsOf 28 [some (.inr (.inr (.inl (some 84)))), u1, u2, u3, some (.inl x4), u5] [] h Q := by
  refine Wb.call (fun _ _ _ _ => b_Model_swingsOf_28 (Lay.o84 L)) (Q1 := Q1) ?_ ?_
  · (first | exact c | (simp only [Option.getD_some]; exact c))
  · (first | exact k | (simp only [Option.getD_some]; exact k))
theorem w_Model_swingsOf_34 {rod : Nat → Nat × (Nat → Int32)} {d : Nat} {Q : Option MV → MH → Prop} {x1 : Int32} {u2 : Option MV} {u3 : Option MV} {x4 : Int32} {u5 : Option MV} {xs0 : Int32} {h : MH} (L : Lay h.2)  {Q1 : Option MV → MH → Prop} (c : Wc rod d 284 [.inr (.inr (.inl (some 84))), .inl (x4 &&& (((1 : Int32) <<< (x1 &&& 31)) ^^^ (-1 : Int32)))] h Q1) (k : ∀ r1 h2, Q1 r1 h2 → Wb rod d B_Model_swingsOf 46 [some (.inr (.inr (.inl (some 84)))), some (.inl x1), u2, u3, some (.inl x4), u5] (r1.toList ++ [.inl xs0]) h2 Q) : Wb rod d B_Model_swingsOf 34 [some (.inr (.inr (.inl (some 84)))), some (.inl x1), u2, u3, some (.inl x4), u5] [.inl xs0] h Q := by
  refine Wb.call (fun _ _ _ _ => b_Model_swingsOf_34 (Lay.o84 L)) (Q1 := Q1) ?_ ?_
  · (first | exact c | (simp only [Option.getD_some]; exact c))
  · (first | exact k | (simp only [Option.getD_some]; exact k))
theorem w_Model_swingsOf_46 {rod : Nat → Nat × (Nat → Int32)} {d : Nat} {Q : Option MV → MH → Prop} {u0 : Option MV} {u1 : Option MV} {u2 : Option MV} {x3 : Int32} {u4 : Option MV} {u5 : Option MV} {xs0 : Int32} {xs1 : Int32} {h : MH}  (g0 : okl [u0, u1, u2, some (.inl x3), u4, u5] 5 = true) (k1 : 0 < (xs0 - xs1).toInt → Wb rod d B_Model_swingsOf 64 [u0, u1, u2, some (.inl x3), u4, some (.inl (xs0 - xs1))] [.inl x3] h Q) (k2 : ¬ 0 < (xs0 - xs1).toInt → Wb rod d B_Model_swingsOf 55 [u0, u1, u2, some (.inl x3), u4, some (.inl (xs0 - xs1))] [.inl x3] h Q) : Wb rod d B_Model_swingsOf 46 [u0, u1, u2, some (.inl x3), u4, u5] [.inl xs1, .inl xs0] h Q := by
  refine Wb.br (fun _ _ => b_Model_swingsOf_46 g0) (fun c => ?_) (fun c => ?_)
  · have c : (decide (0 < (xs0 - xs1))) = true := by first | exact c | (simp only [Option.getD_some] at c; exact c)
    (first | exact (k1 (c_ltt c)) | (simp only [Option.getD_some]; exact (k1 (c_ltt c))))
  · have c : (decide (0 < (xs0 - xs1))) = false := by first | exact c | (simp only [Option.getD_some] at c; exact c)
    (first | exact (k2 (c_ltf c)) | (simp only [Option.getD_some]; exact (k2 (c_ltf c))))
theorem w_Model_swingsOf_55 {rod : Nat → Nat × (Nat → Int32)} {d : Nat} {Q : Option MV → MH → Prop} {u0 : Option MV} {u1 : Option MV} {x2 : Int32} {u3 : Option MV} {u4 : Option MV} {u5 : Option MV} {xs0 : Int32} {h : MH}   (k1 : x2.toInt = 0 → Wb rod d B_Model_swingsOf 68 [u0, u1, some (.inl x2), u3, u4, u5] [.inl xs0] h Q) (k2 : ¬ x2.toInt = 0 → Wb rod d B_Model_swingsOf 59 [u0, u1, some (.inl x2), u3, u4, u5] [.inl xs0] h Q) : Wb rod d B_Model_swingsOf 55 [u0, u1, some (.inl x2), u3, u4, u5] [.inl xs0] h Q := by
  refine Wb.br (fun _ _ => b_Model_swingsOf_55) (fun c => ?_) (fun c => ?_)
  · have c : (decide (x2 = 0)) = true := by first | exact c | (simp only [Option.getD_some] at c; exact c)
    (first | exact (k1 (c_eqt c)) | (simp only [Option.getD_some]; exact (k1 (c_eqt c))))
  · have c : (decide (x2 = 0)) = false := by first | exact c | (simp only [Option.getD_some] at c; exact c)
    (first | exact (k2 (c_eqf c)) | (simp only [Option.getD_some]; exact (k2 (c_eqf c))))
theorem w_Model_swingsOf_59 {rod : Nat → Nat × (Nat → Int32)} {d : Nat} {Q : Option MV → MH → Prop} {u0 : Option MV} {u1 : Option MV} {u2 : Option MV} {u3 : Option MV} {u4 : Option MV} {x5 : Int32} {xs0 : Int32} {h : MH}   (k1 : 0 ≤ x5.toInt → Wb rod d B_Model_swingsOf 68 [u0, u1, u2, u3, u4, some (.inl x5)] [.inl xs0] h Q) (k2 : ¬ 0 ≤ x5.toInt → Wb rod d B_Model_swingsOf 64 [u0, u1, u2, u3, u4, some (.inl x5)] [.inl xs0] h Q) : Wb rod d B_Model_swingsOf 59 [u0, u1, u2, u3, u4, some (.inl x5)] [.inl xs0] h Q := by
  refine Wb.br (fun _ _ => b_Model_swingsOf_59) (fun c => ?_) (fun c => ?_)
  · have c : (decide (0 ≤ x5)) = true := by first | exact c | (simp only [Option.getD_some] at c; exact c)
    (first | exact (k1 (c_let c)) | (simp only [Option.getD_some]; exact (k1 (c_let c))))
  · have c : (decide (0 ≤ x5)) = false := by first | exact c | (simp only [Option.getD_some] at c; exact c)
    (first | exact (k2 (c_lef c)) | (simp only [Option.getD_some]; exact (k2 (c_lef c))))
theorem w_Model_swingsOf_64 {rod : Nat → Nat × (Nat → Int32)} {d : Nat} {Q : Option MV → MH → Prop} {u0 : Option MV} {u1 : Option MV} {u2 : Option MV} {u3 : Option MV} {u4 : Option MV} {u5 : Option MV} {xs0 : Int32} {h : MH}   (k : Wb rod d B_Model_swingsOf 69 [u0, u1, u2, u3, u4, u5] [.inl (1 : Int32), .inl xs0] h Q) : Wb rod d B_Model_swingsOf 64 [u0, u1, u2, u3, u4, u5] [.inl xs0] h Q := by
  refine Wb.go (fun r hr q => b_Model_swingsOf_64 ?_) k
  (first | exact q | (simp only [Option.getD_some]; exact q))
theorem w_Model_swingsOf_68 {rod : Nat → Nat × (Nat → Int32)} {d : Nat} {Q : Option MV → MH → Prop} {u0 : Option MV} {u1 : Option MV} {u2 : Option MV} {u3 : Option MV} {u4 : Option MV} {u5 : Option MV} {xs0 : Int32} {h : MH}   (k : Wb rod d B_Model_swingsOf 69 [u0, u1, u2, u3, u4, u5] [.inl (0 : Int32), .inl xs0] h Q) : Wb rod d B_Model_swingsOf 68 [u0, u1, u2, u3, u4, u5] [.inl xs0] h Q := by
  refine Wb.go (fun r hr q => b_Model_swingsOf_68 ?_) k
  (first | exact q | (simp only [Option.getD_some]; exact q))
theorem w_Model_swingsOf_69 {rod : Nat → Nat × (Nat → Int32)} {d : Nat} {Q : Option MV → MH → Prop} {u0 : Option MV} {u1 : Option MV} {u2 : Option MV} {u3 : Option MV} {u4 : Option MV} {u5 : Option MV} {xs0 : Int32} {xs1 : Int32} {h : MH}  (g0 : okl [u0, u1, u2, u3, u4, u5] 3 = true) (k : Wb rod d B_Model_swingsOf 71 [u0, u1, u2, some (.inl (xs0 + xs1)), u4, u5] [] h Q) : Wb rod d B_Model_swingsOf 69 [u0, u1, u2, u3, u4, u5] [.inl xs1, .inl xs0] h Q := by
  refine Wb.go (fun r hr q => b_Model_swingsOf_69 g0 ?_) k
  (first | exact q | (simp only [Option.getD_some]; exact q))
theorem w_Model_swingsOf_71 {rod : Nat → Nat × (Nat → Int32)} {d : Nat} {Q : Option MV → MH → Prop} {u0 : Option MV} {u1 : Option MV} {u2 : Option MV} {u3 : Option MV} {x4 : Int32} {u5 : Option MV} {h : MH}  (g0 : okl [u0, u1, u2, u3, some (.inl x4), u5] 4 = true) (k : Wb rod d B_Model_swingsOf 5 [u0, u1, u2, u3, some (.inl (x4 + 1)), u5] [] h Q) : Wb rod d B_Model_swingsOf 71 [u0, u1, u2, u3, some (.inl x4), u5] [] h Q := by
  refine Wb.go (fun r hr q => b_Model_swingsOf_71 g0 ?_) k
  (first | exact q | (simp only [Option.getD_some]; exact q))
theorem w_Model_swingsOf_77 {rod : Nat → Nat × (Nat → Int32)} {d : Nat} {Q : Option MV → MH → Prop} {u0 : Option MV} {u1 : Option MV} {u2 : Option MV} {x3 : Int32} {u4 : Option MV} {u5 : Option MV} {h : MH}   (q : Q (some (.inl x3)) h) : Wb rod d B_Model_swingsOf 77 [u0, u1, u2, some (.inl x3), u4, u5] [] h Q := by
  refine Wb.ret (b_Model_swingsOf_77) ?_
  (first | exact q | (simp only [Option.getD_some]; exact q))
theorem n_Model_drawn {rod : Nat → Nat × (Nat → Int32)} {d : Nat} {Q : Option MV → MH → Prop} {x1 : Int32} {x2 : Int32} {x3 : Int32} {x4 : Int32} {h : MH} (k : Wb rod d B_Model_drawn 0 [some (.inr (.inr (.inl (some 84)))), some (.inl x1), some (.inl x2), some (.inl x3), some (.inl x4), none] [] h Q) : Wc rod (d + 1) 297 [.inr (.inr (.inl (some 84))), .inl x1, .inl x2, .inl x3, .inl x4] h Q := Wc.en (fun _ _ => e_Model_drawn) k
theorem w_Model_drawn_0 {rod : Nat → Nat × (Nat → Int32)} {d : Nat} {Q : Option MV → MH → Prop} {x1 : Int32} {u2 : Option MV} {u3 : Option MV} {u4 : Option MV} {u5 : Option MV} {h : MH} (L : Lay h.2)  {Q1 : Option MV → MH → Prop} (c : Wc rod d 219 [.inr (.inr (.inl (some 84))), .inl x1] h Q1) (k : ∀ r1 h2, Q1 r1 h2 → Wb rod d B_Model_drawn 5 [some (.inr (.inr (.inl (some 84)))), some (.inl x1), u2, u3, u4, u5] (r1.toList ++ []) h2 Q) : Wb rod d B_Model_drawn 0 [some (.inr (.inr (.inl (some 84)))), some (.inl x1), u2, u3, u4, u5] [] h Q := by
  refine Wb.call (fun _ _ _ _ => b_Model_drawn_0 (Lay.o84 L)) (Q1 := Q1) ?_ ?_
  · (first | exact c | (simp only [Option.getD_some]; exact c))
  · (first | exact k | (simp only [Option.getD_some]; exact k))
theorem w_Model_drawn_5 {rod : Nat → Nat × (Nat → Int32)} {d : Nat} {Q : Option MV → MH → Prop} {u0 : Option MV} {u1 : Option MV} {u2 : Option MV} {u3 : Option MV} {u4 : Option MV} {u5 : Option MV} {xs0 : Int32} {h : MH}   (k1 : xs0.toInt = 0 → Wb rod d B_Model_drawn 23 [u0, u1, u2, u3, u4, u5] [] h Q) (k2 : ¬ xs0.toInt = 0 → Wb rod d B_Model_drawn 8 [u0, u1, u2, u3, u4, u5] [] h Q) : Wb rod d B_Model_drawn 5 [u0, u1, u2, u3, u4, u5] [.inl xs0] h Q := by
  refine Wb.br (fun _ _ => b_Model_drawn_5) (fun c => ?_) (fun c => ?_)
  · have c : (decide (xs0 = 0)) = true := by first | exact c | (simp only [Option.getD_some] at c; exact c)
    (first | exact (k1 (c_eqt c)) | (simp only [Option.getD_some]; exact (k1 (c_eqt c))))
  · have c : (decide (xs0 = 0)) = false := by first | exact c | (simp only [Option.getD_some] at c; exact c)
    (first | exact (k2 (c_eqf c)) | (simp only [Option.getD_some]; exact (k2 (c_eqf c))))
theorem w_Model_drawn_8 {rod : Nat → Nat × (Nat → Int32)} {d : Nat} {Q : Option MV → MH → Prop} {u0 : Option MV} {u1 : Option MV} {u2 : Option MV} {x3 : Int32} {u4 : Option MV} {u5 : Option MV} {h : MH}   {Q1 : Option MV → MH → Prop} (c : Wc rod d 193 [.inl x3, .inl (0 : Int32), .inl (60 : Int32)] h Q1) (k : ∀ r1 h2, Q1 r1 h2 → Wb rod d B_Model_drawn 15 [u0, u1, u2, some (.inl x3), u4, u5] (r1.toList ++ []) h2 Q) : Wb rod d B_Model_drawn 8 [u0, u1, u2, some (.inl x3), u4, u5] [] h Q := by
  refine Wb.call (fun _ _ _ _ => b_Model_drawn_8) (Q1 := Q1) ?_ ?_
  · (first | exact c | (simp only [Option.getD_some]; exact c))
  · (first | exact k | (simp only [Option.getD_some]; exact k))
theorem w_Model_drawn_15 {rod : Nat → Nat × (Nat → Int32)} {d : Nat} {Q : Option MV → MH → Prop} {u0 : Option MV} {u1 : Option MV} {u2 : Option MV} {u3 : Option MV} {u4 : Option MV} {u5 : Option MV} {xs0 : Int32} {h : MH}   (k1 : xs0.toInt = 0 → Wb rod d B_Model_drawn 23 [u0, u1, u2, u3, u4, u5] [] h Q) (k2 : ¬ xs0.toInt = 0 → Wb rod d B_Model_drawn 18 [u0, u1, u2, u3, u4, u5] [] h Q) : Wb rod d B_Model_drawn 15 [u0, u1, u2, u3, u4, u5] [.inl xs0] h Q := by
  refine Wb.br (fun _ _ => b_Model_drawn_15) (fun c => ?_) (fun c => ?_)
  · have c : (decide (xs0 = 0)) = true := by first | exact c | (simp only [Option.getD_some] at c; exact c)
    (first | exact (k1 (c_eqt c)) | (simp only [Option.getD_some]; exact (k1 (c_eqt c))))
  · have c : (decide (xs0 = 0)) = false := by first | exact c | (simp only [Option.getD_some] at c; exact c)
    (first | exact (k2 (c_eqf c)) | (simp only [Option.getD_some]; exact (k2 (c_eqf c))))
theorem w_Model_drawn_18 {rod : Nat → Nat × (Nat → Int32)} {d : Nat} {Q : Option MV → MH → Prop} {u0 : Option MV} {u1 : Option MV} {u2 : Option MV} {u3 : Option MV} {x4 : Int32} {u5 : Option MV} {h : MH}   (k1 : 0 ≤ x4.toInt → Wb rod d B_Model_drawn 27 [u0, u1, u2, u3, some (.inl x4), u5] [] h Q) (k2 : ¬ 0 ≤ x4.toInt → Wb rod d B_Model_drawn 23 [u0, u1, u2, u3, some (.inl x4), u5] [] h Q) : Wb rod d B_Model_drawn 18 [u0, u1, u2, u3, some (.inl x4), u5] [] h Q := by
  refine Wb.br (fun _ _ => b_Model_drawn_18) (fun c => ?_) (fun c => ?_)
  · have c : (decide (0 ≤ x4)) = true := by first | exact c | (simp only [Option.getD_some] at c; exact c)
    (first | exact (k1 (c_let c)) | (simp only [Option.getD_some]; exact (k1 (c_let c))))
  · have c : (decide (0 ≤ x4)) = false := by first | exact c | (simp only [Option.getD_some] at c; exact c)
    (first | exact (k2 (c_lef c)) | (simp only [Option.getD_some]; exact (k2 (c_lef c))))
theorem w_Model_drawn_23 {rod : Nat → Nat × (Nat → Int32)} {d : Nat} {Q : Option MV → MH → Prop} {u0 : Option MV} {u1 : Option MV} {u2 : Option MV} {u3 : Option MV} {u4 : Option MV} {u5 : Option MV} {h : MH}   (q : Q (some (.inl (-1000 : Int32))) h) : Wb rod d B_Model_drawn 23 [u0, u1, u2, u3, u4, u5] [] h Q := by
  refine Wb.ret (b_Model_drawn_23) ?_
  (first | exact q | (simp only [Option.getD_some]; exact q))
theorem w_Model_drawn_27 {rod : Nat → Nat × (Nat → Int32)} {d : Nat} {Q : Option MV → MH → Prop} {u1 : Option MV} {x2 : Int32} {u3 : Option MV} {u4 : Option MV} {u5 : Option MV} {h : MH} (L : Lay h.2)  (k : Wb rod d B_Model_drawn 32 [some (.inr (.inr (.inl (some 84)))), u1, some (.inl x2), u3, u4, u5] [] (sI h 84 45 x2) Q) : Wb rod d B_Model_drawn 27 [some (.inr (.inr (.inl (some 84)))), u1, some (.inl x2), u3, u4, u5] [] h Q := by
  refine Wb.go (fun r hr q => b_Model_drawn_27 (Lay.o84 L) ?_) k
  (first | exact q | (simp only [Option.getD_some]; exact q))
theorem w_Model_drawn_32 {rod : Nat → Nat × (Nat → Int32)} {d : Nat} {Q : Option MV → MH → Prop} {u1 : Option MV} {u2 : Option MV} {u3 : Option MV} {u4 : Option MV} {u5 : Option MV} {h : MH} (L : Lay h.2)  {Q1 : Option MV → MH → Prop} (c : Wc rod d 233 [.inr (.inr (.inl (some 84)))] h Q1) (k : ∀ r1 h2, Q1 r1 h2 → Wb rod d B_Model_drawn 36 [some (.inr (.inr (.inl (some 84)))), u1, u2, u3, u4, u5] (r1.toList ++ []) h2 Q) : Wb rod d B_Model_drawn 32 [some (.inr (.inr (.inl (some 84)))), u1, u2, u3, u4, u5] [] h Q := by
  refine Wb.call (fun _ _ _ _ => b_Model_drawn_32 (Lay.o84 L)) (Q1 := Q1) ?_ ?_
  · (first | exact c | (simp only [Option.getD_some]; exact c))
  · (first | exact k | (simp only [Option.getD_some]; exact k))
theorem w_Model_drawn_36 {rod : Nat → Nat × (Nat → Int32)} {d : Nat} {Q : Option MV → MH → Prop} {u0 : Option MV} {u1 : Option MV} {u2 : Option MV} {u3 : Option MV} {u4 : Option MV} {u5 : Option MV} {h : MH}  (g0 : okl [u0, u1, u2, u3, u4, u5] 5 = true) (k : Wb rod d B_Model_drawn 39 [u0, u1, u2, u3, u4, some (.inl (0 : Int32))] [] h Q) : Wb rod d B_Model_drawn 36 [u0, u1, u2, u3, u4, u5] [] h Q := by
  refine Wb.go (fun r hr q => b_Model_drawn_36 g0 ?_) k
  (first | exact q | (simp only [Option.getD_some]; exact q))
theorem w_Model_drawn_39 {rod : Nat → Nat × (Nat → Int32)} {d : Nat} {Q : Option MV → MH → Prop} {u0 : Option MV} {u1 : Option MV} {u2 : Option MV} {x3 : Int32} {u4 : Option MV} {x5 : Int32} {h : MH}   (k1 : x3.toInt ≤ x5.toInt → Wb rod d B_Model_drawn 55 [u0, u1, u2, some (.inl x3), u4, some (.inl x5)] [] h Q) (k2 : ¬ x3.toInt ≤ x5.toInt → Wb rod d B_Model_drawn 45 [u0, u1, u2, some (.inl x3), u4, some (.inl x5)] [] h Q) : Wb rod d B_Model_drawn 39 [u0, u1, u2, some (.inl x3), u4, some (.inl x5)] [] h Q := by
  refine Wb.br (fun _ _ => b_Model_drawn_39) (fun c => ?_) (fun c => ?_)
  · have c : (decide (x3 ≤ x5)) = true := by first | exact c | (simp only [Option.getD_some] at c; exact c)
    (first | exact (k1 (c_let c)) | (simp only [Option.getD_some]; exact (k1 (c_let c))))
  · have c : (decide (x3 ≤ x5)) = false := by first | exact c | (simp only [Option.getD_some] at c; exact c)
    (first | exact (k2 (c_lef c)) | (simp only [Option.getD_some]; exact (k2 (c_lef c))))
theorem w_Model_drawn_45 {rod : Nat → Nat × (Nat → Int32)} {d : Nat} {Q : Option MV → MH → Prop} {u1 : Option MV} {u2 : Option MV} {u3 : Option MV} {u4 : Option MV} {u5 : Option MV} {h : MH} (L : Lay h.2)  {Q1 : Option MV → MH → Prop} (c : Wc rod d 298 [.inr (.inr (.inl (some 84)))] h Q1) (k : ∀ r1 h2, Q1 r1 h2 → Wb rod d B_Model_drawn 49 [some (.inr (.inr (.inl (some 84)))), u1, u2, u3, u4, u5] (r1.toList ++ []) h2 Q) : Wb rod d B_Model_drawn 45 [some (.inr (.inr (.inl (some 84)))), u1, u2, u3, u4, u5] [] h Q := by
  refine Wb.call (fun _ _ _ _ => b_Model_drawn_45 (Lay.o84 L)) (Q1 := Q1) ?_ ?_
  · (first | exact c | (simp only [Option.getD_some]; exact c))
  · (first | exact k | (simp only [Option.getD_some]; exact k))
theorem w_Model_drawn_49 {rod : Nat → Nat × (Nat → Int32)} {d : Nat} {Q : Option MV → MH → Prop} {u0 : Option MV} {u1 : Option MV} {u2 : Option MV} {u3 : Option MV} {u4 : Option MV} {x5 : Int32} {h : MH}  (g0 : okl [u0, u1, u2, u3, u4, some (.inl x5)] 5 = true) (k : Wb rod d B_Model_drawn 39 [u0, u1, u2, u3, u4, some (.inl (x5 + 1))] [] h Q) : Wb rod d B_Model_drawn 49 [u0, u1, u2, u3, u4, some (.inl x5)] [] h Q := by
  refine Wb.go (fun r hr q => b_Model_drawn_49 g0 ?_) k
  (first | exact q | (simp only [Option.getD_some]; exact q))
theorem w_Model_drawn_55 {rod : Nat → Nat × (Nat → Int32)} {d : Nat} {Q : Option MV → MH → Prop} {u1 : Option MV} {u2 : Option MV} {u3 : Option MV} {x4 : Int32} {u5 : Option MV} {h : MH} (L : Lay h.2)  {Q1 : Option MV → MH → Prop} (c : Wc rod d 241 [.inr (.inr (.inl (some 84))), .inl x4] h Q1) (k : ∀ r1 h2, Q1 r1 h2 → Wb rod d B_Model_drawn 61 [some (.inr (.inr (.inl (some 84)))), u1, u2, u3, some (.inl x4), u5] (r1.toList ++ []) h2 Q) : Wb rod d B_Model_drawn 55 [some (.inr (.inr (.inl (some 84)))), u1, u2, u3, some (.inl x4), u5] [] h Q := by
  refine Wb.call (fun _ _ _ _ => b_Model_drawn_55 (Lay.o84 L)) (Q1 := Q1) ?_ ?_
  · (first | exact c | (simp only [Option.getD_some]; exact c))
  · (first | exact k | (simp only [Option.getD_some]; exact k))
theorem w_Model_drawn_61 {rod : Nat → Nat × (Nat → Int32)} {d : Nat} {Q : Option MV → MH → Prop} {u0 : Option MV} {u1 : Option MV} {u2 : Option MV} {u3 : Option MV} {u4 : Option MV} {u5 : Option MV} {xs0 : Int32} {h : MH}   (q : Q (some (.inl xs0)) h) : Wb rod d B_Model_drawn 61 [u0, u1, u2, u3, u4, u5] [.inl xs0] h Q := by
  refine Wb.ret (b_Model_drawn_61) ?_
  (first | exact q | (simp only [Option.getD_some]; exact q))
theorem n_Model_draws {rod : Nat → Nat × (Nat → Int32)} {d : Nat} {Q : Option MV → MH → Prop}  {h : MH} (k : Wb rod d B_Model_draws 0 [some (.inr (.inr (.inl (some 84)))), none, none] [] h Q) : Wc rod (d + 1) 298 [.inr (.inr (.inl (some 84)))] h Q := Wc.en (fun _ _ => e_Model_draws) k
theorem w_Model_draws_0 {rod : Nat → Nat × (Nat → Int32)} {d : Nat} {Q : Option MV → MH → Prop} {u1 : Option MV} {u2 : Option MV} {h : MH} (L : Lay h.2)  {Q1 : Option MV → MH → Prop} (c : Wc rod d 299 [.inr (.inr (.inl (some 84))), .inl (8 : Int32)] h Q1) (k : ∀ r1 h2, Q1 r1 h2 → Wb rod d B_Model_draws 6 [some (.inr (.inr (.inl (some 84)))), u1, u2] (r1.toList ++ []) h2 Q) : Wb rod d B_Model_draws 0 [some (.inr (.inr (.inl (some 84)))), u1, u2] [] h Q := by
  refine Wb.call (fun _ _ _ _ => b_Model_draws_0 (Lay.o84 L)) (Q1 := Q1) ?_ ?_
  · (first | exact c | (simp only [Option.getD_some]; exact c))
  · (first | exact k | (simp only [Option.getD_some]; exact k))
theorem w_Model_draws_6 {rod : Nat → Nat × (Nat → Int32)} {d : Nat} {Q : Option MV → MH → Prop} {u0 : Option MV} {u1 : Option MV} {u2 : Option MV} {xs0 : Int32} {h : MH}  (g0 : okl [u0, u1, u2] 1 = true) (k1 : ¬ xs0.toInt = 0 → Wb rod d B_Model_draws 29 [u0, some (.inl xs0), u2] [] h Q) (k2 : xs0.toInt = 0 → Wb rod d B_Model_draws 11 [u0, some (.inl xs0), u2] [] h Q) : Wb rod d B_Model_draws 6 [u0, u1, u2] [.inl xs0] h Q := by
  refine Wb.br (fun _ _ => b_Model_draws_6 g0) (fun c => ?_) (fun c => ?_)
  · have c : (!(decide (xs0 = 0))) = true := by first | exact c | (simp only [Option.getD_some] at c; exact c)
    (first | exact (k1 (c_net c)) | (simp only [Option.getD_some]; exact (k1 (c_net c))))
  · have c : (!(decide (xs0 = 0))) = false := by first | exact c | (simp only [Option.getD_some] at c; exact c)
    (first | exact (k2 (c_nef c)) | (simp only [Option.getD_some]; exact (k2 (c_nef c))))
theorem w_Model_draws_11 {rod : Nat → Nat × (Nat → Int32)} {d : Nat} {Q : Option MV → MH → Prop} {u1 : Option MV} {u2 : Option MV} {h : MH} (L : Lay h.2)  {Q1 : Option MV → MH → Prop} (c : Wc rod d 299 [.inr (.inr (.inl (some 84))), .inl (h.1 84 13)] h Q1) (k : ∀ r1 h2, Q1 r1 h2 → Wb rod d B_Model_draws 21 [some (.inr (.inr (.inl (some 84)))), u1, u2] (r1.toList ++ [.inl (2 : Int32), .inr (.inr (.inl (some 84)))]) h2 Q) : Wb rod d B_Model_draws 11 [some (.inr (.inr (.inl (some 84)))), u1, u2] [] h Q := by
  refine Wb.call (fun _ _ _ _ => b_Model_draws_11 (Lay.o84 L)) (Q1 := Q1) ?_ ?_
  · (first | exact c | (simp only [Option.getD_some]; exact c))
  · (first | exact k | (simp only [Option.getD_some]; exact k))
theorem w_Model_draws_21 {rod : Nat → Nat × (Nat → Int32)} {d : Nat} {Q : Option MV → MH → Prop} {u0 : Option MV} {u1 : Option MV} {u2 : Option MV} {xs1 : Int32} {xs2 : Int32} {h : MH} (L : Lay h.2)  {Q1 : Option MV → MH → Prop} (c : Wc rod d 234 [.inr (.inr (.inl (some 84))), .inl xs1, .inl xs2, .inl (-1 : Int32)] h Q1) (k : ∀ r1 h2, Q1 r1 h2 → Wb rod d B_Model_draws 25 [u0, u1, u2] (r1.toList ++ []) h2 Q) : Wb rod d B_Model_draws 21 [u0, u1, u2] [.inl xs2, .inl xs1, .inr (.inr (.inl (some 84)))] h Q := by
  refine Wb.call (fun _ _ _ _ => b_Model_draws_21 (Lay.o84 L)) (Q1 := Q1) ?_ ?_
  · (first | exact c | (simp only [Option.getD_some]; exact c))
  · (first | exact k | (simp only [Option.getD_some]; exact k))
theorem w_Model_draws_25 {rod : Nat → Nat × (Nat → Int32)} {d : Nat} {Q : Option MV → MH → Prop} {u0 : Option MV} {u1 : Option MV} {u2 : Option MV} {xs0 : Int32} {h : MH}   (k : Wb rod d B_Model_draws 108 [u0, u1, u2] [] h Q) : Wb rod d B_Model_draws 25 [u0, u1, u2] [.inl xs0] h Q := by
  refine Wb.go (fun r hr q => b_Model_draws_25 ?_) k
  (first | exact q | (simp only [Option.getD_some]; exact q))
theorem w_Model_draws_29 {rod : Nat → Nat × (Nat → Int32)} {d : Nat} {Q : Option MV → MH → Prop} {u0 : Option MV} {x1 : Int32} {u2 : Option MV} {h : MH}   (k1 : x1.toInt ≤ 5 → Wb rod d B_Model_draws 47 [u0, some (.inl x1), u2] [] h Q) (k2 : ¬ x1.toInt ≤ 5 → Wb rod d B_Model_draws 34 [u0, some (.inl x1), u2] [] h Q) : Wb rod d B_Model_draws 29 [u0, some (.inl x1), u2] [] h Q := by
  refine Wb.br (fun _ _ => b_Model_draws_29) (fun c => ?_) (fun c => ?_)
  · have c : (decide (x1 ≤ (5 : Int32))) = true := by first | exact c | (simp only [Option.getD_some] at c; exact c)
    (first | exact (k1 (c_let c)) | (simp only [Option.getD_some]; exact (k1 (c_let c))))
  · have c : (decide (x1 ≤ (5 : Int32))) = false := by first | exact c | (simp only [Option.getD_some] at c; exact c)
    (first | exact (k2 (c_lef c)) | (simp only [Option.getD_some]; exact (k2 (c_lef c))))
theorem w_Model_draws_34 {rod : Nat → Nat × (Nat → Int32)} {d : Nat} {Q : Option MV → MH → Prop} {x1 : Int32} {u2 : Option MV} {h : MH} (L : Lay h.2)  {Q1 : Option MV → MH → Prop} (c : Wc rod d 234 [.inr (.inr (.inl (some 84))), .inl (x1 - (1 : Int32)), .inl (-1 : Int32), .inl (-1 : Int32)] h Q1) (k : ∀ r1 h2, Q1 r1 h2 → Wb rod d B_Model_draws 43 [some (.inr (.inr (.inl (some 84)))), some (.inl x1), u2] (r1.toList ++ []) h2 Q) : Wb rod d B_Model_draws 34 [some (.inr (.inr (.inl (some 84)))), some (.inl x1), u2] [] h Q := by
  refine Wb.call (fun _ _ _ _ => b_Model_draws_34 (Lay.o84 L)) (Q1 := Q1) ?_ ?_
  · (first | exact c | (simp only [Option.getD_some]; exact c))
  · (first | exact k | (simp only [Option.getD_some]; exact k))
theorem w_Model_draws_43 {rod : Nat → Nat × (Nat → Int32)} {d : Nat} {Q : Option MV → MH → Prop} {u0 : Option MV} {u1 : Option MV} {u2 : Option MV} {xs0 : Int32} {h : MH}   (k : Wb rod d B_Model_draws 108 [u0, u1, u2] [] h Q) : Wb rod d B_Model_draws 43 [u0, u1, u2] [.inl xs0] h Q := by
  refine Wb.go (fun r hr q => b_Model_draws_43 ?_) k
  (first | exact q | (simp only [Option.getD_some]; exact q))
theorem w_Model_draws_47 {rod : Nat → Nat × (Nat → Int32)} {d : Nat} {Q : Option MV → MH → Prop} {u1 : Option MV} {u2 : Option MV} {h : MH} (L : Lay h.2)  (k1 : (h.1 84 14).toInt ≤ 0 → Wb rod d B_Model_draws 108 [some (.inr (.inr (.inl (some 84)))), u1, u2] [] h Q) (k2 : ¬ (h.1 84 14).toInt ≤ 0 → Wb rod d B_Model_draws 54 [some (.inr (.inr (.inl (some 84)))), u1, u2] [] h Q) : Wb rod d B_Model_draws 47 [some (.inr (.inr (.inl (some 84)))), u1, u2] [] h Q := by
  refine Wb.br (fun _ _ => b_Model_draws_47 (Lay.o84 L)) (fun c => ?_) (fun c => ?_)
  · have c : (decide ((h.1 84 14) ≤ 0)) = true := by first | exact c | (simp only [Option.getD_some] at c; exact c)
    (first | exact (k1 (c_let c)) | (simp only [Option.getD_some]; exact (k1 (c_let c))))
  · have c : (decide ((h.1 84 14) ≤ 0)) = false := by first | exact c | (simp only [Option.getD_some] at c; exact c)
    (first | exact (k2 (c_lef c)) | (simp only [Option.getD_some]; exact (k2 (c_lef c))))
theorem w_Model_draws_54 {rod : Nat → Nat × (Nat → Int32)} {d : Nat} {Q : Option MV → MH → Prop} {u1 : Option MV} {u2 : Option MV} {h : MH} (L : Lay h.2)  {Q1 : Option MV → MH → Prop} (c : Wc rod d 299 [.inr (.inr (.inl (some 84))), .inl (h.1 84 14)] h Q1) (k : ∀ r1 h2, Q1 r1 h2 → Wb rod d B_Model_draws 62 [some (.inr (.inr (.inl (some 84)))), u1, u2] (r1.toList ++ []) h2 Q) : Wb rod d B_Model_draws 54 [some (.inr (.inr (.inl (some 84)))), u1, u2] [] h Q := by
  refine Wb.call (fun _ _ _ _ => b_Model_draws_54 (Lay.o84 L)) (Q1 := Q1) ?_ ?_
  · (first | exact c | (simp only [Option.getD_some]; exact c))
  · (first | exact k | (simp only [Option.getD_some]; exact k))
theorem w_Model_draws_62 {rod : Nat → Nat × (Nat → Int32)} {d : Nat} {Q : Option MV → MH → Prop} {u0 : Option MV} {x1 : Int32} {u2 : Option MV} {xs0 : Int32} {h : MH}   (k1 : ¬ x1.toInt = 5 → Wb rod d B_Model_draws 86 [u0, some (.inl x1), some (.inl xs0)] [] h Q) (k2 : x1.toInt = 5 → Wb rod d B_Model_draws 68 [u0, some (.inl x1), some (.inl xs0)] [] h Q) : Wb rod d B_Model_draws 62 [u0, some (.inl x1), u2] [.inl xs0] h Q := by
  refine Wb.br (fun _ _ => b_Model_draws_62) (fun c => ?_) (fun c => ?_)
  · have c : (!(decide (x1 = (5 : Int32)))) = true := by first | exact c | (simp only [Option.getD_some] at c; exact c)
    (first | exact (k1 (c_net c)) | (simp only [Option.getD_some]; exact (k1 (c_net c))))
  · have c : (!(decide (x1 = (5 : Int32)))) = false := by first | exact c | (simp only [Option.getD_some] at c; exact c)
    (first | exact (k2 (c_nef c)) | (simp only [Option.getD_some]; exact (k2 (c_nef c))))
theorem w_Model_draws_68 {rod : Nat → Nat × (Nat → Int32)} {d : Nat} {Q : Option MV → MH → Prop} {u1 : Option MV} {x2 : Int32} {h : MH} (L : Lay h.2)  {Q1 : Option MV → MH → Prop} (c : Wc rod d 299 [.inr (.inr (.inl (some 84))), .inl (9 : Int32)] h Q1) (k : ∀ r1 h2, Q1 r1 h2 → Wb rod d B_Model_draws 78 [some (.inr (.inr (.inl (some 84)))), u1, some (.inl x2)] (r1.toList ++ [.inl (1 : Int32), .inl x2, .inl (1 : Int32), .inr (.inr (.inl (some 84)))]) h2 Q) : Wb rod d B_Model_draws 68 [some (.inr (.inr (.inl (some 84)))), u1, some (.inl x2)] [] h Q := by
  refine Wb.call (fun _ _ _ _ => b_Model_draws_68 (Lay.o84 L)) (Q1 := Q1) ?_ ?_
  · (first | exact c | (simp only [Option.getD_some]; exact c))
  · (first | exact k | (simp only [Option.getD_some]; exact k))
theorem w_Model_draws_78 {rod : Nat → Nat × (Nat → Int32)} {d : Nat} {Q : Option MV → MH → Prop} {u0 : Option MV} {u1 : Option MV} {u2 : Option MV} {xs1 : Int32} {xs2 : Int32} {xs3 : Int32} {xs4 : Int32} {h : MH} (L : Lay h.2)  {Q1 : Option MV → MH → Prop} (c : Wc rod d 234 [.inr (.inr (.inl (some 84))), .inl xs1, .inl xs2, .inl (xs3 + xs4)] h Q1) (k : ∀ r1 h2, Q1 r1 h2 → Wb rod d B_Model_draws 82 [u0, u1, u2] (r1.toList ++ []) h2 Q) : Wb rod d B_Model_draws 78 [u0, u1, u2] [.inl xs4, .inl xs3, .inl xs2, .inl xs1, .inr (.inr (.inl (some 84)))] h Q := by
  refine Wb.call (fun _ _ _ _ => b_Model_draws_78 (Lay.o84 L)) (Q1 := Q1) ?_ ?_
  · (first | exact c | (simp only [Option.getD_some]; exact c))
  · (first | exact k | (simp only [Option.getD_some]; exact k))
theorem w_Model_draws_82 {rod : Nat → Nat × (Nat → Int32)} {d : Nat} {Q : Option MV → MH → Prop} {u0 : Option MV} {u1 : Option MV} {u2 : Option MV} {xs0 : Int32} {h : MH}   (k : Wb rod d B_Model_draws 108 [u0, u1, u2] [] h Q) : Wb rod d B_Model_draws 82 [u0, u1, u2] [.inl xs0] h Q := by
  refine Wb.go (fun r hr q => b_Model_draws_82 ?_) k
  (first | exact q | (simp only [Option.getD_some]; exact q))
theorem w_Model_draws_86 {rod : Nat → Nat × (Nat → Int32)} {d : Nat} {Q : Option MV → MH → Prop} {u1 : Option MV} {u2 : Option MV} {h : MH} (L : Lay h.2)  (k1 : (h.1 84 15).toInt ≤ 0 → Wb rod d B_Model_draws 108 [some (.inr (.inr (.inl (some 84)))), u1, u2] [] h Q) (k2 : ¬ (h.1 84 15).toInt ≤ 0 → Wb rod d B_Model_draws 93 [some (.inr (.inr (.inl (some 84)))), u1, u2] [] h Q) : Wb rod d B_Model_draws 86 [some (.inr (.inr (.inl (some 84)))), u1, u2] [] h Q := by
  refine Wb.br (fun _ _ => b_Model_draws_86 (Lay.o84 L)) (fun c => ?_) (fun c => ?_)
  · have c : (decide ((h.1 84 15) ≤ 0)) = true := by first | exact c | (simp only [Option.getD_some] at c; exact c)
    (first | exact (k1 (c_let c)) | (simp only [Option.getD_some]; exact (k1 (c_let c))))
  · have c : (decide ((h.1 84 15) ≤ 0)) = false := by first | exact c | (simp only [Option.getD_some] at c; exact c)
    (first | exact (k2 (c_lef c)) | (simp only [Option.getD_some]; exact (k2 (c_lef c))))
theorem w_Model_draws_93 {rod : Nat → Nat × (Nat → Int32)} {d : Nat} {Q : Option MV → MH → Prop} {u1 : Option MV} {x2 : Int32} {h : MH} (L : Lay h.2)  {Q1 : Option MV → MH → Prop} (c : Wc rod d 299 [.inr (.inr (.inl (some 84))), .inl (h.1 84 15)] h Q1) (k : ∀ r1 h2, Q1 r1 h2 → Wb rod d B_Model_draws 104 [some (.inr (.inr (.inl (some 84)))), u1, some (.inl x2)] (r1.toList ++ [.inl x2, .inl (0 : Int32), .inr (.inr (.inl (some 84)))]) h2 Q) : Wb rod d B_Model_draws 93 [some (.inr (.inr (.inl (some 84)))), u1, some (.inl x2)] [] h Q := by
  refine Wb.call (fun _ _ _ _ => b_Model_draws_93 (Lay.o84 L)) (Q1 := Q1) ?_ ?_
  · (first | exact c | (simp only [Option.getD_some]; exact c))
  · (first | exact k | (simp only [Option.getD_some]; exact k))
theorem w_Model_draws_104 {rod : Nat → Nat × (Nat → Int32)} {d : Nat} {Q : Option MV → MH → Prop} {u0 : Option MV} {u1 : Option MV} {u2 : Option MV} {xs1 : Int32} {xs2 : Int32} {xs3 : Int32} {h : MH} (L : Lay h.2)  {Q1 : Option MV → MH → Prop} (c : Wc rod d 234 [.inr (.inr (.inl (some 84))), .inl xs1, .inl xs2, .inl xs3] h Q1) (k : ∀ r1 h2, Q1 r1 h2 → Wb rod d B_Model_draws 107 [u0, u1, u2] (r1.toList ++ []) h2 Q) : Wb rod d B_Model_draws 104 [u0, u1, u2] [.inl xs3, .inl xs2, .inl xs1, .inr (.inr (.inl (some 84)))] h Q := by
  refine Wb.call (fun _ _ _ _ => b_Model_draws_104 (Lay.o84 L)) (Q1 := Q1) ?_ ?_
  · (first | exact c | (simp only [Option.getD_some]; exact c))
  · (first | exact k | (simp only [Option.getD_some]; exact k))
theorem w_Model_draws_107 {rod : Nat → Nat × (Nat → Int32)} {d : Nat} {Q : Option MV → MH → Prop} {u0 : Option MV} {u1 : Option MV} {u2 : Option MV} {xs0 : Int32} {h : MH}   (k : Wb rod d B_Model_draws 108 [u0, u1, u2] [] h Q) : Wb rod d B_Model_draws 107 [u0, u1, u2] [.inl xs0] h Q := by
  refine Wb.go (fun r hr q => b_Model_draws_107 ?_) k
  (first | exact q | (simp only [Option.getD_some]; exact q))
theorem w_Model_draws_108 {rod : Nat → Nat × (Nat → Int32)} {d : Nat} {Q : Option MV → MH → Prop} {u0 : Option MV} {u1 : Option MV} {u2 : Option MV} {h : MH}   (q : Q (none) h) : Wb rod d B_Model_draws 108 [u0, u1, u2] [] h Q := by
  refine Wb.ret (b_Model_draws_108) ?_
  (first | exact q | (simp only [Option.getD_some]; exact q))
theorem n_Model_below {rod : Nat → Nat × (Nat → Int32)} {d : Nat} {Q : Option MV → MH → Prop} {x1 : Int32} {h : MH} (k : Wb rod d B_Model_below 0 [some (.inr (.inr (.inl (some 84)))), some (.inl x1)] [] h Q) : Wc rod (d + 1) 299 [.inr (.inr (.inl (some 84))), .inl x1] h Q := Wc.en (fun _ _ => e_Model_below) k
theorem w_Model_below_0 {rod : Nat → Nat × (Nat → Int32)} {d : Nat} {Q : Option MV → MH → Prop} {u1 : Option MV} {h : MH} (L : Lay h.2)  (k : Wb rod d B_Model_below 16 [some (.inr (.inr (.inl (some 84)))), u1] [] (sI h 84 45 (((h.1 84 45) * (1103515245 : Int32)) + (12345 : Int32))) Q) : Wb rod d B_Model_below 0 [some (.inr (.inr (.inl (some 84)))), u1] [] h Q := by
  refine Wb.go (fun r hr q => b_Model_below_0 (Lay.o84 L) ?_) k
  (first | exact q | (simp only [Option.getD_some]; exact q))
theorem w_Model_below_16 {rod : Nat → Nat × (Nat → Int32)} {d : Nat} {Q : Option MV → MH → Prop} {x1 : Int32} {h : MH} (L : Lay h.2) (g0 : x1 ≠ 0) (q : Q (some (.inl ((((h.1 84 45).toUInt32 >>> ((16 : Int32).toUInt32 &&& Int32.toUInt32 31)).toInt32) - (((h.1 84 45).toUInt32 >>> ((16 : Int32).toUInt32 &&& Int32.toUInt32 31)).toInt32) / x1 * x1))) h) : Wb rod d B_Model_below 16 [some (.inr (.inr (.inl (some 84)))), some (.inl x1)] [] h Q := by
  refine Wb.ret (b_Model_below_16 (Lay.o84 L) (ndec g0)) ?_
  (first | exact q | (simp only [Option.getD_some]; exact q))
theorem n_Model_count {rod : Nat → Nat × (Nat → Int32)} {d : Nat} {Q : Option MV → MH → Prop} {x1 : Int32} {h : MH} (k : Wb rod d B_Model_count 0 [some (.inr (.inr (.inl (some 84)))), some (.inl x1)] [] h Q) : Wc rod (d + 1) 300 [.inr (.inr (.inl (some 84))), .inl x1] h Q := Wc.en (fun _ _ => e_Model_count) k
theorem w_Model_count_0 {rod : Nat → Nat × (Nat → Int32)} {d : Nat} {Q : Option MV → MH → Prop} {u0 : Option MV} {x1 : Int32} {h : MH}   {Q1 : Option MV → MH → Prop} (c : Wc rod d 193 [.inl x1, .inl (0 : Int32), .inl (3 : Int32)] h Q1) (k : ∀ r1 h2, Q1 r1 h2 → Wb rod d B_Model_count 6 [u0, some (.inl x1)] (r1.toList ++ []) h2 Q) : Wb rod d B_Model_count 0 [u0, some (.inl x1)] [] h Q := by
  refine Wb.call (fun _ _ _ _ => b_Model_count_0) (Q1 := Q1) ?_ ?_
  · (first | exact c | (simp only [Option.getD_some]; exact c))
  · (first | exact k | (simp only [Option.getD_some]; exact k))
theorem w_Model_count_6 {rod : Nat → Nat × (Nat → Int32)} {d : Nat} {Q : Option MV → MH → Prop} {u0 : Option MV} {u1 : Option MV} {xs0 : Int32} {h : MH}   (k1 : xs0.toInt = 0 → Wb rod d B_Model_count 18 [u0, u1] [] h Q) (k2 : ¬ xs0.toInt = 0 → Wb rod d B_Model_count 9 [u0, u1] [] h Q) : Wb rod d B_Model_count 6 [u0, u1] [.inl xs0] h Q := by
  refine Wb.br (fun _ _ => b_Model_count_6) (fun c => ?_) (fun c => ?_)
  · have c : (decide (xs0 = 0)) = true := by first | exact c | (simp only [Option.getD_some] at c; exact c)
    (first | exact (k1 (c_eqt c)) | (simp only [Option.getD_some]; exact (k1 (c_eqt c))))
  · have c : (decide (xs0 = 0)) = false := by first | exact c | (simp only [Option.getD_some] at c; exact c)
    (first | exact (k2 (c_eqf c)) | (simp only [Option.getD_some]; exact (k2 (c_eqf c))))
theorem w_Model_count_9 {rod : Nat → Nat × (Nat → Int32)} {d : Nat} {Q : Option MV → MH → Prop} {x1 : Int32} {h : MH} (L : Lay h.2) (g0 : 0 ≤ x1.toInt ∧ x1.toInt < 4584) (k : Wb rod d B_Model_count 20 [some (.inr (.inr (.inl (some 84)))), some (.inl x1)] [.inl (h.1 85 x1.toNatClampNeg)] h Q) : Wb rod d B_Model_count 9 [some (.inr (.inr (.inl (some 84)))), some (.inl x1)] [] h Q := by
  refine Wb.go (fun r hr q => b_Model_count_9 (Lay.o84 L) (Lay.a84_0 L g0) ?_) k
  (first | exact q | (simp only [Option.getD_some, (Lay.r84_0 L)]; exact q))
theorem w_Model_count_18 {rod : Nat → Nat × (Nat → Int32)} {d : Nat} {Q : Option MV → MH → Prop} {u0 : Option MV} {u1 : Option MV} {h : MH}   (k : Wb rod d B_Model_count 20 [u0, u1] [.inl (-2 : Int32)] h Q) : Wb rod d B_Model_count 18 [u0, u1] [] h Q := by
  refine Wb.go (fun r hr q => b_Model_count_18 ?_) k
  (first | exact q | (simp only [Option.getD_some]; exact q))
theorem w_Model_count_20 {rod : Nat → Nat × (Nat → Int32)} {d : Nat} {Q : Option MV → MH → Prop} {u0 : Option MV} {u1 : Option MV} {xs0 : Int32} {h : MH}   (q : Q (some (.inl xs0)) h) : Wb rod d B_Model_count 20 [u0, u1] [.inl xs0] h Q := by
  refine Wb.ret (b_Model_count_20) ?_
  (first | exact q | (simp only [Option.getD_some]; exact q))
theorem n_Model_image {rod : Nat → Nat × (Nat → Int32)} {d : Nat} {Q : Option MV → MH → Prop} {x1 : Int32} {h : MH} (k : Wb rod d B_Model_image 0 [some (.inr (.inr (.inl (some 84)))), some (.inl x1), none] [] h Q) : Wc rod (d + 1) 301 [.inr (.inr (.inl (some 84))), .inl x1] h Q := Wc.en (fun _ _ => e_Model_image) k
theorem w_Model_image_0 {rod : Nat → Nat × (Nat → Int32)} {d : Nat} {Q : Option MV → MH → Prop} {u0 : Option MV} {x1 : Int32} {u2 : Option MV} {h : MH}   {Q1 : Option MV → MH → Prop} (c : Wc rod d 193 [.inl x1, .inl (0 : Int32), .inl (2 : Int32)] h Q1) (k : ∀ r1 h2, Q1 r1 h2 → Wb rod d B_Model_image 6 [u0, some (.inl x1), u2] (r1.toList ++ []) h2 Q) : Wb rod d B_Model_image 0 [u0, some (.inl x1), u2] [] h Q := by
  refine Wb.call (fun _ _ _ _ => b_Model_image_0) (Q1 := Q1) ?_ ?_
  · (first | exact c | (simp only [Option.getD_some]; exact c))
  · (first | exact k | (simp only [Option.getD_some]; exact k))
theorem w_Model_image_6 {rod : Nat → Nat × (Nat → Int32)} {d : Nat} {Q : Option MV → MH → Prop} {u0 : Option MV} {u1 : Option MV} {u2 : Option MV} {xs0 : Int32} {h : MH}   (k1 : ¬ xs0.toInt = 0 → Wb rod d B_Model_image 11 [u0, u1, u2] [] h Q) (k2 : xs0.toInt = 0 → Wb rod d B_Model_image 9 [u0, u1, u2] [] h Q) : Wb rod d B_Model_image 6 [u0, u1, u2] [.inl xs0] h Q := by
  refine Wb.br (fun _ _ => b_Model_image_6) (fun c => ?_) (fun c => ?_)
  · have c : (!(decide (xs0 = 0))) = true := by first | exact c | (simp only [Option.getD_some] at c; exact c)
    (first | exact (k1 (c_net c)) | (simp only [Option.getD_some]; exact (k1 (c_net c))))
  · have c : (!(decide (xs0 = 0))) = false := by first | exact c | (simp only [Option.getD_some] at c; exact c)
    (first | exact (k2 (c_nef c)) | (simp only [Option.getD_some]; exact (k2 (c_nef c))))
theorem w_Model_image_9 {rod : Nat → Nat × (Nat → Int32)} {d : Nat} {Q : Option MV → MH → Prop} {u0 : Option MV} {u1 : Option MV} {u2 : Option MV} {h : MH}   (q : Q (some (.inl (0 : Int32))) h) : Wb rod d B_Model_image 9 [u0, u1, u2] [] h Q := by
  refine Wb.ret (b_Model_image_9) ?_
  (first | exact q | (simp only [Option.getD_some]; exact q))
theorem w_Model_image_11 {rod : Nat → Nat × (Nat → Int32)} {d : Nat} {Q : Option MV → MH → Prop} {x1 : Int32} {u2 : Option MV} {h : MH} (L : Lay h.2) (g0 : 0 ≤ x1.toInt ∧ x1.toInt < 3) (k : Wb rod d B_Model_image 18 [some (.inr (.inr (.inl (some 84)))), some (.inl x1), u2] [] (sI h 86 x1.toNatClampNeg (1 : Int32)) Q) : Wb rod d B_Model_image 11 [some (.inr (.inr (.inl (some 84)))), some (.inl x1), u2] [] h Q := by
  refine Wb.go (fun r hr q => b_Model_image_11 (Lay.o84 L) (Lay.a84_1 L g0) ?_) k
  (first | exact q | (simp only [Option.getD_some, (Lay.r84_1 L)]; exact q))
theorem w_Model_image_18 {rod : Nat → Nat × (Nat → Int32)} {d : Nat} {Q : Option MV → MH → Prop} {u0 : Option MV} {u1 : Option MV} {u2 : Option MV} {h : MH}  (g0 : okl [u0, u1, u2] 2 = true) (k : Wb rod d B_Model_image 20 [u0, u1, some (.inl (0 : Int32))] [] h Q) : Wb rod d B_Model_image 18 [u0, u1, u2] [] h Q := by
  refine Wb.go (fun r hr q => b_Model_image_18 g0 ?_) k
  (first | exact q | (simp only [Option.getD_some]; exact q))
theorem w_Model_image_20 {rod : Nat → Nat × (Nat → Int32)} {d : Nat} {Q : Option MV → MH → Prop} {u0 : Option MV} {u1 : Option MV} {x2 : Int32} {h : MH}   (k1 : 1146 ≤ x2.toInt → Wb rod d B_Model_image 53 [u0, u1, some (.inl x2)] [] h Q) (k2 : ¬ 1146 ≤ x2.toInt → Wb rod d B_Model_image 27 [u0, u1, some (.inl x2)] [] h Q) : Wb rod d B_Model_image 20 [u0, u1, some (.inl x2)] [] h Q := by
  refine Wb.br (fun _ _ => b_Model_image_20) (fun c => ?_) (fun c => ?_)
  · have c : (decide ((1146 : Int32) ≤ x2)) = true := by first | exact c | (simp only [Option.getD_some] at c; exact c)
    (first | exact (k1 (c_let c)) | (simp only [Option.getD_some]; exact (k1 (c_let c))))
  · have c : (decide ((1146 : Int32) ≤ x2)) = false := by first | exact c | (simp only [Option.getD_some] at c; exact c)
    (first | exact (k2 (c_lef c)) | (simp only [Option.getD_some]; exact (k2 (c_lef c))))
theorem w_Model_image_27 {rod : Nat → Nat × (Nat → Int32)} {d : Nat} {Q : Option MV → MH → Prop} {x1 : Int32} {x2 : Int32} {h : MH} (L : Lay h.2) (g0 : 0 ≤ x2.toInt ∧ x2.toInt < 4584) (g1 : 0 ≤ (((1146 : Int32) * (x1 + (1 : Int32))) + x2).toInt ∧ (((1146 : Int32) * (x1 + (1 : Int32))) + x2).toInt < 4584) (k : Wb rod d B_Model_image 47 [some (.inr (.inr (.inl (some 84)))), some (.inl x1), some (.inl x2)] [] (sI h 85 (((1146 : Int32) * (x1 + (1 : Int32))) + x2).toNatClampNeg (h.1 85 x2.toNatClampNeg)) Q) : Wb rod d B_Model_image 27 [some (.inr (.inr (.inl (some 84)))), some (.inl x1), some (.inl x2)] [] h Q := by
  refine Wb.go (fun r hr q => b_Model_image_27 (Lay.o84 L) (Lay.a84_0 L g0) (Lay.a84_0 L g1) ?_) k
  (first | exact q | (simp only [Option.getD_some, (Lay.r84_0 L)]; exact q))
theorem w_Model_image_47 {rod : Nat → Nat × (Nat → Int32)} {d : Nat} {Q : Option MV → MH → Prop} {u0 : Option MV} {u1 : Option MV} {x2 : Int32} {h : MH}  (g0 : okl [u0, u1, some (.inl x2)] 2 = true) (k : Wb rod d B_Model_image 20 [u0, u1, some (.inl (x2 + 1))] [] h Q) : Wb rod d B_Model_image 47 [u0, u1, some (.inl x2)] [] h Q := by
  refine Wb.go (fun r hr q => b_Model_image_47 g0 ?_) k
  (first | exact q | (simp only [Option.getD_some]; exact q))
theorem w_Model_image_53 {rod : Nat → Nat × (Nat → Int32)} {d : Nat} {Q : Option MV → MH → Prop} {u0 : Option MV} {u1 : Option MV} {u2 : Option MV} {h : MH}   (q : Q (some (.inl (1 : Int32))) h) : Wb rod d B_Model_image 53 [u0, u1, u2] [] h Q := by
  refine Wb.ret (b_Model_image_53) ?_
  (first | exact q | (simp only [Option.getD_some]; exact q))
theorem n_Model_again {rod : Nat → Nat × (Nat → Int32)} {d : Nat} {Q : Option MV → MH → Prop} {x1 : Int32} {h : MH} (k : Wb rod d B_Model_again 0 [some (.inr (.inr (.inl (some 84)))), some (.inl x1), none] [] h Q) : Wc rod (d + 1) 302 [.inr (.inr (.inl (some 84))), .inl x1] h Q := Wc.en (fun _ _ => e_Model_again) k
theorem w_Model_again_0 {rod : Nat → Nat × (Nat → Int32)} {d : Nat} {Q : Option MV → MH → Prop} {u0 : Option MV} {x1 : Int32} {u2 : Option MV} {h : MH}   {Q1 : Option MV → MH → Prop} (c : Wc rod d 193 [.inl x1, .inl (0 : Int32), .inl (2 : Int32)] h Q1) (k : ∀ r1 h2, Q1 r1 h2 → Wb rod d B_Model_again 6 [u0, some (.inl x1), u2] (r1.toList ++ []) h2 Q) : Wb rod d B_Model_again 0 [u0, some (.inl x1), u2] [] h Q := by
  refine Wb.call (fun _ _ _ _ => b_Model_again_0) (Q1 := Q1) ?_ ?_
  · (first | exact c | (simp only [Option.getD_some]; exact c))
  · (first | exact k | (simp only [Option.getD_some]; exact k))
theorem w_Model_again_6 {rod : Nat → Nat × (Nat → Int32)} {d : Nat} {Q : Option MV → MH → Prop} {u0 : Option MV} {u1 : Option MV} {u2 : Option MV} {xs0 : Int32} {h : MH}   (k1 : xs0.toInt = 0 → Wb rod d B_Model_again 18 [u0, u1, u2] [] h Q) (k2 : ¬ xs0.toInt = 0 → Wb rod d B_Model_again 9 [u0, u1, u2] [] h Q) : Wb rod d B_Model_again 6 [u0, u1, u2] [.inl xs0] h Q := by
  refine Wb.br (fun _ _ => b_Model_again_6) (fun c => ?_) (fun c => ?_)
  · have c : (decide (xs0 = 0)) = true := by first | exact c | (simp only [Option.getD_some] at c; exact c)
    (first | exact (k1 (c_eqt c)) | (simp only [Option.getD_some]; exact (k1 (c_eqt c))))
  · have c : (decide (xs0 = 0)) = false := by first | exact c | (simp only [Option.getD_some] at c; exact c)
    (first | exact (k2 (c_eqf c)) | (simp only [Option.getD_some]; exact (k2 (c_eqf c))))
theorem w_Model_again_9 {rod : Nat → Nat × (Nat → Int32)} {d : Nat} {Q : Option MV → MH → Prop} {x1 : Int32} {u2 : Option MV} {h : MH} (L : Lay h.2) (g0 : 0 ≤ x1.toInt ∧ x1.toInt < 3) (k1 : ¬ (mdef (h.1 86 x1.toNatClampNeg) 2).toInt = 0 → Wb rod d B_Model_again 20 [some (.inr (.inr (.inl (some 84)))), some (.inl x1), u2] [] h Q) (k2 : (mdef (h.1 86 x1.toNatClampNeg) 2).toInt = 0 → Wb rod d B_Model_again 18 [some (.inr (.inr (.inl (some 84)))), some (.inl x1), u2] [] h Q) : Wb rod d B_Model_again 9 [some (.inr (.inr (.inl (some 84)))), some (.inl x1), u2] [] h Q := by
  refine Wb.br (fun _ _ => b_Model_again_9 (Lay.o84 L) (Lay.a84_1 L g0)) (fun c => ?_) (fun c => ?_)
  · have c : (!(decide ((mdef (h.1 86 x1.toNatClampNeg) 2) = 0))) = true := by first | exact c | (simp only [Option.getD_some, (Lay.r84_1 L)] at c; exact c)
    (first | exact (k1 (c_net c)) | (simp only [Option.getD_some, (Lay.r84_1 L)]; exact (k1 (c_net c))))
  · have c : (!(decide ((mdef (h.1 86 x1.toNatClampNeg) 2) = 0))) = false := by first | exact c | (simp only [Option.getD_some, (Lay.r84_1 L)] at c; exact c)
    (first | exact (k2 (c_nef c)) | (simp only [Option.getD_some, (Lay.r84_1 L)]; exact (k2 (c_nef c))))
theorem w_Model_again_18 {rod : Nat → Nat × (Nat → Int32)} {d : Nat} {Q : Option MV → MH → Prop} {u0 : Option MV} {u1 : Option MV} {u2 : Option MV} {h : MH}   (q : Q (some (.inl (0 : Int32))) h) : Wb rod d B_Model_again 18 [u0, u1, u2] [] h Q := by
  refine Wb.ret (b_Model_again_18) ?_
  (first | exact q | (simp only [Option.getD_some]; exact q))
theorem w_Model_again_20 {rod : Nat → Nat × (Nat → Int32)} {d : Nat} {Q : Option MV → MH → Prop} {u0 : Option MV} {u1 : Option MV} {u2 : Option MV} {h : MH}  (g0 : okl [u0, u1, u2] 2 = true) (k : Wb rod d B_Model_again 22 [u0, u1, some (.inl (0 : Int32))] [] h Q) : Wb rod d B_Model_again 20 [u0, u1, u2] [] h Q := by
  refine Wb.go (fun r hr q => b_Model_again_20 g0 ?_) k
  (first | exact q | (simp only [Option.getD_some]; exact q))
theorem w_Model_again_22 {rod : Nat → Nat × (Nat → Int32)} {d : Nat} {Q : Option MV → MH → Prop} {u0 : Option MV} {u1 : Option MV} {x2 : Int32} {h : MH}   (k1 : 1146 ≤ x2.toInt → Wb rod d B_Model_again 55 [u0, u1, some (.inl x2)] [] h Q) (k2 : ¬ 1146 ≤ x2.toInt → Wb rod d B_Model_again 29 [u0, u1, some (.inl x2)] [] h Q) : Wb rod d B_Model_again 22 [u0, u1, some (.inl x2)] [] h Q := by
  refine Wb.br (fun _ _ => b_Model_again_22) (fun c => ?_) (fun c => ?_)
  · have c : (decide ((1146 : Int32) ≤ x2)) = true := by first | exact c | (simp only [Option.getD_some] at c; exact c)
    (first | exact (k1 (c_let c)) | (simp only [Option.getD_some]; exact (k1 (c_let c))))
  · have c : (decide ((1146 : Int32) ≤ x2)) = false := by first | exact c | (simp only [Option.getD_some] at c; exact c)
    (first | exact (k2 (c_lef c)) | (simp only [Option.getD_some]; exact (k2 (c_lef c))))
theorem w_Model_again_29 {rod : Nat → Nat × (Nat → Int32)} {d : Nat} {Q : Option MV → MH → Prop} {x1 : Int32} {x2 : Int32} {h : MH} (L : Lay h.2) (g0 : 0 ≤ (((1146 : Int32) * (x1 + (1 : Int32))) + x2).toInt ∧ (((1146 : Int32) * (x1 + (1 : Int32))) + x2).toInt < 4584) (g1 : 0 ≤ x2.toInt ∧ x2.toInt < 4584) (k : Wb rod d B_Model_again 49 [some (.inr (.inr (.inl (some 84)))), some (.inl x1), some (.inl x2)] [] (sI h 85 x2.toNatClampNeg (h.1 85 (((1146 : Int32) * (x1 + (1 : Int32))) + x2).toNatClampNeg)) Q) : Wb rod d B_Model_again 29 [some (.inr (.inr (.inl (some 84)))), some (.inl x1), some (.inl x2)] [] h Q := by
  refine Wb.go (fun r hr q => b_Model_again_29 (Lay.o84 L) (Lay.a84_0 L g0) (Lay.a84_0 L g1) ?_) k
  (first | exact q | (simp only [Option.getD_some, (Lay.r84_0 L)]; exact q))
theorem w_Model_again_49 {rod : Nat → Nat × (Nat → Int32)} {d : Nat} {Q : Option MV → MH → Prop} {u0 : Option MV} {u1 : Option MV} {x2 : Int32} {h : MH}  (g0 : okl [u0, u1, some (.inl x2)] 2 = true) (k : Wb rod d B_Model_again 22 [u0, u1, some (.inl (x2 + 1))] [] h Q) : Wb rod d B_Model_again 49 [u0, u1, some (.inl x2)] [] h Q := by
  refine Wb.go (fun r hr q => b_Model_again_49 g0 ?_) k
  (first | exact q | (simp only [Option.getD_some]; exact q))
theorem w_Model_again_55 {rod : Nat → Nat × (Nat → Int32)} {d : Nat} {Q : Option MV → MH → Prop} {u0 : Option MV} {u1 : Option MV} {u2 : Option MV} {h : MH}   (q : Q (some (.inl (1 : Int32))) h) : Wb rod d B_Model_again 55 [u0, u1, u2] [] h Q := by
  refine Wb.ret (b_Model_again_55) ?_
  (first | exact q | (simp only [Option.getD_some]; exact q))
