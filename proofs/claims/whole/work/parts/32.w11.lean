/-! RULES OF BLOCKS over postconditions, references resolved (11) -/
theorem n_Model_border {rod : Nat → Nat × (Nat → Int32)} {d : Nat} {Q : Option MV → MH → Prop} {x1 : Int32} {x2 : Int32} {x3 : Int32} {x4 : Int32} {h : MH} (k : Wb rod d B_Model_border 0 [some (.inr (.inr (.inl (some 84)))), some (.inl x1), some (.inl x2), some (.inl x3), some (.inl x4), none, none, none, none, none] [] h Q) : Wc rod (d + 1) 253 [.inr (.inr (.inl (some 84))), .inl x1, .inl x2, .inl x3, .inl x4] h Q := Wc.en (fun _ _ => e_Model_border) k
theorem w_Model_border_0 {rod : Nat → Nat × (Nat → Int32)} {d : Nat} {Q : Option MV → MH → Prop} {x1 : Int32} {u2 : Option MV} {u3 : Option MV} {u4 : Option MV} {u5 : Option MV} {u6 : Option MV} {u7 : Option MV} {u8 : Option MV} {u9 : Option MV} {h : MH} (L : Lay h.2)  {Q1 : Option MV → MH → Prop} (c : Wc rod d 219 [.inr (.inr (.inl (some 84))), .inl x1] h Q1) (k : ∀ r1 h2, Q1 r1 h2 → Wb rod d B_Model_border 5 [some (.inr (.inr (.inl (some 84)))), some (.inl x1), u2, u3, u4, u5, u6, u7, u8, u9] (r1.toList ++ []) h2 Q) : Wb rod d B_Model_border 0 [some (.inr (.inr (.inl (some 84)))), some (.inl x1), u2, u3, u4, u5, u6, u7, u8, u9] [] h Q := by
  refine Wb.call (fun _ _ _ _ => b_Model_border_0 (Lay.o84 L)) (Q1 := Q1) ?_ ?_
  · (first | exact c | (simp only [Option.getD_some]; exact c))
  · (first | exact k | (simp only [Option.getD_some]; exact k))
theorem w_Model_border_5 {rod : Nat → Nat × (Nat → Int32)} {d : Nat} {Q : Option MV → MH → Prop} {u0 : Option MV} {u1 : Option MV} {u2 : Option MV} {u3 : Option MV} {u4 : Option MV} {u5 : Option MV} {u6 : Option MV} {u7 : Option MV} {u8 : Option MV} {u9 : Option MV} {xs0 : Int32} {h : MH}   (k1 : xs0.toInt = 0 → Wb rod d B_Model_border 34 [u0, u1, u2, u3, u4, u5, u6, u7, u8, u9] [] h Q) (k2 : ¬ xs0.toInt = 0 → Wb rod d B_Model_border 8 [u0, u1, u2, u3, u4, u5, u6, u7, u8, u9] [] h Q) : Wb rod d B_Model_border 5 [u0, u1, u2, u3, u4, u5, u6, u7, u8, u9] [.inl xs0] h Q := by
  refine Wb.br (fun _ _ => b_Model_border_5) (fun c => ?_) (fun c => ?_)
  · have c : (decide (xs0 = 0)) = true := by first | exact c | (simp only [Option.getD_some] at c; exact c)
    (first | exact (k1 (c_eqt c)) | (simp only [Option.getD_some]; exact (k1 (c_eqt c))))
  · have c : (decide (xs0 = 0)) = false := by first | exact c | (simp only [Option.getD_some] at c; exact c)
    (first | exact (k2 (c_eqf c)) | (simp only [Option.getD_some]; exact (k2 (c_eqf c))))
theorem w_Model_border_8 {rod : Nat → Nat × (Nat → Int32)} {d : Nat} {Q : Option MV → MH → Prop} {u0 : Option MV} {u1 : Option MV} {x2 : Int32} {u3 : Option MV} {u4 : Option MV} {u5 : Option MV} {u6 : Option MV} {u7 : Option MV} {u8 : Option MV} {u9 : Option MV} {h : MH}   {Q1 : Option MV → MH → Prop} (c : Wc rod d 193 [.inl x2, .inl (0 : Int32), .inl (40 : Int32)] h Q1) (k : ∀ r1 h2, Q1 r1 h2 → Wb rod d B_Model_border 15 [u0, u1, some (.inl x2), u3, u4, u5, u6, u7, u8, u9] (r1.toList ++ []) h2 Q) : Wb rod d B_Model_border 8 [u0, u1, some (.inl x2), u3, u4, u5, u6, u7, u8, u9] [] h Q := by
  refine Wb.call (fun _ _ _ _ => b_Model_border_8) (Q1 := Q1) ?_ ?_
  · (first | exact c | (simp only [Option.getD_some]; exact c))
  · (first | exact k | (simp only [Option.getD_some]; exact k))
theorem w_Model_border_15 {rod : Nat → Nat × (Nat → Int32)} {d : Nat} {Q : Option MV → MH → Prop} {u0 : Option MV} {u1 : Option MV} {u2 : Option MV} {u3 : Option MV} {u4 : Option MV} {u5 : Option MV} {u6 : Option MV} {u7 : Option MV} {u8 : Option MV} {u9 : Option MV} {xs0 : Int32} {h : MH}   (k1 : xs0.toInt = 0 → Wb rod d B_Model_border 34 [u0, u1, u2, u3, u4, u5, u6, u7, u8, u9] [] h Q) (k2 : ¬ xs0.toInt = 0 → Wb rod d B_Model_border 18 [u0, u1, u2, u3, u4, u5, u6, u7, u8, u9] [] h Q) : Wb rod d B_Model_border 15 [u0, u1, u2, u3, u4, u5, u6, u7, u8, u9] [.inl xs0] h Q := by
  refine Wb.br (fun _ _ => b_Model_border_15) (fun c => ?_) (fun c => ?_)
  · have c : (decide (xs0 = 0)) = true := by first | exact c | (simp only [Option.getD_some] at c; exact c)
    (first | exact (k1 (c_eqt c)) | (simp only [Option.getD_some]; exact (k1 (c_eqt c))))
  · have c : (decide (xs0 = 0)) = false := by first | exact c | (simp only [Option.getD_some] at c; exact c)
    (first | exact (k2 (c_eqf c)) | (simp only [Option.getD_some]; exact (k2 (c_eqf c))))
theorem w_Model_border_18 {rod : Nat → Nat × (Nat → Int32)} {d : Nat} {Q : Option MV → MH → Prop} {u1 : Option MV} {u2 : Option MV} {x3 : Int32} {u4 : Option MV} {u5 : Option MV} {u6 : Option MV} {u7 : Option MV} {u8 : Option MV} {u9 : Option MV} {h : MH} (L : Lay h.2)  {Q1 : Option MV → MH → Prop} (c : Wc rod d 222 [.inr (.inr (.inl (some 84))), .inl x3] h Q1) (k : ∀ r1 h2, Q1 r1 h2 → Wb rod d B_Model_border 23 [some (.inr (.inr (.inl (some 84)))), u1, u2, some (.inl x3), u4, u5, u6, u7, u8, u9] (r1.toList ++ []) h2 Q) : Wb rod d B_Model_border 18 [some (.inr (.inr (.inl (some 84)))), u1, u2, some (.inl x3), u4, u5, u6, u7, u8, u9] [] h Q := by
  refine Wb.call (fun _ _ _ _ => b_Model_border_18 (Lay.o84 L)) (Q1 := Q1) ?_ ?_
  · (first | exact c | (simp only [Option.getD_some]; exact c))
  · (first | exact k | (simp only [Option.getD_some]; exact k))
theorem w_Model_border_23 {rod : Nat → Nat × (Nat → Int32)} {d : Nat} {Q : Option MV → MH → Prop} {u0 : Option MV} {u1 : Option MV} {u2 : Option MV} {u3 : Option MV} {u4 : Option MV} {u5 : Option MV} {u6 : Option MV} {u7 : Option MV} {u8 : Option MV} {u9 : Option MV} {xs0 : Int32} {h : MH}   (k1 : xs0.toInt = 0 → Wb rod d B_Model_border 34 [u0, u1, u2, u3, u4, u5, u6, u7, u8, u9] [] h Q) (k2 : ¬ xs0.toInt = 0 → Wb rod d B_Model_border 26 [u0, u1, u2, u3, u4, u5, u6, u7, u8, u9] [] h Q) : Wb rod d B_Model_border 23 [u0, u1, u2, u3, u4, u5, u6, u7, u8, u9] [.inl xs0] h Q := by
  refine Wb.br (fun _ _ => b_Model_border_23) (fun c => ?_) (fun c => ?_)
  · have c : (decide (xs0 = 0)) = true := by first | exact c | (simp only [Option.getD_some] at c; exact c)
    (first | exact (k1 (c_eqt c)) | (simp only [Option.getD_some]; exact (k1 (c_eqt c))))
  · have c : (decide (xs0 = 0)) = false := by first | exact c | (simp only [Option.getD_some] at c; exact c)
    (first | exact (k2 (c_eqf c)) | (simp only [Option.getD_some]; exact (k2 (c_eqf c))))
theorem w_Model_border_26 {rod : Nat → Nat × (Nat → Int32)} {d : Nat} {Q : Option MV → MH → Prop} {u1 : Option MV} {u2 : Option MV} {u3 : Option MV} {u4 : Option MV} {u5 : Option MV} {u6 : Option MV} {u7 : Option MV} {u8 : Option MV} {u9 : Option MV} {h : MH} (L : Lay h.2)  (k1 : 2 ≤ (h.1 84 13).toInt → Wb rod d B_Model_border 36 [some (.inr (.inr (.inl (some 84)))), u1, u2, u3, u4, u5, u6, u7, u8, u9] [] h Q) (k2 : ¬ 2 ≤ (h.1 84 13).toInt → Wb rod d B_Model_border 34 [some (.inr (.inr (.inl (some 84)))), u1, u2, u3, u4, u5, u6, u7, u8, u9] [] h Q) : Wb rod d B_Model_border 26 [some (.inr (.inr (.inl (some 84)))), u1, u2, u3, u4, u5, u6, u7, u8, u9] [] h Q := by
  refine Wb.br (fun _ _ => b_Model_border_26 (Lay.o84 L)) (fun c => ?_) (fun c => ?_)
  · have c : (decide ((2 : Int32) ≤ (h.1 84 13))) = true := by first | exact c | (simp only [Option.getD_some] at c; exact c)
    (first | exact (k1 (c_let c)) | (simp only [Option.getD_some]; exact (k1 (c_let c))))
  · have c : (decide ((2 : Int32) ≤ (h.1 84 13))) = false := by first | exact c | (simp only [Option.getD_some] at c; exact c)
    (first | exact (k2 (c_lef c)) | (simp only [Option.getD_some]; exact (k2 (c_lef c))))
theorem w_Model_border_34 {rod : Nat → Nat × (Nat → Int32)} {d : Nat} {Q : Option MV → MH → Prop} {u0 : Option MV} {u1 : Option MV} {u2 : Option MV} {u3 : Option MV} {u4 : Option MV} {u5 : Option MV} {u6 : Option MV} {u7 : Option MV} {u8 : Option MV} {u9 : Option MV} {h : MH}   (q : Q (some (.inl (-1 : Int32))) h) : Wb rod d B_Model_border 34 [u0, u1, u2, u3, u4, u5, u6, u7, u8, u9] [] h Q := by
  refine Wb.ret (b_Model_border_34) ?_
  (first | exact q | (simp only [Option.getD_some]; exact q))
theorem w_Model_border_36 {rod : Nat → Nat × (Nat → Int32)} {d : Nat} {Q : Option MV → MH → Prop} {u1 : Option MV} {x2 : Int32} {x3 : Int32} {u4 : Option MV} {u5 : Option MV} {u6 : Option MV} {u7 : Option MV} {u8 : Option MV} {u9 : Option MV} {h : MH} (L : Lay h.2)  {Q1 : Option MV → MH → Prop} (c : Wc rod d 249 [.inr (.inr (.inl (some 84))), .inl x2, .inl x3, .inl (0 : Int32)] h Q1) (k : ∀ r1 h2, Q1 r1 h2 → Wb rod d B_Model_border 43 [some (.inr (.inr (.inl (some 84)))), u1, some (.inl x2), some (.inl x3), u4, u5, u6, u7, u8, u9] (r1.toList ++ []) h2 Q) : Wb rod d B_Model_border 36 [some (.inr (.inr (.inl (some 84)))), u1, some (.inl x2), some (.inl x3), u4, u5, u6, u7, u8, u9] [] h Q := by
  refine Wb.call (fun _ _ _ _ => b_Model_border_36 (Lay.o84 L)) (Q1 := Q1) ?_ ?_
  · (first | exact c | (simp only [Option.getD_some]; exact c))
  · (first | exact k | (simp only [Option.getD_some]; exact k))
theorem w_Model_border_43 {rod : Nat → Nat × (Nat → Int32)} {d : Nat} {Q : Option MV → MH → Prop} {u0 : Option MV} {u1 : Option MV} {u2 : Option MV} {u3 : Option MV} {u4 : Option MV} {u5 : Option MV} {u6 : Option MV} {u7 : Option MV} {u8 : Option MV} {u9 : Option MV} {xs0 : Int32} {h : MH}  (g0 : okl [u0, u1, u2, u3, u4, u5, u6, u7, u8, u9] 5 = true) (k : Wb rod d B_Model_border 57 [u0, u1, u2, u3, u4, some (.inl xs0), some (.inl (1 : Int32)), some (.inl (xs0 + (1 : Int32))), some (.inl (1 : Int32)), u9] [] h Q) : Wb rod d B_Model_border 43 [u0, u1, u2, u3, u4, u5, u6, u7, u8, u9] [.inl xs0] h Q := by
  refine Wb.go (fun r hr q => b_Model_border_43 g0 ?_) k
  (first | exact q | (simp only [Option.getD_some]; exact q))
theorem w_Model_border_57 {rod : Nat → Nat × (Nat → Int32)} {d : Nat} {Q : Option MV → MH → Prop} {u1 : Option MV} {u2 : Option MV} {u3 : Option MV} {u4 : Option MV} {u5 : Option MV} {u6 : Option MV} {u7 : Option MV} {x8 : Int32} {u9 : Option MV} {h : MH} (L : Lay h.2)  (k1 : (h.1 84 13).toInt ≤ x8.toInt → Wb rod d B_Model_border 102 [some (.inr (.inr (.inl (some 84)))), u1, u2, u3, u4, u5, u6, u7, some (.inl x8), u9] [] h Q) (k2 : ¬ (h.1 84 13).toInt ≤ x8.toInt → Wb rod d B_Model_border 66 [some (.inr (.inr (.inl (some 84)))), u1, u2, u3, u4, u5, u6, u7, some (.inl x8), u9] [] h Q) : Wb rod d B_Model_border 57 [some (.inr (.inr (.inl (some 84)))), u1, u2, u3, u4, u5, u6, u7, some (.inl x8), u9] [] h Q := by
  refine Wb.br (fun _ _ => b_Model_border_57 (Lay.o84 L)) (fun c => ?_) (fun c => ?_)
  · have c : (decide ((h.1 84 13) ≤ x8)) = true := by first | exact c | (simp only [Option.getD_some] at c; exact c)
    (first | exact (k1 (c_let c)) | (simp only [Option.getD_some]; exact (k1 (c_let c))))
  · have c : (decide ((h.1 84 13) ≤ x8)) = false := by first | exact c | (simp only [Option.getD_some] at c; exact c)
    (first | exact (k2 (c_lef c)) | (simp only [Option.getD_some]; exact (k2 (c_lef c))))
theorem w_Model_border_66 {rod : Nat → Nat × (Nat → Int32)} {d : Nat} {Q : Option MV → MH → Prop} {u1 : Option MV} {x2 : Int32} {x3 : Int32} {u4 : Option MV} {u5 : Option MV} {u6 : Option MV} {u7 : Option MV} {x8 : Int32} {u9 : Option MV} {h : MH} (L : Lay h.2)  {Q1 : Option MV → MH → Prop} (c : Wc rod d 249 [.inr (.inr (.inl (some 84))), .inl x2, .inl x3, .inl ((1 : Int32) <<< (x8 &&& 31))] h Q1) (k : ∀ r1 h2, Q1 r1 h2 → Wb rod d B_Model_border 76 [some (.inr (.inr (.inl (some 84)))), u1, some (.inl x2), some (.inl x3), u4, u5, u6, u7, some (.inl x8), u9] (r1.toList ++ []) h2 Q) : Wb rod d B_Model_border 66 [some (.inr (.inr (.inl (some 84)))), u1, some (.inl x2), some (.inl x3), u4, u5, u6, u7, some (.inl x8), u9] [] h Q := by
  refine Wb.call (fun _ _ _ _ => b_Model_border_66 (Lay.o84 L)) (Q1 := Q1) ?_ ?_
  · (first | exact c | (simp only [Option.getD_some]; exact c))
  · (first | exact k | (simp only [Option.getD_some]; exact k))
theorem w_Model_border_76 {rod : Nat → Nat × (Nat → Int32)} {d : Nat} {Q : Option MV → MH → Prop} {u0 : Option MV} {u1 : Option MV} {u2 : Option MV} {u3 : Option MV} {u4 : Option MV} {u5 : Option MV} {u6 : Option MV} {x7 : Int32} {u8 : Option MV} {u9 : Option MV} {xs0 : Int32} {h : MH}  (g0 : okl [u0, u1, u2, u3, u4, u5, u6, some (.inl x7), u8, u9] 9 = true) (k1 : xs0.toInt < x7.toInt → Wb rod d B_Model_border 88 [u0, u1, u2, u3, u4, u5, u6, some (.inl x7), u8, some (.inl xs0)] [] h Q) (k2 : ¬ xs0.toInt < x7.toInt → Wb rod d B_Model_border 85 [u0, u1, u2, u3, u4, u5, u6, some (.inl x7), u8, some (.inl xs0)] [] h Q) : Wb rod d B_Model_border 76 [u0, u1, u2, u3, u4, u5, u6, some (.inl x7), u8, u9] [.inl xs0] h Q := by
  refine Wb.br (fun _ _ => b_Model_border_76 g0) (fun c => ?_) (fun c => ?_)
  · have c : (decide (xs0 < x7)) = true := by first | exact c | (simp only [Option.getD_some] at c; exact c)
    (first | exact (k1 (c_ltt c)) | (simp only [Option.getD_some]; exact (k1 (c_ltt c))))
  · have c : (decide (xs0 < x7)) = false := by first | exact c | (simp only [Option.getD_some] at c; exact c)
    (first | exact (k2 (c_ltf c)) | (simp only [Option.getD_some]; exact (k2 (c_ltf c))))
theorem w_Model_border_85 {rod : Nat → Nat × (Nat → Int32)} {d : Nat} {Q : Option MV → MH → Prop} {u0 : Option MV} {u1 : Option MV} {u2 : Option MV} {u3 : Option MV} {u4 : Option MV} {u5 : Option MV} {u6 : Option MV} {u7 : Option MV} {u8 : Option MV} {u9 : Option MV} {h : MH}   (k : Wb rod d B_Model_border 96 [u0, u1, u2, u3, u4, u5, u6, u7, u8, u9] [] h Q) : Wb rod d B_Model_border 85 [u0, u1, u2, u3, u4, u5, u6, u7, u8, u9] [] h Q := by
  refine Wb.go (fun r hr q => b_Model_border_85 ?_) k
  (first | exact q | (simp only [Option.getD_some]; exact q))
theorem w_Model_border_88 {rod : Nat → Nat × (Nat → Int32)} {d : Nat} {Q : Option MV → MH → Prop} {u0 : Option MV} {u1 : Option MV} {u2 : Option MV} {u3 : Option MV} {u4 : Option MV} {u5 : Option MV} {u6 : Option MV} {u7 : Option MV} {x8 : Int32} {x9 : Int32} {h : MH}  (g0 : okl [u0, u1, u2, u3, u4, u5, u6, u7, some (.inl x8), some (.inl x9)] 6 = true) (k : Wb rod d B_Model_border 96 [u0, u1, u2, u3, u4, u5, some (.inl x8), some (.inl x9), some (.inl x8), some (.inl x9)] [] h Q) : Wb rod d B_Model_border 88 [u0, u1, u2, u3, u4, u5, u6, u7, some (.inl x8), some (.inl x9)] [] h Q := by
  refine Wb.go (fun r hr q => b_Model_border_88 g0 ?_) k
  (first | exact q | (simp only [Option.getD_some]; exact q))
theorem w_Model_border_96 {rod : Nat → Nat × (Nat → Int32)} {d : Nat} {Q : Option MV → MH → Prop} {u0 : Option MV} {u1 : Option MV} {u2 : Option MV} {u3 : Option MV} {u4 : Option MV} {u5 : Option MV} {u6 : Option MV} {u7 : Option MV} {x8 : Int32} {u9 : Option MV} {h : MH}  (g0 : okl [u0, u1, u2, u3, u4, u5, u6, u7, some (.inl x8), u9] 8 = true) (k : Wb rod d B_Model_border 57 [u0, u1, u2, u3, u4, u5, u6, u7, some (.inl (x8 + 1)), u9] [] h Q) : Wb rod d B_Model_border 96 [u0, u1, u2, u3, u4, u5, u6, u7, some (.inl x8), u9] [] h Q := by
  refine Wb.go (fun r hr q => b_Model_border_96 g0 ?_) k
  (first | exact q | (simp only [Option.getD_some]; exact q))
theorem w_Model_border_102 {rod : Nat → Nat × (Nat → Int32)} {d : Nat} {Q : Option MV → MH → Prop} {u0 : Option MV} {u1 : Option MV} {u2 : Option MV} {u3 : Option MV} {x4 : Int32} {u5 : Option MV} {u6 : Option MV} {u7 : Option MV} {u8 : Option MV} {u9 : Option MV} {h : MH}   (k1 : x4.toInt = 0 → Wb rod d B_Model_border 115 [u0, u1, u2, u3, some (.inl x4), u5, u6, u7, u8, u9] [] h Q) (k2 : ¬ x4.toInt = 0 → Wb rod d B_Model_border 107 [u0, u1, u2, u3, some (.inl x4), u5, u6, u7, u8, u9] [] h Q) : Wb rod d B_Model_border 102 [u0, u1, u2, u3, some (.inl x4), u5, u6, u7, u8, u9] [] h Q := by
  refine Wb.br (fun _ _ => b_Model_border_102) (fun c => ?_) (fun c => ?_)
  · have c : (decide (x4 = 0)) = true := by first | exact c | (simp only [Option.getD_some] at c; exact c)
    (first | exact (k1 (c_eqt c)) | (simp only [Option.getD_some]; exact (k1 (c_eqt c))))
  · have c : (decide (x4 = 0)) = false := by first | exact c | (simp only [Option.getD_some] at c; exact c)
    (first | exact (k2 (c_eqf c)) | (simp only [Option.getD_some]; exact (k2 (c_eqf c))))
theorem w_Model_border_107 {rod : Nat → Nat × (Nat → Int32)} {d : Nat} {Q : Option MV → MH → Prop} {u0 : Option MV} {u1 : Option MV} {u2 : Option MV} {u3 : Option MV} {u4 : Option MV} {x5 : Int32} {u6 : Option MV} {x7 : Int32} {u8 : Option MV} {u9 : Option MV} {h : MH}   (k : Wb rod d B_Model_border 117 [u0, u1, u2, u3, u4, some (.inl x5), u6, some (.inl x7), u8, u9] [.inl (x5 - x7)] h Q) : Wb rod d B_Model_border 107 [u0, u1, u2, u3, u4, some (.inl x5), u6, some (.inl x7), u8, u9] [] h Q := by
  refine Wb.go (fun r hr q => b_Model_border_107 ?_) k
  (first | exact q | (simp only [Option.getD_some]; exact q))
theorem w_Model_border_115 {rod : Nat → Nat × (Nat → Int32)} {d : Nat} {Q : Option MV → MH → Prop} {u0 : Option MV} {u1 : Option MV} {u2 : Option MV} {u3 : Option MV} {u4 : Option MV} {u5 : Option MV} {x6 : Int32} {u7 : Option MV} {u8 : Option MV} {u9 : Option MV} {h : MH}   (k : Wb rod d B_Model_border 117 [u0, u1, u2, u3, u4, u5, some (.inl x6), u7, u8, u9] [.inl x6] h Q) : Wb rod d B_Model_border 115 [u0, u1, u2, u3, u4, u5, some (.inl x6), u7, u8, u9] [] h Q := by
  refine Wb.go (fun r hr q => b_Model_border_115 ?_) k
  (first | exact q | (simp only [Option.getD_some]; exact q))
theorem w_Model_border_117 {rod : Nat → Nat × (Nat → Int32)} {d : Nat} {Q : Option MV → MH → Prop} {u0 : Option MV} {u1 : Option MV} {u2 : Option MV} {u3 : Option MV} {u4 : Option MV} {u5 : Option MV} {u6 : Option MV} {u7 : Option MV} {u8 : Option MV} {u9 : Option MV} {xs0 : Int32} {h : MH}   (q : Q (some (.inl xs0)) h) : Wb rod d B_Model_border 117 [u0, u1, u2, u3, u4, u5, u6, u7, u8, u9] [.inl xs0] h Q := by
  refine Wb.ret (b_Model_border_117) ?_
  (first | exact q | (simp only [Option.getD_some]; exact q))
theorem n_Model_ranked {rod : Nat → Nat × (Nat → Int32)} {d : Nat} {Q : Option MV → MH → Prop} {x1 : Int32} {x2 : Int32} {h : MH} (k : Wb rod d B_Model_ranked 0 [some (.inr (.inr (.inl (some 84)))), some (.inl x1), some (.inl x2), none, none, none] [] h Q) : Wc rod (d + 1) 254 [.inr (.inr (.inl (some 84))), .inl x1, .inl x2] h Q := Wc.en (fun _ _ => e_Model_ranked) k
theorem w_Model_ranked_0 {rod : Nat → Nat × (Nat → Int32)} {d : Nat} {Q : Option MV → MH → Prop} {u0 : Option MV} {u1 : Option MV} {u2 : Option MV} {u3 : Option MV} {u4 : Option MV} {u5 : Option MV} {h : MH}  (g0 : okl [u0, u1, u2, u3, u4, u5] 3 = true) (k : Wb rod d B_Model_ranked 5 [u0, u1, u2, some (.inl (0 : Int32)), some (.inl (0 : Int32)), u5] [] h Q) : Wb rod d B_Model_ranked 0 [u0, u1, u2, u3, u4, u5] [] h Q := by
  refine Wb.go (fun r hr q => b_Model_ranked_0 g0 ?_) k
  (first | exact q | (simp only [Option.getD_some]; exact q))
theorem w_Model_ranked_5 {rod : Nat → Nat × (Nat → Int32)} {d : Nat} {Q : Option MV → MH → Prop} {u0 : Option MV} {u1 : Option MV} {u2 : Option MV} {u3 : Option MV} {x4 : Int32} {u5 : Option MV} {h : MH}   (k1 : 4 ≤ x4.toInt → Wb rod d B_Model_ranked 40 [u0, u1, u2, u3, some (.inl x4), u5] [] h Q) (k2 : ¬ 4 ≤ x4.toInt → Wb rod d B_Model_ranked 11 [u0, u1, u2, u3, some (.inl x4), u5] [] h Q) : Wb rod d B_Model_ranked 5 [u0, u1, u2, u3, some (.inl x4), u5] [] h Q := by
  refine Wb.br (fun _ _ => b_Model_ranked_5) (fun c => ?_) (fun c => ?_)
  · have c : (decide ((4 : Int32) ≤ x4)) = true := by first | exact c | (simp only [Option.getD_some] at c; exact c)
    (first | exact (k1 (c_let c)) | (simp only [Option.getD_some]; exact (k1 (c_let c))))
  · have c : (decide ((4 : Int32) ≤ x4)) = false := by first | exact c | (simp only [Option.getD_some] at c; exact c)
    (first | exact (k2 (c_lef c)) | (simp only [Option.getD_some]; exact (k2 (c_lef c))))
theorem w_Model_ranked_11 {rod : Nat → Nat × (Nat → Int32)} {d : Nat} {Q : Option MV → MH → Prop} {x1 : Int32} {x2 : Int32} {u3 : Option MV} {x4 : Int32} {u5 : Option MV} {h : MH} (L : Lay h.2)  {Q1 : Option MV → MH → Prop} (c : Wc rod d 244 [.inr (.inr (.inl (some 84))), .inl x1, .inl x2, .inl x4, .inl (1 : Int32)] h Q1) (k : ∀ r1 h2, Q1 r1 h2 → Wb rod d B_Model_ranked 20 [some (.inr (.inr (.inl (some 84)))), some (.inl x1), some (.inl x2), u3, some (.inl x4), u5] (r1.toList ++ []) h2 Q) : Wb rod d B_Model_ranked 11 [some (.inr (.inr (.inl (some 84)))), some (.inl x1), some (.inl x2), u3, some (.inl x4), u5] [] h Q := by
  refine Wb.call (fun _ _ _ _ => b_Model_ranked_11 (Lay.o84 L)) (Q1 := Q1) ?_ ?_
  · (first | exact c | (simp only [Option.getD_some]; exact c))
  · (first | exact k | (simp only [Option.getD_some]; exact k))
theorem w_Model_ranked_20 {rod : Nat → Nat × (Nat → Int32)} {d : Nat} {Q : Option MV → MH → Prop} {u0 : Option MV} {u1 : Option MV} {u2 : Option MV} {u3 : Option MV} {u4 : Option MV} {u5 : Option MV} {xs0 : Int32} {h : MH}  (g0 : okl [u0, u1, u2, u3, u4, u5] 5 = true) (k1 : 0 ≤ xs0.toInt → Wb rod d B_Model_ranked 29 [u0, u1, u2, u3, u4, some (.inl xs0)] [] h Q) (k2 : ¬ 0 ≤ xs0.toInt → Wb rod d B_Model_ranked 27 [u0, u1, u2, u3, u4, some (.inl xs0)] [] h Q) : Wb rod d B_Model_ranked 20 [u0, u1, u2, u3, u4, u5] [.inl xs0] h Q := by
  refine Wb.br (fun _ _ => b_Model_ranked_20 g0) (fun c => ?_) (fun c => ?_)
  · have c : (decide (0 ≤ xs0)) = true := by first | exact c | (simp only [Option.getD_some] at c; exact c)
    (first | exact (k1 (c_let c)) | (simp only [Option.getD_some]; exact (k1 (c_let c))))
  · have c : (decide (0 ≤ xs0)) = false := by first | exact c | (simp only [Option.getD_some] at c; exact c)
    (first | exact (k2 (c_lef c)) | (simp only [Option.getD_some]; exact (k2 (c_lef c))))
theorem w_Model_ranked_27 {rod : Nat → Nat × (Nat → Int32)} {d : Nat} {Q : Option MV → MH → Prop} {u0 : Option MV} {u1 : Option MV} {u2 : Option MV} {u3 : Option MV} {u4 : Option MV} {u5 : Option MV} {h : MH}   (q : Q (some (.inl (-1 : Int32))) h) : Wb rod d B_Model_ranked 27 [u0, u1, u2, u3, u4, u5] [] h Q := by
  refine Wb.ret (b_Model_ranked_27) ?_
  (first | exact q | (simp only [Option.getD_some]; exact q))
theorem w_Model_ranked_29 {rod : Nat → Nat × (Nat → Int32)} {d : Nat} {Q : Option MV → MH → Prop} {u0 : Option MV} {u1 : Option MV} {u2 : Option MV} {x3 : Int32} {x4 : Int32} {x5 : Int32} {h : MH}  (g0 : okl [u0, u1, u2, some (.inl x3), some (.inl x4), some (.inl x5)] 3 = true) (k : Wb rod d B_Model_ranked 5 [u0, u1, u2, some (.inl (x3 + x5)), some (.inl (x4 + 1)), some (.inl x5)] [] h Q) : Wb rod d B_Model_ranked 29 [u0, u1, u2, some (.inl x3), some (.inl x4), some (.inl x5)] [] h Q := by
  refine Wb.go (fun r hr q => b_Model_ranked_29 g0 ?_) k
  (first | exact q | (simp only [Option.getD_some]; exact q))
theorem w_Model_ranked_40 {rod : Nat → Nat × (Nat → Int32)} {d : Nat} {Q : Option MV → MH → Prop} {u0 : Option MV} {u1 : Option MV} {u2 : Option MV} {x3 : Int32} {u4 : Option MV} {u5 : Option MV} {h : MH}   (q : Q (some (.inl x3)) h) : Wb rod d B_Model_ranked 40 [u0, u1, u2, some (.inl x3), u4, u5] [] h Q := by
  refine Wb.ret (b_Model_ranked_40) ?_
  (first | exact q | (simp only [Option.getD_some]; exact q))
theorem n_Model_sold {rod : Nat → Nat × (Nat → Int32)} {d : Nat} {Q : Option MV → MH → Prop} {x1 : Int32} {x2 : Int32} {x3 : Int32} {h : MH} (k : Wb rod d B_Model_sold 0 [some (.inr (.inr (.inl (some 84)))), some (.inl x1), some (.inl x2), some (.inl x3), none, none] [] h Q) : Wc rod (d + 1) 255 [.inr (.inr (.inl (some 84))), .inl x1, .inl x2, .inl x3] h Q := Wc.en (fun _ _ => e_Model_sold) k
theorem w_Model_sold_0 {rod : Nat → Nat × (Nat → Int32)} {d : Nat} {Q : Option MV → MH → Prop} {x1 : Int32} {u2 : Option MV} {u3 : Option MV} {u4 : Option MV} {u5 : Option MV} {h : MH} (L : Lay h.2)  {Q1 : Option MV → MH → Prop} (c : Wc rod d 219 [.inr (.inr (.inl (some 84))), .inl x1] h Q1) (k : ∀ r1 h2, Q1 r1 h2 → Wb rod d B_Model_sold 5 [some (.inr (.inr (.inl (some 84)))), some (.inl x1), u2, u3, u4, u5] (r1.toList ++ []) h2 Q) : Wb rod d B_Model_sold 0 [some (.inr (.inr (.inl (some 84)))), some (.inl x1), u2, u3, u4, u5] [] h Q := by
  refine Wb.call (fun _ _ _ _ => b_Model_sold_0 (Lay.o84 L)) (Q1 := Q1) ?_ ?_
  · (first | exact c | (simp only [Option.getD_some]; exact c))
  · (first | exact k | (simp only [Option.getD_some]; exact k))
theorem w_Model_sold_5 {rod : Nat → Nat × (Nat → Int32)} {d : Nat} {Q : Option MV → MH → Prop} {u0 : Option MV} {u1 : Option MV} {u2 : Option MV} {u3 : Option MV} {u4 : Option MV} {u5 : Option MV} {xs0 : Int32} {h : MH}   (k1 : xs0.toInt = 0 → Wb rod d B_Model_sold 28 [u0, u1, u2, u3, u4, u5] [] h Q) (k2 : ¬ xs0.toInt = 0 → Wb rod d B_Model_sold 8 [u0, u1, u2, u3, u4, u5] [] h Q) : Wb rod d B_Model_sold 5 [u0, u1, u2, u3, u4, u5] [.inl xs0] h Q := by
  refine Wb.br (fun _ _ => b_Model_sold_5) (fun c => ?_) (fun c => ?_)
  · have c : (decide (xs0 = 0)) = true := by first | exact c | (simp only [Option.getD_some] at c; exact c)
    (first | exact (k1 (c_eqt c)) | (simp only [Option.getD_some]; exact (k1 (c_eqt c))))
  · have c : (decide (xs0 = 0)) = false := by first | exact c | (simp only [Option.getD_some] at c; exact c)
    (first | exact (k2 (c_eqf c)) | (simp only [Option.getD_some]; exact (k2 (c_eqf c))))
theorem w_Model_sold_8 {rod : Nat → Nat × (Nat → Int32)} {d : Nat} {Q : Option MV → MH → Prop} {u0 : Option MV} {u1 : Option MV} {x2 : Int32} {u3 : Option MV} {u4 : Option MV} {u5 : Option MV} {h : MH}   {Q1 : Option MV → MH → Prop} (c : Wc rod d 193 [.inl x2, .inl (1 : Int32), .inl (60 : Int32)] h Q1) (k : ∀ r1 h2, Q1 r1 h2 → Wb rod d B_Model_sold 15 [u0, u1, some (.inl x2), u3, u4, u5] (r1.toList ++ []) h2 Q) : Wb rod d B_Model_sold 8 [u0, u1, some (.inl x2), u3, u4, u5] [] h Q := by
  refine Wb.call (fun _ _ _ _ => b_Model_sold_8) (Q1 := Q1) ?_ ?_
  · (first | exact c | (simp only [Option.getD_some]; exact c))
  · (first | exact k | (simp only [Option.getD_some]; exact k))
theorem w_Model_sold_15 {rod : Nat → Nat × (Nat → Int32)} {d : Nat} {Q : Option MV → MH → Prop} {u0 : Option MV} {u1 : Option MV} {u2 : Option MV} {u3 : Option MV} {u4 : Option MV} {u5 : Option MV} {xs0 : Int32} {h : MH}   (k1 : xs0.toInt = 0 → Wb rod d B_Model_sold 28 [u0, u1, u2, u3, u4, u5] [] h Q) (k2 : ¬ xs0.toInt = 0 → Wb rod d B_Model_sold 18 [u0, u1, u2, u3, u4, u5] [] h Q) : Wb rod d B_Model_sold 15 [u0, u1, u2, u3, u4, u5] [.inl xs0] h Q := by
  refine Wb.br (fun _ _ => b_Model_sold_15) (fun c => ?_) (fun c => ?_)
  · have c : (decide (xs0 = 0)) = true := by first | exact c | (simp only [Option.getD_some] at c; exact c)
    (first | exact (k1 (c_eqt c)) | (simp only [Option.getD_some]; exact (k1 (c_eqt c))))
  · have c : (decide (xs0 = 0)) = false := by first | exact c | (simp only [Option.getD_some] at c; exact c)
    (first | exact (k2 (c_eqf c)) | (simp only [Option.getD_some]; exact (k2 (c_eqf c))))
theorem w_Model_sold_18 {rod : Nat → Nat × (Nat → Int32)} {d : Nat} {Q : Option MV → MH → Prop} {u0 : Option MV} {u1 : Option MV} {u2 : Option MV} {x3 : Int32} {u4 : Option MV} {u5 : Option MV} {h : MH}   {Q1 : Option MV → MH → Prop} (c : Wc rod d 193 [.inl x3, .inl (0 : Int32), .inl (99 : Int32)] h Q1) (k : ∀ r1 h2, Q1 r1 h2 → Wb rod d B_Model_sold 25 [u0, u1, u2, some (.inl x3), u4, u5] (r1.toList ++ []) h2 Q) : Wb rod d B_Model_sold 18 [u0, u1, u2, some (.inl x3), u4, u5] [] h Q := by
  refine Wb.call (fun _ _ _ _ => b_Model_sold_18) (Q1 := Q1) ?_ ?_
  · (first | exact c | (simp only [Option.getD_some]; exact c))
  · (first | exact k | (simp only [Option.getD_some]; exact k))
theorem w_Model_sold_25 {rod : Nat → Nat × (Nat → Int32)} {d : Nat} {Q : Option MV → MH → Prop} {u0 : Option MV} {u1 : Option MV} {u2 : Option MV} {u3 : Option MV} {u4 : Option MV} {u5 : Option MV} {xs0 : Int32} {h : MH}   (k1 : ¬ xs0.toInt = 0 → Wb rod d B_Model_sold 30 [u0, u1, u2, u3, u4, u5] [] h Q) (k2 : xs0.toInt = 0 → Wb rod d B_Model_sold 28 [u0, u1, u2, u3, u4, u5] [] h Q) : Wb rod d B_Model_sold 25 [u0, u1, u2, u3, u4, u5] [.inl xs0] h Q := by
  refine Wb.br (fun _ _ => b_Model_sold_25) (fun c => ?_) (fun c => ?_)
  · have c : (!(decide (xs0 = 0))) = true := by first | exact c | (simp only [Option.getD_some] at c; exact c)
    (first | exact (k1 (c_net c)) | (simp only [Option.getD_some]; exact (k1 (c_net c))))
  · have c : (!(decide (xs0 = 0))) = false := by first | exact c | (simp only [Option.getD_some] at c; exact c)
    (first | exact (k2 (c_nef c)) | (simp only [Option.getD_some]; exact (k2 (c_nef c))))
theorem w_Model_sold_28 {rod : Nat → Nat × (Nat → Int32)} {d : Nat} {Q : Option MV → MH → Prop} {u0 : Option MV} {u1 : Option MV} {u2 : Option MV} {u3 : Option MV} {u4 : Option MV} {u5 : Option MV} {h : MH}   (q : Q (some (.inl (-1 : Int32))) h) : Wb rod d B_Model_sold 28 [u0, u1, u2, u3, u4, u5] [] h Q := by
  refine Wb.ret (b_Model_sold_28) ?_
  (first | exact q | (simp only [Option.getD_some]; exact q))
theorem w_Model_sold_30 {rod : Nat → Nat × (Nat → Int32)} {d : Nat} {Q : Option MV → MH → Prop} {u1 : Option MV} {u2 : Option MV} {u3 : Option MV} {u4 : Option MV} {u5 : Option MV} {h : MH} (L : Lay h.2)  {Q1 : Option MV → MH → Prop} (c : Wc rod d 227 [.inr (.inr (.inl (some 84)))] h Q1) (k : ∀ r1 h2, Q1 r1 h2 → Wb rod d B_Model_sold 34 [some (.inr (.inr (.inl (some 84)))), u1, u2, u3, u4, u5] (r1.toList ++ []) h2 Q) : Wb rod d B_Model_sold 30 [some (.inr (.inr (.inl (some 84)))), u1, u2, u3, u4, u5] [] h Q := by
  refine Wb.call (fun _ _ _ _ => b_Model_sold_30 (Lay.o84 L)) (Q1 := Q1) ?_ ?_
  · (first | exact c | (simp only [Option.getD_some]; exact c))
  · (first | exact k | (simp only [Option.getD_some]; exact k))
theorem w_Model_sold_34 {rod : Nat → Nat × (Nat → Int32)} {d : Nat} {Q : Option MV → MH → Prop} {u0 : Option MV} {u1 : Option MV} {u2 : Option MV} {u3 : Option MV} {u4 : Option MV} {u5 : Option MV} {h : MH}  (g0 : okl [u0, u1, u2, u3, u4, u5] 4 = true) (k : Wb rod d B_Model_sold 40 [u0, u1, u2, u3, some (.inl (0 : Int32)), some (.inl (0 : Int32))] [] h Q) : Wb rod d B_Model_sold 34 [u0, u1, u2, u3, u4, u5] [] h Q := by
  refine Wb.go (fun r hr q => b_Model_sold_34 g0 ?_) k
  (first | exact q | (simp only [Option.getD_some]; exact q))
theorem w_Model_sold_40 {rod : Nat → Nat × (Nat → Int32)} {d : Nat} {Q : Option MV → MH → Prop} {u1 : Option MV} {u2 : Option MV} {u3 : Option MV} {u4 : Option MV} {x5 : Int32} {h : MH} (L : Lay h.2)  (k1 : (h.1 84 14).toInt ≤ x5.toInt → Wb rod d B_Model_sold 76 [some (.inr (.inr (.inl (some 84)))), u1, u2, u3, u4, some (.inl x5)] [] h Q) (k2 : ¬ (h.1 84 14).toInt ≤ x5.toInt → Wb rod d B_Model_sold 49 [some (.inr (.inr (.inl (some 84)))), u1, u2, u3, u4, some (.inl x5)] [] h Q) : Wb rod d B_Model_sold 40 [some (.inr (.inr (.inl (some 84)))), u1, u2, u3, u4, some (.inl x5)] [] h Q := by
  refine Wb.br (fun _ _ => b_Model_sold_40 (Lay.o84 L)) (fun c => ?_) (fun c => ?_)
  · have c : (decide ((h.1 84 14) ≤ x5)) = true := by first | exact c | (simp only [Option.getD_some] at c; exact c)
    (first | exact (k1 (c_let c)) | (simp only [Option.getD_some]; exact (k1 (c_let c))))
  · have c : (decide ((h.1 84 14) ≤ x5)) = false := by first | exact c | (simp only [Option.getD_some] at c; exact c)
    (first | exact (k2 (c_lef c)) | (simp only [Option.getD_some]; exact (k2 (c_lef c))))
theorem w_Model_sold_49 {rod : Nat → Nat × (Nat → Int32)} {d : Nat} {Q : Option MV → MH → Prop} {u1 : Option MV} {x2 : Int32} {x3 : Int32} {x4 : Int32} {x5 : Int32} {h : MH} (L : Lay h.2)  {Q1 : Option MV → MH → Prop} (c : Wc rod d 228 [.inr (.inr (.inl (some 84))), .inl x5, .inl x2, .inl x3] h Q1) (k : ∀ r1 h2, Q1 r1 h2 → Wb rod d B_Model_sold 59 [some (.inr (.inr (.inl (some 84)))), u1, some (.inl x2), some (.inl x3), some (.inl x4), some (.inl x5)] (r1.toList ++ [.inl x4]) h2 Q) : Wb rod d B_Model_sold 49 [some (.inr (.inr (.inl (some 84)))), u1, some (.inl x2), some (.inl x3), some (.inl x4), some (.inl x5)] [] h Q := by
  refine Wb.call (fun _ _ _ _ => b_Model_sold_49 (Lay.o84 L)) (Q1 := Q1) ?_ ?_
  · (first | exact c | (simp only [Option.getD_some]; exact c))
  · (first | exact k | (simp only [Option.getD_some]; exact k))
theorem w_Model_sold_59 {rod : Nat → Nat × (Nat → Int32)} {d : Nat} {Q : Option MV → MH → Prop} {u0 : Option MV} {u1 : Option MV} {u2 : Option MV} {u3 : Option MV} {u4 : Option MV} {u5 : Option MV} {xs0 : Int32} {xs1 : Int32} {h : MH}   (k1 : xs1.toInt = 0 → Wb rod d B_Model_sold 66 [u0, u1, u2, u3, u4, u5] [.inl xs0] h Q) (k2 : ¬ xs1.toInt = 0 → Wb rod d B_Model_sold 62 [u0, u1, u2, u3, u4, u5] [.inl xs0] h Q) : Wb rod d B_Model_sold 59 [u0, u1, u2, u3, u4, u5] [.inl xs1, .inl xs0] h Q := by
  refine Wb.br (fun _ _ => b_Model_sold_59) (fun c => ?_) (fun c => ?_)
  · have c : (decide (xs1 = 0)) = true := by first | exact c | (simp only [Option.getD_some] at c; exact c)
    (first | exact (k1 (c_eqt c)) | (simp only [Option.getD_some]; exact (k1 (c_eqt c))))
  · have c : (decide (xs1 = 0)) = false := by first | exact c | (simp only [Option.getD_some] at c; exact c)
    (first | exact (k2 (c_eqf c)) | (simp only [Option.getD_some]; exact (k2 (c_eqf c))))
theorem w_Model_sold_62 {rod : Nat → Nat × (Nat → Int32)} {d : Nat} {Q : Option MV → MH → Prop} {u0 : Option MV} {u1 : Option MV} {u2 : Option MV} {u3 : Option MV} {u4 : Option MV} {u5 : Option MV} {xs0 : Int32} {h : MH}   (k : Wb rod d B_Model_sold 67 [u0, u1, u2, u3, u4, u5] [.inl (1 : Int32), .inl xs0] h Q) : Wb rod d B_Model_sold 62 [u0, u1, u2, u3, u4, u5] [.inl xs0] h Q := by
  refine Wb.go (fun r hr q => b_Model_sold_62 ?_) k
  (first | exact q | (simp only [Option.getD_some]; exact q))
theorem w_Model_sold_66 {rod : Nat → Nat × (Nat → Int32)} {d : Nat} {Q : Option MV → MH → Prop} {u0 : Option MV} {u1 : Option MV} {u2 : Option MV} {u3 : Option MV} {u4 : Option MV} {u5 : Option MV} {xs0 : Int32} {h : MH}   (k : Wb rod d B_Model_sold 67 [u0, u1, u2, u3, u4, u5] [.inl (0 : Int32), .inl xs0] h Q) : Wb rod d B_Model_sold 66 [u0, u1, u2, u3, u4, u5] [.inl xs0] h Q := by
  refine Wb.go (fun r hr q => b_Model_sold_66 ?_) k
  (first | exact q | (simp only [Option.getD_some]; exact q))
theorem w_Model_sold_67 {rod : Nat → Nat × (Nat → Int32)} {d : Nat} {Q : Option MV → MH → Prop} {u0 : Option MV} {u1 : Option MV} {u2 : Option MV} {u3 : Option MV} {u4 : Option MV} {x5 : Int32} {xs0 : Int32} {xs1 : Int32} {h : MH}  (g0 : okl [u0, u1, u2, u3, u4, some (.inl x5)] 4 = true) (k : Wb rod d B_Model_sold 40 [u0, u1, u2, u3, some (.inl (xs0 + xs1)), some (.inl (x5 + 1))] [] h Q) : Wb rod d B_Model_sold 67 [u0, u1, u2, u3, u4, some (.inl x5)] [.inl xs1, .inl xs0] h Q := by
  refine Wb.go (fun r hr q => b_Model_sold_67 g0 ?_) k
  (first | exact q | (simp only [Option.getD_some]; exact q))
theorem w_Model_sold_76 {rod : Nat → Nat × (Nat → Int32)} {d : Nat} {Q : Option MV → MH → Prop} {u0 : Option MV} {u1 : Option MV} {u2 : Option MV} {u3 : Option MV} {x4 : Int32} {u5 : Option MV} {h : MH}   (q : Q (some (.inl x4)) h) : Wb rod d B_Model_sold 76 [u0, u1, u2, u3, some (.inl x4), u5] [] h Q := by
  refine Wb.ret (b_Model_sold_76) ?_
  (first | exact q | (simp only [Option.getD_some]; exact q))
theorem n_Model_round {rod : Nat → Nat × (Nat → Int32)} {d : Nat} {Q : Option MV → MH → Prop} {x1 : Int32} {x2 : Int32} {h : MH} (k : Wb rod d B_Model_round 0 [some (.inr (.inr (.inl (some 84)))), some (.inl x1), some (.inl x2), none] [] h Q) : Wc rod (d + 1) 256 [.inr (.inr (.inl (some 84))), .inl x1, .inl x2] h Q := Wc.en (fun _ _ => e_Model_round) k
theorem w_Model_round_0 {rod : Nat → Nat × (Nat → Int32)} {d : Nat} {Q : Option MV → MH → Prop} {x1 : Int32} {u2 : Option MV} {u3 : Option MV} {h : MH} (L : Lay h.2)  {Q1 : Option MV → MH → Prop} (c : Wc rod d 219 [.inr (.inr (.inl (some 84))), .inl x1] h Q1) (k : ∀ r1 h2, Q1 r1 h2 → Wb rod d B_Model_round 5 [some (.inr (.inr (.inl (some 84)))), some (.inl x1), u2, u3] (r1.toList ++ []) h2 Q) : Wb rod d B_Model_round 0 [some (.inr (.inr (.inl (some 84)))), some (.inl x1), u2, u3] [] h Q := by
  refine Wb.call (fun _ _ _ _ => b_Model_round_0 (Lay.o84 L)) (Q1 := Q1) ?_ ?_
  · (first | exact c | (simp only [Option.getD_some]; exact c))
  · (first | exact k | (simp only [Option.getD_some]; exact k))
theorem w_Model_round_5 {rod : Nat → Nat × (Nat → Int32)} {d : Nat} {Q : Option MV → MH → Prop} {u0 : Option MV} {u1 : Option MV} {u2 : Option MV} {u3 : Option MV} {xs0 : Int32} {h : MH}   (k1 : xs0.toInt = 0 → Wb rod d B_Model_round 13 [u0, u1, u2, u3] [] h Q) (k2 : ¬ xs0.toInt = 0 → Wb rod d B_Model_round 8 [u0, u1, u2, u3] [] h Q) : Wb rod d B_Model_round 5 [u0, u1, u2, u3] [.inl xs0] h Q := by
  refine Wb.br (fun _ _ => b_Model_round_5) (fun c => ?_) (fun c => ?_)
  · have c : (decide (xs0 = 0)) = true := by first | exact c | (simp only [Option.getD_some] at c; exact c)
    (first | exact (k1 (c_eqt c)) | (simp only [Option.getD_some]; exact (k1 (c_eqt c))))
  · have c : (decide (xs0 = 0)) = false := by first | exact c | (simp only [Option.getD_some] at c; exact c)
    (first | exact (k2 (c_eqf c)) | (simp only [Option.getD_some]; exact (k2 (c_eqf c))))
theorem w_Model_round_8 {rod : Nat → Nat × (Nat → Int32)} {d : Nat} {Q : Option MV → MH → Prop} {u0 : Option MV} {u1 : Option MV} {x2 : Int32} {u3 : Option MV} {h : MH}   (k1 : (-1) ≤ x2.toInt → Wb rod d B_Model_round 15 [u0, u1, some (.inl x2), u3] [] h Q) (k2 : ¬ (-1) ≤ x2.toInt → Wb rod d B_Model_round 13 [u0, u1, some (.inl x2), u3] [] h Q) : Wb rod d B_Model_round 8 [u0, u1, some (.inl x2), u3] [] h Q := by
  refine Wb.br (fun _ _ => b_Model_round_8) (fun c => ?_) (fun c => ?_)
  · have c : (decide ((-1 : Int32) ≤ x2)) = true := by first | exact c | (simp only [Option.getD_some] at c; exact c)
    (first | exact (k1 (c_let c)) | (simp only [Option.getD_some]; exact (k1 (c_let c))))
  · have c : (decide ((-1 : Int32) ≤ x2)) = false := by first | exact c | (simp only [Option.getD_some] at c; exact c)
    (first | exact (k2 (c_lef c)) | (simp only [Option.getD_some]; exact (k2 (c_lef c))))
theorem w_Model_round_13 {rod : Nat → Nat × (Nat → Int32)} {d : Nat} {Q : Option MV → MH → Prop} {u0 : Option MV} {u1 : Option MV} {u2 : Option MV} {u3 : Option MV} {h : MH}   (q : Q (some (.inl (-1 : Int32))) h) : Wb rod d B_Model_round 13 [u0, u1, u2, u3] [] h Q := by
  refine Wb.ret (b_Model_round_13) ?_
  (first | exact q | (simp only [Option.getD_some]; exact q))
theorem w_Model_round_15 {rod : Nat → Nat × (Nat → Int32)} {d : Nat} {Q : Option MV → MH → Prop} {u1 : Option MV} {u2 : Option MV} {u3 : Option MV} {h : MH} (L : Lay h.2)  {Q1 : Option MV → MH → Prop} (c : Wc rod d 257 [.inr (.inr (.inl (some 84)))] h Q1) (k : ∀ r1 h2, Q1 r1 h2 → Wb rod d B_Model_round 19 [some (.inr (.inr (.inl (some 84)))), u1, u2, u3] (r1.toList ++ []) h2 Q) : Wb rod d B_Model_round 15 [some (.inr (.inr (.inl (some 84)))), u1, u2, u3] [] h Q := by
  refine Wb.call (fun _ _ _ _ => b_Model_round_15 (Lay.o84 L)) (Q1 := Q1) ?_ ?_
  · (first | exact c | (simp only [Option.getD_some]; exact c))
  · (first | exact k | (simp only [Option.getD_some]; exact k))
theorem w_Model_round_19 {rod : Nat → Nat × (Nat → Int32)} {d : Nat} {Q : Option MV → MH → Prop} {u0 : Option MV} {u1 : Option MV} {u2 : Option MV} {u3 : Option MV} {xs0 : Int32} {h : MH}  (g0 : okl [u0, u1, u2, u3] 3 = true) (k1 : 9999 ≤ xs0.toInt → Wb rod d B_Model_round 35 [u0, u1, u2, some (.inl xs0)] [] h Q) (k2 : ¬ 9999 ≤ xs0.toInt → Wb rod d B_Model_round 27 [u0, u1, u2, some (.inl xs0)] [] h Q) : Wb rod d B_Model_round 19 [u0, u1, u2, u3] [.inl xs0] h Q := by
  refine Wb.br (fun _ _ => b_Model_round_19 g0) (fun c => ?_) (fun c => ?_)
  · have c : (decide ((9999 : Int32) ≤ xs0)) = true := by first | exact c | (simp only [Option.getD_some] at c; exact c)
    (first | exact (k1 (c_let c)) | (simp only [Option.getD_some]; exact (k1 (c_let c))))
  · have c : (decide ((9999 : Int32) ≤ xs0)) = false := by first | exact c | (simp only [Option.getD_some] at c; exact c)
    (first | exact (k2 (c_lef c)) | (simp only [Option.getD_some]; exact (k2 (c_lef c))))
theorem w_Model_round_27 {rod : Nat → Nat × (Nat → Int32)} {d : Nat} {Q : Option MV → MH → Prop} {u1 : Option MV} {x2 : Int32} {u3 : Option MV} {h : MH} (L : Lay h.2)  (k1 : x2.toInt < (h.1 84 32).toInt → Wb rod d B_Model_round 37 [some (.inr (.inr (.inl (some 84)))), u1, some (.inl x2), u3] [] h Q) (k2 : ¬ x2.toInt < (h.1 84 32).toInt → Wb rod d B_Model_round 35 [some (.inr (.inr (.inl (some 84)))), u1, some (.inl x2), u3] [] h Q) : Wb rod d B_Model_round 27 [some (.inr (.inr (.inl (some 84)))), u1, some (.inl x2), u3] [] h Q := by
  refine Wb.br (fun _ _ => b_Model_round_27 (Lay.o84 L)) (fun c => ?_) (fun c => ?_)
  · have c : (decide (x2 < (h.1 84 32))) = true := by first | exact c | (simp only [Option.getD_some] at c; exact c)
    (first | exact (k1 (c_ltt c)) | (simp only [Option.getD_some]; exact (k1 (c_ltt c))))
  · have c : (decide (x2 < (h.1 84 32))) = false := by first | exact c | (simp only [Option.getD_some] at c; exact c)
    (first | exact (k2 (c_ltf c)) | (simp only [Option.getD_some]; exact (k2 (c_ltf c))))
theorem w_Model_round_35 {rod : Nat → Nat × (Nat → Int32)} {d : Nat} {Q : Option MV → MH → Prop} {u0 : Option MV} {u1 : Option MV} {u2 : Option MV} {u3 : Option MV} {h : MH}   (q : Q (some (.inl (-1 : Int32))) h) : Wb rod d B_Model_round 35 [u0, u1, u2, u3] [] h Q := by
  refine Wb.ret (b_Model_round_35) ?_
  (first | exact q | (simp only [Option.getD_some]; exact q))
theorem w_Model_round_37 {rod : Nat → Nat × (Nat → Int32)} {d : Nat} {Q : Option MV → MH → Prop} {u0 : Option MV} {u1 : Option MV} {x2 : Int32} {u3 : Option MV} {h : MH}   (k1 : ¬ x2.toInt = (-1) → Wb rod d B_Model_round 46 [u0, u1, some (.inl x2), u3] [] h Q) (k2 : x2.toInt = (-1) → Wb rod d B_Model_round 42 [u0, u1, some (.inl x2), u3] [] h Q) : Wb rod d B_Model_round 37 [u0, u1, some (.inl x2), u3] [] h Q := by
  refine Wb.br (fun _ _ => b_Model_round_37) (fun c => ?_) (fun c => ?_)
  · have c : (!(decide (x2 = (-1 : Int32)))) = true := by first | exact c | (simp only [Option.getD_some] at c; exact c)
    (first | exact (k1 (c_net c)) | (simp only [Option.getD_some]; exact (k1 (c_net c))))
  · have c : (!(decide (x2 = (-1 : Int32)))) = false := by first | exact c | (simp only [Option.getD_some] at c; exact c)
    (first | exact (k2 (c_nef c)) | (simp only [Option.getD_some]; exact (k2 (c_nef c))))
theorem w_Model_round_42 {rod : Nat → Nat × (Nat → Int32)} {d : Nat} {Q : Option MV → MH → Prop} {u0 : Option MV} {u1 : Option MV} {u2 : Option MV} {x3 : Int32} {h : MH}   (k : Wb rod d B_Model_round 52 [u0, u1, u2, some (.inl x3)] [.inl x3] h Q) : Wb rod d B_Model_round 42 [u0, u1, u2, some (.inl x3)] [] h Q := by
  refine Wb.go (fun r hr q => b_Model_round_42 ?_) k
  (first | exact q | (simp only [Option.getD_some]; exact q))
theorem w_Model_round_46 {rod : Nat → Nat × (Nat → Int32)} {d : Nat} {Q : Option MV → MH → Prop} {u1 : Option MV} {x2 : Int32} {u3 : Option MV} {h : MH} (L : Lay h.2) (g0 : 0 ≤ x2.toInt ∧ x2.toInt < 5) (k : Wb rod d B_Model_round 52 [some (.inr (.inr (.inl (some 84)))), u1, some (.inl x2), u3] [.inl (h.1 94 x2.toNatClampNeg)] h Q) : Wb rod d B_Model_round 46 [some (.inr (.inr (.inl (some 84)))), u1, some (.inl x2), u3] [] h Q := by
  refine Wb.go (fun r hr q => b_Model_round_46 (Lay.o84 L) (Lay.a84_31 L g0) ?_) k
  (first | exact q | (simp only [Option.getD_some, (Lay.r84_31 L)]; exact q))
theorem w_Model_round_52 {rod : Nat → Nat × (Nat → Int32)} {d : Nat} {Q : Option MV → MH → Prop} {u0 : Option MV} {u1 : Option MV} {u2 : Option MV} {u3 : Option MV} {xs0 : Int32} {h : MH}   (q : Q (some (.inl xs0)) h) : Wb rod d B_Model_round 52 [u0, u1, u2, u3] [.inl xs0] h Q := by
  refine Wb.ret (b_Model_round_52) ?_
  (first | exact q | (simp only [Option.getD_some]; exact q))
theorem n_Model_rounds {rod : Nat → Nat × (Nat → Int32)} {d : Nat} {Q : Option MV → MH → Prop}  {h : MH} (k : Wb rod d B_Model_rounds 0 [some (.inr (.inr (.inl (some 84)))), none, none, none, none, none, none] [] h Q) : Wc rod (d + 1) 257 [.inr (.inr (.inl (some 84)))] h Q := Wc.en (fun _ _ => e_Model_rounds) k
theorem w_Model_rounds_0 {rod : Nat → Nat × (Nat → Int32)} {d : Nat} {Q : Option MV → MH → Prop} {u1 : Option MV} {u2 : Option MV} {u3 : Option MV} {u4 : Option MV} {u5 : Option MV} {u6 : Option MV} {h : MH} (L : Lay h.2)  {Q1 : Option MV → MH → Prop} (c : Wc rod d 247 [.inr (.inr (.inl (some 84))), .inl (0 : Int32)] h Q1) (k : ∀ r1 h2, Q1 r1 h2 → Wb rod d B_Model_rounds 5 [some (.inr (.inr (.inl (some 84)))), u1, u2, u3, u4, u5, u6] (r1.toList ++ []) h2 Q) : Wb rod d B_Model_rounds 0 [some (.inr (.inr (.inl (some 84)))), u1, u2, u3, u4, u5, u6] [] h Q := by
  refine Wb.call (fun _ _ _ _ => b_Model_rounds_0 (Lay.o84 L)) (Q1 := Q1) ?_ ?_
  · (first | exact c | (simp only [Option.getD_some]; exact c))
  · (first | exact k | (simp only [Option.getD_some]; exact k))
theorem w_Model_rounds_5 {rod : Nat → Nat × (Nat → Int32)} {d : Nat} {Q : Option MV → MH → Prop} {u1 : Option MV} {u2 : Option MV} {u3 : Option MV} {u4 : Option MV} {u5 : Option MV} {u6 : Option MV} {h : MH} (L : Lay h.2)  (k : Wb rod d B_Model_rounds 10 [some (.inr (.inr (.inl (some 84)))), u1, u2, u3, u4, u5, u6] [] (sI h 84 33 (0 : Int32)) Q) : Wb rod d B_Model_rounds 5 [some (.inr (.inr (.inl (some 84)))), u1, u2, u3, u4, u5, u6] [] h Q := by
  refine Wb.go (fun r hr q => b_Model_rounds_5 (Lay.o84 L) ?_) k
  (first | exact q | (simp only [Option.getD_some]; exact q))
theorem w_Model_rounds_10 {rod : Nat → Nat × (Nat → Int32)} {d : Nat} {Q : Option MV → MH → Prop} {u0 : Option MV} {u1 : Option MV} {u2 : Option MV} {u3 : Option MV} {u4 : Option MV} {u5 : Option MV} {u6 : Option MV} {h : MH}  (g0 : okl [u0, u1, u2, u3, u4, u5, u6] 1 = true) (k : Wb rod d B_Model_rounds 14 [u0, some (.inl (0 : Int32)), some (.inl (1 : Int32)), u3, u4, u5, u6] [] h Q) : Wb rod d B_Model_rounds 10 [u0, u1, u2, u3, u4, u5, u6] [] h Q := by
  refine Wb.go (fun r hr q => b_Model_rounds_10 g0 ?_) k
  (first | exact q | (simp only [Option.getD_some]; exact q))
theorem w_Model_rounds_14 {rod : Nat → Nat × (Nat → Int32)} {d : Nat} {Q : Option MV → MH → Prop} {u1 : Option MV} {x2 : Int32} {u3 : Option MV} {u4 : Option MV} {u5 : Option MV} {u6 : Option MV} {h : MH} (L : Lay h.2)  (k1 : (h.1 84 13).toInt ≤ x2.toInt → Wb rod d B_Model_rounds 86 [some (.inr (.inr (.inl (some 84)))), u1, some (.inl x2), u3, u4, u5, u6] [] h Q) (k2 : ¬ (h.1 84 13).toInt ≤ x2.toInt → Wb rod d B_Model_rounds 22 [some (.inr (.inr (.inl (some 84)))), u1, some (.inl x2), u3, u4, u5, u6] [] h Q) : Wb rod d B_Model_rounds 14 [some (.inr (.inr (.inl (some 84)))), u1, some (.inl x2), u3, u4, u5, u6] [] h Q := by
  refine Wb.br (fun _ _ => b_Model_rounds_14 (Lay.o84 L)) (fun c => ?_) (fun c => ?_)
  · have c : (decide ((h.1 84 13) ≤ x2)) = true := by first | exact c | (simp only [Option.getD_some] at c; exact c)
    (first | exact (k1 (c_let c)) | (simp only [Option.getD_some]; exact (k1 (c_let c))))
  · have c : (decide ((h.1 84 13) ≤ x2)) = false := by first | exact c | (simp only [Option.getD_some] at c; exact c)
    (first | exact (k2 (c_lef c)) | (simp only [Option.getD_some]; exact (k2 (c_lef c))))
theorem w_Model_rounds_22 {rod : Nat → Nat × (Nat → Int32)} {d : Nat} {Q : Option MV → MH → Prop} {u1 : Option MV} {x2 : Int32} {u3 : Option MV} {u4 : Option MV} {u5 : Option MV} {u6 : Option MV} {h : MH} (L : Lay h.2)  {Q1 : Option MV → MH → Prop} (c : Wc rod d 236 [.inr (.inr (.inl (some 84))), .inl x2] h Q1) (k : ∀ r1 h2, Q1 r1 h2 → Wb rod d B_Model_rounds 27 [some (.inr (.inr (.inl (some 84)))), u1, some (.inl x2), u3, u4, u5, u6] (r1.toList ++ []) h2 Q) : Wb rod d B_Model_rounds 22 [some (.inr (.inr (.inl (some 84)))), u1, some (.inl x2), u3, u4, u5, u6] [] h Q := by
  refine Wb.call (fun _ _ _ _ => b_Model_rounds_22 (Lay.o84 L)) (Q1 := Q1) ?_ ?_
  · (first | exact c | (simp only [Option.getD_some]; exact c))
  · (first | exact k | (simp only [Option.getD_some]; exact k))
theorem w_Model_rounds_27 {rod : Nat → Nat × (Nat → Int32)} {d : Nat} {Q : Option MV → MH → Prop} {u0 : Option MV} {u1 : Option MV} {u2 : Option MV} {u3 : Option MV} {u4 : Option MV} {u5 : Option MV} {u6 : Option MV} {xs0 : Int32} {h : MH}   (k1 : ¬ xs0.toInt = 0 → Wb rod d B_Model_rounds 46 [u0, u1, u2, u3, u4, u5, u6] [] h Q) (k2 : xs0.toInt = 0 → Wb rod d B_Model_rounds 30 [u0, u1, u2, u3, u4, u5, u6] [] h Q) : Wb rod d B_Model_rounds 27 [u0, u1, u2, u3, u4, u5, u6] [.inl xs0] h Q := by
  refine Wb.br (fun _ _ => b_Model_rounds_27) (fun c => ?_) (fun c => ?_)
  · have c : (!(decide (xs0 = 0))) = true := by first | exact c | (simp only [Option.getD_some] at c; exact c)
    (first | exact (k1 (c_net c)) | (simp only [Option.getD_some]; exact (k1 (c_net c))))
  · have c : (!(decide (xs0 = 0))) = false := by first | exact c | (simp only [Option.getD_some] at c; exact c)
    (first | exact (k2 (c_nef c)) | (simp only [Option.getD_some]; exact (k2 (c_nef c))))
theorem w_Model_rounds_30 {rod : Nat → Nat × (Nat → Int32)} {d : Nat} {Q : Option MV → MH → Prop} {u1 : Option MV} {x2 : Int32} {u3 : Option MV} {u4 : Option MV} {u5 : Option MV} {u6 : Option MV} {h : MH} (L : Lay h.2) (g0 : 0 ≤ x2.toInt ∧ x2.toInt < 36) (k1 : 9999 ≤ (h.1 92 x2.toNatClampNeg).toInt → Wb rod d B_Model_rounds 46 [some (.inr (.inr (.inl (some 84)))), u1, some (.inl x2), u3, u4, u5, u6] [] h Q) (k2 : ¬ 9999 ≤ (h.1 92 x2.toNatClampNeg).toInt → Wb rod d B_Model_rounds 42 [some (.inr (.inr (.inl (some 84)))), u1, some (.inl x2), u3, u4, u5, u6] [] h Q) : Wb rod d B_Model_rounds 30 [some (.inr (.inr (.inl (some 84)))), u1, some (.inl x2), u3, u4, u5, u6] [] h Q := by
  refine Wb.br (fun _ _ => b_Model_rounds_30 (Lay.o84 L) (Lay.a84_29 L g0)) (fun c => ?_) (fun c => ?_)
  · have c : (decide ((9999 : Int32) ≤ (h.1 92 x2.toNatClampNeg))) = true := by first | exact c | (simp only [Option.getD_some, (Lay.r84_29 L)] at c; exact c)
    (first | exact (k1 (c_let c)) | (simp only [Option.getD_some, (Lay.r84_29 L)]; exact (k1 (c_let c))))
  · have c : (decide ((9999 : Int32) ≤ (h.1 92 x2.toNatClampNeg))) = false := by first | exact c | (simp only [Option.getD_some, (Lay.r84_29 L)] at c; exact c)
    (first | exact (k2 (c_lef c)) | (simp only [Option.getD_some, (Lay.r84_29 L)]; exact (k2 (c_lef c))))
theorem w_Model_rounds_42 {rod : Nat → Nat × (Nat → Int32)} {d : Nat} {Q : Option MV → MH → Prop} {u0 : Option MV} {u1 : Option MV} {u2 : Option MV} {u3 : Option MV} {u4 : Option MV} {u5 : Option MV} {u6 : Option MV} {h : MH}   (k : Wb rod d B_Model_rounds 47 [u0, u1, u2, u3, u4, u5, u6] [.inl (1 : Int32)] h Q) : Wb rod d B_Model_rounds 42 [u0, u1, u2, u3, u4, u5, u6] [] h Q := by
  refine Wb.go (fun r hr q => b_Model_rounds_42 ?_) k
  (first | exact q | (simp only [Option.getD_some]; exact q))
theorem w_Model_rounds_46 {rod : Nat → Nat × (Nat → Int32)} {d : Nat} {Q : Option MV → MH → Prop} {u0 : Option MV} {u1 : Option MV} {u2 : Option MV} {u3 : Option MV} {u4 : Option MV} {u5 : Option MV} {u6 : Option MV} {h : MH}   (k : Wb rod d B_Model_rounds 47 [u0, u1, u2, u3, u4, u5, u6] [.inl (0 : Int32)] h Q) : Wb rod d B_Model_rounds 46 [u0, u1, u2, u3, u4, u5, u6] [] h Q := by
  refine Wb.go (fun r hr q => b_Model_rounds_46 ?_) k
  (first | exact q | (simp only [Option.getD_some]; exact q))
theorem w_Model_rounds_47 {rod : Nat → Nat × (Nat → Int32)} {d : Nat} {Q : Option MV → MH → Prop} {u1 : Option MV} {u2 : Option MV} {u3 : Option MV} {u4 : Option MV} {u5 : Option MV} {u6 : Option MV} {xs0 : Int32} {h : MH} (L : Lay h.2) (g0 : okl [some (.inr (.inr (.inl (some 84)))), u1, u2, u3, u4, u5, u6] 3 = true) (k1 : xs0.toInt = 0 → Wb rod d B_Model_rounds 63 [some (.inr (.inr (.inl (some 84)))), u1, u2, some (.inl xs0), u4, u5, u6] [.inl (h.1 84 33), .inr (.inr (.inl (some 84)))] h Q) (k2 : ¬ xs0.toInt = 0 → Wb rod d B_Model_rounds 57 [some (.inr (.inr (.inl (some 84)))), u1, u2, some (.inl xs0), u4, u5, u6] [.inl (h.1 84 33), .inr (.inr (.inl (some 84)))] h Q) : Wb rod d B_Model_rounds 47 [some (.inr (.inr (.inl (some 84)))), u1, u2, u3, u4, u5, u6] [.inl xs0] h Q := by
  refine Wb.br (fun _ _ => b_Model_rounds_47 g0 (Lay.o84 L)) (fun c => ?_) (fun c => ?_)
  · have c : (decide (xs0 = 0)) = true := by first | exact c | (simp only [Option.getD_some] at c; exact c)
    (first | exact (k1 (c_eqt c)) | (simp only [Option.getD_some]; exact (k1 (c_eqt c))))
  · have c : (decide (xs0 = 0)) = false := by first | exact c | (simp only [Option.getD_some] at c; exact c)
    (first | exact (k2 (c_eqf c)) | (simp only [Option.getD_some]; exact (k2 (c_eqf c))))
theorem w_Model_rounds_57 {rod : Nat → Nat × (Nat → Int32)} {d : Nat} {Q : Option MV → MH → Prop} {u0 : Option MV} {u1 : Option MV} {x2 : Int32} {u3 : Option MV} {u4 : Option MV} {u5 : Option MV} {u6 : Option MV} {xs1 : Int32} {h : MH}   (k : Wb rod d B_Model_rounds 64 [u0, u1, some (.inl x2), u3, u4, u5, u6] [.inl ((1 : Int32) <<< (x2 &&& 31)), .inl xs1, .inr (.inr (.inl (some 84)))] h Q) : Wb rod d B_Model_rounds 57 [u0, u1, some (.inl x2), u3, u4, u5, u6] [.inl xs1, .inr (.inr (.inl (some 84)))] h Q := by
  refine Wb.go (fun r hr q => b_Model_rounds_57 ?_) k
  (first | exact q | (simp only [Option.getD_some]; exact q))
theorem w_Model_rounds_63 {rod : Nat → Nat × (Nat → Int32)} {d : Nat} {Q : Option MV → MH → Prop} {u0 : Option MV} {u1 : Option MV} {u2 : Option MV} {u3 : Option MV} {u4 : Option MV} {u5 : Option MV} {u6 : Option MV} {xs1 : Int32} {h : MH}   (k : Wb rod d B_Model_rounds 64 [u0, u1, u2, u3, u4, u5, u6] [.inl (0 : Int32), .inl xs1, .inr (.inr (.inl (some 84)))] h Q) : Wb rod d B_Model_rounds 63 [u0, u1, u2, u3, u4, u5, u6] [.inl xs1, .inr (.inr (.inl (some 84)))] h Q := by
  refine Wb.go (fun r hr q => b_Model_rounds_63 ?_) k
  (first | exact q | (simp only [Option.getD_some]; exact q))
theorem w_Model_rounds_64 {rod : Nat → Nat × (Nat → Int32)} {d : Nat} {Q : Option MV → MH → Prop} {u0 : Option MV} {u1 : Option MV} {u2 : Option MV} {u3 : Option MV} {u4 : Option MV} {u5 : Option MV} {u6 : Option MV} {xs1 : Int32} {xs2 : Int32} {h : MH} (L : Lay h.2)  (k : Wb rod d B_Model_rounds 68 [u0, u1, u2, u3, u4, u5, u6] [] (sI h 84 33 (xs1 ||| xs2)) Q) : Wb rod d B_Model_rounds 64 [u0, u1, u2, u3, u4, u5, u6] [.inl xs2, .inl xs1, .inr (.inr (.inl (some 84)))] h Q := by
  refine Wb.go (fun r hr q => b_Model_rounds_64 (Lay.o84 L) ?_) k
  (first | exact q | (simp only [Option.getD_some]; exact q))
theorem w_Model_rounds_68 {rod : Nat → Nat × (Nat → Int32)} {d : Nat} {Q : Option MV → MH → Prop} {u0 : Option MV} {x1 : Int32} {u2 : Option MV} {x3 : Int32} {u4 : Option MV} {u5 : Option MV} {u6 : Option MV} {h : MH}   (k1 : x3.toInt = 0 → Wb rod d B_Model_rounds 77 [u0, some (.inl x1), u2, some (.inl x3), u4, u5, u6] [.inl x1] h Q) (k2 : ¬ x3.toInt = 0 → Wb rod d B_Model_rounds 73 [u0, some (.inl x1), u2, some (.inl x3), u4, u5, u6] [.inl x1] h Q) : Wb rod d B_Model_rounds 68 [u0, some (.inl x1), u2, some (.inl x3), u4, u5, u6] [] h Q := by
  refine Wb.br (fun _ _ => b_Model_rounds_68) (fun c => ?_) (fun c => ?_)
  · have c : (decide (x3 = 0)) = true := by first | exact c | (simp only [Option.getD_some] at c; exact c)
    (first | exact (k1 (c_eqt c)) | (simp only [Option.getD_some]; exact (k1 (c_eqt c))))
  · have c : (decide (x3 = 0)) = false := by first | exact c | (simp only [Option.getD_some] at c; exact c)
    (first | exact (k2 (c_eqf c)) | (simp only [Option.getD_some]; exact (k2 (c_eqf c))))
theorem w_Model_rounds_73 {rod : Nat → Nat × (Nat → Int32)} {d : Nat} {Q : Option MV → MH → Prop} {u0 : Option MV} {u1 : Option MV} {u2 : Option MV} {u3 : Option MV} {u4 : Option MV} {u5 : Option MV} {u6 : Option MV} {xs0 : Int32} {h : MH}   (k : Wb rod d B_Model_rounds 78 [u0, u1, u2, u3, u4, u5, u6] [.inl (1 : Int32), .inl xs0] h Q) : Wb rod d B_Model_rounds 73 [u0, u1, u2, u3, u4, u5, u6] [.inl xs0] h Q := by
  refine Wb.go (fun r hr q => b_Model_rounds_73 ?_) k
  (first | exact q | (simp only [Option.getD_some]; exact q))
theorem w_Model_rounds_77 {rod : Nat → Nat × (Nat → Int32)} {d : Nat} {Q : Option MV → MH → Prop} {u0 : Option MV} {u1 : Option MV} {u2 : Option MV} {u3 : Option MV} {u4 : Option MV} {u5 : Option MV} {u6 : Option MV} {xs0 : Int32} {h : MH}   (k : Wb rod d B_Model_rounds 78 [u0, u1, u2, u3, u4, u5, u6] [.inl (0 : Int32), .inl xs0] h Q) : Wb rod d B_Model_rounds 77 [u0, u1, u2, u3, u4, u5, u6] [.inl xs0] h Q := by
  refine Wb.go (fun r hr q => b_Model_rounds_77 ?_) k
  (first | exact q | (simp only [Option.getD_some]; exact q))
theorem w_Model_rounds_78 {rod : Nat → Nat × (Nat → Int32)} {d : Nat} {Q : Option MV → MH → Prop} {u0 : Option MV} {u1 : Option MV} {x2 : Int32} {u3 : Option MV} {u4 : Option MV} {u5 : Option MV} {u6 : Option MV} {xs0 : Int32} {xs1 : Int32} {h : MH}  (g0 : okl [u0, u1, some (.inl x2), u3, u4, u5, u6] 1 = true) (k : Wb rod d B_Model_rounds 14 [u0, some (.inl (xs0 + xs1)), some (.inl (x2 + 1)), u3, u4, u5, u6] [] h Q) : Wb rod d B_Model_rounds 78 [u0, u1, some (.inl x2), u3, u4, u5, u6] [.inl xs1, .inl xs0] h Q := by
  refine Wb.go (fun r hr q => b_Model_rounds_78 g0 ?_) k
  (first | exact q | (simp only [Option.getD_some]; exact q))
theorem w_Model_rounds_86 {rod : Nat → Nat × (Nat → Int32)} {d : Nat} {Q : Option MV → MH → Prop} {u0 : Option MV} {u1 : Option MV} {u2 : Option MV} {u3 : Option MV} {u4 : Option MV} {u5 : Option MV} {u6 : Option MV} {h : MH}  (g0 : okl [u0, u1, u2, u3, u4, u5, u6] 2 = true) (k : Wb rod d B_Model_rounds 90 [u0, u1, some (.inl (1 : Int32)), some (.inl (0 : Int32)), u4, u5, u6] [] h Q) : Wb rod d B_Model_rounds 86 [u0, u1, u2, u3, u4, u5, u6] [] h Q := by
  refine Wb.go (fun r hr q => b_Model_rounds_86 g0 ?_) k
  (first | exact q | (simp only [Option.getD_some]; exact q))
theorem w_Model_rounds_90 {rod : Nat → Nat × (Nat → Int32)} {d : Nat} {Q : Option MV → MH → Prop} {u0 : Option MV} {x1 : Int32} {u2 : Option MV} {x3 : Int32} {u4 : Option MV} {u5 : Option MV} {u6 : Option MV} {h : MH}   (k1 : x1.toInt ≤ x3.toInt → Wb rod d B_Model_rounds 110 [u0, some (.inl x1), u2, some (.inl x3), u4, u5, u6] [] h Q) (k2 : ¬ x1.toInt ≤ x3.toInt → Wb rod d B_Model_rounds 95 [u0, some (.inl x1), u2, some (.inl x3), u4, u5, u6] [] h Q) : Wb rod d B_Model_rounds 90 [u0, some (.inl x1), u2, some (.inl x3), u4, u5, u6] [] h Q := by
  refine Wb.br (fun _ _ => b_Model_rounds_90) (fun c => ?_) (fun c => ?_)
  · have c : (decide (x1 ≤ x3)) = true := by first | exact c | (simp only [Option.getD_some] at c; exact c)
    (first | exact (k1 (c_let c)) | (simp only [Option.getD_some]; exact (k1 (c_let c))))
  · have c : (decide (x1 ≤ x3)) = false := by first | exact c | (simp only [Option.getD_some] at c; exact c)
    (first | exact (k2 (c_lef c)) | (simp only [Option.getD_some]; exact (k2 (c_lef c))))
theorem w_Model_rounds_95 {rod : Nat → Nat × (Nat → Int32)} {d : Nat} {Q : Option MV → MH → Prop} {u1 : Option MV} {x2 : Int32} {x3 : Int32} {u4 : Option MV} {u5 : Option MV} {u6 : Option MV} {h : MH} (L : Lay h.2) (g0 : okl [some (.inr (.inr (.inl (some 84)))), u1, some (.inl x2), some (.inl x3), u4, u5, u6] 2 = true) (k : Wb rod d B_Model_rounds 90 [some (.inr (.inr (.inl (some 84)))), u1, some (.inl (x2 * ((h.1 84 13) - (1 : Int32)))), some (.inl (x3 + 1)), u4, u5, u6] [] h Q) : Wb rod d B_Model_rounds 95 [some (.inr (.inr (.inl (some 84)))), u1, some (.inl x2), some (.inl x3), u4, u5, u6] [] h Q := by
  refine Wb.go (fun r hr q => b_Model_rounds_95 (Lay.o84 L) g0 ?_) k
  (first | exact q | (simp only [Option.getD_some]; exact q))
theorem w_Model_rounds_110 {rod : Nat → Nat × (Nat → Int32)} {d : Nat} {Q : Option MV → MH → Prop} {x1 : Int32} {u2 : Option MV} {u3 : Option MV} {u4 : Option MV} {u5 : Option MV} {u6 : Option MV} {h : MH} (L : Lay h.2) (g0 : okl [some (.inr (.inr (.inl (some 84)))), some (.inl x1), u2, u3, u4, u5, u6] 3 = true) (k : Wb rod d B_Model_rounds 119 [some (.inr (.inr (.inl (some 84)))), some (.inl x1), u2, some (.inl (9999 : Int32)), u4, u5, u6] [] (sI h 84 32 x1) Q) : Wb rod d B_Model_rounds 110 [some (.inr (.inr (.inl (some 84)))), some (.inl x1), u2, u3, u4, u5, u6] [] h Q := by
  refine Wb.go (fun r hr q => b_Model_rounds_110 g0 (Lay.o84 L) ?_) k
  (first | exact q | (simp only [Option.getD_some]; exact q))
theorem w_Model_rounds_119 {rod : Nat → Nat × (Nat → Int32)} {d : Nat} {Q : Option MV → MH → Prop} {u0 : Option MV} {u1 : Option MV} {u2 : Option MV} {u3 : Option MV} {u4 : Option MV} {u5 : Option MV} {u6 : Option MV} {h : MH}  (g0 : okl [u0, u1, u2, u3, u4, u5, u6] 4 = true) (k : Wb rod d B_Model_rounds 122 [u0, u1, u2, u3, some (.inl (0 : Int32)), u5, u6] [] h Q) : Wb rod d B_Model_rounds 119 [u0, u1, u2, u3, u4, u5, u6] [] h Q := by
  refine Wb.go (fun r hr q => b_Model_rounds_119 g0 ?_) k
  (first | exact q | (simp only [Option.getD_some]; exact q))
theorem w_Model_rounds_122 {rod : Nat → Nat × (Nat → Int32)} {d : Nat} {Q : Option MV → MH → Prop} {u0 : Option MV} {u1 : Option MV} {x2 : Int32} {u3 : Option MV} {x4 : Int32} {u5 : Option MV} {u6 : Option MV} {h : MH}   (k1 : x2.toInt ≤ x4.toInt → Wb rod d B_Model_rounds 195 [u0, u1, some (.inl x2), u3, some (.inl x4), u5, u6] [] h Q) (k2 : ¬ x2.toInt ≤ x4.toInt → Wb rod d B_Model_rounds 128 [u0, u1, some (.inl x2), u3, some (.inl x4), u5, u6] [] h Q) : Wb rod d B_Model_rounds 122 [u0, u1, some (.inl x2), u3, some (.inl x4), u5, u6] [] h Q := by
  refine Wb.br (fun _ _ => b_Model_rounds_122) (fun c => ?_) (fun c => ?_)
  · have c : (decide (x2 ≤ x4)) = true := by first | exact c | (simp only [Option.getD_some] at c; exact c)
    (first | exact (k1 (c_let c)) | (simp only [Option.getD_some]; exact (k1 (c_let c))))
  · have c : (decide (x2 ≤ x4)) = false := by first | exact c | (simp only [Option.getD_some] at c; exact c)
    (first | exact (k2 (c_lef c)) | (simp only [Option.getD_some]; exact (k2 (c_lef c))))
theorem w_Model_rounds_128 {rod : Nat → Nat × (Nat → Int32)} {d : Nat} {Q : Option MV → MH → Prop} {x1 : Int32} {u2 : Option MV} {u3 : Option MV} {x4 : Int32} {u5 : Option MV} {u6 : Option MV} {h : MH} (L : Lay h.2)  {Q1 : Option MV → MH → Prop} (c : Wc rod d 250 [.inr (.inr (.inl (some 84))), .inl x4, .inl x1] h Q1) (k : ∀ r1 h2, Q1 r1 h2 → Wb rod d B_Model_rounds 135 [some (.inr (.inr (.inl (some 84)))), some (.inl x1), u2, u3, some (.inl x4), u5, u6] (r1.toList ++ []) h2 Q) : Wb rod d B_Model_rounds 128 [some (.inr (.inr (.inl (some 84)))), some (.inl x1), u2, u3, some (.inl x4), u5, u6] [] h Q := by
  refine Wb.call (fun _ _ _ _ => b_Model_rounds_128 (Lay.o84 L)) (Q1 := Q1) ?_ ?_
  · (first | exact c | (simp only [Option.getD_some]; exact c))
  · (first | exact k | (simp only [Option.getD_some]; exact k))
theorem w_Model_rounds_135 {rod : Nat → Nat × (Nat → Int32)} {d : Nat} {Q : Option MV → MH → Prop} {u0 : Option MV} {u1 : Option MV} {u2 : Option MV} {u3 : Option MV} {u4 : Option MV} {u5 : Option MV} {u6 : Option MV} {xs0 : Int32} {h : MH}   (k1 : ¬ xs0.toInt = 0 → Wb rod d B_Model_rounds 141 [u0, u1, u2, u3, u4, u5, u6] [] h Q) (k2 : xs0.toInt = 0 → Wb rod d B_Model_rounds 138 [u0, u1, u2, u3, u4, u5, u6] [] h Q) : Wb rod d B_Model_rounds 135 [u0, u1, u2, u3, u4, u5, u6] [.inl xs0] h Q := by
  refine Wb.br (fun _ _ => b_Model_rounds_135) (fun c => ?_) (fun c => ?_)
  · have c : (!(decide (xs0 = 0))) = true := by first | exact c | (simp only [Option.getD_some] at c; exact c)
    (first | exact (k1 (c_net c)) | (simp only [Option.getD_some]; exact (k1 (c_net c))))
  · have c : (!(decide (xs0 = 0))) = false := by first | exact c | (simp only [Option.getD_some] at c; exact c)
    (first | exact (k2 (c_nef c)) | (simp only [Option.getD_some]; exact (k2 (c_nef c))))
theorem w_Model_rounds_138 {rod : Nat → Nat × (Nat → Int32)} {d : Nat} {Q : Option MV → MH → Prop} {u0 : Option MV} {u1 : Option MV} {u2 : Option MV} {u3 : Option MV} {u4 : Option MV} {u5 : Option MV} {u6 : Option MV} {h : MH}   (k : Wb rod d B_Model_rounds 189 [u0, u1, u2, u3, u4, u5, u6] [] h Q) : Wb rod d B_Model_rounds 138 [u0, u1, u2, u3, u4, u5, u6] [] h Q := by
  refine Wb.go (fun r hr q => b_Model_rounds_138 ?_) k
  (first | exact q | (simp only [Option.getD_some]; exact q))
theorem w_Model_rounds_141 {rod : Nat → Nat × (Nat → Int32)} {d : Nat} {Q : Option MV → MH → Prop} {x1 : Int32} {u2 : Option MV} {u3 : Option MV} {u4 : Option MV} {u5 : Option MV} {u6 : Option MV} {h : MH} (L : Lay h.2)  {Q1 : Option MV → MH → Prop} (c : Wc rod d 258 [.inr (.inr (.inl (some 84))), .inl x1] h Q1) (k : ∀ r1 h2, Q1 r1 h2 → Wb rod d B_Model_rounds 146 [some (.inr (.inr (.inl (some 84)))), some (.inl x1), u2, u3, u4, u5, u6] (r1.toList ++ []) h2 Q) : Wb rod d B_Model_rounds 141 [some (.inr (.inr (.inl (some 84)))), some (.inl x1), u2, u3, u4, u5, u6] [] h Q := by
  refine Wb.call (fun _ _ _ _ => b_Model_rounds_141 (Lay.o84 L)) (Q1 := Q1) ?_ ?_
  · (first | exact c | (simp only [Option.getD_some]; exact c))
  · (first | exact k | (simp only [Option.getD_some]; exact k))
theorem w_Model_rounds_146 {rod : Nat → Nat × (Nat → Int32)} {d : Nat} {Q : Option MV → MH → Prop} {u0 : Option MV} {u1 : Option MV} {u2 : Option MV} {x3 : Int32} {u4 : Option MV} {u5 : Option MV} {u6 : Option MV} {xs0 : Int32} {h : MH}  (g0 : okl [u0, u1, u2, some (.inl x3), u4, u5, u6] 5 = true) (k1 : xs0.toInt < x3.toInt → Wb rod d B_Model_rounds 157 [u0, u1, u2, some (.inl x3), u4, some (.inl xs0), u6] [] h Q) (k2 : ¬ xs0.toInt < x3.toInt → Wb rod d B_Model_rounds 154 [u0, u1, u2, some (.inl x3), u4, some (.inl xs0), u6] [] h Q) : Wb rod d B_Model_rounds 146 [u0, u1, u2, some (.inl x3), u4, u5, u6] [.inl xs0] h Q := by
  refine Wb.br (fun _ _ => b_Model_rounds_146 g0) (fun c => ?_) (fun c => ?_)
  · have c : (decide (xs0 < x3)) = true := by first | exact c | (simp only [Option.getD_some] at c; exact c)
    (first | exact (k1 (c_ltt c)) | (simp only [Option.getD_some]; exact (k1 (c_ltt c))))
  · have c : (decide (xs0 < x3)) = false := by first | exact c | (simp only [Option.getD_some] at c; exact c)
    (first | exact (k2 (c_ltf c)) | (simp only [Option.getD_some]; exact (k2 (c_ltf c))))
theorem w_Model_rounds_154 {rod : Nat → Nat × (Nat → Int32)} {d : Nat} {Q : Option MV → MH → Prop} {u0 : Option MV} {u1 : Option MV} {u2 : Option MV} {u3 : Option MV} {u4 : Option MV} {u5 : Option MV} {u6 : Option MV} {h : MH}   (k : Wb rod d B_Model_rounds 189 [u0, u1, u2, u3, u4, u5, u6] [] h Q) : Wb rod d B_Model_rounds 154 [u0, u1, u2, u3, u4, u5, u6] [] h Q := by
  refine Wb.go (fun r hr q => b_Model_rounds_154 ?_) k
  (first | exact q | (simp only [Option.getD_some]; exact q))
theorem w_Model_rounds_157 {rod : Nat → Nat × (Nat → Int32)} {d : Nat} {Q : Option MV → MH → Prop} {u0 : Option MV} {u1 : Option MV} {u2 : Option MV} {u3 : Option MV} {u4 : Option MV} {x5 : Int32} {u6 : Option MV} {h : MH}  (g0 : okl [u0, u1, u2, u3, u4, some (.inl x5), u6] 3 = true) (k : Wb rod d B_Model_rounds 163 [u0, u1, u2, some (.inl x5), u4, some (.inl x5), some (.inl (0 : Int32))] [] h Q) : Wb rod d B_Model_rounds 157 [u0, u1, u2, u3, u4, some (.inl x5), u6] [] h Q := by
  refine Wb.go (fun r hr q => b_Model_rounds_157 g0 ?_) k
  (first | exact q | (simp only [Option.getD_some]; exact q))
theorem w_Model_rounds_163 {rod : Nat → Nat × (Nat → Int32)} {d : Nat} {Q : Option MV → MH → Prop} {u0 : Option MV} {x1 : Int32} {u2 : Option MV} {u3 : Option MV} {u4 : Option MV} {u5 : Option MV} {x6 : Int32} {h : MH}   (k1 : x1.toInt ≤ x6.toInt → Wb rod d B_Model_rounds 189 [u0, some (.inl x1), u2, u3, u4, u5, some (.inl x6)] [] h Q) (k2 : ¬ x1.toInt ≤ x6.toInt → Wb rod d B_Model_rounds 169 [u0, some (.inl x1), u2, u3, u4, u5, some (.inl x6)] [] h Q) : Wb rod d B_Model_rounds 163 [u0, some (.inl x1), u2, u3, u4, u5, some (.inl x6)] [] h Q := by
  refine Wb.br (fun _ _ => b_Model_rounds_163) (fun c => ?_) (fun c => ?_)
  · have c : (decide (x1 ≤ x6)) = true := by first | exact c | (simp only [Option.getD_some] at c; exact c)
    (first | exact (k1 (c_let c)) | (simp only [Option.getD_some]; exact (k1 (c_let c))))
  · have c : (decide (x1 ≤ x6)) = false := by first | exact c | (simp only [Option.getD_some] at c; exact c)
    (first | exact (k2 (c_lef c)) | (simp only [Option.getD_some]; exact (k2 (c_lef c))))
theorem w_Model_rounds_169 {rod : Nat → Nat × (Nat → Int32)} {d : Nat} {Q : Option MV → MH → Prop} {u1 : Option MV} {u2 : Option MV} {u3 : Option MV} {u4 : Option MV} {u5 : Option MV} {x6 : Int32} {h : MH} (L : Lay h.2) (g0 : 0 ≤ x6.toInt ∧ x6.toInt < 5) (k : Wb rod d B_Model_rounds 183 [some (.inr (.inr (.inl (some 84)))), u1, u2, u3, u4, u5, some (.inl x6)] [] (sI h 94 x6.toNatClampNeg (h.1 93 x6.toNatClampNeg)) Q) : Wb rod d B_Model_rounds 169 [some (.inr (.inr (.inl (some 84)))), u1, u2, u3, u4, u5, some (.inl x6)] [] h Q := by
  refine Wb.go (fun r hr q => b_Model_rounds_169 (Lay.o84 L) (Lay.a84_30 L g0) (Lay.a84_31 L g0) ?_) k
  (first | exact q | (simp only [Option.getD_some, (Lay.r84_31 L), (Lay.r84_30 L)]; exact q))
theorem w_Model_rounds_183 {rod : Nat → Nat × (Nat → Int32)} {d : Nat} {Q : Option MV → MH → Prop} {u0 : Option MV} {u1 : Option MV} {u2 : Option MV} {u3 : Option MV} {u4 : Option MV} {u5 : Option MV} {x6 : Int32} {h : MH}  (g0 : okl [u0, u1, u2, u3, u4, u5, some (.inl x6)] 6 = true) (k : Wb rod d B_Model_rounds 163 [u0, u1, u2, u3, u4, u5, some (.inl (x6 + 1))] [] h Q) : Wb rod d B_Model_rounds 183 [u0, u1, u2, u3, u4, u5, some (.inl x6)] [] h Q := by
  refine Wb.go (fun r hr q => b_Model_rounds_183 g0 ?_) k
  (first | exact q | (simp only [Option.getD_some]; exact q))
theorem w_Model_rounds_189 {rod : Nat → Nat × (Nat → Int32)} {d : Nat} {Q : Option MV → MH → Prop} {u0 : Option MV} {u1 : Option MV} {u2 : Option MV} {u3 : Option MV} {x4 : Int32} {u5 : Option MV} {u6 : Option MV} {h : MH}  (g0 : okl [u0, u1, u2, u3, some (.inl x4), u5, u6] 4 = true) (k : Wb rod d B_Model_rounds 122 [u0, u1, u2, u3, some (.inl (x4 + 1)), u5, u6] [] h Q) : Wb rod d B_Model_rounds 189 [u0, u1, u2, u3, some (.inl x4), u5, u6] [] h Q := by
  refine Wb.go (fun r hr q => b_Model_rounds_189 g0 ?_) k
  (first | exact q | (simp only [Option.getD_some]; exact q))
theorem w_Model_rounds_195 {rod : Nat → Nat × (Nat → Int32)} {d : Nat} {Q : Option MV → MH → Prop} {u0 : Option MV} {u1 : Option MV} {u2 : Option MV} {x3 : Int32} {u4 : Option MV} {u5 : Option MV} {u6 : Option MV} {h : MH}   (q : Q (some (.inl x3)) h) : Wb rod d B_Model_rounds 195 [u0, u1, u2, some (.inl x3), u4, u5, u6] [] h Q := by
  refine Wb.ret (b_Model_rounds_195) ?_
  (first | exact q | (simp only [Option.getD_some]; exact q))
theorem n_Model_roundBy {rod : Nat → Nat × (Nat → Int32)} {d : Nat} {Q : Option MV → MH → Prop} {x1 : Int32} {h : MH} (k : Wb rod d B_Model_roundBy 0 [some (.inr (.inr (.inl (some 84)))), some (.inl x1), none, none, none] [] h Q) : Wc rod (d + 1) 258 [.inr (.inr (.inl (some 84))), .inl x1] h Q := Wc.en (fun _ _ => e_Model_roundBy) k
theorem w_Model_roundBy_0 {rod : Nat → Nat × (Nat → Int32)} {d : Nat} {Q : Option MV → MH → Prop} {u0 : Option MV} {u1 : Option MV} {u2 : Option MV} {u3 : Option MV} {u4 : Option MV} {h : MH}  (g0 : okl [u0, u1, u2, u3, u4] 2 = true) (k : Wb rod d B_Model_roundBy 7 [u0, u1, some (.inl (0 : Int32)), some (.inl (0 : Int32)), some (.inl (0 : Int32))] [] h Q) : Wb rod d B_Model_roundBy 0 [u0, u1, u2, u3, u4] [] h Q := by
  refine Wb.go (fun r hr q => b_Model_roundBy_0 g0 ?_) k
  (first | exact q | (simp only [Option.getD_some]; exact q))
theorem w_Model_roundBy_7 {rod : Nat → Nat × (Nat → Int32)} {d : Nat} {Q : Option MV → MH → Prop} {u0 : Option MV} {x1 : Int32} {u2 : Option MV} {u3 : Option MV} {x4 : Int32} {h : MH}   (k1 : x1.toInt ≤ x4.toInt → Wb rod d B_Model_roundBy 74 [u0, some (.inl x1), u2, u3, some (.inl x4)] [] h Q) (k2 : ¬ x1.toInt ≤ x4.toInt → Wb rod d B_Model_roundBy 13 [u0, some (.inl x1), u2, u3, some (.inl x4)] [] h Q) : Wb rod d B_Model_roundBy 7 [u0, some (.inl x1), u2, u3, some (.inl x4)] [] h Q := by
  refine Wb.br (fun _ _ => b_Model_roundBy_7) (fun c => ?_) (fun c => ?_)
  · have c : (decide (x1 ≤ x4)) = true := by first | exact c | (simp only [Option.getD_some] at c; exact c)
    (first | exact (k1 (c_let c)) | (simp only [Option.getD_some]; exact (k1 (c_let c))))
  · have c : (decide (x1 ≤ x4)) = false := by first | exact c | (simp only [Option.getD_some] at c; exact c)
    (first | exact (k2 (c_lef c)) | (simp only [Option.getD_some]; exact (k2 (c_lef c))))
theorem w_Model_roundBy_13 {rod : Nat → Nat × (Nat → Int32)} {d : Nat} {Q : Option MV → MH → Prop} {u1 : Option MV} {u2 : Option MV} {u3 : Option MV} {x4 : Int32} {h : MH} (L : Lay h.2) (g0 : 0 ≤ x4.toInt ∧ x4.toInt < 5) (k1 : ¬ (((h.1 84 33) >>> ((h.1 93 x4.toNatClampNeg) &&& 31)) &&& (1 : Int32)).toInt = 0 → Wb rod d B_Model_roundBy 34 [some (.inr (.inr (.inl (some 84)))), u1, u2, u3, some (.inl x4)] [] h Q) (k2 : (((h.1 84 33) >>> ((h.1 93 x4.toNatClampNeg) &&& 31)) &&& (1 : Int32)).toInt = 0 → Wb rod d B_Model_roundBy 30 [some (.inr (.inr (.inl (some 84)))), u1, u2, u3, some (.inl x4)] [] h Q) : Wb rod d B_Model_roundBy 13 [some (.inr (.inr (.inl (some 84)))), u1, u2, u3, some (.inl x4)] [] h Q := by
  refine Wb.br (fun _ _ => b_Model_roundBy_13 (Lay.o84 L) (Lay.a84_30 L g0)) (fun c => ?_) (fun c => ?_)
  · have c : (!(decide ((((h.1 84 33) >>> ((h.1 93 x4.toNatClampNeg) &&& 31)) &&& (1 : Int32)) = 0))) = true := by first | exact c | (simp only [Option.getD_some, (Lay.r84_30 L)] at c; exact c)
    (first | exact (k1 (c_net c)) | (simp only [Option.getD_some, (Lay.r84_30 L)]; exact (k1 (c_net c))))
  · have c : (!(decide ((((h.1 84 33) >>> ((h.1 93 x4.toNatClampNeg) &&& 31)) &&& (1 : Int32)) = 0))) = false := by first | exact c | (simp only [Option.getD_some, (Lay.r84_30 L)] at c; exact c)
    (first | exact (k2 (c_nef c)) | (simp only [Option.getD_some, (Lay.r84_30 L)]; exact (k2 (c_nef c))))
theorem w_Model_roundBy_30 {rod : Nat → Nat × (Nat → Int32)} {d : Nat} {Q : Option MV → MH → Prop} {u0 : Option MV} {u1 : Option MV} {u2 : Option MV} {u3 : Option MV} {u4 : Option MV} {h : MH}   (q : Q (some (.inl (9999 : Int32))) h) : Wb rod d B_Model_roundBy 30 [u0, u1, u2, u3, u4] [] h Q := by
  refine Wb.ret (b_Model_roundBy_30) ?_
  (first | exact q | (simp only [Option.getD_some]; exact q))
theorem w_Model_roundBy_34 {rod : Nat → Nat × (Nat → Int32)} {d : Nat} {Q : Option MV → MH → Prop} {u1 : Option MV} {x2 : Int32} {x3 : Int32} {x4 : Int32} {h : MH} (L : Lay h.2) (g0 : 0 ≤ x4.toInt ∧ x4.toInt < 5) (g1 : 0 ≤ (((6 : Int32) * x3) + (h.1 93 x4.toNatClampNeg)).toInt ∧ (((6 : Int32) * x3) + (h.1 93 x4.toNatClampNeg)).toInt < 36) {Q1 : Option MV → MH → Prop} (c : Wc rod d 237 [.inl (x2 + (h.1 92 (((6 : Int32) * x3) + (h.1 93 x4.toNatClampNeg)).toNatClampNeg)), .inl (9999 : Int32)] h Q1) (k : ∀ r1 h2, Q1 r1 h2 → Wb rod d B_Model_roundBy 59 [some (.inr (.inr (.inl (some 84)))), u1, some (.inl x2), some (.inl x3), some (.inl x4)] (r1.toList ++ []) h2 Q) : Wb rod d B_Model_roundBy 34 [some (.inr (.inr (.inl (some 84)))), u1, some (.inl x2), some (.inl x3), some (.inl x4)] [] h Q := by
  refine Wb.call (fun _ _ _ _ => b_Model_roundBy_34 (Lay.o84 L) (Lay.a84_30 L g0) (Lay.a84_29 L (by first | exact g1 | (simp only [Option.getD_some, (Lay.r84_29 L), (Lay.r84_30 L)]; exact g1)))) (Q1 := Q1) ?_ ?_
  · (first | exact c | (simp only [Option.getD_some, (Lay.r84_29 L), (Lay.r84_30 L)]; exact c))
  · (first | exact k | (simp only [Option.getD_some, (Lay.r84_29 L), (Lay.r84_30 L)]; exact k))
theorem w_Model_roundBy_59 {rod : Nat → Nat × (Nat → Int32)} {d : Nat} {Q : Option MV → MH → Prop} {u1 : Option MV} {u2 : Option MV} {u3 : Option MV} {x4 : Int32} {xs0 : Int32} {h : MH} (L : Lay h.2) (g0 : okl [some (.inr (.inr (.inl (some 84)))), u1, u2, u3, some (.inl x4)] 2 = true) (g1 : 0 ≤ x4.toInt ∧ x4.toInt < 5) (k : Wb rod d B_Model_roundBy 7 [some (.inr (.inr (.inl (some 84)))), u1, some (.inl xs0), some (.inl (h.1 93 x4.toNatClampNeg)), some (.inl (x4 + 1))] [] h Q) : Wb rod d B_Model_roundBy 59 [some (.inr (.inr (.inl (some 84)))), u1, u2, u3, some (.inl x4)] [.inl xs0] h Q := by
  refine Wb.go (fun r hr q => b_Model_roundBy_59 g0 (Lay.o84 L) (Lay.a84_30 L g1) ?_) k
  (first | exact q | (simp only [Option.getD_some, (Lay.r84_30 L)]; exact q))
theorem w_Model_roundBy_74 {rod : Nat → Nat × (Nat → Int32)} {d : Nat} {Q : Option MV → MH → Prop} {u0 : Option MV} {u1 : Option MV} {x2 : Int32} {u3 : Option MV} {u4 : Option MV} {h : MH}   (q : Q (some (.inl x2)) h) : Wb rod d B_Model_roundBy 74 [u0, u1, some (.inl x2), u3, u4] [] h Q := by
  refine Wb.ret (b_Model_roundBy_74) ?_
  (first | exact q | (simp only [Option.getD_some]; exact q))
theorem n_Model_reach {rod : Nat → Nat × (Nat → Int32)} {d : Nat} {Q : Option MV → MH → Prop} {x1 : Int32} {x2 : Int32} {h : MH} (k : Wb rod d B_Model_reach 0 [some (.inr (.inr (.inl (some 84)))), some (.inl x1), some (.inl x2), none, none] [] h Q) : Wc rod (d + 1) 259 [.inr (.inr (.inl (some 84))), .inl x1, .inl x2] h Q := Wc.en (fun _ _ => e_Model_reach) k
theorem w_Model_reach_0 {rod : Nat → Nat × (Nat → Int32)} {d : Nat} {Q : Option MV → MH → Prop} {x1 : Int32} {u2 : Option MV} {u3 : Option MV} {u4 : Option MV} {h : MH} (L : Lay h.2)  {Q1 : Option MV → MH → Prop} (c : Wc rod d 219 [.inr (.inr (.inl (some 84))), .inl x1] h Q1) (k : ∀ r1 h2, Q1 r1 h2 → Wb rod d B_Model_reach 5 [some (.inr (.inr (.inl (some 84)))), some (.inl x1), u2, u3, u4] (r1.toList ++ []) h2 Q) : Wb rod d B_Model_reach 0 [some (.inr (.inr (.inl (some 84)))), some (.inl x1), u2, u3, u4] [] h Q := by
  refine Wb.call (fun _ _ _ _ => b_Model_reach_0 (Lay.o84 L)) (Q1 := Q1) ?_ ?_
  · (first | exact c | (simp only [Option.getD_some]; exact c))
  · (first | exact k | (simp only [Option.getD_some]; exact k))
theorem w_Model_reach_5 {rod : Nat → Nat × (Nat → Int32)} {d : Nat} {Q : Option MV → MH → Prop} {u0 : Option MV} {u1 : Option MV} {u2 : Option MV} {u3 : Option MV} {u4 : Option MV} {xs0 : Int32} {h : MH}   (k1 : xs0.toInt = 0 → Wb rod d B_Model_reach 18 [u0, u1, u2, u3, u4] [] h Q) (k2 : ¬ xs0.toInt = 0 → Wb rod d B_Model_reach 8 [u0, u1, u2, u3, u4] [] h Q) : Wb rod d B_Model_reach 5 [u0, u1, u2, u3, u4] [.inl xs0] h Q := by
  refine Wb.br (fun _ _ => b_Model_reach_5) (fun c => ?_) (fun c => ?_)
  · have c : (decide (xs0 = 0)) = true := by first | exact c | (simp only [Option.getD_some] at c; exact c)
    (first | exact (k1 (c_eqt c)) | (simp only [Option.getD_some]; exact (k1 (c_eqt c))))
  · have c : (decide (xs0 = 0)) = false := by first | exact c | (simp only [Option.getD_some] at c; exact c)
    (first | exact (k2 (c_eqf c)) | (simp only [Option.getD_some]; exact (k2 (c_eqf c))))
theorem w_Model_reach_8 {rod : Nat → Nat × (Nat → Int32)} {d : Nat} {Q : Option MV → MH → Prop} {u0 : Option MV} {u1 : Option MV} {x2 : Int32} {u3 : Option MV} {u4 : Option MV} {h : MH}   {Q1 : Option MV → MH → Prop} (c : Wc rod d 193 [.inl x2, .inl (0 : Int32), .inl (99 : Int32)] h Q1) (k : ∀ r1 h2, Q1 r1 h2 → Wb rod d B_Model_reach 15 [u0, u1, some (.inl x2), u3, u4] (r1.toList ++ []) h2 Q) : Wb rod d B_Model_reach 8 [u0, u1, some (.inl x2), u3, u4] [] h Q := by
  refine Wb.call (fun _ _ _ _ => b_Model_reach_8) (Q1 := Q1) ?_ ?_
  · (first | exact c | (simp only [Option.getD_some]; exact c))
  · (first | exact k | (simp only [Option.getD_some]; exact k))
theorem w_Model_reach_15 {rod : Nat → Nat × (Nat → Int32)} {d : Nat} {Q : Option MV → MH → Prop} {u0 : Option MV} {u1 : Option MV} {u2 : Option MV} {u3 : Option MV} {u4 : Option MV} {xs0 : Int32} {h : MH}   (k1 : ¬ xs0.toInt = 0 → Wb rod d B_Model_reach 20 [u0, u1, u2, u3, u4] [] h Q) (k2 : xs0.toInt = 0 → Wb rod d B_Model_reach 18 [u0, u1, u2, u3, u4] [] h Q) : Wb rod d B_Model_reach 15 [u0, u1, u2, u3, u4] [.inl xs0] h Q := by
  refine Wb.br (fun _ _ => b_Model_reach_15) (fun c => ?_) (fun c => ?_)
  · have c : (!(decide (xs0 = 0))) = true := by first | exact c | (simp only [Option.getD_some] at c; exact c)
    (first | exact (k1 (c_net c)) | (simp only [Option.getD_some]; exact (k1 (c_net c))))
  · have c : (!(decide (xs0 = 0))) = false := by first | exact c | (simp only [Option.getD_some] at c; exact c)
    (first | exact (k2 (c_nef c)) | (simp only [Option.getD_some]; exact (k2 (c_nef c))))
theorem w_Model_reach_18 {rod : Nat → Nat × (Nat → Int32)} {d : Nat} {Q : Option MV → MH → Prop} {u0 : Option MV} {u1 : Option MV} {u2 : Option MV} {u3 : Option MV} {u4 : Option MV} {h : MH}   (q : Q (some (.inl (-1 : Int32))) h) : Wb rod d B_Model_reach 18 [u0, u1, u2, u3, u4] [] h Q := by
  refine Wb.ret (b_Model_reach_18) ?_
  (first | exact q | (simp only [Option.getD_some]; exact q))
theorem w_Model_reach_20 {rod : Nat → Nat × (Nat → Int32)} {d : Nat} {Q : Option MV → MH → Prop} {u1 : Option MV} {u2 : Option MV} {u3 : Option MV} {u4 : Option MV} {h : MH} (L : Lay h.2)  {Q1 : Option MV → MH → Prop} (c : Wc rod d 247 [.inr (.inr (.inl (some 84))), .inl (0 : Int32)] h Q1) (k : ∀ r1 h2, Q1 r1 h2 → Wb rod d B_Model_reach 25 [some (.inr (.inr (.inl (some 84)))), u1, u2, u3, u4] (r1.toList ++ []) h2 Q) : Wb rod d B_Model_reach 20 [some (.inr (.inr (.inl (some 84)))), u1, u2, u3, u4] [] h Q := by
  refine Wb.call (fun _ _ _ _ => b_Model_reach_20 (Lay.o84 L)) (Q1 := Q1) ?_ ?_
  · (first | exact c | (simp only [Option.getD_some]; exact c))
  · (first | exact k | (simp only [Option.getD_some]; exact k))
theorem w_Model_reach_25 {rod : Nat → Nat × (Nat → Int32)} {d : Nat} {Q : Option MV → MH → Prop} {u0 : Option MV} {u1 : Option MV} {u2 : Option MV} {u3 : Option MV} {u4 : Option MV} {h : MH}  (g0 : okl [u0, u1, u2, u3, u4] 3 = true) (k : Wb rod d B_Model_reach 30 [u0, u1, u2, some (.inl (0 : Int32)), some (.inl (0 : Int32))] [] h Q) : Wb rod d B_Model_reach 25 [u0, u1, u2, u3, u4] [] h Q := by
  refine Wb.go (fun r hr q => b_Model_reach_25 g0 ?_) k
  (first | exact q | (simp only [Option.getD_some]; exact q))
theorem w_Model_reach_30 {rod : Nat → Nat × (Nat → Int32)} {d : Nat} {Q : Option MV → MH → Prop} {u1 : Option MV} {u2 : Option MV} {u3 : Option MV} {x4 : Int32} {h : MH} (L : Lay h.2)  (k1 : (h.1 84 13).toInt ≤ x4.toInt → Wb rod d B_Model_reach 67 [some (.inr (.inr (.inl (some 84)))), u1, u2, u3, some (.inl x4)] [] h Q) (k2 : ¬ (h.1 84 13).toInt ≤ x4.toInt → Wb rod d B_Model_reach 39 [some (.inr (.inr (.inl (some 84)))), u1, u2, u3, some (.inl x4)] [] h Q) : Wb rod d B_Model_reach 30 [some (.inr (.inr (.inl (some 84)))), u1, u2, u3, some (.inl x4)] [] h Q := by
  refine Wb.br (fun _ _ => b_Model_reach_30 (Lay.o84 L)) (fun c => ?_) (fun c => ?_)
  · have c : (decide ((h.1 84 13) ≤ x4)) = true := by first | exact c | (simp only [Option.getD_some] at c; exact c)
    (first | exact (k1 (c_let c)) | (simp only [Option.getD_some]; exact (k1 (c_let c))))
  · have c : (decide ((h.1 84 13) ≤ x4)) = false := by first | exact c | (simp only [Option.getD_some] at c; exact c)
    (first | exact (k2 (c_lef c)) | (simp only [Option.getD_some]; exact (k2 (c_lef c))))
theorem w_Model_reach_39 {rod : Nat → Nat × (Nat → Int32)} {d : Nat} {Q : Option MV → MH → Prop} {u1 : Option MV} {x2 : Int32} {x3 : Int32} {x4 : Int32} {h : MH} (L : Lay h.2) (g0 : 0 ≤ x4.toInt ∧ x4.toInt < 36) (k1 : x2.toInt < (h.1 92 x4.toNatClampNeg).toInt → Wb rod d B_Model_reach 58 [some (.inr (.inr (.inl (some 84)))), u1, some (.inl x2), some (.inl x3), some (.inl x4)] [.inl x3] h Q) (k2 : ¬ x2.toInt < (h.1 92 x4.toNatClampNeg).toInt → Wb rod d B_Model_reach 51 [some (.inr (.inr (.inl (some 84)))), u1, some (.inl x2), some (.inl x3), some (.inl x4)] [.inl x3] h Q) : Wb rod d B_Model_reach 39 [some (.inr (.inr (.inl (some 84)))), u1, some (.inl x2), some (.inl x3), some (.inl x4)] [] h Q := by
  refine Wb.br (fun _ _ => b_Model_reach_39 (Lay.o84 L) (Lay.a84_29 L g0)) (fun c => ?_) (fun c => ?_)
  · have c : (decide (x2 < (h.1 92 x4.toNatClampNeg))) = true := by first | exact c | (simp only [Option.getD_some, (Lay.r84_29 L)] at c; exact c)
    (first | exact (k1 (c_ltt c)) | (simp only [Option.getD_some, (Lay.r84_29 L)]; exact (k1 (c_ltt c))))
  · have c : (decide (x2 < (h.1 92 x4.toNatClampNeg))) = false := by first | exact c | (simp only [Option.getD_some, (Lay.r84_29 L)] at c; exact c)
    (first | exact (k2 (c_ltf c)) | (simp only [Option.getD_some, (Lay.r84_29 L)]; exact (k2 (c_ltf c))))
theorem w_Model_reach_51 {rod : Nat → Nat × (Nat → Int32)} {d : Nat} {Q : Option MV → MH → Prop} {u0 : Option MV} {u1 : Option MV} {u2 : Option MV} {u3 : Option MV} {x4 : Int32} {xs0 : Int32} {h : MH}   (k : Wb rod d B_Model_reach 59 [u0, u1, u2, u3, some (.inl x4)] [.inl ((1 : Int32) <<< (x4 &&& 31)), .inl xs0] h Q) : Wb rod d B_Model_reach 51 [u0, u1, u2, u3, some (.inl x4)] [.inl xs0] h Q := by
  refine Wb.go (fun r hr q => b_Model_reach_51 ?_) k
  (first | exact q | (simp only [Option.getD_some]; exact q))
theorem w_Model_reach_58 {rod : Nat → Nat × (Nat → Int32)} {d : Nat} {Q : Option MV → MH → Prop} {u0 : Option MV} {u1 : Option MV} {u2 : Option MV} {u3 : Option MV} {u4 : Option MV} {xs0 : Int32} {h : MH}   (k : Wb rod d B_Model_reach 59 [u0, u1, u2, u3, u4] [.inl (0 : Int32), .inl xs0] h Q) : Wb rod d B_Model_reach 58 [u0, u1, u2, u3, u4] [.inl xs0] h Q := by
  refine Wb.go (fun r hr q => b_Model_reach_58 ?_) k
  (first | exact q | (simp only [Option.getD_some]; exact q))
theorem w_Model_reach_59 {rod : Nat → Nat × (Nat → Int32)} {d : Nat} {Q : Option MV → MH → Prop} {u0 : Option MV} {u1 : Option MV} {u2 : Option MV} {u3 : Option MV} {x4 : Int32} {xs0 : Int32} {xs1 : Int32} {h : MH}  (g0 : okl [u0, u1, u2, u3, some (.inl x4)] 3 = true) (k : Wb rod d B_Model_reach 30 [u0, u1, u2, some (.inl (xs0 ||| xs1)), some (.inl (x4 + 1))] [] h Q) : Wb rod d B_Model_reach 59 [u0, u1, u2, u3, some (.inl x4)] [.inl xs1, .inl xs0] h Q := by
  refine Wb.go (fun r hr q => b_Model_reach_59 g0 ?_) k
  (first | exact q | (simp only [Option.getD_some]; exact q))
theorem w_Model_reach_67 {rod : Nat → Nat × (Nat → Int32)} {d : Nat} {Q : Option MV → MH → Prop} {u0 : Option MV} {u1 : Option MV} {u2 : Option MV} {x3 : Int32} {u4 : Option MV} {h : MH}   (q : Q (some (.inl x3)) h) : Wb rod d B_Model_reach 67 [u0, u1, u2, some (.inl x3), u4] [] h Q := by
  refine Wb.ret (b_Model_reach_67) ?_
  (first | exact q | (simp only [Option.getD_some]; exact q))
theorem n_Model_centre {rod : Nat → Nat × (Nat → Int32)} {d : Nat} {Q : Option MV → MH → Prop} {x1 : Int32} {x2 : Int32} {h : MH} (k : Wb rod d B_Model_centre 0 [some (.inr (.inr (.inl (some 84)))), some (.inl x1), some (.inl x2), none, none, none] [] h Q) : Wc rod (d + 1) 260 [.inr (.inr (.inl (some 84))), .inl x1, .inl x2] h Q := Wc.en (fun _ _ => e_Model_centre) k
theorem w_Model_centre_0 {rod : Nat → Nat × (Nat → Int32)} {d : Nat} {Q : Option MV → MH → Prop} {x1 : Int32} {u2 : Option MV} {u3 : Option MV} {u4 : Option MV} {u5 : Option MV} {h : MH} (L : Lay h.2)  {Q1 : Option MV → MH → Prop} (c : Wc rod d 219 [.inr (.inr (.inl (some 84))), .inl x1] h Q1) (k : ∀ r1 h2, Q1 r1 h2 → Wb rod d B_Model_centre 5 [some (.inr (.inr (.inl (some 84)))), some (.inl x1), u2, u3, u4, u5] (r1.toList ++ []) h2 Q) : Wb rod d B_Model_centre 0 [some (.inr (.inr (.inl (some 84)))), some (.inl x1), u2, u3, u4, u5] [] h Q := by
  refine Wb.call (fun _ _ _ _ => b_Model_centre_0 (Lay.o84 L)) (Q1 := Q1) ?_ ?_
  · (first | exact c | (simp only [Option.getD_some]; exact c))
  · (first | exact k | (simp only [Option.getD_some]; exact k))
theorem w_Model_centre_5 {rod : Nat → Nat × (Nat → Int32)} {d : Nat} {Q : Option MV → MH → Prop} {u0 : Option MV} {u1 : Option MV} {u2 : Option MV} {u3 : Option MV} {u4 : Option MV} {u5 : Option MV} {xs0 : Int32} {h : MH}   (k1 : ¬ xs0.toInt = 0 → Wb rod d B_Model_centre 10 [u0, u1, u2, u3, u4, u5] [] h Q) (k2 : xs0.toInt = 0 → Wb rod d B_Model_centre 8 [u0, u1, u2, u3, u4, u5] [] h Q) : Wb rod d B_Model_centre 5 [u0, u1, u2, u3, u4, u5] [.inl xs0] h Q := by
  refine Wb.br (fun _ _ => b_Model_centre_5) (fun c => ?_) (fun c => ?_)
  · have c : (!(decide (xs0 = 0))) = true := by first | exact c | (simp only [Option.getD_some] at c; exact c)
    (first | exact (k1 (c_net c)) | (simp only [Option.getD_some]; exact (k1 (c_net c))))
  · have c : (!(decide (xs0 = 0))) = false := by first | exact c | (simp only [Option.getD_some] at c; exact c)
    (first | exact (k2 (c_nef c)) | (simp only [Option.getD_some]; exact (k2 (c_nef c))))
theorem w_Model_centre_8 {rod : Nat → Nat × (Nat → Int32)} {d : Nat} {Q : Option MV → MH → Prop} {u0 : Option MV} {u1 : Option MV} {u2 : Option MV} {u3 : Option MV} {u4 : Option MV} {u5 : Option MV} {h : MH}   (q : Q (some (.inl (-1 : Int32))) h) : Wb rod d B_Model_centre 8 [u0, u1, u2, u3, u4, u5] [] h Q := by
  refine Wb.ret (b_Model_centre_8) ?_
  (first | exact q | (simp only [Option.getD_some]; exact q))
theorem w_Model_centre_10 {rod : Nat → Nat × (Nat → Int32)} {d : Nat} {Q : Option MV → MH → Prop} {u1 : Option MV} {u2 : Option MV} {u3 : Option MV} {u4 : Option MV} {u5 : Option MV} {h : MH} (L : Lay h.2)  {Q1 : Option MV → MH → Prop} (c : Wc rod d 247 [.inr (.inr (.inl (some 84))), .inl (0 : Int32)] h Q1) (k : ∀ r1 h2, Q1 r1 h2 → Wb rod d B_Model_centre 15 [some (.inr (.inr (.inl (some 84)))), u1, u2, u3, u4, u5] (r1.toList ++ []) h2 Q) : Wb rod d B_Model_centre 10 [some (.inr (.inr (.inl (some 84)))), u1, u2, u3, u4, u5] [] h Q := by
  refine Wb.call (fun _ _ _ _ => b_Model_centre_10 (Lay.o84 L)) (Q1 := Q1) ?_ ?_
  · (first | exact c | (simp only [Option.getD_some]; exact c))
  · (first | exact k | (simp only [Option.getD_some]; exact k))
theorem w_Model_centre_15 {rod : Nat → Nat × (Nat → Int32)} {d : Nat} {Q : Option MV → MH → Prop} {u0 : Option MV} {u1 : Option MV} {u2 : Option MV} {u3 : Option MV} {u4 : Option MV} {u5 : Option MV} {h : MH}  (g0 : okl [u0, u1, u2, u3, u4, u5] 3 = true) (k : Wb rod d B_Model_centre 25 [u0, u1, u2, some (.inl (-1 : Int32)), some (.inl (9999 : Int32)), some (.inl (0 : Int32))] [] h Q) : Wb rod d B_Model_centre 15 [u0, u1, u2, u3, u4, u5] [] h Q := by
  refine Wb.go (fun r hr q => b_Model_centre_15 g0 ?_) k
  (first | exact q | (simp only [Option.getD_some]; exact q))
theorem w_Model_centre_25 {rod : Nat → Nat × (Nat → Int32)} {d : Nat} {Q : Option MV → MH → Prop} {u1 : Option MV} {u2 : Option MV} {u3 : Option MV} {u4 : Option MV} {x5 : Int32} {h : MH} (L : Lay h.2)  (k1 : (h.1 84 13).toInt ≤ x5.toInt → Wb rod d B_Model_centre 74 [some (.inr (.inr (.inl (some 84)))), u1, u2, u3, u4, some (.inl x5)] [] h Q) (k2 : ¬ (h.1 84 13).toInt ≤ x5.toInt → Wb rod d B_Model_centre 34 [some (.inr (.inr (.inl (some 84)))), u1, u2, u3, u4, some (.inl x5)] [] h Q) : Wb rod d B_Model_centre 25 [some (.inr (.inr (.inl (some 84)))), u1, u2, u3, u4, some (.inl x5)] [] h Q := by
  refine Wb.br (fun _ _ => b_Model_centre_25 (Lay.o84 L)) (fun c => ?_) (fun c => ?_)
  · have c : (decide ((h.1 84 13) ≤ x5)) = true := by first | exact c | (simp only [Option.getD_some] at c; exact c)
    (first | exact (k1 (c_let c)) | (simp only [Option.getD_some]; exact (k1 (c_let c))))
  · have c : (decide ((h.1 84 13) ≤ x5)) = false := by first | exact c | (simp only [Option.getD_some] at c; exact c)
    (first | exact (k2 (c_lef c)) | (simp only [Option.getD_some]; exact (k2 (c_lef c))))
theorem w_Model_centre_34 {rod : Nat → Nat × (Nat → Int32)} {d : Nat} {Q : Option MV → MH → Prop} {u1 : Option MV} {u2 : Option MV} {u3 : Option MV} {u4 : Option MV} {x5 : Int32} {h : MH} (L : Lay h.2)  {Q1 : Option MV → MH → Prop} (c : Wc rod d 236 [.inr (.inr (.inl (some 84))), .inl x5] h Q1) (k : ∀ r1 h2, Q1 r1 h2 → Wb rod d B_Model_centre 40 [some (.inr (.inr (.inl (some 84)))), u1, u2, u3, u4, some (.inl x5)] (r1.toList ++ []) h2 Q) : Wb rod d B_Model_centre 34 [some (.inr (.inr (.inl (some 84)))), u1, u2, u3, u4, some (.inl x5)] [] h Q := by
  refine Wb.call (fun _ _ _ _ => b_Model_centre_34 (Lay.o84 L)) (Q1 := Q1) ?_ ?_
  · (first | exact c | (simp only [Option.getD_some]; exact c))
  · (first | exact k | (simp only [Option.getD_some]; exact k))
theorem w_Model_centre_40 {rod : Nat → Nat × (Nat → Int32)} {d : Nat} {Q : Option MV → MH → Prop} {u0 : Option MV} {u1 : Option MV} {u2 : Option MV} {u3 : Option MV} {u4 : Option MV} {u5 : Option MV} {xs0 : Int32} {h : MH}   (k1 : ¬ xs0.toInt = 0 → Wb rod d B_Model_centre 68 [u0, u1, u2, u3, u4, u5] [] h Q) (k2 : xs0.toInt = 0 → Wb rod d B_Model_centre 43 [u0, u1, u2, u3, u4, u5] [] h Q) : Wb rod d B_Model_centre 40 [u0, u1, u2, u3, u4, u5] [.inl xs0] h Q := by
  refine Wb.br (fun _ _ => b_Model_centre_40) (fun c => ?_) (fun c => ?_)
  · have c : (!(decide (xs0 = 0))) = true := by first | exact c | (simp only [Option.getD_some] at c; exact c)
    (first | exact (k1 (c_net c)) | (simp only [Option.getD_some]; exact (k1 (c_net c))))
  · have c : (!(decide (xs0 = 0))) = false := by first | exact c | (simp only [Option.getD_some] at c; exact c)
    (first | exact (k2 (c_nef c)) | (simp only [Option.getD_some]; exact (k2 (c_nef c))))
theorem w_Model_centre_43 {rod : Nat → Nat × (Nat → Int32)} {d : Nat} {Q : Option MV → MH → Prop} {u1 : Option MV} {u2 : Option MV} {u3 : Option MV} {u4 : Option MV} {x5 : Int32} {h : MH} (L : Lay h.2)  {Q1 : Option MV → MH → Prop} (c : Wc rod d 261 [.inr (.inr (.inl (some 84))), .inl x5] h Q1) (k : ∀ r1 h2, Q1 r1 h2 → Wb rod d B_Model_centre 49 [some (.inr (.inr (.inl (some 84)))), u1, u2, u3, u4, some (.inl x5)] (r1.toList ++ []) h2 Q) : Wb rod d B_Model_centre 43 [some (.inr (.inr (.inl (some 84)))), u1, u2, u3, u4, some (.inl x5)] [] h Q := by
  refine Wb.call (fun _ _ _ _ => b_Model_centre_43 (Lay.o84 L)) (Q1 := Q1) ?_ ?_
  · (first | exact c | (simp only [Option.getD_some]; exact c))
  · (first | exact k | (simp only [Option.getD_some]; exact k))
theorem w_Model_centre_49 {rod : Nat → Nat × (Nat → Int32)} {d : Nat} {Q : Option MV → MH → Prop} {u0 : Option MV} {u1 : Option MV} {u2 : Option MV} {u3 : Option MV} {x4 : Int32} {u5 : Option MV} {xs0 : Int32} {h : MH}   (k1 : xs0.toInt < x4.toInt → Wb rod d B_Model_centre 57 [u0, u1, u2, u3, some (.inl x4), u5] [] h Q) (k2 : ¬ xs0.toInt < x4.toInt → Wb rod d B_Model_centre 54 [u0, u1, u2, u3, some (.inl x4), u5] [] h Q) : Wb rod d B_Model_centre 49 [u0, u1, u2, u3, some (.inl x4), u5] [.inl xs0] h Q := by
  refine Wb.br (fun _ _ => b_Model_centre_49) (fun c => ?_) (fun c => ?_)
  · have c : (decide (xs0 < x4)) = true := by first | exact c | (simp only [Option.getD_some] at c; exact c)
    (first | exact (k1 (c_ltt c)) | (simp only [Option.getD_some]; exact (k1 (c_ltt c))))
  · have c : (decide (xs0 < x4)) = false := by first | exact c | (simp only [Option.getD_some] at c; exact c)
    (first | exact (k2 (c_ltf c)) | (simp only [Option.getD_some]; exact (k2 (c_ltf c))))
theorem w_Model_centre_54 {rod : Nat → Nat × (Nat → Int32)} {d : Nat} {Q : Option MV → MH → Prop} {u0 : Option MV} {u1 : Option MV} {u2 : Option MV} {u3 : Option MV} {u4 : Option MV} {u5 : Option MV} {h : MH}   (k : Wb rod d B_Model_centre 68 [u0, u1, u2, u3, u4, u5] [] h Q) : Wb rod d B_Model_centre 54 [u0, u1, u2, u3, u4, u5] [] h Q := by
  refine Wb.go (fun r hr q => b_Model_centre_54 ?_) k
  (first | exact q | (simp only [Option.getD_some]; exact q))
theorem w_Model_centre_57 {rod : Nat → Nat × (Nat → Int32)} {d : Nat} {Q : Option MV → MH → Prop} {u1 : Option MV} {u2 : Option MV} {u3 : Option MV} {u4 : Option MV} {x5 : Int32} {h : MH} (L : Lay h.2) (g0 : okl [some (.inr (.inr (.inl (some 84)))), u1, u2, u3, u4, some (.inl x5)] 3 = true) {Q1 : Option MV → MH → Prop} (c : Wc rod d 261 [.inr (.inr (.inl (some 84))), .inl x5] h Q1) (k : ∀ r1 h2, Q1 r1 h2 → Wb rod d B_Model_centre 66 [some (.inr (.inr (.inl (some 84)))), u1, u2, some (.inl x5), u4, some (.inl x5)] (r1.toList ++ []) h2 Q) : Wb rod d B_Model_centre 57 [some (.inr (.inr (.inl (some 84)))), u1, u2, u3, u4, some (.inl x5)] [] h Q := by
  refine Wb.call (fun _ _ _ _ => b_Model_centre_57 g0 (Lay.o84 L)) (Q1 := Q1) ?_ ?_
  · (first | exact c | (simp only [Option.getD_some]; exact c))
  · (first | exact k | (simp only [Option.getD_some]; exact k))
theorem w_Model_centre_66 {rod : Nat → Nat × (Nat → Int32)} {d : Nat} {Q : Option MV → MH → Prop} {u0 : Option MV} {u1 : Option MV} {u2 : Option MV} {u3 : Option MV} {u4 : Option MV} {u5 : Option MV} {xs0 : Int32} {h : MH}  (g0 : okl [u0, u1, u2, u3, u4, u5] 4 = true) (k : Wb rod d B_Model_centre 68 [u0, u1, u2, u3, some (.inl xs0), u5] [] h Q) : Wb rod d B_Model_centre 66 [u0, u1, u2, u3, u4, u5] [.inl xs0] h Q := by
  refine Wb.go (fun r hr q => b_Model_centre_66 g0 ?_) k
  (first | exact q | (simp only [Option.getD_some]; exact q))
theorem w_Model_centre_68 {rod : Nat → Nat × (Nat → Int32)} {d : Nat} {Q : Option MV → MH → Prop} {u0 : Option MV} {u1 : Option MV} {u2 : Option MV} {u3 : Option MV} {u4 : Option MV} {x5 : Int32} {h : MH}  (g0 : okl [u0, u1, u2, u3, u4, some (.inl x5)] 5 = true) (k : Wb rod d B_Model_centre 25 [u0, u1, u2, u3, u4, some (.inl (x5 + 1))] [] h Q) : Wb rod d B_Model_centre 68 [u0, u1, u2, u3, u4, some (.inl x5)] [] h Q := by
  refine Wb.go (fun r hr q => b_Model_centre_68 g0 ?_) k
  (first | exact q | (simp only [Option.getD_some]; exact q))
theorem w_Model_centre_74 {rod : Nat → Nat × (Nat → Int32)} {d : Nat} {Q : Option MV → MH → Prop} {u0 : Option MV} {u1 : Option MV} {u2 : Option MV} {x3 : Int32} {u4 : Option MV} {u5 : Option MV} {h : MH}   (k1 : x3.toInt = (-1) → Wb rod d B_Model_centre 83 [u0, u1, u2, some (.inl x3), u4, u5] [] h Q) (k2 : ¬ x3.toInt = (-1) → Wb rod d B_Model_centre 79 [u0, u1, u2, some (.inl x3), u4, u5] [] h Q) : Wb rod d B_Model_centre 74 [u0, u1, u2, some (.inl x3), u4, u5] [] h Q := by
  refine Wb.br (fun _ _ => b_Model_centre_74) (fun c => ?_) (fun c => ?_)
  · have c : (decide (x3 = (-1 : Int32))) = true := by first | exact c | (simp only [Option.getD_some] at c; exact c)
    (first | exact (k1 (c_eqt c)) | (simp only [Option.getD_some]; exact (k1 (c_eqt c))))
  · have c : (decide (x3 = (-1 : Int32))) = false := by first | exact c | (simp only [Option.getD_some] at c; exact c)
    (first | exact (k2 (c_eqf c)) | (simp only [Option.getD_some]; exact (k2 (c_eqf c))))
theorem w_Model_centre_79 {rod : Nat → Nat × (Nat → Int32)} {d : Nat} {Q : Option MV → MH → Prop} {u0 : Option MV} {u1 : Option MV} {x2 : Int32} {u3 : Option MV} {u4 : Option MV} {u5 : Option MV} {h : MH}   (k1 : ¬ x2.toInt = 0 → Wb rod d B_Model_centre 87 [u0, u1, some (.inl x2), u3, u4, u5] [] h Q) (k2 : x2.toInt = 0 → Wb rod d B_Model_centre 83 [u0, u1, some (.inl x2), u3, u4, u5] [] h Q) : Wb rod d B_Model_centre 79 [u0, u1, some (.inl x2), u3, u4, u5] [] h Q := by
  refine Wb.br (fun _ _ => b_Model_centre_79) (fun c => ?_) (fun c => ?_)
  · have c : (!(decide (x2 = 0))) = true := by first | exact c | (simp only [Option.getD_some] at c; exact c)
    (first | exact (k1 (c_net c)) | (simp only [Option.getD_some]; exact (k1 (c_net c))))
  · have c : (!(decide (x2 = 0))) = false := by first | exact c | (simp only [Option.getD_some] at c; exact c)
    (first | exact (k2 (c_nef c)) | (simp only [Option.getD_some]; exact (k2 (c_nef c))))
theorem w_Model_centre_83 {rod : Nat → Nat × (Nat → Int32)} {d : Nat} {Q : Option MV → MH → Prop} {u0 : Option MV} {u1 : Option MV} {u2 : Option MV} {x3 : Int32} {u4 : Option MV} {u5 : Option MV} {h : MH}   (k : Wb rod d B_Model_centre 89 [u0, u1, u2, some (.inl x3), u4, u5] [.inl x3] h Q) : Wb rod d B_Model_centre 83 [u0, u1, u2, some (.inl x3), u4, u5] [] h Q := by
  refine Wb.go (fun r hr q => b_Model_centre_83 ?_) k
  (first | exact q | (simp only [Option.getD_some]; exact q))
theorem w_Model_centre_87 {rod : Nat → Nat × (Nat → Int32)} {d : Nat} {Q : Option MV → MH → Prop} {u0 : Option MV} {u1 : Option MV} {u2 : Option MV} {u3 : Option MV} {x4 : Int32} {u5 : Option MV} {h : MH}   (k : Wb rod d B_Model_centre 89 [u0, u1, u2, u3, some (.inl x4), u5] [.inl x4] h Q) : Wb rod d B_Model_centre 87 [u0, u1, u2, u3, some (.inl x4), u5] [] h Q := by
  refine Wb.go (fun r hr q => b_Model_centre_87 ?_) k
  (first | exact q | (simp only [Option.getD_some]; exact q))
theorem w_Model_centre_89 {rod : Nat → Nat × (Nat → Int32)} {d : Nat} {Q : Option MV → MH → Prop} {u0 : Option MV} {u1 : Option MV} {u2 : Option MV} {u3 : Option MV} {u4 : Option MV} {u5 : Option MV} {xs0 : Int32} {h : MH}   (q : Q (some (.inl xs0)) h) : Wb rod d B_Model_centre 89 [u0, u1, u2, u3, u4, u5] [.inl xs0] h Q := by
  refine Wb.ret (b_Model_centre_89) ?_
  (first | exact q | (simp only [Option.getD_some]; exact q))
theorem n_Model_furthest {rod : Nat → Nat × (Nat → Int32)} {d : Nat} {Q : Option MV → MH → Prop} {x1 : Int32} {h : MH} (k : Wb rod d B_Model_furthest 0 [some (.inr (.inr (.inl (some 84)))), some (.inl x1), none, none] [] h Q) : Wc rod (d + 1) 261 [.inr (.inr (.inl (some 84))), .inl x1] h Q := Wc.en (fun _ _ => e_Model_furthest) k
theorem w_Model_furthest_0 {rod : Nat → Nat × (Nat → Int32)} {d : Nat} {Q : Option MV → MH → Prop} {u0 : Option MV} {u1 : Option MV} {u2 : Option MV} {u3 : Option MV} {h : MH}  (g0 : okl [u0, u1, u2, u3] 2 = true) (k : Wb rod d B_Model_furthest 4 [u0, u1, some (.inl (0 : Int32)), some (.inl (0 : Int32))] [] h Q) : Wb rod d B_Model_furthest 0 [u0, u1, u2, u3] [] h Q := by
  refine Wb.go (fun r hr q => b_Model_furthest_0 g0 ?_) k
  (first | exact q | (simp only [Option.getD_some]; exact q))
theorem w_Model_furthest_4 {rod : Nat → Nat × (Nat → Int32)} {d : Nat} {Q : Option MV → MH → Prop} {u1 : Option MV} {u2 : Option MV} {x3 : Int32} {h : MH} (L : Lay h.2)  (k1 : (h.1 84 13).toInt ≤ x3.toInt → Wb rod d B_Model_furthest 62 [some (.inr (.inr (.inl (some 84)))), u1, u2, some (.inl x3)] [] h Q) (k2 : ¬ (h.1 84 13).toInt ≤ x3.toInt → Wb rod d B_Model_furthest 12 [some (.inr (.inr (.inl (some 84)))), u1, u2, some (.inl x3)] [] h Q) : Wb rod d B_Model_furthest 4 [some (.inr (.inr (.inl (some 84)))), u1, u2, some (.inl x3)] [] h Q := by
  refine Wb.br (fun _ _ => b_Model_furthest_4 (Lay.o84 L)) (fun c => ?_) (fun c => ?_)
  · have c : (decide ((h.1 84 13) ≤ x3)) = true := by first | exact c | (simp only [Option.getD_some] at c; exact c)
    (first | exact (k1 (c_let c)) | (simp only [Option.getD_some]; exact (k1 (c_let c))))
  · have c : (decide ((h.1 84 13) ≤ x3)) = false := by first | exact c | (simp only [Option.getD_some] at c; exact c)
    (first | exact (k2 (c_lef c)) | (simp only [Option.getD_some]; exact (k2 (c_lef c))))
theorem w_Model_furthest_12 {rod : Nat → Nat × (Nat → Int32)} {d : Nat} {Q : Option MV → MH → Prop} {u0 : Option MV} {x1 : Int32} {u2 : Option MV} {x3 : Int32} {h : MH}   (k1 : x3.toInt = x1.toInt → Wb rod d B_Model_furthest 54 [u0, some (.inl x1), u2, some (.inl x3)] [] h Q) (k2 : ¬ x3.toInt = x1.toInt → Wb rod d B_Model_furthest 17 [u0, some (.inl x1), u2, some (.inl x3)] [] h Q) : Wb rod d B_Model_furthest 12 [u0, some (.inl x1), u2, some (.inl x3)] [] h Q := by
  refine Wb.br (fun _ _ => b_Model_furthest_12) (fun c => ?_) (fun c => ?_)
  · have c : (decide (x3 = x1)) = true := by first | exact c | (simp only [Option.getD_some] at c; exact c)
    (first | exact (k1 (c_eqt c)) | (simp only [Option.getD_some]; exact (k1 (c_eqt c))))
  · have c : (decide (x3 = x1)) = false := by first | exact c | (simp only [Option.getD_some] at c; exact c)
    (first | exact (k2 (c_eqf c)) | (simp only [Option.getD_some]; exact (k2 (c_eqf c))))
theorem w_Model_furthest_17 {rod : Nat → Nat × (Nat → Int32)} {d : Nat} {Q : Option MV → MH → Prop} {u1 : Option MV} {u2 : Option MV} {x3 : Int32} {h : MH} (L : Lay h.2)  {Q1 : Option MV → MH → Prop} (c : Wc rod d 236 [.inr (.inr (.inl (some 84))), .inl x3] h Q1) (k : ∀ r1 h2, Q1 r1 h2 → Wb rod d B_Model_furthest 22 [some (.inr (.inr (.inl (some 84)))), u1, u2, some (.inl x3)] (r1.toList ++ []) h2 Q) : Wb rod d B_Model_furthest 17 [some (.inr (.inr (.inl (some 84)))), u1, u2, some (.inl x3)] [] h Q := by
  refine Wb.call (fun _ _ _ _ => b_Model_furthest_17 (Lay.o84 L)) (Q1 := Q1) ?_ ?_
  · (first | exact c | (simp only [Option.getD_some]; exact c))
  · (first | exact k | (simp only [Option.getD_some]; exact k))
theorem w_Model_furthest_22 {rod : Nat → Nat × (Nat → Int32)} {d : Nat} {Q : Option MV → MH → Prop} {u0 : Option MV} {u1 : Option MV} {u2 : Option MV} {u3 : Option MV} {xs0 : Int32} {h : MH}   (k1 : ¬ xs0.toInt = 0 → Wb rod d B_Model_furthest 54 [u0, u1, u2, u3] [] h Q) (k2 : xs0.toInt = 0 → Wb rod d B_Model_furthest 25 [u0, u1, u2, u3] [] h Q) : Wb rod d B_Model_furthest 22 [u0, u1, u2, u3] [.inl xs0] h Q := by
  refine Wb.br (fun _ _ => b_Model_furthest_22) (fun c => ?_) (fun c => ?_)
  · have c : (!(decide (xs0 = 0))) = true := by first | exact c | (simp only [Option.getD_some] at c; exact c)
    (first | exact (k1 (c_net c)) | (simp only [Option.getD_some]; exact (k1 (c_net c))))
  · have c : (!(decide (xs0 = 0))) = false := by first | exact c | (simp only [Option.getD_some] at c; exact c)
    (first | exact (k2 (c_nef c)) | (simp only [Option.getD_some]; exact (k2 (c_nef c))))
theorem w_Model_furthest_25 {rod : Nat → Nat × (Nat → Int32)} {d : Nat} {Q : Option MV → MH → Prop} {x1 : Int32} {x2 : Int32} {x3 : Int32} {h : MH} (L : Lay h.2) (g0 : 0 ≤ (((6 : Int32) * x1) + x3).toInt ∧ (((6 : Int32) * x1) + x3).toInt < 36) (k1 : (h.1 92 (((6 : Int32) * x1) + x3).toNatClampNeg).toInt ≤ x2.toInt → Wb rod d B_Model_furthest 54 [some (.inr (.inr (.inl (some 84)))), some (.inl x1), some (.inl x2), some (.inl x3)] [] h Q) (k2 : ¬ (h.1 92 (((6 : Int32) * x1) + x3).toNatClampNeg).toInt ≤ x2.toInt → Wb rod d B_Model_furthest 40 [some (.inr (.inr (.inl (some 84)))), some (.inl x1), some (.inl x2), some (.inl x3)] [] h Q) : Wb rod d B_Model_furthest 25 [some (.inr (.inr (.inl (some 84)))), some (.inl x1), some (.inl x2), some (.inl x3)] [] h Q := by
  refine Wb.br (fun _ _ => b_Model_furthest_25 (Lay.o84 L) (Lay.a84_29 L g0)) (fun c => ?_) (fun c => ?_)
  · have c : (decide ((h.1 92 (((6 : Int32) * x1) + x3).toNatClampNeg) ≤ x2)) = true := by first | exact c | (simp only [Option.getD_some, (Lay.r84_29 L)] at c; exact c)
    (first | exact (k1 (c_let c)) | (simp only [Option.getD_some, (Lay.r84_29 L)]; exact (k1 (c_let c))))
  · have c : (decide ((h.1 92 (((6 : Int32) * x1) + x3).toNatClampNeg) ≤ x2)) = false := by first | exact c | (simp only [Option.getD_some, (Lay.r84_29 L)] at c; exact c)
    (first | exact (k2 (c_lef c)) | (simp only [Option.getD_some, (Lay.r84_29 L)]; exact (k2 (c_lef c))))
theorem w_Model_furthest_40 {rod : Nat → Nat × (Nat → Int32)} {d : Nat} {Q : Option MV → MH → Prop} {x1 : Int32} {u2 : Option MV} {x3 : Int32} {h : MH} (L : Lay h.2) (g0 : 0 ≤ (((6 : Int32) * x1) + x3).toInt ∧ (((6 : Int32) * x1) + x3).toInt < 36) (k : Wb rod d B_Model_furthest 55 [some (.inr (.inr (.inl (some 84)))), some (.inl x1), u2, some (.inl x3)] [.inl (h.1 92 (((6 : Int32) * x1) + x3).toNatClampNeg)] h Q) : Wb rod d B_Model_furthest 40 [some (.inr (.inr (.inl (some 84)))), some (.inl x1), u2, some (.inl x3)] [] h Q := by
  refine Wb.go (fun r hr q => b_Model_furthest_40 (Lay.o84 L) (Lay.a84_29 L g0) ?_) k
  (first | exact q | (simp only [Option.getD_some, (Lay.r84_29 L)]; exact q))
theorem w_Model_furthest_54 {rod : Nat → Nat × (Nat → Int32)} {d : Nat} {Q : Option MV → MH → Prop} {u0 : Option MV} {u1 : Option MV} {x2 : Int32} {u3 : Option MV} {h : MH}   (k : Wb rod d B_Model_furthest 55 [u0, u1, some (.inl x2), u3] [.inl x2] h Q) : Wb rod d B_Model_furthest 54 [u0, u1, some (.inl x2), u3] [] h Q := by
  refine Wb.go (fun r hr q => b_Model_furthest_54 ?_) k
  (first | exact q | (simp only [Option.getD_some]; exact q))
theorem w_Model_furthest_55 {rod : Nat → Nat × (Nat → Int32)} {d : Nat} {Q : Option MV → MH → Prop} {u0 : Option MV} {u1 : Option MV} {u2 : Option MV} {x3 : Int32} {xs0 : Int32} {h : MH}  (g0 : okl [u0, u1, u2, some (.inl x3)] 2 = true) (k : Wb rod d B_Model_furthest 4 [u0, u1, some (.inl xs0), some (.inl (x3 + 1))] [] h Q) : Wb rod d B_Model_furthest 55 [u0, u1, u2, some (.inl x3)] [.inl xs0] h Q := by
  refine Wb.go (fun r hr q => b_Model_furthest_55 g0 ?_) k
  (first | exact q | (simp only [Option.getD_some]; exact q))
theorem w_Model_furthest_62 {rod : Nat → Nat × (Nat → Int32)} {d : Nat} {Q : Option MV → MH → Prop} {u0 : Option MV} {u1 : Option MV} {x2 : Int32} {u3 : Option MV} {h : MH}   (q : Q (some (.inl x2)) h) : Wb rod d B_Model_furthest 62 [u0, u1, some (.inl x2), u3] [] h Q := by
  refine Wb.ret (b_Model_furthest_62) ?_
  (first | exact q | (simp only [Option.getD_some]; exact q))
theorem n_Model_until {rod : Nat → Nat × (Nat → Int32)} {d : Nat} {Q : Option MV → MH → Prop} {x1 : Int32} {x2 : Int32} {x3 : Int32} {h : MH} (k : Wb rod d B_Model_until 0 [some (.inr (.inr (.inl (some 84)))), some (.inl x1), some (.inl x2), some (.inl x3), none] [] h Q) : Wc rod (d + 1) 262 [.inr (.inr (.inl (some 84))), .inl x1, .inl x2, .inl x3] h Q := Wc.en (fun _ _ => e_Model_until) k
theorem w_Model_until_0 {rod : Nat → Nat × (Nat → Int32)} {d : Nat} {Q : Option MV → MH → Prop} {x1 : Int32} {u2 : Option MV} {u3 : Option MV} {u4 : Option MV} {h : MH} (L : Lay h.2)  {Q1 : Option MV → MH → Prop} (c : Wc rod d 219 [.inr (.inr (.inl (some 84))), .inl x1] h Q1) (k : ∀ r1 h2, Q1 r1 h2 → Wb rod d B_Model_until 5 [some (.inr (.inr (.inl (some 84)))), some (.inl x1), u2, u3, u4] (r1.toList ++ []) h2 Q) : Wb rod d B_Model_until 0 [some (.inr (.inr (.inl (some 84)))), some (.inl x1), u2, u3, u4] [] h Q := by
  refine Wb.call (fun _ _ _ _ => b_Model_until_0 (Lay.o84 L)) (Q1 := Q1) ?_ ?_
  · (first | exact c | (simp only [Option.getD_some]; exact c))
  · (first | exact k | (simp only [Option.getD_some]; exact k))
theorem w_Model_until_5 {rod : Nat → Nat × (Nat → Int32)} {d : Nat} {Q : Option MV → MH → Prop} {u0 : Option MV} {u1 : Option MV} {u2 : Option MV} {u3 : Option MV} {u4 : Option MV} {xs0 : Int32} {h : MH}   (k1 : xs0.toInt = 0 → Wb rod d B_Model_until 24 [u0, u1, u2, u3, u4] [] h Q) (k2 : ¬ xs0.toInt = 0 → Wb rod d B_Model_until 8 [u0, u1, u2, u3, u4] [] h Q) : Wb rod d B_Model_until 5 [u0, u1, u2, u3, u4] [.inl xs0] h Q := by
  refine Wb.br (fun _ _ => b_Model_until_5) (fun c => ?_) (fun c => ?_)
  · have c : (decide (xs0 = 0)) = true := by first | exact c | (simp only [Option.getD_some] at c; exact c)
    (first | exact (k1 (c_eqt c)) | (simp only [Option.getD_some]; exact (k1 (c_eqt c))))
  · have c : (decide (xs0 = 0)) = false := by first | exact c | (simp only [Option.getD_some] at c; exact c)
    (first | exact (k2 (c_eqf c)) | (simp only [Option.getD_some]; exact (k2 (c_eqf c))))
theorem w_Model_until_8 {rod : Nat → Nat × (Nat → Int32)} {d : Nat} {Q : Option MV → MH → Prop} {u1 : Option MV} {x2 : Int32} {u3 : Option MV} {u4 : Option MV} {h : MH} (L : Lay h.2)  {Q1 : Option MV → MH → Prop} (c : Wc rod d 220 [.inr (.inr (.inl (some 84))), .inl x2] h Q1) (k : ∀ r1 h2, Q1 r1 h2 → Wb rod d B_Model_until 13 [some (.inr (.inr (.inl (some 84)))), u1, some (.inl x2), u3, u4] (r1.toList ++ []) h2 Q) : Wb rod d B_Model_until 8 [some (.inr (.inr (.inl (some 84)))), u1, some (.inl x2), u3, u4] [] h Q := by
  refine Wb.call (fun _ _ _ _ => b_Model_until_8 (Lay.o84 L)) (Q1 := Q1) ?_ ?_
  · (first | exact c | (simp only [Option.getD_some]; exact c))
  · (first | exact k | (simp only [Option.getD_some]; exact k))
theorem w_Model_until_13 {rod : Nat → Nat × (Nat → Int32)} {d : Nat} {Q : Option MV → MH → Prop} {u0 : Option MV} {u1 : Option MV} {u2 : Option MV} {u3 : Option MV} {u4 : Option MV} {xs0 : Int32} {h : MH}   (k1 : xs0.toInt = 0 → Wb rod d B_Model_until 24 [u0, u1, u2, u3, u4] [] h Q) (k2 : ¬ xs0.toInt = 0 → Wb rod d B_Model_until 16 [u0, u1, u2, u3, u4] [] h Q) : Wb rod d B_Model_until 13 [u0, u1, u2, u3, u4] [.inl xs0] h Q := by
  refine Wb.br (fun _ _ => b_Model_until_13) (fun c => ?_) (fun c => ?_)
  · have c : (decide (xs0 = 0)) = true := by first | exact c | (simp only [Option.getD_some] at c; exact c)
    (first | exact (k1 (c_eqt c)) | (simp only [Option.getD_some]; exact (k1 (c_eqt c))))
  · have c : (decide (xs0 = 0)) = false := by first | exact c | (simp only [Option.getD_some] at c; exact c)
    (first | exact (k2 (c_eqf c)) | (simp only [Option.getD_some]; exact (k2 (c_eqf c))))
theorem w_Model_until_16 {rod : Nat → Nat × (Nat → Int32)} {d : Nat} {Q : Option MV → MH → Prop} {u1 : Option MV} {u2 : Option MV} {x3 : Int32} {u4 : Option MV} {h : MH} (L : Lay h.2)  {Q1 : Option MV → MH → Prop} (c : Wc rod d 222 [.inr (.inr (.inl (some 84))), .inl x3] h Q1) (k : ∀ r1 h2, Q1 r1 h2 → Wb rod d B_Model_until 21 [some (.inr (.inr (.inl (some 84)))), u1, u2, some (.inl x3), u4] (r1.toList ++ []) h2 Q) : Wb rod d B_Model_until 16 [some (.inr (.inr (.inl (some 84)))), u1, u2, some (.inl x3), u4] [] h Q := by
  refine Wb.call (fun _ _ _ _ => b_Model_until_16 (Lay.o84 L)) (Q1 := Q1) ?_ ?_
  · (first | exact c | (simp only [Option.getD_some]; exact c))
  · (first | exact k | (simp only [Option.getD_some]; exact k))
theorem w_Model_until_21 {rod : Nat → Nat × (Nat → Int32)} {d : Nat} {Q : Option MV → MH → Prop} {u0 : Option MV} {u1 : Option MV} {u2 : Option MV} {u3 : Option MV} {u4 : Option MV} {xs0 : Int32} {h : MH}   (k1 : ¬ xs0.toInt = 0 → Wb rod d B_Model_until 26 [u0, u1, u2, u3, u4] [] h Q) (k2 : xs0.toInt = 0 → Wb rod d B_Model_until 24 [u0, u1, u2, u3, u4] [] h Q) : Wb rod d B_Model_until 21 [u0, u1, u2, u3, u4] [.inl xs0] h Q := by
  refine Wb.br (fun _ _ => b_Model_until_21) (fun c => ?_) (fun c => ?_)
  · have c : (!(decide (xs0 = 0))) = true := by first | exact c | (simp only [Option.getD_some] at c; exact c)
    (first | exact (k1 (c_net c)) | (simp only [Option.getD_some]; exact (k1 (c_net c))))
  · have c : (!(decide (xs0 = 0))) = false := by first | exact c | (simp only [Option.getD_some] at c; exact c)
    (first | exact (k2 (c_nef c)) | (simp only [Option.getD_some]; exact (k2 (c_nef c))))
theorem w_Model_until_24 {rod : Nat → Nat × (Nat → Int32)} {d : Nat} {Q : Option MV → MH → Prop} {u0 : Option MV} {u1 : Option MV} {u2 : Option MV} {u3 : Option MV} {u4 : Option MV} {h : MH}   (q : Q (some (.inl (-1 : Int32))) h) : Wb rod d B_Model_until 24 [u0, u1, u2, u3, u4] [] h Q := by
  refine Wb.ret (b_Model_until_24) ?_
  (first | exact q | (simp only [Option.getD_some]; exact q))
theorem w_Model_until_26 {rod : Nat → Nat × (Nat → Int32)} {d : Nat} {Q : Option MV → MH → Prop} {u1 : Option MV} {u2 : Option MV} {u3 : Option MV} {u4 : Option MV} {h : MH} (L : Lay h.2)  {Q1 : Option MV → MH → Prop} (c : Wc rod d 227 [.inr (.inr (.inl (some 84)))] h Q1) (k : ∀ r1 h2, Q1 r1 h2 → Wb rod d B_Model_until 30 [some (.inr (.inr (.inl (some 84)))), u1, u2, u3, u4] (r1.toList ++ []) h2 Q) : Wb rod d B_Model_until 26 [some (.inr (.inr (.inl (some 84)))), u1, u2, u3, u4] [] h Q := by
  refine Wb.call (fun _ _ _ _ => b_Model_until_26 (Lay.o84 L)) (Q1 := Q1) ?_ ?_
  · (first | exact c | (simp only [Option.getD_some]; exact c))
  · (first | exact k | (simp only [Option.getD_some]; exact k))
theorem w_Model_until_30 {rod : Nat → Nat × (Nat → Int32)} {d : Nat} {Q : Option MV → MH → Prop} {u0 : Option MV} {u1 : Option MV} {u2 : Option MV} {u3 : Option MV} {u4 : Option MV} {h : MH}  (g0 : okl [u0, u1, u2, u3, u4] 4 = true) (k : Wb rod d B_Model_until 33 [u0, u1, u2, u3, some (.inl (0 : Int32))] [] h Q) : Wb rod d B_Model_until 30 [u0, u1, u2, u3, u4] [] h Q := by
  refine Wb.go (fun r hr q => b_Model_until_30 g0 ?_) k
  (first | exact q | (simp only [Option.getD_some]; exact q))
theorem w_Model_until_33 {rod : Nat → Nat × (Nat → Int32)} {d : Nat} {Q : Option MV → MH → Prop} {u0 : Option MV} {u1 : Option MV} {u2 : Option MV} {u3 : Option MV} {x4 : Int32} {h : MH}   (k1 : 10 ≤ x4.toInt → Wb rod d B_Model_until 92 [u0, u1, u2, u3, some (.inl x4)] [] h Q) (k2 : ¬ 10 ≤ x4.toInt → Wb rod d B_Model_until 40 [u0, u1, u2, u3, some (.inl x4)] [] h Q) : Wb rod d B_Model_until 33 [u0, u1, u2, u3, some (.inl x4)] [] h Q := by
  refine Wb.br (fun _ _ => b_Model_until_33) (fun c => ?_) (fun c => ?_)
  · have c : (decide ((10 : Int32) ≤ x4)) = true := by first | exact c | (simp only [Option.getD_some] at c; exact c)
    (first | exact (k1 (c_let c)) | (simp only [Option.getD_some]; exact (k1 (c_let c))))
  · have c : (decide ((10 : Int32) ≤ x4)) = false := by first | exact c | (simp only [Option.getD_some] at c; exact c)
    (first | exact (k2 (c_lef c)) | (simp only [Option.getD_some]; exact (k2 (c_lef c))))
theorem w_Model_until_40 {rod : Nat → Nat × (Nat → Int32)} {d : Nat} {Q : Option MV → MH → Prop} {u1 : Option MV} {x2 : Int32} {x3 : Int32} {u4 : Option MV} {h : MH} (L : Lay h.2)  {Q1 : Option MV → MH → Prop} (c : Wc rod d 223 [.inr (.inr (.inl (some 84))), .inl x3, .inl (0 : Int32)] h Q1) (k : ∀ r1 h2, Q1 r1 h2 → Wb rod d B_Model_until 48 [some (.inr (.inr (.inl (some 84)))), u1, some (.inl x2), some (.inl x3), u4] (r1.toList ++ [.inl x2, .inr (.inr (.inl (some 84)))]) h2 Q) : Wb rod d B_Model_until 40 [some (.inr (.inr (.inl (some 84)))), u1, some (.inl x2), some (.inl x3), u4] [] h Q := by
  refine Wb.call (fun _ _ _ _ => b_Model_until_40 (Lay.o84 L)) (Q1 := Q1) ?_ ?_
  · (first | exact c | (simp only [Option.getD_some]; exact c))
  · (first | exact k | (simp only [Option.getD_some]; exact k))
theorem w_Model_until_48 {rod : Nat → Nat × (Nat → Int32)} {d : Nat} {Q : Option MV → MH → Prop} {u1 : Option MV} {u2 : Option MV} {x3 : Int32} {u4 : Option MV} {xs1 : Int32} {xs2 : Int32} {h : MH} (L : Lay h.2)  {Q1 : Option MV → MH → Prop} (c : Wc rod d 223 [.inr (.inr (.inl (some 84))), .inl x3, .inl (1 : Int32)] h Q1) (k : ∀ r1 h2, Q1 r1 h2 → Wb rod d B_Model_until 54 [some (.inr (.inr (.inl (some 84)))), u1, u2, some (.inl x3), u4] (r1.toList ++ [.inl xs2, .inl xs1, .inr (.inr (.inl (some 84)))]) h2 Q) : Wb rod d B_Model_until 48 [some (.inr (.inr (.inl (some 84)))), u1, u2, some (.inl x3), u4] [.inl xs2, .inl xs1, .inr (.inr (.inl (some 84)))] h Q := by
  refine Wb.call (fun _ _ _ _ => b_Model_until_48 (Lay.o84 L)) (Q1 := Q1) ?_ ?_
  · (first | exact c | (simp only [Option.getD_some]; exact c))
  · (first | exact k | (simp only [Option.getD_some]; exact k))
theorem w_Model_until_54 {rod : Nat → Nat × (Nat → Int32)} {d : Nat} {Q : Option MV → MH → Prop} {u0 : Option MV} {u1 : Option MV} {u2 : Option MV} {u3 : Option MV} {u4 : Option MV} {xs1 : Int32} {xs2 : Int32} {xs3 : Int32} {h : MH} (L : Lay h.2)  {Q1 : Option MV → MH → Prop} (c : Wc rod d 228 [.inr (.inr (.inl (some 84))), .inl xs1, .inl xs2, .inl xs3] h Q1) (k : ∀ r1 h2, Q1 r1 h2 → Wb rod d B_Model_until 57 [u0, u1, u2, u3, u4] (r1.toList ++ []) h2 Q) : Wb rod d B_Model_until 54 [u0, u1, u2, u3, u4] [.inl xs3, .inl xs2, .inl xs1, .inr (.inr (.inl (some 84)))] h Q := by
  refine Wb.call (fun _ _ _ _ => b_Model_until_54 (Lay.o84 L)) (Q1 := Q1) ?_ ?_
  · (first | exact c | (simp only [Option.getD_some]; exact c))
  · (first | exact k | (simp only [Option.getD_some]; exact k))
theorem w_Model_until_57 {rod : Nat → Nat × (Nat → Int32)} {d : Nat} {Q : Option MV → MH → Prop} {u0 : Option MV} {u1 : Option MV} {u2 : Option MV} {u3 : Option MV} {u4 : Option MV} {xs0 : Int32} {h : MH}   (k1 : ¬ xs0.toInt = 0 → Wb rod d B_Model_until 63 [u0, u1, u2, u3, u4] [] h Q) (k2 : xs0.toInt = 0 → Wb rod d B_Model_until 60 [u0, u1, u2, u3, u4] [] h Q) : Wb rod d B_Model_until 57 [u0, u1, u2, u3, u4] [.inl xs0] h Q := by
  refine Wb.br (fun _ _ => b_Model_until_57) (fun c => ?_) (fun c => ?_)
  · have c : (!(decide (xs0 = 0))) = true := by first | exact c | (simp only [Option.getD_some] at c; exact c)
    (first | exact (k1 (c_net c)) | (simp only [Option.getD_some]; exact (k1 (c_net c))))
  · have c : (!(decide (xs0 = 0))) = false := by first | exact c | (simp only [Option.getD_some] at c; exact c)
    (first | exact (k2 (c_nef c)) | (simp only [Option.getD_some]; exact (k2 (c_nef c))))
theorem w_Model_until_60 {rod : Nat → Nat × (Nat → Int32)} {d : Nat} {Q : Option MV → MH → Prop} {u0 : Option MV} {u1 : Option MV} {u2 : Option MV} {u3 : Option MV} {x4 : Int32} {h : MH}   (q : Q (some (.inl x4)) h) : Wb rod d B_Model_until 60 [u0, u1, u2, u3, some (.inl x4)] [] h Q := by
  refine Wb.ret (b_Model_until_60) ?_
  (first | exact q | (simp only [Option.getD_some]; exact q))
theorem w_Model_until_63 {rod : Nat → Nat × (Nat → Int32)} {d : Nat} {Q : Option MV → MH → Prop} {u1 : Option MV} {x2 : Int32} {u3 : Option MV} {u4 : Option MV} {h : MH} (L : Lay h.2) (g0 : 0 ≤ x2.toInt ∧ x2.toInt < 8) (k1 : (h.1 90 x2.toNatClampNeg).toInt ≤ 0 → Wb rod d B_Model_until 83 [some (.inr (.inr (.inl (some 84)))), u1, some (.inl x2), u3, u4] [.inl (h.1 90 x2.toNatClampNeg), .inl x2, .inr (.inr (.inl (some 90)))] h Q) (k2 : ¬ (h.1 90 x2.toNatClampNeg).toInt ≤ 0 → Wb rod d B_Model_until 79 [some (.inr (.inr (.inl (some 84)))), u1, some (.inl x2), u3, u4] [.inl (h.1 90 x2.toNatClampNeg), .inl x2, .inr (.inr (.inl (some 90)))] h Q) : Wb rod d B_Model_until 63 [some (.inr (.inr (.inl (some 84)))), u1, some (.inl x2), u3, u4] [] h Q := by
  refine Wb.br (fun _ _ => b_Model_until_63 (Lay.o84 L) (Lay.a84_18 L g0)) (fun c => ?_) (fun c => ?_)
  · have c : (decide ((h.1 90 x2.toNatClampNeg) ≤ 0)) = true := by first | exact c | (simp only [Option.getD_some, (Lay.r84_18 L)] at c; exact c)
    (first | exact (k1 (c_let c)) | (simp only [Option.getD_some, (Lay.r84_18 L)]; exact (k1 (c_let c))))
  · have c : (decide ((h.1 90 x2.toNatClampNeg) ≤ 0)) = false := by first | exact c | (simp only [Option.getD_some, (Lay.r84_18 L)] at c; exact c)
    (first | exact (k2 (c_lef c)) | (simp only [Option.getD_some, (Lay.r84_18 L)]; exact (k2 (c_lef c))))
theorem w_Model_until_79 {rod : Nat → Nat × (Nat → Int32)} {d : Nat} {Q : Option MV → MH → Prop} {u0 : Option MV} {u1 : Option MV} {u2 : Option MV} {u3 : Option MV} {u4 : Option MV} {cs0 : Nat} {xs1 : Int32} {xs2 : Int32} {h : MH}   (k : Wb rod d B_Model_until 84 [u0, u1, u2, u3, u4] [.inl (1 : Int32), .inl xs2, .inl xs1, .inr (.inr (.inl (some cs0)))] h Q) : Wb rod d B_Model_until 79 [u0, u1, u2, u3, u4] [.inl xs2, .inl xs1, .inr (.inr (.inl (some cs0)))] h Q := by
  refine Wb.go (fun r hr q => b_Model_until_79 ?_) k
  (first | exact q | (simp only [Option.getD_some]; exact q))
theorem w_Model_until_83 {rod : Nat → Nat × (Nat → Int32)} {d : Nat} {Q : Option MV → MH → Prop} {u0 : Option MV} {u1 : Option MV} {u2 : Option MV} {u3 : Option MV} {u4 : Option MV} {cs0 : Nat} {xs1 : Int32} {xs2 : Int32} {h : MH}   (k : Wb rod d B_Model_until 84 [u0, u1, u2, u3, u4] [.inl (0 : Int32), .inl xs2, .inl xs1, .inr (.inr (.inl (some cs0)))] h Q) : Wb rod d B_Model_until 83 [u0, u1, u2, u3, u4] [.inl xs2, .inl xs1, .inr (.inr (.inl (some cs0)))] h Q := by
  refine Wb.go (fun r hr q => b_Model_until_83 ?_) k
  (first | exact q | (simp only [Option.getD_some]; exact q))
theorem w_Model_until_84 {rod : Nat → Nat × (Nat → Int32)} {d : Nat} {Q : Option MV → MH → Prop} {u0 : Option MV} {u1 : Option MV} {u2 : Option MV} {u3 : Option MV} {u4 : Option MV} {cs0 : Nat} {ncs0 : Nat} {xs1 : Int32} {xs2 : Int32} {xs3 : Int32} {h : MH} (Scs0 : h.2.2[cs0]? = some (0, ncs0)) (g0 : 0 ≤ xs1.toInt ∧ xs1.toInt < ncs0) (k : Wb rod d B_Model_until 86 [u0, u1, u2, u3, u4] [] (sI h cs0 xs1.toNatClampNeg (xs2 - xs3)) Q) : Wb rod d B_Model_until 84 [u0, u1, u2, u3, u4] [.inl xs3, .inl xs2, .inl xs1, .inr (.inr (.inl (some cs0)))] h Q := by
  refine Wb.go (fun r hr q => b_Model_until_84 (gA_of Scs0 (inB_of g0.1 g0.2)) ?_) k
  (first | exact q | (simp only [Option.getD_some]; exact q))
theorem w_Model_until_86 {rod : Nat → Nat × (Nat → Int32)} {d : Nat} {Q : Option MV → MH → Prop} {u0 : Option MV} {u1 : Option MV} {u2 : Option MV} {u3 : Option MV} {x4 : Int32} {h : MH}  (g0 : okl [u0, u1, u2, u3, some (.inl x4)] 4 = true) (k : Wb rod d B_Model_until 33 [u0, u1, u2, u3, some (.inl (x4 + 1))] [] h Q) : Wb rod d B_Model_until 86 [u0, u1, u2, u3, some (.inl x4)] [] h Q := by
  refine Wb.go (fun r hr q => b_Model_until_86 g0 ?_) k
  (first | exact q | (simp only [Option.getD_some]; exact q))
theorem w_Model_until_92 {rod : Nat → Nat × (Nat → Int32)} {d : Nat} {Q : Option MV → MH → Prop} {u0 : Option MV} {u1 : Option MV} {u2 : Option MV} {u3 : Option MV} {u4 : Option MV} {h : MH}   (q : Q (some (.inl (-1 : Int32))) h) : Wb rod d B_Model_until 92 [u0, u1, u2, u3, u4] [] h Q := by
  refine Wb.ret (b_Model_until_92) ?_
  (first | exact q | (simp only [Option.getD_some]; exact q))
theorem n_Model_enough {rod : Nat → Nat × (Nat → Int32)} {d : Nat} {Q : Option MV → MH → Prop} {x1 : Int32} {x2 : Int32} {h : MH} (k : Wb rod d B_Model_enough 0 [some (.inr (.inr (.inl (some 84)))), some (.inl x1), some (.inl x2), none, none, none, none, none, none, none] [] h Q) : Wc rod (d + 1) 263 [.inr (.inr (.inl (some 84))), .inl x1, .inl x2] h Q := Wc.en (fun _ _ => e_Model_enough) k
theorem w_Model_enough_0 {rod : Nat → Nat × (Nat → Int32)} {d : Nat} {Q : Option MV → MH → Prop} {x1 : Int32} {u2 : Option MV} {u3 : Option MV} {u4 : Option MV} {u5 : Option MV} {u6 : Option MV} {u7 : Option MV} {u8 : Option MV} {u9 : Option MV} {h : MH} (L : Lay h.2)  {Q1 : Option MV → MH → Prop} (c : Wc rod d 219 [.inr (.inr (.inl (some 84))), .inl x1] h Q1) (k : ∀ r1 h2, Q1 r1 h2 → Wb rod d B_Model_enough 5 [some (.inr (.inr (.inl (some 84)))), some (.inl x1), u2, u3, u4, u5, u6, u7, u8, u9] (r1.toList ++ []) h2 Q) : Wb rod d B_Model_enough 0 [some (.inr (.inr (.inl (some 84)))), some (.inl x1), u2, u3, u4, u5, u6, u7, u8, u9] [] h Q := by
  refine Wb.call (fun _ _ _ _ => b_Model_enough_0 (Lay.o84 L)) (Q1 := Q1) ?_ ?_
  · (first | exact c | (simp only [Option.getD_some]; exact c))
  · (first | exact k | (simp only [Option.getD_some]; exact k))
theorem w_Model_enough_5 {rod : Nat → Nat × (Nat → Int32)} {d : Nat} {Q : Option MV → MH → Prop} {u0 : Option MV} {u1 : Option MV} {u2 : Option MV} {u3 : Option MV} {u4 : Option MV} {u5 : Option MV} {u6 : Option MV} {u7 : Option MV} {u8 : Option MV} {u9 : Option MV} {xs0 : Int32} {h : MH}   (k1 : xs0.toInt = 0 → Wb rod d B_Model_enough 16 [u0, u1, u2, u3, u4, u5, u6, u7, u8, u9] [] h Q) (k2 : ¬ xs0.toInt = 0 → Wb rod d B_Model_enough 8 [u0, u1, u2, u3, u4, u5, u6, u7, u8, u9] [] h Q) : Wb rod d B_Model_enough 5 [u0, u1, u2, u3, u4, u5, u6, u7, u8, u9] [.inl xs0] h Q := by
  refine Wb.br (fun _ _ => b_Model_enough_5) (fun c => ?_) (fun c => ?_)
  · have c : (decide (xs0 = 0)) = true := by first | exact c | (simp only [Option.getD_some] at c; exact c)
    (first | exact (k1 (c_eqt c)) | (simp only [Option.getD_some]; exact (k1 (c_eqt c))))
  · have c : (decide (xs0 = 0)) = false := by first | exact c | (simp only [Option.getD_some] at c; exact c)
    (first | exact (k2 (c_eqf c)) | (simp only [Option.getD_some]; exact (k2 (c_eqf c))))
theorem w_Model_enough_8 {rod : Nat → Nat × (Nat → Int32)} {d : Nat} {Q : Option MV → MH → Prop} {u1 : Option MV} {x2 : Int32} {u3 : Option MV} {u4 : Option MV} {u5 : Option MV} {u6 : Option MV} {u7 : Option MV} {u8 : Option MV} {u9 : Option MV} {h : MH} (L : Lay h.2)  {Q1 : Option MV → MH → Prop} (c : Wc rod d 220 [.inr (.inr (.inl (some 84))), .inl x2] h Q1) (k : ∀ r1 h2, Q1 r1 h2 → Wb rod d B_Model_enough 13 [some (.inr (.inr (.inl (some 84)))), u1, some (.inl x2), u3, u4, u5, u6, u7, u8, u9] (r1.toList ++ []) h2 Q) : Wb rod d B_Model_enough 8 [some (.inr (.inr (.inl (some 84)))), u1, some (.inl x2), u3, u4, u5, u6, u7, u8, u9] [] h Q := by
  refine Wb.call (fun _ _ _ _ => b_Model_enough_8 (Lay.o84 L)) (Q1 := Q1) ?_ ?_
  · (first | exact c | (simp only [Option.getD_some]; exact c))
  · (first | exact k | (simp only [Option.getD_some]; exact k))
theorem w_Model_enough_13 {rod : Nat → Nat × (Nat → Int32)} {d : Nat} {Q : Option MV → MH → Prop} {u0 : Option MV} {u1 : Option MV} {u2 : Option MV} {u3 : Option MV} {u4 : Option MV} {u5 : Option MV} {u6 : Option MV} {u7 : Option MV} {u8 : Option MV} {u9 : Option MV} {xs0 : Int32} {h : MH}   (k1 : ¬ xs0.toInt = 0 → Wb rod d B_Model_enough 18 [u0, u1, u2, u3, u4, u5, u6, u7, u8, u9] [] h Q) (k2 : xs0.toInt = 0 → Wb rod d B_Model_enough 16 [u0, u1, u2, u3, u4, u5, u6, u7, u8, u9] [] h Q) : Wb rod d B_Model_enough 13 [u0, u1, u2, u3, u4, u5, u6, u7, u8, u9] [.inl xs0] h Q := by
  refine Wb.br (fun _ _ => b_Model_enough_13) (fun c => ?_) (fun c => ?_)
  · have c : (!(decide (xs0 = 0))) = true := by first | exact c | (simp only [Option.getD_some] at c; exact c)
    (first | exact (k1 (c_net c)) | (simp only [Option.getD_some]; exact (k1 (c_net c))))
  · have c : (!(decide (xs0 = 0))) = false := by first | exact c | (simp only [Option.getD_some] at c; exact c)
    (first | exact (k2 (c_nef c)) | (simp only [Option.getD_some]; exact (k2 (c_nef c))))
theorem w_Model_enough_16 {rod : Nat → Nat × (Nat → Int32)} {d : Nat} {Q : Option MV → MH → Prop} {u0 : Option MV} {u1 : Option MV} {u2 : Option MV} {u3 : Option MV} {u4 : Option MV} {u5 : Option MV} {u6 : Option MV} {u7 : Option MV} {u8 : Option MV} {u9 : Option MV} {h : MH}   (q : Q (some (.inl (-1 : Int32))) h) : Wb rod d B_Model_enough 16 [u0, u1, u2, u3, u4, u5, u6, u7, u8, u9] [] h Q := by
  refine Wb.ret (b_Model_enough_16) ?_
  (first | exact q | (simp only [Option.getD_some]; exact q))
theorem w_Model_enough_18 {rod : Nat → Nat × (Nat → Int32)} {d : Nat} {Q : Option MV → MH → Prop} {u0 : Option MV} {u1 : Option MV} {u2 : Option MV} {u3 : Option MV} {u4 : Option MV} {u5 : Option MV} {u6 : Option MV} {u7 : Option MV} {u8 : Option MV} {u9 : Option MV} {h : MH}  (g0 : okl [u0, u1, u2, u3, u4, u5, u6, u7, u8, u9] 3 = true) (k : Wb rod d B_Model_enough 23 [u0, u1, u2, some (.inl (1 : Int32)), some (.inl (0 : Int32)), u5, u6, u7, u8, u9] [] h Q) : Wb rod d B_Model_enough 18 [u0, u1, u2, u3, u4, u5, u6, u7, u8, u9] [] h Q := by
  refine Wb.go (fun r hr q => b_Model_enough_18 g0 ?_) k
  (first | exact q | (simp only [Option.getD_some]; exact q))
theorem w_Model_enough_23 {rod : Nat → Nat × (Nat → Int32)} {d : Nat} {Q : Option MV → MH → Prop} {u1 : Option MV} {u2 : Option MV} {u3 : Option MV} {x4 : Int32} {u5 : Option MV} {u6 : Option MV} {u7 : Option MV} {u8 : Option MV} {u9 : Option MV} {h : MH} (L : Lay h.2)  (k1 : (h.1 84 15).toInt ≤ x4.toInt → Wb rod d B_Model_enough 43 [some (.inr (.inr (.inl (some 84)))), u1, u2, u3, some (.inl x4), u5, u6, u7, u8, u9] [] h Q) (k2 : ¬ (h.1 84 15).toInt ≤ x4.toInt → Wb rod d B_Model_enough 32 [some (.inr (.inr (.inl (some 84)))), u1, u2, u3, some (.inl x4), u5, u6, u7, u8, u9] [] h Q) : Wb rod d B_Model_enough 23 [some (.inr (.inr (.inl (some 84)))), u1, u2, u3, some (.inl x4), u5, u6, u7, u8, u9] [] h Q := by
  refine Wb.br (fun _ _ => b_Model_enough_23 (Lay.o84 L)) (fun c => ?_) (fun c => ?_)
  · have c : (decide ((h.1 84 15) ≤ x4)) = true := by first | exact c | (simp only [Option.getD_some] at c; exact c)
    (first | exact (k1 (c_let c)) | (simp only [Option.getD_some]; exact (k1 (c_let c))))
  · have c : (decide ((h.1 84 15) ≤ x4)) = false := by first | exact c | (simp only [Option.getD_some] at c; exact c)
    (first | exact (k2 (c_lef c)) | (simp only [Option.getD_some]; exact (k2 (c_lef c))))
theorem w_Model_enough_32 {rod : Nat → Nat × (Nat → Int32)} {d : Nat} {Q : Option MV → MH → Prop} {u0 : Option MV} {u1 : Option MV} {u2 : Option MV} {x3 : Int32} {x4 : Int32} {u5 : Option MV} {u6 : Option MV} {u7 : Option MV} {u8 : Option MV} {u9 : Option MV} {h : MH}  (g0 : okl [u0, u1, u2, some (.inl x3), some (.inl x4), u5, u6, u7, u8, u9] 3 = true) (k : Wb rod d B_Model_enough 23 [u0, u1, u2, some (.inl (x3 * (10 : Int32))), some (.inl (x4 + 1)), u5, u6, u7, u8, u9] [] h Q) : Wb rod d B_Model_enough 32 [u0, u1, u2, some (.inl x3), some (.inl x4), u5, u6, u7, u8, u9] [] h Q := by
  refine Wb.go (fun r hr q => b_Model_enough_32 g0 ?_) k
  (first | exact q | (simp only [Option.getD_some]; exact q))
theorem w_Model_enough_43 {rod : Nat → Nat × (Nat → Int32)} {d : Nat} {Q : Option MV → MH → Prop} {u0 : Option MV} {u1 : Option MV} {u2 : Option MV} {u3 : Option MV} {u4 : Option MV} {u5 : Option MV} {u6 : Option MV} {u7 : Option MV} {u8 : Option MV} {u9 : Option MV} {h : MH}  (g0 : okl [u0, u1, u2, u3, u4, u5, u6, u7, u8, u9] 4 = true) (k : Wb rod d B_Model_enough 49 [u0, u1, u2, u3, some (.inl (-1 : Int32)), some (.inl (0 : Int32)), u6, u7, u8, u9] [] h Q) : Wb rod d B_Model_enough 43 [u0, u1, u2, u3, u4, u5, u6, u7, u8, u9] [] h Q := by
  refine Wb.go (fun r hr q => b_Model_enough_43 g0 ?_) k
  (first | exact q | (simp only [Option.getD_some]; exact q))
theorem w_Model_enough_49 {rod : Nat → Nat × (Nat → Int32)} {d : Nat} {Q : Option MV → MH → Prop} {u0 : Option MV} {u1 : Option MV} {u2 : Option MV} {x3 : Int32} {u4 : Option MV} {x5 : Int32} {u6 : Option MV} {u7 : Option MV} {u8 : Option MV} {u9 : Option MV} {h : MH}   (k1 : x3.toInt ≤ x5.toInt → Wb rod d B_Model_enough 160 [u0, u1, u2, some (.inl x3), u4, some (.inl x5), u6, u7, u8, u9] [] h Q) (k2 : ¬ x3.toInt ≤ x5.toInt → Wb rod d B_Model_enough 55 [u0, u1, u2, some (.inl x3), u4, some (.inl x5), u6, u7, u8, u9] [] h Q) : Wb rod d B_Model_enough 49 [u0, u1, u2, some (.inl x3), u4, some (.inl x5), u6, u7, u8, u9] [] h Q := by
  refine Wb.br (fun _ _ => b_Model_enough_49) (fun c => ?_) (fun c => ?_)
  · have c : (decide (x3 ≤ x5)) = true := by first | exact c | (simp only [Option.getD_some] at c; exact c)
    (first | exact (k1 (c_let c)) | (simp only [Option.getD_some]; exact (k1 (c_let c))))
  · have c : (decide (x3 ≤ x5)) = false := by first | exact c | (simp only [Option.getD_some] at c; exact c)
    (first | exact (k2 (c_lef c)) | (simp only [Option.getD_some]; exact (k2 (c_lef c))))
theorem w_Model_enough_55 {rod : Nat → Nat × (Nat → Int32)} {d : Nat} {Q : Option MV → MH → Prop} {u0 : Option MV} {u1 : Option MV} {u2 : Option MV} {u3 : Option MV} {u4 : Option MV} {x5 : Int32} {u6 : Option MV} {u7 : Option MV} {u8 : Option MV} {u9 : Option MV} {h : MH}   (k : Wb rod d B_Model_enough 68 [u0, u1, u2, u3, u4, some (.inl x5), some (.inl x5), some (.inl (0 : Int32)), some (.inl (0 : Int32)), some (.inl (0 : Int32))] [] h Q) : Wb rod d B_Model_enough 55 [u0, u1, u2, u3, u4, some (.inl x5), u6, u7, u8, u9] [] h Q := by
  refine Wb.go (fun r hr q => b_Model_enough_55 ?_) k
  (first | exact q | (simp only [Option.getD_some]; exact q))
theorem w_Model_enough_68 {rod : Nat → Nat × (Nat → Int32)} {d : Nat} {Q : Option MV → MH → Prop} {u1 : Option MV} {u2 : Option MV} {u3 : Option MV} {u4 : Option MV} {u5 : Option MV} {u6 : Option MV} {u7 : Option MV} {u8 : Option MV} {x9 : Int32} {h : MH} (L : Lay h.2)  (k1 : (h.1 84 15).toInt ≤ x9.toInt → Wb rod d B_Model_enough 126 [some (.inr (.inr (.inl (some 84)))), u1, u2, u3, u4, u5, u6, u7, u8, some (.inl x9)] [] h Q) (k2 : ¬ (h.1 84 15).toInt ≤ x9.toInt → Wb rod d B_Model_enough 77 [some (.inr (.inr (.inl (some 84)))), u1, u2, u3, u4, u5, u6, u7, u8, some (.inl x9)] [] h Q) : Wb rod d B_Model_enough 68 [some (.inr (.inr (.inl (some 84)))), u1, u2, u3, u4, u5, u6, u7, u8, some (.inl x9)] [] h Q := by
  refine Wb.br (fun _ _ => b_Model_enough_68 (Lay.o84 L)) (fun c => ?_) (fun c => ?_)
  · have c : (decide ((h.1 84 15) ≤ x9)) = true := by first | exact c | (simp only [Option.getD_some] at c; exact c)
    (first | exact (k1 (c_let c)) | (simp only [Option.getD_some]; exact (k1 (c_let c))))
  · have c : (decide ((h.1 84 15) ≤ x9)) = false := by first | exact c | (simp only [Option.getD_some] at c; exact c)
    (first | exact (k2 (c_lef c)) | (simp only [Option.getD_some]; exact (k2 (c_lef c))))
theorem w_Model_enough_77 {rod : Nat → Nat × (Nat → Int32)} {d : Nat} {Q : Option MV → MH → Prop} {u1 : Option MV} {u2 : Option MV} {u3 : Option MV} {u4 : Option MV} {u5 : Option MV} {x6 : Int32} {x7 : Int32} {u8 : Option MV} {x9 : Int32} {h : MH} (L : Lay h.2)  {Q1 : Option MV → MH → Prop} (c : Wc rod d 223 [.inr (.inr (.inl (some 84))), .inl x9, .inl (0 : Int32)] h Q1) (k : ∀ r1 h2, Q1 r1 h2 → Wb rod d B_Model_enough 91 [some (.inr (.inr (.inl (some 84)))), u1, u2, u3, u4, u5, some (.inl x6), some (.inl x7), u8, some (.inl x9)] (r1.toList ++ [.inl (x6 - x6 / (10 : Int32) * (10 : Int32)), .inl x7]) h2 Q) : Wb rod d B_Model_enough 77 [some (.inr (.inr (.inl (some 84)))), u1, u2, u3, u4, u5, some (.inl x6), some (.inl x7), u8, some (.inl x9)] [] h Q := by
  refine Wb.call (fun _ _ _ _ => b_Model_enough_77 (by decide) (Lay.o84 L)) (Q1 := Q1) ?_ ?_
  · (first | exact c | (simp only [Option.getD_some]; exact c))
  · (first | exact k | (simp only [Option.getD_some]; exact k))
theorem w_Model_enough_91 {rod : Nat → Nat × (Nat → Int32)} {d : Nat} {Q : Option MV → MH → Prop} {u1 : Option MV} {u2 : Option MV} {u3 : Option MV} {u4 : Option MV} {u5 : Option MV} {x6 : Int32} {u7 : Option MV} {x8 : Int32} {x9 : Int32} {xs0 : Int32} {xs1 : Int32} {xs2 : Int32} {h : MH} (L : Lay h.2)  {Q1 : Option MV → MH → Prop} (c : Wc rod d 223 [.inr (.inr (.inl (some 84))), .inl x9, .inl (1 : Int32)] h Q1) (k : ∀ r1 h2, Q1 r1 h2 → Wb rod d B_Model_enough 109 [some (.inr (.inr (.inl (some 84)))), u1, u2, u3, u4, u5, some (.inl x6), some (.inl (xs0 + (xs1 * xs2))), some (.inl x8), some (.inl x9)] (r1.toList ++ [.inl (x6 - x6 / (10 : Int32) * (10 : Int32)), .inl x8]) h2 Q) : Wb rod d B_Model_enough 91 [some (.inr (.inr (.inl (some 84)))), u1, u2, u3, u4, u5, some (.inl x6), u7, some (.inl x8), some (.inl x9)] [.inl xs2, .inl xs1, .inl xs0] h Q := by
  refine Wb.call (fun _ _ _ _ => b_Model_enough_91 (by decide) (Lay.o84 L)) (Q1 := Q1) ?_ ?_
  · (first | exact c | (simp only [Option.getD_some]; exact c))
  · (first | exact k | (simp only [Option.getD_some]; exact k))
theorem w_Model_enough_109 {rod : Nat → Nat × (Nat → Int32)} {d : Nat} {Q : Option MV → MH → Prop} {u0 : Option MV} {u1 : Option MV} {u2 : Option MV} {u3 : Option MV} {u4 : Option MV} {u5 : Option MV} {x6 : Int32} {u7 : Option MV} {u8 : Option MV} {x9 : Int32} {xs0 : Int32} {xs1 : Int32} {xs2 : Int32} {h : MH}  (g0 : okl [u0, u1, u2, u3, u4, u5, some (.inl x6), u7, u8, some (.inl x9)] 8 = true) (g1 : okl [u0, u1, u2, u3, u4, u5, some (.inl x6), u7, some (.inl (xs0 + (xs1 * xs2))), some (.inl x9)] 6 = true) (k : Wb rod d B_Model_enough 68 [u0, u1, u2, u3, u4, u5, some (.inl (x6 / (10 : Int32))), u7, some (.inl (xs0 + (xs1 * xs2))), some (.inl (x9 + 1))] [] h Q) : Wb rod d B_Model_enough 109 [u0, u1, u2, u3, u4, u5, some (.inl x6), u7, u8, some (.inl x9)] [.inl xs2, .inl xs1, .inl xs0] h Q := by
  refine Wb.go (fun r hr q => b_Model_enough_109 g0 (by decide) g1 ?_) k
  (first | exact q | (simp only [Option.getD_some]; exact q))
theorem w_Model_enough_126 {rod : Nat → Nat × (Nat → Int32)} {d : Nat} {Q : Option MV → MH → Prop} {u1 : Option MV} {x2 : Int32} {u3 : Option MV} {u4 : Option MV} {u5 : Option MV} {u6 : Option MV} {x7 : Int32} {u8 : Option MV} {u9 : Option MV} {h : MH} (L : Lay h.2)  {Q1 : Option MV → MH → Prop} (c : Wc rod d 221 [.inr (.inr (.inl (some 84))), .inl x2, .inl (2 : Int32)] h Q1) (k : ∀ r1 h2, Q1 r1 h2 → Wb rod d B_Model_enough 134 [some (.inr (.inr (.inl (some 84)))), u1, some (.inl x2), u3, u4, u5, u6, some (.inl x7), u8, u9] (r1.toList ++ [.inl x7]) h2 Q) : Wb rod d B_Model_enough 126 [some (.inr (.inr (.inl (some 84)))), u1, some (.inl x2), u3, u4, u5, u6, some (.inl x7), u8, u9] [] h Q := by
  refine Wb.call (fun _ _ _ _ => b_Model_enough_126 (Lay.o84 L)) (Q1 := Q1) ?_ ?_
  · (first | exact c | (simp only [Option.getD_some]; exact c))
  · (first | exact k | (simp only [Option.getD_some]; exact k))
theorem w_Model_enough_134 {rod : Nat → Nat × (Nat → Int32)} {d : Nat} {Q : Option MV → MH → Prop} {u0 : Option MV} {u1 : Option MV} {u2 : Option MV} {u3 : Option MV} {u4 : Option MV} {u5 : Option MV} {u6 : Option MV} {u7 : Option MV} {u8 : Option MV} {u9 : Option MV} {xs0 : Int32} {xs1 : Int32} {h : MH}   (k1 : xs0.toInt < xs1.toInt → Wb rod d B_Model_enough 154 [u0, u1, u2, u3, u4, u5, u6, u7, u8, u9] [] h Q) (k2 : ¬ xs0.toInt < xs1.toInt → Wb rod d B_Model_enough 137 [u0, u1, u2, u3, u4, u5, u6, u7, u8, u9] [] h Q) : Wb rod d B_Model_enough 134 [u0, u1, u2, u3, u4, u5, u6, u7, u8, u9] [.inl xs1, .inl xs0] h Q := by
  refine Wb.br (fun _ _ => b_Model_enough_134) (fun c => ?_) (fun c => ?_)
  · have c : (decide (xs0 < xs1)) = true := by first | exact c | (simp only [Option.getD_some] at c; exact c)
    (first | exact (k1 (c_ltt c)) | (simp only [Option.getD_some]; exact (k1 (c_ltt c))))
  · have c : (decide (xs0 < xs1)) = false := by first | exact c | (simp only [Option.getD_some] at c; exact c)
    (first | exact (k2 (c_ltf c)) | (simp only [Option.getD_some]; exact (k2 (c_ltf c))))
theorem w_Model_enough_137 {rod : Nat → Nat × (Nat → Int32)} {d : Nat} {Q : Option MV → MH → Prop} {u0 : Option MV} {u1 : Option MV} {u2 : Option MV} {u3 : Option MV} {x4 : Int32} {u5 : Option MV} {u6 : Option MV} {u7 : Option MV} {u8 : Option MV} {u9 : Option MV} {h : MH}   (k1 : x4.toInt = (-1) → Wb rod d B_Model_enough 150 [u0, u1, u2, u3, some (.inl x4), u5, u6, u7, u8, u9] [] h Q) (k2 : ¬ x4.toInt = (-1) → Wb rod d B_Model_enough 143 [u0, u1, u2, u3, some (.inl x4), u5, u6, u7, u8, u9] [] h Q) : Wb rod d B_Model_enough 137 [u0, u1, u2, u3, some (.inl x4), u5, u6, u7, u8, u9] [] h Q := by
  refine Wb.br (fun _ _ => b_Model_enough_137) (fun c => ?_) (fun c => ?_)
  · have c : (decide (x4 = (-1 : Int32))) = true := by first | exact c | (simp only [Option.getD_some] at c; exact c)
    (first | exact (k1 (c_eqt c)) | (simp only [Option.getD_some]; exact (k1 (c_eqt c))))
  · have c : (decide (x4 = (-1 : Int32))) = false := by first | exact c | (simp only [Option.getD_some] at c; exact c)
    (first | exact (k2 (c_eqf c)) | (simp only [Option.getD_some]; exact (k2 (c_eqf c))))
theorem w_Model_enough_143 {rod : Nat → Nat × (Nat → Int32)} {d : Nat} {Q : Option MV → MH → Prop} {u0 : Option MV} {u1 : Option MV} {u2 : Option MV} {u3 : Option MV} {x4 : Int32} {u5 : Option MV} {u6 : Option MV} {u7 : Option MV} {x8 : Int32} {u9 : Option MV} {h : MH}   (k1 : x4.toInt ≤ x8.toInt → Wb rod d B_Model_enough 154 [u0, u1, u2, u3, some (.inl x4), u5, u6, u7, some (.inl x8), u9] [] h Q) (k2 : ¬ x4.toInt ≤ x8.toInt → Wb rod d B_Model_enough 150 [u0, u1, u2, u3, some (.inl x4), u5, u6, u7, some (.inl x8), u9] [] h Q) : Wb rod d B_Model_enough 143 [u0, u1, u2, u3, some (.inl x4), u5, u6, u7, some (.inl x8), u9] [] h Q := by
  refine Wb.br (fun _ _ => b_Model_enough_143) (fun c => ?_) (fun c => ?_)
  · have c : (decide (x4 ≤ x8)) = true := by first | exact c | (simp only [Option.getD_some] at c; exact c)
    (first | exact (k1 (c_let c)) | (simp only [Option.getD_some]; exact (k1 (c_let c))))
  · have c : (decide (x4 ≤ x8)) = false := by first | exact c | (simp only [Option.getD_some] at c; exact c)
    (first | exact (k2 (c_lef c)) | (simp only [Option.getD_some]; exact (k2 (c_lef c))))
theorem w_Model_enough_150 {rod : Nat → Nat × (Nat → Int32)} {d : Nat} {Q : Option MV → MH → Prop} {u0 : Option MV} {u1 : Option MV} {u2 : Option MV} {u3 : Option MV} {u4 : Option MV} {u5 : Option MV} {u6 : Option MV} {u7 : Option MV} {x8 : Int32} {u9 : Option MV} {h : MH}  (g0 : okl [u0, u1, u2, u3, u4, u5, u6, u7, some (.inl x8), u9] 4 = true) (k : Wb rod d B_Model_enough 154 [u0, u1, u2, u3, some (.inl x8), u5, u6, u7, some (.inl x8), u9] [] h Q) : Wb rod d B_Model_enough 150 [u0, u1, u2, u3, u4, u5, u6, u7, some (.inl x8), u9] [] h Q := by
  refine Wb.go (fun r hr q => b_Model_enough_150 g0 ?_) k
  (first | exact q | (simp only [Option.getD_some]; exact q))
theorem w_Model_enough_154 {rod : Nat → Nat × (Nat → Int32)} {d : Nat} {Q : Option MV → MH → Prop} {u0 : Option MV} {u1 : Option MV} {u2 : Option MV} {u3 : Option MV} {u4 : Option MV} {x5 : Int32} {u6 : Option MV} {u7 : Option MV} {u8 : Option MV} {u9 : Option MV} {h : MH}  (g0 : okl [u0, u1, u2, u3, u4, some (.inl x5), u6, u7, u8, u9] 5 = true) (k : Wb rod d B_Model_enough 49 [u0, u1, u2, u3, u4, some (.inl (x5 + 1)), u6, u7, u8, u9] [] h Q) : Wb rod d B_Model_enough 154 [u0, u1, u2, u3, u4, some (.inl x5), u6, u7, u8, u9] [] h Q := by
  refine Wb.go (fun r hr q => b_Model_enough_154 g0 ?_) k
  (first | exact q | (simp only [Option.getD_some]; exact q))
theorem w_Model_enough_160 {rod : Nat → Nat × (Nat → Int32)} {d : Nat} {Q : Option MV → MH → Prop} {u0 : Option MV} {u1 : Option MV} {u2 : Option MV} {u3 : Option MV} {x4 : Int32} {u5 : Option MV} {u6 : Option MV} {u7 : Option MV} {u8 : Option MV} {u9 : Option MV} {h : MH}   (q : Q (some (.inl x4)) h) : Wb rod d B_Model_enough 160 [u0, u1, u2, u3, some (.inl x4), u5, u6, u7, u8, u9] [] h Q := by
  refine Wb.ret (b_Model_enough_160) ?_
  (first | exact q | (simp only [Option.getD_some]; exact q))
theorem n_Model_poorer {rod : Nat → Nat × (Nat → Int32)} {d : Nat} {Q : Option MV → MH → Prop} {x1 : Int32} {h : MH} (k : Wb rod d B_Model_poorer 0 [some (.inr (.inr (.inl (some 84)))), some (.inl x1), none, none, none] [] h Q) : Wc rod (d + 1) 264 [.inr (.inr (.inl (some 84))), .inl x1] h Q := Wc.en (fun _ _ => e_Model_poorer) k
theorem w_Model_poorer_0 {rod : Nat → Nat × (Nat → Int32)} {d : Nat} {Q : Option MV → MH → Prop} {x1 : Int32} {u2 : Option MV} {u3 : Option MV} {u4 : Option MV} {h : MH} (L : Lay h.2)  {Q1 : Option MV → MH → Prop} (c : Wc rod d 219 [.inr (.inr (.inl (some 84))), .inl x1] h Q1) (k : ∀ r1 h2, Q1 r1 h2 → Wb rod d B_Model_poorer 5 [some (.inr (.inr (.inl (some 84)))), some (.inl x1), u2, u3, u4] (r1.toList ++ []) h2 Q) : Wb rod d B_Model_poorer 0 [some (.inr (.inr (.inl (some 84)))), some (.inl x1), u2, u3, u4] [] h Q := by
  refine Wb.call (fun _ _ _ _ => b_Model_poorer_0 (Lay.o84 L)) (Q1 := Q1) ?_ ?_
  · (first | exact c | (simp only [Option.getD_some]; exact c))
  · (first | exact k | (simp only [Option.getD_some]; exact k))
theorem w_Model_poorer_5 {rod : Nat → Nat × (Nat → Int32)} {d : Nat} {Q : Option MV → MH → Prop} {u0 : Option MV} {u1 : Option MV} {u2 : Option MV} {u3 : Option MV} {u4 : Option MV} {xs0 : Int32} {h : MH}   (k1 : ¬ xs0.toInt = 0 → Wb rod d B_Model_poorer 10 [u0, u1, u2, u3, u4] [] h Q) (k2 : xs0.toInt = 0 → Wb rod d B_Model_poorer 8 [u0, u1, u2, u3, u4] [] h Q) : Wb rod d B_Model_poorer 5 [u0, u1, u2, u3, u4] [.inl xs0] h Q := by
  refine Wb.br (fun _ _ => b_Model_poorer_5) (fun c => ?_) (fun c => ?_)
  · have c : (!(decide (xs0 = 0))) = true := by first | exact c | (simp only [Option.getD_some] at c; exact c)
    (first | exact (k1 (c_net c)) | (simp only [Option.getD_some]; exact (k1 (c_net c))))
  · have c : (!(decide (xs0 = 0))) = false := by first | exact c | (simp only [Option.getD_some] at c; exact c)
    (first | exact (k2 (c_nef c)) | (simp only [Option.getD_some]; exact (k2 (c_nef c))))
theorem w_Model_poorer_8 {rod : Nat → Nat × (Nat → Int32)} {d : Nat} {Q : Option MV → MH → Prop} {u0 : Option MV} {u1 : Option MV} {u2 : Option MV} {u3 : Option MV} {u4 : Option MV} {h : MH}   (q : Q (some (.inl (-1 : Int32))) h) : Wb rod d B_Model_poorer 8 [u0, u1, u2, u3, u4] [] h Q := by
  refine Wb.ret (b_Model_poorer_8) ?_
  (first | exact q | (simp only [Option.getD_some]; exact q))
theorem w_Model_poorer_10 {rod : Nat → Nat × (Nat → Int32)} {d : Nat} {Q : Option MV → MH → Prop} {u0 : Option MV} {u1 : Option MV} {u2 : Option MV} {u3 : Option MV} {u4 : Option MV} {h : MH}  (g0 : okl [u0, u1, u2, u3, u4] 2 = true) (k : Wb rod d B_Model_poorer 14 [u0, u1, some (.inl (0 : Int32)), some (.inl (0 : Int32)), u4] [] h Q) : Wb rod d B_Model_poorer 10 [u0, u1, u2, u3, u4] [] h Q := by
  refine Wb.go (fun r hr q => b_Model_poorer_10 g0 ?_) k
  (first | exact q | (simp only [Option.getD_some]; exact q))
theorem w_Model_poorer_14 {rod : Nat → Nat × (Nat → Int32)} {d : Nat} {Q : Option MV → MH → Prop} {u1 : Option MV} {u2 : Option MV} {x3 : Int32} {u4 : Option MV} {h : MH} (L : Lay h.2)  (k1 : (h.1 84 15).toInt ≤ x3.toInt → Wb rod d B_Model_poorer 66 [some (.inr (.inr (.inl (some 84)))), u1, u2, some (.inl x3), u4] [] h Q) (k2 : ¬ (h.1 84 15).toInt ≤ x3.toInt → Wb rod d B_Model_poorer 22 [some (.inr (.inr (.inl (some 84)))), u1, u2, some (.inl x3), u4] [] h Q) : Wb rod d B_Model_poorer 14 [some (.inr (.inr (.inl (some 84)))), u1, u2, some (.inl x3), u4] [] h Q := by
  refine Wb.br (fun _ _ => b_Model_poorer_14 (Lay.o84 L)) (fun c => ?_) (fun c => ?_)
  · have c : (decide ((h.1 84 15) ≤ x3)) = true := by first | exact c | (simp only [Option.getD_some] at c; exact c)
    (first | exact (k1 (c_let c)) | (simp only [Option.getD_some]; exact (k1 (c_let c))))
  · have c : (decide ((h.1 84 15) ≤ x3)) = false := by first | exact c | (simp only [Option.getD_some] at c; exact c)
    (first | exact (k2 (c_lef c)) | (simp only [Option.getD_some]; exact (k2 (c_lef c))))
theorem w_Model_poorer_22 {rod : Nat → Nat × (Nat → Int32)} {d : Nat} {Q : Option MV → MH → Prop} {u0 : Option MV} {u1 : Option MV} {u2 : Option MV} {u3 : Option MV} {u4 : Option MV} {h : MH}  (g0 : okl [u0, u1, u2, u3, u4] 4 = true) (k : Wb rod d B_Model_poorer 25 [u0, u1, u2, u3, some (.inl (0 : Int32))] [] h Q) : Wb rod d B_Model_poorer 22 [u0, u1, u2, u3, u4] [] h Q := by
  refine Wb.go (fun r hr q => b_Model_poorer_22 g0 ?_) k
  (first | exact q | (simp only [Option.getD_some]; exact q))
theorem w_Model_poorer_25 {rod : Nat → Nat × (Nat → Int32)} {d : Nat} {Q : Option MV → MH → Prop} {u1 : Option MV} {u2 : Option MV} {u3 : Option MV} {x4 : Int32} {h : MH} (L : Lay h.2)  (k1 : (h.1 84 15).toInt ≤ x4.toInt → Wb rod d B_Model_poorer 60 [some (.inr (.inr (.inl (some 84)))), u1, u2, u3, some (.inl x4)] [] h Q) (k2 : ¬ (h.1 84 15).toInt ≤ x4.toInt → Wb rod d B_Model_poorer 34 [some (.inr (.inr (.inl (some 84)))), u1, u2, u3, some (.inl x4)] [] h Q) : Wb rod d B_Model_poorer 25 [some (.inr (.inr (.inl (some 84)))), u1, u2, u3, some (.inl x4)] [] h Q := by
  refine Wb.br (fun _ _ => b_Model_poorer_25 (Lay.o84 L)) (fun c => ?_) (fun c => ?_)
  · have c : (decide ((h.1 84 15) ≤ x4)) = true := by first | exact c | (simp only [Option.getD_some] at c; exact c)
    (first | exact (k1 (c_let c)) | (simp only [Option.getD_some]; exact (k1 (c_let c))))
  · have c : (decide ((h.1 84 15) ≤ x4)) = false := by first | exact c | (simp only [Option.getD_some] at c; exact c)
    (first | exact (k2 (c_lef c)) | (simp only [Option.getD_some]; exact (k2 (c_lef c))))
theorem w_Model_poorer_34 {rod : Nat → Nat × (Nat → Int32)} {d : Nat} {Q : Option MV → MH → Prop} {u1 : Option MV} {x2 : Int32} {x3 : Int32} {x4 : Int32} {h : MH} (L : Lay h.2)  {Q1 : Option MV → MH → Prop} (c : Wc rod d 265 [.inr (.inr (.inl (some 84))), .inl x4, .inl x3] h Q1) (k : ∀ r1 h2, Q1 r1 h2 → Wb rod d B_Model_poorer 42 [some (.inr (.inr (.inl (some 84)))), u1, some (.inl x2), some (.inl x3), some (.inl x4)] (r1.toList ++ [.inl x2]) h2 Q) : Wb rod d B_Model_poorer 34 [some (.inr (.inr (.inl (some 84)))), u1, some (.inl x2), some (.inl x3), some (.inl x4)] [] h Q := by
  refine Wb.call (fun _ _ _ _ => b_Model_poorer_34 (Lay.o84 L)) (Q1 := Q1) ?_ ?_
  · (first | exact c | (simp only [Option.getD_some]; exact c))
  · (first | exact k | (simp only [Option.getD_some]; exact k))
theorem w_Model_poorer_42 {rod : Nat → Nat × (Nat → Int32)} {d : Nat} {Q : Option MV → MH → Prop} {u0 : Option MV} {u1 : Option MV} {u2 : Option MV} {u3 : Option MV} {u4 : Option MV} {xs0 : Int32} {xs1 : Int32} {h : MH}   (k1 : xs1.toInt = 0 → Wb rod d B_Model_poorer 51 [u0, u1, u2, u3, u4] [.inl xs0] h Q) (k2 : ¬ xs1.toInt = 0 → Wb rod d B_Model_poorer 45 [u0, u1, u2, u3, u4] [.inl xs0] h Q) : Wb rod d B_Model_poorer 42 [u0, u1, u2, u3, u4] [.inl xs1, .inl xs0] h Q := by
  refine Wb.br (fun _ _ => b_Model_poorer_42) (fun c => ?_) (fun c => ?_)
  · have c : (decide (xs1 = 0)) = true := by first | exact c | (simp only [Option.getD_some] at c; exact c)
    (first | exact (k1 (c_eqt c)) | (simp only [Option.getD_some]; exact (k1 (c_eqt c))))
  · have c : (decide (xs1 = 0)) = false := by first | exact c | (simp only [Option.getD_some] at c; exact c)
    (first | exact (k2 (c_eqf c)) | (simp only [Option.getD_some]; exact (k2 (c_eqf c))))
theorem w_Model_poorer_45 {rod : Nat → Nat × (Nat → Int32)} {d : Nat} {Q : Option MV → MH → Prop} {u0 : Option MV} {u1 : Option MV} {u2 : Option MV} {x3 : Int32} {u4 : Option MV} {xs0 : Int32} {h : MH}   (k : Wb rod d B_Model_poorer 52 [u0, u1, u2, some (.inl x3), u4] [.inl ((1 : Int32) <<< (x3 &&& 31)), .inl xs0] h Q) : Wb rod d B_Model_poorer 45 [u0, u1, u2, some (.inl x3), u4] [.inl xs0] h Q := by
  refine Wb.go (fun r hr q => b_Model_poorer_45 ?_) k
  (first | exact q | (simp only [Option.getD_some]; exact q))
theorem w_Model_poorer_51 {rod : Nat → Nat × (Nat → Int32)} {d : Nat} {Q : Option MV → MH → Prop} {u0 : Option MV} {u1 : Option MV} {u2 : Option MV} {u3 : Option MV} {u4 : Option MV} {xs0 : Int32} {h : MH}   (k : Wb rod d B_Model_poorer 52 [u0, u1, u2, u3, u4] [.inl (0 : Int32), .inl xs0] h Q) : Wb rod d B_Model_poorer 51 [u0, u1, u2, u3, u4] [.inl xs0] h Q := by
  refine Wb.go (fun r hr q => b_Model_poorer_51 ?_) k
  (first | exact q | (simp only [Option.getD_some]; exact q))
theorem w_Model_poorer_52 {rod : Nat → Nat × (Nat → Int32)} {d : Nat} {Q : Option MV → MH → Prop} {u0 : Option MV} {u1 : Option MV} {u2 : Option MV} {u3 : Option MV} {x4 : Int32} {xs0 : Int32} {xs1 : Int32} {h : MH}  (g0 : okl [u0, u1, u2, u3, some (.inl x4)] 2 = true) (g1 : okl [u0, u1, some (.inl (xs0 ||| xs1)), u3, some (.inl x4)] 4 = true) (k : Wb rod d B_Model_poorer 25 [u0, u1, some (.inl (xs0 ||| xs1)), u3, some (.inl (x4 + 1))] [] h Q) : Wb rod d B_Model_poorer 52 [u0, u1, u2, u3, some (.inl x4)] [.inl xs1, .inl xs0] h Q := by
  refine Wb.go (fun r hr q => b_Model_poorer_52 g0 g1 ?_) k
  (first | exact q | (simp only [Option.getD_some]; exact q))
theorem w_Model_poorer_60 {rod : Nat → Nat × (Nat → Int32)} {d : Nat} {Q : Option MV → MH → Prop} {u0 : Option MV} {u1 : Option MV} {u2 : Option MV} {x3 : Int32} {u4 : Option MV} {h : MH}  (g0 : okl [u0, u1, u2, some (.inl x3), u4] 3 = true) (k : Wb rod d B_Model_poorer 14 [u0, u1, u2, some (.inl (x3 + 1)), u4] [] h Q) : Wb rod d B_Model_poorer 60 [u0, u1, u2, some (.inl x3), u4] [] h Q := by
  refine Wb.go (fun r hr q => b_Model_poorer_60 g0 ?_) k
  (first | exact q | (simp only [Option.getD_some]; exact q))
theorem w_Model_poorer_66 {rod : Nat → Nat × (Nat → Int32)} {d : Nat} {Q : Option MV → MH → Prop} {u0 : Option MV} {u1 : Option MV} {x2 : Int32} {u3 : Option MV} {u4 : Option MV} {h : MH}   (q : Q (some (.inl x2)) h) : Wb rod d B_Model_poorer 66 [u0, u1, some (.inl x2), u3, u4] [] h Q := by
  refine Wb.ret (b_Model_poorer_66) ?_
  (first | exact q | (simp only [Option.getD_some]; exact q))
theorem n_Model_isBetter {rod : Nat → Nat × (Nat → Int32)} {d : Nat} {Q : Option MV → MH → Prop} {x1 : Int32} {x2 : Int32} {h : MH} (k : Wb rod d B_Model_isBetter 0 [some (.inr (.inr (.inl (some 84)))), some (.inl x1), some (.inl x2), none] [] h Q) : Wc rod (d + 1) 265 [.inr (.inr (.inl (some 84))), .inl x1, .inl x2] h Q := Wc.en (fun _ _ => e_Model_isBetter) k
theorem w_Model_isBetter_0 {rod : Nat → Nat × (Nat → Int32)} {d : Nat} {Q : Option MV → MH → Prop} {x1 : Int32} {u2 : Option MV} {u3 : Option MV} {h : MH} (L : Lay h.2)  {Q1 : Option MV → MH → Prop} (c : Wc rod d 223 [.inr (.inr (.inl (some 84))), .inl x1, .inl (0 : Int32)] h Q1) (k : ∀ r1 h2, Q1 r1 h2 → Wb rod d B_Model_isBetter 6 [some (.inr (.inr (.inl (some 84)))), some (.inl x1), u2, u3] (r1.toList ++ []) h2 Q) : Wb rod d B_Model_isBetter 0 [some (.inr (.inr (.inl (some 84)))), some (.inl x1), u2, u3] [] h Q := by
  refine Wb.call (fun _ _ _ _ => b_Model_isBetter_0 (Lay.o84 L)) (Q1 := Q1) ?_ ?_
  · (first | exact c | (simp only [Option.getD_some]; exact c))
  · (first | exact k | (simp only [Option.getD_some]; exact k))
theorem w_Model_isBetter_6 {rod : Nat → Nat × (Nat → Int32)} {d : Nat} {Q : Option MV → MH → Prop} {u1 : Option MV} {x2 : Int32} {u3 : Option MV} {xs0 : Int32} {h : MH} (L : Lay h.2)  {Q1 : Option MV → MH → Prop} (c : Wc rod d 223 [.inr (.inr (.inl (some 84))), .inl x2, .inl (0 : Int32)] h Q1) (k : ∀ r1 h2, Q1 r1 h2 → Wb rod d B_Model_isBetter 12 [some (.inr (.inr (.inl (some 84)))), u1, some (.inl x2), u3] (r1.toList ++ [.inl xs0]) h2 Q) : Wb rod d B_Model_isBetter 6 [some (.inr (.inr (.inl (some 84)))), u1, some (.inl x2), u3] [.inl xs0] h Q := by
  refine Wb.call (fun _ _ _ _ => b_Model_isBetter_6 (Lay.o84 L)) (Q1 := Q1) ?_ ?_
  · (first | exact c | (simp only [Option.getD_some]; exact c))
  · (first | exact k | (simp only [Option.getD_some]; exact k))
theorem w_Model_isBetter_12 {rod : Nat → Nat × (Nat → Int32)} {d : Nat} {Q : Option MV → MH → Prop} {u0 : Option MV} {u1 : Option MV} {u2 : Option MV} {u3 : Option MV} {xs0 : Int32} {xs1 : Int32} {h : MH}   (k1 : xs0.toInt < xs1.toInt → Wb rod d B_Model_isBetter 34 [u0, u1, u2, u3] [] h Q) (k2 : ¬ xs0.toInt < xs1.toInt → Wb rod d B_Model_isBetter 15 [u0, u1, u2, u3] [] h Q) : Wb rod d B_Model_isBetter 12 [u0, u1, u2, u3] [.inl xs1, .inl xs0] h Q := by
  refine Wb.br (fun _ _ => b_Model_isBetter_12) (fun c => ?_) (fun c => ?_)
  · have c : (decide (xs0 < xs1)) = true := by first | exact c | (simp only [Option.getD_some] at c; exact c)
    (first | exact (k1 (c_ltt c)) | (simp only [Option.getD_some]; exact (k1 (c_ltt c))))
  · have c : (decide (xs0 < xs1)) = false := by first | exact c | (simp only [Option.getD_some] at c; exact c)
    (first | exact (k2 (c_ltf c)) | (simp only [Option.getD_some]; exact (k2 (c_ltf c))))
theorem w_Model_isBetter_15 {rod : Nat → Nat × (Nat → Int32)} {d : Nat} {Q : Option MV → MH → Prop} {x1 : Int32} {u2 : Option MV} {u3 : Option MV} {h : MH} (L : Lay h.2)  {Q1 : Option MV → MH → Prop} (c : Wc rod d 223 [.inr (.inr (.inl (some 84))), .inl x1, .inl (1 : Int32)] h Q1) (k : ∀ r1 h2, Q1 r1 h2 → Wb rod d B_Model_isBetter 21 [some (.inr (.inr (.inl (some 84)))), some (.inl x1), u2, u3] (r1.toList ++ []) h2 Q) : Wb rod d B_Model_isBetter 15 [some (.inr (.inr (.inl (some 84)))), some (.inl x1), u2, u3] [] h Q := by
  refine Wb.call (fun _ _ _ _ => b_Model_isBetter_15 (Lay.o84 L)) (Q1 := Q1) ?_ ?_
  · (first | exact c | (simp only [Option.getD_some]; exact c))
  · (first | exact k | (simp only [Option.getD_some]; exact k))
theorem w_Model_isBetter_21 {rod : Nat → Nat × (Nat → Int32)} {d : Nat} {Q : Option MV → MH → Prop} {u1 : Option MV} {x2 : Int32} {u3 : Option MV} {xs0 : Int32} {h : MH} (L : Lay h.2)  {Q1 : Option MV → MH → Prop} (c : Wc rod d 223 [.inr (.inr (.inl (some 84))), .inl x2, .inl (1 : Int32)] h Q1) (k : ∀ r1 h2, Q1 r1 h2 → Wb rod d B_Model_isBetter 27 [some (.inr (.inr (.inl (some 84)))), u1, some (.inl x2), u3] (r1.toList ++ [.inl xs0]) h2 Q) : Wb rod d B_Model_isBetter 21 [some (.inr (.inr (.inl (some 84)))), u1, some (.inl x2), u3] [.inl xs0] h Q := by
  refine Wb.call (fun _ _ _ _ => b_Model_isBetter_21 (Lay.o84 L)) (Q1 := Q1) ?_ ?_
  · (first | exact c | (simp only [Option.getD_some]; exact c))
  · (first | exact k | (simp only [Option.getD_some]; exact k))
theorem w_Model_isBetter_27 {rod : Nat → Nat × (Nat → Int32)} {d : Nat} {Q : Option MV → MH → Prop} {u0 : Option MV} {u1 : Option MV} {u2 : Option MV} {u3 : Option MV} {xs0 : Int32} {xs1 : Int32} {h : MH}   (k1 : xs1.toInt < xs0.toInt → Wb rod d B_Model_isBetter 34 [u0, u1, u2, u3] [] h Q) (k2 : ¬ xs1.toInt < xs0.toInt → Wb rod d B_Model_isBetter 30 [u0, u1, u2, u3] [] h Q) : Wb rod d B_Model_isBetter 27 [u0, u1, u2, u3] [.inl xs1, .inl xs0] h Q := by
  refine Wb.br (fun _ _ => b_Model_isBetter_27) (fun c => ?_) (fun c => ?_)
  · have c : (decide (xs1 < xs0)) = true := by first | exact c | (simp only [Option.getD_some] at c; exact c)
    (first | exact (k1 (c_ltt c)) | (simp only [Option.getD_some]; exact (k1 (c_ltt c))))
  · have c : (decide (xs1 < xs0)) = false := by first | exact c | (simp only [Option.getD_some] at c; exact c)
    (first | exact (k2 (c_ltf c)) | (simp only [Option.getD_some]; exact (k2 (c_ltf c))))
theorem w_Model_isBetter_30 {rod : Nat → Nat × (Nat → Int32)} {d : Nat} {Q : Option MV → MH → Prop} {u0 : Option MV} {u1 : Option MV} {u2 : Option MV} {u3 : Option MV} {h : MH}   (k : Wb rod d B_Model_isBetter 35 [u0, u1, u2, u3] [.inl (1 : Int32)] h Q) : Wb rod d B_Model_isBetter 30 [u0, u1, u2, u3] [] h Q := by
  refine Wb.go (fun r hr q => b_Model_isBetter_30 ?_) k
  (first | exact q | (simp only [Option.getD_some]; exact q))
theorem w_Model_isBetter_34 {rod : Nat → Nat × (Nat → Int32)} {d : Nat} {Q : Option MV → MH → Prop} {u0 : Option MV} {u1 : Option MV} {u2 : Option MV} {u3 : Option MV} {h : MH}   (k : Wb rod d B_Model_isBetter 35 [u0, u1, u2, u3] [.inl (0 : Int32)] h Q) : Wb rod d B_Model_isBetter 34 [u0, u1, u2, u3] [] h Q := by
  refine Wb.go (fun r hr q => b_Model_isBetter_34 ?_) k
  (first | exact q | (simp only [Option.getD_some]; exact q))
theorem w_Model_isBetter_35 {rod : Nat → Nat × (Nat → Int32)} {d : Nat} {Q : Option MV → MH → Prop} {u0 : Option MV} {u1 : Option MV} {u2 : Option MV} {u3 : Option MV} {xs0 : Int32} {h : MH}  (g0 : okl [u0, u1, u2, u3] 3 = true) (k1 : xs0.toInt = 0 → Wb rod d B_Model_isBetter 74 [u0, u1, u2, some (.inl xs0)] [] h Q) (k2 : ¬ xs0.toInt = 0 → Wb rod d B_Model_isBetter 40 [u0, u1, u2, some (.inl xs0)] [] h Q) : Wb rod d B_Model_isBetter 35 [u0, u1, u2, u3] [.inl xs0] h Q := by
  refine Wb.br (fun _ _ => b_Model_isBetter_35 g0) (fun c => ?_) (fun c => ?_)
  · have c : (decide (xs0 = 0)) = true := by first | exact c | (simp only [Option.getD_some] at c; exact c)
    (first | exact (k1 (c_eqt c)) | (simp only [Option.getD_some]; exact (k1 (c_eqt c))))
  · have c : (decide (xs0 = 0)) = false := by first | exact c | (simp only [Option.getD_some] at c; exact c)
    (first | exact (k2 (c_eqf c)) | (simp only [Option.getD_some]; exact (k2 (c_eqf c))))
theorem w_Model_isBetter_40 {rod : Nat → Nat × (Nat → Int32)} {d : Nat} {Q : Option MV → MH → Prop} {x1 : Int32} {u2 : Option MV} {u3 : Option MV} {h : MH} (L : Lay h.2)  {Q1 : Option MV → MH → Prop} (c : Wc rod d 223 [.inr (.inr (.inl (some 84))), .inl x1, .inl (0 : Int32)] h Q1) (k : ∀ r1 h2, Q1 r1 h2 → Wb rod d B_Model_isBetter 46 [some (.inr (.inr (.inl (some 84)))), some (.inl x1), u2, u3] (r1.toList ++ []) h2 Q) : Wb rod d B_Model_isBetter 40 [some (.inr (.inr (.inl (some 84)))), some (.inl x1), u2, u3] [] h Q := by
  refine Wb.call (fun _ _ _ _ => b_Model_isBetter_40 (Lay.o84 L)) (Q1 := Q1) ?_ ?_
  · (first | exact c | (simp only [Option.getD_some]; exact c))
  · (first | exact k | (simp only [Option.getD_some]; exact k))
theorem w_Model_isBetter_46 {rod : Nat → Nat × (Nat → Int32)} {d : Nat} {Q : Option MV → MH → Prop} {u1 : Option MV} {x2 : Int32} {u3 : Option MV} {xs0 : Int32} {h : MH} (L : Lay h.2)  {Q1 : Option MV → MH → Prop} (c : Wc rod d 223 [.inr (.inr (.inl (some 84))), .inl x2, .inl (0 : Int32)] h Q1) (k : ∀ r1 h2, Q1 r1 h2 → Wb rod d B_Model_isBetter 52 [some (.inr (.inr (.inl (some 84)))), u1, some (.inl x2), u3] (r1.toList ++ [.inl xs0]) h2 Q) : Wb rod d B_Model_isBetter 46 [some (.inr (.inr (.inl (some 84)))), u1, some (.inl x2), u3] [.inl xs0] h Q := by
  refine Wb.call (fun _ _ _ _ => b_Model_isBetter_46 (Lay.o84 L)) (Q1 := Q1) ?_ ?_
  · (first | exact c | (simp only [Option.getD_some]; exact c))
  · (first | exact k | (simp only [Option.getD_some]; exact k))
theorem w_Model_isBetter_52 {rod : Nat → Nat × (Nat → Int32)} {d : Nat} {Q : Option MV → MH → Prop} {u0 : Option MV} {u1 : Option MV} {u2 : Option MV} {u3 : Option MV} {xs0 : Int32} {xs1 : Int32} {h : MH}   (k1 : ¬ xs0.toInt = xs1.toInt → Wb rod d B_Model_isBetter 70 [u0, u1, u2, u3] [] h Q) (k2 : xs0.toInt = xs1.toInt → Wb rod d B_Model_isBetter 55 [u0, u1, u2, u3] [] h Q) : Wb rod d B_Model_isBetter 52 [u0, u1, u2, u3] [.inl xs1, .inl xs0] h Q := by
  refine Wb.br (fun _ _ => b_Model_isBetter_52) (fun c => ?_) (fun c => ?_)
  · have c : (!(decide (xs0 = xs1))) = true := by first | exact c | (simp only [Option.getD_some] at c; exact c)
    (first | exact (k1 (c_net c)) | (simp only [Option.getD_some]; exact (k1 (c_net c))))
  · have c : (!(decide (xs0 = xs1))) = false := by first | exact c | (simp only [Option.getD_some] at c; exact c)
    (first | exact (k2 (c_nef c)) | (simp only [Option.getD_some]; exact (k2 (c_nef c))))
theorem w_Model_isBetter_55 {rod : Nat → Nat × (Nat → Int32)} {d : Nat} {Q : Option MV → MH → Prop} {x1 : Int32} {u2 : Option MV} {u3 : Option MV} {h : MH} (L : Lay h.2)  {Q1 : Option MV → MH → Prop} (c : Wc rod d 223 [.inr (.inr (.inl (some 84))), .inl x1, .inl (1 : Int32)] h Q1) (k : ∀ r1 h2, Q1 r1 h2 → Wb rod d B_Model_isBetter 61 [some (.inr (.inr (.inl (some 84)))), some (.inl x1), u2, u3] (r1.toList ++ []) h2 Q) : Wb rod d B_Model_isBetter 55 [some (.inr (.inr (.inl (some 84)))), some (.inl x1), u2, u3] [] h Q := by
  refine Wb.call (fun _ _ _ _ => b_Model_isBetter_55 (Lay.o84 L)) (Q1 := Q1) ?_ ?_
  · (first | exact c | (simp only [Option.getD_some]; exact c))
  · (first | exact k | (simp only [Option.getD_some]; exact k))
theorem w_Model_isBetter_61 {rod : Nat → Nat × (Nat → Int32)} {d : Nat} {Q : Option MV → MH → Prop} {u1 : Option MV} {x2 : Int32} {u3 : Option MV} {xs0 : Int32} {h : MH} (L : Lay h.2)  {Q1 : Option MV → MH → Prop} (c : Wc rod d 223 [.inr (.inr (.inl (some 84))), .inl x2, .inl (1 : Int32)] h Q1) (k : ∀ r1 h2, Q1 r1 h2 → Wb rod d B_Model_isBetter 67 [some (.inr (.inr (.inl (some 84)))), u1, some (.inl x2), u3] (r1.toList ++ [.inl xs0]) h2 Q) : Wb rod d B_Model_isBetter 61 [some (.inr (.inr (.inl (some 84)))), u1, some (.inl x2), u3] [.inl xs0] h Q := by
  refine Wb.call (fun _ _ _ _ => b_Model_isBetter_61 (Lay.o84 L)) (Q1 := Q1) ?_ ?_
  · (first | exact c | (simp only [Option.getD_some]; exact c))
  · (first | exact k | (simp only [Option.getD_some]; exact k))
theorem w_Model_isBetter_67 {rod : Nat → Nat × (Nat → Int32)} {d : Nat} {Q : Option MV → MH → Prop} {u0 : Option MV} {u1 : Option MV} {u2 : Option MV} {u3 : Option MV} {xs0 : Int32} {xs1 : Int32} {h : MH}   (k1 : xs0.toInt = xs1.toInt → Wb rod d B_Model_isBetter 74 [u0, u1, u2, u3] [] h Q) (k2 : ¬ xs0.toInt = xs1.toInt → Wb rod d B_Model_isBetter 70 [u0, u1, u2, u3] [] h Q) : Wb rod d B_Model_isBetter 67 [u0, u1, u2, u3] [.inl xs1, .inl xs0] h Q := by
  refine Wb.br (fun _ _ => b_Model_isBetter_67) (fun c => ?_) (fun c => ?_)
  · have c : (decide (xs0 = xs1)) = true := by first | exact c | (simp only [Option.getD_some] at c; exact c)
    (first | exact (k1 (c_eqt c)) | (simp only [Option.getD_some]; exact (k1 (c_eqt c))))
  · have c : (decide (xs0 = xs1)) = false := by first | exact c | (simp only [Option.getD_some] at c; exact c)
    (first | exact (k2 (c_eqf c)) | (simp only [Option.getD_some]; exact (k2 (c_eqf c))))
theorem w_Model_isBetter_70 {rod : Nat → Nat × (Nat → Int32)} {d : Nat} {Q : Option MV → MH → Prop} {u0 : Option MV} {u1 : Option MV} {u2 : Option MV} {u3 : Option MV} {h : MH}   (k : Wb rod d B_Model_isBetter 75 [u0, u1, u2, u3] [.inl (1 : Int32)] h Q) : Wb rod d B_Model_isBetter 70 [u0, u1, u2, u3] [] h Q := by
  refine Wb.go (fun r hr q => b_Model_isBetter_70 ?_) k
  (first | exact q | (simp only [Option.getD_some]; exact q))
theorem w_Model_isBetter_74 {rod : Nat → Nat × (Nat → Int32)} {d : Nat} {Q : Option MV → MH → Prop} {u0 : Option MV} {u1 : Option MV} {u2 : Option MV} {u3 : Option MV} {h : MH}   (k : Wb rod d B_Model_isBetter 75 [u0, u1, u2, u3] [.inl (0 : Int32)] h Q) : Wb rod d B_Model_isBetter 74 [u0, u1, u2, u3] [] h Q := by
  refine Wb.go (fun r hr q => b_Model_isBetter_74 ?_) k
  (first | exact q | (simp only [Option.getD_some]; exact q))
theorem w_Model_isBetter_75 {rod : Nat → Nat × (Nat → Int32)} {d : Nat} {Q : Option MV → MH → Prop} {u0 : Option MV} {u1 : Option MV} {u2 : Option MV} {u3 : Option MV} {xs0 : Int32} {h : MH}  (g0 : xs0 = 0 ∨ xs0 = 1) (q : Q (some (.inl xs0)) h) : Wb rod d B_Model_isBetter 75 [u0, u1, u2, u3] [.inl xs0] h Q := by
  refine Wb.ret (b_Model_isBetter_75 (d01 g0)) ?_
  (first | exact q | (simp only [Option.getD_some]; exact q))
theorem n_Model_hold {rod : Nat → Nat × (Nat → Int32)} {d : Nat} {Q : Option MV → MH → Prop} {x1 : Int32} {x2 : Int32} {x3 : Int32} {h : MH} (k : Wb rod d B_Model_hold 0 [some (.inr (.inr (.inl (some 84)))), some (.inl x1), some (.inl x2), some (.inl x3)] [] h Q) : Wc rod (d + 1) 266 [.inr (.inr (.inl (some 84))), .inl x1, .inl x2, .inl x3] h Q := Wc.en (fun _ _ => e_Model_hold) k
theorem w_Model_hold_0 {rod : Nat → Nat × (Nat → Int32)} {d : Nat} {Q : Option MV → MH → Prop} {x1 : Int32} {u2 : Option MV} {u3 : Option MV} {h : MH} (L : Lay h.2)  {Q1 : Option MV → MH → Prop} (c : Wc rod d 219 [.inr (.inr (.inl (some 84))), .inl x1] h Q1) (k : ∀ r1 h2, Q1 r1 h2 → Wb rod d B_Model_hold 5 [some (.inr (.inr (.inl (some 84)))), some (.inl x1), u2, u3] (r1.toList ++ []) h2 Q) : Wb rod d B_Model_hold 0 [some (.inr (.inr (.inl (some 84)))), some (.inl x1), u2, u3] [] h Q := by
  refine Wb.call (fun _ _ _ _ => b_Model_hold_0 (Lay.o84 L)) (Q1 := Q1) ?_ ?_
  · (first | exact c | (simp only [Option.getD_some]; exact c))
  · (first | exact k | (simp only [Option.getD_some]; exact k))
theorem w_Model_hold_5 {rod : Nat → Nat × (Nat → Int32)} {d : Nat} {Q : Option MV → MH → Prop} {u0 : Option MV} {u1 : Option MV} {u2 : Option MV} {u3 : Option MV} {xs0 : Int32} {h : MH}   (k1 : xs0.toInt = 0 → Wb rod d B_Model_hold 35 [u0, u1, u2, u3] [] h Q) (k2 : ¬ xs0.toInt = 0 → Wb rod d B_Model_hold 8 [u0, u1, u2, u3] [] h Q) : Wb rod d B_Model_hold 5 [u0, u1, u2, u3] [.inl xs0] h Q := by
  refine Wb.br (fun _ _ => b_Model_hold_5) (fun c => ?_) (fun c => ?_)
  · have c : (decide (xs0 = 0)) = true := by first | exact c | (simp only [Option.getD_some] at c; exact c)
    (first | exact (k1 (c_eqt c)) | (simp only [Option.getD_some]; exact (k1 (c_eqt c))))
  · have c : (decide (xs0 = 0)) = false := by first | exact c | (simp only [Option.getD_some] at c; exact c)
    (first | exact (k2 (c_eqf c)) | (simp only [Option.getD_some]; exact (k2 (c_eqf c))))
theorem w_Model_hold_8 {rod : Nat → Nat × (Nat → Int32)} {d : Nat} {Q : Option MV → MH → Prop} {u1 : Option MV} {x2 : Int32} {u3 : Option MV} {h : MH} (L : Lay h.2)  {Q1 : Option MV → MH → Prop} (c : Wc rod d 220 [.inr (.inr (.inl (some 84))), .inl x2] h Q1) (k : ∀ r1 h2, Q1 r1 h2 → Wb rod d B_Model_hold 13 [some (.inr (.inr (.inl (some 84)))), u1, some (.inl x2), u3] (r1.toList ++ []) h2 Q) : Wb rod d B_Model_hold 8 [some (.inr (.inr (.inl (some 84)))), u1, some (.inl x2), u3] [] h Q := by
  refine Wb.call (fun _ _ _ _ => b_Model_hold_8 (Lay.o84 L)) (Q1 := Q1) ?_ ?_
  · (first | exact c | (simp only [Option.getD_some]; exact c))
  · (first | exact k | (simp only [Option.getD_some]; exact k))
theorem w_Model_hold_13 {rod : Nat → Nat × (Nat → Int32)} {d : Nat} {Q : Option MV → MH → Prop} {u0 : Option MV} {u1 : Option MV} {u2 : Option MV} {u3 : Option MV} {xs0 : Int32} {h : MH}   (k1 : xs0.toInt = 0 → Wb rod d B_Model_hold 35 [u0, u1, u2, u3] [] h Q) (k2 : ¬ xs0.toInt = 0 → Wb rod d B_Model_hold 16 [u0, u1, u2, u3] [] h Q) : Wb rod d B_Model_hold 13 [u0, u1, u2, u3] [.inl xs0] h Q := by
  refine Wb.br (fun _ _ => b_Model_hold_13) (fun c => ?_) (fun c => ?_)
  · have c : (decide (xs0 = 0)) = true := by first | exact c | (simp only [Option.getD_some] at c; exact c)
    (first | exact (k1 (c_eqt c)) | (simp only [Option.getD_some]; exact (k1 (c_eqt c))))
  · have c : (decide (xs0 = 0)) = false := by first | exact c | (simp only [Option.getD_some] at c; exact c)
    (first | exact (k2 (c_eqf c)) | (simp only [Option.getD_some]; exact (k2 (c_eqf c))))
theorem w_Model_hold_16 {rod : Nat → Nat × (Nat → Int32)} {d : Nat} {Q : Option MV → MH → Prop} {u0 : Option MV} {u1 : Option MV} {u2 : Option MV} {x3 : Int32} {h : MH}   (k1 : x3.toInt = (-1) → Wb rod d B_Model_hold 37 [u0, u1, u2, some (.inl x3)] [] h Q) (k2 : ¬ x3.toInt = (-1) → Wb rod d B_Model_hold 21 [u0, u1, u2, some (.inl x3)] [] h Q) : Wb rod d B_Model_hold 16 [u0, u1, u2, some (.inl x3)] [] h Q := by
  refine Wb.br (fun _ _ => b_Model_hold_16) (fun c => ?_) (fun c => ?_)
  · have c : (decide (x3 = (-1 : Int32))) = true := by first | exact c | (simp only [Option.getD_some] at c; exact c)
    (first | exact (k1 (c_eqt c)) | (simp only [Option.getD_some]; exact (k1 (c_eqt c))))
  · have c : (decide (x3 = (-1 : Int32))) = false := by first | exact c | (simp only [Option.getD_some] at c; exact c)
    (first | exact (k2 (c_eqf c)) | (simp only [Option.getD_some]; exact (k2 (c_eqf c))))
theorem w_Model_hold_21 {rod : Nat → Nat × (Nat → Int32)} {d : Nat} {Q : Option MV → MH → Prop} {u0 : Option MV} {u1 : Option MV} {u2 : Option MV} {x3 : Int32} {h : MH}   (k1 : x3.toInt = (-2) → Wb rod d B_Model_hold 37 [u0, u1, u2, some (.inl x3)] [] h Q) (k2 : ¬ x3.toInt = (-2) → Wb rod d B_Model_hold 27 [u0, u1, u2, some (.inl x3)] [] h Q) : Wb rod d B_Model_hold 21 [u0, u1, u2, some (.inl x3)] [] h Q := by
  refine Wb.br (fun _ _ => b_Model_hold_21) (fun c => ?_) (fun c => ?_)
  · have c : (decide (x3 = (-2 : Int32))) = true := by first | exact c | (simp only [Option.getD_some] at c; exact c)
    (first | exact (k1 (c_eqt c)) | (simp only [Option.getD_some]; exact (k1 (c_eqt c))))
  · have c : (decide (x3 = (-2 : Int32))) = false := by first | exact c | (simp only [Option.getD_some] at c; exact c)
    (first | exact (k2 (c_eqf c)) | (simp only [Option.getD_some]; exact (k2 (c_eqf c))))
theorem w_Model_hold_27 {rod : Nat → Nat × (Nat → Int32)} {d : Nat} {Q : Option MV → MH → Prop} {u1 : Option MV} {u2 : Option MV} {x3 : Int32} {h : MH} (L : Lay h.2)  {Q1 : Option MV → MH → Prop} (c : Wc rod d 222 [.inr (.inr (.inl (some 84))), .inl x3] h Q1) (k : ∀ r1 h2, Q1 r1 h2 → Wb rod d B_Model_hold 32 [some (.inr (.inr (.inl (some 84)))), u1, u2, some (.inl x3)] (r1.toList ++ []) h2 Q) : Wb rod d B_Model_hold 27 [some (.inr (.inr (.inl (some 84)))), u1, u2, some (.inl x3)] [] h Q := by
  refine Wb.call (fun _ _ _ _ => b_Model_hold_27 (Lay.o84 L)) (Q1 := Q1) ?_ ?_
  · (first | exact c | (simp only [Option.getD_some]; exact c))
  · (first | exact k | (simp only [Option.getD_some]; exact k))
theorem w_Model_hold_32 {rod : Nat → Nat × (Nat → Int32)} {d : Nat} {Q : Option MV → MH → Prop} {u0 : Option MV} {u1 : Option MV} {u2 : Option MV} {u3 : Option MV} {xs0 : Int32} {h : MH}   (k1 : ¬ xs0.toInt = 0 → Wb rod d B_Model_hold 37 [u0, u1, u2, u3] [] h Q) (k2 : xs0.toInt = 0 → Wb rod d B_Model_hold 35 [u0, u1, u2, u3] [] h Q) : Wb rod d B_Model_hold 32 [u0, u1, u2, u3] [.inl xs0] h Q := by
  refine Wb.br (fun _ _ => b_Model_hold_32) (fun c => ?_) (fun c => ?_)
  · have c : (!(decide (xs0 = 0))) = true := by first | exact c | (simp only [Option.getD_some] at c; exact c)
    (first | exact (k1 (c_net c)) | (simp only [Option.getD_some]; exact (k1 (c_net c))))
  · have c : (!(decide (xs0 = 0))) = false := by first | exact c | (simp only [Option.getD_some] at c; exact c)
    (first | exact (k2 (c_nef c)) | (simp only [Option.getD_some]; exact (k2 (c_nef c))))
theorem w_Model_hold_35 {rod : Nat → Nat × (Nat → Int32)} {d : Nat} {Q : Option MV → MH → Prop} {u0 : Option MV} {u1 : Option MV} {u2 : Option MV} {u3 : Option MV} {h : MH}   (q : Q (some (.inl (-1 : Int32))) h) : Wb rod d B_Model_hold 35 [u0, u1, u2, u3] [] h Q := by
  refine Wb.ret (b_Model_hold_35) ?_
  (first | exact q | (simp only [Option.getD_some]; exact q))
theorem w_Model_hold_37 {rod : Nat → Nat × (Nat → Int32)} {d : Nat} {Q : Option MV → MH → Prop} {u1 : Option MV} {x2 : Int32} {u3 : Option MV} {h : MH} (L : Lay h.2)  {Q1 : Option MV → MH → Prop} (c : Wc rod d 267 [.inr (.inr (.inl (some 84))), .inl x2] h Q1) (k : ∀ r1 h2, Q1 r1 h2 → Wb rod d B_Model_hold 42 [some (.inr (.inr (.inl (some 84)))), u1, some (.inl x2), u3] (r1.toList ++ []) h2 Q) : Wb rod d B_Model_hold 37 [some (.inr (.inr (.inl (some 84)))), u1, some (.inl x2), u3] [] h Q := by
  refine Wb.call (fun _ _ _ _ => b_Model_hold_37 (Lay.o84 L)) (Q1 := Q1) ?_ ?_
  · (first | exact c | (simp only [Option.getD_some]; exact c))
  · (first | exact k | (simp only [Option.getD_some]; exact k))
theorem w_Model_hold_42 {rod : Nat → Nat × (Nat → Int32)} {d : Nat} {Q : Option MV → MH → Prop} {u0 : Option MV} {u1 : Option MV} {u2 : Option MV} {x3 : Int32} {h : MH}   (k1 : ¬ x3.toInt = (-1) → Wb rod d B_Model_hold 54 [u0, u1, u2, some (.inl x3)] [] h Q) (k2 : x3.toInt = (-1) → Wb rod d B_Model_hold 47 [u0, u1, u2, some (.inl x3)] [] h Q) : Wb rod d B_Model_hold 42 [u0, u1, u2, some (.inl x3)] [] h Q := by
  refine Wb.br (fun _ _ => b_Model_hold_42) (fun c => ?_) (fun c => ?_)
  · have c : (!(decide (x3 = (-1 : Int32)))) = true := by first | exact c | (simp only [Option.getD_some] at c; exact c)
    (first | exact (k1 (c_net c)) | (simp only [Option.getD_some]; exact (k1 (c_net c))))
  · have c : (!(decide (x3 = (-1 : Int32)))) = false := by first | exact c | (simp only [Option.getD_some] at c; exact c)
    (first | exact (k2 (c_nef c)) | (simp only [Option.getD_some]; exact (k2 (c_nef c))))
theorem w_Model_hold_47 {rod : Nat → Nat × (Nat → Int32)} {d : Nat} {Q : Option MV → MH → Prop} {u1 : Option MV} {u2 : Option MV} {u3 : Option MV} {h : MH} (L : Lay h.2)  (k : Wb rod d B_Model_hold 73 [some (.inr (.inr (.inl (some 84)))), u1, u2, u3] [.inl (h.1 84 35)] h Q) : Wb rod d B_Model_hold 47 [some (.inr (.inr (.inl (some 84)))), u1, u2, u3] [] h Q := by
  refine Wb.go (fun r hr q => b_Model_hold_47 (Lay.o84 L) ?_) k
  (first | exact q | (simp only [Option.getD_some]; exact q))
theorem w_Model_hold_54 {rod : Nat → Nat × (Nat → Int32)} {d : Nat} {Q : Option MV → MH → Prop} {u0 : Option MV} {u1 : Option MV} {u2 : Option MV} {x3 : Int32} {h : MH}   (k1 : ¬ x3.toInt = (-2) → Wb rod d B_Model_hold 67 [u0, u1, u2, some (.inl x3)] [] h Q) (k2 : x3.toInt = (-2) → Wb rod d B_Model_hold 60 [u0, u1, u2, some (.inl x3)] [] h Q) : Wb rod d B_Model_hold 54 [u0, u1, u2, some (.inl x3)] [] h Q := by
  refine Wb.br (fun _ _ => b_Model_hold_54) (fun c => ?_) (fun c => ?_)
  · have c : (!(decide (x3 = (-2 : Int32)))) = true := by first | exact c | (simp only [Option.getD_some] at c; exact c)
    (first | exact (k1 (c_net c)) | (simp only [Option.getD_some]; exact (k1 (c_net c))))
  · have c : (!(decide (x3 = (-2 : Int32)))) = false := by first | exact c | (simp only [Option.getD_some] at c; exact c)
    (first | exact (k2 (c_nef c)) | (simp only [Option.getD_some]; exact (k2 (c_nef c))))
theorem w_Model_hold_60 {rod : Nat → Nat × (Nat → Int32)} {d : Nat} {Q : Option MV → MH → Prop} {u1 : Option MV} {u2 : Option MV} {u3 : Option MV} {h : MH} (L : Lay h.2)  (k : Wb rod d B_Model_hold 73 [some (.inr (.inr (.inl (some 84)))), u1, u2, u3] [.inl (h.1 84 36)] h Q) : Wb rod d B_Model_hold 60 [some (.inr (.inr (.inl (some 84)))), u1, u2, u3] [] h Q := by
  refine Wb.go (fun r hr q => b_Model_hold_60 (Lay.o84 L) ?_) k
  (first | exact q | (simp only [Option.getD_some]; exact q))
theorem w_Model_hold_67 {rod : Nat → Nat × (Nat → Int32)} {d : Nat} {Q : Option MV → MH → Prop} {u1 : Option MV} {u2 : Option MV} {x3 : Int32} {h : MH} (L : Lay h.2) (g0 : 0 ≤ x3.toInt ∧ x3.toInt < 4) (k : Wb rod d B_Model_hold 73 [some (.inr (.inr (.inl (some 84)))), u1, u2, some (.inl x3)] [.inl (h.1 95 x3.toNatClampNeg)] h Q) : Wb rod d B_Model_hold 67 [some (.inr (.inr (.inl (some 84)))), u1, u2, some (.inl x3)] [] h Q := by
  refine Wb.go (fun r hr q => b_Model_hold_67 (Lay.o84 L) (Lay.a84_34 L g0) ?_) k
  (first | exact q | (simp only [Option.getD_some, (Lay.r84_34 L)]; exact q))
theorem w_Model_hold_73 {rod : Nat → Nat × (Nat → Int32)} {d : Nat} {Q : Option MV → MH → Prop} {u0 : Option MV} {u1 : Option MV} {u2 : Option MV} {u3 : Option MV} {xs0 : Int32} {h : MH}   (q : Q (some (.inl xs0)) h) : Wb rod d B_Model_hold 73 [u0, u1, u2, u3] [.inl xs0] h Q := by
  refine Wb.ret (b_Model_hold_73) ?_
  (first | exact q | (simp only [Option.getD_some]; exact q))
