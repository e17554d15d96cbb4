/-! RULES OF BLOCKS over postconditions, references resolved (12) -/
theorem n_Model_holds {rod : Nat → Nat × (Nat → Int32)} {d : Nat} {Q : Option MV → MH → Prop} {x1 : Int32} {h : MH} (k : Wb rod d B_Model_holds 0 [some (.inr (.inr (.inl (some 84)))), some (.inl x1), none, none, none, none, none, none] [] h Q) : Wc rod (d + 1) 267 [.inr (.inr (.inl (some 84))), .inl x1] h Q := Wc.en (fun _ _ => e_Model_holds) k
theorem w_Model_holds_0 {rod : Nat → Nat × (Nat → Int32)} {d : Nat} {Q : Option MV → MH → Prop} {u0 : Option MV} {u1 : Option MV} {u2 : Option MV} {u3 : Option MV} {u4 : Option MV} {u5 : Option MV} {u6 : Option MV} {u7 : Option MV} {h : MH}  (g0 : okl [u0, u1, u2, u3, u4, u5, u6, u7] 2 = true) (k : Wb rod d B_Model_holds 4 [u0, u1, some (.inl (1 : Int32)), some (.inl (0 : Int32)), u4, u5, u6, u7] [] h Q) : Wb rod d B_Model_holds 0 [u0, u1, u2, u3, u4, u5, u6, u7] [] h Q := by
  refine Wb.go (fun r hr q => b_Model_holds_0 g0 ?_) k
  (first | exact q | (simp only [Option.getD_some]; exact q))
theorem w_Model_holds_4 {rod : Nat → Nat × (Nat → Int32)} {d : Nat} {Q : Option MV → MH → Prop} {u1 : Option MV} {u2 : Option MV} {x3 : Int32} {u4 : Option MV} {u5 : Option MV} {u6 : Option MV} {u7 : Option MV} {h : MH} (L : Lay h.2)  (k1 : (h.1 84 15).toInt ≤ x3.toInt → Wb rod d B_Model_holds 23 [some (.inr (.inr (.inl (some 84)))), u1, u2, some (.inl x3), u4, u5, u6, u7] [] h Q) (k2 : ¬ (h.1 84 15).toInt ≤ x3.toInt → Wb rod d B_Model_holds 12 [some (.inr (.inr (.inl (some 84)))), u1, u2, some (.inl x3), u4, u5, u6, u7] [] h Q) : Wb rod d B_Model_holds 4 [some (.inr (.inr (.inl (some 84)))), u1, u2, some (.inl x3), u4, u5, u6, u7] [] h Q := by
  refine Wb.br (fun _ _ => b_Model_holds_4 (Lay.o84 L)) (fun c => ?_) (fun c => ?_)
  · have c : (decide ((h.1 84 15) ≤ x3)) = true := by first | exact c | (simp only [Option.getD_some] at c; exact c)
    (first | exact (k1 (c_let c)) | (simp only [Option.getD_some]; exact (k1 (c_let c))))
  · have c : (decide ((h.1 84 15) ≤ x3)) = false := by first | exact c | (simp only [Option.getD_some] at c; exact c)
    (first | exact (k2 (c_lef c)) | (simp only [Option.getD_some]; exact (k2 (c_lef c))))
theorem w_Model_holds_12 {rod : Nat → Nat × (Nat → Int32)} {d : Nat} {Q : Option MV → MH → Prop} {u0 : Option MV} {u1 : Option MV} {x2 : Int32} {x3 : Int32} {u4 : Option MV} {u5 : Option MV} {u6 : Option MV} {u7 : Option MV} {h : MH}  (g0 : okl [u0, u1, some (.inl x2), some (.inl x3), u4, u5, u6, u7] 2 = true) (k : Wb rod d B_Model_holds 4 [u0, u1, some (.inl (x2 * (10 : Int32))), some (.inl (x3 + 1)), u4, u5, u6, u7] [] h Q) : Wb rod d B_Model_holds 12 [u0, u1, some (.inl x2), some (.inl x3), u4, u5, u6, u7] [] h Q := by
  refine Wb.go (fun r hr q => b_Model_holds_12 g0 ?_) k
  (first | exact q | (simp only [Option.getD_some]; exact q))
theorem w_Model_holds_23 {rod : Nat → Nat × (Nat → Int32)} {d : Nat} {Q : Option MV → MH → Prop} {u1 : Option MV} {u2 : Option MV} {u3 : Option MV} {u4 : Option MV} {u5 : Option MV} {u6 : Option MV} {u7 : Option MV} {h : MH} (L : Lay h.2)  (k : Wb rod d B_Model_holds 28 [some (.inr (.inr (.inl (some 84)))), u1, u2, u3, u4, u5, u6, u7] [] (sI h 84 35 (-1 : Int32)) Q) : Wb rod d B_Model_holds 23 [some (.inr (.inr (.inl (some 84)))), u1, u2, u3, u4, u5, u6, u7] [] h Q := by
  refine Wb.go (fun r hr q => b_Model_holds_23 (Lay.o84 L) ?_) k
  (first | exact q | (simp only [Option.getD_some]; exact q))
theorem w_Model_holds_28 {rod : Nat → Nat × (Nat → Int32)} {d : Nat} {Q : Option MV → MH → Prop} {u1 : Option MV} {u2 : Option MV} {u3 : Option MV} {u4 : Option MV} {u5 : Option MV} {u6 : Option MV} {u7 : Option MV} {h : MH} (L : Lay h.2)  (k : Wb rod d B_Model_holds 33 [some (.inr (.inr (.inl (some 84)))), u1, u2, u3, u4, u5, u6, u7] [] (sI h 84 36 (0 : Int32)) Q) : Wb rod d B_Model_holds 28 [some (.inr (.inr (.inl (some 84)))), u1, u2, u3, u4, u5, u6, u7] [] h Q := by
  refine Wb.go (fun r hr q => b_Model_holds_28 (Lay.o84 L) ?_) k
  (first | exact q | (simp only [Option.getD_some]; exact q))
theorem w_Model_holds_33 {rod : Nat → Nat × (Nat → Int32)} {d : Nat} {Q : Option MV → MH → Prop} {u0 : Option MV} {u1 : Option MV} {u2 : Option MV} {u3 : Option MV} {u4 : Option MV} {u5 : Option MV} {u6 : Option MV} {u7 : Option MV} {h : MH}  (g0 : okl [u0, u1, u2, u3, u4, u5, u6, u7] 3 = true) (k : Wb rod d B_Model_holds 35 [u0, u1, u2, some (.inl (0 : Int32)), u4, u5, u6, u7] [] h Q) : Wb rod d B_Model_holds 33 [u0, u1, u2, u3, u4, u5, u6, u7] [] h Q := by
  refine Wb.go (fun r hr q => b_Model_holds_33 g0 ?_) k
  (first | exact q | (simp only [Option.getD_some]; exact q))
theorem w_Model_holds_35 {rod : Nat → Nat × (Nat → Int32)} {d : Nat} {Q : Option MV → MH → Prop} {u0 : Option MV} {u1 : Option MV} {x2 : Int32} {x3 : Int32} {u4 : Option MV} {u5 : Option MV} {u6 : Option MV} {u7 : Option MV} {h : MH}   (k1 : x2.toInt ≤ x3.toInt → Wb rod d B_Model_holds 227 [u0, u1, some (.inl x2), some (.inl x3), u4, u5, u6, u7] [] h Q) (k2 : ¬ x2.toInt ≤ x3.toInt → Wb rod d B_Model_holds 40 [u0, u1, some (.inl x2), some (.inl x3), u4, u5, u6, u7] [] h Q) : Wb rod d B_Model_holds 35 [u0, u1, some (.inl x2), some (.inl x3), u4, u5, u6, u7] [] h Q := by
  refine Wb.br (fun _ _ => b_Model_holds_35) (fun c => ?_) (fun c => ?_)
  · have c : (decide (x2 ≤ x3)) = true := by first | exact c | (simp only [Option.getD_some] at c; exact c)
    (first | exact (k1 (c_let c)) | (simp only [Option.getD_some]; exact (k1 (c_let c))))
  · have c : (decide (x2 ≤ x3)) = false := by first | exact c | (simp only [Option.getD_some] at c; exact c)
    (first | exact (k2 (c_lef c)) | (simp only [Option.getD_some]; exact (k2 (c_lef c))))
theorem w_Model_holds_40 {rod : Nat → Nat × (Nat → Int32)} {d : Nat} {Q : Option MV → MH → Prop} {u1 : Option MV} {u2 : Option MV} {x3 : Int32} {u4 : Option MV} {u5 : Option MV} {u6 : Option MV} {u7 : Option MV} {h : MH} (L : Lay h.2)  (k : Wb rod d B_Model_holds 57 [some (.inr (.inr (.inl (some 84)))), u1, u2, some (.inl x3), some (.inl x3), some (.inl (0 : Int32)), some (.inl (0 : Int32)), some (.inl ((h.1 84 15) - (1 : Int32)))] [] h Q) : Wb rod d B_Model_holds 40 [some (.inr (.inr (.inl (some 84)))), u1, u2, some (.inl x3), u4, u5, u6, u7] [] h Q := by
  refine Wb.go (fun r hr q => b_Model_holds_40 (Lay.o84 L) ?_) k
  (first | exact q | (simp only [Option.getD_some]; exact q))
theorem w_Model_holds_57 {rod : Nat → Nat × (Nat → Int32)} {d : Nat} {Q : Option MV → MH → Prop} {u0 : Option MV} {u1 : Option MV} {u2 : Option MV} {u3 : Option MV} {u4 : Option MV} {u5 : Option MV} {u6 : Option MV} {x7 : Int32} {h : MH}   (k1 : x7.toInt < 0 → Wb rod d B_Model_holds 111 [u0, u1, u2, u3, u4, u5, u6, some (.inl x7)] [] h Q) (k2 : ¬ x7.toInt < 0 → Wb rod d B_Model_holds 62 [u0, u1, u2, u3, u4, u5, u6, some (.inl x7)] [] h Q) : Wb rod d B_Model_holds 57 [u0, u1, u2, u3, u4, u5, u6, some (.inl x7)] [] h Q := by
  refine Wb.br (fun _ _ => b_Model_holds_57) (fun c => ?_) (fun c => ?_)
  · have c : (decide (x7 < 0)) = true := by first | exact c | (simp only [Option.getD_some] at c; exact c)
    (first | exact (k1 (c_ltt c)) | (simp only [Option.getD_some]; exact (k1 (c_ltt c))))
  · have c : (decide (x7 < 0)) = false := by first | exact c | (simp only [Option.getD_some] at c; exact c)
    (first | exact (k2 (c_ltf c)) | (simp only [Option.getD_some]; exact (k2 (c_ltf c))))
theorem w_Model_holds_62 {rod : Nat → Nat × (Nat → Int32)} {d : Nat} {Q : Option MV → MH → Prop} {u1 : Option MV} {u2 : Option MV} {u3 : Option MV} {x4 : Int32} {x5 : Int32} {u6 : Option MV} {x7 : Int32} {h : MH} (L : Lay h.2)  {Q1 : Option MV → MH → Prop} (c : Wc rod d 223 [.inr (.inr (.inl (some 84))), .inl x7, .inl (0 : Int32)] h Q1) (k : ∀ r1 h2, Q1 r1 h2 → Wb rod d B_Model_holds 76 [some (.inr (.inr (.inl (some 84)))), u1, u2, u3, some (.inl x4), some (.inl x5), u6, some (.inl x7)] (r1.toList ++ [.inl (x4 - x4 / (10 : Int32) * (10 : Int32)), .inl x5]) h2 Q) : Wb rod d B_Model_holds 62 [some (.inr (.inr (.inl (some 84)))), u1, u2, u3, some (.inl x4), some (.inl x5), u6, some (.inl x7)] [] h Q := by
  refine Wb.call (fun _ _ _ _ => b_Model_holds_62 (by decide) (Lay.o84 L)) (Q1 := Q1) ?_ ?_
  · (first | exact c | (simp only [Option.getD_some]; exact c))
  · (first | exact k | (simp only [Option.getD_some]; exact k))
theorem w_Model_holds_76 {rod : Nat → Nat × (Nat → Int32)} {d : Nat} {Q : Option MV → MH → Prop} {u1 : Option MV} {u2 : Option MV} {u3 : Option MV} {x4 : Int32} {u5 : Option MV} {x6 : Int32} {x7 : Int32} {xs0 : Int32} {xs1 : Int32} {xs2 : Int32} {h : MH} (L : Lay h.2)  {Q1 : Option MV → MH → Prop} (c : Wc rod d 223 [.inr (.inr (.inl (some 84))), .inl x7, .inl (1 : Int32)] h Q1) (k : ∀ r1 h2, Q1 r1 h2 → Wb rod d B_Model_holds 94 [some (.inr (.inr (.inl (some 84)))), u1, u2, u3, some (.inl x4), some (.inl (xs0 + (xs1 * xs2))), some (.inl x6), some (.inl x7)] (r1.toList ++ [.inl (x4 - x4 / (10 : Int32) * (10 : Int32)), .inl x6]) h2 Q) : Wb rod d B_Model_holds 76 [some (.inr (.inr (.inl (some 84)))), u1, u2, u3, some (.inl x4), u5, some (.inl x6), some (.inl x7)] [.inl xs2, .inl xs1, .inl xs0] h Q := by
  refine Wb.call (fun _ _ _ _ => b_Model_holds_76 (by decide) (Lay.o84 L)) (Q1 := Q1) ?_ ?_
  · (first | exact c | (simp only [Option.getD_some]; exact c))
  · (first | exact k | (simp only [Option.getD_some]; exact k))
theorem w_Model_holds_94 {rod : Nat → Nat × (Nat → Int32)} {d : Nat} {Q : Option MV → MH → Prop} {u0 : Option MV} {u1 : Option MV} {u2 : Option MV} {u3 : Option MV} {x4 : Int32} {u5 : Option MV} {u6 : Option MV} {x7 : Int32} {xs0 : Int32} {xs1 : Int32} {xs2 : Int32} {h : MH}  (g0 : okl [u0, u1, u2, u3, some (.inl x4), u5, u6, some (.inl x7)] 6 = true) (g1 : okl [u0, u1, u2, u3, some (.inl x4), u5, some (.inl (xs0 + (xs1 * xs2))), some (.inl x7)] 4 = true) (k : Wb rod d B_Model_holds 57 [u0, u1, u2, u3, some (.inl (x4 / (10 : Int32))), u5, some (.inl (xs0 + (xs1 * xs2))), some (.inl (x7 + (-1)))] [] h Q) : Wb rod d B_Model_holds 94 [u0, u1, u2, u3, some (.inl x4), u5, u6, some (.inl x7)] [.inl xs2, .inl xs1, .inl xs0] h Q := by
  refine Wb.go (fun r hr q => b_Model_holds_94 g0 (by decide) g1 ?_) k
  (first | exact q | (simp only [Option.getD_some]; exact q))
theorem w_Model_holds_111 {rod : Nat → Nat × (Nat → Int32)} {d : Nat} {Q : Option MV → MH → Prop} {x1 : Int32} {u2 : Option MV} {u3 : Option MV} {u4 : Option MV} {u5 : Option MV} {x6 : Int32} {u7 : Option MV} {h : MH} (L : Lay h.2)  {Q1 : Option MV → MH → Prop} (c : Wc rod d 221 [.inr (.inr (.inl (some 84))), .inl x1, .inl (3 : Int32)] h Q1) (k : ∀ r1 h2, Q1 r1 h2 → Wb rod d B_Model_holds 119 [some (.inr (.inr (.inl (some 84)))), some (.inl x1), u2, u3, u4, u5, some (.inl x6), u7] (r1.toList ++ [.inl x6]) h2 Q) : Wb rod d B_Model_holds 111 [some (.inr (.inr (.inl (some 84)))), some (.inl x1), u2, u3, u4, u5, some (.inl x6), u7] [] h Q := by
  refine Wb.call (fun _ _ _ _ => b_Model_holds_111 (Lay.o84 L)) (Q1 := Q1) ?_ ?_
  · (first | exact c | (simp only [Option.getD_some]; exact c))
  · (first | exact k | (simp only [Option.getD_some]; exact k))
theorem w_Model_holds_119 {rod : Nat → Nat × (Nat → Int32)} {d : Nat} {Q : Option MV → MH → Prop} {u0 : Option MV} {u1 : Option MV} {u2 : Option MV} {u3 : Option MV} {u4 : Option MV} {u5 : Option MV} {u6 : Option MV} {u7 : Option MV} {xs0 : Int32} {xs1 : Int32} {h : MH}   (k1 : xs0.toInt ≤ xs1.toInt → Wb rod d B_Model_holds 125 [u0, u1, u2, u3, u4, u5, u6, u7] [] h Q) (k2 : ¬ xs0.toInt ≤ xs1.toInt → Wb rod d B_Model_holds 122 [u0, u1, u2, u3, u4, u5, u6, u7] [] h Q) : Wb rod d B_Model_holds 119 [u0, u1, u2, u3, u4, u5, u6, u7] [.inl xs1, .inl xs0] h Q := by
  refine Wb.br (fun _ _ => b_Model_holds_119) (fun c => ?_) (fun c => ?_)
  · have c : (decide (xs0 ≤ xs1)) = true := by first | exact c | (simp only [Option.getD_some] at c; exact c)
    (first | exact (k1 (c_let c)) | (simp only [Option.getD_some]; exact (k1 (c_let c))))
  · have c : (decide (xs0 ≤ xs1)) = false := by first | exact c | (simp only [Option.getD_some] at c; exact c)
    (first | exact (k2 (c_lef c)) | (simp only [Option.getD_some]; exact (k2 (c_lef c))))
theorem w_Model_holds_122 {rod : Nat → Nat × (Nat → Int32)} {d : Nat} {Q : Option MV → MH → Prop} {u0 : Option MV} {u1 : Option MV} {u2 : Option MV} {u3 : Option MV} {u4 : Option MV} {u5 : Option MV} {u6 : Option MV} {u7 : Option MV} {h : MH}   (k : Wb rod d B_Model_holds 221 [u0, u1, u2, u3, u4, u5, u6, u7] [] h Q) : Wb rod d B_Model_holds 122 [u0, u1, u2, u3, u4, u5, u6, u7] [] h Q := by
  refine Wb.go (fun r hr q => b_Model_holds_122 ?_) k
  (first | exact q | (simp only [Option.getD_some]; exact q))
theorem w_Model_holds_125 {rod : Nat → Nat × (Nat → Int32)} {d : Nat} {Q : Option MV → MH → Prop} {x1 : Int32} {u2 : Option MV} {u3 : Option MV} {u4 : Option MV} {x5 : Int32} {u6 : Option MV} {u7 : Option MV} {h : MH} (L : Lay h.2)  {Q1 : Option MV → MH → Prop} (c : Wc rod d 221 [.inr (.inr (.inl (some 84))), .inl x1, .inl (2 : Int32)] h Q1) (k : ∀ r1 h2, Q1 r1 h2 → Wb rod d B_Model_holds 133 [some (.inr (.inr (.inl (some 84)))), some (.inl x1), u2, u3, u4, some (.inl x5), u6, u7] (r1.toList ++ [.inl x5]) h2 Q) : Wb rod d B_Model_holds 125 [some (.inr (.inr (.inl (some 84)))), some (.inl x1), u2, u3, u4, some (.inl x5), u6, u7] [] h Q := by
  refine Wb.call (fun _ _ _ _ => b_Model_holds_125 (Lay.o84 L)) (Q1 := Q1) ?_ ?_
  · (first | exact c | (simp only [Option.getD_some]; exact c))
  · (first | exact k | (simp only [Option.getD_some]; exact k))
theorem w_Model_holds_133 {rod : Nat → Nat × (Nat → Int32)} {d : Nat} {Q : Option MV → MH → Prop} {u0 : Option MV} {u1 : Option MV} {u2 : Option MV} {u3 : Option MV} {u4 : Option MV} {u5 : Option MV} {u6 : Option MV} {u7 : Option MV} {xs0 : Int32} {xs1 : Int32} {h : MH}   {Q1 : Option MV → MH → Prop} (c : Wc rod d 237 [.inl xs0, .inl xs1] h Q1) (k : ∀ r1 h2, Q1 r1 h2 → Wb rod d B_Model_holds 136 [u0, u1, u2, u3, u4, u5, u6, u7] (r1.toList ++ []) h2 Q) : Wb rod d B_Model_holds 133 [u0, u1, u2, u3, u4, u5, u6, u7] [.inl xs1, .inl xs0] h Q := by
  refine Wb.call (fun _ _ _ _ => b_Model_holds_133) (Q1 := Q1) ?_ ?_
  · (first | exact c | (simp only [Option.getD_some]; exact c))
  · (first | exact k | (simp only [Option.getD_some]; exact k))
theorem w_Model_holds_136 {rod : Nat → Nat × (Nat → Int32)} {d : Nat} {Q : Option MV → MH → Prop} {u1 : Option MV} {u2 : Option MV} {u3 : Option MV} {u4 : Option MV} {u5 : Option MV} {u6 : Option MV} {u7 : Option MV} {xs0 : Int32} {h : MH} (L : Lay h.2) (g0 : okl [some (.inr (.inr (.inl (some 84)))), u1, u2, u3, u4, u5, u6, u7] 5 = true) (k1 : xs0.toInt < (h.1 84 35).toInt → Wb rod d B_Model_holds 221 [some (.inr (.inr (.inl (some 84)))), u1, u2, u3, u4, some (.inl xs0), u6, u7] [] h Q) (k2 : ¬ xs0.toInt < (h.1 84 35).toInt → Wb rod d B_Model_holds 147 [some (.inr (.inr (.inl (some 84)))), u1, u2, u3, u4, some (.inl xs0), u6, u7] [] h Q) : Wb rod d B_Model_holds 136 [some (.inr (.inr (.inl (some 84)))), u1, u2, u3, u4, u5, u6, u7] [.inl xs0] h Q := by
  refine Wb.br (fun _ _ => b_Model_holds_136 g0 (Lay.o84 L)) (fun c => ?_) (fun c => ?_)
  · have c : (decide (xs0 < (h.1 84 35))) = true := by first | exact c | (simp only [Option.getD_some] at c; exact c)
    (first | exact (k1 (c_ltt c)) | (simp only [Option.getD_some]; exact (k1 (c_ltt c))))
  · have c : (decide (xs0 < (h.1 84 35))) = false := by first | exact c | (simp only [Option.getD_some] at c; exact c)
    (first | exact (k2 (c_ltf c)) | (simp only [Option.getD_some]; exact (k2 (c_ltf c))))
theorem w_Model_holds_147 {rod : Nat → Nat × (Nat → Int32)} {d : Nat} {Q : Option MV → MH → Prop} {u1 : Option MV} {u2 : Option MV} {u3 : Option MV} {u4 : Option MV} {x5 : Int32} {u6 : Option MV} {u7 : Option MV} {h : MH} (L : Lay h.2)  (k1 : ¬ x5.toInt = (h.1 84 35).toInt → Wb rod d B_Model_holds 168 [some (.inr (.inr (.inl (some 84)))), u1, u2, u3, u4, some (.inl x5), u6, u7] [] h Q) (k2 : x5.toInt = (h.1 84 35).toInt → Wb rod d B_Model_holds 156 [some (.inr (.inr (.inl (some 84)))), u1, u2, u3, u4, some (.inl x5), u6, u7] [] h Q) : Wb rod d B_Model_holds 147 [some (.inr (.inr (.inl (some 84)))), u1, u2, u3, u4, some (.inl x5), u6, u7] [] h Q := by
  refine Wb.br (fun _ _ => b_Model_holds_147 (Lay.o84 L)) (fun c => ?_) (fun c => ?_)
  · have c : (!(decide (x5 = (h.1 84 35)))) = true := by first | exact c | (simp only [Option.getD_some] at c; exact c)
    (first | exact (k1 (c_net c)) | (simp only [Option.getD_some]; exact (k1 (c_net c))))
  · have c : (!(decide (x5 = (h.1 84 35)))) = false := by first | exact c | (simp only [Option.getD_some] at c; exact c)
    (first | exact (k2 (c_nef c)) | (simp only [Option.getD_some]; exact (k2 (c_nef c))))
theorem w_Model_holds_156 {rod : Nat → Nat × (Nat → Int32)} {d : Nat} {Q : Option MV → MH → Prop} {u1 : Option MV} {u2 : Option MV} {u3 : Option MV} {u4 : Option MV} {u5 : Option MV} {x6 : Int32} {u7 : Option MV} {h : MH} (L : Lay h.2)  (k1 : x6.toInt < (h.1 84 36).toInt → Wb rod d B_Model_holds 168 [some (.inr (.inr (.inl (some 84)))), u1, u2, u3, u4, u5, some (.inl x6), u7] [] h Q) (k2 : ¬ x6.toInt < (h.1 84 36).toInt → Wb rod d B_Model_holds 165 [some (.inr (.inr (.inl (some 84)))), u1, u2, u3, u4, u5, some (.inl x6), u7] [] h Q) : Wb rod d B_Model_holds 156 [some (.inr (.inr (.inl (some 84)))), u1, u2, u3, u4, u5, some (.inl x6), u7] [] h Q := by
  refine Wb.br (fun _ _ => b_Model_holds_156 (Lay.o84 L)) (fun c => ?_) (fun c => ?_)
  · have c : (decide (x6 < (h.1 84 36))) = true := by first | exact c | (simp only [Option.getD_some] at c; exact c)
    (first | exact (k1 (c_ltt c)) | (simp only [Option.getD_some]; exact (k1 (c_ltt c))))
  · have c : (decide (x6 < (h.1 84 36))) = false := by first | exact c | (simp only [Option.getD_some] at c; exact c)
    (first | exact (k2 (c_ltf c)) | (simp only [Option.getD_some]; exact (k2 (c_ltf c))))
theorem w_Model_holds_165 {rod : Nat → Nat × (Nat → Int32)} {d : Nat} {Q : Option MV → MH → Prop} {u0 : Option MV} {u1 : Option MV} {u2 : Option MV} {u3 : Option MV} {u4 : Option MV} {u5 : Option MV} {u6 : Option MV} {u7 : Option MV} {h : MH}   (k : Wb rod d B_Model_holds 221 [u0, u1, u2, u3, u4, u5, u6, u7] [] h Q) : Wb rod d B_Model_holds 165 [u0, u1, u2, u3, u4, u5, u6, u7] [] h Q := by
  refine Wb.go (fun r hr q => b_Model_holds_165 ?_) k
  (first | exact q | (simp only [Option.getD_some]; exact q))
theorem w_Model_holds_168 {rod : Nat → Nat × (Nat → Int32)} {d : Nat} {Q : Option MV → MH → Prop} {u1 : Option MV} {u2 : Option MV} {u3 : Option MV} {u4 : Option MV} {x5 : Int32} {u6 : Option MV} {u7 : Option MV} {h : MH} (L : Lay h.2)  (k : Wb rod d B_Model_holds 174 [some (.inr (.inr (.inl (some 84)))), u1, u2, u3, u4, some (.inl x5), u6, u7] [] (sI h 84 35 x5) Q) : Wb rod d B_Model_holds 168 [some (.inr (.inr (.inl (some 84)))), u1, u2, u3, u4, some (.inl x5), u6, u7] [] h Q := by
  refine Wb.go (fun r hr q => b_Model_holds_168 (Lay.o84 L) ?_) k
  (first | exact q | (simp only [Option.getD_some]; exact q))
theorem w_Model_holds_174 {rod : Nat → Nat × (Nat → Int32)} {d : Nat} {Q : Option MV → MH → Prop} {u1 : Option MV} {u2 : Option MV} {u3 : Option MV} {u4 : Option MV} {u5 : Option MV} {x6 : Int32} {u7 : Option MV} {h : MH} (L : Lay h.2)  (k : Wb rod d B_Model_holds 180 [some (.inr (.inr (.inl (some 84)))), u1, u2, u3, u4, u5, some (.inl x6), u7] [] (sI h 84 36 x6) Q) : Wb rod d B_Model_holds 174 [some (.inr (.inr (.inl (some 84)))), u1, u2, u3, u4, u5, some (.inl x6), u7] [] h Q := by
  refine Wb.go (fun r hr q => b_Model_holds_174 (Lay.o84 L) ?_) k
  (first | exact q | (simp only [Option.getD_some]; exact q))
theorem w_Model_holds_180 {rod : Nat → Nat × (Nat → Int32)} {d : Nat} {Q : Option MV → MH → Prop} {u1 : Option MV} {u2 : Option MV} {x3 : Int32} {u4 : Option MV} {u5 : Option MV} {u6 : Option MV} {u7 : Option MV} {h : MH} (L : Lay h.2) (g0 : okl [some (.inr (.inr (.inl (some 84)))), u1, u2, some (.inl x3), some (.inl x3), u5, u6, u7] 7 = true) (k : Wb rod d B_Model_holds 191 [some (.inr (.inr (.inl (some 84)))), u1, u2, some (.inl x3), some (.inl x3), u5, u6, some (.inl ((h.1 84 15) - (1 : Int32)))] [] h Q) : Wb rod d B_Model_holds 180 [some (.inr (.inr (.inl (some 84)))), u1, u2, some (.inl x3), u4, u5, u6, u7] [] h Q := by
  refine Wb.go (fun r hr q => b_Model_holds_180 (Lay.o84 L) g0 ?_) k
  (first | exact q | (simp only [Option.getD_some]; exact q))
theorem w_Model_holds_191 {rod : Nat → Nat × (Nat → Int32)} {d : Nat} {Q : Option MV → MH → Prop} {u0 : Option MV} {u1 : Option MV} {u2 : Option MV} {u3 : Option MV} {u4 : Option MV} {u5 : Option MV} {u6 : Option MV} {x7 : Int32} {h : MH}   (k1 : x7.toInt < 0 → Wb rod d B_Model_holds 221 [u0, u1, u2, u3, u4, u5, u6, some (.inl x7)] [] h Q) (k2 : ¬ x7.toInt < 0 → Wb rod d B_Model_holds 196 [u0, u1, u2, u3, u4, u5, u6, some (.inl x7)] [] h Q) : Wb rod d B_Model_holds 191 [u0, u1, u2, u3, u4, u5, u6, some (.inl x7)] [] h Q := by
  refine Wb.br (fun _ _ => b_Model_holds_191) (fun c => ?_) (fun c => ?_)
  · have c : (decide (x7 < 0)) = true := by first | exact c | (simp only [Option.getD_some] at c; exact c)
    (first | exact (k1 (c_ltt c)) | (simp only [Option.getD_some]; exact (k1 (c_ltt c))))
  · have c : (decide (x7 < 0)) = false := by first | exact c | (simp only [Option.getD_some] at c; exact c)
    (first | exact (k2 (c_ltf c)) | (simp only [Option.getD_some]; exact (k2 (c_ltf c))))
theorem w_Model_holds_196 {rod : Nat → Nat × (Nat → Int32)} {d : Nat} {Q : Option MV → MH → Prop} {u1 : Option MV} {u2 : Option MV} {u3 : Option MV} {x4 : Int32} {u5 : Option MV} {u6 : Option MV} {x7 : Int32} {h : MH} (L : Lay h.2) (g0 : 0 ≤ x7.toInt ∧ x7.toInt < 4) (k : Wb rod d B_Model_holds 208 [some (.inr (.inr (.inl (some 84)))), u1, u2, u3, some (.inl x4), u5, u6, some (.inl x7)] [] (sI h 95 x7.toNatClampNeg (x4 - x4 / (10 : Int32) * (10 : Int32))) Q) : Wb rod d B_Model_holds 196 [some (.inr (.inr (.inl (some 84)))), u1, u2, u3, some (.inl x4), u5, u6, some (.inl x7)] [] h Q := by
  refine Wb.go (fun r hr q => b_Model_holds_196 (Lay.o84 L) (by decide) (Lay.a84_34 L g0) ?_) k
  (first | exact q | (simp only [Option.getD_some, (Lay.r84_34 L)]; exact q))
theorem w_Model_holds_208 {rod : Nat → Nat × (Nat → Int32)} {d : Nat} {Q : Option MV → MH → Prop} {u0 : Option MV} {u1 : Option MV} {u2 : Option MV} {u3 : Option MV} {x4 : Int32} {u5 : Option MV} {u6 : Option MV} {x7 : Int32} {h : MH}  (g0 : okl [u0, u1, u2, u3, some (.inl x4), u5, u6, some (.inl x7)] 4 = true) (g1 : okl [u0, u1, u2, u3, some (.inl (x4 / (10 : Int32))), u5, u6, some (.inl x7)] 7 = true) (k : Wb rod d B_Model_holds 191 [u0, u1, u2, u3, some (.inl (x4 / (10 : Int32))), u5, u6, some (.inl (x7 + (-1)))] [] h Q) : Wb rod d B_Model_holds 208 [u0, u1, u2, u3, some (.inl x4), u5, u6, some (.inl x7)] [] h Q := by
  refine Wb.go (fun r hr q => b_Model_holds_208 (by decide) g0 g1 ?_) k
  (first | exact q | (simp only [Option.getD_some]; exact q))
theorem w_Model_holds_221 {rod : Nat → Nat × (Nat → Int32)} {d : Nat} {Q : Option MV → MH → Prop} {u0 : Option MV} {u1 : Option MV} {u2 : Option MV} {x3 : Int32} {u4 : Option MV} {u5 : Option MV} {u6 : Option MV} {u7 : Option MV} {h : MH}  (g0 : okl [u0, u1, u2, some (.inl x3), u4, u5, u6, u7] 3 = true) (k : Wb rod d B_Model_holds 35 [u0, u1, u2, some (.inl (x3 + 1)), u4, u5, u6, u7] [] h Q) : Wb rod d B_Model_holds 221 [u0, u1, u2, some (.inl x3), u4, u5, u6, u7] [] h Q := by
  refine Wb.go (fun r hr q => b_Model_holds_221 g0 ?_) k
  (first | exact q | (simp only [Option.getD_some]; exact q))
theorem w_Model_holds_227 {rod : Nat → Nat × (Nat → Int32)} {d : Nat} {Q : Option MV → MH → Prop} {u0 : Option MV} {u1 : Option MV} {u2 : Option MV} {u3 : Option MV} {u4 : Option MV} {u5 : Option MV} {u6 : Option MV} {u7 : Option MV} {h : MH}   (q : Q (none) h) : Wb rod d B_Model_holds 227 [u0, u1, u2, u3, u4, u5, u6, u7] [] h Q := by
  refine Wb.ret (b_Model_holds_227) ?_
  (first | exact q | (simp only [Option.getD_some]; exact q))
theorem n_Model_plan {rod : Nat → Nat × (Nat → Int32)} {d : Nat} {Q : Option MV → MH → Prop} {x1 : Int32} {x2 : Int32} {x3 : Int32} {h : MH} (k : Wb rod d B_Model_plan 0 [some (.inr (.inr (.inl (some 84)))), some (.inl x1), some (.inl x2), some (.inl x3), none, none, none, none] [] h Q) : Wc rod (d + 1) 268 [.inr (.inr (.inl (some 84))), .inl x1, .inl x2, .inl x3] h Q := Wc.en (fun _ _ => e_Model_plan) k
theorem w_Model_plan_0 {rod : Nat → Nat × (Nat → Int32)} {d : Nat} {Q : Option MV → MH → Prop} {u0 : Option MV} {x1 : Int32} {u2 : Option MV} {u3 : Option MV} {u4 : Option MV} {u5 : Option MV} {u6 : Option MV} {u7 : Option MV} {h : MH}   {Q1 : Option MV → MH → Prop} (c : Wc rod d 193 [.inl x1, .inl (0 : Int32), .inl (9 : Int32)] h Q1) (k : ∀ r1 h2, Q1 r1 h2 → Wb rod d B_Model_plan 7 [u0, some (.inl x1), u2, u3, u4, u5, u6, u7] (r1.toList ++ []) h2 Q) : Wb rod d B_Model_plan 0 [u0, some (.inl x1), u2, u3, u4, u5, u6, u7] [] h Q := by
  refine Wb.call (fun _ _ _ _ => b_Model_plan_0) (Q1 := Q1) ?_ ?_
  · (first | exact c | (simp only [Option.getD_some]; exact c))
  · (first | exact k | (simp only [Option.getD_some]; exact k))
theorem w_Model_plan_7 {rod : Nat → Nat × (Nat → Int32)} {d : Nat} {Q : Option MV → MH → Prop} {u0 : Option MV} {u1 : Option MV} {u2 : Option MV} {u3 : Option MV} {u4 : Option MV} {u5 : Option MV} {u6 : Option MV} {u7 : Option MV} {xs0 : Int32} {h : MH}   (k1 : xs0.toInt = 0 → Wb rod d B_Model_plan 31 [u0, u1, u2, u3, u4, u5, u6, u7] [] h Q) (k2 : ¬ xs0.toInt = 0 → Wb rod d B_Model_plan 10 [u0, u1, u2, u3, u4, u5, u6, u7] [] h Q) : Wb rod d B_Model_plan 7 [u0, u1, u2, u3, u4, u5, u6, u7] [.inl xs0] h Q := by
  refine Wb.br (fun _ _ => b_Model_plan_7) (fun c => ?_) (fun c => ?_)
  · have c : (decide (xs0 = 0)) = true := by first | exact c | (simp only [Option.getD_some] at c; exact c)
    (first | exact (k1 (c_eqt c)) | (simp only [Option.getD_some]; exact (k1 (c_eqt c))))
  · have c : (decide (xs0 = 0)) = false := by first | exact c | (simp only [Option.getD_some] at c; exact c)
    (first | exact (k2 (c_eqf c)) | (simp only [Option.getD_some]; exact (k2 (c_eqf c))))
theorem w_Model_plan_10 {rod : Nat → Nat × (Nat → Int32)} {d : Nat} {Q : Option MV → MH → Prop} {u0 : Option MV} {u1 : Option MV} {x2 : Int32} {u3 : Option MV} {u4 : Option MV} {u5 : Option MV} {u6 : Option MV} {u7 : Option MV} {h : MH}   {Q1 : Option MV → MH → Prop} (c : Wc rod d 193 [.inl x2, .inl (0 : Int32), .inl (20 : Int32)] h Q1) (k : ∀ r1 h2, Q1 r1 h2 → Wb rod d B_Model_plan 17 [u0, u1, some (.inl x2), u3, u4, u5, u6, u7] (r1.toList ++ []) h2 Q) : Wb rod d B_Model_plan 10 [u0, u1, some (.inl x2), u3, u4, u5, u6, u7] [] h Q := by
  refine Wb.call (fun _ _ _ _ => b_Model_plan_10) (Q1 := Q1) ?_ ?_
  · (first | exact c | (simp only [Option.getD_some]; exact c))
  · (first | exact k | (simp only [Option.getD_some]; exact k))
theorem w_Model_plan_17 {rod : Nat → Nat × (Nat → Int32)} {d : Nat} {Q : Option MV → MH → Prop} {u0 : Option MV} {u1 : Option MV} {u2 : Option MV} {u3 : Option MV} {u4 : Option MV} {u5 : Option MV} {u6 : Option MV} {u7 : Option MV} {xs0 : Int32} {h : MH}   (k1 : xs0.toInt = 0 → Wb rod d B_Model_plan 31 [u0, u1, u2, u3, u4, u5, u6, u7] [] h Q) (k2 : ¬ xs0.toInt = 0 → Wb rod d B_Model_plan 20 [u0, u1, u2, u3, u4, u5, u6, u7] [] h Q) : Wb rod d B_Model_plan 17 [u0, u1, u2, u3, u4, u5, u6, u7] [.inl xs0] h Q := by
  refine Wb.br (fun _ _ => b_Model_plan_17) (fun c => ?_) (fun c => ?_)
  · have c : (decide (xs0 = 0)) = true := by first | exact c | (simp only [Option.getD_some] at c; exact c)
    (first | exact (k1 (c_eqt c)) | (simp only [Option.getD_some]; exact (k1 (c_eqt c))))
  · have c : (decide (xs0 = 0)) = false := by first | exact c | (simp only [Option.getD_some] at c; exact c)
    (first | exact (k2 (c_eqf c)) | (simp only [Option.getD_some]; exact (k2 (c_eqf c))))
theorem w_Model_plan_20 {rod : Nat → Nat × (Nat → Int32)} {d : Nat} {Q : Option MV → MH → Prop} {u0 : Option MV} {u1 : Option MV} {x2 : Int32} {x3 : Int32} {u4 : Option MV} {u5 : Option MV} {u6 : Option MV} {u7 : Option MV} {h : MH}   {Q1 : Option MV → MH → Prop} (c : Wc rod d 193 [.inl x3, .inl (-1 : Int32), .inl (x2 - (1 : Int32))] h Q1) (k : ∀ r1 h2, Q1 r1 h2 → Wb rod d B_Model_plan 28 [u0, u1, some (.inl x2), some (.inl x3), u4, u5, u6, u7] (r1.toList ++ []) h2 Q) : Wb rod d B_Model_plan 20 [u0, u1, some (.inl x2), some (.inl x3), u4, u5, u6, u7] [] h Q := by
  refine Wb.call (fun _ _ _ _ => b_Model_plan_20) (Q1 := Q1) ?_ ?_
  · (first | exact c | (simp only [Option.getD_some]; exact c))
  · (first | exact k | (simp only [Option.getD_some]; exact k))
theorem w_Model_plan_28 {rod : Nat → Nat × (Nat → Int32)} {d : Nat} {Q : Option MV → MH → Prop} {u0 : Option MV} {u1 : Option MV} {u2 : Option MV} {u3 : Option MV} {u4 : Option MV} {u5 : Option MV} {u6 : Option MV} {u7 : Option MV} {xs0 : Int32} {h : MH}   (k1 : ¬ xs0.toInt = 0 → Wb rod d B_Model_plan 33 [u0, u1, u2, u3, u4, u5, u6, u7] [] h Q) (k2 : xs0.toInt = 0 → Wb rod d B_Model_plan 31 [u0, u1, u2, u3, u4, u5, u6, u7] [] h Q) : Wb rod d B_Model_plan 28 [u0, u1, u2, u3, u4, u5, u6, u7] [.inl xs0] h Q := by
  refine Wb.br (fun _ _ => b_Model_plan_28) (fun c => ?_) (fun c => ?_)
  · have c : (!(decide (xs0 = 0))) = true := by first | exact c | (simp only [Option.getD_some] at c; exact c)
    (first | exact (k1 (c_net c)) | (simp only [Option.getD_some]; exact (k1 (c_net c))))
  · have c : (!(decide (xs0 = 0))) = false := by first | exact c | (simp only [Option.getD_some] at c; exact c)
    (first | exact (k2 (c_nef c)) | (simp only [Option.getD_some]; exact (k2 (c_nef c))))
theorem w_Model_plan_31 {rod : Nat → Nat × (Nat → Int32)} {d : Nat} {Q : Option MV → MH → Prop} {u0 : Option MV} {u1 : Option MV} {u2 : Option MV} {u3 : Option MV} {u4 : Option MV} {u5 : Option MV} {u6 : Option MV} {u7 : Option MV} {h : MH}   (q : Q (some (.inl (-1 : Int32))) h) : Wb rod d B_Model_plan 31 [u0, u1, u2, u3, u4, u5, u6, u7] [] h Q := by
  refine Wb.ret (b_Model_plan_31) ?_
  (first | exact q | (simp only [Option.getD_some]; exact q))
theorem w_Model_plan_33 {rod : Nat → Nat × (Nat → Int32)} {d : Nat} {Q : Option MV → MH → Prop} {u0 : Option MV} {u1 : Option MV} {u2 : Option MV} {u3 : Option MV} {u4 : Option MV} {u5 : Option MV} {u6 : Option MV} {u7 : Option MV} {h : MH}  (g0 : okl [u0, u1, u2, u3, u4, u5, u6, u7] 4 = true) (k : Wb rod d B_Model_plan 36 [u0, u1, u2, u3, some (.inl (0 : Int32)), u5, u6, u7] [] h Q) : Wb rod d B_Model_plan 33 [u0, u1, u2, u3, u4, u5, u6, u7] [] h Q := by
  refine Wb.go (fun r hr q => b_Model_plan_33 g0 ?_) k
  (first | exact q | (simp only [Option.getD_some]; exact q))
theorem w_Model_plan_36 {rod : Nat → Nat × (Nat → Int32)} {d : Nat} {Q : Option MV → MH → Prop} {u0 : Option MV} {u1 : Option MV} {u2 : Option MV} {u3 : Option MV} {x4 : Int32} {u5 : Option MV} {u6 : Option MV} {u7 : Option MV} {h : MH}   (k1 : 10 ≤ x4.toInt → Wb rod d B_Model_plan 57 [u0, u1, u2, u3, some (.inl x4), u5, u6, u7] [] h Q) (k2 : ¬ 10 ≤ x4.toInt → Wb rod d B_Model_plan 43 [u0, u1, u2, u3, some (.inl x4), u5, u6, u7] [] h Q) : Wb rod d B_Model_plan 36 [u0, u1, u2, u3, some (.inl x4), u5, u6, u7] [] h Q := by
  refine Wb.br (fun _ _ => b_Model_plan_36) (fun c => ?_) (fun c => ?_)
  · have c : (decide ((10 : Int32) ≤ x4)) = true := by first | exact c | (simp only [Option.getD_some] at c; exact c)
    (first | exact (k1 (c_let c)) | (simp only [Option.getD_some]; exact (k1 (c_let c))))
  · have c : (decide ((10 : Int32) ≤ x4)) = false := by first | exact c | (simp only [Option.getD_some] at c; exact c)
    (first | exact (k2 (c_lef c)) | (simp only [Option.getD_some]; exact (k2 (c_lef c))))
theorem w_Model_plan_43 {rod : Nat → Nat × (Nat → Int32)} {d : Nat} {Q : Option MV → MH → Prop} {u1 : Option MV} {u2 : Option MV} {u3 : Option MV} {x4 : Int32} {u5 : Option MV} {u6 : Option MV} {u7 : Option MV} {h : MH} (L : Lay h.2) (g0 : 0 ≤ x4.toInt ∧ x4.toInt < 210) (k : Wb rod d B_Model_plan 51 [some (.inr (.inr (.inl (some 84)))), u1, u2, u3, some (.inl x4), u5, u6, u7] [] (sI h 96 x4.toNatClampNeg (0 : Int32)) Q) : Wb rod d B_Model_plan 43 [some (.inr (.inr (.inl (some 84)))), u1, u2, u3, some (.inl x4), u5, u6, u7] [] h Q := by
  refine Wb.go (fun r hr q => b_Model_plan_43 (Lay.o84 L) (Lay.a84_37 L g0) ?_) k
  (first | exact q | (simp only [Option.getD_some, (Lay.r84_37 L)]; exact q))
theorem w_Model_plan_51 {rod : Nat → Nat × (Nat → Int32)} {d : Nat} {Q : Option MV → MH → Prop} {u0 : Option MV} {u1 : Option MV} {u2 : Option MV} {u3 : Option MV} {x4 : Int32} {u5 : Option MV} {u6 : Option MV} {u7 : Option MV} {h : MH}  (g0 : okl [u0, u1, u2, u3, some (.inl x4), u5, u6, u7] 4 = true) (k : Wb rod d B_Model_plan 36 [u0, u1, u2, u3, some (.inl (x4 + 1)), u5, u6, u7] [] h Q) : Wb rod d B_Model_plan 51 [u0, u1, u2, u3, some (.inl x4), u5, u6, u7] [] h Q := by
  refine Wb.go (fun r hr q => b_Model_plan_51 g0 ?_) k
  (first | exact q | (simp only [Option.getD_some]; exact q))
theorem w_Model_plan_57 {rod : Nat → Nat × (Nat → Int32)} {d : Nat} {Q : Option MV → MH → Prop} {u0 : Option MV} {u1 : Option MV} {u2 : Option MV} {u3 : Option MV} {u4 : Option MV} {u5 : Option MV} {u6 : Option MV} {u7 : Option MV} {h : MH}  (g0 : okl [u0, u1, u2, u3, u4, u5, u6, u7] 4 = true) (k : Wb rod d B_Model_plan 60 [u0, u1, u2, u3, some (.inl (1 : Int32)), u5, u6, u7] [] h Q) : Wb rod d B_Model_plan 57 [u0, u1, u2, u3, u4, u5, u6, u7] [] h Q := by
  refine Wb.go (fun r hr q => b_Model_plan_57 g0 ?_) k
  (first | exact q | (simp only [Option.getD_some]; exact q))
theorem w_Model_plan_60 {rod : Nat → Nat × (Nat → Int32)} {d : Nat} {Q : Option MV → MH → Prop} {u0 : Option MV} {u1 : Option MV} {x2 : Int32} {u3 : Option MV} {x4 : Int32} {u5 : Option MV} {u6 : Option MV} {u7 : Option MV} {h : MH}   (k1 : x2.toInt < x4.toInt → Wb rod d B_Model_plan 170 [u0, u1, some (.inl x2), u3, some (.inl x4), u5, u6, u7] [] h Q) (k2 : ¬ x2.toInt < x4.toInt → Wb rod d B_Model_plan 66 [u0, u1, some (.inl x2), u3, some (.inl x4), u5, u6, u7] [] h Q) : Wb rod d B_Model_plan 60 [u0, u1, some (.inl x2), u3, some (.inl x4), u5, u6, u7] [] h Q := by
  refine Wb.br (fun _ _ => b_Model_plan_60) (fun c => ?_) (fun c => ?_)
  · have c : (decide (x2 < x4)) = true := by first | exact c | (simp only [Option.getD_some] at c; exact c)
    (first | exact (k1 (c_ltt c)) | (simp only [Option.getD_some]; exact (k1 (c_ltt c))))
  · have c : (decide (x2 < x4)) = false := by first | exact c | (simp only [Option.getD_some] at c; exact c)
    (first | exact (k2 (c_ltf c)) | (simp only [Option.getD_some]; exact (k2 (c_ltf c))))
theorem w_Model_plan_66 {rod : Nat → Nat × (Nat → Int32)} {d : Nat} {Q : Option MV → MH → Prop} {u0 : Option MV} {u1 : Option MV} {u2 : Option MV} {u3 : Option MV} {u4 : Option MV} {u5 : Option MV} {u6 : Option MV} {u7 : Option MV} {h : MH}  (g0 : okl [u0, u1, u2, u3, u4, u5, u6, u7] 5 = true) (k : Wb rod d B_Model_plan 69 [u0, u1, u2, u3, u4, some (.inl (0 : Int32)), u6, u7] [] h Q) : Wb rod d B_Model_plan 66 [u0, u1, u2, u3, u4, u5, u6, u7] [] h Q := by
  refine Wb.go (fun r hr q => b_Model_plan_66 g0 ?_) k
  (first | exact q | (simp only [Option.getD_some]; exact q))
theorem w_Model_plan_69 {rod : Nat → Nat × (Nat → Int32)} {d : Nat} {Q : Option MV → MH → Prop} {u0 : Option MV} {u1 : Option MV} {u2 : Option MV} {u3 : Option MV} {u4 : Option MV} {x5 : Int32} {u6 : Option MV} {u7 : Option MV} {h : MH}   (k1 : 10 ≤ x5.toInt → Wb rod d B_Model_plan 164 [u0, u1, u2, u3, u4, some (.inl x5), u6, u7] [] h Q) (k2 : ¬ 10 ≤ x5.toInt → Wb rod d B_Model_plan 76 [u0, u1, u2, u3, u4, some (.inl x5), u6, u7] [] h Q) : Wb rod d B_Model_plan 69 [u0, u1, u2, u3, u4, some (.inl x5), u6, u7] [] h Q := by
  refine Wb.br (fun _ _ => b_Model_plan_69) (fun c => ?_) (fun c => ?_)
  · have c : (decide ((10 : Int32) ≤ x5)) = true := by first | exact c | (simp only [Option.getD_some] at c; exact c)
    (first | exact (k1 (c_let c)) | (simp only [Option.getD_some]; exact (k1 (c_let c))))
  · have c : (decide ((10 : Int32) ≤ x5)) = false := by first | exact c | (simp only [Option.getD_some] at c; exact c)
    (first | exact (k2 (c_lef c)) | (simp only [Option.getD_some]; exact (k2 (c_lef c))))
theorem w_Model_plan_76 {rod : Nat → Nat × (Nat → Int32)} {d : Nat} {Q : Option MV → MH → Prop} {u1 : Option MV} {u2 : Option MV} {u3 : Option MV} {x4 : Int32} {x5 : Int32} {u6 : Option MV} {u7 : Option MV} {h : MH} (L : Lay h.2)  {Q1 : Option MV → MH → Prop} (c : Wc rod d 269 [.inr (.inr (.inl (some 84))), .inl x4, .inl x5, .inl (0 : Int32)] h Q1) (k : ∀ r1 h2, Q1 r1 h2 → Wb rod d B_Model_plan 85 [some (.inr (.inr (.inl (some 84)))), u1, u2, u3, some (.inl x4), some (.inl x5), u6, u7] (r1.toList ++ []) h2 Q) : Wb rod d B_Model_plan 76 [some (.inr (.inr (.inl (some 84)))), u1, u2, u3, some (.inl x4), some (.inl x5), u6, u7] [] h Q := by
  refine Wb.call (fun _ _ _ _ => b_Model_plan_76 (Lay.o84 L)) (Q1 := Q1) ?_ ?_
  · (first | exact c | (simp only [Option.getD_some]; exact c))
  · (first | exact k | (simp only [Option.getD_some]; exact k))
theorem w_Model_plan_85 {rod : Nat → Nat × (Nat → Int32)} {d : Nat} {Q : Option MV → MH → Prop} {u1 : Option MV} {u2 : Option MV} {u3 : Option MV} {x4 : Int32} {x5 : Int32} {u6 : Option MV} {u7 : Option MV} {xs0 : Int32} {h : MH} (L : Lay h.2)  {Q1 : Option MV → MH → Prop} (c : Wc rod d 269 [.inr (.inr (.inl (some 84))), .inl x4, .inl x5, .inl (1 : Int32)] h Q1) (k : ∀ r1 h2, Q1 r1 h2 → Wb rod d B_Model_plan 96 [some (.inr (.inr (.inl (some 84)))), u1, u2, u3, some (.inl x4), some (.inl x5), some (.inl xs0), u7] (r1.toList ++ []) h2 Q) : Wb rod d B_Model_plan 85 [some (.inr (.inr (.inl (some 84)))), u1, u2, u3, some (.inl x4), some (.inl x5), u6, u7] [.inl xs0] h Q := by
  refine Wb.call (fun _ _ _ _ => b_Model_plan_85 (Lay.o84 L)) (Q1 := Q1) ?_ ?_
  · (first | exact c | (simp only [Option.getD_some]; exact c))
  · (first | exact k | (simp only [Option.getD_some]; exact k))
theorem w_Model_plan_96 {rod : Nat → Nat × (Nat → Int32)} {d : Nat} {Q : Option MV → MH → Prop} {u0 : Option MV} {u1 : Option MV} {u2 : Option MV} {u3 : Option MV} {u4 : Option MV} {u5 : Option MV} {x6 : Int32} {u7 : Option MV} {xs0 : Int32} {h : MH}   (k1 : xs0.toInt ≤ x6.toInt → Wb rod d B_Model_plan 113 [u0, u1, u2, u3, u4, u5, some (.inl x6), u7] [] h Q) (k2 : ¬ xs0.toInt ≤ x6.toInt → Wb rod d B_Model_plan 101 [u0, u1, u2, u3, u4, u5, some (.inl x6), u7] [] h Q) : Wb rod d B_Model_plan 96 [u0, u1, u2, u3, u4, u5, some (.inl x6), u7] [.inl xs0] h Q := by
  refine Wb.br (fun _ _ => b_Model_plan_96) (fun c => ?_) (fun c => ?_)
  · have c : (decide (xs0 ≤ x6)) = true := by first | exact c | (simp only [Option.getD_some] at c; exact c)
    (first | exact (k1 (c_let c)) | (simp only [Option.getD_some]; exact (k1 (c_let c))))
  · have c : (decide (xs0 ≤ x6)) = false := by first | exact c | (simp only [Option.getD_some] at c; exact c)
    (first | exact (k2 (c_lef c)) | (simp only [Option.getD_some]; exact (k2 (c_lef c))))
theorem w_Model_plan_101 {rod : Nat → Nat × (Nat → Int32)} {d : Nat} {Q : Option MV → MH → Prop} {u1 : Option MV} {u2 : Option MV} {u3 : Option MV} {x4 : Int32} {x5 : Int32} {u6 : Option MV} {u7 : Option MV} {h : MH} (L : Lay h.2)  {Q1 : Option MV → MH → Prop} (c : Wc rod d 269 [.inr (.inr (.inl (some 84))), .inl x4, .inl x5, .inl (1 : Int32)] h Q1) (k : ∀ r1 h2, Q1 r1 h2 → Wb rod d B_Model_plan 110 [some (.inr (.inr (.inl (some 84)))), u1, u2, u3, some (.inl x4), some (.inl x5), u6, u7] (r1.toList ++ []) h2 Q) : Wb rod d B_Model_plan 101 [some (.inr (.inr (.inl (some 84)))), u1, u2, u3, some (.inl x4), some (.inl x5), u6, u7] [] h Q := by
  refine Wb.call (fun _ _ _ _ => b_Model_plan_101 (Lay.o84 L)) (Q1 := Q1) ?_ ?_
  · (first | exact c | (simp only [Option.getD_some]; exact c))
  · (first | exact k | (simp only [Option.getD_some]; exact k))
theorem w_Model_plan_110 {rod : Nat → Nat × (Nat → Int32)} {d : Nat} {Q : Option MV → MH → Prop} {u0 : Option MV} {u1 : Option MV} {u2 : Option MV} {u3 : Option MV} {u4 : Option MV} {u5 : Option MV} {u6 : Option MV} {u7 : Option MV} {xs0 : Int32} {h : MH}   (k : Wb rod d B_Model_plan 115 [u0, u1, u2, u3, u4, u5, u6, u7] [.inl xs0] h Q) : Wb rod d B_Model_plan 110 [u0, u1, u2, u3, u4, u5, u6, u7] [.inl xs0] h Q := by
  refine Wb.go (fun r hr q => b_Model_plan_110 ?_) k
  (first | exact q | (simp only [Option.getD_some]; exact q))
theorem w_Model_plan_113 {rod : Nat → Nat × (Nat → Int32)} {d : Nat} {Q : Option MV → MH → Prop} {u0 : Option MV} {u1 : Option MV} {u2 : Option MV} {u3 : Option MV} {u4 : Option MV} {u5 : Option MV} {x6 : Int32} {u7 : Option MV} {h : MH}   (k : Wb rod d B_Model_plan 115 [u0, u1, u2, u3, u4, u5, some (.inl x6), u7] [.inl x6] h Q) : Wb rod d B_Model_plan 113 [u0, u1, u2, u3, u4, u5, some (.inl x6), u7] [] h Q := by
  refine Wb.go (fun r hr q => b_Model_plan_113 ?_) k
  (first | exact q | (simp only [Option.getD_some]; exact q))
theorem w_Model_plan_115 {rod : Nat → Nat × (Nat → Int32)} {d : Nat} {Q : Option MV → MH → Prop} {u1 : Option MV} {u2 : Option MV} {u3 : Option MV} {x4 : Int32} {x5 : Int32} {u6 : Option MV} {u7 : Option MV} {xs0 : Int32} {h : MH} (L : Lay h.2)  {Q1 : Option MV → MH → Prop} (c : Wc rod d 269 [.inr (.inr (.inl (some 84))), .inl x4, .inl x5, .inl (2 : Int32)] h Q1) (k : ∀ r1 h2, Q1 r1 h2 → Wb rod d B_Model_plan 138 [some (.inr (.inr (.inl (some 84)))), u1, u2, u3, some (.inl x4), some (.inl x5), some (.inl xs0), u7] (r1.toList ++ [.inl (((10 : Int32) * x4) + x5), .inr (.inr (.inl (some 96)))]) h2 Q) : Wb rod d B_Model_plan 115 [some (.inr (.inr (.inl (some 84)))), u1, u2, u3, some (.inl x4), some (.inl x5), u6, u7] [.inl xs0] h Q := by
  refine Wb.call (fun _ _ _ _ => b_Model_plan_115 (Lay.o84 L)) (Q1 := Q1) ?_ ?_
  · (first | exact c | (simp only [Option.getD_some, (Lay.r84_37 L)]; exact c))
  · (first | exact k | (simp only [Option.getD_some, (Lay.r84_37 L)]; exact k))
theorem w_Model_plan_138 {rod : Nat → Nat × (Nat → Int32)} {d : Nat} {Q : Option MV → MH → Prop} {u0 : Option MV} {u1 : Option MV} {u2 : Option MV} {u3 : Option MV} {u4 : Option MV} {u5 : Option MV} {x6 : Int32} {u7 : Option MV} {cs0 : Nat} {xs1 : Int32} {xs2 : Int32} {h : MH}   (k1 : xs2.toInt ≤ x6.toInt → Wb rod d B_Model_plan 155 [u0, u1, u2, u3, u4, u5, some (.inl x6), u7] [.inl xs1, .inr (.inr (.inl (some cs0)))] h Q) (k2 : ¬ xs2.toInt ≤ x6.toInt → Wb rod d B_Model_plan 143 [u0, u1, u2, u3, u4, u5, some (.inl x6), u7] [.inl xs1, .inr (.inr (.inl (some cs0)))] h Q) : Wb rod d B_Model_plan 138 [u0, u1, u2, u3, u4, u5, some (.inl x6), u7] [.inl xs2, .inl xs1, .inr (.inr (.inl (some cs0)))] h Q := by
  refine Wb.br (fun _ _ => b_Model_plan_138) (fun c => ?_) (fun c => ?_)
  · have c : (decide (xs2 ≤ x6)) = true := by first | exact c | (simp only [Option.getD_some] at c; exact c)
    (first | exact (k1 (c_let c)) | (simp only [Option.getD_some]; exact (k1 (c_let c))))
  · have c : (decide (xs2 ≤ x6)) = false := by first | exact c | (simp only [Option.getD_some] at c; exact c)
    (first | exact (k2 (c_lef c)) | (simp only [Option.getD_some]; exact (k2 (c_lef c))))
theorem w_Model_plan_143 {rod : Nat → Nat × (Nat → Int32)} {d : Nat} {Q : Option MV → MH → Prop} {u1 : Option MV} {u2 : Option MV} {u3 : Option MV} {x4 : Int32} {x5 : Int32} {u6 : Option MV} {u7 : Option MV} {cs0 : Nat} {xs1 : Int32} {h : MH} (L : Lay h.2)  {Q1 : Option MV → MH → Prop} (c : Wc rod d 269 [.inr (.inr (.inl (some 84))), .inl x4, .inl x5, .inl (2 : Int32)] h Q1) (k : ∀ r1 h2, Q1 r1 h2 → Wb rod d B_Model_plan 152 [some (.inr (.inr (.inl (some 84)))), u1, u2, u3, some (.inl x4), some (.inl x5), u6, u7] (r1.toList ++ [.inl xs1, .inr (.inr (.inl (some cs0)))]) h2 Q) : Wb rod d B_Model_plan 143 [some (.inr (.inr (.inl (some 84)))), u1, u2, u3, some (.inl x4), some (.inl x5), u6, u7] [.inl xs1, .inr (.inr (.inl (some cs0)))] h Q := by
  refine Wb.call (fun _ _ _ _ => b_Model_plan_143 (Lay.o84 L)) (Q1 := Q1) ?_ ?_
  · (first | exact c | (simp only [Option.getD_some]; exact c))
  · (first | exact k | (simp only [Option.getD_some]; exact k))
theorem w_Model_plan_152 {rod : Nat → Nat × (Nat → Int32)} {d : Nat} {Q : Option MV → MH → Prop} {u0 : Option MV} {u1 : Option MV} {u2 : Option MV} {u3 : Option MV} {u4 : Option MV} {u5 : Option MV} {u6 : Option MV} {u7 : Option MV} {cs0 : Nat} {xs1 : Int32} {xs2 : Int32} {h : MH}   (k : Wb rod d B_Model_plan 157 [u0, u1, u2, u3, u4, u5, u6, u7] [.inl xs2, .inl xs1, .inr (.inr (.inl (some cs0)))] h Q) : Wb rod d B_Model_plan 152 [u0, u1, u2, u3, u4, u5, u6, u7] [.inl xs2, .inl xs1, .inr (.inr (.inl (some cs0)))] h Q := by
  refine Wb.go (fun r hr q => b_Model_plan_152 ?_) k
  (first | exact q | (simp only [Option.getD_some]; exact q))
theorem w_Model_plan_155 {rod : Nat → Nat × (Nat → Int32)} {d : Nat} {Q : Option MV → MH → Prop} {u0 : Option MV} {u1 : Option MV} {u2 : Option MV} {u3 : Option MV} {u4 : Option MV} {u5 : Option MV} {x6 : Int32} {u7 : Option MV} {cs0 : Nat} {xs1 : Int32} {h : MH}   (k : Wb rod d B_Model_plan 157 [u0, u1, u2, u3, u4, u5, some (.inl x6), u7] [.inl x6, .inl xs1, .inr (.inr (.inl (some cs0)))] h Q) : Wb rod d B_Model_plan 155 [u0, u1, u2, u3, u4, u5, some (.inl x6), u7] [.inl xs1, .inr (.inr (.inl (some cs0)))] h Q := by
  refine Wb.go (fun r hr q => b_Model_plan_155 ?_) k
  (first | exact q | (simp only [Option.getD_some]; exact q))
theorem w_Model_plan_157 {rod : Nat → Nat × (Nat → Int32)} {d : Nat} {Q : Option MV → MH → Prop} {u0 : Option MV} {u1 : Option MV} {u2 : Option MV} {u3 : Option MV} {u4 : Option MV} {u5 : Option MV} {u6 : Option MV} {u7 : Option MV} {cs0 : Nat} {ncs0 : Nat} {xs1 : Int32} {xs2 : Int32} {h : MH} (Scs0 : h.2.2[cs0]? = some (0, ncs0)) (g0 : 0 ≤ xs1.toInt ∧ xs1.toInt < ncs0) (k : Wb rod d B_Model_plan 158 [u0, u1, u2, u3, u4, u5, u6, u7] [] (sI h cs0 xs1.toNatClampNeg xs2) Q) : Wb rod d B_Model_plan 157 [u0, u1, u2, u3, u4, u5, u6, u7] [.inl xs2, .inl xs1, .inr (.inr (.inl (some cs0)))] h Q := by
  refine Wb.go (fun r hr q => b_Model_plan_157 (gA_of Scs0 (inB_of g0.1 g0.2)) ?_) k
  (first | exact q | (simp only [Option.getD_some]; exact q))
theorem w_Model_plan_158 {rod : Nat → Nat × (Nat → Int32)} {d : Nat} {Q : Option MV → MH → Prop} {u0 : Option MV} {u1 : Option MV} {u2 : Option MV} {u3 : Option MV} {u4 : Option MV} {x5 : Int32} {u6 : Option MV} {u7 : Option MV} {h : MH}  (g0 : okl [u0, u1, u2, u3, u4, some (.inl x5), u6, u7] 5 = true) (k : Wb rod d B_Model_plan 69 [u0, u1, u2, u3, u4, some (.inl (x5 + 1)), u6, u7] [] h Q) : Wb rod d B_Model_plan 158 [u0, u1, u2, u3, u4, some (.inl x5), u6, u7] [] h Q := by
  refine Wb.go (fun r hr q => b_Model_plan_158 g0 ?_) k
  (first | exact q | (simp only [Option.getD_some]; exact q))
theorem w_Model_plan_164 {rod : Nat → Nat × (Nat → Int32)} {d : Nat} {Q : Option MV → MH → Prop} {u0 : Option MV} {u1 : Option MV} {u2 : Option MV} {u3 : Option MV} {x4 : Int32} {u5 : Option MV} {u6 : Option MV} {u7 : Option MV} {h : MH}  (g0 : okl [u0, u1, u2, u3, some (.inl x4), u5, u6, u7] 4 = true) (k : Wb rod d B_Model_plan 60 [u0, u1, u2, u3, some (.inl (x4 + 1)), u5, u6, u7] [] h Q) : Wb rod d B_Model_plan 164 [u0, u1, u2, u3, some (.inl x4), u5, u6, u7] [] h Q := by
  refine Wb.go (fun r hr q => b_Model_plan_164 g0 ?_) k
  (first | exact q | (simp only [Option.getD_some]; exact q))
theorem w_Model_plan_170 {rod : Nat → Nat × (Nat → Int32)} {d : Nat} {Q : Option MV → MH → Prop} {u0 : Option MV} {u1 : Option MV} {u2 : Option MV} {x3 : Int32} {u4 : Option MV} {u5 : Option MV} {u6 : Option MV} {u7 : Option MV} {h : MH}   (k1 : ¬ x3.toInt = (-1) → Wb rod d B_Model_plan 187 [u0, u1, u2, some (.inl x3), u4, u5, u6, u7] [] h Q) (k2 : x3.toInt = (-1) → Wb rod d B_Model_plan 175 [u0, u1, u2, some (.inl x3), u4, u5, u6, u7] [] h Q) : Wb rod d B_Model_plan 170 [u0, u1, u2, some (.inl x3), u4, u5, u6, u7] [] h Q := by
  refine Wb.br (fun _ _ => b_Model_plan_170) (fun c => ?_) (fun c => ?_)
  · have c : (!(decide (x3 = (-1 : Int32)))) = true := by first | exact c | (simp only [Option.getD_some] at c; exact c)
    (first | exact (k1 (c_net c)) | (simp only [Option.getD_some]; exact (k1 (c_net c))))
  · have c : (!(decide (x3 = (-1 : Int32)))) = false := by first | exact c | (simp only [Option.getD_some] at c; exact c)
    (first | exact (k2 (c_nef c)) | (simp only [Option.getD_some]; exact (k2 (c_nef c))))
theorem w_Model_plan_175 {rod : Nat → Nat × (Nat → Int32)} {d : Nat} {Q : Option MV → MH → Prop} {x1 : Int32} {x2 : Int32} {u3 : Option MV} {u4 : Option MV} {u5 : Option MV} {u6 : Option MV} {u7 : Option MV} {h : MH} (L : Lay h.2) (g0 : 0 ≤ (((10 : Int32) * x2) + x1).toInt ∧ (((10 : Int32) * x2) + x1).toInt < 210) (q : Q (some (.inl (h.1 96 (((10 : Int32) * x2) + x1).toNatClampNeg))) h) : Wb rod d B_Model_plan 175 [some (.inr (.inr (.inl (some 84)))), some (.inl x1), some (.inl x2), u3, u4, u5, u6, u7] [] h Q := by
  refine Wb.ret (b_Model_plan_175 (Lay.o84 L) (Lay.a84_37 L g0)) ?_
  (first | exact q | (simp only [Option.getD_some, (Lay.r84_37 L)]; exact q))
theorem w_Model_plan_187 {rod : Nat → Nat × (Nat → Int32)} {d : Nat} {Q : Option MV → MH → Prop} {u0 : Option MV} {x1 : Int32} {u2 : Option MV} {u3 : Option MV} {u4 : Option MV} {u5 : Option MV} {u6 : Option MV} {u7 : Option MV} {h : MH}  (g0 : okl [u0, some (.inl x1), u2, u3, u4, u5, u6, u7] 4 = true) (k : Wb rod d B_Model_plan 196 [u0, some (.inl x1), u2, u3, some (.inl x1), some (.inl (0 : Int32)), some (.inl (0 : Int32)), u7] [] h Q) : Wb rod d B_Model_plan 187 [u0, some (.inl x1), u2, u3, u4, u5, u6, u7] [] h Q := by
  refine Wb.go (fun r hr q => b_Model_plan_187 g0 ?_) k
  (first | exact q | (simp only [Option.getD_some]; exact q))
theorem w_Model_plan_196 {rod : Nat → Nat × (Nat → Int32)} {d : Nat} {Q : Option MV → MH → Prop} {u0 : Option MV} {u1 : Option MV} {u2 : Option MV} {x3 : Int32} {u4 : Option MV} {u5 : Option MV} {x6 : Int32} {u7 : Option MV} {h : MH}   (k1 : x3.toInt < x6.toInt → Wb rod d B_Model_plan 258 [u0, u1, u2, some (.inl x3), u4, u5, some (.inl x6), u7] [] h Q) (k2 : ¬ x3.toInt < x6.toInt → Wb rod d B_Model_plan 202 [u0, u1, u2, some (.inl x3), u4, u5, some (.inl x6), u7] [] h Q) : Wb rod d B_Model_plan 196 [u0, u1, u2, some (.inl x3), u4, u5, some (.inl x6), u7] [] h Q := by
  refine Wb.br (fun _ _ => b_Model_plan_196) (fun c => ?_) (fun c => ?_)
  · have c : (decide (x3 < x6)) = true := by first | exact c | (simp only [Option.getD_some] at c; exact c)
    (first | exact (k1 (c_ltt c)) | (simp only [Option.getD_some]; exact (k1 (c_ltt c))))
  · have c : (decide (x3 < x6)) = false := by first | exact c | (simp only [Option.getD_some] at c; exact c)
    (first | exact (k2 (c_ltf c)) | (simp only [Option.getD_some]; exact (k2 (c_ltf c))))
theorem w_Model_plan_202 {rod : Nat → Nat × (Nat → Int32)} {d : Nat} {Q : Option MV → MH → Prop} {u0 : Option MV} {u1 : Option MV} {x2 : Int32} {u3 : Option MV} {u4 : Option MV} {u5 : Option MV} {x6 : Int32} {u7 : Option MV} {h : MH}  (g0 : okl [u0, u1, some (.inl x2), u3, u4, u5, some (.inl x6), some (.inl (x2 - x6))] 5 = true) (k : Wb rod d B_Model_plan 211 [u0, u1, some (.inl x2), u3, u4, some (.inl (0 : Int32)), some (.inl x6), some (.inl (x2 - x6))] [] h Q) : Wb rod d B_Model_plan 202 [u0, u1, some (.inl x2), u3, u4, u5, some (.inl x6), u7] [] h Q := by
  refine Wb.go (fun r hr q => b_Model_plan_202 g0 ?_) k
  (first | exact q | (simp only [Option.getD_some]; exact q))
theorem w_Model_plan_211 {rod : Nat → Nat × (Nat → Int32)} {d : Nat} {Q : Option MV → MH → Prop} {u1 : Option MV} {u2 : Option MV} {u3 : Option MV} {x4 : Int32} {x5 : Int32} {u6 : Option MV} {x7 : Int32} {h : MH} (L : Lay h.2)  {Q1 : Option MV → MH → Prop} (c : Wc rod d 269 [.inr (.inr (.inl (some 84))), .inl x7, .inl x4, .inl x5] h Q1) (k : ∀ r1 h2, Q1 r1 h2 → Wb rod d B_Model_plan 221 [some (.inr (.inr (.inl (some 84)))), u1, u2, u3, some (.inl x4), some (.inl x5), u6, some (.inl x7)] (r1.toList ++ []) h2 Q) : Wb rod d B_Model_plan 211 [some (.inr (.inr (.inl (some 84)))), u1, u2, u3, some (.inl x4), some (.inl x5), u6, some (.inl x7)] [] h Q := by
  refine Wb.call (fun _ _ _ _ => b_Model_plan_211 (Lay.o84 L)) (Q1 := Q1) ?_ ?_
  · (first | exact c | (simp only [Option.getD_some]; exact c))
  · (first | exact k | (simp only [Option.getD_some]; exact k))
theorem w_Model_plan_221 {rod : Nat → Nat × (Nat → Int32)} {d : Nat} {Q : Option MV → MH → Prop} {u1 : Option MV} {u2 : Option MV} {u3 : Option MV} {x4 : Int32} {u5 : Option MV} {u6 : Option MV} {x7 : Int32} {xs0 : Int32} {h : MH} (L : Lay h.2) (g0 : 0 ≤ (((10 : Int32) * x7) + x4).toInt ∧ (((10 : Int32) * x7) + x4).toInt < 210) (k1 : xs0.toInt = (h.1 96 (((10 : Int32) * x7) + x4).toNatClampNeg).toInt → Wb rod d B_Model_plan 243 [some (.inr (.inr (.inl (some 84)))), u1, u2, u3, some (.inl x4), u5, u6, some (.inl x7)] [] h Q) (k2 : ¬ xs0.toInt = (h.1 96 (((10 : Int32) * x7) + x4).toNatClampNeg).toInt → Wb rod d B_Model_plan 237 [some (.inr (.inr (.inl (some 84)))), u1, u2, u3, some (.inl x4), u5, u6, some (.inl x7)] [] h Q) : Wb rod d B_Model_plan 221 [some (.inr (.inr (.inl (some 84)))), u1, u2, u3, some (.inl x4), u5, u6, some (.inl x7)] [.inl xs0] h Q := by
  refine Wb.br (fun _ _ => b_Model_plan_221 (Lay.o84 L) (Lay.a84_37 L g0)) (fun c => ?_) (fun c => ?_)
  · have c : (decide (xs0 = (h.1 96 (((10 : Int32) * x7) + x4).toNatClampNeg))) = true := by first | exact c | (simp only [Option.getD_some, (Lay.r84_37 L)] at c; exact c)
    (first | exact (k1 (c_eqt c)) | (simp only [Option.getD_some, (Lay.r84_37 L)]; exact (k1 (c_eqt c))))
  · have c : (decide (xs0 = (h.1 96 (((10 : Int32) * x7) + x4).toNatClampNeg))) = false := by first | exact c | (simp only [Option.getD_some, (Lay.r84_37 L)] at c; exact c)
    (first | exact (k2 (c_eqf c)) | (simp only [Option.getD_some, (Lay.r84_37 L)]; exact (k2 (c_eqf c))))
theorem w_Model_plan_237 {rod : Nat → Nat × (Nat → Int32)} {d : Nat} {Q : Option MV → MH → Prop} {u0 : Option MV} {u1 : Option MV} {u2 : Option MV} {u3 : Option MV} {u4 : Option MV} {x5 : Int32} {u6 : Option MV} {u7 : Option MV} {h : MH}  (g0 : okl [u0, u1, u2, u3, u4, some (.inl x5), u6, u7] 5 = true) (k : Wb rod d B_Model_plan 211 [u0, u1, u2, u3, u4, some (.inl (x5 + 1)), u6, u7] [] h Q) : Wb rod d B_Model_plan 237 [u0, u1, u2, u3, u4, some (.inl x5), u6, u7] [] h Q := by
  refine Wb.go (fun r hr q => b_Model_plan_237 g0 ?_) k
  (first | exact q | (simp only [Option.getD_some]; exact q))
theorem w_Model_plan_243 {rod : Nat → Nat × (Nat → Int32)} {d : Nat} {Q : Option MV → MH → Prop} {u0 : Option MV} {u1 : Option MV} {u2 : Option MV} {u3 : Option MV} {x4 : Int32} {x5 : Int32} {u6 : Option MV} {u7 : Option MV} {h : MH}   {Q1 : Option MV → MH → Prop} (c : Wc rod d 271 [.inl x4, .inl x5] h Q1) (k : ∀ r1 h2, Q1 r1 h2 → Wb rod d B_Model_plan 250 [u0, u1, u2, u3, some (.inl x4), some (.inl x5), u6, u7] (r1.toList ++ []) h2 Q) : Wb rod d B_Model_plan 243 [u0, u1, u2, u3, some (.inl x4), some (.inl x5), u6, u7] [] h Q := by
  refine Wb.call (fun _ _ _ _ => b_Model_plan_243) (Q1 := Q1) ?_ ?_
  · (first | exact c | (simp only [Option.getD_some]; exact c))
  · (first | exact k | (simp only [Option.getD_some]; exact k))
theorem w_Model_plan_250 {rod : Nat → Nat × (Nat → Int32)} {d : Nat} {Q : Option MV → MH → Prop} {u0 : Option MV} {u1 : Option MV} {u2 : Option MV} {u3 : Option MV} {u4 : Option MV} {u5 : Option MV} {x6 : Int32} {u7 : Option MV} {xs0 : Int32} {h : MH}  (g0 : okl [u0, u1, u2, u3, u4, u5, some (.inl x6), u7] 4 = true) (g1 : okl [u0, u1, u2, u3, some (.inl xs0), u5, some (.inl x6), u7] 6 = true) (k : Wb rod d B_Model_plan 196 [u0, u1, u2, u3, some (.inl xs0), u5, some (.inl (x6 + 1)), u7] [] h Q) : Wb rod d B_Model_plan 250 [u0, u1, u2, u3, u4, u5, some (.inl x6), u7] [.inl xs0] h Q := by
  refine Wb.go (fun r hr q => b_Model_plan_250 g0 g1 ?_) k
  (first | exact q | (simp only [Option.getD_some]; exact q))
theorem w_Model_plan_258 {rod : Nat → Nat × (Nat → Int32)} {d : Nat} {Q : Option MV → MH → Prop} {u0 : Option MV} {u1 : Option MV} {u2 : Option MV} {u3 : Option MV} {u4 : Option MV} {x5 : Int32} {u6 : Option MV} {u7 : Option MV} {h : MH}   (q : Q (some (.inl x5)) h) : Wb rod d B_Model_plan 258 [u0, u1, u2, u3, u4, some (.inl x5), u6, u7] [] h Q := by
  refine Wb.ret (b_Model_plan_258) ?_
  (first | exact q | (simp only [Option.getD_some]; exact q))
theorem n_Model_planned {rod : Nat → Nat × (Nat → Int32)} {d : Nat} {Q : Option MV → MH → Prop} {x1 : Int32} {x2 : Int32} {x3 : Int32} {h : MH} (k : Wb rod d B_Model_planned 0 [some (.inr (.inr (.inl (some 84)))), some (.inl x1), some (.inl x2), some (.inl x3)] [] h Q) : Wc rod (d + 1) 269 [.inr (.inr (.inl (some 84))), .inl x1, .inl x2, .inl x3] h Q := Wc.en (fun _ _ => e_Model_planned) k
theorem w_Model_planned_0 {rod : Nat → Nat × (Nat → Int32)} {d : Nat} {Q : Option MV → MH → Prop} {u0 : Option MV} {u1 : Option MV} {x2 : Int32} {x3 : Int32} {h : MH}   {Q1 : Option MV → MH → Prop} (c : Wc rod d 270 [.inl x2, .inl x3] h Q1) (k : ∀ r1 h2, Q1 r1 h2 → Wb rod d B_Model_planned 5 [u0, u1, some (.inl x2), some (.inl x3)] (r1.toList ++ []) h2 Q) : Wb rod d B_Model_planned 0 [u0, u1, some (.inl x2), some (.inl x3)] [] h Q := by
  refine Wb.call (fun _ _ _ _ => b_Model_planned_0) (Q1 := Q1) ?_ ?_
  · (first | exact c | (simp only [Option.getD_some]; exact c))
  · (first | exact k | (simp only [Option.getD_some]; exact k))
theorem w_Model_planned_5 {rod : Nat → Nat × (Nat → Int32)} {d : Nat} {Q : Option MV → MH → Prop} {x1 : Int32} {x2 : Int32} {x3 : Int32} {xs0 : Int32} {h : MH} (L : Lay h.2)  {Q1 : Option MV → MH → Prop} (c : Wc rod d 271 [.inl x2, .inl x3] h Q1) (k : ∀ r1 h2, Q1 r1 h2 → Wb rod d B_Model_planned 21 [some (.inr (.inr (.inl (some 84)))), some (.inl x1), some (.inl x2), some (.inl x3)] (r1.toList ++ [.inl (((10 : Int32) * x1) - (10 : Int32)), .inr (.inr (.inl (some 96))), .inl xs0]) h2 Q) : Wb rod d B_Model_planned 5 [some (.inr (.inr (.inl (some 84)))), some (.inl x1), some (.inl x2), some (.inl x3)] [.inl xs0] h Q := by
  refine Wb.call (fun _ _ _ _ => b_Model_planned_5 (Lay.o84 L)) (Q1 := Q1) ?_ ?_
  · (first | exact c | (simp only [Option.getD_some, (Lay.r84_37 L)]; exact c))
  · (first | exact k | (simp only [Option.getD_some, (Lay.r84_37 L)]; exact k))
theorem w_Model_planned_21 {rod : Nat → Nat × (Nat → Int32)} {d : Nat} {Q : Option MV → MH → Prop} {u0 : Option MV} {u1 : Option MV} {u2 : Option MV} {u3 : Option MV} {xs0 : Int32} {cs1 : Nat} {ncs1 : Nat} {xs2 : Int32} {xs3 : Int32} {h : MH} (Scs1 : h.2.2[cs1]? = some (0, ncs1)) (g0 : 0 ≤ (xs2 + xs3).toInt ∧ (xs2 + xs3).toInt < ncs1) (q : Q (some (.inl (xs0 + (h.1 cs1 (xs2 + xs3).toNatClampNeg)))) h) : Wb rod d B_Model_planned 21 [u0, u1, u2, u3] [.inl xs3, .inl xs2, .inr (.inr (.inl (some cs1))), .inl xs0] h Q := by
  refine Wb.ret (b_Model_planned_21 (gA_of Scs1 (inB_of g0.1 g0.2))) ?_
  (first | exact q | (simp only [Option.getD_some]; exact q))
theorem n_Model_brings {rod : Nat → Nat × (Nat → Int32)} {d : Nat} {Q : Option MV → MH → Prop} {x0 : Int32} {x1 : Int32} {h : MH} (k : Wb rod d B_Model_brings 0 [some (.inl x0), some (.inl x1)] [] h Q) : Wc rod (d + 1) 270 [.inl x0, .inl x1] h Q := Wc.en (fun _ _ => e_Model_brings) k
theorem w_Model_brings_0 {rod : Nat → Nat × (Nat → Int32)} {d : Nat} {Q : Option MV → MH → Prop} {u0 : Option MV} {x1 : Int32} {h : MH}   (k1 : ¬ x1.toInt = 0 → Wb rod d B_Model_brings 8 [u0, some (.inl x1)] [] h Q) (k2 : x1.toInt = 0 → Wb rod d B_Model_brings 4 [u0, some (.inl x1)] [] h Q) : Wb rod d B_Model_brings 0 [u0, some (.inl x1)] [] h Q := by
  refine Wb.br (fun _ _ => b_Model_brings_0) (fun c => ?_) (fun c => ?_)
  · have c : (!(decide (x1 = 0))) = true := by first | exact c | (simp only [Option.getD_some] at c; exact c)
    (first | exact (k1 (c_net c)) | (simp only [Option.getD_some]; exact (k1 (c_net c))))
  · have c : (!(decide (x1 = 0))) = false := by first | exact c | (simp only [Option.getD_some] at c; exact c)
    (first | exact (k2 (c_nef c)) | (simp only [Option.getD_some]; exact (k2 (c_nef c))))
theorem w_Model_brings_4 {rod : Nat → Nat × (Nat → Int32)} {d : Nat} {Q : Option MV → MH → Prop} {x0 : Int32} {u1 : Option MV} {h : MH}   (k : Wb rod d B_Model_brings 20 [some (.inl x0), u1] [.inl x0] h Q) : Wb rod d B_Model_brings 4 [some (.inl x0), u1] [] h Q := by
  refine Wb.go (fun r hr q => b_Model_brings_4 ?_) k
  (first | exact q | (simp only [Option.getD_some]; exact q))
theorem w_Model_brings_8 {rod : Nat → Nat × (Nat → Int32)} {d : Nat} {Q : Option MV → MH → Prop} {u0 : Option MV} {x1 : Int32} {h : MH}   (k1 : ¬ x1.toInt = 1 → Wb rod d B_Model_brings 17 [u0, some (.inl x1)] [] h Q) (k2 : x1.toInt = 1 → Wb rod d B_Model_brings 13 [u0, some (.inl x1)] [] h Q) : Wb rod d B_Model_brings 8 [u0, some (.inl x1)] [] h Q := by
  refine Wb.br (fun _ _ => b_Model_brings_8) (fun c => ?_) (fun c => ?_)
  · have c : (!(decide (x1 = (1 : Int32)))) = true := by first | exact c | (simp only [Option.getD_some] at c; exact c)
    (first | exact (k1 (c_net c)) | (simp only [Option.getD_some]; exact (k1 (c_net c))))
  · have c : (!(decide (x1 = (1 : Int32)))) = false := by first | exact c | (simp only [Option.getD_some] at c; exact c)
    (first | exact (k2 (c_nef c)) | (simp only [Option.getD_some]; exact (k2 (c_nef c))))
theorem w_Model_brings_13 {rod : Nat → Nat × (Nat → Int32)} {d : Nat} {Q : Option MV → MH → Prop} {u0 : Option MV} {u1 : Option MV} {h : MH}   (k : Wb rod d B_Model_brings 20 [u0, u1] [.inl (0 : Int32)] h Q) : Wb rod d B_Model_brings 13 [u0, u1] [] h Q := by
  refine Wb.go (fun r hr q => b_Model_brings_13 ?_) k
  (first | exact q | (simp only [Option.getD_some]; exact q))
theorem w_Model_brings_17 {rod : Nat → Nat × (Nat → Int32)} {d : Nat} {Q : Option MV → MH → Prop} {x0 : Int32} {u1 : Option MV} {h : MH}   (k : Wb rod d B_Model_brings 20 [some (.inl x0), u1] [.inl ((3 : Int32) * x0)] h Q) : Wb rod d B_Model_brings 17 [some (.inl x0), u1] [] h Q := by
  refine Wb.go (fun r hr q => b_Model_brings_17 ?_) k
  (first | exact q | (simp only [Option.getD_some]; exact q))
theorem w_Model_brings_20 {rod : Nat → Nat × (Nat → Int32)} {d : Nat} {Q : Option MV → MH → Prop} {u0 : Option MV} {u1 : Option MV} {xs0 : Int32} {h : MH}   (q : Q (some (.inl xs0)) h) : Wb rod d B_Model_brings 20 [u0, u1] [.inl xs0] h Q := by
  refine Wb.ret (b_Model_brings_20) ?_
  (first | exact q | (simp only [Option.getD_some]; exact q))
theorem n_Model_trustBy {rod : Nat → Nat × (Nat → Int32)} {d : Nat} {Q : Option MV → MH → Prop} {x0 : Int32} {x1 : Int32} {h : MH} (k : Wb rod d B_Model_trustBy 0 [some (.inl x0), some (.inl x1)] [] h Q) : Wc rod (d + 1) 271 [.inl x0, .inl x1] h Q := Wc.en (fun _ _ => e_Model_trustBy) k
theorem w_Model_trustBy_0 {rod : Nat → Nat × (Nat → Int32)} {d : Nat} {Q : Option MV → MH → Prop} {u0 : Option MV} {x1 : Int32} {h : MH}   (k1 : ¬ x1.toInt = 0 → Wb rod d B_Model_trustBy 16 [u0, some (.inl x1)] [] h Q) (k2 : x1.toInt = 0 → Wb rod d B_Model_trustBy 4 [u0, some (.inl x1)] [] h Q) : Wb rod d B_Model_trustBy 0 [u0, some (.inl x1)] [] h Q := by
  refine Wb.br (fun _ _ => b_Model_trustBy_0) (fun c => ?_) (fun c => ?_)
  · have c : (!(decide (x1 = 0))) = true := by first | exact c | (simp only [Option.getD_some] at c; exact c)
    (first | exact (k1 (c_net c)) | (simp only [Option.getD_some]; exact (k1 (c_net c))))
  · have c : (!(decide (x1 = 0))) = false := by first | exact c | (simp only [Option.getD_some] at c; exact c)
    (first | exact (k2 (c_nef c)) | (simp only [Option.getD_some]; exact (k2 (c_nef c))))
theorem w_Model_trustBy_4 {rod : Nat → Nat × (Nat → Int32)} {d : Nat} {Q : Option MV → MH → Prop} {x0 : Int32} {u1 : Option MV} {h : MH}   (k1 : x0.toInt ≤ 0 → Wb rod d B_Model_trustBy 14 [some (.inl x0), u1] [] h Q) (k2 : ¬ x0.toInt ≤ 0 → Wb rod d B_Model_trustBy 8 [some (.inl x0), u1] [] h Q) : Wb rod d B_Model_trustBy 4 [some (.inl x0), u1] [] h Q := by
  refine Wb.br (fun _ _ => b_Model_trustBy_4) (fun c => ?_) (fun c => ?_)
  · have c : (decide (x0 ≤ 0)) = true := by first | exact c | (simp only [Option.getD_some] at c; exact c)
    (first | exact (k1 (c_let c)) | (simp only [Option.getD_some]; exact (k1 (c_let c))))
  · have c : (decide (x0 ≤ 0)) = false := by first | exact c | (simp only [Option.getD_some] at c; exact c)
    (first | exact (k2 (c_lef c)) | (simp only [Option.getD_some]; exact (k2 (c_lef c))))
theorem w_Model_trustBy_8 {rod : Nat → Nat × (Nat → Int32)} {d : Nat} {Q : Option MV → MH → Prop} {x0 : Int32} {u1 : Option MV} {h : MH}   (k : Wb rod d B_Model_trustBy 15 [some (.inl x0), u1] [.inl (x0 - (1 : Int32))] h Q) : Wb rod d B_Model_trustBy 8 [some (.inl x0), u1] [] h Q := by
  refine Wb.go (fun r hr q => b_Model_trustBy_8 ?_) k
  (first | exact q | (simp only [Option.getD_some]; exact q))
theorem w_Model_trustBy_14 {rod : Nat → Nat × (Nat → Int32)} {d : Nat} {Q : Option MV → MH → Prop} {u0 : Option MV} {u1 : Option MV} {h : MH}   (k : Wb rod d B_Model_trustBy 15 [u0, u1] [.inl (0 : Int32)] h Q) : Wb rod d B_Model_trustBy 14 [u0, u1] [] h Q := by
  refine Wb.go (fun r hr q => b_Model_trustBy_14 ?_) k
  (first | exact q | (simp only [Option.getD_some]; exact q))
theorem w_Model_trustBy_15 {rod : Nat → Nat × (Nat → Int32)} {d : Nat} {Q : Option MV → MH → Prop} {u0 : Option MV} {u1 : Option MV} {xs0 : Int32} {h : MH}   (q : Q (some (.inl xs0)) h) : Wb rod d B_Model_trustBy 15 [u0, u1] [.inl xs0] h Q := by
  refine Wb.ret (b_Model_trustBy_15) ?_
  (first | exact q | (simp only [Option.getD_some]; exact q))
theorem w_Model_trustBy_16 {rod : Nat → Nat × (Nat → Int32)} {d : Nat} {Q : Option MV → MH → Prop} {u0 : Option MV} {x1 : Int32} {h : MH}   (k1 : ¬ x1.toInt = 1 → Wb rod d B_Model_trustBy 38 [u0, some (.inl x1)] [] h Q) (k2 : x1.toInt = 1 → Wb rod d B_Model_trustBy 21 [u0, some (.inl x1)] [] h Q) : Wb rod d B_Model_trustBy 16 [u0, some (.inl x1)] [] h Q := by
  refine Wb.br (fun _ _ => b_Model_trustBy_16) (fun c => ?_) (fun c => ?_)
  · have c : (!(decide (x1 = (1 : Int32)))) = true := by first | exact c | (simp only [Option.getD_some] at c; exact c)
    (first | exact (k1 (c_net c)) | (simp only [Option.getD_some]; exact (k1 (c_net c))))
  · have c : (!(decide (x1 = (1 : Int32)))) = false := by first | exact c | (simp only [Option.getD_some] at c; exact c)
    (first | exact (k2 (c_nef c)) | (simp only [Option.getD_some]; exact (k2 (c_nef c))))
theorem w_Model_trustBy_21 {rod : Nat → Nat × (Nat → Int32)} {d : Nat} {Q : Option MV → MH → Prop} {x0 : Int32} {u1 : Option MV} {h : MH}   (k1 : 9 ≤ x0.toInt → Wb rod d B_Model_trustBy 33 [some (.inl x0), u1] [] h Q) (k2 : ¬ 9 ≤ x0.toInt → Wb rod d B_Model_trustBy 27 [some (.inl x0), u1] [] h Q) : Wb rod d B_Model_trustBy 21 [some (.inl x0), u1] [] h Q := by
  refine Wb.br (fun _ _ => b_Model_trustBy_21) (fun c => ?_) (fun c => ?_)
  · have c : (decide ((9 : Int32) ≤ x0)) = true := by first | exact c | (simp only [Option.getD_some] at c; exact c)
    (first | exact (k1 (c_let c)) | (simp only [Option.getD_some]; exact (k1 (c_let c))))
  · have c : (decide ((9 : Int32) ≤ x0)) = false := by first | exact c | (simp only [Option.getD_some] at c; exact c)
    (first | exact (k2 (c_lef c)) | (simp only [Option.getD_some]; exact (k2 (c_lef c))))
theorem w_Model_trustBy_27 {rod : Nat → Nat × (Nat → Int32)} {d : Nat} {Q : Option MV → MH → Prop} {x0 : Int32} {u1 : Option MV} {h : MH}   (k : Wb rod d B_Model_trustBy 41 [some (.inl x0), u1] [.inl (x0 + (1 : Int32))] h Q) : Wb rod d B_Model_trustBy 27 [some (.inl x0), u1] [] h Q := by
  refine Wb.go (fun r hr q => b_Model_trustBy_27 ?_) k
  (first | exact q | (simp only [Option.getD_some]; exact q))
theorem w_Model_trustBy_33 {rod : Nat → Nat × (Nat → Int32)} {d : Nat} {Q : Option MV → MH → Prop} {u0 : Option MV} {u1 : Option MV} {h : MH}   (k : Wb rod d B_Model_trustBy 41 [u0, u1] [.inl (9 : Int32)] h Q) : Wb rod d B_Model_trustBy 33 [u0, u1] [] h Q := by
  refine Wb.go (fun r hr q => b_Model_trustBy_33 ?_) k
  (first | exact q | (simp only [Option.getD_some]; exact q))
theorem w_Model_trustBy_38 {rod : Nat → Nat × (Nat → Int32)} {d : Nat} {Q : Option MV → MH → Prop} {x0 : Int32} {u1 : Option MV} {h : MH}   (k : Wb rod d B_Model_trustBy 41 [some (.inl x0), u1] [.inl (x0 / (2 : Int32))] h Q) : Wb rod d B_Model_trustBy 38 [some (.inl x0), u1] [] h Q := by
  refine Wb.go (fun r hr q => b_Model_trustBy_38 (by decide) ?_) k
  (first | exact q | (simp only [Option.getD_some]; exact q))
theorem w_Model_trustBy_41 {rod : Nat → Nat × (Nat → Int32)} {d : Nat} {Q : Option MV → MH → Prop} {u0 : Option MV} {u1 : Option MV} {xs0 : Int32} {h : MH}   (q : Q (some (.inl xs0)) h) : Wb rod d B_Model_trustBy 41 [u0, u1] [.inl xs0] h Q := by
  refine Wb.ret (b_Model_trustBy_41) ?_
  (first | exact q | (simp only [Option.getD_some]; exact q))
theorem n_Model_within {rod : Nat → Nat × (Nat → Int32)} {d : Nat} {Q : Option MV → MH → Prop} {x1 : Int32} {x2 : Int32} {h : MH} (k : Wb rod d B_Model_within 0 [some (.inr (.inr (.inl (some 84)))), some (.inl x1), some (.inl x2), none] [] h Q) : Wc rod (d + 1) 272 [.inr (.inr (.inl (some 84))), .inl x1, .inl x2] h Q := Wc.en (fun _ _ => e_Model_within) k
theorem w_Model_within_0 {rod : Nat → Nat × (Nat → Int32)} {d : Nat} {Q : Option MV → MH → Prop} {u0 : Option MV} {x1 : Int32} {u2 : Option MV} {u3 : Option MV} {h : MH}   {Q1 : Option MV → MH → Prop} (c : Wc rod d 193 [.inl x1, .inl (0 : Int32), .inl (9 : Int32)] h Q1) (k : ∀ r1 h2, Q1 r1 h2 → Wb rod d B_Model_within 7 [u0, some (.inl x1), u2, u3] (r1.toList ++ []) h2 Q) : Wb rod d B_Model_within 0 [u0, some (.inl x1), u2, u3] [] h Q := by
  refine Wb.call (fun _ _ _ _ => b_Model_within_0) (Q1 := Q1) ?_ ?_
  · (first | exact c | (simp only [Option.getD_some]; exact c))
  · (first | exact k | (simp only [Option.getD_some]; exact k))
theorem w_Model_within_7 {rod : Nat → Nat × (Nat → Int32)} {d : Nat} {Q : Option MV → MH → Prop} {u0 : Option MV} {u1 : Option MV} {u2 : Option MV} {u3 : Option MV} {xs0 : Int32} {h : MH}   (k1 : xs0.toInt = 0 → Wb rod d B_Model_within 21 [u0, u1, u2, u3] [] h Q) (k2 : ¬ xs0.toInt = 0 → Wb rod d B_Model_within 10 [u0, u1, u2, u3] [] h Q) : Wb rod d B_Model_within 7 [u0, u1, u2, u3] [.inl xs0] h Q := by
  refine Wb.br (fun _ _ => b_Model_within_7) (fun c => ?_) (fun c => ?_)
  · have c : (decide (xs0 = 0)) = true := by first | exact c | (simp only [Option.getD_some] at c; exact c)
    (first | exact (k1 (c_eqt c)) | (simp only [Option.getD_some]; exact (k1 (c_eqt c))))
  · have c : (decide (xs0 = 0)) = false := by first | exact c | (simp only [Option.getD_some] at c; exact c)
    (first | exact (k2 (c_eqf c)) | (simp only [Option.getD_some]; exact (k2 (c_eqf c))))
theorem w_Model_within_10 {rod : Nat → Nat × (Nat → Int32)} {d : Nat} {Q : Option MV → MH → Prop} {u0 : Option MV} {u1 : Option MV} {x2 : Int32} {u3 : Option MV} {h : MH}   {Q1 : Option MV → MH → Prop} (c : Wc rod d 193 [.inl x2, .inl (0 : Int32), .inl (999 : Int32)] h Q1) (k : ∀ r1 h2, Q1 r1 h2 → Wb rod d B_Model_within 18 [u0, u1, some (.inl x2), u3] (r1.toList ++ []) h2 Q) : Wb rod d B_Model_within 10 [u0, u1, some (.inl x2), u3] [] h Q := by
  refine Wb.call (fun _ _ _ _ => b_Model_within_10) (Q1 := Q1) ?_ ?_
  · (first | exact c | (simp only [Option.getD_some]; exact c))
  · (first | exact k | (simp only [Option.getD_some]; exact k))
theorem w_Model_within_18 {rod : Nat → Nat × (Nat → Int32)} {d : Nat} {Q : Option MV → MH → Prop} {u0 : Option MV} {u1 : Option MV} {u2 : Option MV} {u3 : Option MV} {xs0 : Int32} {h : MH}   (k1 : ¬ xs0.toInt = 0 → Wb rod d B_Model_within 23 [u0, u1, u2, u3] [] h Q) (k2 : xs0.toInt = 0 → Wb rod d B_Model_within 21 [u0, u1, u2, u3] [] h Q) : Wb rod d B_Model_within 18 [u0, u1, u2, u3] [.inl xs0] h Q := by
  refine Wb.br (fun _ _ => b_Model_within_18) (fun c => ?_) (fun c => ?_)
  · have c : (!(decide (xs0 = 0))) = true := by first | exact c | (simp only [Option.getD_some] at c; exact c)
    (first | exact (k1 (c_net c)) | (simp only [Option.getD_some]; exact (k1 (c_net c))))
  · have c : (!(decide (xs0 = 0))) = false := by first | exact c | (simp only [Option.getD_some] at c; exact c)
    (first | exact (k2 (c_nef c)) | (simp only [Option.getD_some]; exact (k2 (c_nef c))))
theorem w_Model_within_21 {rod : Nat → Nat × (Nat → Int32)} {d : Nat} {Q : Option MV → MH → Prop} {u0 : Option MV} {u1 : Option MV} {u2 : Option MV} {u3 : Option MV} {h : MH}   (q : Q (some (.inl (-1 : Int32))) h) : Wb rod d B_Model_within 21 [u0, u1, u2, u3] [] h Q := by
  refine Wb.ret (b_Model_within_21) ?_
  (first | exact q | (simp only [Option.getD_some]; exact q))
theorem w_Model_within_23 {rod : Nat → Nat × (Nat → Int32)} {d : Nat} {Q : Option MV → MH → Prop} {u0 : Option MV} {u1 : Option MV} {u2 : Option MV} {u3 : Option MV} {h : MH}  (g0 : okl [u0, u1, u2, u3] 3 = true) (k : Wb rod d B_Model_within 25 [u0, u1, u2, some (.inl (0 : Int32))] [] h Q) : Wb rod d B_Model_within 23 [u0, u1, u2, u3] [] h Q := by
  refine Wb.go (fun r hr q => b_Model_within_23 g0 ?_) k
  (first | exact q | (simp only [Option.getD_some]; exact q))
theorem w_Model_within_25 {rod : Nat → Nat × (Nat → Int32)} {d : Nat} {Q : Option MV → MH → Prop} {u0 : Option MV} {u1 : Option MV} {u2 : Option MV} {x3 : Int32} {h : MH}   (k1 : 20 < x3.toInt → Wb rod d B_Model_within 50 [u0, u1, u2, some (.inl x3)] [] h Q) (k2 : ¬ 20 < x3.toInt → Wb rod d B_Model_within 31 [u0, u1, u2, some (.inl x3)] [] h Q) : Wb rod d B_Model_within 25 [u0, u1, u2, some (.inl x3)] [] h Q := by
  refine Wb.br (fun _ _ => b_Model_within_25) (fun c => ?_) (fun c => ?_)
  · have c : (decide ((20 : Int32) < x3)) = true := by first | exact c | (simp only [Option.getD_some] at c; exact c)
    (first | exact (k1 (c_ltt c)) | (simp only [Option.getD_some]; exact (k1 (c_ltt c))))
  · have c : (decide ((20 : Int32) < x3)) = false := by first | exact c | (simp only [Option.getD_some] at c; exact c)
    (first | exact (k2 (c_ltf c)) | (simp only [Option.getD_some]; exact (k2 (c_ltf c))))
theorem w_Model_within_31 {rod : Nat → Nat × (Nat → Int32)} {d : Nat} {Q : Option MV → MH → Prop} {x1 : Int32} {u2 : Option MV} {x3 : Int32} {h : MH} (L : Lay h.2)  {Q1 : Option MV → MH → Prop} (c : Wc rod d 268 [.inr (.inr (.inl (some 84))), .inl x1, .inl x3, .inl (-1 : Int32)] h Q1) (k : ∀ r1 h2, Q1 r1 h2 → Wb rod d B_Model_within 38 [some (.inr (.inr (.inl (some 84)))), some (.inl x1), u2, some (.inl x3)] (r1.toList ++ []) h2 Q) : Wb rod d B_Model_within 31 [some (.inr (.inr (.inl (some 84)))), some (.inl x1), u2, some (.inl x3)] [] h Q := by
  refine Wb.call (fun _ _ _ _ => b_Model_within_31 (Lay.o84 L)) (Q1 := Q1) ?_ ?_
  · (first | exact c | (simp only [Option.getD_some]; exact c))
  · (first | exact k | (simp only [Option.getD_some]; exact k))
theorem w_Model_within_38 {rod : Nat → Nat × (Nat → Int32)} {d : Nat} {Q : Option MV → MH → Prop} {u0 : Option MV} {u1 : Option MV} {x2 : Int32} {u3 : Option MV} {xs0 : Int32} {h : MH}   (k1 : xs0.toInt < x2.toInt → Wb rod d B_Model_within 44 [u0, u1, some (.inl x2), u3] [] h Q) (k2 : ¬ xs0.toInt < x2.toInt → Wb rod d B_Model_within 42 [u0, u1, some (.inl x2), u3] [] h Q) : Wb rod d B_Model_within 38 [u0, u1, some (.inl x2), u3] [.inl xs0] h Q := by
  refine Wb.br (fun _ _ => b_Model_within_38) (fun c => ?_) (fun c => ?_)
  · have c : (decide (xs0 < x2)) = true := by first | exact c | (simp only [Option.getD_some] at c; exact c)
    (first | exact (k1 (c_ltt c)) | (simp only [Option.getD_some]; exact (k1 (c_ltt c))))
  · have c : (decide (xs0 < x2)) = false := by first | exact c | (simp only [Option.getD_some] at c; exact c)
    (first | exact (k2 (c_ltf c)) | (simp only [Option.getD_some]; exact (k2 (c_ltf c))))
theorem w_Model_within_42 {rod : Nat → Nat × (Nat → Int32)} {d : Nat} {Q : Option MV → MH → Prop} {u0 : Option MV} {u1 : Option MV} {u2 : Option MV} {x3 : Int32} {h : MH}   (q : Q (some (.inl x3)) h) : Wb rod d B_Model_within 42 [u0, u1, u2, some (.inl x3)] [] h Q := by
  refine Wb.ret (b_Model_within_42) ?_
  (first | exact q | (simp only [Option.getD_some]; exact q))
theorem w_Model_within_44 {rod : Nat → Nat × (Nat → Int32)} {d : Nat} {Q : Option MV → MH → Prop} {u0 : Option MV} {u1 : Option MV} {u2 : Option MV} {x3 : Int32} {h : MH}  (g0 : okl [u0, u1, u2, some (.inl x3)] 3 = true) (k : Wb rod d B_Model_within 25 [u0, u1, u2, some (.inl (x3 + 1))] [] h Q) : Wb rod d B_Model_within 44 [u0, u1, u2, some (.inl x3)] [] h Q := by
  refine Wb.go (fun r hr q => b_Model_within_44 g0 ?_) k
  (first | exact q | (simp only [Option.getD_some]; exact q))
theorem w_Model_within_50 {rod : Nat → Nat × (Nat → Int32)} {d : Nat} {Q : Option MV → MH → Prop} {u0 : Option MV} {u1 : Option MV} {u2 : Option MV} {u3 : Option MV} {h : MH}   (q : Q (some (.inl (-1 : Int32))) h) : Wb rod d B_Model_within 50 [u0, u1, u2, u3] [] h Q := by
  refine Wb.ret (b_Model_within_50) ?_
  (first | exact q | (simp only [Option.getD_some]; exact q))
theorem n_Model_entry {rod : Nat → Nat × (Nat → Int32)} {d : Nat} {Q : Option MV → MH → Prop} {x1 : Int32} {x2 : Int32} {x3 : Int32} {h : MH} (k : Wb rod d B_Model_entry 0 [some (.inr (.inr (.inl (some 84)))), some (.inl x1), some (.inl x2), some (.inl x3), none] [] h Q) : Wc rod (d + 1) 274 [.inr (.inr (.inl (some 84))), .inl x1, .inl x2, .inl x3] h Q := Wc.en (fun _ _ => e_Model_entry) k
theorem w_Model_entry_0 {rod : Nat → Nat × (Nat → Int32)} {d : Nat} {Q : Option MV → MH → Prop} {x1 : Int32} {u2 : Option MV} {u3 : Option MV} {u4 : Option MV} {h : MH} (L : Lay h.2)  {Q1 : Option MV → MH → Prop} (c : Wc rod d 275 [.inr (.inr (.inl (some 84))), .inl x1] h Q1) (k : ∀ r1 h2, Q1 r1 h2 → Wb rod d B_Model_entry 5 [some (.inr (.inr (.inl (some 84)))), some (.inl x1), u2, u3, u4] (r1.toList ++ []) h2 Q) : Wb rod d B_Model_entry 0 [some (.inr (.inr (.inl (some 84)))), some (.inl x1), u2, u3, u4] [] h Q := by
  refine Wb.call (fun _ _ _ _ => b_Model_entry_0 (Lay.o84 L)) (Q1 := Q1) ?_ ?_
  · (first | exact c | (simp only [Option.getD_some]; exact c))
  · (first | exact k | (simp only [Option.getD_some]; exact k))
theorem w_Model_entry_5 {rod : Nat → Nat × (Nat → Int32)} {d : Nat} {Q : Option MV → MH → Prop} {u0 : Option MV} {u1 : Option MV} {u2 : Option MV} {u3 : Option MV} {u4 : Option MV} {xs0 : Int32} {h : MH}   (k1 : ¬ xs0.toInt = 0 → Wb rod d B_Model_entry 11 [u0, u1, u2, u3, u4] [] h Q) (k2 : xs0.toInt = 0 → Wb rod d B_Model_entry 8 [u0, u1, u2, u3, u4] [] h Q) : Wb rod d B_Model_entry 5 [u0, u1, u2, u3, u4] [.inl xs0] h Q := by
  refine Wb.br (fun _ _ => b_Model_entry_5) (fun c => ?_) (fun c => ?_)
  · have c : (!(decide (xs0 = 0))) = true := by first | exact c | (simp only [Option.getD_some] at c; exact c)
    (first | exact (k1 (c_net c)) | (simp only [Option.getD_some]; exact (k1 (c_net c))))
  · have c : (!(decide (xs0 = 0))) = false := by first | exact c | (simp only [Option.getD_some] at c; exact c)
    (first | exact (k2 (c_nef c)) | (simp only [Option.getD_some]; exact (k2 (c_nef c))))
theorem w_Model_entry_8 {rod : Nat → Nat × (Nat → Int32)} {d : Nat} {Q : Option MV → MH → Prop} {u0 : Option MV} {u1 : Option MV} {u2 : Option MV} {u3 : Option MV} {u4 : Option MV} {h : MH}   (q : Q (some (.inl (-2 : Int32))) h) : Wb rod d B_Model_entry 8 [u0, u1, u2, u3, u4] [] h Q := by
  refine Wb.ret (b_Model_entry_8) ?_
  (first | exact q | (simp only [Option.getD_some]; exact q))
theorem w_Model_entry_11 {rod : Nat → Nat × (Nat → Int32)} {d : Nat} {Q : Option MV → MH → Prop} {u0 : Option MV} {u1 : Option MV} {x2 : Int32} {u3 : Option MV} {u4 : Option MV} {h : MH}   (k1 : ¬ x2.toInt = (-1) → Wb rod d B_Model_entry 35 [u0, u1, some (.inl x2), u3, u4] [] h Q) (k2 : x2.toInt = (-1) → Wb rod d B_Model_entry 16 [u0, u1, some (.inl x2), u3, u4] [] h Q) : Wb rod d B_Model_entry 11 [u0, u1, some (.inl x2), u3, u4] [] h Q := by
  refine Wb.br (fun _ _ => b_Model_entry_11) (fun c => ?_) (fun c => ?_)
  · have c : (!(decide (x2 = (-1 : Int32)))) = true := by first | exact c | (simp only [Option.getD_some] at c; exact c)
    (first | exact (k1 (c_net c)) | (simp only [Option.getD_some]; exact (k1 (c_net c))))
  · have c : (!(decide (x2 = (-1 : Int32)))) = false := by first | exact c | (simp only [Option.getD_some] at c; exact c)
    (first | exact (k2 (c_nef c)) | (simp only [Option.getD_some]; exact (k2 (c_nef c))))
theorem w_Model_entry_16 {rod : Nat → Nat × (Nat → Int32)} {d : Nat} {Q : Option MV → MH → Prop} {u0 : Option MV} {u1 : Option MV} {u2 : Option MV} {x3 : Int32} {u4 : Option MV} {h : MH}   (k1 : ¬ x3.toInt = 0 → Wb rod d B_Model_entry 32 [u0, u1, u2, some (.inl x3), u4] [] h Q) (k2 : x3.toInt = 0 → Wb rod d B_Model_entry 20 [u0, u1, u2, some (.inl x3), u4] [] h Q) : Wb rod d B_Model_entry 16 [u0, u1, u2, some (.inl x3), u4] [] h Q := by
  refine Wb.br (fun _ _ => b_Model_entry_16) (fun c => ?_) (fun c => ?_)
  · have c : (!(decide (x3 = 0))) = true := by first | exact c | (simp only [Option.getD_some] at c; exact c)
    (first | exact (k1 (c_net c)) | (simp only [Option.getD_some]; exact (k1 (c_net c))))
  · have c : (!(decide (x3 = 0))) = false := by first | exact c | (simp only [Option.getD_some] at c; exact c)
    (first | exact (k2 (c_nef c)) | (simp only [Option.getD_some]; exact (k2 (c_nef c))))
theorem w_Model_entry_20 {rod : Nat → Nat × (Nat → Int32)} {d : Nat} {Q : Option MV → MH → Prop} {u1 : Option MV} {u2 : Option MV} {u3 : Option MV} {u4 : Option MV} {h : MH} (L : Lay h.2) (g0 : 0 ≤ (h.1 84 38).toInt ∧ (h.1 84 38).toInt < 4584) (k : Wb rod d B_Model_entry 34 [some (.inr (.inr (.inl (some 84)))), u1, u2, u3, u4] [.inl (h.1 85 (h.1 84 38).toNatClampNeg)] h Q) : Wb rod d B_Model_entry 20 [some (.inr (.inr (.inl (some 84)))), u1, u2, u3, u4] [] h Q := by
  refine Wb.go (fun r hr q => b_Model_entry_20 (Lay.o84 L) (Lay.a84_0 L (by first | exact g0 | (simp only [Option.getD_some, (Lay.r84_0 L)]; exact g0))) ?_) k
  (first | exact q | (simp only [Option.getD_some, (Lay.r84_0 L)]; exact q))
theorem w_Model_entry_32 {rod : Nat → Nat × (Nat → Int32)} {d : Nat} {Q : Option MV → MH → Prop} {u0 : Option MV} {u1 : Option MV} {u2 : Option MV} {u3 : Option MV} {u4 : Option MV} {h : MH}   (k : Wb rod d B_Model_entry 34 [u0, u1, u2, u3, u4] [.inl (-2 : Int32)] h Q) : Wb rod d B_Model_entry 32 [u0, u1, u2, u3, u4] [] h Q := by
  refine Wb.go (fun r hr q => b_Model_entry_32 ?_) k
  (first | exact q | (simp only [Option.getD_some]; exact q))
theorem w_Model_entry_34 {rod : Nat → Nat × (Nat → Int32)} {d : Nat} {Q : Option MV → MH → Prop} {u0 : Option MV} {u1 : Option MV} {u2 : Option MV} {u3 : Option MV} {u4 : Option MV} {xs0 : Int32} {h : MH}   (q : Q (some (.inl xs0)) h) : Wb rod d B_Model_entry 34 [u0, u1, u2, u3, u4] [.inl xs0] h Q := by
  refine Wb.ret (b_Model_entry_34) ?_
  (first | exact q | (simp only [Option.getD_some]; exact q))
theorem w_Model_entry_35 {rod : Nat → Nat × (Nat → Int32)} {d : Nat} {Q : Option MV → MH → Prop} {u1 : Option MV} {x2 : Int32} {u3 : Option MV} {u4 : Option MV} {h : MH} (L : Lay h.2) (g0 : 0 ≤ (h.1 84 38).toInt ∧ (h.1 84 38).toInt < 4584) {Q1 : Option MV → MH → Prop} (c : Wc rod d 193 [.inl x2, .inl (0 : Int32), .inl ((h.1 85 (h.1 84 38).toNatClampNeg) - (1 : Int32))] h Q1) (k : ∀ r1 h2, Q1 r1 h2 → Wb rod d B_Model_entry 51 [some (.inr (.inr (.inl (some 84)))), u1, some (.inl x2), u3, u4] (r1.toList ++ []) h2 Q) : Wb rod d B_Model_entry 35 [some (.inr (.inr (.inl (some 84)))), u1, some (.inl x2), u3, u4] [] h Q := by
  refine Wb.call (fun _ _ _ _ => b_Model_entry_35 (Lay.o84 L) (Lay.a84_0 L (by first | exact g0 | (simp only [Option.getD_some, (Lay.r84_0 L)]; exact g0)))) (Q1 := Q1) ?_ ?_
  · (first | exact c | (simp only [Option.getD_some, (Lay.r84_0 L)]; exact c))
  · (first | exact k | (simp only [Option.getD_some, (Lay.r84_0 L)]; exact k))
theorem w_Model_entry_51 {rod : Nat → Nat × (Nat → Int32)} {d : Nat} {Q : Option MV → MH → Prop} {u0 : Option MV} {u1 : Option MV} {u2 : Option MV} {u3 : Option MV} {u4 : Option MV} {xs0 : Int32} {h : MH}   (k1 : xs0.toInt = 0 → Wb rod d B_Model_entry 63 [u0, u1, u2, u3, u4] [] h Q) (k2 : ¬ xs0.toInt = 0 → Wb rod d B_Model_entry 54 [u0, u1, u2, u3, u4] [] h Q) : Wb rod d B_Model_entry 51 [u0, u1, u2, u3, u4] [.inl xs0] h Q := by
  refine Wb.br (fun _ _ => b_Model_entry_51) (fun c => ?_) (fun c => ?_)
  · have c : (decide (xs0 = 0)) = true := by first | exact c | (simp only [Option.getD_some] at c; exact c)
    (first | exact (k1 (c_eqt c)) | (simp only [Option.getD_some]; exact (k1 (c_eqt c))))
  · have c : (decide (xs0 = 0)) = false := by first | exact c | (simp only [Option.getD_some] at c; exact c)
    (first | exact (k2 (c_eqf c)) | (simp only [Option.getD_some]; exact (k2 (c_eqf c))))
theorem w_Model_entry_54 {rod : Nat → Nat × (Nat → Int32)} {d : Nat} {Q : Option MV → MH → Prop} {u0 : Option MV} {u1 : Option MV} {u2 : Option MV} {x3 : Int32} {u4 : Option MV} {h : MH}   {Q1 : Option MV → MH → Prop} (c : Wc rod d 193 [.inl x3, .inl (0 : Int32), .inl (3 : Int32)] h Q1) (k : ∀ r1 h2, Q1 r1 h2 → Wb rod d B_Model_entry 60 [u0, u1, u2, some (.inl x3), u4] (r1.toList ++ []) h2 Q) : Wb rod d B_Model_entry 54 [u0, u1, u2, some (.inl x3), u4] [] h Q := by
  refine Wb.call (fun _ _ _ _ => b_Model_entry_54) (Q1 := Q1) ?_ ?_
  · (first | exact c | (simp only [Option.getD_some]; exact c))
  · (first | exact k | (simp only [Option.getD_some]; exact k))
theorem w_Model_entry_60 {rod : Nat → Nat × (Nat → Int32)} {d : Nat} {Q : Option MV → MH → Prop} {u0 : Option MV} {u1 : Option MV} {u2 : Option MV} {u3 : Option MV} {u4 : Option MV} {xs0 : Int32} {h : MH}   (k1 : ¬ xs0.toInt = 0 → Wb rod d B_Model_entry 66 [u0, u1, u2, u3, u4] [] h Q) (k2 : xs0.toInt = 0 → Wb rod d B_Model_entry 63 [u0, u1, u2, u3, u4] [] h Q) : Wb rod d B_Model_entry 60 [u0, u1, u2, u3, u4] [.inl xs0] h Q := by
  refine Wb.br (fun _ _ => b_Model_entry_60) (fun c => ?_) (fun c => ?_)
  · have c : (!(decide (xs0 = 0))) = true := by first | exact c | (simp only [Option.getD_some] at c; exact c)
    (first | exact (k1 (c_net c)) | (simp only [Option.getD_some]; exact (k1 (c_net c))))
  · have c : (!(decide (xs0 = 0))) = false := by first | exact c | (simp only [Option.getD_some] at c; exact c)
    (first | exact (k2 (c_nef c)) | (simp only [Option.getD_some]; exact (k2 (c_nef c))))
theorem w_Model_entry_63 {rod : Nat → Nat × (Nat → Int32)} {d : Nat} {Q : Option MV → MH → Prop} {u0 : Option MV} {u1 : Option MV} {u2 : Option MV} {u3 : Option MV} {u4 : Option MV} {h : MH}   (q : Q (some (.inl (-2 : Int32))) h) : Wb rod d B_Model_entry 63 [u0, u1, u2, u3, u4] [] h Q := by
  refine Wb.ret (b_Model_entry_63) ?_
  (first | exact q | (simp only [Option.getD_some]; exact q))
theorem w_Model_entry_66 {rod : Nat → Nat × (Nat → Int32)} {d : Nat} {Q : Option MV → MH → Prop} {u0 : Option MV} {u1 : Option MV} {u2 : Option MV} {x3 : Int32} {u4 : Option MV} {h : MH}   (k1 : 2 ≤ x3.toInt → Wb rod d B_Model_entry 89 [u0, u1, u2, some (.inl x3), u4] [] h Q) (k2 : ¬ 2 ≤ x3.toInt → Wb rod d B_Model_entry 71 [u0, u1, u2, some (.inl x3), u4] [] h Q) : Wb rod d B_Model_entry 66 [u0, u1, u2, some (.inl x3), u4] [] h Q := by
  refine Wb.br (fun _ _ => b_Model_entry_66) (fun c => ?_) (fun c => ?_)
  · have c : (decide ((2 : Int32) ≤ x3)) = true := by first | exact c | (simp only [Option.getD_some] at c; exact c)
    (first | exact (k1 (c_let c)) | (simp only [Option.getD_some]; exact (k1 (c_let c))))
  · have c : (decide ((2 : Int32) ≤ x3)) = false := by first | exact c | (simp only [Option.getD_some] at c; exact c)
    (first | exact (k2 (c_lef c)) | (simp only [Option.getD_some]; exact (k2 (c_lef c))))
theorem w_Model_entry_71 {rod : Nat → Nat × (Nat → Int32)} {d : Nat} {Q : Option MV → MH → Prop} {u1 : Option MV} {x2 : Int32} {x3 : Int32} {u4 : Option MV} {h : MH} (L : Lay h.2) (g0 : 0 ≤ ((((h.1 84 38) + (1 : Int32)) + ((2 : Int32) * x2)) + x3).toInt ∧ ((((h.1 84 38) + (1 : Int32)) + ((2 : Int32) * x2)) + x3).toInt < 4584) (q : Q (some (.inl (h.1 85 ((((h.1 84 38) + (1 : Int32)) + ((2 : Int32) * x2)) + x3).toNatClampNeg))) h) : Wb rod d B_Model_entry 71 [some (.inr (.inr (.inl (some 84)))), u1, some (.inl x2), some (.inl x3), u4] [] h Q := by
  refine Wb.ret (b_Model_entry_71 (Lay.o84 L) (Lay.a84_0 L (by first | exact g0 | (simp only [Option.getD_some, (Lay.r84_0 L)]; exact g0)))) ?_
  (first | exact q | (simp only [Option.getD_some, (Lay.r84_0 L)]; exact q))
theorem w_Model_entry_89 {rod : Nat → Nat × (Nat → Int32)} {d : Nat} {Q : Option MV → MH → Prop} {u1 : Option MV} {x2 : Int32} {u3 : Option MV} {u4 : Option MV} {h : MH} (L : Lay h.2) (g0 : 0 ≤ (((h.1 84 38) + (1 : Int32)) + ((2 : Int32) * x2)).toInt ∧ (((h.1 84 38) + (1 : Int32)) + ((2 : Int32) * x2)).toInt < 4584) (k1 : (h.1 85 (((h.1 84 38) + (1 : Int32)) + ((2 : Int32) * x2)).toNatClampNeg).toInt = 2 → Wb rod d B_Model_entry 110 [some (.inr (.inr (.inl (some 84)))), u1, some (.inl x2), u3, u4] [] h Q) (k2 : ¬ (h.1 85 (((h.1 84 38) + (1 : Int32)) + ((2 : Int32) * x2)).toNatClampNeg).toInt = 2 → Wb rod d B_Model_entry 108 [some (.inr (.inr (.inl (some 84)))), u1, some (.inl x2), u3, u4] [] h Q) : Wb rod d B_Model_entry 89 [some (.inr (.inr (.inl (some 84)))), u1, some (.inl x2), u3, u4] [] h Q := by
  refine Wb.br (fun _ _ => b_Model_entry_89 (Lay.o84 L) (Lay.a84_0 L (by first | exact g0 | (simp only [Option.getD_some, (Lay.r84_0 L)]; exact g0)))) (fun c => ?_) (fun c => ?_)
  · have c : (decide ((h.1 85 (((h.1 84 38) + (1 : Int32)) + ((2 : Int32) * x2)).toNatClampNeg) = (2 : Int32))) = true := by first | exact c | (simp only [Option.getD_some, (Lay.r84_0 L)] at c; exact c)
    (first | exact (k1 (c_eqt c)) | (simp only [Option.getD_some, (Lay.r84_0 L)]; exact (k1 (c_eqt c))))
  · have c : (decide ((h.1 85 (((h.1 84 38) + (1 : Int32)) + ((2 : Int32) * x2)).toNatClampNeg) = (2 : Int32))) = false := by first | exact c | (simp only [Option.getD_some, (Lay.r84_0 L)] at c; exact c)
    (first | exact (k2 (c_eqf c)) | (simp only [Option.getD_some, (Lay.r84_0 L)]; exact (k2 (c_eqf c))))
theorem w_Model_entry_108 {rod : Nat → Nat × (Nat → Int32)} {d : Nat} {Q : Option MV → MH → Prop} {u0 : Option MV} {u1 : Option MV} {u2 : Option MV} {u3 : Option MV} {u4 : Option MV} {h : MH}   (q : Q (some (.inl (-1 : Int32))) h) : Wb rod d B_Model_entry 108 [u0, u1, u2, u3, u4] [] h Q := by
  refine Wb.ret (b_Model_entry_108) ?_
  (first | exact q | (simp only [Option.getD_some]; exact q))
theorem w_Model_entry_110 {rod : Nat → Nat × (Nat → Int32)} {d : Nat} {Q : Option MV → MH → Prop} {u1 : Option MV} {u2 : Option MV} {u3 : Option MV} {u4 : Option MV} {h : MH} (L : Lay h.2)  {Q1 : Option MV → MH → Prop} (c : Wc rod d 276 [.inr (.inr (.inl (some 84)))] h Q1) (k : ∀ r1 h2, Q1 r1 h2 → Wb rod d B_Model_entry 114 [some (.inr (.inr (.inl (some 84)))), u1, u2, u3, u4] (r1.toList ++ []) h2 Q) : Wb rod d B_Model_entry 110 [some (.inr (.inr (.inl (some 84)))), u1, u2, u3, u4] [] h Q := by
  refine Wb.call (fun _ _ _ _ => b_Model_entry_110 (Lay.o84 L)) (Q1 := Q1) ?_ ?_
  · (first | exact c | (simp only [Option.getD_some]; exact c))
  · (first | exact k | (simp only [Option.getD_some]; exact k))
theorem w_Model_entry_114 {rod : Nat → Nat × (Nat → Int32)} {d : Nat} {Q : Option MV → MH → Prop} {u0 : Option MV} {u1 : Option MV} {u2 : Option MV} {u3 : Option MV} {u4 : Option MV} {h : MH}  (g0 : okl [u0, u1, u2, u3, u4] 4 = true) (k : Wb rod d B_Model_entry 117 [u0, u1, u2, u3, some (.inl (0 : Int32))] [] h Q) : Wb rod d B_Model_entry 114 [u0, u1, u2, u3, u4] [] h Q := by
  refine Wb.go (fun r hr q => b_Model_entry_114 g0 ?_) k
  (first | exact q | (simp only [Option.getD_some]; exact q))
theorem w_Model_entry_117 {rod : Nat → Nat × (Nat → Int32)} {d : Nat} {Q : Option MV → MH → Prop} {u0 : Option MV} {u1 : Option MV} {x2 : Int32} {u3 : Option MV} {x4 : Int32} {h : MH}   (k1 : x2.toInt < x4.toInt → Wb rod d B_Model_entry 135 [u0, u1, some (.inl x2), u3, some (.inl x4)] [] h Q) (k2 : ¬ x2.toInt < x4.toInt → Wb rod d B_Model_entry 123 [u0, u1, some (.inl x2), u3, some (.inl x4)] [] h Q) : Wb rod d B_Model_entry 117 [u0, u1, some (.inl x2), u3, some (.inl x4)] [] h Q := by
  refine Wb.br (fun _ _ => b_Model_entry_117) (fun c => ?_) (fun c => ?_)
  · have c : (decide (x2 < x4)) = true := by first | exact c | (simp only [Option.getD_some] at c; exact c)
    (first | exact (k1 (c_ltt c)) | (simp only [Option.getD_some]; exact (k1 (c_ltt c))))
  · have c : (decide (x2 < x4)) = false := by first | exact c | (simp only [Option.getD_some] at c; exact c)
    (first | exact (k2 (c_ltf c)) | (simp only [Option.getD_some]; exact (k2 (c_ltf c))))
theorem w_Model_entry_123 {rod : Nat → Nat × (Nat → Int32)} {d : Nat} {Q : Option MV → MH → Prop} {u1 : Option MV} {u2 : Option MV} {u3 : Option MV} {x4 : Int32} {h : MH} (L : Lay h.2)  {Q1 : Option MV → MH → Prop} (c : Wc rod d 277 [.inr (.inr (.inl (some 84))), .inl x4] h Q1) (k : ∀ r1 h2, Q1 r1 h2 → Wb rod d B_Model_entry 129 [some (.inr (.inr (.inl (some 84)))), u1, u2, u3, some (.inl x4)] (r1.toList ++ []) h2 Q) : Wb rod d B_Model_entry 123 [some (.inr (.inr (.inl (some 84)))), u1, u2, u3, some (.inl x4)] [] h Q := by
  refine Wb.call (fun _ _ _ _ => b_Model_entry_123 (Lay.o84 L)) (Q1 := Q1) ?_ ?_
  · (first | exact c | (simp only [Option.getD_some]; exact c))
  · (first | exact k | (simp only [Option.getD_some]; exact k))
theorem w_Model_entry_129 {rod : Nat → Nat × (Nat → Int32)} {d : Nat} {Q : Option MV → MH → Prop} {u0 : Option MV} {u1 : Option MV} {u2 : Option MV} {u3 : Option MV} {x4 : Int32} {h : MH}  (g0 : okl [u0, u1, u2, u3, some (.inl x4)] 4 = true) (k : Wb rod d B_Model_entry 117 [u0, u1, u2, u3, some (.inl (x4 + 1))] [] h Q) : Wb rod d B_Model_entry 129 [u0, u1, u2, u3, some (.inl x4)] [] h Q := by
  refine Wb.go (fun r hr q => b_Model_entry_129 g0 ?_) k
  (first | exact q | (simp only [Option.getD_some]; exact q))
theorem w_Model_entry_135 {rod : Nat → Nat × (Nat → Int32)} {d : Nat} {Q : Option MV → MH → Prop} {u0 : Option MV} {u1 : Option MV} {u2 : Option MV} {x3 : Int32} {u4 : Option MV} {h : MH}   (k1 : ¬ x3.toInt = 2 → Wb rod d B_Model_entry 158 [u0, u1, u2, some (.inl x3), u4] [] h Q) (k2 : x3.toInt = 2 → Wb rod d B_Model_entry 140 [u0, u1, u2, some (.inl x3), u4] [] h Q) : Wb rod d B_Model_entry 135 [u0, u1, u2, some (.inl x3), u4] [] h Q := by
  refine Wb.br (fun _ _ => b_Model_entry_135) (fun c => ?_) (fun c => ?_)
  · have c : (!(decide (x3 = (2 : Int32)))) = true := by first | exact c | (simp only [Option.getD_some] at c; exact c)
    (first | exact (k1 (c_net c)) | (simp only [Option.getD_some]; exact (k1 (c_net c))))
  · have c : (!(decide (x3 = (2 : Int32)))) = false := by first | exact c | (simp only [Option.getD_some] at c; exact c)
    (first | exact (k2 (c_nef c)) | (simp only [Option.getD_some]; exact (k2 (c_nef c))))
theorem w_Model_entry_140 {rod : Nat → Nat × (Nat → Int32)} {d : Nat} {Q : Option MV → MH → Prop} {u1 : Option MV} {u2 : Option MV} {u3 : Option MV} {u4 : Option MV} {h : MH} (L : Lay h.2)  (k1 : (h.1 84 41).toInt ≤ 0 → Wb rod d B_Model_entry 154 [some (.inr (.inr (.inl (some 84)))), u1, u2, u3, u4] [] h Q) (k2 : ¬ (h.1 84 41).toInt ≤ 0 → Wb rod d B_Model_entry 147 [some (.inr (.inr (.inl (some 84)))), u1, u2, u3, u4] [] h Q) : Wb rod d B_Model_entry 140 [some (.inr (.inr (.inl (some 84)))), u1, u2, u3, u4] [] h Q := by
  refine Wb.br (fun _ _ => b_Model_entry_140 (Lay.o84 L)) (fun c => ?_) (fun c => ?_)
  · have c : (decide ((h.1 84 41) ≤ 0)) = true := by first | exact c | (simp only [Option.getD_some] at c; exact c)
    (first | exact (k1 (c_let c)) | (simp only [Option.getD_some]; exact (k1 (c_let c))))
  · have c : (decide ((h.1 84 41) ≤ 0)) = false := by first | exact c | (simp only [Option.getD_some] at c; exact c)
    (first | exact (k2 (c_lef c)) | (simp only [Option.getD_some]; exact (k2 (c_lef c))))
theorem w_Model_entry_147 {rod : Nat → Nat × (Nat → Int32)} {d : Nat} {Q : Option MV → MH → Prop} {u1 : Option MV} {u2 : Option MV} {u3 : Option MV} {u4 : Option MV} {h : MH} (L : Lay h.2)  (k : Wb rod d B_Model_entry 174 [some (.inr (.inr (.inl (some 84)))), u1, u2, u3, u4] [.inl (h.1 84 41)] h Q) : Wb rod d B_Model_entry 147 [some (.inr (.inr (.inl (some 84)))), u1, u2, u3, u4] [] h Q := by
  refine Wb.go (fun r hr q => b_Model_entry_147 (Lay.o84 L) ?_) k
  (first | exact q | (simp only [Option.getD_some]; exact q))
theorem w_Model_entry_154 {rod : Nat → Nat × (Nat → Int32)} {d : Nat} {Q : Option MV → MH → Prop} {u0 : Option MV} {u1 : Option MV} {u2 : Option MV} {u3 : Option MV} {u4 : Option MV} {h : MH}   (k : Wb rod d B_Model_entry 174 [u0, u1, u2, u3, u4] [.inl (0 : Int32)] h Q) : Wb rod d B_Model_entry 154 [u0, u1, u2, u3, u4] [] h Q := by
  refine Wb.go (fun r hr q => b_Model_entry_154 ?_) k
  (first | exact q | (simp only [Option.getD_some]; exact q))
theorem w_Model_entry_158 {rod : Nat → Nat × (Nat → Int32)} {d : Nat} {Q : Option MV → MH → Prop} {u1 : Option MV} {u2 : Option MV} {u3 : Option MV} {u4 : Option MV} {h : MH} (L : Lay h.2)  (k1 : 0 ≤ (h.1 84 41).toInt → Wb rod d B_Model_entry 173 [some (.inr (.inr (.inl (some 84)))), u1, u2, u3, u4] [] h Q) (k2 : ¬ 0 ≤ (h.1 84 41).toInt → Wb rod d B_Model_entry 165 [some (.inr (.inr (.inl (some 84)))), u1, u2, u3, u4] [] h Q) : Wb rod d B_Model_entry 158 [some (.inr (.inr (.inl (some 84)))), u1, u2, u3, u4] [] h Q := by
  refine Wb.br (fun _ _ => b_Model_entry_158 (Lay.o84 L)) (fun c => ?_) (fun c => ?_)
  · have c : (decide (0 ≤ (h.1 84 41))) = true := by first | exact c | (simp only [Option.getD_some] at c; exact c)
    (first | exact (k1 (c_let c)) | (simp only [Option.getD_some]; exact (k1 (c_let c))))
  · have c : (decide (0 ≤ (h.1 84 41))) = false := by first | exact c | (simp only [Option.getD_some] at c; exact c)
    (first | exact (k2 (c_lef c)) | (simp only [Option.getD_some]; exact (k2 (c_lef c))))
theorem w_Model_entry_165 {rod : Nat → Nat × (Nat → Int32)} {d : Nat} {Q : Option MV → MH → Prop} {u1 : Option MV} {u2 : Option MV} {u3 : Option MV} {u4 : Option MV} {h : MH} (L : Lay h.2)  (k : Wb rod d B_Model_entry 174 [some (.inr (.inr (.inl (some 84)))), u1, u2, u3, u4] [.inl (-(h.1 84 41))] h Q) : Wb rod d B_Model_entry 165 [some (.inr (.inr (.inl (some 84)))), u1, u2, u3, u4] [] h Q := by
  refine Wb.go (fun r hr q => b_Model_entry_165 (Lay.o84 L) ?_) k
  (first | exact q | (simp only [Option.getD_some]; exact q))
theorem w_Model_entry_173 {rod : Nat → Nat × (Nat → Int32)} {d : Nat} {Q : Option MV → MH → Prop} {u0 : Option MV} {u1 : Option MV} {u2 : Option MV} {u3 : Option MV} {u4 : Option MV} {h : MH}   (k : Wb rod d B_Model_entry 174 [u0, u1, u2, u3, u4] [.inl (0 : Int32)] h Q) : Wb rod d B_Model_entry 173 [u0, u1, u2, u3, u4] [] h Q := by
  refine Wb.go (fun r hr q => b_Model_entry_173 ?_) k
  (first | exact q | (simp only [Option.getD_some]; exact q))
theorem w_Model_entry_174 {rod : Nat → Nat × (Nat → Int32)} {d : Nat} {Q : Option MV → MH → Prop} {u0 : Option MV} {u1 : Option MV} {u2 : Option MV} {u3 : Option MV} {u4 : Option MV} {xs0 : Int32} {h : MH}   (q : Q (some (.inl xs0)) h) : Wb rod d B_Model_entry 174 [u0, u1, u2, u3, u4] [.inl xs0] h Q := by
  refine Wb.ret (b_Model_entry_174) ?_
  (first | exact q | (simp only [Option.getD_some]; exact q))
theorem n_Model_isLedger {rod : Nat → Nat × (Nat → Int32)} {d : Nat} {Q : Option MV → MH → Prop} {x1 : Int32} {h : MH} (k : Wb rod d B_Model_isLedger 0 [some (.inr (.inr (.inl (some 84)))), some (.inl x1)] [] h Q) : Wc rod (d + 1) 275 [.inr (.inr (.inl (some 84))), .inl x1] h Q := Wc.en (fun _ _ => e_Model_isLedger) k
theorem w_Model_isLedger_0 {rod : Nat → Nat × (Nat → Int32)} {d : Nat} {Q : Option MV → MH → Prop} {x1 : Int32} {h : MH} (L : Lay h.2)  {Q1 : Option MV → MH → Prop} (c : Wc rod d 194 [.inr (.inr (.inl (some 84))), .inl (2 : Int32), .inl x1] h Q1) (k : ∀ r1 h2, Q1 r1 h2 → Wb rod d B_Model_isLedger 6 [some (.inr (.inr (.inl (some 84)))), some (.inl x1)] (r1.toList ++ []) h2 Q) : Wb rod d B_Model_isLedger 0 [some (.inr (.inr (.inl (some 84)))), some (.inl x1)] [] h Q := by
  refine Wb.call (fun _ _ _ _ => b_Model_isLedger_0 (Lay.o84 L)) (Q1 := Q1) ?_ ?_
  · (first | exact c | (simp only [Option.getD_some]; exact c))
  · (first | exact k | (simp only [Option.getD_some]; exact k))
theorem w_Model_isLedger_6 {rod : Nat → Nat × (Nat → Int32)} {d : Nat} {Q : Option MV → MH → Prop} {u0 : Option MV} {u1 : Option MV} {xs0 : Int32} {h : MH}   (k1 : ¬ xs0.toInt = 0 → Wb rod d B_Model_isLedger 11 [u0, u1] [] h Q) (k2 : xs0.toInt = 0 → Wb rod d B_Model_isLedger 9 [u0, u1] [] h Q) : Wb rod d B_Model_isLedger 6 [u0, u1] [.inl xs0] h Q := by
  refine Wb.br (fun _ _ => b_Model_isLedger_6) (fun c => ?_) (fun c => ?_)
  · have c : (!(decide (xs0 = 0))) = true := by first | exact c | (simp only [Option.getD_some] at c; exact c)
    (first | exact (k1 (c_net c)) | (simp only [Option.getD_some]; exact (k1 (c_net c))))
  · have c : (!(decide (xs0 = 0))) = false := by first | exact c | (simp only [Option.getD_some] at c; exact c)
    (first | exact (k2 (c_nef c)) | (simp only [Option.getD_some]; exact (k2 (c_nef c))))
theorem w_Model_isLedger_9 {rod : Nat → Nat × (Nat → Int32)} {d : Nat} {Q : Option MV → MH → Prop} {u0 : Option MV} {u1 : Option MV} {h : MH}   (q : Q (some (.inl (0 : Int32))) h) : Wb rod d B_Model_isLedger 9 [u0, u1] [] h Q := by
  refine Wb.ret (b_Model_isLedger_9) ?_
  (first | exact q | (simp only [Option.getD_some]; exact q))
theorem w_Model_isLedger_11 {rod : Nat → Nat × (Nat → Int32)} {d : Nat} {Q : Option MV → MH → Prop} {x1 : Int32} {h : MH}   {Q1 : Option MV → MH → Prop} (c : Wc rod d 216 [.inl (2 : Int32), .inl x1] h Q1) (k : ∀ r1 h2, Q1 r1 h2 → Wb rod d B_Model_isLedger 17 [some (.inr (.inr (.inl (some 84)))), some (.inl x1)] (r1.toList ++ [.inr (.inr (.inl (some 84)))]) h2 Q) : Wb rod d B_Model_isLedger 11 [some (.inr (.inr (.inl (some 84)))), some (.inl x1)] [] h Q := by
  refine Wb.call (fun _ _ _ _ => b_Model_isLedger_11) (Q1 := Q1) ?_ ?_
  · (first | exact c | (simp only [Option.getD_some]; exact c))
  · (first | exact k | (simp only [Option.getD_some]; exact k))
theorem w_Model_isLedger_17 {rod : Nat → Nat × (Nat → Int32)} {d : Nat} {Q : Option MV → MH → Prop} {u0 : Option MV} {u1 : Option MV} {xs1 : Int32} {h : MH} (L : Lay h.2)  (k : Wb rod d B_Model_isLedger 20 [u0, u1] [] (sI h 84 38 xs1) Q) : Wb rod d B_Model_isLedger 17 [u0, u1] [.inl xs1, .inr (.inr (.inl (some 84)))] h Q := by
  refine Wb.go (fun r hr q => b_Model_isLedger_17 (Lay.o84 L) ?_) k
  (first | exact q | (simp only [Option.getD_some]; exact q))
theorem w_Model_isLedger_20 {rod : Nat → Nat × (Nat → Int32)} {d : Nat} {Q : Option MV → MH → Prop} {u0 : Option MV} {u1 : Option MV} {h : MH}   (q : Q (some (.inl (1 : Int32))) h) : Wb rod d B_Model_isLedger 20 [u0, u1] [] h Q := by
  refine Wb.ret (b_Model_isLedger_20) ?_
  (first | exact q | (simp only [Option.getD_some]; exact q))
theorem n_Model_opens {rod : Nat → Nat × (Nat → Int32)} {d : Nat} {Q : Option MV → MH → Prop}  {h : MH} (k : Wb rod d B_Model_opens 0 [some (.inr (.inr (.inl (some 84))))] [] h Q) : Wc rod (d + 1) 276 [.inr (.inr (.inl (some 84)))] h Q := Wc.en (fun _ _ => e_Model_opens) k
theorem w_Model_opens_0 {rod : Nat → Nat × (Nat → Int32)} {d : Nat} {Q : Option MV → MH → Prop}  {h : MH} (L : Lay h.2)  (k : Wb rod d B_Model_opens 5 [some (.inr (.inr (.inl (some 84))))] [] (sI h 84 39 (0 : Int32)) Q) : Wb rod d B_Model_opens 0 [some (.inr (.inr (.inl (some 84))))] [] h Q := by
  refine Wb.go (fun r hr q => b_Model_opens_0 (Lay.o84 L) ?_) k
  (first | exact q | (simp only [Option.getD_some]; exact q))
theorem w_Model_opens_5 {rod : Nat → Nat × (Nat → Int32)} {d : Nat} {Q : Option MV → MH → Prop}  {h : MH} (L : Lay h.2)  (k : Wb rod d B_Model_opens 10 [some (.inr (.inr (.inl (some 84))))] [] (sI h 84 40 (0 : Int32)) Q) : Wb rod d B_Model_opens 5 [some (.inr (.inr (.inl (some 84))))] [] h Q := by
  refine Wb.go (fun r hr q => b_Model_opens_5 (Lay.o84 L) ?_) k
  (first | exact q | (simp only [Option.getD_some]; exact q))
theorem w_Model_opens_10 {rod : Nat → Nat × (Nat → Int32)} {d : Nat} {Q : Option MV → MH → Prop}  {h : MH} (L : Lay h.2)  (k : Wb rod d B_Model_opens 15 [some (.inr (.inr (.inl (some 84))))] [] (sI h 84 41 (0 : Int32)) Q) : Wb rod d B_Model_opens 10 [some (.inr (.inr (.inl (some 84))))] [] h Q := by
  refine Wb.go (fun r hr q => b_Model_opens_10 (Lay.o84 L) ?_) k
  (first | exact q | (simp only [Option.getD_some]; exact q))
theorem w_Model_opens_15 {rod : Nat → Nat × (Nat → Int32)} {d : Nat} {Q : Option MV → MH → Prop} {u0 : Option MV} {h : MH}   (q : Q (none) h) : Wb rod d B_Model_opens 15 [u0] [] h Q := by
  refine Wb.ret (b_Model_opens_15) ?_
  (first | exact q | (simp only [Option.getD_some]; exact q))
theorem n_Model_enters {rod : Nat → Nat × (Nat → Int32)} {d : Nat} {Q : Option MV → MH → Prop} {x1 : Int32} {h : MH} (k : Wb rod d B_Model_enters 0 [some (.inr (.inr (.inl (some 84)))), some (.inl x1), none, none] [] h Q) : Wc rod (d + 1) 277 [.inr (.inr (.inl (some 84))), .inl x1] h Q := Wc.en (fun _ _ => e_Model_enters) k
theorem w_Model_enters_0 {rod : Nat → Nat × (Nat → Int32)} {d : Nat} {Q : Option MV → MH → Prop} {x1 : Int32} {u2 : Option MV} {u3 : Option MV} {h : MH} (L : Lay h.2) (g0 : 0 ≤ (((h.1 84 38) + (1 : Int32)) + ((2 : Int32) * x1)).toInt ∧ (((h.1 84 38) + (1 : Int32)) + ((2 : Int32) * x1)).toInt < 4584) (g1 : 0 ≤ (((h.1 84 38) + (2 : Int32)) + ((2 : Int32) * x1)).toInt ∧ (((h.1 84 38) + (2 : Int32)) + ((2 : Int32) * x1)).toInt < 4584) (k1 : x1.toInt ≤ 0 → Wb rod d B_Model_enters 60 [some (.inr (.inr (.inl (some 84)))), some (.inl x1), some (.inl (h.1 85 (((h.1 84 38) + (1 : Int32)) + ((2 : Int32) * x1)).toNatClampNeg)), some (.inl (h.1 85 (((h.1 84 38) + (2 : Int32)) + ((2 : Int32) * x1)).toNatClampNeg))] [] h Q) (k2 : ¬ x1.toInt ≤ 0 → Wb rod d B_Model_enters 36 [some (.inr (.inr (.inl (some 84)))), some (.inl x1), some (.inl (h.1 85 (((h.1 84 38) + (1 : Int32)) + ((2 : Int32) * x1)).toNatClampNeg)), some (.inl (h.1 85 (((h.1 84 38) + (2 : Int32)) + ((2 : Int32) * x1)).toNatClampNeg))] [] h Q) : Wb rod d B_Model_enters 0 [some (.inr (.inr (.inl (some 84)))), some (.inl x1), u2, u3] [] h Q := by
  refine Wb.br (fun _ _ => b_Model_enters_0 (Lay.o84 L) (Lay.a84_0 L (by first | exact g0 | (simp only [Option.getD_some, (Lay.r84_0 L)]; exact g0))) (Lay.a84_0 L (by first | exact g1 | (simp only [Option.getD_some, (Lay.r84_0 L)]; exact g1)))) (fun c => ?_) (fun c => ?_)
  · have c : (decide (x1 ≤ 0)) = true := by first | exact c | (simp only [Option.getD_some, (Lay.r84_0 L)] at c; exact c)
    (first | exact (k1 (c_let c)) | (simp only [Option.getD_some, (Lay.r84_0 L)]; exact (k1 (c_let c))))
  · have c : (decide (x1 ≤ 0)) = false := by first | exact c | (simp only [Option.getD_some, (Lay.r84_0 L)] at c; exact c)
    (first | exact (k2 (c_lef c)) | (simp only [Option.getD_some, (Lay.r84_0 L)]; exact (k2 (c_lef c))))
theorem w_Model_enters_36 {rod : Nat → Nat × (Nat → Int32)} {d : Nat} {Q : Option MV → MH → Prop} {x1 : Int32} {u2 : Option MV} {u3 : Option MV} {h : MH} (L : Lay h.2) (g0 : 0 ≤ (((h.1 84 38) + ((2 : Int32) * x1)) - (1 : Int32)).toInt ∧ (((h.1 84 38) + ((2 : Int32) * x1)) - (1 : Int32)).toInt < 4584) (k1 : ¬ (h.1 85 (((h.1 84 38) + ((2 : Int32) * x1)) - (1 : Int32)).toNatClampNeg).toInt = 2 → Wb rod d B_Model_enters 60 [some (.inr (.inr (.inl (some 84)))), some (.inl x1), u2, u3] [] h Q) (k2 : (h.1 85 (((h.1 84 38) + ((2 : Int32) * x1)) - (1 : Int32)).toNatClampNeg).toInt = 2 → Wb rod d B_Model_enters 55 [some (.inr (.inr (.inl (some 84)))), some (.inl x1), u2, u3] [] h Q) : Wb rod d B_Model_enters 36 [some (.inr (.inr (.inl (some 84)))), some (.inl x1), u2, u3] [] h Q := by
  refine Wb.br (fun _ _ => b_Model_enters_36 (Lay.o84 L) (Lay.a84_0 L (by first | exact g0 | (simp only [Option.getD_some, (Lay.r84_0 L)]; exact g0)))) (fun c => ?_) (fun c => ?_)
  · have c : (!(decide ((h.1 85 (((h.1 84 38) + ((2 : Int32) * x1)) - (1 : Int32)).toNatClampNeg) = (2 : Int32)))) = true := by first | exact c | (simp only [Option.getD_some, (Lay.r84_0 L)] at c; exact c)
    (first | exact (k1 (c_net c)) | (simp only [Option.getD_some, (Lay.r84_0 L)]; exact (k1 (c_net c))))
  · have c : (!(decide ((h.1 85 (((h.1 84 38) + ((2 : Int32) * x1)) - (1 : Int32)).toNatClampNeg) = (2 : Int32)))) = false := by first | exact c | (simp only [Option.getD_some, (Lay.r84_0 L)] at c; exact c)
    (first | exact (k2 (c_nef c)) | (simp only [Option.getD_some, (Lay.r84_0 L)]; exact (k2 (c_nef c))))
theorem w_Model_enters_55 {rod : Nat → Nat × (Nat → Int32)} {d : Nat} {Q : Option MV → MH → Prop} {u1 : Option MV} {u2 : Option MV} {u3 : Option MV} {h : MH} (L : Lay h.2)  (k : Wb rod d B_Model_enters 60 [some (.inr (.inr (.inl (some 84)))), u1, u2, u3] [] (sI h 84 40 (0 : Int32)) Q) : Wb rod d B_Model_enters 55 [some (.inr (.inr (.inl (some 84)))), u1, u2, u3] [] h Q := by
  refine Wb.go (fun r hr q => b_Model_enters_55 (Lay.o84 L) ?_) k
  (first | exact q | (simp only [Option.getD_some]; exact q))
theorem w_Model_enters_60 {rod : Nat → Nat × (Nat → Int32)} {d : Nat} {Q : Option MV → MH → Prop} {u0 : Option MV} {u1 : Option MV} {x2 : Int32} {u3 : Option MV} {h : MH}   (k0 : x2.toInt = 0 → Wb rod d B_Model_enters 88 [u0, u1, some (.inl x2), u3] [] h Q) (k1 : x2.toInt = 1 → Wb rod d B_Model_enters 101 [u0, u1, some (.inl x2), u3] [] h Q) (k2 : x2.toInt = 2 → Wb rod d B_Model_enters 114 [u0, u1, some (.inl x2), u3] [] h Q) (kd : x2.toInt ≠ 0 → x2.toInt ≠ 1 → x2.toInt ≠ 2 → Wb rod d B_Model_enters 132 [u0, u1, some (.inl x2), u3] [] h Q) : Wb rod d B_Model_enters 60 [u0, u1, some (.inl x2), u3] [] h Q := by
  have key : Wb rod d B_Model_enters (tabT [27, 40, 53] 0 x2 61 132) [u0, u1, some (.inl x2), u3] [] h Q := by
    by_cases e0 : x2 = Int32.ofInt 0
    · rw [show tabT [27, 40, 53] 0 x2 61 132 = 88 from by rw [e0]; rfl]
      exact k0 (by rw [e0]; rfl)
    by_cases e1 : x2 = Int32.ofInt 1
    · rw [show tabT [27, 40, 53] 0 x2 61 132 = 101 from by rw [e1]; rfl]
      exact k1 (by rw [e1]; rfl)
    by_cases e2 : x2 = Int32.ofInt 2
    · rw [show tabT [27, 40, 53] 0 x2 61 132 = 114 from by rw [e2]; rfl]
      exact k2 (by rw [e2]; rfl)
    rw [show tabT [27, 40, 53] 0 x2 61 132 = 132 from (if_neg e0).trans ((if_neg e1).trans ((if_neg e2).trans (rfl)))]
    exact kd (fun q => e0 (Int32.toInt_inj.mp q)) (fun q => e1 (Int32.toInt_inj.mp q)) (fun q => e2 (Int32.toInt_inj.mp q))
  refine Wb.go (fun r hr q => b_Model_enters_60 ?_) key
  (first | exact q | (simp only [Option.getD_some]; exact q))
theorem w_Model_enters_88 {rod : Nat → Nat × (Nat → Int32)} {d : Nat} {Q : Option MV → MH → Prop} {u1 : Option MV} {u2 : Option MV} {x3 : Int32} {h : MH} (L : Lay h.2)  (k : Wb rod d B_Model_enters 98 [some (.inr (.inr (.inl (some 84)))), u1, u2, some (.inl x3)] [] (sI h 84 39 ((h.1 84 39) + x3)) Q) : Wb rod d B_Model_enters 88 [some (.inr (.inr (.inl (some 84)))), u1, u2, some (.inl x3)] [] h Q := by
  refine Wb.go (fun r hr q => b_Model_enters_88 (Lay.o84 L) ?_) k
  (first | exact q | (simp only [Option.getD_some]; exact q))
theorem w_Model_enters_98 {rod : Nat → Nat × (Nat → Int32)} {d : Nat} {Q : Option MV → MH → Prop} {u0 : Option MV} {u1 : Option MV} {u2 : Option MV} {u3 : Option MV} {h : MH}   (k : Wb rod d B_Model_enters 144 [u0, u1, u2, u3] [] h Q) : Wb rod d B_Model_enters 98 [u0, u1, u2, u3] [] h Q := by
  refine Wb.go (fun r hr q => b_Model_enters_98 ?_) k
  (first | exact q | (simp only [Option.getD_some]; exact q))
theorem w_Model_enters_101 {rod : Nat → Nat × (Nat → Int32)} {d : Nat} {Q : Option MV → MH → Prop} {u1 : Option MV} {u2 : Option MV} {x3 : Int32} {h : MH} (L : Lay h.2)  (k : Wb rod d B_Model_enters 111 [some (.inr (.inr (.inl (some 84)))), u1, u2, some (.inl x3)] [] (sI h 84 39 ((h.1 84 39) - x3)) Q) : Wb rod d B_Model_enters 101 [some (.inr (.inr (.inl (some 84)))), u1, u2, some (.inl x3)] [] h Q := by
  refine Wb.go (fun r hr q => b_Model_enters_101 (Lay.o84 L) ?_) k
  (first | exact q | (simp only [Option.getD_some]; exact q))
theorem w_Model_enters_111 {rod : Nat → Nat × (Nat → Int32)} {d : Nat} {Q : Option MV → MH → Prop} {u0 : Option MV} {u1 : Option MV} {u2 : Option MV} {u3 : Option MV} {h : MH}   (k : Wb rod d B_Model_enters 144 [u0, u1, u2, u3] [] h Q) : Wb rod d B_Model_enters 111 [u0, u1, u2, u3] [] h Q := by
  refine Wb.go (fun r hr q => b_Model_enters_111 ?_) k
  (first | exact q | (simp only [Option.getD_some]; exact q))
theorem w_Model_enters_114 {rod : Nat → Nat × (Nat → Int32)} {d : Nat} {Q : Option MV → MH → Prop} {u1 : Option MV} {u2 : Option MV} {x3 : Int32} {h : MH} (L : Lay h.2)  (k : Wb rod d B_Model_enters 124 [some (.inr (.inr (.inl (some 84)))), u1, u2, some (.inl x3)] [] (sI h 84 41 ((h.1 84 39) - x3)) Q) : Wb rod d B_Model_enters 114 [some (.inr (.inr (.inl (some 84)))), u1, u2, some (.inl x3)] [] h Q := by
  refine Wb.go (fun r hr q => b_Model_enters_114 (Lay.o84 L) ?_) k
  (first | exact q | (simp only [Option.getD_some]; exact q))
theorem w_Model_enters_124 {rod : Nat → Nat × (Nat → Int32)} {d : Nat} {Q : Option MV → MH → Prop} {u1 : Option MV} {u2 : Option MV} {x3 : Int32} {h : MH} (L : Lay h.2)  (k : Wb rod d B_Model_enters 129 [some (.inr (.inr (.inl (some 84)))), u1, u2, some (.inl x3)] [] (sI h 84 39 x3) Q) : Wb rod d B_Model_enters 124 [some (.inr (.inr (.inl (some 84)))), u1, u2, some (.inl x3)] [] h Q := by
  refine Wb.go (fun r hr q => b_Model_enters_124 (Lay.o84 L) ?_) k
  (first | exact q | (simp only [Option.getD_some]; exact q))
theorem w_Model_enters_129 {rod : Nat → Nat × (Nat → Int32)} {d : Nat} {Q : Option MV → MH → Prop} {u0 : Option MV} {u1 : Option MV} {u2 : Option MV} {u3 : Option MV} {h : MH}   (k : Wb rod d B_Model_enters 144 [u0, u1, u2, u3] [] h Q) : Wb rod d B_Model_enters 129 [u0, u1, u2, u3] [] h Q := by
  refine Wb.go (fun r hr q => b_Model_enters_129 ?_) k
  (first | exact q | (simp only [Option.getD_some]; exact q))
theorem w_Model_enters_132 {rod : Nat → Nat × (Nat → Int32)} {d : Nat} {Q : Option MV → MH → Prop} {u1 : Option MV} {u2 : Option MV} {x3 : Int32} {h : MH} (L : Lay h.2)  (k : Wb rod d B_Model_enters 144 [some (.inr (.inr (.inl (some 84)))), u1, u2, some (.inl x3)] [] (sI h 84 40 ((h.1 84 40) ||| ((1 : Int32) <<< (x3 &&& 31)))) Q) : Wb rod d B_Model_enters 132 [some (.inr (.inr (.inl (some 84)))), u1, u2, some (.inl x3)] [] h Q := by
  refine Wb.go (fun r hr q => b_Model_enters_132 (Lay.o84 L) ?_) k
  (first | exact q | (simp only [Option.getD_some]; exact q))
theorem w_Model_enters_144 {rod : Nat → Nat × (Nat → Int32)} {d : Nat} {Q : Option MV → MH → Prop} {u0 : Option MV} {u1 : Option MV} {u2 : Option MV} {u3 : Option MV} {h : MH}   (q : Q (none) h) : Wb rod d B_Model_enters 144 [u0, u1, u2, u3] [] h Q := by
  refine Wb.ret (b_Model_enters_144) ?_
  (first | exact q | (simp only [Option.getD_some]; exact q))
theorem n_Model_thieves {rod : Nat → Nat × (Nat → Int32)} {d : Nat} {Q : Option MV → MH → Prop} {x1 : Int32} {x2 : Int32} {h : MH} (k : Wb rod d B_Model_thieves 0 [some (.inr (.inr (.inl (some 84)))), some (.inl x1), some (.inl x2), none, none, none, none] [] h Q) : Wc rod (d + 1) 278 [.inr (.inr (.inl (some 84))), .inl x1, .inl x2] h Q := Wc.en (fun _ _ => e_Model_thieves) k
theorem w_Model_thieves_0 {rod : Nat → Nat × (Nat → Int32)} {d : Nat} {Q : Option MV → MH → Prop} {x1 : Int32} {u2 : Option MV} {u3 : Option MV} {u4 : Option MV} {u5 : Option MV} {u6 : Option MV} {h : MH} (L : Lay h.2)  {Q1 : Option MV → MH → Prop} (c : Wc rod d 275 [.inr (.inr (.inl (some 84))), .inl x1] h Q1) (k : ∀ r1 h2, Q1 r1 h2 → Wb rod d B_Model_thieves 5 [some (.inr (.inr (.inl (some 84)))), some (.inl x1), u2, u3, u4, u5, u6] (r1.toList ++ []) h2 Q) : Wb rod d B_Model_thieves 0 [some (.inr (.inr (.inl (some 84)))), some (.inl x1), u2, u3, u4, u5, u6] [] h Q := by
  refine Wb.call (fun _ _ _ _ => b_Model_thieves_0 (Lay.o84 L)) (Q1 := Q1) ?_ ?_
  · (first | exact c | (simp only [Option.getD_some]; exact c))
  · (first | exact k | (simp only [Option.getD_some]; exact k))
theorem w_Model_thieves_5 {rod : Nat → Nat × (Nat → Int32)} {d : Nat} {Q : Option MV → MH → Prop} {u0 : Option MV} {u1 : Option MV} {u2 : Option MV} {u3 : Option MV} {u4 : Option MV} {u5 : Option MV} {u6 : Option MV} {xs0 : Int32} {h : MH}   (k1 : xs0.toInt = 0 → Wb rod d B_Model_thieves 22 [u0, u1, u2, u3, u4, u5, u6] [] h Q) (k2 : ¬ xs0.toInt = 0 → Wb rod d B_Model_thieves 8 [u0, u1, u2, u3, u4, u5, u6] [] h Q) : Wb rod d B_Model_thieves 5 [u0, u1, u2, u3, u4, u5, u6] [.inl xs0] h Q := by
  refine Wb.br (fun _ _ => b_Model_thieves_5) (fun c => ?_) (fun c => ?_)
  · have c : (decide (xs0 = 0)) = true := by first | exact c | (simp only [Option.getD_some] at c; exact c)
    (first | exact (k1 (c_eqt c)) | (simp only [Option.getD_some]; exact (k1 (c_eqt c))))
  · have c : (decide (xs0 = 0)) = false := by first | exact c | (simp only [Option.getD_some] at c; exact c)
    (first | exact (k2 (c_eqf c)) | (simp only [Option.getD_some]; exact (k2 (c_eqf c))))
theorem w_Model_thieves_8 {rod : Nat → Nat × (Nat → Int32)} {d : Nat} {Q : Option MV → MH → Prop} {u0 : Option MV} {u1 : Option MV} {x2 : Int32} {u3 : Option MV} {u4 : Option MV} {u5 : Option MV} {u6 : Option MV} {h : MH}   (k1 : x2.toInt < 0 → Wb rod d B_Model_thieves 22 [u0, u1, some (.inl x2), u3, u4, u5, u6] [] h Q) (k2 : ¬ x2.toInt < 0 → Wb rod d B_Model_thieves 12 [u0, u1, some (.inl x2), u3, u4, u5, u6] [] h Q) : Wb rod d B_Model_thieves 8 [u0, u1, some (.inl x2), u3, u4, u5, u6] [] h Q := by
  refine Wb.br (fun _ _ => b_Model_thieves_8) (fun c => ?_) (fun c => ?_)
  · have c : (decide (x2 < 0)) = true := by first | exact c | (simp only [Option.getD_some] at c; exact c)
    (first | exact (k1 (c_ltt c)) | (simp only [Option.getD_some]; exact (k1 (c_ltt c))))
  · have c : (decide (x2 < 0)) = false := by first | exact c | (simp only [Option.getD_some] at c; exact c)
    (first | exact (k2 (c_ltf c)) | (simp only [Option.getD_some]; exact (k2 (c_ltf c))))
theorem w_Model_thieves_12 {rod : Nat → Nat × (Nat → Int32)} {d : Nat} {Q : Option MV → MH → Prop} {u0 : Option MV} {u1 : Option MV} {x2 : Int32} {u3 : Option MV} {u4 : Option MV} {u5 : Option MV} {u6 : Option MV} {h : MH}   {Q1 : Option MV → MH → Prop} (c : Wc rod d 193 [.inl x2, .inl (3 : Int32), .inl (9 : Int32)] h Q1) (k : ∀ r1 h2, Q1 r1 h2 → Wb rod d B_Model_thieves 19 [u0, u1, some (.inl x2), u3, u4, u5, u6] (r1.toList ++ []) h2 Q) : Wb rod d B_Model_thieves 12 [u0, u1, some (.inl x2), u3, u4, u5, u6] [] h Q := by
  refine Wb.call (fun _ _ _ _ => b_Model_thieves_12) (Q1 := Q1) ?_ ?_
  · (first | exact c | (simp only [Option.getD_some]; exact c))
  · (first | exact k | (simp only [Option.getD_some]; exact k))
theorem w_Model_thieves_19 {rod : Nat → Nat × (Nat → Int32)} {d : Nat} {Q : Option MV → MH → Prop} {u0 : Option MV} {u1 : Option MV} {u2 : Option MV} {u3 : Option MV} {u4 : Option MV} {u5 : Option MV} {u6 : Option MV} {xs0 : Int32} {h : MH}   (k1 : xs0.toInt = 0 → Wb rod d B_Model_thieves 25 [u0, u1, u2, u3, u4, u5, u6] [] h Q) (k2 : ¬ xs0.toInt = 0 → Wb rod d B_Model_thieves 22 [u0, u1, u2, u3, u4, u5, u6] [] h Q) : Wb rod d B_Model_thieves 19 [u0, u1, u2, u3, u4, u5, u6] [.inl xs0] h Q := by
  refine Wb.br (fun _ _ => b_Model_thieves_19) (fun c => ?_) (fun c => ?_)
  · have c : (decide (xs0 = 0)) = true := by first | exact c | (simp only [Option.getD_some] at c; exact c)
    (first | exact (k1 (c_eqt c)) | (simp only [Option.getD_some]; exact (k1 (c_eqt c))))
  · have c : (decide (xs0 = 0)) = false := by first | exact c | (simp only [Option.getD_some] at c; exact c)
    (first | exact (k2 (c_eqf c)) | (simp only [Option.getD_some]; exact (k2 (c_eqf c))))
theorem w_Model_thieves_22 {rod : Nat → Nat × (Nat → Int32)} {d : Nat} {Q : Option MV → MH → Prop} {u0 : Option MV} {u1 : Option MV} {u2 : Option MV} {u3 : Option MV} {u4 : Option MV} {u5 : Option MV} {u6 : Option MV} {h : MH}   (q : Q (some (.inl (-2 : Int32))) h) : Wb rod d B_Model_thieves 22 [u0, u1, u2, u3, u4, u5, u6] [] h Q := by
  refine Wb.ret (b_Model_thieves_22) ?_
  (first | exact q | (simp only [Option.getD_some]; exact q))
theorem w_Model_thieves_25 {rod : Nat → Nat × (Nat → Int32)} {d : Nat} {Q : Option MV → MH → Prop} {u0 : Option MV} {u1 : Option MV} {u2 : Option MV} {u3 : Option MV} {u4 : Option MV} {u5 : Option MV} {u6 : Option MV} {h : MH}  (g0 : okl [u0, u1, u2, u3, u4, u5, u6] 3 = true) (k : Wb rod d B_Model_thieves 38 [u0, u1, u2, some (.inl (0 : Int32)), some (.inl (63 : Int32)), some (.inl (63 : Int32)), some (.inl (0 : Int32))] [] h Q) : Wb rod d B_Model_thieves 25 [u0, u1, u2, u3, u4, u5, u6] [] h Q := by
  refine Wb.go (fun r hr q => b_Model_thieves_25 g0 ?_) k
  (first | exact q | (simp only [Option.getD_some]; exact q))
theorem w_Model_thieves_38 {rod : Nat → Nat × (Nat → Int32)} {d : Nat} {Q : Option MV → MH → Prop} {u0 : Option MV} {u1 : Option MV} {u2 : Option MV} {u3 : Option MV} {u4 : Option MV} {u5 : Option MV} {x6 : Int32} {h : MH}   (k1 : 64 ≤ x6.toInt → Wb rod d B_Model_thieves 99 [u0, u1, u2, u3, u4, u5, some (.inl x6)] [] h Q) (k2 : ¬ 64 ≤ x6.toInt → Wb rod d B_Model_thieves 45 [u0, u1, u2, u3, u4, u5, some (.inl x6)] [] h Q) : Wb rod d B_Model_thieves 38 [u0, u1, u2, u3, u4, u5, some (.inl x6)] [] h Q := by
  refine Wb.br (fun _ _ => b_Model_thieves_38) (fun c => ?_) (fun c => ?_)
  · have c : (decide ((64 : Int32) ≤ x6)) = true := by first | exact c | (simp only [Option.getD_some] at c; exact c)
    (first | exact (k1 (c_let c)) | (simp only [Option.getD_some]; exact (k1 (c_let c))))
  · have c : (decide ((64 : Int32) ≤ x6)) = false := by first | exact c | (simp only [Option.getD_some] at c; exact c)
    (first | exact (k2 (c_lef c)) | (simp only [Option.getD_some]; exact (k2 (c_lef c))))
theorem w_Model_thieves_45 {rod : Nat → Nat × (Nat → Int32)} {d : Nat} {Q : Option MV → MH → Prop} {u1 : Option MV} {u2 : Option MV} {u3 : Option MV} {u4 : Option MV} {u5 : Option MV} {x6 : Int32} {h : MH} (L : Lay h.2)  {Q1 : Option MV → MH → Prop} (c : Wc rod d 279 [.inr (.inr (.inl (some 84))), .inl x6] h Q1) (k : ∀ r1 h2, Q1 r1 h2 → Wb rod d B_Model_thieves 51 [some (.inr (.inr (.inl (some 84)))), u1, u2, u3, u4, u5, some (.inl x6)] (r1.toList ++ []) h2 Q) : Wb rod d B_Model_thieves 45 [some (.inr (.inr (.inl (some 84)))), u1, u2, u3, u4, u5, some (.inl x6)] [] h Q := by
  refine Wb.call (fun _ _ _ _ => b_Model_thieves_45 (Lay.o84 L)) (Q1 := Q1) ?_ ?_
  · (first | exact c | (simp only [Option.getD_some]; exact c))
  · (first | exact k | (simp only [Option.getD_some]; exact k))
theorem w_Model_thieves_51 {rod : Nat → Nat × (Nat → Int32)} {d : Nat} {Q : Option MV → MH → Prop} {u0 : Option MV} {u1 : Option MV} {u2 : Option MV} {u3 : Option MV} {u4 : Option MV} {u5 : Option MV} {u6 : Option MV} {xs0 : Int32} {h : MH}   (k1 : ¬ xs0.toInt = 0 → Wb rod d B_Model_thieves 57 [u0, u1, u2, u3, u4, u5, u6] [] h Q) (k2 : xs0.toInt = 0 → Wb rod d B_Model_thieves 54 [u0, u1, u2, u3, u4, u5, u6] [] h Q) : Wb rod d B_Model_thieves 51 [u0, u1, u2, u3, u4, u5, u6] [.inl xs0] h Q := by
  refine Wb.br (fun _ _ => b_Model_thieves_51) (fun c => ?_) (fun c => ?_)
  · have c : (!(decide (xs0 = 0))) = true := by first | exact c | (simp only [Option.getD_some] at c; exact c)
    (first | exact (k1 (c_net c)) | (simp only [Option.getD_some]; exact (k1 (c_net c))))
  · have c : (!(decide (xs0 = 0))) = false := by first | exact c | (simp only [Option.getD_some] at c; exact c)
    (first | exact (k2 (c_nef c)) | (simp only [Option.getD_some]; exact (k2 (c_nef c))))
theorem w_Model_thieves_54 {rod : Nat → Nat × (Nat → Int32)} {d : Nat} {Q : Option MV → MH → Prop} {u0 : Option MV} {u1 : Option MV} {u2 : Option MV} {u3 : Option MV} {u4 : Option MV} {u5 : Option MV} {u6 : Option MV} {h : MH}   (k : Wb rod d B_Model_thieves 93 [u0, u1, u2, u3, u4, u5, u6] [] h Q) : Wb rod d B_Model_thieves 54 [u0, u1, u2, u3, u4, u5, u6] [] h Q := by
  refine Wb.go (fun r hr q => b_Model_thieves_54 ?_) k
  (first | exact q | (simp only [Option.getD_some]; exact q))
theorem w_Model_thieves_57 {rod : Nat → Nat × (Nat → Int32)} {d : Nat} {Q : Option MV → MH → Prop} {u0 : Option MV} {u1 : Option MV} {x2 : Int32} {u3 : Option MV} {u4 : Option MV} {u5 : Option MV} {u6 : Option MV} {h : MH}   (k1 : x2.toInt < 10 → Wb rod d B_Model_thieves 74 [u0, u1, some (.inl x2), u3, u4, u5, u6] [] h Q) (k2 : ¬ x2.toInt < 10 → Wb rod d B_Model_thieves 63 [u0, u1, some (.inl x2), u3, u4, u5, u6] [] h Q) : Wb rod d B_Model_thieves 57 [u0, u1, some (.inl x2), u3, u4, u5, u6] [] h Q := by
  refine Wb.br (fun _ _ => b_Model_thieves_57) (fun c => ?_) (fun c => ?_)
  · have c : (decide (x2 < (10 : Int32))) = true := by first | exact c | (simp only [Option.getD_some] at c; exact c)
    (first | exact (k1 (c_ltt c)) | (simp only [Option.getD_some]; exact (k1 (c_ltt c))))
  · have c : (decide (x2 < (10 : Int32))) = false := by first | exact c | (simp only [Option.getD_some] at c; exact c)
    (first | exact (k2 (c_ltf c)) | (simp only [Option.getD_some]; exact (k2 (c_ltf c))))
theorem w_Model_thieves_63 {rod : Nat → Nat × (Nat → Int32)} {d : Nat} {Q : Option MV → MH → Prop} {u0 : Option MV} {u1 : Option MV} {x2 : Int32} {x3 : Int32} {u4 : Option MV} {u5 : Option MV} {u6 : Option MV} {h : MH}   (k1 : ¬ x3.toInt = (x2 - (10 : Int32)).toInt → Wb rod d B_Model_thieves 74 [u0, u1, some (.inl x2), some (.inl x3), u4, u5, u6] [] h Q) (k2 : x3.toInt = (x2 - (10 : Int32)).toInt → Wb rod d B_Model_thieves 71 [u0, u1, some (.inl x2), some (.inl x3), u4, u5, u6] [] h Q) : Wb rod d B_Model_thieves 63 [u0, u1, some (.inl x2), some (.inl x3), u4, u5, u6] [] h Q := by
  refine Wb.br (fun _ _ => b_Model_thieves_63) (fun c => ?_) (fun c => ?_)
  · have c : (!(decide (x3 = (x2 - (10 : Int32))))) = true := by first | exact c | (simp only [Option.getD_some] at c; exact c)
    (first | exact (k1 (c_net c)) | (simp only [Option.getD_some]; exact (k1 (c_net c))))
  · have c : (!(decide (x3 = (x2 - (10 : Int32))))) = false := by first | exact c | (simp only [Option.getD_some] at c; exact c)
    (first | exact (k2 (c_nef c)) | (simp only [Option.getD_some]; exact (k2 (c_nef c))))
theorem w_Model_thieves_71 {rod : Nat → Nat × (Nat → Int32)} {d : Nat} {Q : Option MV → MH → Prop} {u0 : Option MV} {u1 : Option MV} {u2 : Option MV} {u3 : Option MV} {u4 : Option MV} {u5 : Option MV} {x6 : Int32} {h : MH}   (q : Q (some (.inl x6)) h) : Wb rod d B_Model_thieves 71 [u0, u1, u2, u3, u4, u5, some (.inl x6)] [] h Q := by
  refine Wb.ret (b_Model_thieves_71) ?_
  (first | exact q | (simp only [Option.getD_some]; exact q))
theorem w_Model_thieves_74 {rod : Nat → Nat × (Nat → Int32)} {d : Nat} {Q : Option MV → MH → Prop} {u0 : Option MV} {u1 : Option MV} {u2 : Option MV} {x3 : Int32} {x4 : Int32} {x5 : Int32} {x6 : Int32} {h : MH}  (g0 : okl [u0, u1, u2, some (.inl x3), some (.inl x4), some (.inl x5), some (.inl x6)] 3 = true) (k : Wb rod d B_Model_thieves 93 [u0, u1, u2, some (.inl (x3 + 1)), some (.inl (x4 &&& x6)), some (.inl (x5 &&& (x6 ^^^ (-1 : Int32)))), some (.inl x6)] [] h Q) : Wb rod d B_Model_thieves 74 [u0, u1, u2, some (.inl x3), some (.inl x4), some (.inl x5), some (.inl x6)] [] h Q := by
  refine Wb.go (fun r hr q => b_Model_thieves_74 g0 ?_) k
  (first | exact q | (simp only [Option.getD_some]; exact q))
theorem w_Model_thieves_93 {rod : Nat → Nat × (Nat → Int32)} {d : Nat} {Q : Option MV → MH → Prop} {u0 : Option MV} {u1 : Option MV} {u2 : Option MV} {u3 : Option MV} {u4 : Option MV} {u5 : Option MV} {x6 : Int32} {h : MH}  (g0 : okl [u0, u1, u2, u3, u4, u5, some (.inl x6)] 6 = true) (k : Wb rod d B_Model_thieves 38 [u0, u1, u2, u3, u4, u5, some (.inl (x6 + 1))] [] h Q) : Wb rod d B_Model_thieves 93 [u0, u1, u2, u3, u4, u5, some (.inl x6)] [] h Q := by
  refine Wb.go (fun r hr q => b_Model_thieves_93 g0 ?_) k
  (first | exact q | (simp only [Option.getD_some]; exact q))
theorem w_Model_thieves_99 {rod : Nat → Nat × (Nat → Int32)} {d : Nat} {Q : Option MV → MH → Prop} {u0 : Option MV} {u1 : Option MV} {x2 : Int32} {u3 : Option MV} {u4 : Option MV} {u5 : Option MV} {u6 : Option MV} {h : MH}   (k1 : ¬ x2.toInt = 0 → Wb rod d B_Model_thieves 105 [u0, u1, some (.inl x2), u3, u4, u5, u6] [] h Q) (k2 : x2.toInt = 0 → Wb rod d B_Model_thieves 103 [u0, u1, some (.inl x2), u3, u4, u5, u6] [] h Q) : Wb rod d B_Model_thieves 99 [u0, u1, some (.inl x2), u3, u4, u5, u6] [] h Q := by
  refine Wb.br (fun _ _ => b_Model_thieves_99) (fun c => ?_) (fun c => ?_)
  · have c : (!(decide (x2 = 0))) = true := by first | exact c | (simp only [Option.getD_some] at c; exact c)
    (first | exact (k1 (c_net c)) | (simp only [Option.getD_some]; exact (k1 (c_net c))))
  · have c : (!(decide (x2 = 0))) = false := by first | exact c | (simp only [Option.getD_some] at c; exact c)
    (first | exact (k2 (c_nef c)) | (simp only [Option.getD_some]; exact (k2 (c_nef c))))
theorem w_Model_thieves_103 {rod : Nat → Nat × (Nat → Int32)} {d : Nat} {Q : Option MV → MH → Prop} {u0 : Option MV} {u1 : Option MV} {u2 : Option MV} {x3 : Int32} {u4 : Option MV} {u5 : Option MV} {u6 : Option MV} {h : MH}   (q : Q (some (.inl x3)) h) : Wb rod d B_Model_thieves 103 [u0, u1, u2, some (.inl x3), u4, u5, u6] [] h Q := by
  refine Wb.ret (b_Model_thieves_103) ?_
  (first | exact q | (simp only [Option.getD_some]; exact q))
theorem w_Model_thieves_105 {rod : Nat → Nat × (Nat → Int32)} {d : Nat} {Q : Option MV → MH → Prop} {u0 : Option MV} {u1 : Option MV} {x2 : Int32} {u3 : Option MV} {u4 : Option MV} {u5 : Option MV} {u6 : Option MV} {h : MH}   (k1 : x2.toInt < 10 → Wb rod d B_Model_thieves 116 [u0, u1, some (.inl x2), u3, u4, u5, u6] [] h Q) (k2 : ¬ x2.toInt < 10 → Wb rod d B_Model_thieves 111 [u0, u1, some (.inl x2), u3, u4, u5, u6] [] h Q) : Wb rod d B_Model_thieves 105 [u0, u1, some (.inl x2), u3, u4, u5, u6] [] h Q := by
  refine Wb.br (fun _ _ => b_Model_thieves_105) (fun c => ?_) (fun c => ?_)
  · have c : (decide (x2 < (10 : Int32))) = true := by first | exact c | (simp only [Option.getD_some] at c; exact c)
    (first | exact (k1 (c_ltt c)) | (simp only [Option.getD_some]; exact (k1 (c_ltt c))))
  · have c : (decide (x2 < (10 : Int32))) = false := by first | exact c | (simp only [Option.getD_some] at c; exact c)
    (first | exact (k2 (c_ltf c)) | (simp only [Option.getD_some]; exact (k2 (c_ltf c))))
theorem w_Model_thieves_111 {rod : Nat → Nat × (Nat → Int32)} {d : Nat} {Q : Option MV → MH → Prop} {u0 : Option MV} {u1 : Option MV} {u2 : Option MV} {u3 : Option MV} {u4 : Option MV} {u5 : Option MV} {u6 : Option MV} {h : MH}   (k : Wb rod d B_Model_thieves 136 [u0, u1, u2, u3, u4, u5, u6] [.inl (-2 : Int32)] h Q) : Wb rod d B_Model_thieves 111 [u0, u1, u2, u3, u4, u5, u6] [] h Q := by
  refine Wb.go (fun r hr q => b_Model_thieves_111 ?_) k
  (first | exact q | (simp only [Option.getD_some]; exact q))
theorem w_Model_thieves_116 {rod : Nat → Nat × (Nat → Int32)} {d : Nat} {Q : Option MV → MH → Prop} {u0 : Option MV} {u1 : Option MV} {u2 : Option MV} {x3 : Int32} {u4 : Option MV} {u5 : Option MV} {u6 : Option MV} {h : MH}   (k1 : ¬ x3.toInt = 0 → Wb rod d B_Model_thieves 124 [u0, u1, u2, some (.inl x3), u4, u5, u6] [] h Q) (k2 : x3.toInt = 0 → Wb rod d B_Model_thieves 120 [u0, u1, u2, some (.inl x3), u4, u5, u6] [] h Q) : Wb rod d B_Model_thieves 116 [u0, u1, u2, some (.inl x3), u4, u5, u6] [] h Q := by
  refine Wb.br (fun _ _ => b_Model_thieves_116) (fun c => ?_) (fun c => ?_)
  · have c : (!(decide (x3 = 0))) = true := by first | exact c | (simp only [Option.getD_some] at c; exact c)
    (first | exact (k1 (c_net c)) | (simp only [Option.getD_some]; exact (k1 (c_net c))))
  · have c : (!(decide (x3 = 0))) = false := by first | exact c | (simp only [Option.getD_some] at c; exact c)
    (first | exact (k2 (c_nef c)) | (simp only [Option.getD_some]; exact (k2 (c_nef c))))
theorem w_Model_thieves_120 {rod : Nat → Nat × (Nat → Int32)} {d : Nat} {Q : Option MV → MH → Prop} {u0 : Option MV} {u1 : Option MV} {u2 : Option MV} {u3 : Option MV} {u4 : Option MV} {u5 : Option MV} {u6 : Option MV} {h : MH}   (k : Wb rod d B_Model_thieves 136 [u0, u1, u2, u3, u4, u5, u6] [.inl (-1 : Int32)] h Q) : Wb rod d B_Model_thieves 120 [u0, u1, u2, u3, u4, u5, u6] [] h Q := by
  refine Wb.go (fun r hr q => b_Model_thieves_120 ?_) k
  (first | exact q | (simp only [Option.getD_some]; exact q))
theorem w_Model_thieves_124 {rod : Nat → Nat × (Nat → Int32)} {d : Nat} {Q : Option MV → MH → Prop} {u0 : Option MV} {u1 : Option MV} {x2 : Int32} {u3 : Option MV} {u4 : Option MV} {u5 : Option MV} {u6 : Option MV} {h : MH}   (k1 : ¬ x2.toInt = 1 → Wb rod d B_Model_thieves 134 [u0, u1, some (.inl x2), u3, u4, u5, u6] [] h Q) (k2 : x2.toInt = 1 → Wb rod d B_Model_thieves 129 [u0, u1, some (.inl x2), u3, u4, u5, u6] [] h Q) : Wb rod d B_Model_thieves 124 [u0, u1, some (.inl x2), u3, u4, u5, u6] [] h Q := by
  refine Wb.br (fun _ _ => b_Model_thieves_124) (fun c => ?_) (fun c => ?_)
  · have c : (!(decide (x2 = (1 : Int32)))) = true := by first | exact c | (simp only [Option.getD_some] at c; exact c)
    (first | exact (k1 (c_net c)) | (simp only [Option.getD_some]; exact (k1 (c_net c))))
  · have c : (!(decide (x2 = (1 : Int32)))) = false := by first | exact c | (simp only [Option.getD_some] at c; exact c)
    (first | exact (k2 (c_nef c)) | (simp only [Option.getD_some]; exact (k2 (c_nef c))))
theorem w_Model_thieves_129 {rod : Nat → Nat × (Nat → Int32)} {d : Nat} {Q : Option MV → MH → Prop} {u0 : Option MV} {u1 : Option MV} {u2 : Option MV} {u3 : Option MV} {x4 : Int32} {u5 : Option MV} {u6 : Option MV} {h : MH}   (k : Wb rod d B_Model_thieves 136 [u0, u1, u2, u3, some (.inl x4), u5, u6] [.inl x4] h Q) : Wb rod d B_Model_thieves 129 [u0, u1, u2, u3, some (.inl x4), u5, u6] [] h Q := by
  refine Wb.go (fun r hr q => b_Model_thieves_129 ?_) k
  (first | exact q | (simp only [Option.getD_some]; exact q))
theorem w_Model_thieves_134 {rod : Nat → Nat × (Nat → Int32)} {d : Nat} {Q : Option MV → MH → Prop} {u0 : Option MV} {u1 : Option MV} {u2 : Option MV} {u3 : Option MV} {u4 : Option MV} {x5 : Int32} {u6 : Option MV} {h : MH}   (k : Wb rod d B_Model_thieves 136 [u0, u1, u2, u3, u4, some (.inl x5), u6] [.inl x5] h Q) : Wb rod d B_Model_thieves 134 [u0, u1, u2, u3, u4, some (.inl x5), u6] [] h Q := by
  refine Wb.go (fun r hr q => b_Model_thieves_134 ?_) k
  (first | exact q | (simp only [Option.getD_some]; exact q))
theorem w_Model_thieves_136 {rod : Nat → Nat × (Nat → Int32)} {d : Nat} {Q : Option MV → MH → Prop} {u0 : Option MV} {u1 : Option MV} {u2 : Option MV} {u3 : Option MV} {u4 : Option MV} {u5 : Option MV} {u6 : Option MV} {xs0 : Int32} {h : MH}   (q : Q (some (.inl xs0)) h) : Wb rod d B_Model_thieves 136 [u0, u1, u2, u3, u4, u5, u6] [.inl xs0] h Q := by
  refine Wb.ret (b_Model_thieves_136) ?_
  (first | exact q | (simp only [Option.getD_some]; exact q))
theorem n_Model_isSo {rod : Nat → Nat × (Nat → Int32)} {d : Nat} {Q : Option MV → MH → Prop} {x1 : Int32} {h : MH} (k : Wb rod d B_Model_isSo 0 [some (.inr (.inr (.inl (some 84)))), some (.inl x1), none, none] [] h Q) : Wc rod (d + 1) 279 [.inr (.inr (.inl (some 84))), .inl x1] h Q := Wc.en (fun _ _ => e_Model_isSo) k
theorem w_Model_isSo_0 {rod : Nat → Nat × (Nat → Int32)} {d : Nat} {Q : Option MV → MH → Prop} {u1 : Option MV} {u2 : Option MV} {u3 : Option MV} {h : MH} (L : Lay h.2)  {Q1 : Option MV → MH → Prop} (c : Wc rod d 276 [.inr (.inr (.inl (some 84)))] h Q1) (k : ∀ r1 h2, Q1 r1 h2 → Wb rod d B_Model_isSo 4 [some (.inr (.inr (.inl (some 84)))), u1, u2, u3] (r1.toList ++ []) h2 Q) : Wb rod d B_Model_isSo 0 [some (.inr (.inr (.inl (some 84)))), u1, u2, u3] [] h Q := by
  refine Wb.call (fun _ _ _ _ => b_Model_isSo_0 (Lay.o84 L)) (Q1 := Q1) ?_ ?_
  · (first | exact c | (simp only [Option.getD_some]; exact c))
  · (first | exact k | (simp only [Option.getD_some]; exact k))
theorem w_Model_isSo_4 {rod : Nat → Nat × (Nat → Int32)} {d : Nat} {Q : Option MV → MH → Prop} {u0 : Option MV} {u1 : Option MV} {u2 : Option MV} {u3 : Option MV} {h : MH}  (g0 : okl [u0, u1, u2, u3] 2 = true) (k : Wb rod d B_Model_isSo 8 [u0, u1, some (.inl (1 : Int32)), some (.inl (0 : Int32))] [] h Q) : Wb rod d B_Model_isSo 4 [u0, u1, u2, u3] [] h Q := by
  refine Wb.go (fun r hr q => b_Model_isSo_4 g0 ?_) k
  (first | exact q | (simp only [Option.getD_some]; exact q))
theorem w_Model_isSo_8 {rod : Nat → Nat × (Nat → Int32)} {d : Nat} {Q : Option MV → MH → Prop} {u1 : Option MV} {u2 : Option MV} {x3 : Int32} {h : MH} (L : Lay h.2) (g0 : 0 ≤ (h.1 84 38).toInt ∧ (h.1 84 38).toInt < 4584) (k1 : (h.1 85 (h.1 84 38).toNatClampNeg).toInt ≤ x3.toInt → Wb rod d B_Model_isSo 90 [some (.inr (.inr (.inl (some 84)))), u1, u2, some (.inl x3)] [] h Q) (k2 : ¬ (h.1 85 (h.1 84 38).toNatClampNeg).toInt ≤ x3.toInt → Wb rod d B_Model_isSo 21 [some (.inr (.inr (.inl (some 84)))), u1, u2, some (.inl x3)] [] h Q) : Wb rod d B_Model_isSo 8 [some (.inr (.inr (.inl (some 84)))), u1, u2, some (.inl x3)] [] h Q := by
  refine Wb.br (fun _ _ => b_Model_isSo_8 (Lay.o84 L) (Lay.a84_0 L (by first | exact g0 | (simp only [Option.getD_some, (Lay.r84_0 L)]; exact g0)))) (fun c => ?_) (fun c => ?_)
  · have c : (decide ((h.1 85 (h.1 84 38).toNatClampNeg) ≤ x3)) = true := by first | exact c | (simp only [Option.getD_some, (Lay.r84_0 L)] at c; exact c)
    (first | exact (k1 (c_let c)) | (simp only [Option.getD_some, (Lay.r84_0 L)]; exact (k1 (c_let c))))
  · have c : (decide ((h.1 85 (h.1 84 38).toNatClampNeg) ≤ x3)) = false := by first | exact c | (simp only [Option.getD_some, (Lay.r84_0 L)] at c; exact c)
    (first | exact (k2 (c_lef c)) | (simp only [Option.getD_some, (Lay.r84_0 L)]; exact (k2 (c_lef c))))
theorem w_Model_isSo_21 {rod : Nat → Nat × (Nat → Int32)} {d : Nat} {Q : Option MV → MH → Prop} {u1 : Option MV} {u2 : Option MV} {x3 : Int32} {h : MH} (L : Lay h.2)  {Q1 : Option MV → MH → Prop} (c : Wc rod d 277 [.inr (.inr (.inl (some 84))), .inl x3] h Q1) (k : ∀ r1 h2, Q1 r1 h2 → Wb rod d B_Model_isSo 26 [some (.inr (.inr (.inl (some 84)))), u1, u2, some (.inl x3)] (r1.toList ++ []) h2 Q) : Wb rod d B_Model_isSo 21 [some (.inr (.inr (.inl (some 84)))), u1, u2, some (.inl x3)] [] h Q := by
  refine Wb.call (fun _ _ _ _ => b_Model_isSo_21 (Lay.o84 L)) (Q1 := Q1) ?_ ?_
  · (first | exact c | (simp only [Option.getD_some]; exact c))
  · (first | exact k | (simp only [Option.getD_some]; exact k))
theorem w_Model_isSo_26 {rod : Nat → Nat × (Nat → Int32)} {d : Nat} {Q : Option MV → MH → Prop} {u1 : Option MV} {u2 : Option MV} {x3 : Int32} {h : MH} (L : Lay h.2) (g0 : 0 ≤ (((h.1 84 38) + (1 : Int32)) + ((2 : Int32) * x3)).toInt ∧ (((h.1 84 38) + (1 : Int32)) + ((2 : Int32) * x3)).toInt < 4584) (k1 : ¬ (h.1 85 (((h.1 84 38) + (1 : Int32)) + ((2 : Int32) * x3)).toNatClampNeg).toInt = 2 → Wb rod d B_Model_isSo 84 [some (.inr (.inr (.inl (some 84)))), u1, u2, some (.inl x3)] [] h Q) (k2 : (h.1 85 (((h.1 84 38) + (1 : Int32)) + ((2 : Int32) * x3)).toNatClampNeg).toInt = 2 → Wb rod d B_Model_isSo 45 [some (.inr (.inr (.inl (some 84)))), u1, u2, some (.inl x3)] [] h Q) : Wb rod d B_Model_isSo 26 [some (.inr (.inr (.inl (some 84)))), u1, u2, some (.inl x3)] [] h Q := by
  refine Wb.br (fun _ _ => b_Model_isSo_26 (Lay.o84 L) (Lay.a84_0 L (by first | exact g0 | (simp only [Option.getD_some, (Lay.r84_0 L)]; exact g0)))) (fun c => ?_) (fun c => ?_)
  · have c : (!(decide ((h.1 85 (((h.1 84 38) + (1 : Int32)) + ((2 : Int32) * x3)).toNatClampNeg) = (2 : Int32)))) = true := by first | exact c | (simp only [Option.getD_some, (Lay.r84_0 L)] at c; exact c)
    (first | exact (k1 (c_net c)) | (simp only [Option.getD_some, (Lay.r84_0 L)]; exact (k1 (c_net c))))
  · have c : (!(decide ((h.1 85 (((h.1 84 38) + (1 : Int32)) + ((2 : Int32) * x3)).toNatClampNeg) = (2 : Int32)))) = false := by first | exact c | (simp only [Option.getD_some, (Lay.r84_0 L)] at c; exact c)
    (first | exact (k2 (c_nef c)) | (simp only [Option.getD_some, (Lay.r84_0 L)]; exact (k2 (c_nef c))))
theorem w_Model_isSo_45 {rod : Nat → Nat × (Nat → Int32)} {d : Nat} {Q : Option MV → MH → Prop} {u0 : Option MV} {u1 : Option MV} {x2 : Int32} {u3 : Option MV} {h : MH}   (k1 : x2.toInt = 0 → Wb rod d B_Model_isSo 82 [u0, u1, some (.inl x2), u3] [] h Q) (k2 : ¬ x2.toInt = 0 → Wb rod d B_Model_isSo 49 [u0, u1, some (.inl x2), u3] [] h Q) : Wb rod d B_Model_isSo 45 [u0, u1, some (.inl x2), u3] [] h Q := by
  refine Wb.br (fun _ _ => b_Model_isSo_45) (fun c => ?_) (fun c => ?_)
  · have c : (decide (x2 = 0)) = true := by first | exact c | (simp only [Option.getD_some] at c; exact c)
    (first | exact (k1 (c_eqt c)) | (simp only [Option.getD_some]; exact (k1 (c_eqt c))))
  · have c : (decide (x2 = 0)) = false := by first | exact c | (simp only [Option.getD_some] at c; exact c)
    (first | exact (k2 (c_eqf c)) | (simp only [Option.getD_some]; exact (k2 (c_eqf c))))
theorem w_Model_isSo_49 {rod : Nat → Nat × (Nat → Int32)} {d : Nat} {Q : Option MV → MH → Prop} {x1 : Int32} {u2 : Option MV} {u3 : Option MV} {h : MH} (L : Lay h.2)  (k1 : (x1 &&& (h.1 84 40)).toInt = 0 → Wb rod d B_Model_isSo 62 [some (.inr (.inr (.inl (some 84)))), some (.inl x1), u2, u3] [] h Q) (k2 : ¬ (x1 &&& (h.1 84 40)).toInt = 0 → Wb rod d B_Model_isSo 58 [some (.inr (.inr (.inl (some 84)))), some (.inl x1), u2, u3] [] h Q) : Wb rod d B_Model_isSo 49 [some (.inr (.inr (.inl (some 84)))), some (.inl x1), u2, u3] [] h Q := by
  refine Wb.br (fun _ _ => b_Model_isSo_49 (Lay.o84 L)) (fun c => ?_) (fun c => ?_)
  · have c : (decide ((x1 &&& (h.1 84 40)) = 0)) = true := by first | exact c | (simp only [Option.getD_some] at c; exact c)
    (first | exact (k1 (c_eqt c)) | (simp only [Option.getD_some]; exact (k1 (c_eqt c))))
  · have c : (decide ((x1 &&& (h.1 84 40)) = 0)) = false := by first | exact c | (simp only [Option.getD_some] at c; exact c)
    (first | exact (k2 (c_eqf c)) | (simp only [Option.getD_some]; exact (k2 (c_eqf c))))
theorem w_Model_isSo_58 {rod : Nat → Nat × (Nat → Int32)} {d : Nat} {Q : Option MV → MH → Prop} {u0 : Option MV} {u1 : Option MV} {u2 : Option MV} {u3 : Option MV} {h : MH}   (k : Wb rod d B_Model_isSo 63 [u0, u1, u2, u3] [.inl (1 : Int32)] h Q) : Wb rod d B_Model_isSo 58 [u0, u1, u2, u3] [] h Q := by
  refine Wb.go (fun r hr q => b_Model_isSo_58 ?_) k
  (first | exact q | (simp only [Option.getD_some]; exact q))
theorem w_Model_isSo_62 {rod : Nat → Nat × (Nat → Int32)} {d : Nat} {Q : Option MV → MH → Prop} {u0 : Option MV} {u1 : Option MV} {u2 : Option MV} {u3 : Option MV} {h : MH}   (k : Wb rod d B_Model_isSo 63 [u0, u1, u2, u3] [.inl (0 : Int32)] h Q) : Wb rod d B_Model_isSo 62 [u0, u1, u2, u3] [] h Q := by
  refine Wb.go (fun r hr q => b_Model_isSo_62 ?_) k
  (first | exact q | (simp only [Option.getD_some]; exact q))
theorem w_Model_isSo_63 {rod : Nat → Nat × (Nat → Int32)} {d : Nat} {Q : Option MV → MH → Prop} {u1 : Option MV} {u2 : Option MV} {u3 : Option MV} {xs0 : Int32} {h : MH} (L : Lay h.2)  (k1 : (h.1 84 41).toInt ≤ 0 → Wb rod d B_Model_isSo 74 [some (.inr (.inr (.inl (some 84)))), u1, u2, u3] [.inl xs0] h Q) (k2 : ¬ (h.1 84 41).toInt ≤ 0 → Wb rod d B_Model_isSo 70 [some (.inr (.inr (.inl (some 84)))), u1, u2, u3] [.inl xs0] h Q) : Wb rod d B_Model_isSo 63 [some (.inr (.inr (.inl (some 84)))), u1, u2, u3] [.inl xs0] h Q := by
  refine Wb.br (fun _ _ => b_Model_isSo_63 (Lay.o84 L)) (fun c => ?_) (fun c => ?_)
  · have c : (decide ((h.1 84 41) ≤ 0)) = true := by first | exact c | (simp only [Option.getD_some] at c; exact c)
    (first | exact (k1 (c_let c)) | (simp only [Option.getD_some]; exact (k1 (c_let c))))
  · have c : (decide ((h.1 84 41) ≤ 0)) = false := by first | exact c | (simp only [Option.getD_some] at c; exact c)
    (first | exact (k2 (c_lef c)) | (simp only [Option.getD_some]; exact (k2 (c_lef c))))
theorem w_Model_isSo_70 {rod : Nat → Nat × (Nat → Int32)} {d : Nat} {Q : Option MV → MH → Prop} {u0 : Option MV} {u1 : Option MV} {u2 : Option MV} {u3 : Option MV} {xs0 : Int32} {h : MH}   (k : Wb rod d B_Model_isSo 75 [u0, u1, u2, u3] [.inl (1 : Int32), .inl xs0] h Q) : Wb rod d B_Model_isSo 70 [u0, u1, u2, u3] [.inl xs0] h Q := by
  refine Wb.go (fun r hr q => b_Model_isSo_70 ?_) k
  (first | exact q | (simp only [Option.getD_some]; exact q))
theorem w_Model_isSo_74 {rod : Nat → Nat × (Nat → Int32)} {d : Nat} {Q : Option MV → MH → Prop} {u0 : Option MV} {u1 : Option MV} {u2 : Option MV} {u3 : Option MV} {xs0 : Int32} {h : MH}   (k : Wb rod d B_Model_isSo 75 [u0, u1, u2, u3] [.inl (0 : Int32), .inl xs0] h Q) : Wb rod d B_Model_isSo 74 [u0, u1, u2, u3] [.inl xs0] h Q := by
  refine Wb.go (fun r hr q => b_Model_isSo_74 ?_) k
  (first | exact q | (simp only [Option.getD_some]; exact q))
theorem w_Model_isSo_75 {rod : Nat → Nat × (Nat → Int32)} {d : Nat} {Q : Option MV → MH → Prop} {u0 : Option MV} {u1 : Option MV} {u2 : Option MV} {u3 : Option MV} {xs0 : Int32} {xs1 : Int32} {h : MH}   (k1 : ¬ xs0.toInt = xs1.toInt → Wb rod d B_Model_isSo 82 [u0, u1, u2, u3] [] h Q) (k2 : xs0.toInt = xs1.toInt → Wb rod d B_Model_isSo 78 [u0, u1, u2, u3] [] h Q) : Wb rod d B_Model_isSo 75 [u0, u1, u2, u3] [.inl xs1, .inl xs0] h Q := by
  refine Wb.br (fun _ _ => b_Model_isSo_75) (fun c => ?_) (fun c => ?_)
  · have c : (!(decide (xs0 = xs1))) = true := by first | exact c | (simp only [Option.getD_some] at c; exact c)
    (first | exact (k1 (c_net c)) | (simp only [Option.getD_some]; exact (k1 (c_net c))))
  · have c : (!(decide (xs0 = xs1))) = false := by first | exact c | (simp only [Option.getD_some] at c; exact c)
    (first | exact (k2 (c_nef c)) | (simp only [Option.getD_some]; exact (k2 (c_nef c))))
theorem w_Model_isSo_78 {rod : Nat → Nat × (Nat → Int32)} {d : Nat} {Q : Option MV → MH → Prop} {u0 : Option MV} {u1 : Option MV} {u2 : Option MV} {u3 : Option MV} {h : MH}   (k : Wb rod d B_Model_isSo 83 [u0, u1, u2, u3] [.inl (1 : Int32)] h Q) : Wb rod d B_Model_isSo 78 [u0, u1, u2, u3] [] h Q := by
  refine Wb.go (fun r hr q => b_Model_isSo_78 ?_) k
  (first | exact q | (simp only [Option.getD_some]; exact q))
theorem w_Model_isSo_82 {rod : Nat → Nat × (Nat → Int32)} {d : Nat} {Q : Option MV → MH → Prop} {u0 : Option MV} {u1 : Option MV} {u2 : Option MV} {u3 : Option MV} {h : MH}   (k : Wb rod d B_Model_isSo 83 [u0, u1, u2, u3] [.inl (0 : Int32)] h Q) : Wb rod d B_Model_isSo 82 [u0, u1, u2, u3] [] h Q := by
  refine Wb.go (fun r hr q => b_Model_isSo_82 ?_) k
  (first | exact q | (simp only [Option.getD_some]; exact q))
theorem w_Model_isSo_83 {rod : Nat → Nat × (Nat → Int32)} {d : Nat} {Q : Option MV → MH → Prop} {u0 : Option MV} {u1 : Option MV} {u2 : Option MV} {u3 : Option MV} {xs0 : Int32} {h : MH}  (g0 : okl [u0, u1, u2, u3] 2 = true) (k : Wb rod d B_Model_isSo 84 [u0, u1, some (.inl xs0), u3] [] h Q) : Wb rod d B_Model_isSo 83 [u0, u1, u2, u3] [.inl xs0] h Q := by
  refine Wb.go (fun r hr q => b_Model_isSo_83 g0 ?_) k
  (first | exact q | (simp only [Option.getD_some]; exact q))
theorem w_Model_isSo_84 {rod : Nat → Nat × (Nat → Int32)} {d : Nat} {Q : Option MV → MH → Prop} {u0 : Option MV} {u1 : Option MV} {u2 : Option MV} {x3 : Int32} {h : MH}  (g0 : okl [u0, u1, u2, some (.inl x3)] 3 = true) (k : Wb rod d B_Model_isSo 8 [u0, u1, u2, some (.inl (x3 + 1))] [] h Q) : Wb rod d B_Model_isSo 84 [u0, u1, u2, some (.inl x3)] [] h Q := by
  refine Wb.go (fun r hr q => b_Model_isSo_84 g0 ?_) k
  (first | exact q | (simp only [Option.getD_some]; exact q))
theorem w_Model_isSo_90 {rod : Nat → Nat × (Nat → Int32)} {d : Nat} {Q : Option MV → MH → Prop} {u0 : Option MV} {u1 : Option MV} {x2 : Int32} {u3 : Option MV} {h : MH}  (g0 : x2 = 0 ∨ x2 = 1) (q : Q (some (.inl x2)) h) : Wb rod d B_Model_isSo 90 [u0, u1, some (.inl x2), u3] [] h Q := by
  refine Wb.ret (b_Model_isSo_90 (d01 g0)) ?_
  (first | exact q | (simp only [Option.getD_some]; exact q))
theorem n_Model_opened {rod : Nat → Nat × (Nat → Int32)} {d : Nat} {Q : Option MV → MH → Prop} {x1 : Int32} {x2 : Int32} {h : MH} (k : Wb rod d B_Model_opened 0 [some (.inr (.inr (.inl (some 84)))), some (.inl x1), some (.inl x2), none, none, none] [] h Q) : Wc rod (d + 1) 280 [.inr (.inr (.inl (some 84))), .inl x1, .inl x2] h Q := Wc.en (fun _ _ => e_Model_opened) k
theorem w_Model_opened_0 {rod : Nat → Nat × (Nat → Int32)} {d : Nat} {Q : Option MV → MH → Prop} {x1 : Int32} {u2 : Option MV} {u3 : Option MV} {u4 : Option MV} {u5 : Option MV} {h : MH} (L : Lay h.2)  {Q1 : Option MV → MH → Prop} (c : Wc rod d 275 [.inr (.inr (.inl (some 84))), .inl x1] h Q1) (k : ∀ r1 h2, Q1 r1 h2 → Wb rod d B_Model_opened 5 [some (.inr (.inr (.inl (some 84)))), some (.inl x1), u2, u3, u4, u5] (r1.toList ++ []) h2 Q) : Wb rod d B_Model_opened 0 [some (.inr (.inr (.inl (some 84)))), some (.inl x1), u2, u3, u4, u5] [] h Q := by
  refine Wb.call (fun _ _ _ _ => b_Model_opened_0 (Lay.o84 L)) (Q1 := Q1) ?_ ?_
  · (first | exact c | (simp only [Option.getD_some]; exact c))
  · (first | exact k | (simp only [Option.getD_some]; exact k))
theorem w_Model_opened_5 {rod : Nat → Nat × (Nat → Int32)} {d : Nat} {Q : Option MV → MH → Prop} {u0 : Option MV} {u1 : Option MV} {u2 : Option MV} {u3 : Option MV} {u4 : Option MV} {u5 : Option MV} {xs0 : Int32} {h : MH}   (k1 : ¬ xs0.toInt = 0 → Wb rod d B_Model_opened 10 [u0, u1, u2, u3, u4, u5] [] h Q) (k2 : xs0.toInt = 0 → Wb rod d B_Model_opened 8 [u0, u1, u2, u3, u4, u5] [] h Q) : Wb rod d B_Model_opened 5 [u0, u1, u2, u3, u4, u5] [.inl xs0] h Q := by
  refine Wb.br (fun _ _ => b_Model_opened_5) (fun c => ?_) (fun c => ?_)
  · have c : (!(decide (xs0 = 0))) = true := by first | exact c | (simp only [Option.getD_some] at c; exact c)
    (first | exact (k1 (c_net c)) | (simp only [Option.getD_some]; exact (k1 (c_net c))))
  · have c : (!(decide (xs0 = 0))) = false := by first | exact c | (simp only [Option.getD_some] at c; exact c)
    (first | exact (k2 (c_nef c)) | (simp only [Option.getD_some]; exact (k2 (c_nef c))))
theorem w_Model_opened_8 {rod : Nat → Nat × (Nat → Int32)} {d : Nat} {Q : Option MV → MH → Prop} {u0 : Option MV} {u1 : Option MV} {u2 : Option MV} {u3 : Option MV} {u4 : Option MV} {u5 : Option MV} {h : MH}   (q : Q (some (.inl (-1 : Int32))) h) : Wb rod d B_Model_opened 8 [u0, u1, u2, u3, u4, u5] [] h Q := by
  refine Wb.ret (b_Model_opened_8) ?_
  (first | exact q | (simp only [Option.getD_some]; exact q))
theorem w_Model_opened_10 {rod : Nat → Nat × (Nat → Int32)} {d : Nat} {Q : Option MV → MH → Prop} {u1 : Option MV} {u2 : Option MV} {u3 : Option MV} {u4 : Option MV} {u5 : Option MV} {h : MH} (L : Lay h.2)  {Q1 : Option MV → MH → Prop} (c : Wc rod d 276 [.inr (.inr (.inl (some 84)))] h Q1) (k : ∀ r1 h2, Q1 r1 h2 → Wb rod d B_Model_opened 14 [some (.inr (.inr (.inl (some 84)))), u1, u2, u3, u4, u5] (r1.toList ++ []) h2 Q) : Wb rod d B_Model_opened 10 [some (.inr (.inr (.inl (some 84)))), u1, u2, u3, u4, u5] [] h Q := by
  refine Wb.call (fun _ _ _ _ => b_Model_opened_10 (Lay.o84 L)) (Q1 := Q1) ?_ ?_
  · (first | exact c | (simp only [Option.getD_some]; exact c))
  · (first | exact k | (simp only [Option.getD_some]; exact k))
theorem w_Model_opened_14 {rod : Nat → Nat × (Nat → Int32)} {d : Nat} {Q : Option MV → MH → Prop} {u0 : Option MV} {u1 : Option MV} {u2 : Option MV} {u3 : Option MV} {u4 : Option MV} {u5 : Option MV} {h : MH}  (g0 : okl [u0, u1, u2, u3, u4, u5] 3 = true) (k : Wb rod d B_Model_opened 22 [u0, u1, u2, some (.inl (0 : Int32)), some (.inl (0 : Int32)), some (.inl (0 : Int32))] [] h Q) : Wb rod d B_Model_opened 14 [u0, u1, u2, u3, u4, u5] [] h Q := by
  refine Wb.go (fun r hr q => b_Model_opened_14 g0 ?_) k
  (first | exact q | (simp only [Option.getD_some]; exact q))
theorem w_Model_opened_22 {rod : Nat → Nat × (Nat → Int32)} {d : Nat} {Q : Option MV → MH → Prop} {u1 : Option MV} {u2 : Option MV} {u3 : Option MV} {u4 : Option MV} {x5 : Int32} {h : MH} (L : Lay h.2) (g0 : 0 ≤ (h.1 84 38).toInt ∧ (h.1 84 38).toInt < 4584) (k1 : (h.1 85 (h.1 84 38).toNatClampNeg).toInt ≤ x5.toInt → Wb rod d B_Model_opened 90 [some (.inr (.inr (.inl (some 84)))), u1, u2, u3, u4, some (.inl x5)] [] h Q) (k2 : ¬ (h.1 85 (h.1 84 38).toNatClampNeg).toInt ≤ x5.toInt → Wb rod d B_Model_opened 36 [some (.inr (.inr (.inl (some 84)))), u1, u2, u3, u4, some (.inl x5)] [] h Q) : Wb rod d B_Model_opened 22 [some (.inr (.inr (.inl (some 84)))), u1, u2, u3, u4, some (.inl x5)] [] h Q := by
  refine Wb.br (fun _ _ => b_Model_opened_22 (Lay.o84 L) (Lay.a84_0 L (by first | exact g0 | (simp only [Option.getD_some, (Lay.r84_0 L)]; exact g0)))) (fun c => ?_) (fun c => ?_)
  · have c : (decide ((h.1 85 (h.1 84 38).toNatClampNeg) ≤ x5)) = true := by first | exact c | (simp only [Option.getD_some, (Lay.r84_0 L)] at c; exact c)
    (first | exact (k1 (c_let c)) | (simp only [Option.getD_some, (Lay.r84_0 L)]; exact (k1 (c_let c))))
  · have c : (decide ((h.1 85 (h.1 84 38).toNatClampNeg) ≤ x5)) = false := by first | exact c | (simp only [Option.getD_some, (Lay.r84_0 L)] at c; exact c)
    (first | exact (k2 (c_lef c)) | (simp only [Option.getD_some, (Lay.r84_0 L)]; exact (k2 (c_lef c))))
theorem w_Model_opened_36 {rod : Nat → Nat × (Nat → Int32)} {d : Nat} {Q : Option MV → MH → Prop} {u1 : Option MV} {u2 : Option MV} {u3 : Option MV} {u4 : Option MV} {x5 : Int32} {h : MH} (L : Lay h.2)  {Q1 : Option MV → MH → Prop} (c : Wc rod d 277 [.inr (.inr (.inl (some 84))), .inl x5] h Q1) (k : ∀ r1 h2, Q1 r1 h2 → Wb rod d B_Model_opened 42 [some (.inr (.inr (.inl (some 84)))), u1, u2, u3, u4, some (.inl x5)] (r1.toList ++ []) h2 Q) : Wb rod d B_Model_opened 36 [some (.inr (.inr (.inl (some 84)))), u1, u2, u3, u4, some (.inl x5)] [] h Q := by
  refine Wb.call (fun _ _ _ _ => b_Model_opened_36 (Lay.o84 L)) (Q1 := Q1) ?_ ?_
  · (first | exact c | (simp only [Option.getD_some]; exact c))
  · (first | exact k | (simp only [Option.getD_some]; exact k))
theorem w_Model_opened_42 {rod : Nat → Nat × (Nat → Int32)} {d : Nat} {Q : Option MV → MH → Prop} {u1 : Option MV} {u2 : Option MV} {u3 : Option MV} {u4 : Option MV} {x5 : Int32} {h : MH} (L : Lay h.2) (g0 : 0 ≤ (((h.1 84 38) + (1 : Int32)) + ((2 : Int32) * x5)).toInt ∧ (((h.1 84 38) + (1 : Int32)) + ((2 : Int32) * x5)).toInt < 4584) (k1 : ¬ (h.1 85 (((h.1 84 38) + (1 : Int32)) + ((2 : Int32) * x5)).toNatClampNeg).toInt = 2 → Wb rod d B_Model_opened 84 [some (.inr (.inr (.inl (some 84)))), u1, u2, u3, u4, some (.inl x5)] [] h Q) (k2 : (h.1 85 (((h.1 84 38) + (1 : Int32)) + ((2 : Int32) * x5)).toNatClampNeg).toInt = 2 → Wb rod d B_Model_opened 62 [some (.inr (.inr (.inl (some 84)))), u1, u2, u3, u4, some (.inl x5)] [] h Q) : Wb rod d B_Model_opened 42 [some (.inr (.inr (.inl (some 84)))), u1, u2, u3, u4, some (.inl x5)] [] h Q := by
  refine Wb.br (fun _ _ => b_Model_opened_42 (Lay.o84 L) (Lay.a84_0 L (by first | exact g0 | (simp only [Option.getD_some, (Lay.r84_0 L)]; exact g0)))) (fun c => ?_) (fun c => ?_)
  · have c : (!(decide ((h.1 85 (((h.1 84 38) + (1 : Int32)) + ((2 : Int32) * x5)).toNatClampNeg) = (2 : Int32)))) = true := by first | exact c | (simp only [Option.getD_some, (Lay.r84_0 L)] at c; exact c)
    (first | exact (k1 (c_net c)) | (simp only [Option.getD_some, (Lay.r84_0 L)]; exact (k1 (c_net c))))
  · have c : (!(decide ((h.1 85 (((h.1 84 38) + (1 : Int32)) + ((2 : Int32) * x5)).toNatClampNeg) = (2 : Int32)))) = false := by first | exact c | (simp only [Option.getD_some, (Lay.r84_0 L)] at c; exact c)
    (first | exact (k2 (c_nef c)) | (simp only [Option.getD_some, (Lay.r84_0 L)]; exact (k2 (c_nef c))))
theorem w_Model_opened_62 {rod : Nat → Nat × (Nat → Int32)} {d : Nat} {Q : Option MV → MH → Prop} {u1 : Option MV} {u2 : Option MV} {u3 : Option MV} {u4 : Option MV} {u5 : Option MV} {h : MH} (L : Lay h.2)  (k1 : 0 < (h.1 84 41).toInt → Wb rod d B_Model_opened 72 [some (.inr (.inr (.inl (some 84)))), u1, u2, u3, u4, u5] [] h Q) (k2 : ¬ 0 < (h.1 84 41).toInt → Wb rod d B_Model_opened 69 [some (.inr (.inr (.inl (some 84)))), u1, u2, u3, u4, u5] [] h Q) : Wb rod d B_Model_opened 62 [some (.inr (.inr (.inl (some 84)))), u1, u2, u3, u4, u5] [] h Q := by
  refine Wb.br (fun _ _ => b_Model_opened_62 (Lay.o84 L)) (fun c => ?_) (fun c => ?_)
  · have c : (decide (0 < (h.1 84 41))) = true := by first | exact c | (simp only [Option.getD_some] at c; exact c)
    (first | exact (k1 (c_ltt c)) | (simp only [Option.getD_some]; exact (k1 (c_ltt c))))
  · have c : (decide (0 < (h.1 84 41))) = false := by first | exact c | (simp only [Option.getD_some] at c; exact c)
    (first | exact (k2 (c_ltf c)) | (simp only [Option.getD_some]; exact (k2 (c_ltf c))))
theorem w_Model_opened_69 {rod : Nat → Nat × (Nat → Int32)} {d : Nat} {Q : Option MV → MH → Prop} {u0 : Option MV} {u1 : Option MV} {u2 : Option MV} {u3 : Option MV} {u4 : Option MV} {u5 : Option MV} {h : MH}   (k : Wb rod d B_Model_opened 84 [u0, u1, u2, u3, u4, u5] [] h Q) : Wb rod d B_Model_opened 69 [u0, u1, u2, u3, u4, u5] [] h Q := by
  refine Wb.go (fun r hr q => b_Model_opened_69 ?_) k
  (first | exact q | (simp only [Option.getD_some]; exact q))
theorem w_Model_opened_72 {rod : Nat → Nat × (Nat → Int32)} {d : Nat} {Q : Option MV → MH → Prop} {u1 : Option MV} {u2 : Option MV} {x3 : Int32} {x4 : Int32} {u5 : Option MV} {h : MH} (L : Lay h.2) (g0 : okl [some (.inr (.inr (.inl (some 84)))), u1, u2, some (.inl x3), some (.inl x4), u5] 3 = true) (k : Wb rod d B_Model_opened 84 [some (.inr (.inr (.inl (some 84)))), u1, u2, some (.inl (x3 + 1)), some (.inl (x4 + (h.1 84 41))), u5] [] h Q) : Wb rod d B_Model_opened 72 [some (.inr (.inr (.inl (some 84)))), u1, u2, some (.inl x3), some (.inl x4), u5] [] h Q := by
  refine Wb.go (fun r hr q => b_Model_opened_72 g0 (Lay.o84 L) ?_) k
  (first | exact q | (simp only [Option.getD_some]; exact q))
theorem w_Model_opened_84 {rod : Nat → Nat × (Nat → Int32)} {d : Nat} {Q : Option MV → MH → Prop} {u0 : Option MV} {u1 : Option MV} {u2 : Option MV} {u3 : Option MV} {u4 : Option MV} {x5 : Int32} {h : MH}  (g0 : okl [u0, u1, u2, u3, u4, some (.inl x5)] 5 = true) (k : Wb rod d B_Model_opened 22 [u0, u1, u2, u3, u4, some (.inl (x5 + 1))] [] h Q) : Wb rod d B_Model_opened 84 [u0, u1, u2, u3, u4, some (.inl x5)] [] h Q := by
  refine Wb.go (fun r hr q => b_Model_opened_84 g0 ?_) k
  (first | exact q | (simp only [Option.getD_some]; exact q))
theorem w_Model_opened_90 {rod : Nat → Nat × (Nat → Int32)} {d : Nat} {Q : Option MV → MH → Prop} {u0 : Option MV} {u1 : Option MV} {x2 : Int32} {u3 : Option MV} {u4 : Option MV} {u5 : Option MV} {h : MH}   (k1 : x2.toInt = 0 → Wb rod d B_Model_opened 99 [u0, u1, some (.inl x2), u3, u4, u5] [] h Q) (k2 : ¬ x2.toInt = 0 → Wb rod d B_Model_opened 94 [u0, u1, some (.inl x2), u3, u4, u5] [] h Q) : Wb rod d B_Model_opened 90 [u0, u1, some (.inl x2), u3, u4, u5] [] h Q := by
  refine Wb.br (fun _ _ => b_Model_opened_90) (fun c => ?_) (fun c => ?_)
  · have c : (decide (x2 = 0)) = true := by first | exact c | (simp only [Option.getD_some] at c; exact c)
    (first | exact (k1 (c_eqt c)) | (simp only [Option.getD_some]; exact (k1 (c_eqt c))))
  · have c : (decide (x2 = 0)) = false := by first | exact c | (simp only [Option.getD_some] at c; exact c)
    (first | exact (k2 (c_eqf c)) | (simp only [Option.getD_some]; exact (k2 (c_eqf c))))
theorem w_Model_opened_94 {rod : Nat → Nat × (Nat → Int32)} {d : Nat} {Q : Option MV → MH → Prop} {u0 : Option MV} {u1 : Option MV} {u2 : Option MV} {u3 : Option MV} {x4 : Int32} {u5 : Option MV} {h : MH}   (k : Wb rod d B_Model_opened 100 [u0, u1, u2, u3, some (.inl x4), u5] [.inl x4] h Q) : Wb rod d B_Model_opened 94 [u0, u1, u2, u3, some (.inl x4), u5] [] h Q := by
  refine Wb.go (fun r hr q => b_Model_opened_94 ?_) k
  (first | exact q | (simp only [Option.getD_some]; exact q))
theorem w_Model_opened_99 {rod : Nat → Nat × (Nat → Int32)} {d : Nat} {Q : Option MV → MH → Prop} {u0 : Option MV} {u1 : Option MV} {u2 : Option MV} {x3 : Int32} {u4 : Option MV} {u5 : Option MV} {h : MH}   (k : Wb rod d B_Model_opened 100 [u0, u1, u2, some (.inl x3), u4, u5] [.inl x3] h Q) : Wb rod d B_Model_opened 99 [u0, u1, u2, some (.inl x3), u4, u5] [] h Q := by
  refine Wb.go (fun r hr q => b_Model_opened_99 ?_) k
  (first | exact q | (simp only [Option.getD_some]; exact q))
theorem w_Model_opened_100 {rod : Nat → Nat × (Nat → Int32)} {d : Nat} {Q : Option MV → MH → Prop} {u0 : Option MV} {u1 : Option MV} {u2 : Option MV} {u3 : Option MV} {u4 : Option MV} {u5 : Option MV} {xs0 : Int32} {h : MH}   (q : Q (some (.inl xs0)) h) : Wb rod d B_Model_opened 100 [u0, u1, u2, u3, u4, u5] [.inl xs0] h Q := by
  refine Wb.ret (b_Model_opened_100) ?_
  (first | exact q | (simp only [Option.getD_some]; exact q))
theorem n_Model_bargain {rod : Nat → Nat × (Nat → Int32)} {d : Nat} {Q : Option MV → MH → Prop} {x1 : Int32} {x2 : Int32} {h : MH} (k : Wb rod d B_Model_bargain 0 [some (.inr (.inr (.inl (some 84)))), some (.inl x1), some (.inl x2)] [] h Q) : Wc rod (d + 1) 281 [.inr (.inr (.inl (some 84))), .inl x1, .inl x2] h Q := Wc.en (fun _ _ => e_Model_bargain) k
theorem w_Model_bargain_0 {rod : Nat → Nat × (Nat → Int32)} {d : Nat} {Q : Option MV → MH → Prop} {x1 : Int32} {u2 : Option MV} {h : MH} (L : Lay h.2)  {Q1 : Option MV → MH → Prop} (c : Wc rod d 282 [.inr (.inr (.inl (some 84))), .inl x1] h Q1) (k : ∀ r1 h2, Q1 r1 h2 → Wb rod d B_Model_bargain 5 [some (.inr (.inr (.inl (some 84)))), some (.inl x1), u2] (r1.toList ++ []) h2 Q) : Wb rod d B_Model_bargain 0 [some (.inr (.inr (.inl (some 84)))), some (.inl x1), u2] [] h Q := by
  refine Wb.call (fun _ _ _ _ => b_Model_bargain_0 (Lay.o84 L)) (Q1 := Q1) ?_ ?_
  · (first | exact c | (simp only [Option.getD_some]; exact c))
  · (first | exact k | (simp only [Option.getD_some]; exact k))
theorem w_Model_bargain_5 {rod : Nat → Nat × (Nat → Int32)} {d : Nat} {Q : Option MV → MH → Prop} {u0 : Option MV} {u1 : Option MV} {u2 : Option MV} {xs0 : Int32} {h : MH}   (k1 : ¬ xs0.toInt = 0 → Wb rod d B_Model_bargain 10 [u0, u1, u2] [] h Q) (k2 : xs0.toInt = 0 → Wb rod d B_Model_bargain 8 [u0, u1, u2] [] h Q) : Wb rod d B_Model_bargain 5 [u0, u1, u2] [.inl xs0] h Q := by
  refine Wb.br (fun _ _ => b_Model_bargain_5) (fun c => ?_) (fun c => ?_)
  · have c : (!(decide (xs0 = 0))) = true := by first | exact c | (simp only [Option.getD_some] at c; exact c)
    (first | exact (k1 (c_net c)) | (simp only [Option.getD_some]; exact (k1 (c_net c))))
  · have c : (!(decide (xs0 = 0))) = false := by first | exact c | (simp only [Option.getD_some] at c; exact c)
    (first | exact (k2 (c_nef c)) | (simp only [Option.getD_some]; exact (k2 (c_nef c))))
theorem w_Model_bargain_8 {rod : Nat → Nat × (Nat → Int32)} {d : Nat} {Q : Option MV → MH → Prop} {u0 : Option MV} {u1 : Option MV} {u2 : Option MV} {h : MH}   (q : Q (some (.inl (-1 : Int32))) h) : Wb rod d B_Model_bargain 8 [u0, u1, u2] [] h Q := by
  refine Wb.ret (b_Model_bargain_8) ?_
  (first | exact q | (simp only [Option.getD_some]; exact q))
theorem w_Model_bargain_10 {rod : Nat → Nat × (Nat → Int32)} {d : Nat} {Q : Option MV → MH → Prop} {u0 : Option MV} {u1 : Option MV} {x2 : Int32} {h : MH}   (k1 : ¬ x2.toInt = 0 → Wb rod d B_Model_bargain 19 [u0, u1, some (.inl x2)] [] h Q) (k2 : x2.toInt = 0 → Wb rod d B_Model_bargain 14 [u0, u1, some (.inl x2)] [] h Q) : Wb rod d B_Model_bargain 10 [u0, u1, some (.inl x2)] [] h Q := by
  refine Wb.br (fun _ _ => b_Model_bargain_10) (fun c => ?_) (fun c => ?_)
  · have c : (!(decide (x2 = 0))) = true := by first | exact c | (simp only [Option.getD_some] at c; exact c)
    (first | exact (k1 (c_net c)) | (simp only [Option.getD_some]; exact (k1 (c_net c))))
  · have c : (!(decide (x2 = 0))) = false := by first | exact c | (simp only [Option.getD_some] at c; exact c)
    (first | exact (k2 (c_nef c)) | (simp only [Option.getD_some]; exact (k2 (c_nef c))))
theorem w_Model_bargain_14 {rod : Nat → Nat × (Nat → Int32)} {d : Nat} {Q : Option MV → MH → Prop} {u1 : Option MV} {u2 : Option MV} {h : MH} (L : Lay h.2)  (q : Q (some (.inl (h.1 84 43))) h) : Wb rod d B_Model_bargain 14 [some (.inr (.inr (.inl (some 84)))), u1, u2] [] h Q := by
  refine Wb.ret (b_Model_bargain_14 (Lay.o84 L)) ?_
  (first | exact q | (simp only [Option.getD_some]; exact q))
theorem w_Model_bargain_19 {rod : Nat → Nat × (Nat → Int32)} {d : Nat} {Q : Option MV → MH → Prop} {u1 : Option MV} {x2 : Int32} {h : MH} (L : Lay h.2)  {Q1 : Option MV → MH → Prop} (c : Wc rod d 193 [.inl x2, .inl (1 : Int32), .inl (((1 : Int32) <<< ((h.1 84 43) &&& 31)) - (1 : Int32))] h Q1) (k : ∀ r1 h2, Q1 r1 h2 → Wb rod d B_Model_bargain 32 [some (.inr (.inr (.inl (some 84)))), u1, some (.inl x2)] (r1.toList ++ []) h2 Q) : Wb rod d B_Model_bargain 19 [some (.inr (.inr (.inl (some 84)))), u1, some (.inl x2)] [] h Q := by
  refine Wb.call (fun _ _ _ _ => b_Model_bargain_19 (Lay.o84 L)) (Q1 := Q1) ?_ ?_
  · (first | exact c | (simp only [Option.getD_some]; exact c))
  · (first | exact k | (simp only [Option.getD_some]; exact k))
theorem w_Model_bargain_32 {rod : Nat → Nat × (Nat → Int32)} {d : Nat} {Q : Option MV → MH → Prop} {u0 : Option MV} {u1 : Option MV} {u2 : Option MV} {xs0 : Int32} {h : MH}   (k1 : xs0.toInt = 0 → Wb rod d B_Model_bargain 49 [u0, u1, u2] [] h Q) (k2 : ¬ xs0.toInt = 0 → Wb rod d B_Model_bargain 35 [u0, u1, u2] [] h Q) : Wb rod d B_Model_bargain 32 [u0, u1, u2] [.inl xs0] h Q := by
  refine Wb.br (fun _ _ => b_Model_bargain_32) (fun c => ?_) (fun c => ?_)
  · have c : (decide (xs0 = 0)) = true := by first | exact c | (simp only [Option.getD_some] at c; exact c)
    (first | exact (k1 (c_eqt c)) | (simp only [Option.getD_some]; exact (k1 (c_eqt c))))
  · have c : (decide (xs0 = 0)) = false := by first | exact c | (simp only [Option.getD_some] at c; exact c)
    (first | exact (k2 (c_eqf c)) | (simp only [Option.getD_some]; exact (k2 (c_eqf c))))
theorem w_Model_bargain_35 {rod : Nat → Nat × (Nat → Int32)} {d : Nat} {Q : Option MV → MH → Prop} {u1 : Option MV} {x2 : Int32} {h : MH} (L : Lay h.2) (g0 : 0 ≤ ((h.1 84 42) + x2).toInt ∧ ((h.1 84 42) + x2).toInt < 4584) (k : Wb rod d B_Model_bargain 50 [some (.inr (.inr (.inl (some 84)))), u1, some (.inl x2)] [.inl (h.1 85 ((h.1 84 42) + x2).toNatClampNeg)] h Q) : Wb rod d B_Model_bargain 35 [some (.inr (.inr (.inl (some 84)))), u1, some (.inl x2)] [] h Q := by
  refine Wb.go (fun r hr q => b_Model_bargain_35 (Lay.o84 L) (Lay.a84_0 L (by first | exact g0 | (simp only [Option.getD_some, (Lay.r84_0 L)]; exact g0))) ?_) k
  (first | exact q | (simp only [Option.getD_some, (Lay.r84_0 L)]; exact q))
theorem w_Model_bargain_49 {rod : Nat → Nat × (Nat → Int32)} {d : Nat} {Q : Option MV → MH → Prop} {u0 : Option MV} {u1 : Option MV} {u2 : Option MV} {h : MH}   (k : Wb rod d B_Model_bargain 50 [u0, u1, u2] [.inl (-1 : Int32)] h Q) : Wb rod d B_Model_bargain 49 [u0, u1, u2] [] h Q := by
  refine Wb.go (fun r hr q => b_Model_bargain_49 ?_) k
  (first | exact q | (simp only [Option.getD_some]; exact q))
theorem w_Model_bargain_50 {rod : Nat → Nat × (Nat → Int32)} {d : Nat} {Q : Option MV → MH → Prop} {u0 : Option MV} {u1 : Option MV} {u2 : Option MV} {xs0 : Int32} {h : MH}   (q : Q (some (.inl xs0)) h) : Wb rod d B_Model_bargain 50 [u0, u1, u2] [.inl xs0] h Q := by
  refine Wb.ret (b_Model_bargain_50) ?_
  (first | exact q | (simp only [Option.getD_some]; exact q))
theorem n_Model_isBargain {rod : Nat → Nat × (Nat → Int32)} {d : Nat} {Q : Option MV → MH → Prop} {x1 : Int32} {h : MH} (k : Wb rod d B_Model_isBargain 0 [some (.inr (.inr (.inl (some 84)))), some (.inl x1)] [] h Q) : Wc rod (d + 1) 282 [.inr (.inr (.inl (some 84))), .inl x1] h Q := Wc.en (fun _ _ => e_Model_isBargain) k
theorem w_Model_isBargain_0 {rod : Nat → Nat × (Nat → Int32)} {d : Nat} {Q : Option MV → MH → Prop} {x1 : Int32} {h : MH} (L : Lay h.2)  {Q1 : Option MV → MH → Prop} (c : Wc rod d 194 [.inr (.inr (.inl (some 84))), .inl (3 : Int32), .inl x1] h Q1) (k : ∀ r1 h2, Q1 r1 h2 → Wb rod d B_Model_isBargain 6 [some (.inr (.inr (.inl (some 84)))), some (.inl x1)] (r1.toList ++ []) h2 Q) : Wb rod d B_Model_isBargain 0 [some (.inr (.inr (.inl (some 84)))), some (.inl x1)] [] h Q := by
  refine Wb.call (fun _ _ _ _ => b_Model_isBargain_0 (Lay.o84 L)) (Q1 := Q1) ?_ ?_
  · (first | exact c | (simp only [Option.getD_some]; exact c))
  · (first | exact k | (simp only [Option.getD_some]; exact k))
theorem w_Model_isBargain_6 {rod : Nat → Nat × (Nat → Int32)} {d : Nat} {Q : Option MV → MH → Prop} {u0 : Option MV} {u1 : Option MV} {xs0 : Int32} {h : MH}   (k1 : ¬ xs0.toInt = 0 → Wb rod d B_Model_isBargain 11 [u0, u1] [] h Q) (k2 : xs0.toInt = 0 → Wb rod d B_Model_isBargain 9 [u0, u1] [] h Q) : Wb rod d B_Model_isBargain 6 [u0, u1] [.inl xs0] h Q := by
  refine Wb.br (fun _ _ => b_Model_isBargain_6) (fun c => ?_) (fun c => ?_)
  · have c : (!(decide (xs0 = 0))) = true := by first | exact c | (simp only [Option.getD_some] at c; exact c)
    (first | exact (k1 (c_net c)) | (simp only [Option.getD_some]; exact (k1 (c_net c))))
  · have c : (!(decide (xs0 = 0))) = false := by first | exact c | (simp only [Option.getD_some] at c; exact c)
    (first | exact (k2 (c_nef c)) | (simp only [Option.getD_some]; exact (k2 (c_nef c))))
theorem w_Model_isBargain_9 {rod : Nat → Nat × (Nat → Int32)} {d : Nat} {Q : Option MV → MH → Prop} {u0 : Option MV} {u1 : Option MV} {h : MH}   (q : Q (some (.inl (0 : Int32))) h) : Wb rod d B_Model_isBargain 9 [u0, u1] [] h Q := by
  refine Wb.ret (b_Model_isBargain_9) ?_
  (first | exact q | (simp only [Option.getD_some]; exact q))
theorem w_Model_isBargain_11 {rod : Nat → Nat × (Nat → Int32)} {d : Nat} {Q : Option MV → MH → Prop} {x1 : Int32} {h : MH}   {Q1 : Option MV → MH → Prop} (c : Wc rod d 216 [.inl (3 : Int32), .inl x1] h Q1) (k : ∀ r1 h2, Q1 r1 h2 → Wb rod d B_Model_isBargain 17 [some (.inr (.inr (.inl (some 84)))), some (.inl x1)] (r1.toList ++ [.inr (.inr (.inl (some 84)))]) h2 Q) : Wb rod d B_Model_isBargain 11 [some (.inr (.inr (.inl (some 84)))), some (.inl x1)] [] h Q := by
  refine Wb.call (fun _ _ _ _ => b_Model_isBargain_11) (Q1 := Q1) ?_ ?_
  · (first | exact c | (simp only [Option.getD_some]; exact c))
  · (first | exact k | (simp only [Option.getD_some]; exact k))
theorem w_Model_isBargain_17 {rod : Nat → Nat × (Nat → Int32)} {d : Nat} {Q : Option MV → MH → Prop} {u0 : Option MV} {u1 : Option MV} {xs1 : Int32} {h : MH} (L : Lay h.2)  (k : Wb rod d B_Model_isBargain 20 [u0, u1] [] (sI h 84 42 xs1) Q) : Wb rod d B_Model_isBargain 17 [u0, u1] [.inl xs1, .inr (.inr (.inl (some 84)))] h Q := by
  refine Wb.go (fun r hr q => b_Model_isBargain_17 (Lay.o84 L) ?_) k
  (first | exact q | (simp only [Option.getD_some]; exact q))
theorem w_Model_isBargain_20 {rod : Nat → Nat × (Nat → Int32)} {d : Nat} {Q : Option MV → MH → Prop} {u1 : Option MV} {h : MH} (L : Lay h.2) (g0 : 0 ≤ (h.1 84 42).toInt ∧ (h.1 84 42).toInt < 4584) (k : Wb rod d B_Model_isBargain 33 [some (.inr (.inr (.inl (some 84)))), u1] [] (sI h 84 43 (h.1 85 (h.1 84 42).toNatClampNeg)) Q) : Wb rod d B_Model_isBargain 20 [some (.inr (.inr (.inl (some 84)))), u1] [] h Q := by
  refine Wb.go (fun r hr q => b_Model_isBargain_20 (Lay.o84 L) (Lay.a84_0 L (by first | exact g0 | (simp only [Option.getD_some, (Lay.r84_0 L)]; exact g0))) ?_) k
  (first | exact q | (simp only [Option.getD_some, (Lay.r84_0 L)]; exact q))
theorem w_Model_isBargain_33 {rod : Nat → Nat × (Nat → Int32)} {d : Nat} {Q : Option MV → MH → Prop} {u0 : Option MV} {u1 : Option MV} {h : MH}   (q : Q (some (.inl (1 : Int32))) h) : Wb rod d B_Model_isBargain 33 [u0, u1] [] h Q := by
  refine Wb.ret (b_Model_isBargain_33) ?_
  (first | exact q | (simp only [Option.getD_some]; exact q))
