/-! RULES OF BLOCKS over postconditions, references resolved (8) -/
theorem n_Model_byteAt {rod : Nat → Nat × (Nat → Int32)} {d : Nat} {Q : Option MV → MH → Prop} {x1 : Int32} {h : MH} (k : Wb rod d B_Model_byteAt 0 [some (.inr (.inr (.inl (some 84)))), some (.inl x1)] [] h Q) : Wc rod (d + 1) 196 [.inr (.inr (.inl (some 84))), .inl x1] h Q := Wc.en (fun _ _ => e_Model_byteAt) k
theorem w_Model_byteAt_0 {rod : Nat → Nat × (Nat → Int32)} {d : Nat} {Q : Option MV → MH → Prop} {x1 : Int32} {h : MH} (L : Lay h.2)  (k1 : (h.1 84 2).toInt ≤ x1.toInt → Wb rod d B_Model_byteAt 20 [some (.inr (.inr (.inl (some 84)))), some (.inl x1)] [] h Q) (k2 : ¬ (h.1 84 2).toInt ≤ x1.toInt → Wb rod d B_Model_byteAt 8 [some (.inr (.inr (.inl (some 84)))), some (.inl x1)] [] h Q) : Wb rod d B_Model_byteAt 0 [some (.inr (.inr (.inl (some 84)))), some (.inl x1)] [] h Q := by
  refine Wb.br (fun _ _ => b_Model_byteAt_0 (Lay.o84 L)) (fun c => ?_) (fun c => ?_)
  · have c : (decide ((h.1 84 2) ≤ x1)) = true := by first | exact c | (simp only [Option.getD_some] at c; exact c)
    (first | exact (k1 (c_let c)) | (simp only [Option.getD_some]; exact (k1 (c_let c))))
  · have c : (decide ((h.1 84 2) ≤ x1)) = false := by first | exact c | (simp only [Option.getD_some] at c; exact c)
    (first | exact (k2 (c_lef c)) | (simp only [Option.getD_some]; exact (k2 (c_lef c))))
theorem w_Model_byteAt_8 {rod : Nat → Nat × (Nat → Int32)} {d : Nat} {Q : Option MV → MH → Prop} {x1 : Int32} {h : MH} (L : Lay h.2) (g0 : 0 ≤ ((10 : Int32) + x1).toInt ∧ ((10 : Int32) + x1).toInt < 4584) (k : Wb rod d B_Model_byteAt 21 [some (.inr (.inr (.inl (some 84)))), some (.inl x1)] [.inl (h.1 85 ((10 : Int32) + x1).toNatClampNeg)] h Q) : Wb rod d B_Model_byteAt 8 [some (.inr (.inr (.inl (some 84)))), some (.inl x1)] [] h Q := by
  refine Wb.go (fun r hr q => b_Model_byteAt_8 (Lay.o84 L) (Lay.a84_0 L g0) ?_) k
  (first | exact q | (simp only [Option.getD_some, (Lay.r84_0 L)]; exact q))
theorem w_Model_byteAt_20 {rod : Nat → Nat × (Nat → Int32)} {d : Nat} {Q : Option MV → MH → Prop} {u0 : Option MV} {u1 : Option MV} {h : MH}   (k : Wb rod d B_Model_byteAt 21 [u0, u1] [.inl (-1 : Int32)] h Q) : Wb rod d B_Model_byteAt 20 [u0, u1] [] h Q := by
  refine Wb.go (fun r hr q => b_Model_byteAt_20 ?_) k
  (first | exact q | (simp only [Option.getD_some]; exact q))
theorem w_Model_byteAt_21 {rod : Nat → Nat × (Nat → Int32)} {d : Nat} {Q : Option MV → MH → Prop} {u0 : Option MV} {u1 : Option MV} {xs0 : Int32} {h : MH}   (q : Q (some (.inl xs0)) h) : Wb rod d B_Model_byteAt 21 [u0, u1] [.inl xs0] h Q := by
  refine Wb.ret (b_Model_byteAt_21) ?_
  (first | exact q | (simp only [Option.getD_some]; exact q))
theorem n_Model_isLetter {rod : Nat → Nat × (Nat → Int32)} {d : Nat} {Q : Option MV → MH → Prop} {x0 : Int32} {h : MH} (k : Wb rod d B_Model_isLetter 0 [some (.inl x0)] [] h Q) : Wc rod (d + 1) 197 [.inl x0] h Q := Wc.en (fun _ _ => e_Model_isLetter) k
theorem w_Model_isLetter_0 {rod : Nat → Nat × (Nat → Int32)} {d : Nat} {Q : Option MV → MH → Prop} {x0 : Int32} {h : MH}   (k1 : x0.toInt < 97 → Wb rod d B_Model_isLetter 16 [some (.inl x0)] [] h Q) (k2 : ¬ x0.toInt < 97 → Wb rod d B_Model_isLetter 6 [some (.inl x0)] [] h Q) : Wb rod d B_Model_isLetter 0 [some (.inl x0)] [] h Q := by
  refine Wb.br (fun _ _ => b_Model_isLetter_0) (fun c => ?_) (fun c => ?_)
  · have c : (decide (x0 < (97 : Int32))) = true := by first | exact c | (simp only [Option.getD_some] at c; exact c)
    (first | exact (k1 (c_ltt c)) | (simp only [Option.getD_some]; exact (k1 (c_ltt c))))
  · have c : (decide (x0 < (97 : Int32))) = false := by first | exact c | (simp only [Option.getD_some] at c; exact c)
    (first | exact (k2 (c_ltf c)) | (simp only [Option.getD_some]; exact (k2 (c_ltf c))))
theorem w_Model_isLetter_6 {rod : Nat → Nat × (Nat → Int32)} {d : Nat} {Q : Option MV → MH → Prop} {x0 : Int32} {h : MH}   (k1 : 122 < x0.toInt → Wb rod d B_Model_isLetter 16 [some (.inl x0)] [] h Q) (k2 : ¬ 122 < x0.toInt → Wb rod d B_Model_isLetter 12 [some (.inl x0)] [] h Q) : Wb rod d B_Model_isLetter 6 [some (.inl x0)] [] h Q := by
  refine Wb.br (fun _ _ => b_Model_isLetter_6) (fun c => ?_) (fun c => ?_)
  · have c : (decide ((122 : Int32) < x0)) = true := by first | exact c | (simp only [Option.getD_some] at c; exact c)
    (first | exact (k1 (c_ltt c)) | (simp only [Option.getD_some]; exact (k1 (c_ltt c))))
  · have c : (decide ((122 : Int32) < x0)) = false := by first | exact c | (simp only [Option.getD_some] at c; exact c)
    (first | exact (k2 (c_ltf c)) | (simp only [Option.getD_some]; exact (k2 (c_ltf c))))
theorem w_Model_isLetter_12 {rod : Nat → Nat × (Nat → Int32)} {d : Nat} {Q : Option MV → MH → Prop} {u0 : Option MV} {h : MH}   (k : Wb rod d B_Model_isLetter 17 [u0] [.inl (1 : Int32)] h Q) : Wb rod d B_Model_isLetter 12 [u0] [] h Q := by
  refine Wb.go (fun r hr q => b_Model_isLetter_12 ?_) k
  (first | exact q | (simp only [Option.getD_some]; exact q))
theorem w_Model_isLetter_16 {rod : Nat → Nat × (Nat → Int32)} {d : Nat} {Q : Option MV → MH → Prop} {u0 : Option MV} {h : MH}   (k : Wb rod d B_Model_isLetter 17 [u0] [.inl (0 : Int32)] h Q) : Wb rod d B_Model_isLetter 16 [u0] [] h Q := by
  refine Wb.go (fun r hr q => b_Model_isLetter_16 ?_) k
  (first | exact q | (simp only [Option.getD_some]; exact q))
theorem w_Model_isLetter_17 {rod : Nat → Nat × (Nat → Int32)} {d : Nat} {Q : Option MV → MH → Prop} {u0 : Option MV} {xs0 : Int32} {h : MH}  (g0 : xs0 = 0 ∨ xs0 = 1) (q : Q (some (.inl xs0)) h) : Wb rod d B_Model_isLetter 17 [u0] [.inl xs0] h Q := by
  refine Wb.ret (b_Model_isLetter_17 (d01 g0)) ?_
  (first | exact q | (simp only [Option.getD_some]; exact q))
theorem n_Model_wordOf {rod : Nat → Nat × (Nat → Int32)} {d : Nat} {Q : Option MV → MH → Prop} {z0 : Int64} {h : MH} (k : Wb rod d B_Model_wordOf 0 [some (.inr (.inl z0)), none] [] h Q) : Wc rod (d + 1) 198 [.inr (.inl z0)] h Q := Wc.en (fun _ _ => e_Model_wordOf) k
theorem w_Model_wordOf_0 {rod : Nat → Nat × (Nat → Int32)} {d : Nat} {Q : Option MV → MH → Prop} {z0 : Int64} {u1 : Option MV} {h : MH}   {Q1 : Option MV → MH → Prop} (c : Wc rod d 199 [.inl (16 : Int32), .inl (15 : Int32), .inl (15 : Int32), .inl (18 : Int32)] h Q1) (k : ∀ r1 h2, Q1 r1 h2 → Wb rod d B_Model_wordOf 12 [some (.inr (.inl z0)), u1] (r1.toList ++ [.inr (.inl z0)]) h2 Q) : Wb rod d B_Model_wordOf 0 [some (.inr (.inl z0)), u1] [] h Q := by
  refine Wb.call (fun _ _ _ _ => b_Model_wordOf_0) (Q1 := Q1) ?_ ?_
  · (first | exact c | (simp only [Option.getD_some]; exact c))
  · (first | exact k | (simp only [Option.getD_some]; exact k))
theorem w_Model_wordOf_12 {rod : Nat → Nat × (Nat → Int32)} {d : Nat} {Q : Option MV → MH → Prop} {u0 : Option MV} {u1 : Option MV} {zs0 : Int64} {zs1 : Int64} {h : MH}   (k1 : ¬ (lg_cmp zs0 zs1).toInt = 0 → Wb rod d B_Model_wordOf 18 [u0, u1] [] h Q) (k2 : (lg_cmp zs0 zs1).toInt = 0 → Wb rod d B_Model_wordOf 16 [u0, u1] [] h Q) : Wb rod d B_Model_wordOf 12 [u0, u1] [.inr (.inl zs1), .inr (.inl zs0)] h Q := by
  refine Wb.br (fun _ _ => b_Model_wordOf_12) (fun c => ?_) (fun c => ?_)
  · have c : (!(decide ((lg_cmp zs0 zs1) = 0))) = true := by first | exact c | (simp only [Option.getD_some] at c; exact c)
    (first | exact (k1 (c_net c)) | (simp only [Option.getD_some]; exact (k1 (c_net c))))
  · have c : (!(decide ((lg_cmp zs0 zs1) = 0))) = false := by first | exact c | (simp only [Option.getD_some] at c; exact c)
    (first | exact (k2 (c_nef c)) | (simp only [Option.getD_some]; exact (k2 (c_nef c))))
theorem w_Model_wordOf_16 {rod : Nat → Nat × (Nat → Int32)} {d : Nat} {Q : Option MV → MH → Prop} {u0 : Option MV} {u1 : Option MV} {h : MH}   (q : Q (some (.inl (1 : Int32))) h) : Wb rod d B_Model_wordOf 16 [u0, u1] [] h Q := by
  refine Wb.ret (b_Model_wordOf_16) ?_
  (first | exact q | (simp only [Option.getD_some]; exact q))
theorem w_Model_wordOf_18 {rod : Nat → Nat × (Nat → Int32)} {d : Nat} {Q : Option MV → MH → Prop} {z0 : Int64} {u1 : Option MV} {h : MH}   {Q1 : Option MV → MH → Prop} (c : Wc rod d 200 [.inl (0 : Int32), .inl (0 : Int32), .inl (11 : Int32), .inl (14 : Int32), .inl (9 : Int32), .inl (7 : Int32), .inl (8 : Int32), .inl (20 : Int32)] h Q1) (k : ∀ r1 h2, Q1 r1 h2 → Wb rod d B_Model_wordOf 36 [some (.inr (.inl z0)), u1] (r1.toList ++ [.inr (.inl z0)]) h2 Q) : Wb rod d B_Model_wordOf 18 [some (.inr (.inl z0)), u1] [] h Q := by
  refine Wb.call (fun _ _ _ _ => b_Model_wordOf_18) (Q1 := Q1) ?_ ?_
  · (first | exact c | (simp only [Option.getD_some]; exact c))
  · (first | exact k | (simp only [Option.getD_some]; exact k))
theorem w_Model_wordOf_36 {rod : Nat → Nat × (Nat → Int32)} {d : Nat} {Q : Option MV → MH → Prop} {u0 : Option MV} {u1 : Option MV} {zs0 : Int64} {zs1 : Int64} {h : MH}   (k1 : ¬ (lg_cmp zs0 zs1).toInt = 0 → Wb rod d B_Model_wordOf 42 [u0, u1] [] h Q) (k2 : (lg_cmp zs0 zs1).toInt = 0 → Wb rod d B_Model_wordOf 40 [u0, u1] [] h Q) : Wb rod d B_Model_wordOf 36 [u0, u1] [.inr (.inl zs1), .inr (.inl zs0)] h Q := by
  refine Wb.br (fun _ _ => b_Model_wordOf_36) (fun c => ?_) (fun c => ?_)
  · have c : (!(decide ((lg_cmp zs0 zs1) = 0))) = true := by first | exact c | (simp only [Option.getD_some] at c; exact c)
    (first | exact (k1 (c_net c)) | (simp only [Option.getD_some]; exact (k1 (c_net c))))
  · have c : (!(decide ((lg_cmp zs0 zs1) = 0))) = false := by first | exact c | (simp only [Option.getD_some] at c; exact c)
    (first | exact (k2 (c_nef c)) | (simp only [Option.getD_some]; exact (k2 (c_nef c))))
theorem w_Model_wordOf_40 {rod : Nat → Nat × (Nat → Int32)} {d : Nat} {Q : Option MV → MH → Prop} {u0 : Option MV} {u1 : Option MV} {h : MH}   (q : Q (some (.inl (2 : Int32))) h) : Wb rod d B_Model_wordOf 40 [u0, u1] [] h Q := by
  refine Wb.ret (b_Model_wordOf_40) ?_
  (first | exact q | (simp only [Option.getD_some]; exact q))
theorem w_Model_wordOf_42 {rod : Nat → Nat × (Nat → Int32)} {d : Nat} {Q : Option MV → MH → Prop} {z0 : Int64} {u1 : Option MV} {h : MH}   {Q1 : Option MV → MH → Prop} (c : Wc rod d 200 [.inl (0 : Int32), .inl (0 : Int32), .inl (0 : Int32), .inl (23 : Int32), .inl (9 : Int32), .inl (4 : Int32), .inl (15 : Int32), .inl (23 : Int32)] h Q1) (k : ∀ r1 h2, Q1 r1 h2 → Wb rod d B_Model_wordOf 58 [some (.inr (.inl z0)), u1] (r1.toList ++ [.inr (.inl z0)]) h2 Q) : Wb rod d B_Model_wordOf 42 [some (.inr (.inl z0)), u1] [] h Q := by
  refine Wb.call (fun _ _ _ _ => b_Model_wordOf_42) (Q1 := Q1) ?_ ?_
  · (first | exact c | (simp only [Option.getD_some]; exact c))
  · (first | exact k | (simp only [Option.getD_some]; exact k))
theorem w_Model_wordOf_58 {rod : Nat → Nat × (Nat → Int32)} {d : Nat} {Q : Option MV → MH → Prop} {u0 : Option MV} {u1 : Option MV} {zs0 : Int64} {zs1 : Int64} {h : MH}   (k1 : ¬ (lg_cmp zs0 zs1).toInt = 0 → Wb rod d B_Model_wordOf 64 [u0, u1] [] h Q) (k2 : (lg_cmp zs0 zs1).toInt = 0 → Wb rod d B_Model_wordOf 62 [u0, u1] [] h Q) : Wb rod d B_Model_wordOf 58 [u0, u1] [.inr (.inl zs1), .inr (.inl zs0)] h Q := by
  refine Wb.br (fun _ _ => b_Model_wordOf_58) (fun c => ?_) (fun c => ?_)
  · have c : (!(decide ((lg_cmp zs0 zs1) = 0))) = true := by first | exact c | (simp only [Option.getD_some] at c; exact c)
    (first | exact (k1 (c_net c)) | (simp only [Option.getD_some]; exact (k1 (c_net c))))
  · have c : (!(decide ((lg_cmp zs0 zs1) = 0))) = false := by first | exact c | (simp only [Option.getD_some] at c; exact c)
    (first | exact (k2 (c_nef c)) | (simp only [Option.getD_some]; exact (k2 (c_nef c))))
theorem w_Model_wordOf_62 {rod : Nat → Nat × (Nat → Int32)} {d : Nat} {Q : Option MV → MH → Prop} {u0 : Option MV} {u1 : Option MV} {h : MH}   (q : Q (some (.inl (3 : Int32))) h) : Wb rod d B_Model_wordOf 62 [u0, u1] [] h Q := by
  refine Wb.ret (b_Model_wordOf_62) ?_
  (first | exact q | (simp only [Option.getD_some]; exact q))
theorem w_Model_wordOf_64 {rod : Nat → Nat × (Nat → Int32)} {d : Nat} {Q : Option MV → MH → Prop} {z0 : Int64} {u1 : Option MV} {h : MH}   {Q1 : Option MV → MH → Prop} (c : Wc rod d 200 [.inl (0 : Int32), .inl (4 : Int32), .inl (15 : Int32), .inl (21 : Int32), .inl (2 : Int32), .inl (20 : Int32), .inl (5 : Int32), .inl (18 : Int32)] h Q1) (k : ∀ r1 h2, Q1 r1 h2 → Wb rod d B_Model_wordOf 80 [some (.inr (.inl z0)), u1] (r1.toList ++ [.inr (.inl z0)]) h2 Q) : Wb rod d B_Model_wordOf 64 [some (.inr (.inl z0)), u1] [] h Q := by
  refine Wb.call (fun _ _ _ _ => b_Model_wordOf_64) (Q1 := Q1) ?_ ?_
  · (first | exact c | (simp only [Option.getD_some]; exact c))
  · (first | exact k | (simp only [Option.getD_some]; exact k))
theorem w_Model_wordOf_80 {rod : Nat → Nat × (Nat → Int32)} {d : Nat} {Q : Option MV → MH → Prop} {u0 : Option MV} {u1 : Option MV} {zs0 : Int64} {zs1 : Int64} {h : MH}   (k1 : ¬ (lg_cmp zs0 zs1).toInt = 0 → Wb rod d B_Model_wordOf 86 [u0, u1] [] h Q) (k2 : (lg_cmp zs0 zs1).toInt = 0 → Wb rod d B_Model_wordOf 84 [u0, u1] [] h Q) : Wb rod d B_Model_wordOf 80 [u0, u1] [.inr (.inl zs1), .inr (.inl zs0)] h Q := by
  refine Wb.br (fun _ _ => b_Model_wordOf_80) (fun c => ?_) (fun c => ?_)
  · have c : (!(decide ((lg_cmp zs0 zs1) = 0))) = true := by first | exact c | (simp only [Option.getD_some] at c; exact c)
    (first | exact (k1 (c_net c)) | (simp only [Option.getD_some]; exact (k1 (c_net c))))
  · have c : (!(decide ((lg_cmp zs0 zs1) = 0))) = false := by first | exact c | (simp only [Option.getD_some] at c; exact c)
    (first | exact (k2 (c_nef c)) | (simp only [Option.getD_some]; exact (k2 (c_nef c))))
theorem w_Model_wordOf_84 {rod : Nat → Nat × (Nat → Int32)} {d : Nat} {Q : Option MV → MH → Prop} {u0 : Option MV} {u1 : Option MV} {h : MH}   (q : Q (some (.inl (4 : Int32))) h) : Wb rod d B_Model_wordOf 84 [u0, u1] [] h Q := by
  refine Wb.ret (b_Model_wordOf_84) ?_
  (first | exact q | (simp only [Option.getD_some]; exact q))
theorem w_Model_wordOf_86 {rod : Nat → Nat × (Nat → Int32)} {d : Nat} {Q : Option MV → MH → Prop} {z0 : Int64} {u1 : Option MV} {h : MH}   {Q1 : Option MV → MH → Prop} (c : Wc rod d 199 [.inl (18 : Int32), .inl (15 : Int32), .inl (1 : Int32), .inl (4 : Int32)] h Q1) (k : ∀ r1 h2, Q1 r1 h2 → Wb rod d B_Model_wordOf 96 [some (.inr (.inl z0)), u1] (r1.toList ++ [.inr (.inl z0)]) h2 Q) : Wb rod d B_Model_wordOf 86 [some (.inr (.inl z0)), u1] [] h Q := by
  refine Wb.call (fun _ _ _ _ => b_Model_wordOf_86) (Q1 := Q1) ?_ ?_
  · (first | exact c | (simp only [Option.getD_some]; exact c))
  · (first | exact k | (simp only [Option.getD_some]; exact k))
theorem w_Model_wordOf_96 {rod : Nat → Nat × (Nat → Int32)} {d : Nat} {Q : Option MV → MH → Prop} {u0 : Option MV} {u1 : Option MV} {zs0 : Int64} {zs1 : Int64} {h : MH}   (k1 : ¬ (lg_cmp zs0 zs1).toInt = 0 → Wb rod d B_Model_wordOf 102 [u0, u1] [] h Q) (k2 : (lg_cmp zs0 zs1).toInt = 0 → Wb rod d B_Model_wordOf 100 [u0, u1] [] h Q) : Wb rod d B_Model_wordOf 96 [u0, u1] [.inr (.inl zs1), .inr (.inl zs0)] h Q := by
  refine Wb.br (fun _ _ => b_Model_wordOf_96) (fun c => ?_) (fun c => ?_)
  · have c : (!(decide ((lg_cmp zs0 zs1) = 0))) = true := by first | exact c | (simp only [Option.getD_some] at c; exact c)
    (first | exact (k1 (c_net c)) | (simp only [Option.getD_some]; exact (k1 (c_net c))))
  · have c : (!(decide ((lg_cmp zs0 zs1) = 0))) = false := by first | exact c | (simp only [Option.getD_some] at c; exact c)
    (first | exact (k2 (c_nef c)) | (simp only [Option.getD_some]; exact (k2 (c_nef c))))
theorem w_Model_wordOf_100 {rod : Nat → Nat × (Nat → Int32)} {d : Nat} {Q : Option MV → MH → Prop} {u0 : Option MV} {u1 : Option MV} {h : MH}   (q : Q (some (.inl (5 : Int32))) h) : Wb rod d B_Model_wordOf 100 [u0, u1] [] h Q := by
  refine Wb.ret (b_Model_wordOf_100) ?_
  (first | exact q | (simp only [Option.getD_some]; exact q))
theorem w_Model_wordOf_102 {rod : Nat → Nat × (Nat → Int32)} {d : Nat} {Q : Option MV → MH → Prop} {z0 : Int64} {u1 : Option MV} {h : MH}   {Q1 : Option MV → MH → Prop} (c : Wc rod d 200 [.inl (0 : Int32), .inl (0 : Int32), .inl (12 : Int32), .inl (5 : Int32), .inl (20 : Int32), .inl (20 : Int32), .inl (5 : Int32), .inl (18 : Int32)] h Q1) (k : ∀ r1 h2, Q1 r1 h2 → Wb rod d B_Model_wordOf 118 [some (.inr (.inl z0)), u1] (r1.toList ++ [.inr (.inl z0)]) h2 Q) : Wb rod d B_Model_wordOf 102 [some (.inr (.inl z0)), u1] [] h Q := by
  refine Wb.call (fun _ _ _ _ => b_Model_wordOf_102) (Q1 := Q1) ?_ ?_
  · (first | exact c | (simp only [Option.getD_some]; exact c))
  · (first | exact k | (simp only [Option.getD_some]; exact k))
theorem w_Model_wordOf_118 {rod : Nat → Nat × (Nat → Int32)} {d : Nat} {Q : Option MV → MH → Prop} {u0 : Option MV} {u1 : Option MV} {zs0 : Int64} {zs1 : Int64} {h : MH}   (k1 : ¬ (lg_cmp zs0 zs1).toInt = 0 → Wb rod d B_Model_wordOf 125 [u0, u1] [] h Q) (k2 : (lg_cmp zs0 zs1).toInt = 0 → Wb rod d B_Model_wordOf 122 [u0, u1] [] h Q) : Wb rod d B_Model_wordOf 118 [u0, u1] [.inr (.inl zs1), .inr (.inl zs0)] h Q := by
  refine Wb.br (fun _ _ => b_Model_wordOf_118) (fun c => ?_) (fun c => ?_)
  · have c : (!(decide ((lg_cmp zs0 zs1) = 0))) = true := by first | exact c | (simp only [Option.getD_some] at c; exact c)
    (first | exact (k1 (c_net c)) | (simp only [Option.getD_some]; exact (k1 (c_net c))))
  · have c : (!(decide ((lg_cmp zs0 zs1) = 0))) = false := by first | exact c | (simp only [Option.getD_some] at c; exact c)
    (first | exact (k2 (c_nef c)) | (simp only [Option.getD_some]; exact (k2 (c_nef c))))
theorem w_Model_wordOf_122 {rod : Nat → Nat × (Nat → Int32)} {d : Nat} {Q : Option MV → MH → Prop} {u0 : Option MV} {u1 : Option MV} {h : MH}   (q : Q (some (.inl (6 : Int32))) h) : Wb rod d B_Model_wordOf 122 [u0, u1] [] h Q := by
  refine Wb.ret (b_Model_wordOf_122) ?_
  (first | exact q | (simp only [Option.getD_some]; exact q))
theorem w_Model_wordOf_125 {rod : Nat → Nat × (Nat → Int32)} {d : Nat} {Q : Option MV → MH → Prop} {z0 : Int64} {u1 : Option MV} {h : MH}   {Q1 : Option MV → MH → Prop} (c : Wc rod d 200 [.inl (0 : Int32), .inl (0 : Int32), .inl (0 : Int32), .inl (20 : Int32), .inl (15 : Int32), .inl (23 : Int32), .inl (14 : Int32), .inl (19 : Int32)] h Q1) (k : ∀ r1 h2, Q1 r1 h2 → Wb rod d B_Model_wordOf 142 [some (.inr (.inl z0)), u1] (r1.toList ++ [.inr (.inl z0)]) h2 Q) : Wb rod d B_Model_wordOf 125 [some (.inr (.inl z0)), u1] [] h Q := by
  refine Wb.call (fun _ _ _ _ => b_Model_wordOf_125) (Q1 := Q1) ?_ ?_
  · (first | exact c | (simp only [Option.getD_some]; exact c))
  · (first | exact k | (simp only [Option.getD_some]; exact k))
theorem w_Model_wordOf_142 {rod : Nat → Nat × (Nat → Int32)} {d : Nat} {Q : Option MV → MH → Prop} {u0 : Option MV} {u1 : Option MV} {zs0 : Int64} {zs1 : Int64} {h : MH}   (k1 : ¬ (lg_cmp zs0 zs1).toInt = 0 → Wb rod d B_Model_wordOf 149 [u0, u1] [] h Q) (k2 : (lg_cmp zs0 zs1).toInt = 0 → Wb rod d B_Model_wordOf 146 [u0, u1] [] h Q) : Wb rod d B_Model_wordOf 142 [u0, u1] [.inr (.inl zs1), .inr (.inl zs0)] h Q := by
  refine Wb.br (fun _ _ => b_Model_wordOf_142) (fun c => ?_) (fun c => ?_)
  · have c : (!(decide ((lg_cmp zs0 zs1) = 0))) = true := by first | exact c | (simp only [Option.getD_some] at c; exact c)
    (first | exact (k1 (c_net c)) | (simp only [Option.getD_some]; exact (k1 (c_net c))))
  · have c : (!(decide ((lg_cmp zs0 zs1) = 0))) = false := by first | exact c | (simp only [Option.getD_some] at c; exact c)
    (first | exact (k2 (c_nef c)) | (simp only [Option.getD_some]; exact (k2 (c_nef c))))
theorem w_Model_wordOf_146 {rod : Nat → Nat × (Nat → Int32)} {d : Nat} {Q : Option MV → MH → Prop} {u0 : Option MV} {u1 : Option MV} {h : MH}   (q : Q (some (.inl (7 : Int32))) h) : Wb rod d B_Model_wordOf 146 [u0, u1] [] h Q := by
  refine Wb.ret (b_Model_wordOf_146) ?_
  (first | exact q | (simp only [Option.getD_some]; exact q))
theorem w_Model_wordOf_149 {rod : Nat → Nat × (Nat → Int32)} {d : Nat} {Q : Option MV → MH → Prop} {z0 : Int64} {u1 : Option MV} {h : MH}   {Q1 : Option MV → MH → Prop} (c : Wc rod d 199 [.inl (2 : Int32), .inl (1 : Int32), .inl (14 : Int32), .inl (11 : Int32)] h Q1) (k : ∀ r1 h2, Q1 r1 h2 → Wb rod d B_Model_wordOf 159 [some (.inr (.inl z0)), u1] (r1.toList ++ [.inr (.inl z0)]) h2 Q) : Wb rod d B_Model_wordOf 149 [some (.inr (.inl z0)), u1] [] h Q := by
  refine Wb.call (fun _ _ _ _ => b_Model_wordOf_149) (Q1 := Q1) ?_ ?_
  · (first | exact c | (simp only [Option.getD_some]; exact c))
  · (first | exact k | (simp only [Option.getD_some]; exact k))
theorem w_Model_wordOf_159 {rod : Nat → Nat × (Nat → Int32)} {d : Nat} {Q : Option MV → MH → Prop} {u0 : Option MV} {u1 : Option MV} {zs0 : Int64} {zs1 : Int64} {h : MH}   (k1 : ¬ (lg_cmp zs0 zs1).toInt = 0 → Wb rod d B_Model_wordOf 166 [u0, u1] [] h Q) (k2 : (lg_cmp zs0 zs1).toInt = 0 → Wb rod d B_Model_wordOf 163 [u0, u1] [] h Q) : Wb rod d B_Model_wordOf 159 [u0, u1] [.inr (.inl zs1), .inr (.inl zs0)] h Q := by
  refine Wb.br (fun _ _ => b_Model_wordOf_159) (fun c => ?_) (fun c => ?_)
  · have c : (!(decide ((lg_cmp zs0 zs1) = 0))) = true := by first | exact c | (simp only [Option.getD_some] at c; exact c)
    (first | exact (k1 (c_net c)) | (simp only [Option.getD_some]; exact (k1 (c_net c))))
  · have c : (!(decide ((lg_cmp zs0 zs1) = 0))) = false := by first | exact c | (simp only [Option.getD_some] at c; exact c)
    (first | exact (k2 (c_nef c)) | (simp only [Option.getD_some]; exact (k2 (c_nef c))))
theorem w_Model_wordOf_163 {rod : Nat → Nat × (Nat → Int32)} {d : Nat} {Q : Option MV → MH → Prop} {u0 : Option MV} {u1 : Option MV} {h : MH}   (q : Q (some (.inl (8 : Int32))) h) : Wb rod d B_Model_wordOf 163 [u0, u1] [] h Q := by
  refine Wb.ret (b_Model_wordOf_163) ?_
  (first | exact q | (simp only [Option.getD_some]; exact q))
theorem w_Model_wordOf_166 {rod : Nat → Nat × (Nat → Int32)} {d : Nat} {Q : Option MV → MH → Prop} {z0 : Int64} {u1 : Option MV} {h : MH}   {Q1 : Option MV → MH → Prop} (c : Wc rod d 200 [.inl (0 : Int32), .inl (0 : Int32), .inl (0 : Int32), .inl (18 : Int32), .inl (21 : Int32), .inl (12 : Int32), .inl (5 : Int32), .inl (18 : Int32)] h Q1) (k : ∀ r1 h2, Q1 r1 h2 → Wb rod d B_Model_wordOf 182 [some (.inr (.inl z0)), u1] (r1.toList ++ [.inr (.inl z0)]) h2 Q) : Wb rod d B_Model_wordOf 166 [some (.inr (.inl z0)), u1] [] h Q := by
  refine Wb.call (fun _ _ _ _ => b_Model_wordOf_166) (Q1 := Q1) ?_ ?_
  · (first | exact c | (simp only [Option.getD_some]; exact c))
  · (first | exact k | (simp only [Option.getD_some]; exact k))
theorem w_Model_wordOf_182 {rod : Nat → Nat × (Nat → Int32)} {d : Nat} {Q : Option MV → MH → Prop} {u0 : Option MV} {u1 : Option MV} {zs0 : Int64} {zs1 : Int64} {h : MH}   (k1 : ¬ (lg_cmp zs0 zs1).toInt = 0 → Wb rod d B_Model_wordOf 189 [u0, u1] [] h Q) (k2 : (lg_cmp zs0 zs1).toInt = 0 → Wb rod d B_Model_wordOf 186 [u0, u1] [] h Q) : Wb rod d B_Model_wordOf 182 [u0, u1] [.inr (.inl zs1), .inr (.inl zs0)] h Q := by
  refine Wb.br (fun _ _ => b_Model_wordOf_182) (fun c => ?_) (fun c => ?_)
  · have c : (!(decide ((lg_cmp zs0 zs1) = 0))) = true := by first | exact c | (simp only [Option.getD_some] at c; exact c)
    (first | exact (k1 (c_net c)) | (simp only [Option.getD_some]; exact (k1 (c_net c))))
  · have c : (!(decide ((lg_cmp zs0 zs1) = 0))) = false := by first | exact c | (simp only [Option.getD_some] at c; exact c)
    (first | exact (k2 (c_nef c)) | (simp only [Option.getD_some]; exact (k2 (c_nef c))))
theorem w_Model_wordOf_186 {rod : Nat → Nat × (Nat → Int32)} {d : Nat} {Q : Option MV → MH → Prop} {u0 : Option MV} {u1 : Option MV} {h : MH}   (q : Q (some (.inl (9 : Int32))) h) : Wb rod d B_Model_wordOf 186 [u0, u1] [] h Q := by
  refine Wb.ret (b_Model_wordOf_186) ?_
  (first | exact q | (simp only [Option.getD_some]; exact q))
theorem w_Model_wordOf_189 {rod : Nat → Nat × (Nat → Int32)} {d : Nat} {Q : Option MV → MH → Prop} {z0 : Int64} {u1 : Option MV} {h : MH}   {Q1 : Option MV → MH → Prop} (c : Wc rod d 199 [.inl (19 : Int32), .inl (8 : Int32), .inl (21 : Int32), .inl (20 : Int32)] h Q1) (k : ∀ r1 h2, Q1 r1 h2 → Wb rod d B_Model_wordOf 201 [some (.inr (.inl z0)), u1] (r1.toList ++ [.inr (.inl z0)]) h2 Q) : Wb rod d B_Model_wordOf 189 [some (.inr (.inl z0)), u1] [] h Q := by
  refine Wb.call (fun _ _ _ _ => b_Model_wordOf_189) (Q1 := Q1) ?_ ?_
  · (first | exact c | (simp only [Option.getD_some]; exact c))
  · (first | exact k | (simp only [Option.getD_some]; exact k))
theorem w_Model_wordOf_201 {rod : Nat → Nat × (Nat → Int32)} {d : Nat} {Q : Option MV → MH → Prop} {u0 : Option MV} {u1 : Option MV} {zs0 : Int64} {zs1 : Int64} {h : MH}   (k1 : ¬ (lg_cmp zs0 zs1).toInt = 0 → Wb rod d B_Model_wordOf 208 [u0, u1] [] h Q) (k2 : (lg_cmp zs0 zs1).toInt = 0 → Wb rod d B_Model_wordOf 205 [u0, u1] [] h Q) : Wb rod d B_Model_wordOf 201 [u0, u1] [.inr (.inl zs1), .inr (.inl zs0)] h Q := by
  refine Wb.br (fun _ _ => b_Model_wordOf_201) (fun c => ?_) (fun c => ?_)
  · have c : (!(decide ((lg_cmp zs0 zs1) = 0))) = true := by first | exact c | (simp only [Option.getD_some] at c; exact c)
    (first | exact (k1 (c_net c)) | (simp only [Option.getD_some]; exact (k1 (c_net c))))
  · have c : (!(decide ((lg_cmp zs0 zs1) = 0))) = false := by first | exact c | (simp only [Option.getD_some] at c; exact c)
    (first | exact (k2 (c_nef c)) | (simp only [Option.getD_some]; exact (k2 (c_nef c))))
theorem w_Model_wordOf_205 {rod : Nat → Nat × (Nat → Int32)} {d : Nat} {Q : Option MV → MH → Prop} {u0 : Option MV} {u1 : Option MV} {h : MH}   (q : Q (some (.inl (10 : Int32))) h) : Wb rod d B_Model_wordOf 205 [u0, u1] [] h Q := by
  refine Wb.ret (b_Model_wordOf_205) ?_
  (first | exact q | (simp only [Option.getD_some]; exact q))
theorem w_Model_wordOf_208 {rod : Nat → Nat × (Nat → Int32)} {d : Nat} {Q : Option MV → MH → Prop} {z0 : Int64} {u1 : Option MV} {h : MH}   {Q1 : Option MV → MH → Prop} (c : Wc rod d 199 [.inl (19 : Int32), .inl (5 : Int32), .inl (12 : Int32), .inl (12 : Int32)] h Q1) (k : ∀ r1 h2, Q1 r1 h2 → Wb rod d B_Model_wordOf 219 [some (.inr (.inl z0)), u1] (r1.toList ++ [.inr (.inl z0)]) h2 Q) : Wb rod d B_Model_wordOf 208 [some (.inr (.inl z0)), u1] [] h Q := by
  refine Wb.call (fun _ _ _ _ => b_Model_wordOf_208) (Q1 := Q1) ?_ ?_
  · (first | exact c | (simp only [Option.getD_some]; exact c))
  · (first | exact k | (simp only [Option.getD_some]; exact k))
theorem w_Model_wordOf_219 {rod : Nat → Nat × (Nat → Int32)} {d : Nat} {Q : Option MV → MH → Prop} {u0 : Option MV} {u1 : Option MV} {zs0 : Int64} {zs1 : Int64} {h : MH}   (k1 : ¬ (lg_cmp zs0 zs1).toInt = 0 → Wb rod d B_Model_wordOf 226 [u0, u1] [] h Q) (k2 : (lg_cmp zs0 zs1).toInt = 0 → Wb rod d B_Model_wordOf 223 [u0, u1] [] h Q) : Wb rod d B_Model_wordOf 219 [u0, u1] [.inr (.inl zs1), .inr (.inl zs0)] h Q := by
  refine Wb.br (fun _ _ => b_Model_wordOf_219) (fun c => ?_) (fun c => ?_)
  · have c : (!(decide ((lg_cmp zs0 zs1) = 0))) = true := by first | exact c | (simp only [Option.getD_some] at c; exact c)
    (first | exact (k1 (c_net c)) | (simp only [Option.getD_some]; exact (k1 (c_net c))))
  · have c : (!(decide ((lg_cmp zs0 zs1) = 0))) = false := by first | exact c | (simp only [Option.getD_some] at c; exact c)
    (first | exact (k2 (c_nef c)) | (simp only [Option.getD_some]; exact (k2 (c_nef c))))
theorem w_Model_wordOf_223 {rod : Nat → Nat × (Nat → Int32)} {d : Nat} {Q : Option MV → MH → Prop} {u0 : Option MV} {u1 : Option MV} {h : MH}   (q : Q (some (.inl (11 : Int32))) h) : Wb rod d B_Model_wordOf 223 [u0, u1] [] h Q := by
  refine Wb.ret (b_Model_wordOf_223) ?_
  (first | exact q | (simp only [Option.getD_some]; exact q))
theorem w_Model_wordOf_226 {rod : Nat → Nat × (Nat → Int32)} {d : Nat} {Q : Option MV → MH → Prop} {z0 : Int64} {u1 : Option MV} {h : MH}   {Q1 : Option MV → MH → Prop} (c : Wc rod d 199 [.inl (0 : Int32), .inl (19 : Int32), .inl (9 : Int32), .inl (14 : Int32)] h Q1) (k : ∀ r1 h2, Q1 r1 h2 → Wb rod d B_Model_wordOf 237 [some (.inr (.inl z0)), u1] (r1.toList ++ [.inr (.inl z0)]) h2 Q) : Wb rod d B_Model_wordOf 226 [some (.inr (.inl z0)), u1] [] h Q := by
  refine Wb.call (fun _ _ _ _ => b_Model_wordOf_226) (Q1 := Q1) ?_ ?_
  · (first | exact c | (simp only [Option.getD_some]; exact c))
  · (first | exact k | (simp only [Option.getD_some]; exact k))
theorem w_Model_wordOf_237 {rod : Nat → Nat × (Nat → Int32)} {d : Nat} {Q : Option MV → MH → Prop} {u0 : Option MV} {u1 : Option MV} {zs0 : Int64} {zs1 : Int64} {h : MH}   (k1 : ¬ (lg_cmp zs0 zs1).toInt = 0 → Wb rod d B_Model_wordOf 244 [u0, u1] [] h Q) (k2 : (lg_cmp zs0 zs1).toInt = 0 → Wb rod d B_Model_wordOf 241 [u0, u1] [] h Q) : Wb rod d B_Model_wordOf 237 [u0, u1] [.inr (.inl zs1), .inr (.inl zs0)] h Q := by
  refine Wb.br (fun _ _ => b_Model_wordOf_237) (fun c => ?_) (fun c => ?_)
  · have c : (!(decide ((lg_cmp zs0 zs1) = 0))) = true := by first | exact c | (simp only [Option.getD_some] at c; exact c)
    (first | exact (k1 (c_net c)) | (simp only [Option.getD_some]; exact (k1 (c_net c))))
  · have c : (!(decide ((lg_cmp zs0 zs1) = 0))) = false := by first | exact c | (simp only [Option.getD_some] at c; exact c)
    (first | exact (k2 (c_nef c)) | (simp only [Option.getD_some]; exact (k2 (c_nef c))))
theorem w_Model_wordOf_241 {rod : Nat → Nat × (Nat → Int32)} {d : Nat} {Q : Option MV → MH → Prop} {u0 : Option MV} {u1 : Option MV} {h : MH}   (q : Q (some (.inl (12 : Int32))) h) : Wb rod d B_Model_wordOf 241 [u0, u1] [] h Q := by
  refine Wb.ret (b_Model_wordOf_241) ?_
  (first | exact q | (simp only [Option.getD_some]; exact q))
theorem w_Model_wordOf_244 {rod : Nat → Nat × (Nat → Int32)} {d : Nat} {Q : Option MV → MH → Prop} {z0 : Int64} {u1 : Option MV} {h : MH}   {Q1 : Option MV → MH → Prop} (c : Wc rod d 199 [.inl (0 : Int32), .inl (0 : Int32), .inl (7 : Int32), .inl (15 : Int32)] h Q1) (k : ∀ r1 h2, Q1 r1 h2 → Wb rod d B_Model_wordOf 254 [some (.inr (.inl z0)), u1] (r1.toList ++ [.inr (.inl z0)]) h2 Q) : Wb rod d B_Model_wordOf 244 [some (.inr (.inl z0)), u1] [] h Q := by
  refine Wb.call (fun _ _ _ _ => b_Model_wordOf_244) (Q1 := Q1) ?_ ?_
  · (first | exact c | (simp only [Option.getD_some]; exact c))
  · (first | exact k | (simp only [Option.getD_some]; exact k))
theorem w_Model_wordOf_254 {rod : Nat → Nat × (Nat → Int32)} {d : Nat} {Q : Option MV → MH → Prop} {u0 : Option MV} {u1 : Option MV} {zs0 : Int64} {zs1 : Int64} {h : MH}   (k1 : ¬ (lg_cmp zs0 zs1).toInt = 0 → Wb rod d B_Model_wordOf 261 [u0, u1] [] h Q) (k2 : (lg_cmp zs0 zs1).toInt = 0 → Wb rod d B_Model_wordOf 258 [u0, u1] [] h Q) : Wb rod d B_Model_wordOf 254 [u0, u1] [.inr (.inl zs1), .inr (.inl zs0)] h Q := by
  refine Wb.br (fun _ _ => b_Model_wordOf_254) (fun c => ?_) (fun c => ?_)
  · have c : (!(decide ((lg_cmp zs0 zs1) = 0))) = true := by first | exact c | (simp only [Option.getD_some] at c; exact c)
    (first | exact (k1 (c_net c)) | (simp only [Option.getD_some]; exact (k1 (c_net c))))
  · have c : (!(decide ((lg_cmp zs0 zs1) = 0))) = false := by first | exact c | (simp only [Option.getD_some] at c; exact c)
    (first | exact (k2 (c_nef c)) | (simp only [Option.getD_some]; exact (k2 (c_nef c))))
theorem w_Model_wordOf_258 {rod : Nat → Nat × (Nat → Int32)} {d : Nat} {Q : Option MV → MH → Prop} {u0 : Option MV} {u1 : Option MV} {h : MH}   (q : Q (some (.inl (13 : Int32))) h) : Wb rod d B_Model_wordOf 258 [u0, u1] [] h Q := by
  refine Wb.ret (b_Model_wordOf_258) ?_
  (first | exact q | (simp only [Option.getD_some]; exact q))
theorem w_Model_wordOf_261 {rod : Nat → Nat × (Nat → Int32)} {d : Nat} {Q : Option MV → MH → Prop} {z0 : Int64} {u1 : Option MV} {h : MH}   {Q1 : Option MV → MH → Prop} (c : Wc rod d 199 [.inl (15 : Int32), .inl (16 : Int32), .inl (5 : Int32), .inl (14 : Int32)] h Q1) (k : ∀ r1 h2, Q1 r1 h2 → Wb rod d B_Model_wordOf 272 [some (.inr (.inl z0)), u1] (r1.toList ++ [.inr (.inl z0)]) h2 Q) : Wb rod d B_Model_wordOf 261 [some (.inr (.inl z0)), u1] [] h Q := by
  refine Wb.call (fun _ _ _ _ => b_Model_wordOf_261) (Q1 := Q1) ?_ ?_
  · (first | exact c | (simp only [Option.getD_some]; exact c))
  · (first | exact k | (simp only [Option.getD_some]; exact k))
theorem w_Model_wordOf_272 {rod : Nat → Nat × (Nat → Int32)} {d : Nat} {Q : Option MV → MH → Prop} {u0 : Option MV} {u1 : Option MV} {zs0 : Int64} {zs1 : Int64} {h : MH}   (k1 : ¬ (lg_cmp zs0 zs1).toInt = 0 → Wb rod d B_Model_wordOf 279 [u0, u1] [] h Q) (k2 : (lg_cmp zs0 zs1).toInt = 0 → Wb rod d B_Model_wordOf 276 [u0, u1] [] h Q) : Wb rod d B_Model_wordOf 272 [u0, u1] [.inr (.inl zs1), .inr (.inl zs0)] h Q := by
  refine Wb.br (fun _ _ => b_Model_wordOf_272) (fun c => ?_) (fun c => ?_)
  · have c : (!(decide ((lg_cmp zs0 zs1) = 0))) = true := by first | exact c | (simp only [Option.getD_some] at c; exact c)
    (first | exact (k1 (c_net c)) | (simp only [Option.getD_some]; exact (k1 (c_net c))))
  · have c : (!(decide ((lg_cmp zs0 zs1) = 0))) = false := by first | exact c | (simp only [Option.getD_some] at c; exact c)
    (first | exact (k2 (c_nef c)) | (simp only [Option.getD_some]; exact (k2 (c_nef c))))
theorem w_Model_wordOf_276 {rod : Nat → Nat × (Nat → Int32)} {d : Nat} {Q : Option MV → MH → Prop} {u0 : Option MV} {u1 : Option MV} {h : MH}   (q : Q (some (.inl (14 : Int32))) h) : Wb rod d B_Model_wordOf 276 [u0, u1] [] h Q := by
  refine Wb.ret (b_Model_wordOf_276) ?_
  (first | exact q | (simp only [Option.getD_some]; exact q))
theorem w_Model_wordOf_279 {rod : Nat → Nat × (Nat → Int32)} {d : Nat} {Q : Option MV → MH → Prop} {z0 : Int64} {u1 : Option MV} {h : MH}   {Q1 : Option MV → MH → Prop} (c : Wc rod d 200 [.inl (0 : Int32), .inl (0 : Int32), .inl (0 : Int32), .inl (4 : Int32), .inl (15 : Int32), .inl (21 : Int32), .inl (2 : Int32), .inl (20 : Int32)] h Q1) (k : ∀ r1 h2, Q1 r1 h2 → Wb rod d B_Model_wordOf 294 [some (.inr (.inl z0)), u1] (r1.toList ++ [.inr (.inl z0)]) h2 Q) : Wb rod d B_Model_wordOf 279 [some (.inr (.inl z0)), u1] [] h Q := by
  refine Wb.call (fun _ _ _ _ => b_Model_wordOf_279) (Q1 := Q1) ?_ ?_
  · (first | exact c | (simp only [Option.getD_some]; exact c))
  · (first | exact k | (simp only [Option.getD_some]; exact k))
theorem w_Model_wordOf_294 {rod : Nat → Nat × (Nat → Int32)} {d : Nat} {Q : Option MV → MH → Prop} {u0 : Option MV} {u1 : Option MV} {zs0 : Int64} {zs1 : Int64} {h : MH}   (k1 : ¬ (lg_cmp zs0 zs1).toInt = 0 → Wb rod d B_Model_wordOf 301 [u0, u1] [] h Q) (k2 : (lg_cmp zs0 zs1).toInt = 0 → Wb rod d B_Model_wordOf 298 [u0, u1] [] h Q) : Wb rod d B_Model_wordOf 294 [u0, u1] [.inr (.inl zs1), .inr (.inl zs0)] h Q := by
  refine Wb.br (fun _ _ => b_Model_wordOf_294) (fun c => ?_) (fun c => ?_)
  · have c : (!(decide ((lg_cmp zs0 zs1) = 0))) = true := by first | exact c | (simp only [Option.getD_some] at c; exact c)
    (first | exact (k1 (c_net c)) | (simp only [Option.getD_some]; exact (k1 (c_net c))))
  · have c : (!(decide ((lg_cmp zs0 zs1) = 0))) = false := by first | exact c | (simp only [Option.getD_some] at c; exact c)
    (first | exact (k2 (c_nef c)) | (simp only [Option.getD_some]; exact (k2 (c_nef c))))
theorem w_Model_wordOf_298 {rod : Nat → Nat × (Nat → Int32)} {d : Nat} {Q : Option MV → MH → Prop} {u0 : Option MV} {u1 : Option MV} {h : MH}   (q : Q (some (.inl (15 : Int32))) h) : Wb rod d B_Model_wordOf 298 [u0, u1] [] h Q := by
  refine Wb.ret (b_Model_wordOf_298) ?_
  (first | exact q | (simp only [Option.getD_some]; exact q))
theorem w_Model_wordOf_301 {rod : Nat → Nat × (Nat → Int32)} {d : Nat} {Q : Option MV → MH → Prop} {z0 : Int64} {u1 : Option MV} {h : MH}   {Q1 : Option MV → MH → Prop} (c : Wc rod d 200 [.inl (0 : Int32), .inl (10 : Int32), .inl (21 : Int32), .inl (2 : Int32), .inl (9 : Int32), .inl (12 : Int32), .inl (5 : Int32), .inl (5 : Int32)] h Q1) (k : ∀ r1 h2, Q1 r1 h2 → Wb rod d B_Model_wordOf 317 [some (.inr (.inl z0)), u1] (r1.toList ++ [.inr (.inl z0)]) h2 Q) : Wb rod d B_Model_wordOf 301 [some (.inr (.inl z0)), u1] [] h Q := by
  refine Wb.call (fun _ _ _ _ => b_Model_wordOf_301) (Q1 := Q1) ?_ ?_
  · (first | exact c | (simp only [Option.getD_some]; exact c))
  · (first | exact k | (simp only [Option.getD_some]; exact k))
theorem w_Model_wordOf_317 {rod : Nat → Nat × (Nat → Int32)} {d : Nat} {Q : Option MV → MH → Prop} {u0 : Option MV} {u1 : Option MV} {zs0 : Int64} {zs1 : Int64} {h : MH}   (k1 : ¬ (lg_cmp zs0 zs1).toInt = 0 → Wb rod d B_Model_wordOf 324 [u0, u1] [] h Q) (k2 : (lg_cmp zs0 zs1).toInt = 0 → Wb rod d B_Model_wordOf 321 [u0, u1] [] h Q) : Wb rod d B_Model_wordOf 317 [u0, u1] [.inr (.inl zs1), .inr (.inl zs0)] h Q := by
  refine Wb.br (fun _ _ => b_Model_wordOf_317) (fun c => ?_) (fun c => ?_)
  · have c : (!(decide ((lg_cmp zs0 zs1) = 0))) = true := by first | exact c | (simp only [Option.getD_some] at c; exact c)
    (first | exact (k1 (c_net c)) | (simp only [Option.getD_some]; exact (k1 (c_net c))))
  · have c : (!(decide ((lg_cmp zs0 zs1) = 0))) = false := by first | exact c | (simp only [Option.getD_some] at c; exact c)
    (first | exact (k2 (c_nef c)) | (simp only [Option.getD_some]; exact (k2 (c_nef c))))
theorem w_Model_wordOf_321 {rod : Nat → Nat × (Nat → Int32)} {d : Nat} {Q : Option MV → MH → Prop} {u0 : Option MV} {u1 : Option MV} {h : MH}   (q : Q (some (.inl (16 : Int32))) h) : Wb rod d B_Model_wordOf 321 [u0, u1] [] h Q := by
  refine Wb.ret (b_Model_wordOf_321) ?_
  (first | exact q | (simp only [Option.getD_some]; exact q))
theorem w_Model_wordOf_324 {rod : Nat → Nat × (Nat → Int32)} {d : Nat} {Q : Option MV → MH → Prop} {z0 : Int64} {u1 : Option MV} {h : MH}   {Q1 : Option MV → MH → Prop} (c : Wc rod d 199 [.inl (0 : Int32), .inl (0 : Int32), .inl (9 : Int32), .inl (14 : Int32)] h Q1) (k : ∀ r1 h2, Q1 r1 h2 → Wb rod d B_Model_wordOf 334 [some (.inr (.inl z0)), u1] (r1.toList ++ [.inr (.inl z0)]) h2 Q) : Wb rod d B_Model_wordOf 324 [some (.inr (.inl z0)), u1] [] h Q := by
  refine Wb.call (fun _ _ _ _ => b_Model_wordOf_324) (Q1 := Q1) ?_ ?_
  · (first | exact c | (simp only [Option.getD_some]; exact c))
  · (first | exact k | (simp only [Option.getD_some]; exact k))
theorem w_Model_wordOf_334 {rod : Nat → Nat × (Nat → Int32)} {d : Nat} {Q : Option MV → MH → Prop} {u0 : Option MV} {u1 : Option MV} {zs0 : Int64} {zs1 : Int64} {h : MH}   (k1 : ¬ (lg_cmp zs0 zs1).toInt = 0 → Wb rod d B_Model_wordOf 341 [u0, u1] [] h Q) (k2 : (lg_cmp zs0 zs1).toInt = 0 → Wb rod d B_Model_wordOf 338 [u0, u1] [] h Q) : Wb rod d B_Model_wordOf 334 [u0, u1] [.inr (.inl zs1), .inr (.inl zs0)] h Q := by
  refine Wb.br (fun _ _ => b_Model_wordOf_334) (fun c => ?_) (fun c => ?_)
  · have c : (!(decide ((lg_cmp zs0 zs1) = 0))) = true := by first | exact c | (simp only [Option.getD_some] at c; exact c)
    (first | exact (k1 (c_net c)) | (simp only [Option.getD_some]; exact (k1 (c_net c))))
  · have c : (!(decide ((lg_cmp zs0 zs1) = 0))) = false := by first | exact c | (simp only [Option.getD_some] at c; exact c)
    (first | exact (k2 (c_nef c)) | (simp only [Option.getD_some]; exact (k2 (c_nef c))))
theorem w_Model_wordOf_338 {rod : Nat → Nat × (Nat → Int32)} {d : Nat} {Q : Option MV → MH → Prop} {u0 : Option MV} {u1 : Option MV} {h : MH}   (q : Q (some (.inl (17 : Int32))) h) : Wb rod d B_Model_wordOf 338 [u0, u1] [] h Q := by
  refine Wb.ret (b_Model_wordOf_338) ?_
  (first | exact q | (simp only [Option.getD_some]; exact q))
theorem w_Model_wordOf_341 {rod : Nat → Nat × (Nat → Int32)} {d : Nat} {Q : Option MV → MH → Prop} {z0 : Int64} {u1 : Option MV} {h : MH}   {Q1 : Option MV → MH → Prop} (c : Wc rod d 199 [.inl (0 : Int32), .inl (15 : Int32), .inl (21 : Int32), .inl (20 : Int32)] h Q1) (k : ∀ r1 h2, Q1 r1 h2 → Wb rod d B_Model_wordOf 352 [some (.inr (.inl z0)), u1] (r1.toList ++ [.inr (.inl z0)]) h2 Q) : Wb rod d B_Model_wordOf 341 [some (.inr (.inl z0)), u1] [] h Q := by
  refine Wb.call (fun _ _ _ _ => b_Model_wordOf_341) (Q1 := Q1) ?_ ?_
  · (first | exact c | (simp only [Option.getD_some]; exact c))
  · (first | exact k | (simp only [Option.getD_some]; exact k))
theorem w_Model_wordOf_352 {rod : Nat → Nat × (Nat → Int32)} {d : Nat} {Q : Option MV → MH → Prop} {u0 : Option MV} {u1 : Option MV} {zs0 : Int64} {zs1 : Int64} {h : MH}   (k1 : ¬ (lg_cmp zs0 zs1).toInt = 0 → Wb rod d B_Model_wordOf 359 [u0, u1] [] h Q) (k2 : (lg_cmp zs0 zs1).toInt = 0 → Wb rod d B_Model_wordOf 356 [u0, u1] [] h Q) : Wb rod d B_Model_wordOf 352 [u0, u1] [.inr (.inl zs1), .inr (.inl zs0)] h Q := by
  refine Wb.br (fun _ _ => b_Model_wordOf_352) (fun c => ?_) (fun c => ?_)
  · have c : (!(decide ((lg_cmp zs0 zs1) = 0))) = true := by first | exact c | (simp only [Option.getD_some] at c; exact c)
    (first | exact (k1 (c_net c)) | (simp only [Option.getD_some]; exact (k1 (c_net c))))
  · have c : (!(decide ((lg_cmp zs0 zs1) = 0))) = false := by first | exact c | (simp only [Option.getD_some] at c; exact c)
    (first | exact (k2 (c_nef c)) | (simp only [Option.getD_some]; exact (k2 (c_nef c))))
theorem w_Model_wordOf_356 {rod : Nat → Nat × (Nat → Int32)} {d : Nat} {Q : Option MV → MH → Prop} {u0 : Option MV} {u1 : Option MV} {h : MH}   (q : Q (some (.inl (18 : Int32))) h) : Wb rod d B_Model_wordOf 356 [u0, u1] [] h Q := by
  refine Wb.ret (b_Model_wordOf_356) ?_
  (first | exact q | (simp only [Option.getD_some]; exact q))
theorem w_Model_wordOf_359 {rod : Nat → Nat × (Nat → Int32)} {d : Nat} {Q : Option MV → MH → Prop} {z0 : Int64} {u1 : Option MV} {h : MH}   {Q1 : Option MV → MH → Prop} (c : Wc rod d 200 [.inl (0 : Int32), .inl (0 : Int32), .inl (0 : Int32), .inl (3 : Int32), .inl (15 : Int32), .inl (21 : Int32), .inl (14 : Int32), .inl (20 : Int32)] h Q1) (k : ∀ r1 h2, Q1 r1 h2 → Wb rod d B_Model_wordOf 375 [some (.inr (.inl z0)), u1] (r1.toList ++ [.inr (.inl z0)]) h2 Q) : Wb rod d B_Model_wordOf 359 [some (.inr (.inl z0)), u1] [] h Q := by
  refine Wb.call (fun _ _ _ _ => b_Model_wordOf_359) (Q1 := Q1) ?_ ?_
  · (first | exact c | (simp only [Option.getD_some]; exact c))
  · (first | exact k | (simp only [Option.getD_some]; exact k))
theorem w_Model_wordOf_375 {rod : Nat → Nat × (Nat → Int32)} {d : Nat} {Q : Option MV → MH → Prop} {u0 : Option MV} {u1 : Option MV} {zs0 : Int64} {zs1 : Int64} {h : MH}   (k1 : ¬ (lg_cmp zs0 zs1).toInt = 0 → Wb rod d B_Model_wordOf 382 [u0, u1] [] h Q) (k2 : (lg_cmp zs0 zs1).toInt = 0 → Wb rod d B_Model_wordOf 379 [u0, u1] [] h Q) : Wb rod d B_Model_wordOf 375 [u0, u1] [.inr (.inl zs1), .inr (.inl zs0)] h Q := by
  refine Wb.br (fun _ _ => b_Model_wordOf_375) (fun c => ?_) (fun c => ?_)
  · have c : (!(decide ((lg_cmp zs0 zs1) = 0))) = true := by first | exact c | (simp only [Option.getD_some] at c; exact c)
    (first | exact (k1 (c_net c)) | (simp only [Option.getD_some]; exact (k1 (c_net c))))
  · have c : (!(decide ((lg_cmp zs0 zs1) = 0))) = false := by first | exact c | (simp only [Option.getD_some] at c; exact c)
    (first | exact (k2 (c_nef c)) | (simp only [Option.getD_some]; exact (k2 (c_nef c))))
theorem w_Model_wordOf_379 {rod : Nat → Nat × (Nat → Int32)} {d : Nat} {Q : Option MV → MH → Prop} {u0 : Option MV} {u1 : Option MV} {h : MH}   (q : Q (some (.inl (19 : Int32))) h) : Wb rod d B_Model_wordOf 379 [u0, u1] [] h Q := by
  refine Wb.ret (b_Model_wordOf_379) ?_
  (first | exact q | (simp only [Option.getD_some]; exact q))
theorem w_Model_wordOf_382 {rod : Nat → Nat × (Nat → Int32)} {d : Nat} {Q : Option MV → MH → Prop} {z0 : Int64} {u1 : Option MV} {h : MH}   {Q1 : Option MV → MH → Prop} (c : Wc rod d 199 [.inl (0 : Int32), .inl (11 : Int32), .inl (5 : Int32), .inl (25 : Int32)] h Q1) (k : ∀ r1 h2, Q1 r1 h2 → Wb rod d B_Model_wordOf 392 [some (.inr (.inl z0)), u1] (r1.toList ++ [.inr (.inl z0)]) h2 Q) : Wb rod d B_Model_wordOf 382 [some (.inr (.inl z0)), u1] [] h Q := by
  refine Wb.call (fun _ _ _ _ => b_Model_wordOf_382) (Q1 := Q1) ?_ ?_
  · (first | exact c | (simp only [Option.getD_some]; exact c))
  · (first | exact k | (simp only [Option.getD_some]; exact k))
theorem w_Model_wordOf_392 {rod : Nat → Nat × (Nat → Int32)} {d : Nat} {Q : Option MV → MH → Prop} {u0 : Option MV} {u1 : Option MV} {zs0 : Int64} {zs1 : Int64} {h : MH}   (k1 : ¬ (lg_cmp zs0 zs1).toInt = 0 → Wb rod d B_Model_wordOf 399 [u0, u1] [] h Q) (k2 : (lg_cmp zs0 zs1).toInt = 0 → Wb rod d B_Model_wordOf 396 [u0, u1] [] h Q) : Wb rod d B_Model_wordOf 392 [u0, u1] [.inr (.inl zs1), .inr (.inl zs0)] h Q := by
  refine Wb.br (fun _ _ => b_Model_wordOf_392) (fun c => ?_) (fun c => ?_)
  · have c : (!(decide ((lg_cmp zs0 zs1) = 0))) = true := by first | exact c | (simp only [Option.getD_some] at c; exact c)
    (first | exact (k1 (c_net c)) | (simp only [Option.getD_some]; exact (k1 (c_net c))))
  · have c : (!(decide ((lg_cmp zs0 zs1) = 0))) = false := by first | exact c | (simp only [Option.getD_some] at c; exact c)
    (first | exact (k2 (c_nef c)) | (simp only [Option.getD_some]; exact (k2 (c_nef c))))
theorem w_Model_wordOf_396 {rod : Nat → Nat × (Nat → Int32)} {d : Nat} {Q : Option MV → MH → Prop} {u0 : Option MV} {u1 : Option MV} {h : MH}   (q : Q (some (.inl (20 : Int32))) h) : Wb rod d B_Model_wordOf 396 [u0, u1] [] h Q := by
  refine Wb.ret (b_Model_wordOf_396) ?_
  (first | exact q | (simp only [Option.getD_some]; exact q))
theorem w_Model_wordOf_399 {rod : Nat → Nat × (Nat → Int32)} {d : Nat} {Q : Option MV → MH → Prop} {z0 : Int64} {u1 : Option MV} {h : MH}   {Q1 : Option MV → MH → Prop} (c : Wc rod d 200 [.inl (0 : Int32), .inl (16 : Int32), .inl (1 : Int32), .inl (18 : Int32), .inl (20 : Int32), .inl (9 : Int32), .inl (5 : Int32), .inl (19 : Int32)] h Q1) (k : ∀ r1 h2, Q1 r1 h2 → Wb rod d B_Model_wordOf 416 [some (.inr (.inl z0)), u1] (r1.toList ++ [.inr (.inl z0)]) h2 Q) : Wb rod d B_Model_wordOf 399 [some (.inr (.inl z0)), u1] [] h Q := by
  refine Wb.call (fun _ _ _ _ => b_Model_wordOf_399) (Q1 := Q1) ?_ ?_
  · (first | exact c | (simp only [Option.getD_some]; exact c))
  · (first | exact k | (simp only [Option.getD_some]; exact k))
theorem w_Model_wordOf_416 {rod : Nat → Nat × (Nat → Int32)} {d : Nat} {Q : Option MV → MH → Prop} {u0 : Option MV} {u1 : Option MV} {zs0 : Int64} {zs1 : Int64} {h : MH}   (k1 : ¬ (lg_cmp zs0 zs1).toInt = 0 → Wb rod d B_Model_wordOf 423 [u0, u1] [] h Q) (k2 : (lg_cmp zs0 zs1).toInt = 0 → Wb rod d B_Model_wordOf 420 [u0, u1] [] h Q) : Wb rod d B_Model_wordOf 416 [u0, u1] [.inr (.inl zs1), .inr (.inl zs0)] h Q := by
  refine Wb.br (fun _ _ => b_Model_wordOf_416) (fun c => ?_) (fun c => ?_)
  · have c : (!(decide ((lg_cmp zs0 zs1) = 0))) = true := by first | exact c | (simp only [Option.getD_some] at c; exact c)
    (first | exact (k1 (c_net c)) | (simp only [Option.getD_some]; exact (k1 (c_net c))))
  · have c : (!(decide ((lg_cmp zs0 zs1) = 0))) = false := by first | exact c | (simp only [Option.getD_some] at c; exact c)
    (first | exact (k2 (c_nef c)) | (simp only [Option.getD_some]; exact (k2 (c_nef c))))
theorem w_Model_wordOf_420 {rod : Nat → Nat × (Nat → Int32)} {d : Nat} {Q : Option MV → MH → Prop} {u0 : Option MV} {u1 : Option MV} {h : MH}   (q : Q (some (.inl (21 : Int32))) h) : Wb rod d B_Model_wordOf 420 [u0, u1] [] h Q := by
  refine Wb.ret (b_Model_wordOf_420) ?_
  (first | exact q | (simp only [Option.getD_some]; exact q))
theorem w_Model_wordOf_423 {rod : Nat → Nat × (Nat → Int32)} {d : Nat} {Q : Option MV → MH → Prop} {z0 : Int64} {u1 : Option MV} {h : MH}   {Q1 : Option MV → MH → Prop} (c : Wc rod d 200 [.inl (0 : Int32), .inl (0 : Int32), .inl (0 : Int32), .inl (23 : Int32), .inl (15 : Int32), .inl (18 : Int32), .inl (20 : Int32), .inl (8 : Int32)] h Q1) (k : ∀ r1 h2, Q1 r1 h2 → Wb rod d B_Model_wordOf 440 [some (.inr (.inl z0)), u1] (r1.toList ++ [.inr (.inl z0)]) h2 Q) : Wb rod d B_Model_wordOf 423 [some (.inr (.inl z0)), u1] [] h Q := by
  refine Wb.call (fun _ _ _ _ => b_Model_wordOf_423) (Q1 := Q1) ?_ ?_
  · (first | exact c | (simp only [Option.getD_some]; exact c))
  · (first | exact k | (simp only [Option.getD_some]; exact k))
theorem w_Model_wordOf_440 {rod : Nat → Nat × (Nat → Int32)} {d : Nat} {Q : Option MV → MH → Prop} {u0 : Option MV} {u1 : Option MV} {zs0 : Int64} {zs1 : Int64} {h : MH}   (k1 : ¬ (lg_cmp zs0 zs1).toInt = 0 → Wb rod d B_Model_wordOf 449 [u0, u1] [] h Q) (k2 : (lg_cmp zs0 zs1).toInt = 0 → Wb rod d B_Model_wordOf 444 [u0, u1] [] h Q) : Wb rod d B_Model_wordOf 440 [u0, u1] [.inr (.inl zs1), .inr (.inl zs0)] h Q := by
  refine Wb.br (fun _ _ => b_Model_wordOf_440) (fun c => ?_) (fun c => ?_)
  · have c : (!(decide ((lg_cmp zs0 zs1) = 0))) = true := by first | exact c | (simp only [Option.getD_some] at c; exact c)
    (first | exact (k1 (c_net c)) | (simp only [Option.getD_some]; exact (k1 (c_net c))))
  · have c : (!(decide ((lg_cmp zs0 zs1) = 0))) = false := by first | exact c | (simp only [Option.getD_some] at c; exact c)
    (first | exact (k2 (c_nef c)) | (simp only [Option.getD_some]; exact (k2 (c_nef c))))
theorem w_Model_wordOf_444 {rod : Nat → Nat × (Nat → Int32)} {d : Nat} {Q : Option MV → MH → Prop} {u0 : Option MV} {u1 : Option MV} {h : MH}   (k : Wb rod d B_Model_wordOf 451 [u0, u1] [.inl (22 : Int32)] h Q) : Wb rod d B_Model_wordOf 444 [u0, u1] [] h Q := by
  refine Wb.go (fun r hr q => b_Model_wordOf_444 ?_) k
  (first | exact q | (simp only [Option.getD_some]; exact q))
theorem w_Model_wordOf_449 {rod : Nat → Nat × (Nat → Int32)} {d : Nat} {Q : Option MV → MH → Prop} {u0 : Option MV} {u1 : Option MV} {h : MH}   (k : Wb rod d B_Model_wordOf 451 [u0, u1] [.inl (99 : Int32)] h Q) : Wb rod d B_Model_wordOf 449 [u0, u1] [] h Q := by
  refine Wb.go (fun r hr q => b_Model_wordOf_449 ?_) k
  (first | exact q | (simp only [Option.getD_some]; exact q))
theorem w_Model_wordOf_451 {rod : Nat → Nat × (Nat → Int32)} {d : Nat} {Q : Option MV → MH → Prop} {u0 : Option MV} {u1 : Option MV} {xs0 : Int32} {h : MH}   (q : Q (some (.inl xs0)) h) : Wb rod d B_Model_wordOf 451 [u0, u1] [.inl xs0] h Q := by
  refine Wb.ret (b_Model_wordOf_451) ?_
  (first | exact q | (simp only [Option.getD_some]; exact q))
theorem n_Model_four {rod : Nat → Nat × (Nat → Int32)} {d : Nat} {Q : Option MV → MH → Prop} {x0 : Int32} {x1 : Int32} {x2 : Int32} {x3 : Int32} {h : MH} (k : Wb rod d B_Model_four 0 [some (.inl x0), some (.inl x1), some (.inl x2), some (.inl x3)] [] h Q) : Wc rod (d + 1) 199 [.inl x0, .inl x1, .inl x2, .inl x3] h Q := Wc.en (fun _ _ => e_Model_four) k
theorem w_Model_four_0 {rod : Nat → Nat × (Nat → Int32)} {d : Nat} {Q : Option MV → MH → Prop} {x0 : Int32} {x1 : Int32} {x2 : Int32} {x3 : Int32} {h : MH}   (q : Q (some (.inr (.inl (((((((x0 * (32 : Int32)) + x1) * (32 : Int32)) + x2) * (32 : Int32)) + x3).toInt64)))) h) : Wb rod d B_Model_four 0 [some (.inl x0), some (.inl x1), some (.inl x2), some (.inl x3)] [] h Q := by
  refine Wb.ret (b_Model_four_0) ?_
  (first | exact q | (simp only [Option.getD_some]; exact q))
theorem n_Model_eight {rod : Nat → Nat × (Nat → Int32)} {d : Nat} {Q : Option MV → MH → Prop} {x0 : Int32} {x1 : Int32} {x2 : Int32} {x3 : Int32} {x4 : Int32} {x5 : Int32} {x6 : Int32} {x7 : Int32} {h : MH} (k : Wb rod d B_Model_eight 0 [some (.inl x0), some (.inl x1), some (.inl x2), some (.inl x3), some (.inl x4), some (.inl x5), some (.inl x6), some (.inl x7)] [] h Q) : Wc rod (d + 1) 200 [.inl x0, .inl x1, .inl x2, .inl x3, .inl x4, .inl x5, .inl x6, .inl x7] h Q := Wc.en (fun _ _ => e_Model_eight) k
theorem w_Model_eight_0 {rod : Nat → Nat × (Nat → Int32)} {d : Nat} {Q : Option MV → MH → Prop} {x0 : Int32} {x1 : Int32} {x2 : Int32} {x3 : Int32} {u4 : Option MV} {u5 : Option MV} {u6 : Option MV} {u7 : Option MV} {h : MH}   {Q1 : Option MV → MH → Prop} (c : Wc rod d 199 [.inl x0, .inl x1, .inl x2, .inl x3] h Q1) (k : ∀ r1 h2, Q1 r1 h2 → Wb rod d B_Model_eight 7 [some (.inl x0), some (.inl x1), some (.inl x2), some (.inl x3), u4, u5, u6, u7] (r1.toList ++ []) h2 Q) : Wb rod d B_Model_eight 0 [some (.inl x0), some (.inl x1), some (.inl x2), some (.inl x3), u4, u5, u6, u7] [] h Q := by
  refine Wb.call (fun _ _ _ _ => b_Model_eight_0) (Q1 := Q1) ?_ ?_
  · (first | exact c | (simp only [Option.getD_some]; exact c))
  · (first | exact k | (simp only [Option.getD_some]; exact k))
theorem w_Model_eight_7 {rod : Nat → Nat × (Nat → Int32)} {d : Nat} {Q : Option MV → MH → Prop} {u0 : Option MV} {u1 : Option MV} {u2 : Option MV} {u3 : Option MV} {x4 : Int32} {x5 : Int32} {x6 : Int32} {x7 : Int32} {zs0 : Int64} {h : MH}   {Q1 : Option MV → MH → Prop} (c : Wc rod d 199 [.inl x4, .inl x5, .inl x6, .inl x7] h Q1) (k : ∀ r1 h2, Q1 r1 h2 → Wb rod d B_Model_eight 22 [u0, u1, u2, u3, some (.inl x4), some (.inl x5), some (.inl x6), some (.inl x7)] (r1.toList ++ [.inr (.inl (zs0 * (1048576 : Int64)))]) h2 Q) : Wb rod d B_Model_eight 7 [u0, u1, u2, u3, some (.inl x4), some (.inl x5), some (.inl x6), some (.inl x7)] [.inr (.inl zs0)] h Q := by
  refine Wb.call (fun _ _ _ _ => b_Model_eight_7) (Q1 := Q1) ?_ ?_
  · (first | exact c | (simp only [Option.getD_some]; exact c))
  · (first | exact k | (simp only [Option.getD_some]; exact k))
theorem w_Model_eight_22 {rod : Nat → Nat × (Nat → Int32)} {d : Nat} {Q : Option MV → MH → Prop} {u0 : Option MV} {u1 : Option MV} {u2 : Option MV} {u3 : Option MV} {u4 : Option MV} {u5 : Option MV} {u6 : Option MV} {u7 : Option MV} {zs0 : Int64} {zs1 : Int64} {h : MH}   (q : Q (some (.inr (.inl (zs0 + zs1)))) h) : Wb rod d B_Model_eight 22 [u0, u1, u2, u3, u4, u5, u6, u7] [.inr (.inl zs1), .inr (.inl zs0)] h Q := by
  refine Wb.ret (b_Model_eight_22) ?_
  (first | exact q | (simp only [Option.getD_some]; exact q))
theorem n_Model_isDigit {rod : Nat → Nat × (Nat → Int32)} {d : Nat} {Q : Option MV → MH → Prop} {x0 : Int32} {h : MH} (k : Wb rod d B_Model_isDigit 0 [some (.inl x0)] [] h Q) : Wc rod (d + 1) 201 [.inl x0] h Q := Wc.en (fun _ _ => e_Model_isDigit) k
theorem w_Model_isDigit_0 {rod : Nat → Nat × (Nat → Int32)} {d : Nat} {Q : Option MV → MH → Prop} {x0 : Int32} {h : MH}   (k1 : x0.toInt < 48 → Wb rod d B_Model_isDigit 16 [some (.inl x0)] [] h Q) (k2 : ¬ x0.toInt < 48 → Wb rod d B_Model_isDigit 6 [some (.inl x0)] [] h Q) : Wb rod d B_Model_isDigit 0 [some (.inl x0)] [] h Q := by
  refine Wb.br (fun _ _ => b_Model_isDigit_0) (fun c => ?_) (fun c => ?_)
  · have c : (decide (x0 < (48 : Int32))) = true := by first | exact c | (simp only [Option.getD_some] at c; exact c)
    (first | exact (k1 (c_ltt c)) | (simp only [Option.getD_some]; exact (k1 (c_ltt c))))
  · have c : (decide (x0 < (48 : Int32))) = false := by first | exact c | (simp only [Option.getD_some] at c; exact c)
    (first | exact (k2 (c_ltf c)) | (simp only [Option.getD_some]; exact (k2 (c_ltf c))))
theorem w_Model_isDigit_6 {rod : Nat → Nat × (Nat → Int32)} {d : Nat} {Q : Option MV → MH → Prop} {x0 : Int32} {h : MH}   (k1 : 57 < x0.toInt → Wb rod d B_Model_isDigit 16 [some (.inl x0)] [] h Q) (k2 : ¬ 57 < x0.toInt → Wb rod d B_Model_isDigit 12 [some (.inl x0)] [] h Q) : Wb rod d B_Model_isDigit 6 [some (.inl x0)] [] h Q := by
  refine Wb.br (fun _ _ => b_Model_isDigit_6) (fun c => ?_) (fun c => ?_)
  · have c : (decide ((57 : Int32) < x0)) = true := by first | exact c | (simp only [Option.getD_some] at c; exact c)
    (first | exact (k1 (c_ltt c)) | (simp only [Option.getD_some]; exact (k1 (c_ltt c))))
  · have c : (decide ((57 : Int32) < x0)) = false := by first | exact c | (simp only [Option.getD_some] at c; exact c)
    (first | exact (k2 (c_ltf c)) | (simp only [Option.getD_some]; exact (k2 (c_ltf c))))
theorem w_Model_isDigit_12 {rod : Nat → Nat × (Nat → Int32)} {d : Nat} {Q : Option MV → MH → Prop} {u0 : Option MV} {h : MH}   (k : Wb rod d B_Model_isDigit 17 [u0] [.inl (1 : Int32)] h Q) : Wb rod d B_Model_isDigit 12 [u0] [] h Q := by
  refine Wb.go (fun r hr q => b_Model_isDigit_12 ?_) k
  (first | exact q | (simp only [Option.getD_some]; exact q))
theorem w_Model_isDigit_16 {rod : Nat → Nat × (Nat → Int32)} {d : Nat} {Q : Option MV → MH → Prop} {u0 : Option MV} {h : MH}   (k : Wb rod d B_Model_isDigit 17 [u0] [.inl (0 : Int32)] h Q) : Wb rod d B_Model_isDigit 16 [u0] [] h Q := by
  refine Wb.go (fun r hr q => b_Model_isDigit_16 ?_) k
  (first | exact q | (simp only [Option.getD_some]; exact q))
theorem w_Model_isDigit_17 {rod : Nat → Nat × (Nat → Int32)} {d : Nat} {Q : Option MV → MH → Prop} {u0 : Option MV} {xs0 : Int32} {h : MH}  (g0 : xs0 = 0 ∨ xs0 = 1) (q : Q (some (.inl xs0)) h) : Wb rod d B_Model_isDigit 17 [u0] [.inl xs0] h Q := by
  refine Wb.ret (b_Model_isDigit_17 (d01 g0)) ?_
  (first | exact q | (simp only [Option.getD_some]; exact q))
theorem n_Model_landLine {rod : Nat → Nat × (Nat → Int32)} {d : Nat} {Q : Option MV → MH → Prop}  {h : MH} (k : Wb rod d B_Model_landLine 0 [some (.inr (.inr (.inl (some 84)))), none, none] [] h Q) : Wc rod (d + 1) 202 [.inr (.inr (.inl (some 84)))] h Q := Wc.en (fun _ _ => e_Model_landLine) k
theorem w_Model_landLine_0 {rod : Nat → Nat × (Nat → Int32)} {d : Nat} {Q : Option MV → MH → Prop} {u1 : Option MV} {u2 : Option MV} {h : MH} (L : Lay h.2)  {Q1 : Option MV → MH → Prop} (c : Wc rod d 203 [.inr (.inr (.inl (some 84))), .inl (1 : Int32), .inl (10 : Int32)] h Q1) (k : ∀ r1 h2, Q1 r1 h2 → Wb rod d B_Model_landLine 12 [some (.inr (.inr (.inl (some 84)))), some (.inl (h.1 84 4)), u2] (r1.toList ++ []) h2 Q) : Wb rod d B_Model_landLine 0 [some (.inr (.inr (.inl (some 84)))), u1, u2] [] h Q := by
  refine Wb.call (fun _ _ _ _ => b_Model_landLine_0 (Lay.o84 L)) (Q1 := Q1) ?_ ?_
  · (first | exact c | (simp only [Option.getD_some]; exact c))
  · (first | exact k | (simp only [Option.getD_some]; exact k))
theorem w_Model_landLine_12 {rod : Nat → Nat × (Nat → Int32)} {d : Nat} {Q : Option MV → MH → Prop} {u0 : Option MV} {u1 : Option MV} {u2 : Option MV} {xs0 : Int32} {h : MH}  (g0 : okl [u0, u1, u2] 2 = true) (k0 : xs0.toInt = 0 → Wb rod d B_Model_landLine 72 [u0, u1, some (.inl xs0)] [] h Q) (k1 : xs0.toInt = 1 → Wb rod d B_Model_landLine 154 [u0, u1, some (.inl xs0)] [] h Q) (k2 : xs0.toInt = 2 → Wb rod d B_Model_landLine 154 [u0, u1, some (.inl xs0)] [] h Q) (k3 : xs0.toInt = 3 → Wb rod d B_Model_landLine 154 [u0, u1, some (.inl xs0)] [] h Q) (k4 : xs0.toInt = 4 → Wb rod d B_Model_landLine 154 [u0, u1, some (.inl xs0)] [] h Q) (k5 : xs0.toInt = 5 → Wb rod d B_Model_landLine 75 [u0, u1, some (.inl xs0)] [] h Q) (k6 : xs0.toInt = 6 → Wb rod d B_Model_landLine 82 [u0, u1, some (.inl xs0)] [] h Q) (k7 : xs0.toInt = 7 → Wb rod d B_Model_landLine 90 [u0, u1, some (.inl xs0)] [] h Q) (k8 : xs0.toInt = 8 → Wb rod d B_Model_landLine 106 [u0, u1, some (.inl xs0)] [] h Q) (k9 : xs0.toInt = 9 → Wb rod d B_Model_landLine 121 [u0, u1, some (.inl xs0)] [] h Q) (k10 : xs0.toInt = 10 → Wb rod d B_Model_landLine 136 [u0, u1, some (.inl xs0)] [] h Q) (kd : xs0.toInt ≠ 0 → xs0.toInt ≠ 1 → xs0.toInt ≠ 2 → xs0.toInt ≠ 3 → xs0.toInt ≠ 4 → xs0.toInt ≠ 5 → xs0.toInt ≠ 6 → xs0.toInt ≠ 7 → xs0.toInt ≠ 8 → xs0.toInt ≠ 9 → xs0.toInt ≠ 10 → Wb rod d B_Model_landLine 154 [u0, u1, some (.inl xs0)] [] h Q) : Wb rod d B_Model_landLine 12 [u0, u1, u2] [.inl xs0] h Q := by
  have key : Wb rod d B_Model_landLine (tabT [58, 140, 140, 140, 140, 61, 68, 76, 92, 107, 122] 0 xs0 14 154) [u0, u1, some (.inl xs0)] [] h Q := by
    by_cases e0 : xs0 = Int32.ofInt 0
    · rw [show tabT [58, 140, 140, 140, 140, 61, 68, 76, 92, 107, 122] 0 xs0 14 154 = 72 from by rw [e0]; rfl]
      exact k0 (by rw [e0]; rfl)
    by_cases e1 : xs0 = Int32.ofInt 1
    · rw [show tabT [58, 140, 140, 140, 140, 61, 68, 76, 92, 107, 122] 0 xs0 14 154 = 154 from by rw [e1]; rfl]
      exact k1 (by rw [e1]; rfl)
    by_cases e2 : xs0 = Int32.ofInt 2
    · rw [show tabT [58, 140, 140, 140, 140, 61, 68, 76, 92, 107, 122] 0 xs0 14 154 = 154 from by rw [e2]; rfl]
      exact k2 (by rw [e2]; rfl)
    by_cases e3 : xs0 = Int32.ofInt 3
    · rw [show tabT [58, 140, 140, 140, 140, 61, 68, 76, 92, 107, 122] 0 xs0 14 154 = 154 from by rw [e3]; rfl]
      exact k3 (by rw [e3]; rfl)
    by_cases e4 : xs0 = Int32.ofInt 4
    · rw [show tabT [58, 140, 140, 140, 140, 61, 68, 76, 92, 107, 122] 0 xs0 14 154 = 154 from by rw [e4]; rfl]
      exact k4 (by rw [e4]; rfl)
    by_cases e5 : xs0 = Int32.ofInt 5
    · rw [show tabT [58, 140, 140, 140, 140, 61, 68, 76, 92, 107, 122] 0 xs0 14 154 = 75 from by rw [e5]; rfl]
      exact k5 (by rw [e5]; rfl)
    by_cases e6 : xs0 = Int32.ofInt 6
    · rw [show tabT [58, 140, 140, 140, 140, 61, 68, 76, 92, 107, 122] 0 xs0 14 154 = 82 from by rw [e6]; rfl]
      exact k6 (by rw [e6]; rfl)
    by_cases e7 : xs0 = Int32.ofInt 7
    · rw [show tabT [58, 140, 140, 140, 140, 61, 68, 76, 92, 107, 122] 0 xs0 14 154 = 90 from by rw [e7]; rfl]
      exact k7 (by rw [e7]; rfl)
    by_cases e8 : xs0 = Int32.ofInt 8
    · rw [show tabT [58, 140, 140, 140, 140, 61, 68, 76, 92, 107, 122] 0 xs0 14 154 = 106 from by rw [e8]; rfl]
      exact k8 (by rw [e8]; rfl)
    by_cases e9 : xs0 = Int32.ofInt 9
    · rw [show tabT [58, 140, 140, 140, 140, 61, 68, 76, 92, 107, 122] 0 xs0 14 154 = 121 from by rw [e9]; rfl]
      exact k9 (by rw [e9]; rfl)
    by_cases e10 : xs0 = Int32.ofInt 10
    · rw [show tabT [58, 140, 140, 140, 140, 61, 68, 76, 92, 107, 122] 0 xs0 14 154 = 136 from by rw [e10]; rfl]
      exact k10 (by rw [e10]; rfl)
    rw [show tabT [58, 140, 140, 140, 140, 61, 68, 76, 92, 107, 122] 0 xs0 14 154 = 154 from (if_neg e0).trans ((if_neg e1).trans ((if_neg e2).trans ((if_neg e3).trans ((if_neg e4).trans ((if_neg e5).trans ((if_neg e6).trans ((if_neg e7).trans ((if_neg e8).trans ((if_neg e9).trans ((if_neg e10).trans (rfl)))))))))))]
    exact kd (fun q => e0 (Int32.toInt_inj.mp q)) (fun q => e1 (Int32.toInt_inj.mp q)) (fun q => e2 (Int32.toInt_inj.mp q)) (fun q => e3 (Int32.toInt_inj.mp q)) (fun q => e4 (Int32.toInt_inj.mp q)) (fun q => e5 (Int32.toInt_inj.mp q)) (fun q => e6 (Int32.toInt_inj.mp q)) (fun q => e7 (Int32.toInt_inj.mp q)) (fun q => e8 (Int32.toInt_inj.mp q)) (fun q => e9 (Int32.toInt_inj.mp q)) (fun q => e10 (Int32.toInt_inj.mp q))
  refine Wb.go (fun r hr q => b_Model_landLine_12 g0 ?_) key
  (first | exact q | (simp only [Option.getD_some]; exact q))
theorem w_Model_landLine_72 {rod : Nat → Nat × (Nat → Int32)} {d : Nat} {Q : Option MV → MH → Prop} {u0 : Option MV} {u1 : Option MV} {u2 : Option MV} {h : MH}   (k : Wb rod d B_Model_landLine 162 [u0, u1, u2] [] h Q) : Wb rod d B_Model_landLine 72 [u0, u1, u2] [] h Q := by
  refine Wb.go (fun r hr q => b_Model_landLine_72 ?_) k
  (first | exact q | (simp only [Option.getD_some]; exact q))
theorem w_Model_landLine_75 {rod : Nat → Nat × (Nat → Int32)} {d : Nat} {Q : Option MV → MH → Prop} {u1 : Option MV} {u2 : Option MV} {h : MH} (L : Lay h.2)  {Q1 : Option MV → MH → Prop} (c : Wc rod d 205 [.inr (.inr (.inl (some 84)))] h Q1) (k : ∀ r1 h2, Q1 r1 h2 → Wb rod d B_Model_landLine 79 [some (.inr (.inr (.inl (some 84)))), u1, u2] (r1.toList ++ []) h2 Q) : Wb rod d B_Model_landLine 75 [some (.inr (.inr (.inl (some 84)))), u1, u2] [] h Q := by
  refine Wb.call (fun _ _ _ _ => b_Model_landLine_75 (Lay.o84 L)) (Q1 := Q1) ?_ ?_
  · (first | exact c | (simp only [Option.getD_some]; exact c))
  · (first | exact k | (simp only [Option.getD_some]; exact k))
theorem w_Model_landLine_79 {rod : Nat → Nat × (Nat → Int32)} {d : Nat} {Q : Option MV → MH → Prop} {u0 : Option MV} {u1 : Option MV} {u2 : Option MV} {h : MH}   (k : Wb rod d B_Model_landLine 162 [u0, u1, u2] [] h Q) : Wb rod d B_Model_landLine 79 [u0, u1, u2] [] h Q := by
  refine Wb.go (fun r hr q => b_Model_landLine_79 ?_) k
  (first | exact q | (simp only [Option.getD_some]; exact q))
theorem w_Model_landLine_82 {rod : Nat → Nat × (Nat → Int32)} {d : Nat} {Q : Option MV → MH → Prop} {x1 : Int32} {u2 : Option MV} {h : MH} (L : Lay h.2)  {Q1 : Option MV → MH → Prop} (c : Wc rod d 209 [.inr (.inr (.inl (some 84))), .inl x1] h Q1) (k : ∀ r1 h2, Q1 r1 h2 → Wb rod d B_Model_landLine 87 [some (.inr (.inr (.inl (some 84)))), some (.inl x1), u2] (r1.toList ++ []) h2 Q) : Wb rod d B_Model_landLine 82 [some (.inr (.inr (.inl (some 84)))), some (.inl x1), u2] [] h Q := by
  refine Wb.call (fun _ _ _ _ => b_Model_landLine_82 (Lay.o84 L)) (Q1 := Q1) ?_ ?_
  · (first | exact c | (simp only [Option.getD_some]; exact c))
  · (first | exact k | (simp only [Option.getD_some]; exact k))
theorem w_Model_landLine_87 {rod : Nat → Nat × (Nat → Int32)} {d : Nat} {Q : Option MV → MH → Prop} {u0 : Option MV} {u1 : Option MV} {u2 : Option MV} {h : MH}   (k : Wb rod d B_Model_landLine 162 [u0, u1, u2] [] h Q) : Wb rod d B_Model_landLine 87 [u0, u1, u2] [] h Q := by
  refine Wb.go (fun r hr q => b_Model_landLine_87 ?_) k
  (first | exact q | (simp only [Option.getD_some]; exact q))
theorem w_Model_landLine_90 {rod : Nat → Nat × (Nat → Int32)} {d : Nat} {Q : Option MV → MH → Prop} {u1 : Option MV} {u2 : Option MV} {h : MH} (L : Lay h.2)  {Q1 : Option MV → MH → Prop} (c : Wc rod d 207 [.inr (.inr (.inl (some 84))), .inl (1 : Int32), .inl (6 : Int32)] h Q1) (k : ∀ r1 h2, Q1 r1 h2 → Wb rod d B_Model_landLine 102 [some (.inr (.inr (.inl (some 84)))), u1, u2] (r1.toList ++ [.inl (0 : Int32), .inr (.inr (.inl (some 87)))]) h2 Q) : Wb rod d B_Model_landLine 90 [some (.inr (.inr (.inl (some 84)))), u1, u2] [] h Q := by
  refine Wb.call (fun _ _ _ _ => b_Model_landLine_90 (Lay.o84 L)) (Q1 := Q1) ?_ ?_
  · (first | exact c | (simp only [Option.getD_some, (Lay.r84_10 L)]; exact c))
  · (first | exact k | (simp only [Option.getD_some, (Lay.r84_10 L)]; exact k))
theorem w_Model_landLine_102 {rod : Nat → Nat × (Nat → Int32)} {d : Nat} {Q : Option MV → MH → Prop} {u0 : Option MV} {u1 : Option MV} {u2 : Option MV} {cs0 : Nat} {ncs0 : Nat} {xs1 : Int32} {xs2 : Int32} {h : MH} (Scs0 : h.2.2[cs0]? = some (0, ncs0)) (g0 : 0 ≤ xs1.toInt ∧ xs1.toInt < ncs0) (k : Wb rod d B_Model_landLine 103 [u0, u1, u2] [] (sI h cs0 xs1.toNatClampNeg xs2) Q) : Wb rod d B_Model_landLine 102 [u0, u1, u2] [.inl xs2, .inl xs1, .inr (.inr (.inl (some cs0)))] h Q := by
  refine Wb.go (fun r hr q => b_Model_landLine_102 (gA_of Scs0 (inB_of g0.1 g0.2)) ?_) k
  (first | exact q | (simp only [Option.getD_some]; exact q))
theorem w_Model_landLine_103 {rod : Nat → Nat × (Nat → Int32)} {d : Nat} {Q : Option MV → MH → Prop} {u0 : Option MV} {u1 : Option MV} {u2 : Option MV} {h : MH}   (k : Wb rod d B_Model_landLine 162 [u0, u1, u2] [] h Q) : Wb rod d B_Model_landLine 103 [u0, u1, u2] [] h Q := by
  refine Wb.go (fun r hr q => b_Model_landLine_103 ?_) k
  (first | exact q | (simp only [Option.getD_some]; exact q))
theorem w_Model_landLine_106 {rod : Nat → Nat × (Nat → Int32)} {d : Nat} {Q : Option MV → MH → Prop} {u1 : Option MV} {u2 : Option MV} {h : MH} (L : Lay h.2)  {Q1 : Option MV → MH → Prop} (c : Wc rod d 207 [.inr (.inr (.inl (some 84))), .inl (0 : Int32), .inl (5 : Int32)] h Q1) (k : ∀ r1 h2, Q1 r1 h2 → Wb rod d B_Model_landLine 117 [some (.inr (.inr (.inl (some 84)))), u1, u2] (r1.toList ++ [.inl (3 : Int32), .inr (.inr (.inl (some 87)))]) h2 Q) : Wb rod d B_Model_landLine 106 [some (.inr (.inr (.inl (some 84)))), u1, u2] [] h Q := by
  refine Wb.call (fun _ _ _ _ => b_Model_landLine_106 (Lay.o84 L)) (Q1 := Q1) ?_ ?_
  · (first | exact c | (simp only [Option.getD_some, (Lay.r84_10 L)]; exact c))
  · (first | exact k | (simp only [Option.getD_some, (Lay.r84_10 L)]; exact k))
theorem w_Model_landLine_117 {rod : Nat → Nat × (Nat → Int32)} {d : Nat} {Q : Option MV → MH → Prop} {u0 : Option MV} {u1 : Option MV} {u2 : Option MV} {cs0 : Nat} {ncs0 : Nat} {xs1 : Int32} {xs2 : Int32} {h : MH} (Scs0 : h.2.2[cs0]? = some (0, ncs0)) (g0 : 0 ≤ xs1.toInt ∧ xs1.toInt < ncs0) (k : Wb rod d B_Model_landLine 118 [u0, u1, u2] [] (sI h cs0 xs1.toNatClampNeg xs2) Q) : Wb rod d B_Model_landLine 117 [u0, u1, u2] [.inl xs2, .inl xs1, .inr (.inr (.inl (some cs0)))] h Q := by
  refine Wb.go (fun r hr q => b_Model_landLine_117 (gA_of Scs0 (inB_of g0.1 g0.2)) ?_) k
  (first | exact q | (simp only [Option.getD_some]; exact q))
theorem w_Model_landLine_118 {rod : Nat → Nat × (Nat → Int32)} {d : Nat} {Q : Option MV → MH → Prop} {u0 : Option MV} {u1 : Option MV} {u2 : Option MV} {h : MH}   (k : Wb rod d B_Model_landLine 162 [u0, u1, u2] [] h Q) : Wb rod d B_Model_landLine 118 [u0, u1, u2] [] h Q := by
  refine Wb.go (fun r hr q => b_Model_landLine_118 ?_) k
  (first | exact q | (simp only [Option.getD_some]; exact q))
theorem w_Model_landLine_121 {rod : Nat → Nat × (Nat → Int32)} {d : Nat} {Q : Option MV → MH → Prop} {u1 : Option MV} {u2 : Option MV} {h : MH} (L : Lay h.2)  {Q1 : Option MV → MH → Prop} (c : Wc rod d 207 [.inr (.inr (.inl (some 84))), .inl (0 : Int32), .inl (5 : Int32)] h Q1) (k : ∀ r1 h2, Q1 r1 h2 → Wb rod d B_Model_landLine 132 [some (.inr (.inr (.inl (some 84)))), u1, u2] (r1.toList ++ [.inl (4 : Int32), .inr (.inr (.inl (some 87)))]) h2 Q) : Wb rod d B_Model_landLine 121 [some (.inr (.inr (.inl (some 84)))), u1, u2] [] h Q := by
  refine Wb.call (fun _ _ _ _ => b_Model_landLine_121 (Lay.o84 L)) (Q1 := Q1) ?_ ?_
  · (first | exact c | (simp only [Option.getD_some, (Lay.r84_10 L)]; exact c))
  · (first | exact k | (simp only [Option.getD_some, (Lay.r84_10 L)]; exact k))
theorem w_Model_landLine_132 {rod : Nat → Nat × (Nat → Int32)} {d : Nat} {Q : Option MV → MH → Prop} {u0 : Option MV} {u1 : Option MV} {u2 : Option MV} {cs0 : Nat} {ncs0 : Nat} {xs1 : Int32} {xs2 : Int32} {h : MH} (Scs0 : h.2.2[cs0]? = some (0, ncs0)) (g0 : 0 ≤ xs1.toInt ∧ xs1.toInt < ncs0) (k : Wb rod d B_Model_landLine 133 [u0, u1, u2] [] (sI h cs0 xs1.toNatClampNeg xs2) Q) : Wb rod d B_Model_landLine 132 [u0, u1, u2] [.inl xs2, .inl xs1, .inr (.inr (.inl (some cs0)))] h Q := by
  refine Wb.go (fun r hr q => b_Model_landLine_132 (gA_of Scs0 (inB_of g0.1 g0.2)) ?_) k
  (first | exact q | (simp only [Option.getD_some]; exact q))
theorem w_Model_landLine_133 {rod : Nat → Nat × (Nat → Int32)} {d : Nat} {Q : Option MV → MH → Prop} {u0 : Option MV} {u1 : Option MV} {u2 : Option MV} {h : MH}   (k : Wb rod d B_Model_landLine 162 [u0, u1, u2] [] h Q) : Wb rod d B_Model_landLine 133 [u0, u1, u2] [] h Q := by
  refine Wb.go (fun r hr q => b_Model_landLine_133 ?_) k
  (first | exact q | (simp only [Option.getD_some]; exact q))
theorem w_Model_landLine_136 {rod : Nat → Nat × (Nat → Int32)} {d : Nat} {Q : Option MV → MH → Prop} {u1 : Option MV} {u2 : Option MV} {h : MH} (L : Lay h.2)  {Q1 : Option MV → MH → Prop} (c : Wc rod d 206 [.inr (.inr (.inl (some 84)))] h Q1) (k : ∀ r1 h2, Q1 r1 h2 → Wb rod d B_Model_landLine 148 [some (.inr (.inr (.inl (some 84)))), u1, u2] (r1.toList ++ [.inl (1 : Int32), .inl (h.1 87 (5 : Int32).toNatClampNeg), .inl (5 : Int32), .inr (.inr (.inl (some 87)))]) h2 Q) : Wb rod d B_Model_landLine 136 [some (.inr (.inr (.inl (some 84)))), u1, u2] [] h Q := by
  refine Wb.call (fun _ _ _ _ => b_Model_landLine_136 (Lay.o84 L) (Lay.a84_10 L ⟨by decide, by decide⟩)) (Q1 := Q1) ?_ ?_
  · (first | exact c | (simp only [Option.getD_some, (Lay.r84_10 L)]; exact c))
  · (first | exact k | (simp only [Option.getD_some, (Lay.r84_10 L)]; exact k))
theorem w_Model_landLine_148 {rod : Nat → Nat × (Nat → Int32)} {d : Nat} {Q : Option MV → MH → Prop} {u0 : Option MV} {u1 : Option MV} {u2 : Option MV} {cs0 : Nat} {ncs0 : Nat} {xs1 : Int32} {xs2 : Int32} {xs3 : Int32} {xs4 : Int32} {h : MH} (Scs0 : h.2.2[cs0]? = some (0, ncs0)) (g0 : 0 ≤ xs1.toInt ∧ xs1.toInt < ncs0) (k : Wb rod d B_Model_landLine 151 [u0, u1, u2] [] (sI h cs0 xs1.toNatClampNeg (xs2 ||| (xs3 <<< (xs4 &&& 31)))) Q) : Wb rod d B_Model_landLine 148 [u0, u1, u2] [.inl xs4, .inl xs3, .inl xs2, .inl xs1, .inr (.inr (.inl (some cs0)))] h Q := by
  refine Wb.go (fun r hr q => b_Model_landLine_148 (gA_of Scs0 (inB_of g0.1 g0.2)) ?_) k
  (first | exact q | (simp only [Option.getD_some]; exact q))
theorem w_Model_landLine_151 {rod : Nat → Nat × (Nat → Int32)} {d : Nat} {Q : Option MV → MH → Prop} {u0 : Option MV} {u1 : Option MV} {u2 : Option MV} {h : MH}   (k : Wb rod d B_Model_landLine 162 [u0, u1, u2] [] h Q) : Wb rod d B_Model_landLine 151 [u0, u1, u2] [] h Q := by
  refine Wb.go (fun r hr q => b_Model_landLine_151 ?_) k
  (first | exact q | (simp only [Option.getD_some]; exact q))
theorem w_Model_landLine_154 {rod : Nat → Nat × (Nat → Int32)} {d : Nat} {Q : Option MV → MH → Prop} {x1 : Int32} {x2 : Int32} {h : MH} (L : Lay h.2)  {Q1 : Option MV → MH → Prop} (c : Wc rod d 210 [.inr (.inr (.inl (some 84))), .inl x1, .inl (x2 - (1 : Int32))] h Q1) (k : ∀ r1 h2, Q1 r1 h2 → Wb rod d B_Model_landLine 162 [some (.inr (.inr (.inl (some 84)))), some (.inl x1), some (.inl x2)] (r1.toList ++ []) h2 Q) : Wb rod d B_Model_landLine 154 [some (.inr (.inr (.inl (some 84)))), some (.inl x1), some (.inl x2)] [] h Q := by
  refine Wb.call (fun _ _ _ _ => b_Model_landLine_154 (Lay.o84 L)) (Q1 := Q1) ?_ ?_
  · (first | exact c | (simp only [Option.getD_some]; exact c))
  · (first | exact k | (simp only [Option.getD_some]; exact k))
theorem w_Model_landLine_162 {rod : Nat → Nat × (Nat → Int32)} {d : Nat} {Q : Option MV → MH → Prop} {u1 : Option MV} {u2 : Option MV} {h : MH} (L : Lay h.2)  {Q1 : Option MV → MH → Prop} (c : Wc rod d 211 [.inr (.inr (.inl (some 84)))] h Q1) (k : ∀ r1 h2, Q1 r1 h2 → Wb rod d B_Model_landLine 166 [some (.inr (.inr (.inl (some 84)))), u1, u2] (r1.toList ++ []) h2 Q) : Wb rod d B_Model_landLine 162 [some (.inr (.inr (.inl (some 84)))), u1, u2] [] h Q := by
  refine Wb.call (fun _ _ _ _ => b_Model_landLine_162 (Lay.o84 L)) (Q1 := Q1) ?_ ?_
  · (first | exact c | (simp only [Option.getD_some]; exact c))
  · (first | exact k | (simp only [Option.getD_some]; exact k))
theorem w_Model_landLine_166 {rod : Nat → Nat × (Nat → Int32)} {d : Nat} {Q : Option MV → MH → Prop} {u0 : Option MV} {u1 : Option MV} {u2 : Option MV} {h : MH}   (q : Q (none) h) : Wb rod d B_Model_landLine 166 [u0, u1, u2] [] h Q := by
  refine Wb.ret (b_Model_landLine_166) ?_
  (first | exact q | (simp only [Option.getD_some]; exact q))
theorem n_Model_wordIn {rod : Nat → Nat × (Nat → Int32)} {d : Nat} {Q : Option MV → MH → Prop} {x1 : Int32} {x2 : Int32} {h : MH} (k : Wb rod d B_Model_wordIn 0 [some (.inr (.inr (.inl (some 84)))), some (.inl x1), some (.inl x2), none] [] h Q) : Wc rod (d + 1) 203 [.inr (.inr (.inl (some 84))), .inl x1, .inl x2] h Q := Wc.en (fun _ _ => e_Model_wordIn) k
theorem w_Model_wordIn_0 {rod : Nat → Nat × (Nat → Int32)} {d : Nat} {Q : Option MV → MH → Prop} {u1 : Option MV} {u2 : Option MV} {u3 : Option MV} {h : MH} (L : Lay h.2)  (k1 : ¬ (h.1 84 8).toInt = 0 → Wb rod d B_Model_wordIn 27 [some (.inr (.inr (.inl (some 84)))), u1, u2, u3] [] h Q) (k2 : (h.1 84 8).toInt = 0 → Wb rod d B_Model_wordIn 7 [some (.inr (.inr (.inl (some 84)))), u1, u2, u3] [] h Q) : Wb rod d B_Model_wordIn 0 [some (.inr (.inr (.inl (some 84)))), u1, u2, u3] [] h Q := by
  refine Wb.br (fun _ _ => b_Model_wordIn_0 (Lay.o84 L)) (fun c => ?_) (fun c => ?_)
  · have c : (!(decide ((h.1 84 8) = 0))) = true := by first | exact c | (simp only [Option.getD_some] at c; exact c)
    (first | exact (k1 (c_net c)) | (simp only [Option.getD_some]; exact (k1 (c_net c))))
  · have c : (!(decide ((h.1 84 8) = 0))) = false := by first | exact c | (simp only [Option.getD_some] at c; exact c)
    (first | exact (k2 (c_nef c)) | (simp only [Option.getD_some]; exact (k2 (c_nef c))))
theorem w_Model_wordIn_7 {rod : Nat → Nat × (Nat → Int32)} {d : Nat} {Q : Option MV → MH → Prop} {u1 : Option MV} {u2 : Option MV} {u3 : Option MV} {h : MH} (L : Lay h.2)  (k1 : ¬ (h.1 84 5).toInt = 3 → Wb rod d B_Model_wordIn 27 [some (.inr (.inr (.inl (some 84)))), u1, u2, u3] [] h Q) (k2 : (h.1 84 5).toInt = 3 → Wb rod d B_Model_wordIn 15 [some (.inr (.inr (.inl (some 84)))), u1, u2, u3] [] h Q) : Wb rod d B_Model_wordIn 7 [some (.inr (.inr (.inl (some 84)))), u1, u2, u3] [] h Q := by
  refine Wb.br (fun _ _ => b_Model_wordIn_7 (Lay.o84 L)) (fun c => ?_) (fun c => ?_)
  · have c : (!(decide ((h.1 84 5) = (3 : Int32)))) = true := by first | exact c | (simp only [Option.getD_some] at c; exact c)
    (first | exact (k1 (c_net c)) | (simp only [Option.getD_some]; exact (k1 (c_net c))))
  · have c : (!(decide ((h.1 84 5) = (3 : Int32)))) = false := by first | exact c | (simp only [Option.getD_some] at c; exact c)
    (first | exact (k2 (c_nef c)) | (simp only [Option.getD_some]; exact (k2 (c_nef c))))
theorem w_Model_wordIn_15 {rod : Nat → Nat × (Nat → Int32)} {d : Nat} {Q : Option MV → MH → Prop} {x1 : Int32} {x2 : Int32} {u3 : Option MV} {h : MH} (L : Lay h.2)  {Q1 : Option MV → MH → Prop} (c : Wc rod d 193 [.inl (h.1 84 7), .inl x1, .inl x2] h Q1) (k : ∀ r1 h2, Q1 r1 h2 → Wb rod d B_Model_wordIn 24 [some (.inr (.inr (.inl (some 84)))), some (.inl x1), some (.inl x2), u3] (r1.toList ++ []) h2 Q) : Wb rod d B_Model_wordIn 15 [some (.inr (.inr (.inl (some 84)))), some (.inl x1), some (.inl x2), u3] [] h Q := by
  refine Wb.call (fun _ _ _ _ => b_Model_wordIn_15 (Lay.o84 L)) (Q1 := Q1) ?_ ?_
  · (first | exact c | (simp only [Option.getD_some]; exact c))
  · (first | exact k | (simp only [Option.getD_some]; exact k))
theorem w_Model_wordIn_24 {rod : Nat → Nat × (Nat → Int32)} {d : Nat} {Q : Option MV → MH → Prop} {u0 : Option MV} {u1 : Option MV} {u2 : Option MV} {u3 : Option MV} {xs0 : Int32} {h : MH}   (k1 : ¬ xs0.toInt = 0 → Wb rod d B_Model_wordIn 33 [u0, u1, u2, u3] [] h Q) (k2 : xs0.toInt = 0 → Wb rod d B_Model_wordIn 27 [u0, u1, u2, u3] [] h Q) : Wb rod d B_Model_wordIn 24 [u0, u1, u2, u3] [.inl xs0] h Q := by
  refine Wb.br (fun _ _ => b_Model_wordIn_24) (fun c => ?_) (fun c => ?_)
  · have c : (!(decide (xs0 = 0))) = true := by first | exact c | (simp only [Option.getD_some] at c; exact c)
    (first | exact (k1 (c_net c)) | (simp only [Option.getD_some]; exact (k1 (c_net c))))
  · have c : (!(decide (xs0 = 0))) = false := by first | exact c | (simp only [Option.getD_some] at c; exact c)
    (first | exact (k2 (c_nef c)) | (simp only [Option.getD_some]; exact (k2 (c_nef c))))
theorem w_Model_wordIn_27 {rod : Nat → Nat × (Nat → Int32)} {d : Nat} {Q : Option MV → MH → Prop} {u1 : Option MV} {u2 : Option MV} {u3 : Option MV} {h : MH} (L : Lay h.2)  {Q1 : Option MV → MH → Prop} (c : Wc rod d 204 [.inr (.inr (.inl (some 84)))] h Q1) (k : ∀ r1 h2, Q1 r1 h2 → Wb rod d B_Model_wordIn 31 [some (.inr (.inr (.inl (some 84)))), u1, u2, u3] (r1.toList ++ []) h2 Q) : Wb rod d B_Model_wordIn 27 [some (.inr (.inr (.inl (some 84)))), u1, u2, u3] [] h Q := by
  refine Wb.call (fun _ _ _ _ => b_Model_wordIn_27 (Lay.o84 L)) (Q1 := Q1) ?_ ?_
  · (first | exact c | (simp only [Option.getD_some]; exact c))
  · (first | exact k | (simp only [Option.getD_some]; exact k))
theorem w_Model_wordIn_31 {rod : Nat → Nat × (Nat → Int32)} {d : Nat} {Q : Option MV → MH → Prop} {u0 : Option MV} {u1 : Option MV} {u2 : Option MV} {u3 : Option MV} {h : MH}   (q : Q (some (.inl (0 : Int32))) h) : Wb rod d B_Model_wordIn 31 [u0, u1, u2, u3] [] h Q := by
  refine Wb.ret (b_Model_wordIn_31) ?_
  (first | exact q | (simp only [Option.getD_some]; exact q))
theorem w_Model_wordIn_33 {rod : Nat → Nat × (Nat → Int32)} {d : Nat} {Q : Option MV → MH → Prop} {u1 : Option MV} {u2 : Option MV} {u3 : Option MV} {h : MH} (L : Lay h.2) (g0 : okl [some (.inr (.inr (.inl (some 84)))), u1, u2, u3] 3 = true) {Q1 : Option MV → MH → Prop} (c : Wc rod d 195 [.inr (.inr (.inl (some 84)))] h Q1) (k : ∀ r1 h2, Q1 r1 h2 → Wb rod d B_Model_wordIn 42 [some (.inr (.inr (.inl (some 84)))), u1, u2, some (.inl (h.1 84 7))] (r1.toList ++ []) h2 Q) : Wb rod d B_Model_wordIn 33 [some (.inr (.inr (.inl (some 84)))), u1, u2, u3] [] h Q := by
  refine Wb.call (fun _ _ _ _ => b_Model_wordIn_33 (Lay.o84 L) g0) (Q1 := Q1) ?_ ?_
  · (first | exact c | (simp only [Option.getD_some]; exact c))
  · (first | exact k | (simp only [Option.getD_some]; exact k))
theorem w_Model_wordIn_42 {rod : Nat → Nat × (Nat → Int32)} {d : Nat} {Q : Option MV → MH → Prop} {u0 : Option MV} {u1 : Option MV} {u2 : Option MV} {x3 : Int32} {h : MH}   (q : Q (some (.inl x3)) h) : Wb rod d B_Model_wordIn 42 [u0, u1, u2, some (.inl x3)] [] h Q := by
  refine Wb.ret (b_Model_wordIn_42) ?_
  (first | exact q | (simp only [Option.getD_some]; exact q))
theorem n_Model_ends {rod : Nat → Nat × (Nat → Int32)} {d : Nat} {Q : Option MV → MH → Prop}  {h : MH} (k : Wb rod d B_Model_ends 0 [some (.inr (.inr (.inl (some 84))))] [] h Q) : Wc rod (d + 1) 204 [.inr (.inr (.inl (some 84)))] h Q := Wc.en (fun _ _ => e_Model_ends) k
theorem w_Model_ends_0 {rod : Nat → Nat × (Nat → Int32)} {d : Nat} {Q : Option MV → MH → Prop}  {h : MH} (L : Lay h.2)  (k1 : (h.1 84 8).toInt = 0 → Wb rod d B_Model_ends 8 [some (.inr (.inr (.inl (some 84))))] [] h Q) (k2 : ¬ (h.1 84 8).toInt = 0 → Wb rod d B_Model_ends 7 [some (.inr (.inr (.inl (some 84))))] [] h Q) : Wb rod d B_Model_ends 0 [some (.inr (.inr (.inl (some 84))))] [] h Q := by
  refine Wb.br (fun _ _ => b_Model_ends_0 (Lay.o84 L)) (fun c => ?_) (fun c => ?_)
  · have c : (decide ((h.1 84 8) = 0)) = true := by first | exact c | (simp only [Option.getD_some] at c; exact c)
    (first | exact (k1 (c_eqt c)) | (simp only [Option.getD_some]; exact (k1 (c_eqt c))))
  · have c : (decide ((h.1 84 8) = 0)) = false := by first | exact c | (simp only [Option.getD_some] at c; exact c)
    (first | exact (k2 (c_eqf c)) | (simp only [Option.getD_some]; exact (k2 (c_eqf c))))
theorem w_Model_ends_7 {rod : Nat → Nat × (Nat → Int32)} {d : Nat} {Q : Option MV → MH → Prop} {u0 : Option MV} {h : MH}   (q : Q (none) h) : Wb rod d B_Model_ends 7 [u0] [] h Q := by
  refine Wb.ret (b_Model_ends_7) ?_
  (first | exact q | (simp only [Option.getD_some]; exact q))
theorem w_Model_ends_8 {rod : Nat → Nat × (Nat → Int32)} {d : Nat} {Q : Option MV → MH → Prop}  {h : MH} (L : Lay h.2)  (k : Wb rod d B_Model_ends 13 [some (.inr (.inr (.inl (some 84))))] [] (sI h 84 8 (1 : Int32)) Q) : Wb rod d B_Model_ends 8 [some (.inr (.inr (.inl (some 84))))] [] h Q := by
  refine Wb.go (fun r hr q => b_Model_ends_8 (Lay.o84 L) ?_) k
  (first | exact q | (simp only [Option.getD_some]; exact q))
theorem w_Model_ends_13 {rod : Nat → Nat × (Nat → Int32)} {d : Nat} {Q : Option MV → MH → Prop}  {h : MH} (L : Lay h.2)  (k : Wb rod d B_Model_ends 20 [some (.inr (.inr (.inl (some 84))))] [] (sI h 85 (5 : Int32).toNatClampNeg (1 : Int32)) Q) : Wb rod d B_Model_ends 13 [some (.inr (.inr (.inl (some 84))))] [] h Q := by
  refine Wb.go (fun r hr q => b_Model_ends_13 (Lay.o84 L) (Lay.a84_0 L ⟨by decide, by decide⟩) ?_) k
  (first | exact q | (simp only [Option.getD_some, (Lay.r84_0 L)]; exact q))
theorem w_Model_ends_20 {rod : Nat → Nat × (Nat → Int32)} {d : Nat} {Q : Option MV → MH → Prop}  {h : MH} (L : Lay h.2)  (k : Wb rod d B_Model_ends 31 [some (.inr (.inr (.inl (some 84))))] [] (sI h 85 (6 : Int32).toNatClampNeg (h.1 84 4)) Q) : Wb rod d B_Model_ends 20 [some (.inr (.inr (.inl (some 84))))] [] h Q := by
  refine Wb.go (fun r hr q => b_Model_ends_20 (Lay.o84 L) (Lay.a84_0 L ⟨by decide, by decide⟩) ?_) k
  (first | exact q | (simp only [Option.getD_some, (Lay.r84_0 L)]; exact q))
theorem w_Model_ends_31 {rod : Nat → Nat × (Nat → Int32)} {d : Nat} {Q : Option MV → MH → Prop} {u0 : Option MV} {h : MH}   (q : Q (none) h) : Wb rod d B_Model_ends 31 [u0] [] h Q := by
  refine Wb.ret (b_Model_ends_31) ?_
  (first | exact q | (simp only [Option.getD_some]; exact q))
theorem n_Model_roadLine {rod : Nat → Nat × (Nat → Int32)} {d : Nat} {Q : Option MV → MH → Prop}  {h : MH} (k : Wb rod d B_Model_roadLine 0 [some (.inr (.inr (.inl (some 84)))), none, none, none] [] h Q) : Wc rod (d + 1) 205 [.inr (.inr (.inl (some 84)))] h Q := Wc.en (fun _ _ => e_Model_roadLine) k
theorem w_Model_roadLine_0 {rod : Nat → Nat × (Nat → Int32)} {d : Nat} {Q : Option MV → MH → Prop} {u1 : Option MV} {u2 : Option MV} {u3 : Option MV} {h : MH} (L : Lay h.2)  {Q1 : Option MV → MH → Prop} (c : Wc rod d 206 [.inr (.inr (.inl (some 84)))] h Q1) (k : ∀ r1 h2, Q1 r1 h2 → Wb rod d B_Model_roadLine 4 [some (.inr (.inr (.inl (some 84)))), u1, u2, u3] (r1.toList ++ []) h2 Q) : Wb rod d B_Model_roadLine 0 [some (.inr (.inr (.inl (some 84)))), u1, u2, u3] [] h Q := by
  refine Wb.call (fun _ _ _ _ => b_Model_roadLine_0 (Lay.o84 L)) (Q1 := Q1) ?_ ?_
  · (first | exact c | (simp only [Option.getD_some]; exact c))
  · (first | exact k | (simp only [Option.getD_some]; exact k))
theorem w_Model_roadLine_4 {rod : Nat → Nat × (Nat → Int32)} {d : Nat} {Q : Option MV → MH → Prop} {u1 : Option MV} {u2 : Option MV} {u3 : Option MV} {xs0 : Int32} {h : MH} (L : Lay h.2)  (k1 : ¬ (h.1 84 8).toInt = 0 → Wb rod d B_Model_roadLine 37 [some (.inr (.inr (.inl (some 84)))), some (.inl xs0), u2, u3] [] h Q) (k2 : (h.1 84 8).toInt = 0 → Wb rod d B_Model_roadLine 12 [some (.inr (.inr (.inl (some 84)))), some (.inl xs0), u2, u3] [] h Q) : Wb rod d B_Model_roadLine 4 [some (.inr (.inr (.inl (some 84)))), u1, u2, u3] [.inl xs0] h Q := by
  refine Wb.br (fun _ _ => b_Model_roadLine_4 (Lay.o84 L)) (fun c => ?_) (fun c => ?_)
  · have c : (!(decide ((h.1 84 8) = 0))) = true := by first | exact c | (simp only [Option.getD_some] at c; exact c)
    (first | exact (k1 (c_net c)) | (simp only [Option.getD_some]; exact (k1 (c_net c))))
  · have c : (!(decide ((h.1 84 8) = 0))) = false := by first | exact c | (simp only [Option.getD_some] at c; exact c)
    (first | exact (k2 (c_nef c)) | (simp only [Option.getD_some]; exact (k2 (c_nef c))))
theorem w_Model_roadLine_12 {rod : Nat → Nat × (Nat → Int32)} {d : Nat} {Q : Option MV → MH → Prop} {u1 : Option MV} {u2 : Option MV} {u3 : Option MV} {h : MH} (L : Lay h.2)  (k1 : ¬ (h.1 84 5).toInt = 1 → Wb rod d B_Model_roadLine 37 [some (.inr (.inr (.inl (some 84)))), u1, u2, u3] [] h Q) (k2 : (h.1 84 5).toInt = 1 → Wb rod d B_Model_roadLine 20 [some (.inr (.inr (.inl (some 84)))), u1, u2, u3] [] h Q) : Wb rod d B_Model_roadLine 12 [some (.inr (.inr (.inl (some 84)))), u1, u2, u3] [] h Q := by
  refine Wb.br (fun _ _ => b_Model_roadLine_12 (Lay.o84 L)) (fun c => ?_) (fun c => ?_)
  · have c : (!(decide ((h.1 84 5) = (1 : Int32)))) = true := by first | exact c | (simp only [Option.getD_some] at c; exact c)
    (first | exact (k1 (c_net c)) | (simp only [Option.getD_some]; exact (k1 (c_net c))))
  · have c : (!(decide ((h.1 84 5) = (1 : Int32)))) = false := by first | exact c | (simp only [Option.getD_some] at c; exact c)
    (first | exact (k2 (c_nef c)) | (simp only [Option.getD_some]; exact (k2 (c_nef c))))
theorem w_Model_roadLine_20 {rod : Nat → Nat × (Nat → Int32)} {d : Nat} {Q : Option MV → MH → Prop} {x1 : Int32} {u2 : Option MV} {u3 : Option MV} {h : MH} (L : Lay h.2)  (k1 : ¬ (h.1 84 6).toInt = x1.toInt → Wb rod d B_Model_roadLine 37 [some (.inr (.inr (.inl (some 84)))), some (.inl x1), u2, u3] [] h Q) (k2 : (h.1 84 6).toInt = x1.toInt → Wb rod d B_Model_roadLine 28 [some (.inr (.inr (.inl (some 84)))), some (.inl x1), u2, u3] [] h Q) : Wb rod d B_Model_roadLine 20 [some (.inr (.inr (.inl (some 84)))), some (.inl x1), u2, u3] [] h Q := by
  refine Wb.br (fun _ _ => b_Model_roadLine_20 (Lay.o84 L)) (fun c => ?_) (fun c => ?_)
  · have c : (!(decide ((h.1 84 6) = x1))) = true := by first | exact c | (simp only [Option.getD_some] at c; exact c)
    (first | exact (k1 (c_net c)) | (simp only [Option.getD_some]; exact (k1 (c_net c))))
  · have c : (!(decide ((h.1 84 6) = x1))) = false := by first | exact c | (simp only [Option.getD_some] at c; exact c)
    (first | exact (k2 (c_nef c)) | (simp only [Option.getD_some]; exact (k2 (c_nef c))))
theorem w_Model_roadLine_28 {rod : Nat → Nat × (Nat → Int32)} {d : Nat} {Q : Option MV → MH → Prop} {u1 : Option MV} {u2 : Option MV} {u3 : Option MV} {h : MH} (L : Lay h.2)  {Q1 : Option MV → MH → Prop} (c : Wc rod d 208 [.inr (.inr (.inl (some 84))), .inl (2 : Int32), .inl (h.1 84 4)] h Q1) (k : ∀ r1 h2, Q1 r1 h2 → Wb rod d B_Model_roadLine 37 [some (.inr (.inr (.inl (some 84)))), u1, u2, u3] (r1.toList ++ []) h2 Q) : Wb rod d B_Model_roadLine 28 [some (.inr (.inr (.inl (some 84)))), u1, u2, u3] [] h Q := by
  refine Wb.call (fun _ _ _ _ => b_Model_roadLine_28 (Lay.o84 L)) (Q1 := Q1) ?_ ?_
  · (first | exact c | (simp only [Option.getD_some]; exact c))
  · (first | exact k | (simp only [Option.getD_some]; exact k))
theorem w_Model_roadLine_37 {rod : Nat → Nat × (Nat → Int32)} {d : Nat} {Q : Option MV → MH → Prop} {u1 : Option MV} {u2 : Option MV} {u3 : Option MV} {h : MH} (L : Lay h.2)  {Q1 : Option MV → MH → Prop} (c : Wc rod d 206 [.inr (.inr (.inl (some 84)))] h Q1) (k : ∀ r1 h2, Q1 r1 h2 → Wb rod d B_Model_roadLine 41 [some (.inr (.inr (.inl (some 84)))), u1, u2, u3] (r1.toList ++ []) h2 Q) : Wb rod d B_Model_roadLine 37 [some (.inr (.inr (.inl (some 84)))), u1, u2, u3] [] h Q := by
  refine Wb.call (fun _ _ _ _ => b_Model_roadLine_37 (Lay.o84 L)) (Q1 := Q1) ?_ ?_
  · (first | exact c | (simp only [Option.getD_some]; exact c))
  · (first | exact k | (simp only [Option.getD_some]; exact k))
theorem w_Model_roadLine_41 {rod : Nat → Nat × (Nat → Int32)} {d : Nat} {Q : Option MV → MH → Prop} {u1 : Option MV} {u2 : Option MV} {u3 : Option MV} {xs0 : Int32} {h : MH} (L : Lay h.2) (g0 : okl [some (.inr (.inr (.inl (some 84)))), u1, u2, u3] 2 = true) {Q1 : Option MV → MH → Prop} (c : Wc rod d 207 [.inr (.inr (.inl (some 84))), .inl (1 : Int32), .inl (9 : Int32)] h Q1) (k : ∀ r1 h2, Q1 r1 h2 → Wb rod d B_Model_roadLine 49 [some (.inr (.inr (.inl (some 84)))), u1, some (.inl xs0), u3] (r1.toList ++ []) h2 Q) : Wb rod d B_Model_roadLine 41 [some (.inr (.inr (.inl (some 84)))), u1, u2, u3] [.inl xs0] h Q := by
  refine Wb.call (fun _ _ _ _ => b_Model_roadLine_41 g0 (Lay.o84 L)) (Q1 := Q1) ?_ ?_
  · (first | exact c | (simp only [Option.getD_some]; exact c))
  · (first | exact k | (simp only [Option.getD_some]; exact k))
theorem w_Model_roadLine_49 {rod : Nat → Nat × (Nat → Int32)} {d : Nat} {Q : Option MV → MH → Prop} {x1 : Int32} {x2 : Int32} {u3 : Option MV} {xs0 : Int32} {h : MH} (L : Lay h.2) (g0 : 0 ≤ (((54 : Int32) + ((6 : Int32) * x1)) + x2).toInt ∧ (((54 : Int32) + ((6 : Int32) * x1)) + x2).toInt < 121) (k : Wb rod d B_Model_roadLine 65 [some (.inr (.inr (.inl (some 84)))), some (.inl x1), some (.inl x2), some (.inl xs0)] [] (sI h 87 (((54 : Int32) + ((6 : Int32) * x1)) + x2).toNatClampNeg xs0) Q) : Wb rod d B_Model_roadLine 49 [some (.inr (.inr (.inl (some 84)))), some (.inl x1), some (.inl x2), u3] [.inl xs0] h Q := by
  refine Wb.go (fun r hr q => b_Model_roadLine_49 (Lay.o84 L) (Lay.a84_10 L g0) ?_) k
  (first | exact q | (simp only [Option.getD_some, (Lay.r84_10 L)]; exact q))
theorem w_Model_roadLine_65 {rod : Nat → Nat × (Nat → Int32)} {d : Nat} {Q : Option MV → MH → Prop} {x1 : Int32} {x2 : Int32} {x3 : Int32} {h : MH} (L : Lay h.2) (g0 : 0 ≤ (((54 : Int32) + ((6 : Int32) * x2)) + x1).toInt ∧ (((54 : Int32) + ((6 : Int32) * x2)) + x1).toInt < 121) (k : Wb rod d B_Model_roadLine 80 [some (.inr (.inr (.inl (some 84)))), some (.inl x1), some (.inl x2), some (.inl x3)] [] (sI h 87 (((54 : Int32) + ((6 : Int32) * x2)) + x1).toNatClampNeg x3) Q) : Wb rod d B_Model_roadLine 65 [some (.inr (.inr (.inl (some 84)))), some (.inl x1), some (.inl x2), some (.inl x3)] [] h Q := by
  refine Wb.go (fun r hr q => b_Model_roadLine_65 (Lay.o84 L) (Lay.a84_10 L g0) ?_) k
  (first | exact q | (simp only [Option.getD_some, (Lay.r84_10 L)]; exact q))
theorem w_Model_roadLine_80 {rod : Nat → Nat × (Nat → Int32)} {d : Nat} {Q : Option MV → MH → Prop} {u0 : Option MV} {u1 : Option MV} {u2 : Option MV} {u3 : Option MV} {h : MH}   (q : Q (none) h) : Wb rod d B_Model_roadLine 80 [u0, u1, u2, u3] [] h Q := by
  refine Wb.ret (b_Model_roadLine_80) ?_
  (first | exact q | (simp only [Option.getD_some]; exact q))
theorem n_Model_townTold {rod : Nat → Nat × (Nat → Int32)} {d : Nat} {Q : Option MV → MH → Prop}  {h : MH} (k : Wb rod d B_Model_townTold 0 [some (.inr (.inr (.inl (some 84)))), none] [] h Q) : Wc rod (d + 1) 206 [.inr (.inr (.inl (some 84)))] h Q := Wc.en (fun _ _ => e_Model_townTold) k
theorem w_Model_townTold_0 {rod : Nat → Nat × (Nat → Int32)} {d : Nat} {Q : Option MV → MH → Prop} {u1 : Option MV} {h : MH} (L : Lay h.2)  {Q1 : Option MV → MH → Prop} (c : Wc rod d 207 [.inr (.inr (.inl (some 84))), .inl (0 : Int32), .inl (5 : Int32)] h Q1) (k : ∀ r1 h2, Q1 r1 h2 → Wb rod d B_Model_townTold 6 [some (.inr (.inr (.inl (some 84)))), u1] (r1.toList ++ []) h2 Q) : Wb rod d B_Model_townTold 0 [some (.inr (.inr (.inl (some 84)))), u1] [] h Q := by
  refine Wb.call (fun _ _ _ _ => b_Model_townTold_0 (Lay.o84 L)) (Q1 := Q1) ?_ ?_
  · (first | exact c | (simp only [Option.getD_some]; exact c))
  · (first | exact k | (simp only [Option.getD_some]; exact k))
theorem w_Model_townTold_6 {rod : Nat → Nat × (Nat → Int32)} {d : Nat} {Q : Option MV → MH → Prop} {u1 : Option MV} {xs0 : Int32} {h : MH} (L : Lay h.2)  (k1 : xs0.toInt ≤ (h.1 84 9).toInt → Wb rod d B_Model_townTold 20 [some (.inr (.inr (.inl (some 84)))), some (.inl xs0)] [.inr (.inr (.inl (some 84)))] h Q) (k2 : ¬ xs0.toInt ≤ (h.1 84 9).toInt → Wb rod d B_Model_townTold 16 [some (.inr (.inr (.inl (some 84)))), some (.inl xs0)] [.inr (.inr (.inl (some 84)))] h Q) : Wb rod d B_Model_townTold 6 [some (.inr (.inr (.inl (some 84)))), u1] [.inl xs0] h Q := by
  refine Wb.br (fun _ _ => b_Model_townTold_6 (Lay.o84 L)) (fun c => ?_) (fun c => ?_)
  · have c : (decide (xs0 ≤ (h.1 84 9))) = true := by first | exact c | (simp only [Option.getD_some] at c; exact c)
    (first | exact (k1 (c_let c)) | (simp only [Option.getD_some]; exact (k1 (c_let c))))
  · have c : (decide (xs0 ≤ (h.1 84 9))) = false := by first | exact c | (simp only [Option.getD_some] at c; exact c)
    (first | exact (k2 (c_lef c)) | (simp only [Option.getD_some]; exact (k2 (c_lef c))))
theorem w_Model_townTold_16 {rod : Nat → Nat × (Nat → Int32)} {d : Nat} {Q : Option MV → MH → Prop} {u0 : Option MV} {x1 : Int32} {h : MH}   (k : Wb rod d B_Model_townTold 24 [u0, some (.inl x1)] [.inl x1, .inr (.inr (.inl (some 84)))] h Q) : Wb rod d B_Model_townTold 16 [u0, some (.inl x1)] [.inr (.inr (.inl (some 84)))] h Q := by
  refine Wb.go (fun r hr q => b_Model_townTold_16 ?_) k
  (first | exact q | (simp only [Option.getD_some]; exact q))
theorem w_Model_townTold_20 {rod : Nat → Nat × (Nat → Int32)} {d : Nat} {Q : Option MV → MH → Prop} {u1 : Option MV} {h : MH} (L : Lay h.2)  (k : Wb rod d B_Model_townTold 24 [some (.inr (.inr (.inl (some 84)))), u1] [.inl (h.1 84 9), .inr (.inr (.inl (some 84)))] h Q) : Wb rod d B_Model_townTold 20 [some (.inr (.inr (.inl (some 84)))), u1] [.inr (.inr (.inl (some 84)))] h Q := by
  refine Wb.go (fun r hr q => b_Model_townTold_20 (Lay.o84 L) ?_) k
  (first | exact q | (simp only [Option.getD_some]; exact q))
theorem w_Model_townTold_24 {rod : Nat → Nat × (Nat → Int32)} {d : Nat} {Q : Option MV → MH → Prop} {u0 : Option MV} {u1 : Option MV} {xs1 : Int32} {h : MH} (L : Lay h.2)  (k : Wb rod d B_Model_townTold 27 [u0, u1] [] (sI h 84 9 xs1) Q) : Wb rod d B_Model_townTold 24 [u0, u1] [.inl xs1, .inr (.inr (.inl (some 84)))] h Q := by
  refine Wb.go (fun r hr q => b_Model_townTold_24 (Lay.o84 L) ?_) k
  (first | exact q | (simp only [Option.getD_some]; exact q))
theorem w_Model_townTold_27 {rod : Nat → Nat × (Nat → Int32)} {d : Nat} {Q : Option MV → MH → Prop} {u0 : Option MV} {x1 : Int32} {h : MH}   (q : Q (some (.inl x1)) h) : Wb rod d B_Model_townTold 27 [u0, some (.inl x1)] [] h Q := by
  refine Wb.ret (b_Model_townTold_27) ?_
  (first | exact q | (simp only [Option.getD_some]; exact q))
theorem n_Model_numbered {rod : Nat → Nat × (Nat → Int32)} {d : Nat} {Q : Option MV → MH → Prop} {x1 : Int32} {x2 : Int32} {h : MH} (k : Wb rod d B_Model_numbered 0 [some (.inr (.inr (.inl (some 84)))), some (.inl x1), some (.inl x2), none] [] h Q) : Wc rod (d + 1) 207 [.inr (.inr (.inl (some 84))), .inl x1, .inl x2] h Q := Wc.en (fun _ _ => e_Model_numbered) k
theorem w_Model_numbered_0 {rod : Nat → Nat × (Nat → Int32)} {d : Nat} {Q : Option MV → MH → Prop} {u1 : Option MV} {u2 : Option MV} {u3 : Option MV} {h : MH} (L : Lay h.2)  (k1 : ¬ (h.1 84 8).toInt = 0 → Wb rod d B_Model_numbered 15 [some (.inr (.inr (.inl (some 84)))), u1, u2, u3] [] h Q) (k2 : (h.1 84 8).toInt = 0 → Wb rod d B_Model_numbered 7 [some (.inr (.inr (.inl (some 84)))), u1, u2, u3] [] h Q) : Wb rod d B_Model_numbered 0 [some (.inr (.inr (.inl (some 84)))), u1, u2, u3] [] h Q := by
  refine Wb.br (fun _ _ => b_Model_numbered_0 (Lay.o84 L)) (fun c => ?_) (fun c => ?_)
  · have c : (!(decide ((h.1 84 8) = 0))) = true := by first | exact c | (simp only [Option.getD_some] at c; exact c)
    (first | exact (k1 (c_net c)) | (simp only [Option.getD_some]; exact (k1 (c_net c))))
  · have c : (!(decide ((h.1 84 8) = 0))) = false := by first | exact c | (simp only [Option.getD_some] at c; exact c)
    (first | exact (k2 (c_nef c)) | (simp only [Option.getD_some]; exact (k2 (c_nef c))))
theorem w_Model_numbered_7 {rod : Nat → Nat × (Nat → Int32)} {d : Nat} {Q : Option MV → MH → Prop} {u1 : Option MV} {u2 : Option MV} {u3 : Option MV} {h : MH} (L : Lay h.2)  (k1 : (h.1 84 5).toInt = 1 → Wb rod d B_Model_numbered 21 [some (.inr (.inr (.inl (some 84)))), u1, u2, u3] [] h Q) (k2 : ¬ (h.1 84 5).toInt = 1 → Wb rod d B_Model_numbered 15 [some (.inr (.inr (.inl (some 84)))), u1, u2, u3] [] h Q) : Wb rod d B_Model_numbered 7 [some (.inr (.inr (.inl (some 84)))), u1, u2, u3] [] h Q := by
  refine Wb.br (fun _ _ => b_Model_numbered_7 (Lay.o84 L)) (fun c => ?_) (fun c => ?_)
  · have c : (decide ((h.1 84 5) = (1 : Int32))) = true := by first | exact c | (simp only [Option.getD_some] at c; exact c)
    (first | exact (k1 (c_eqt c)) | (simp only [Option.getD_some]; exact (k1 (c_eqt c))))
  · have c : (decide ((h.1 84 5) = (1 : Int32))) = false := by first | exact c | (simp only [Option.getD_some] at c; exact c)
    (first | exact (k2 (c_eqf c)) | (simp only [Option.getD_some]; exact (k2 (c_eqf c))))
theorem w_Model_numbered_15 {rod : Nat → Nat × (Nat → Int32)} {d : Nat} {Q : Option MV → MH → Prop} {u1 : Option MV} {u2 : Option MV} {u3 : Option MV} {h : MH} (L : Lay h.2)  {Q1 : Option MV → MH → Prop} (c : Wc rod d 204 [.inr (.inr (.inl (some 84)))] h Q1) (k : ∀ r1 h2, Q1 r1 h2 → Wb rod d B_Model_numbered 19 [some (.inr (.inr (.inl (some 84)))), u1, u2, u3] (r1.toList ++ []) h2 Q) : Wb rod d B_Model_numbered 15 [some (.inr (.inr (.inl (some 84)))), u1, u2, u3] [] h Q := by
  refine Wb.call (fun _ _ _ _ => b_Model_numbered_15 (Lay.o84 L)) (Q1 := Q1) ?_ ?_
  · (first | exact c | (simp only [Option.getD_some]; exact c))
  · (first | exact k | (simp only [Option.getD_some]; exact k))
theorem w_Model_numbered_19 {rod : Nat → Nat × (Nat → Int32)} {d : Nat} {Q : Option MV → MH → Prop} {u0 : Option MV} {x1 : Int32} {u2 : Option MV} {u3 : Option MV} {h : MH}   (q : Q (some (.inl x1)) h) : Wb rod d B_Model_numbered 19 [u0, some (.inl x1), u2, u3] [] h Q := by
  refine Wb.ret (b_Model_numbered_19) ?_
  (first | exact q | (simp only [Option.getD_some]; exact q))
theorem w_Model_numbered_21 {rod : Nat → Nat × (Nat → Int32)} {d : Nat} {Q : Option MV → MH → Prop} {x1 : Int32} {x2 : Int32} {u3 : Option MV} {h : MH} (L : Lay h.2)  {Q1 : Option MV → MH → Prop} (c : Wc rod d 193 [.inl (h.1 84 6), .inl x1, .inl x2] h Q1) (k : ∀ r1 h2, Q1 r1 h2 → Wb rod d B_Model_numbered 32 [some (.inr (.inr (.inl (some 84)))), some (.inl x1), some (.inl x2), some (.inl (h.1 84 6))] (r1.toList ++ []) h2 Q) : Wb rod d B_Model_numbered 21 [some (.inr (.inr (.inl (some 84)))), some (.inl x1), some (.inl x2), u3] [] h Q := by
  refine Wb.call (fun _ _ _ _ => b_Model_numbered_21 (Lay.o84 L)) (Q1 := Q1) ?_ ?_
  · (first | exact c | (simp only [Option.getD_some]; exact c))
  · (first | exact k | (simp only [Option.getD_some]; exact k))
theorem w_Model_numbered_32 {rod : Nat → Nat × (Nat → Int32)} {d : Nat} {Q : Option MV → MH → Prop} {u0 : Option MV} {u1 : Option MV} {u2 : Option MV} {u3 : Option MV} {xs0 : Int32} {h : MH}   (k1 : ¬ xs0.toInt = 0 → Wb rod d B_Model_numbered 44 [u0, u1, u2, u3] [] h Q) (k2 : xs0.toInt = 0 → Wb rod d B_Model_numbered 35 [u0, u1, u2, u3] [] h Q) : Wb rod d B_Model_numbered 32 [u0, u1, u2, u3] [.inl xs0] h Q := by
  refine Wb.br (fun _ _ => b_Model_numbered_32) (fun c => ?_) (fun c => ?_)
  · have c : (!(decide (xs0 = 0))) = true := by first | exact c | (simp only [Option.getD_some] at c; exact c)
    (first | exact (k1 (c_net c)) | (simp only [Option.getD_some]; exact (k1 (c_net c))))
  · have c : (!(decide (xs0 = 0))) = false := by first | exact c | (simp only [Option.getD_some] at c; exact c)
    (first | exact (k2 (c_nef c)) | (simp only [Option.getD_some]; exact (k2 (c_nef c))))
theorem w_Model_numbered_35 {rod : Nat → Nat × (Nat → Int32)} {d : Nat} {Q : Option MV → MH → Prop} {u1 : Option MV} {u2 : Option MV} {u3 : Option MV} {h : MH} (L : Lay h.2)  {Q1 : Option MV → MH → Prop} (c : Wc rod d 208 [.inr (.inr (.inl (some 84))), .inl (2 : Int32), .inl (h.1 84 4)] h Q1) (k : ∀ r1 h2, Q1 r1 h2 → Wb rod d B_Model_numbered 44 [some (.inr (.inr (.inl (some 84)))), u1, u2, u3] (r1.toList ++ []) h2 Q) : Wb rod d B_Model_numbered 35 [some (.inr (.inr (.inl (some 84)))), u1, u2, u3] [] h Q := by
  refine Wb.call (fun _ _ _ _ => b_Model_numbered_35 (Lay.o84 L)) (Q1 := Q1) ?_ ?_
  · (first | exact c | (simp only [Option.getD_some]; exact c))
  · (first | exact k | (simp only [Option.getD_some]; exact k))
theorem w_Model_numbered_44 {rod : Nat → Nat × (Nat → Int32)} {d : Nat} {Q : Option MV → MH → Prop} {u1 : Option MV} {u2 : Option MV} {u3 : Option MV} {h : MH} (L : Lay h.2)  {Q1 : Option MV → MH → Prop} (c : Wc rod d 195 [.inr (.inr (.inl (some 84)))] h Q1) (k : ∀ r1 h2, Q1 r1 h2 → Wb rod d B_Model_numbered 48 [some (.inr (.inr (.inl (some 84)))), u1, u2, u3] (r1.toList ++ []) h2 Q) : Wb rod d B_Model_numbered 44 [some (.inr (.inr (.inl (some 84)))), u1, u2, u3] [] h Q := by
  refine Wb.call (fun _ _ _ _ => b_Model_numbered_44 (Lay.o84 L)) (Q1 := Q1) ?_ ?_
  · (first | exact c | (simp only [Option.getD_some]; exact c))
  · (first | exact k | (simp only [Option.getD_some]; exact k))
theorem w_Model_numbered_48 {rod : Nat → Nat × (Nat → Int32)} {d : Nat} {Q : Option MV → MH → Prop} {u0 : Option MV} {x1 : Int32} {x2 : Int32} {x3 : Int32} {h : MH}   {Q1 : Option MV → MH → Prop} (c : Wc rod d 193 [.inl x3, .inl x1, .inl x2] h Q1) (k : ∀ r1 h2, Q1 r1 h2 → Wb rod d B_Model_numbered 54 [u0, some (.inl x1), some (.inl x2), some (.inl x3)] (r1.toList ++ []) h2 Q) : Wb rod d B_Model_numbered 48 [u0, some (.inl x1), some (.inl x2), some (.inl x3)] [] h Q := by
  refine Wb.call (fun _ _ _ _ => b_Model_numbered_48) (Q1 := Q1) ?_ ?_
  · (first | exact c | (simp only [Option.getD_some]; exact c))
  · (first | exact k | (simp only [Option.getD_some]; exact k))
theorem w_Model_numbered_54 {rod : Nat → Nat × (Nat → Int32)} {d : Nat} {Q : Option MV → MH → Prop} {u0 : Option MV} {u1 : Option MV} {u2 : Option MV} {u3 : Option MV} {xs0 : Int32} {h : MH}   (k1 : xs0.toInt = 0 → Wb rod d B_Model_numbered 61 [u0, u1, u2, u3] [] h Q) (k2 : ¬ xs0.toInt = 0 → Wb rod d B_Model_numbered 57 [u0, u1, u2, u3] [] h Q) : Wb rod d B_Model_numbered 54 [u0, u1, u2, u3] [.inl xs0] h Q := by
  refine Wb.br (fun _ _ => b_Model_numbered_54) (fun c => ?_) (fun c => ?_)
  · have c : (decide (xs0 = 0)) = true := by first | exact c | (simp only [Option.getD_some] at c; exact c)
    (first | exact (k1 (c_eqt c)) | (simp only [Option.getD_some]; exact (k1 (c_eqt c))))
  · have c : (decide (xs0 = 0)) = false := by first | exact c | (simp only [Option.getD_some] at c; exact c)
    (first | exact (k2 (c_eqf c)) | (simp only [Option.getD_some]; exact (k2 (c_eqf c))))
theorem w_Model_numbered_57 {rod : Nat → Nat × (Nat → Int32)} {d : Nat} {Q : Option MV → MH → Prop} {u0 : Option MV} {u1 : Option MV} {u2 : Option MV} {x3 : Int32} {h : MH}   (k : Wb rod d B_Model_numbered 62 [u0, u1, u2, some (.inl x3)] [.inl x3] h Q) : Wb rod d B_Model_numbered 57 [u0, u1, u2, some (.inl x3)] [] h Q := by
  refine Wb.go (fun r hr q => b_Model_numbered_57 ?_) k
  (first | exact q | (simp only [Option.getD_some]; exact q))
theorem w_Model_numbered_61 {rod : Nat → Nat × (Nat → Int32)} {d : Nat} {Q : Option MV → MH → Prop} {u0 : Option MV} {x1 : Int32} {u2 : Option MV} {u3 : Option MV} {h : MH}   (k : Wb rod d B_Model_numbered 62 [u0, some (.inl x1), u2, u3] [.inl x1] h Q) : Wb rod d B_Model_numbered 61 [u0, some (.inl x1), u2, u3] [] h Q := by
  refine Wb.go (fun r hr q => b_Model_numbered_61 ?_) k
  (first | exact q | (simp only [Option.getD_some]; exact q))
theorem w_Model_numbered_62 {rod : Nat → Nat × (Nat → Int32)} {d : Nat} {Q : Option MV → MH → Prop} {u0 : Option MV} {u1 : Option MV} {u2 : Option MV} {u3 : Option MV} {xs0 : Int32} {h : MH}   (q : Q (some (.inl xs0)) h) : Wb rod d B_Model_numbered 62 [u0, u1, u2, u3] [.inl xs0] h Q := by
  refine Wb.ret (b_Model_numbered_62) ?_
  (first | exact q | (simp only [Option.getD_some]; exact q))
theorem n_Model_also {rod : Nat → Nat × (Nat → Int32)} {d : Nat} {Q : Option MV → MH → Prop} {x1 : Int32} {x2 : Int32} {h : MH} (k : Wb rod d B_Model_also 0 [some (.inr (.inr (.inl (some 84)))), some (.inl x1), some (.inl x2)] [] h Q) : Wc rod (d + 1) 208 [.inr (.inr (.inl (some 84))), .inl x1, .inl x2] h Q := Wc.en (fun _ _ => e_Model_also) k
theorem w_Model_also_0 {rod : Nat → Nat × (Nat → Int32)} {d : Nat} {Q : Option MV → MH → Prop} {u1 : Option MV} {u2 : Option MV} {h : MH} (L : Lay h.2)  (k1 : ¬ (h.1 84 8).toInt = 0 → Wb rod d B_Model_also 48 [some (.inr (.inr (.inl (some 84)))), u1, u2] [] h Q) (k2 : (h.1 84 8).toInt = 0 → Wb rod d B_Model_also 7 [some (.inr (.inr (.inl (some 84)))), u1, u2] [] h Q) : Wb rod d B_Model_also 0 [some (.inr (.inr (.inl (some 84)))), u1, u2] [] h Q := by
  refine Wb.br (fun _ _ => b_Model_also_0 (Lay.o84 L)) (fun c => ?_) (fun c => ?_)
  · have c : (!(decide ((h.1 84 8) = 0))) = true := by first | exact c | (simp only [Option.getD_some] at c; exact c)
    (first | exact (k1 (c_net c)) | (simp only [Option.getD_some]; exact (k1 (c_net c))))
  · have c : (!(decide ((h.1 84 8) = 0))) = false := by first | exact c | (simp only [Option.getD_some] at c; exact c)
    (first | exact (k2 (c_nef c)) | (simp only [Option.getD_some]; exact (k2 (c_nef c))))
theorem w_Model_also_7 {rod : Nat → Nat × (Nat → Int32)} {d : Nat} {Q : Option MV → MH → Prop} {u1 : Option MV} {u2 : Option MV} {h : MH} (L : Lay h.2)  (k1 : (h.1 85 (5 : Int32).toNatClampNeg).toInt = 0 → Wb rod d B_Model_also 49 [some (.inr (.inr (.inl (some 84)))), u1, u2] [] h Q) (k2 : ¬ (h.1 85 (5 : Int32).toNatClampNeg).toInt = 0 → Wb rod d B_Model_also 16 [some (.inr (.inr (.inl (some 84)))), u1, u2] [] h Q) : Wb rod d B_Model_also 7 [some (.inr (.inr (.inl (some 84)))), u1, u2] [] h Q := by
  refine Wb.br (fun _ _ => b_Model_also_7 (Lay.o84 L) (Lay.a84_0 L ⟨by decide, by decide⟩)) (fun c => ?_) (fun c => ?_)
  · have c : (decide ((h.1 85 (5 : Int32).toNatClampNeg) = 0)) = true := by first | exact c | (simp only [Option.getD_some, (Lay.r84_0 L)] at c; exact c)
    (first | exact (k1 (c_eqt c)) | (simp only [Option.getD_some, (Lay.r84_0 L)]; exact (k1 (c_eqt c))))
  · have c : (decide ((h.1 85 (5 : Int32).toNatClampNeg) = 0)) = false := by first | exact c | (simp only [Option.getD_some, (Lay.r84_0 L)] at c; exact c)
    (first | exact (k2 (c_eqf c)) | (simp only [Option.getD_some, (Lay.r84_0 L)]; exact (k2 (c_eqf c))))
theorem w_Model_also_16 {rod : Nat → Nat × (Nat → Int32)} {d : Nat} {Q : Option MV → MH → Prop} {u1 : Option MV} {x2 : Int32} {h : MH} (L : Lay h.2)  (k1 : (h.1 85 (6 : Int32).toNatClampNeg).toInt < x2.toInt → Wb rod d B_Model_also 48 [some (.inr (.inr (.inl (some 84)))), u1, some (.inl x2)] [] h Q) (k2 : ¬ (h.1 85 (6 : Int32).toNatClampNeg).toInt < x2.toInt → Wb rod d B_Model_also 27 [some (.inr (.inr (.inl (some 84)))), u1, some (.inl x2)] [] h Q) : Wb rod d B_Model_also 16 [some (.inr (.inr (.inl (some 84)))), u1, some (.inl x2)] [] h Q := by
  refine Wb.br (fun _ _ => b_Model_also_16 (Lay.o84 L) (Lay.a84_0 L ⟨by decide, by decide⟩)) (fun c => ?_) (fun c => ?_)
  · have c : (decide ((h.1 85 (6 : Int32).toNatClampNeg) < x2)) = true := by first | exact c | (simp only [Option.getD_some, (Lay.r84_0 L)] at c; exact c)
    (first | exact (k1 (c_ltt c)) | (simp only [Option.getD_some, (Lay.r84_0 L)]; exact (k1 (c_ltt c))))
  · have c : (decide ((h.1 85 (6 : Int32).toNatClampNeg) < x2)) = false := by first | exact c | (simp only [Option.getD_some, (Lay.r84_0 L)] at c; exact c)
    (first | exact (k2 (c_ltf c)) | (simp only [Option.getD_some, (Lay.r84_0 L)]; exact (k2 (c_ltf c))))
theorem w_Model_also_27 {rod : Nat → Nat × (Nat → Int32)} {d : Nat} {Q : Option MV → MH → Prop} {u1 : Option MV} {x2 : Int32} {h : MH} (L : Lay h.2)  (k1 : ¬ (h.1 85 (6 : Int32).toNatClampNeg).toInt = x2.toInt → Wb rod d B_Model_also 49 [some (.inr (.inr (.inl (some 84)))), u1, some (.inl x2)] [] h Q) (k2 : (h.1 85 (6 : Int32).toNatClampNeg).toInt = x2.toInt → Wb rod d B_Model_also 38 [some (.inr (.inr (.inl (some 84)))), u1, some (.inl x2)] [] h Q) : Wb rod d B_Model_also 27 [some (.inr (.inr (.inl (some 84)))), u1, some (.inl x2)] [] h Q := by
  refine Wb.br (fun _ _ => b_Model_also_27 (Lay.o84 L) (Lay.a84_0 L ⟨by decide, by decide⟩)) (fun c => ?_) (fun c => ?_)
  · have c : (!(decide ((h.1 85 (6 : Int32).toNatClampNeg) = x2))) = true := by first | exact c | (simp only [Option.getD_some, (Lay.r84_0 L)] at c; exact c)
    (first | exact (k1 (c_net c)) | (simp only [Option.getD_some, (Lay.r84_0 L)]; exact (k1 (c_net c))))
  · have c : (!(decide ((h.1 85 (6 : Int32).toNatClampNeg) = x2))) = false := by first | exact c | (simp only [Option.getD_some, (Lay.r84_0 L)] at c; exact c)
    (first | exact (k2 (c_nef c)) | (simp only [Option.getD_some, (Lay.r84_0 L)]; exact (k2 (c_nef c))))
theorem w_Model_also_38 {rod : Nat → Nat × (Nat → Int32)} {d : Nat} {Q : Option MV → MH → Prop} {x1 : Int32} {u2 : Option MV} {h : MH} (L : Lay h.2)  (k1 : x1.toInt < (h.1 85 (5 : Int32).toNatClampNeg).toInt → Wb rod d B_Model_also 49 [some (.inr (.inr (.inl (some 84)))), some (.inl x1), u2] [] h Q) (k2 : ¬ x1.toInt < (h.1 85 (5 : Int32).toNatClampNeg).toInt → Wb rod d B_Model_also 48 [some (.inr (.inr (.inl (some 84)))), some (.inl x1), u2] [] h Q) : Wb rod d B_Model_also 38 [some (.inr (.inr (.inl (some 84)))), some (.inl x1), u2] [] h Q := by
  refine Wb.br (fun _ _ => b_Model_also_38 (Lay.o84 L) (Lay.a84_0 L ⟨by decide, by decide⟩)) (fun c => ?_) (fun c => ?_)
  · have c : (decide (x1 < (h.1 85 (5 : Int32).toNatClampNeg))) = true := by first | exact c | (simp only [Option.getD_some, (Lay.r84_0 L)] at c; exact c)
    (first | exact (k1 (c_ltt c)) | (simp only [Option.getD_some, (Lay.r84_0 L)]; exact (k1 (c_ltt c))))
  · have c : (decide (x1 < (h.1 85 (5 : Int32).toNatClampNeg))) = false := by first | exact c | (simp only [Option.getD_some, (Lay.r84_0 L)] at c; exact c)
    (first | exact (k2 (c_ltf c)) | (simp only [Option.getD_some, (Lay.r84_0 L)]; exact (k2 (c_ltf c))))
theorem w_Model_also_48 {rod : Nat → Nat × (Nat → Int32)} {d : Nat} {Q : Option MV → MH → Prop} {u0 : Option MV} {u1 : Option MV} {u2 : Option MV} {h : MH}   (q : Q (none) h) : Wb rod d B_Model_also 48 [u0, u1, u2] [] h Q := by
  refine Wb.ret (b_Model_also_48) ?_
  (first | exact q | (simp only [Option.getD_some]; exact q))
theorem w_Model_also_49 {rod : Nat → Nat × (Nat → Int32)} {d : Nat} {Q : Option MV → MH → Prop} {x1 : Int32} {u2 : Option MV} {h : MH} (L : Lay h.2)  (k : Wb rod d B_Model_also 56 [some (.inr (.inr (.inl (some 84)))), some (.inl x1), u2] [] (sI h 85 (5 : Int32).toNatClampNeg x1) Q) : Wb rod d B_Model_also 49 [some (.inr (.inr (.inl (some 84)))), some (.inl x1), u2] [] h Q := by
  refine Wb.go (fun r hr q => b_Model_also_49 (Lay.o84 L) (Lay.a84_0 L ⟨by decide, by decide⟩) ?_) k
  (first | exact q | (simp only [Option.getD_some, (Lay.r84_0 L)]; exact q))
theorem w_Model_also_56 {rod : Nat → Nat × (Nat → Int32)} {d : Nat} {Q : Option MV → MH → Prop} {u1 : Option MV} {x2 : Int32} {h : MH} (L : Lay h.2)  (k : Wb rod d B_Model_also 64 [some (.inr (.inr (.inl (some 84)))), u1, some (.inl x2)] [] (sI h 85 (6 : Int32).toNatClampNeg x2) Q) : Wb rod d B_Model_also 56 [some (.inr (.inr (.inl (some 84)))), u1, some (.inl x2)] [] h Q := by
  refine Wb.go (fun r hr q => b_Model_also_56 (Lay.o84 L) (Lay.a84_0 L ⟨by decide, by decide⟩) ?_) k
  (first | exact q | (simp only [Option.getD_some, (Lay.r84_0 L)]; exact q))
theorem w_Model_also_64 {rod : Nat → Nat × (Nat → Int32)} {d : Nat} {Q : Option MV → MH → Prop} {u0 : Option MV} {u1 : Option MV} {u2 : Option MV} {h : MH}   (q : Q (none) h) : Wb rod d B_Model_also 64 [u0, u1, u2] [] h Q := by
  refine Wb.ret (b_Model_also_64) ?_
  (first | exact q | (simp only [Option.getD_some]; exact q))
theorem n_Model_letterLine {rod : Nat → Nat × (Nat → Int32)} {d : Nat} {Q : Option MV → MH → Prop} {x1 : Int32} {h : MH} (k : Wb rod d B_Model_letterLine 0 [some (.inr (.inr (.inl (some 84)))), some (.inl x1), none, none, none] [] h Q) : Wc rod (d + 1) 209 [.inr (.inr (.inl (some 84))), .inl x1] h Q := Wc.en (fun _ _ => e_Model_letterLine) k
theorem w_Model_letterLine_0 {rod : Nat → Nat × (Nat → Int32)} {d : Nat} {Q : Option MV → MH → Prop} {u1 : Option MV} {u2 : Option MV} {u3 : Option MV} {u4 : Option MV} {h : MH} (L : Lay h.2)  (k1 : 4 ≤ (h.1 87 (2 : Int32).toNatClampNeg).toInt → Wb rod d B_Model_letterLine 14 [some (.inr (.inr (.inl (some 84)))), u1, u2, u3, u4] [] h Q) (k2 : ¬ 4 ≤ (h.1 87 (2 : Int32).toNatClampNeg).toInt → Wb rod d B_Model_letterLine 10 [some (.inr (.inr (.inl (some 84)))), u1, u2, u3, u4] [] h Q) : Wb rod d B_Model_letterLine 0 [some (.inr (.inr (.inl (some 84)))), u1, u2, u3, u4] [] h Q := by
  refine Wb.br (fun _ _ => b_Model_letterLine_0 (Lay.o84 L) (Lay.a84_10 L ⟨by decide, by decide⟩)) (fun c => ?_) (fun c => ?_)
  · have c : (decide ((4 : Int32) ≤ (h.1 87 (2 : Int32).toNatClampNeg))) = true := by first | exact c | (simp only [Option.getD_some, (Lay.r84_10 L)] at c; exact c)
    (first | exact (k1 (c_let c)) | (simp only [Option.getD_some, (Lay.r84_10 L)]; exact (k1 (c_let c))))
  · have c : (decide ((4 : Int32) ≤ (h.1 87 (2 : Int32).toNatClampNeg))) = false := by first | exact c | (simp only [Option.getD_some, (Lay.r84_10 L)] at c; exact c)
    (first | exact (k2 (c_lef c)) | (simp only [Option.getD_some, (Lay.r84_10 L)]; exact (k2 (c_lef c))))
theorem w_Model_letterLine_10 {rod : Nat → Nat × (Nat → Int32)} {d : Nat} {Q : Option MV → MH → Prop} {u0 : Option MV} {u1 : Option MV} {u2 : Option MV} {u3 : Option MV} {u4 : Option MV} {h : MH}   (k : Wb rod d B_Model_letterLine 15 [u0, u1, u2, u3, u4] [.inl (1 : Int32)] h Q) : Wb rod d B_Model_letterLine 10 [u0, u1, u2, u3, u4] [] h Q := by
  refine Wb.go (fun r hr q => b_Model_letterLine_10 ?_) k
  (first | exact q | (simp only [Option.getD_some]; exact q))
theorem w_Model_letterLine_14 {rod : Nat → Nat × (Nat → Int32)} {d : Nat} {Q : Option MV → MH → Prop} {u0 : Option MV} {u1 : Option MV} {u2 : Option MV} {u3 : Option MV} {u4 : Option MV} {h : MH}   (k : Wb rod d B_Model_letterLine 15 [u0, u1, u2, u3, u4] [.inl (0 : Int32)] h Q) : Wb rod d B_Model_letterLine 14 [u0, u1, u2, u3, u4] [] h Q := by
  refine Wb.go (fun r hr q => b_Model_letterLine_14 ?_) k
  (first | exact q | (simp only [Option.getD_some]; exact q))
theorem w_Model_letterLine_15 {rod : Nat → Nat × (Nat → Int32)} {d : Nat} {Q : Option MV → MH → Prop} {u0 : Option MV} {u1 : Option MV} {u2 : Option MV} {u3 : Option MV} {u4 : Option MV} {xs0 : Int32} {h : MH}  (g0 : okl [u0, u1, u2, u3, u4] 2 = true) (k1 : ¬ xs0.toInt = 0 → Wb rod d B_Model_letterLine 26 [u0, u1, some (.inl xs0), u3, u4] [] h Q) (k2 : xs0.toInt = 0 → Wb rod d B_Model_letterLine 20 [u0, u1, some (.inl xs0), u3, u4] [] h Q) : Wb rod d B_Model_letterLine 15 [u0, u1, u2, u3, u4] [.inl xs0] h Q := by
  refine Wb.br (fun _ _ => b_Model_letterLine_15 g0) (fun c => ?_) (fun c => ?_)
  · have c : (!(decide (xs0 = 0))) = true := by first | exact c | (simp only [Option.getD_some] at c; exact c)
    (first | exact (k1 (c_net c)) | (simp only [Option.getD_some]; exact (k1 (c_net c))))
  · have c : (!(decide (xs0 = 0))) = false := by first | exact c | (simp only [Option.getD_some] at c; exact c)
    (first | exact (k2 (c_nef c)) | (simp only [Option.getD_some]; exact (k2 (c_nef c))))
theorem w_Model_letterLine_20 {rod : Nat → Nat × (Nat → Int32)} {d : Nat} {Q : Option MV → MH → Prop} {x1 : Int32} {u2 : Option MV} {u3 : Option MV} {u4 : Option MV} {h : MH} (L : Lay h.2)  {Q1 : Option MV → MH → Prop} (c : Wc rod d 208 [.inr (.inr (.inl (some 84))), .inl (3 : Int32), .inl x1] h Q1) (k : ∀ r1 h2, Q1 r1 h2 → Wb rod d B_Model_letterLine 26 [some (.inr (.inr (.inl (some 84)))), some (.inl x1), u2, u3, u4] (r1.toList ++ []) h2 Q) : Wb rod d B_Model_letterLine 20 [some (.inr (.inr (.inl (some 84)))), some (.inl x1), u2, u3, u4] [] h Q := by
  refine Wb.call (fun _ _ _ _ => b_Model_letterLine_20 (Lay.o84 L)) (Q1 := Q1) ?_ ?_
  · (first | exact c | (simp only [Option.getD_some]; exact c))
  · (first | exact k | (simp only [Option.getD_some]; exact k))
theorem w_Model_letterLine_26 {rod : Nat → Nat × (Nat → Int32)} {d : Nat} {Q : Option MV → MH → Prop} {u1 : Option MV} {u2 : Option MV} {u3 : Option MV} {u4 : Option MV} {h : MH} (L : Lay h.2)  {Q1 : Option MV → MH → Prop} (c : Wc rod d 207 [.inr (.inr (.inl (some 84))), .inl (1 : Int32), .inl (60 : Int32)] h Q1) (k : ∀ r1 h2, Q1 r1 h2 → Wb rod d B_Model_letterLine 33 [some (.inr (.inr (.inl (some 84)))), u1, u2, u3, u4] (r1.toList ++ []) h2 Q) : Wb rod d B_Model_letterLine 26 [some (.inr (.inr (.inl (some 84)))), u1, u2, u3, u4] [] h Q := by
  refine Wb.call (fun _ _ _ _ => b_Model_letterLine_26 (Lay.o84 L)) (Q1 := Q1) ?_ ?_
  · (first | exact c | (simp only [Option.getD_some]; exact c))
  · (first | exact k | (simp only [Option.getD_some]; exact k))
theorem w_Model_letterLine_33 {rod : Nat → Nat × (Nat → Int32)} {d : Nat} {Q : Option MV → MH → Prop} {u1 : Option MV} {u2 : Option MV} {u3 : Option MV} {u4 : Option MV} {xs0 : Int32} {h : MH} (L : Lay h.2) (g0 : okl [some (.inr (.inr (.inl (some 84)))), u1, u2, u3, u4] 3 = true) {Q1 : Option MV → MH → Prop} (c : Wc rod d 207 [.inr (.inr (.inl (some 84))), .inl (0 : Int32), .inl (60 : Int32)] h Q1) (k : ∀ r1 h2, Q1 r1 h2 → Wb rod d B_Model_letterLine 41 [some (.inr (.inr (.inl (some 84)))), u1, u2, some (.inl xs0), u4] (r1.toList ++ []) h2 Q) : Wb rod d B_Model_letterLine 33 [some (.inr (.inr (.inl (some 84)))), u1, u2, u3, u4] [.inl xs0] h Q := by
  refine Wb.call (fun _ _ _ _ => b_Model_letterLine_33 g0 (Lay.o84 L)) (Q1 := Q1) ?_ ?_
  · (first | exact c | (simp only [Option.getD_some]; exact c))
  · (first | exact k | (simp only [Option.getD_some]; exact k))
theorem w_Model_letterLine_41 {rod : Nat → Nat × (Nat → Int32)} {d : Nat} {Q : Option MV → MH → Prop} {u0 : Option MV} {u1 : Option MV} {x2 : Int32} {u3 : Option MV} {u4 : Option MV} {xs0 : Int32} {h : MH}  (g0 : okl [u0, u1, some (.inl x2), u3, u4] 4 = true) (k1 : ¬ x2.toInt = 0 → Wb rod d B_Model_letterLine 48 [u0, u1, some (.inl x2), u3, some (.inl xs0)] [] h Q) (k2 : x2.toInt = 0 → Wb rod d B_Model_letterLine 47 [u0, u1, some (.inl x2), u3, some (.inl xs0)] [] h Q) : Wb rod d B_Model_letterLine 41 [u0, u1, some (.inl x2), u3, u4] [.inl xs0] h Q := by
  refine Wb.br (fun _ _ => b_Model_letterLine_41 g0) (fun c => ?_) (fun c => ?_)
  · have c : (!(decide (x2 = 0))) = true := by first | exact c | (simp only [Option.getD_some] at c; exact c)
    (first | exact (k1 (c_net c)) | (simp only [Option.getD_some]; exact (k1 (c_net c))))
  · have c : (!(decide (x2 = 0))) = false := by first | exact c | (simp only [Option.getD_some] at c; exact c)
    (first | exact (k2 (c_nef c)) | (simp only [Option.getD_some]; exact (k2 (c_nef c))))
theorem w_Model_letterLine_47 {rod : Nat → Nat × (Nat → Int32)} {d : Nat} {Q : Option MV → MH → Prop} {u0 : Option MV} {u1 : Option MV} {u2 : Option MV} {u3 : Option MV} {u4 : Option MV} {h : MH}   (q : Q (none) h) : Wb rod d B_Model_letterLine 47 [u0, u1, u2, u3, u4] [] h Q := by
  refine Wb.ret (b_Model_letterLine_47) ?_
  (first | exact q | (simp only [Option.getD_some]; exact q))
theorem w_Model_letterLine_48 {rod : Nat → Nat × (Nat → Int32)} {d : Nat} {Q : Option MV → MH → Prop} {u1 : Option MV} {u2 : Option MV} {x3 : Int32} {u4 : Option MV} {h : MH} (L : Lay h.2) (g0 : 0 ≤ ((46 : Int32) + ((2 : Int32) * (h.1 87 (2 : Int32).toNatClampNeg))).toInt ∧ ((46 : Int32) + ((2 : Int32) * (h.1 87 (2 : Int32).toNatClampNeg))).toInt < 121) (k : Wb rod d B_Model_letterLine 65 [some (.inr (.inr (.inl (some 84)))), u1, u2, some (.inl x3), u4] [] (sI h 87 ((46 : Int32) + ((2 : Int32) * (h.1 87 (2 : Int32).toNatClampNeg))).toNatClampNeg x3) Q) : Wb rod d B_Model_letterLine 48 [some (.inr (.inr (.inl (some 84)))), u1, u2, some (.inl x3), u4] [] h Q := by
  refine Wb.go (fun r hr q => b_Model_letterLine_48 (Lay.o84 L) (Lay.a84_10 L ⟨by decide, by decide⟩) (Lay.a84_10 L (by first | exact g0 | (simp only [Option.getD_some, (Lay.r84_10 L)]; exact g0))) ?_) k
  (first | exact q | (simp only [Option.getD_some, (Lay.r84_10 L)]; exact q))
theorem w_Model_letterLine_65 {rod : Nat → Nat × (Nat → Int32)} {d : Nat} {Q : Option MV → MH → Prop} {u1 : Option MV} {u2 : Option MV} {u3 : Option MV} {x4 : Int32} {h : MH} (L : Lay h.2) (g0 : 0 ≤ (((46 : Int32) + ((2 : Int32) * (h.1 87 (2 : Int32).toNatClampNeg))) + (1 : Int32)).toInt ∧ (((46 : Int32) + ((2 : Int32) * (h.1 87 (2 : Int32).toNatClampNeg))) + (1 : Int32)).toInt < 121) (k : Wb rod d B_Model_letterLine 85 [some (.inr (.inr (.inl (some 84)))), u1, u2, u3, some (.inl x4)] [] (sI h 87 (((46 : Int32) + ((2 : Int32) * (h.1 87 (2 : Int32).toNatClampNeg))) + (1 : Int32)).toNatClampNeg x4) Q) : Wb rod d B_Model_letterLine 65 [some (.inr (.inr (.inl (some 84)))), u1, u2, u3, some (.inl x4)] [] h Q := by
  refine Wb.go (fun r hr q => b_Model_letterLine_65 (Lay.o84 L) (Lay.a84_10 L ⟨by decide, by decide⟩) (Lay.a84_10 L (by first | exact g0 | (simp only [Option.getD_some, (Lay.r84_10 L)]; exact g0))) ?_) k
  (first | exact q | (simp only [Option.getD_some, (Lay.r84_10 L)]; exact q))
theorem w_Model_letterLine_85 {rod : Nat → Nat × (Nat → Int32)} {d : Nat} {Q : Option MV → MH → Prop} {u1 : Option MV} {u2 : Option MV} {u3 : Option MV} {u4 : Option MV} {h : MH} (L : Lay h.2)  (k : Wb rod d B_Model_letterLine 95 [some (.inr (.inr (.inl (some 84)))), u1, u2, u3, u4] [] (sI h 87 (2 : Int32).toNatClampNeg ((h.1 87 (2 : Int32).toNatClampNeg) + (1 : Int32))) Q) : Wb rod d B_Model_letterLine 85 [some (.inr (.inr (.inl (some 84)))), u1, u2, u3, u4] [] h Q := by
  refine Wb.go (fun r hr q => b_Model_letterLine_85 (Lay.o84 L) (Lay.a84_10 L ⟨by decide, by decide⟩) ?_) k
  (first | exact q | (simp only [Option.getD_some, (Lay.r84_10 L)]; exact q))
theorem w_Model_letterLine_95 {rod : Nat → Nat × (Nat → Int32)} {d : Nat} {Q : Option MV → MH → Prop} {u0 : Option MV} {u1 : Option MV} {u2 : Option MV} {u3 : Option MV} {u4 : Option MV} {h : MH}   (q : Q (none) h) : Wb rod d B_Model_letterLine 95 [u0, u1, u2, u3, u4] [] h Q := by
  refine Wb.ret (b_Model_letterLine_95) ?_
  (first | exact q | (simp only [Option.getD_some]; exact q))
theorem n_Model_buyerLine {rod : Nat → Nat × (Nat → Int32)} {d : Nat} {Q : Option MV → MH → Prop} {x1 : Int32} {x2 : Int32} {h : MH} (k : Wb rod d B_Model_buyerLine 0 [some (.inr (.inr (.inl (some 84)))), some (.inl x1), some (.inl x2), none, none, none, none, none, none] [] h Q) : Wc rod (d + 1) 210 [.inr (.inr (.inl (some 84))), .inl x1, .inl x2] h Q := Wc.en (fun _ _ => e_Model_buyerLine) k
theorem w_Model_buyerLine_0 {rod : Nat → Nat × (Nat → Int32)} {d : Nat} {Q : Option MV → MH → Prop} {u1 : Option MV} {u2 : Option MV} {u3 : Option MV} {u4 : Option MV} {u5 : Option MV} {u6 : Option MV} {u7 : Option MV} {u8 : Option MV} {h : MH} (L : Lay h.2)  (k1 : 8 ≤ (h.1 87 (1 : Int32).toNatClampNeg).toInt → Wb rod d B_Model_buyerLine 15 [some (.inr (.inr (.inl (some 84)))), u1, u2, u3, u4, u5, u6, u7, u8] [] h Q) (k2 : ¬ 8 ≤ (h.1 87 (1 : Int32).toNatClampNeg).toInt → Wb rod d B_Model_buyerLine 11 [some (.inr (.inr (.inl (some 84)))), u1, u2, u3, u4, u5, u6, u7, u8] [] h Q) : Wb rod d B_Model_buyerLine 0 [some (.inr (.inr (.inl (some 84)))), u1, u2, u3, u4, u5, u6, u7, u8] [] h Q := by
  refine Wb.br (fun _ _ => b_Model_buyerLine_0 (Lay.o84 L) (Lay.a84_10 L ⟨by decide, by decide⟩)) (fun c => ?_) (fun c => ?_)
  · have c : (decide ((8 : Int32) ≤ (h.1 87 (1 : Int32).toNatClampNeg))) = true := by first | exact c | (simp only [Option.getD_some, (Lay.r84_10 L)] at c; exact c)
    (first | exact (k1 (c_let c)) | (simp only [Option.getD_some, (Lay.r84_10 L)]; exact (k1 (c_let c))))
  · have c : (decide ((8 : Int32) ≤ (h.1 87 (1 : Int32).toNatClampNeg))) = false := by first | exact c | (simp only [Option.getD_some, (Lay.r84_10 L)] at c; exact c)
    (first | exact (k2 (c_lef c)) | (simp only [Option.getD_some, (Lay.r84_10 L)]; exact (k2 (c_lef c))))
theorem w_Model_buyerLine_11 {rod : Nat → Nat × (Nat → Int32)} {d : Nat} {Q : Option MV → MH → Prop} {u0 : Option MV} {u1 : Option MV} {u2 : Option MV} {u3 : Option MV} {u4 : Option MV} {u5 : Option MV} {u6 : Option MV} {u7 : Option MV} {u8 : Option MV} {h : MH}   (k : Wb rod d B_Model_buyerLine 16 [u0, u1, u2, u3, u4, u5, u6, u7, u8] [.inl (1 : Int32)] h Q) : Wb rod d B_Model_buyerLine 11 [u0, u1, u2, u3, u4, u5, u6, u7, u8] [] h Q := by
  refine Wb.go (fun r hr q => b_Model_buyerLine_11 ?_) k
  (first | exact q | (simp only [Option.getD_some]; exact q))
theorem w_Model_buyerLine_15 {rod : Nat → Nat × (Nat → Int32)} {d : Nat} {Q : Option MV → MH → Prop} {u0 : Option MV} {u1 : Option MV} {u2 : Option MV} {u3 : Option MV} {u4 : Option MV} {u5 : Option MV} {u6 : Option MV} {u7 : Option MV} {u8 : Option MV} {h : MH}   (k : Wb rod d B_Model_buyerLine 16 [u0, u1, u2, u3, u4, u5, u6, u7, u8] [.inl (0 : Int32)] h Q) : Wb rod d B_Model_buyerLine 15 [u0, u1, u2, u3, u4, u5, u6, u7, u8] [] h Q := by
  refine Wb.go (fun r hr q => b_Model_buyerLine_15 ?_) k
  (first | exact q | (simp only [Option.getD_some]; exact q))
theorem w_Model_buyerLine_16 {rod : Nat → Nat × (Nat → Int32)} {d : Nat} {Q : Option MV → MH → Prop} {u1 : Option MV} {u2 : Option MV} {u3 : Option MV} {u4 : Option MV} {u5 : Option MV} {u6 : Option MV} {u7 : Option MV} {u8 : Option MV} {xs0 : Int32} {h : MH} (L : Lay h.2) (g0 : okl [some (.inr (.inr (.inl (some 84)))), u1, u2, u3, u4, u5, u6, u7, u8] 3 = true) (k1 : ¬ (h.1 84 8).toInt = 0 → Wb rod d B_Model_buyerLine 34 [some (.inr (.inr (.inl (some 84)))), u1, u2, some (.inl xs0), u4, u5, u6, u7, u8] [] h Q) (k2 : (h.1 84 8).toInt = 0 → Wb rod d B_Model_buyerLine 24 [some (.inr (.inr (.inl (some 84)))), u1, u2, some (.inl xs0), u4, u5, u6, u7, u8] [] h Q) : Wb rod d B_Model_buyerLine 16 [some (.inr (.inr (.inl (some 84)))), u1, u2, u3, u4, u5, u6, u7, u8] [.inl xs0] h Q := by
  refine Wb.br (fun _ _ => b_Model_buyerLine_16 g0 (Lay.o84 L)) (fun c => ?_) (fun c => ?_)
  · have c : (!(decide ((h.1 84 8) = 0))) = true := by first | exact c | (simp only [Option.getD_some] at c; exact c)
    (first | exact (k1 (c_net c)) | (simp only [Option.getD_some]; exact (k1 (c_net c))))
  · have c : (!(decide ((h.1 84 8) = 0))) = false := by first | exact c | (simp only [Option.getD_some] at c; exact c)
    (first | exact (k2 (c_nef c)) | (simp only [Option.getD_some]; exact (k2 (c_nef c))))
theorem w_Model_buyerLine_24 {rod : Nat → Nat × (Nat → Int32)} {d : Nat} {Q : Option MV → MH → Prop} {u0 : Option MV} {u1 : Option MV} {u2 : Option MV} {x3 : Int32} {u4 : Option MV} {u5 : Option MV} {u6 : Option MV} {u7 : Option MV} {u8 : Option MV} {h : MH}   (k1 : ¬ x3.toInt = 0 → Wb rod d B_Model_buyerLine 34 [u0, u1, u2, some (.inl x3), u4, u5, u6, u7, u8] [] h Q) (k2 : x3.toInt = 0 → Wb rod d B_Model_buyerLine 28 [u0, u1, u2, some (.inl x3), u4, u5, u6, u7, u8] [] h Q) : Wb rod d B_Model_buyerLine 24 [u0, u1, u2, some (.inl x3), u4, u5, u6, u7, u8] [] h Q := by
  refine Wb.br (fun _ _ => b_Model_buyerLine_24) (fun c => ?_) (fun c => ?_)
  · have c : (!(decide (x3 = 0))) = true := by first | exact c | (simp only [Option.getD_some] at c; exact c)
    (first | exact (k1 (c_net c)) | (simp only [Option.getD_some]; exact (k1 (c_net c))))
  · have c : (!(decide (x3 = 0))) = false := by first | exact c | (simp only [Option.getD_some] at c; exact c)
    (first | exact (k2 (c_nef c)) | (simp only [Option.getD_some]; exact (k2 (c_nef c))))
theorem w_Model_buyerLine_28 {rod : Nat → Nat × (Nat → Int32)} {d : Nat} {Q : Option MV → MH → Prop} {x1 : Int32} {u2 : Option MV} {u3 : Option MV} {u4 : Option MV} {u5 : Option MV} {u6 : Option MV} {u7 : Option MV} {u8 : Option MV} {h : MH} (L : Lay h.2)  {Q1 : Option MV → MH → Prop} (c : Wc rod d 208 [.inr (.inr (.inl (some 84))), .inl (3 : Int32), .inl x1] h Q1) (k : ∀ r1 h2, Q1 r1 h2 → Wb rod d B_Model_buyerLine 34 [some (.inr (.inr (.inl (some 84)))), some (.inl x1), u2, u3, u4, u5, u6, u7, u8] (r1.toList ++ []) h2 Q) : Wb rod d B_Model_buyerLine 28 [some (.inr (.inr (.inl (some 84)))), some (.inl x1), u2, u3, u4, u5, u6, u7, u8] [] h Q := by
  refine Wb.call (fun _ _ _ _ => b_Model_buyerLine_28 (Lay.o84 L)) (Q1 := Q1) ?_ ?_
  · (first | exact c | (simp only [Option.getD_some]; exact c))
  · (first | exact k | (simp only [Option.getD_some]; exact k))
theorem w_Model_buyerLine_34 {rod : Nat → Nat × (Nat → Int32)} {d : Nat} {Q : Option MV → MH → Prop} {u1 : Option MV} {u2 : Option MV} {u3 : Option MV} {u4 : Option MV} {u5 : Option MV} {u6 : Option MV} {u7 : Option MV} {u8 : Option MV} {h : MH} (L : Lay h.2)  {Q1 : Option MV → MH → Prop} (c : Wc rod d 206 [.inr (.inr (.inl (some 84)))] h Q1) (k : ∀ r1 h2, Q1 r1 h2 → Wb rod d B_Model_buyerLine 38 [some (.inr (.inr (.inl (some 84)))), u1, u2, u3, u4, u5, u6, u7, u8] (r1.toList ++ []) h2 Q) : Wb rod d B_Model_buyerLine 34 [some (.inr (.inr (.inl (some 84)))), u1, u2, u3, u4, u5, u6, u7, u8] [] h Q := by
  refine Wb.call (fun _ _ _ _ => b_Model_buyerLine_34 (Lay.o84 L)) (Q1 := Q1) ?_ ?_
  · (first | exact c | (simp only [Option.getD_some]; exact c))
  · (first | exact k | (simp only [Option.getD_some]; exact k))
theorem w_Model_buyerLine_38 {rod : Nat → Nat × (Nat → Int32)} {d : Nat} {Q : Option MV → MH → Prop} {u1 : Option MV} {u2 : Option MV} {u3 : Option MV} {u4 : Option MV} {u5 : Option MV} {u6 : Option MV} {u7 : Option MV} {u8 : Option MV} {xs0 : Int32} {h : MH} (L : Lay h.2) (g0 : okl [some (.inr (.inr (.inl (some 84)))), u1, u2, u3, u4, u5, u6, u7, u8] 4 = true) {Q1 : Option MV → MH → Prop} (c : Wc rod d 207 [.inr (.inr (.inl (some 84))), .inl (0 : Int32), .inl (99 : Int32)] h Q1) (k : ∀ r1 h2, Q1 r1 h2 → Wb rod d B_Model_buyerLine 47 [some (.inr (.inr (.inl (some 84)))), u1, u2, u3, some (.inl xs0), u5, u6, u7, u8] (r1.toList ++ []) h2 Q) : Wb rod d B_Model_buyerLine 38 [some (.inr (.inr (.inl (some 84)))), u1, u2, u3, u4, u5, u6, u7, u8] [.inl xs0] h Q := by
  refine Wb.call (fun _ _ _ _ => b_Model_buyerLine_38 g0 (Lay.o84 L)) (Q1 := Q1) ?_ ?_
  · (first | exact c | (simp only [Option.getD_some]; exact c))
  · (first | exact k | (simp only [Option.getD_some]; exact k))
theorem w_Model_buyerLine_47 {rod : Nat → Nat × (Nat → Int32)} {d : Nat} {Q : Option MV → MH → Prop} {u1 : Option MV} {u2 : Option MV} {u3 : Option MV} {u4 : Option MV} {u5 : Option MV} {u6 : Option MV} {u7 : Option MV} {u8 : Option MV} {xs0 : Int32} {h : MH} (L : Lay h.2) (g0 : okl [some (.inr (.inr (.inl (some 84)))), u1, u2, u3, u4, u5, u6, u7, u8] 5 = true) {Q1 : Option MV → MH → Prop} (c : Wc rod d 207 [.inr (.inr (.inl (some 84))), .inl (0 : Int32), .inl (99 : Int32)] h Q1) (k : ∀ r1 h2, Q1 r1 h2 → Wb rod d B_Model_buyerLine 56 [some (.inr (.inr (.inl (some 84)))), u1, u2, u3, u4, some (.inl xs0), u6, u7, u8] (r1.toList ++ []) h2 Q) : Wb rod d B_Model_buyerLine 47 [some (.inr (.inr (.inl (some 84)))), u1, u2, u3, u4, u5, u6, u7, u8] [.inl xs0] h Q := by
  refine Wb.call (fun _ _ _ _ => b_Model_buyerLine_47 g0 (Lay.o84 L)) (Q1 := Q1) ?_ ?_
  · (first | exact c | (simp only [Option.getD_some]; exact c))
  · (first | exact k | (simp only [Option.getD_some]; exact k))
theorem w_Model_buyerLine_56 {rod : Nat → Nat × (Nat → Int32)} {d : Nat} {Q : Option MV → MH → Prop} {u1 : Option MV} {u2 : Option MV} {u3 : Option MV} {u4 : Option MV} {u5 : Option MV} {u6 : Option MV} {u7 : Option MV} {u8 : Option MV} {xs0 : Int32} {h : MH} (L : Lay h.2) (g0 : okl [some (.inr (.inr (.inl (some 84)))), u1, u2, u3, u4, u5, u6, u7, u8] 6 = true) {Q1 : Option MV → MH → Prop} (c : Wc rod d 207 [.inr (.inr (.inl (some 84))), .inl (0 : Int32), .inl (9 : Int32)] h Q1) (k : ∀ r1 h2, Q1 r1 h2 → Wb rod d B_Model_buyerLine 65 [some (.inr (.inr (.inl (some 84)))), u1, u2, u3, u4, u5, some (.inl xs0), u7, u8] (r1.toList ++ []) h2 Q) : Wb rod d B_Model_buyerLine 56 [some (.inr (.inr (.inl (some 84)))), u1, u2, u3, u4, u5, u6, u7, u8] [.inl xs0] h Q := by
  refine Wb.call (fun _ _ _ _ => b_Model_buyerLine_56 g0 (Lay.o84 L)) (Q1 := Q1) ?_ ?_
  · (first | exact c | (simp only [Option.getD_some]; exact c))
  · (first | exact k | (simp only [Option.getD_some]; exact k))
theorem w_Model_buyerLine_65 {rod : Nat → Nat × (Nat → Int32)} {d : Nat} {Q : Option MV → MH → Prop} {u0 : Option MV} {u1 : Option MV} {u2 : Option MV} {x3 : Int32} {u4 : Option MV} {u5 : Option MV} {u6 : Option MV} {u7 : Option MV} {u8 : Option MV} {xs0 : Int32} {h : MH}  (g0 : okl [u0, u1, u2, some (.inl x3), u4, u5, u6, u7, u8] 7 = true) (k1 : ¬ x3.toInt = 0 → Wb rod d B_Model_buyerLine 72 [u0, u1, u2, some (.inl x3), u4, u5, u6, some (.inl xs0), u8] [] h Q) (k2 : x3.toInt = 0 → Wb rod d B_Model_buyerLine 71 [u0, u1, u2, some (.inl x3), u4, u5, u6, some (.inl xs0), u8] [] h Q) : Wb rod d B_Model_buyerLine 65 [u0, u1, u2, some (.inl x3), u4, u5, u6, u7, u8] [.inl xs0] h Q := by
  refine Wb.br (fun _ _ => b_Model_buyerLine_65 g0) (fun c => ?_) (fun c => ?_)
  · have c : (!(decide (x3 = 0))) = true := by first | exact c | (simp only [Option.getD_some] at c; exact c)
    (first | exact (k1 (c_net c)) | (simp only [Option.getD_some]; exact (k1 (c_net c))))
  · have c : (!(decide (x3 = 0))) = false := by first | exact c | (simp only [Option.getD_some] at c; exact c)
    (first | exact (k2 (c_nef c)) | (simp only [Option.getD_some]; exact (k2 (c_nef c))))
theorem w_Model_buyerLine_71 {rod : Nat → Nat × (Nat → Int32)} {d : Nat} {Q : Option MV → MH → Prop} {u0 : Option MV} {u1 : Option MV} {u2 : Option MV} {u3 : Option MV} {u4 : Option MV} {u5 : Option MV} {u6 : Option MV} {u7 : Option MV} {u8 : Option MV} {h : MH}   (q : Q (none) h) : Wb rod d B_Model_buyerLine 71 [u0, u1, u2, u3, u4, u5, u6, u7, u8] [] h Q := by
  refine Wb.ret (b_Model_buyerLine_71) ?_
  (first | exact q | (simp only [Option.getD_some]; exact q))
theorem w_Model_buyerLine_72 {rod : Nat → Nat × (Nat → Int32)} {d : Nat} {Q : Option MV → MH → Prop} {u1 : Option MV} {x2 : Int32} {u3 : Option MV} {u4 : Option MV} {u5 : Option MV} {u6 : Option MV} {u7 : Option MV} {u8 : Option MV} {h : MH} (L : Lay h.2) (g0 : okl [some (.inr (.inr (.inl (some 84)))), u1, some (.inl x2), u3, u4, u5, u6, u7, u8] 8 = true) (g1 : 0 ≤ ((6 : Int32) + ((5 : Int32) * (h.1 87 (1 : Int32).toNatClampNeg))).toInt ∧ ((6 : Int32) + ((5 : Int32) * (h.1 87 (1 : Int32).toNatClampNeg))).toInt < 121) (k : Wb rod d B_Model_buyerLine 93 [some (.inr (.inr (.inl (some 84)))), u1, some (.inl x2), u3, u4, u5, u6, u7, some (.inl ((6 : Int32) + ((5 : Int32) * (h.1 87 (1 : Int32).toNatClampNeg))))] [] (sI h 87 ((6 : Int32) + ((5 : Int32) * (h.1 87 (1 : Int32).toNatClampNeg))).toNatClampNeg x2) Q) : Wb rod d B_Model_buyerLine 72 [some (.inr (.inr (.inl (some 84)))), u1, some (.inl x2), u3, u4, u5, u6, u7, u8] [] h Q := by
  refine Wb.go (fun r hr q => b_Model_buyerLine_72 (Lay.o84 L) (Lay.a84_10 L ⟨by decide, by decide⟩) g0 (Lay.a84_10 L (by first | exact g1 | (simp only [Option.getD_some, (Lay.r84_10 L)]; exact g1))) ?_) k
  (first | exact q | (simp only [Option.getD_some, (Lay.r84_10 L)]; exact q))
theorem w_Model_buyerLine_93 {rod : Nat → Nat × (Nat → Int32)} {d : Nat} {Q : Option MV → MH → Prop} {u1 : Option MV} {u2 : Option MV} {u3 : Option MV} {x4 : Int32} {u5 : Option MV} {u6 : Option MV} {u7 : Option MV} {x8 : Int32} {h : MH} (L : Lay h.2) (g0 : 0 ≤ (x8 + (1 : Int32)).toInt ∧ (x8 + (1 : Int32)).toInt < 121) (k : Wb rod d B_Model_buyerLine 104 [some (.inr (.inr (.inl (some 84)))), u1, u2, u3, some (.inl x4), u5, u6, u7, some (.inl x8)] [] (sI h 87 (x8 + (1 : Int32)).toNatClampNeg x4) Q) : Wb rod d B_Model_buyerLine 93 [some (.inr (.inr (.inl (some 84)))), u1, u2, u3, some (.inl x4), u5, u6, u7, some (.inl x8)] [] h Q := by
  refine Wb.go (fun r hr q => b_Model_buyerLine_93 (Lay.o84 L) (Lay.a84_10 L g0) ?_) k
  (first | exact q | (simp only [Option.getD_some, (Lay.r84_10 L)]; exact q))
theorem w_Model_buyerLine_104 {rod : Nat → Nat × (Nat → Int32)} {d : Nat} {Q : Option MV → MH → Prop} {u1 : Option MV} {u2 : Option MV} {u3 : Option MV} {u4 : Option MV} {x5 : Int32} {u6 : Option MV} {u7 : Option MV} {x8 : Int32} {h : MH} (L : Lay h.2) (g0 : 0 ≤ (x8 + (2 : Int32)).toInt ∧ (x8 + (2 : Int32)).toInt < 121) (k : Wb rod d B_Model_buyerLine 115 [some (.inr (.inr (.inl (some 84)))), u1, u2, u3, u4, some (.inl x5), u6, u7, some (.inl x8)] [] (sI h 87 (x8 + (2 : Int32)).toNatClampNeg x5) Q) : Wb rod d B_Model_buyerLine 104 [some (.inr (.inr (.inl (some 84)))), u1, u2, u3, u4, some (.inl x5), u6, u7, some (.inl x8)] [] h Q := by
  refine Wb.go (fun r hr q => b_Model_buyerLine_104 (Lay.o84 L) (Lay.a84_10 L g0) ?_) k
  (first | exact q | (simp only [Option.getD_some, (Lay.r84_10 L)]; exact q))
theorem w_Model_buyerLine_115 {rod : Nat → Nat × (Nat → Int32)} {d : Nat} {Q : Option MV → MH → Prop} {u1 : Option MV} {u2 : Option MV} {u3 : Option MV} {u4 : Option MV} {u5 : Option MV} {x6 : Int32} {u7 : Option MV} {x8 : Int32} {h : MH} (L : Lay h.2) (g0 : 0 ≤ (x8 + (3 : Int32)).toInt ∧ (x8 + (3 : Int32)).toInt < 121) (k : Wb rod d B_Model_buyerLine 126 [some (.inr (.inr (.inl (some 84)))), u1, u2, u3, u4, u5, some (.inl x6), u7, some (.inl x8)] [] (sI h 87 (x8 + (3 : Int32)).toNatClampNeg x6) Q) : Wb rod d B_Model_buyerLine 115 [some (.inr (.inr (.inl (some 84)))), u1, u2, u3, u4, u5, some (.inl x6), u7, some (.inl x8)] [] h Q := by
  refine Wb.go (fun r hr q => b_Model_buyerLine_115 (Lay.o84 L) (Lay.a84_10 L g0) ?_) k
  (first | exact q | (simp only [Option.getD_some, (Lay.r84_10 L)]; exact q))
theorem w_Model_buyerLine_126 {rod : Nat → Nat × (Nat → Int32)} {d : Nat} {Q : Option MV → MH → Prop} {u1 : Option MV} {u2 : Option MV} {u3 : Option MV} {u4 : Option MV} {u5 : Option MV} {u6 : Option MV} {x7 : Int32} {x8 : Int32} {h : MH} (L : Lay h.2) (g0 : 0 ≤ (x8 + (4 : Int32)).toInt ∧ (x8 + (4 : Int32)).toInt < 121) (k : Wb rod d B_Model_buyerLine 137 [some (.inr (.inr (.inl (some 84)))), u1, u2, u3, u4, u5, u6, some (.inl x7), some (.inl x8)] [] (sI h 87 (x8 + (4 : Int32)).toNatClampNeg x7) Q) : Wb rod d B_Model_buyerLine 126 [some (.inr (.inr (.inl (some 84)))), u1, u2, u3, u4, u5, u6, some (.inl x7), some (.inl x8)] [] h Q := by
  refine Wb.go (fun r hr q => b_Model_buyerLine_126 (Lay.o84 L) (Lay.a84_10 L g0) ?_) k
  (first | exact q | (simp only [Option.getD_some, (Lay.r84_10 L)]; exact q))
theorem w_Model_buyerLine_137 {rod : Nat → Nat × (Nat → Int32)} {d : Nat} {Q : Option MV → MH → Prop} {u1 : Option MV} {u2 : Option MV} {u3 : Option MV} {u4 : Option MV} {u5 : Option MV} {u6 : Option MV} {u7 : Option MV} {u8 : Option MV} {h : MH} (L : Lay h.2)  (k : Wb rod d B_Model_buyerLine 147 [some (.inr (.inr (.inl (some 84)))), u1, u2, u3, u4, u5, u6, u7, u8] [] (sI h 87 (1 : Int32).toNatClampNeg ((h.1 87 (1 : Int32).toNatClampNeg) + (1 : Int32))) Q) : Wb rod d B_Model_buyerLine 137 [some (.inr (.inr (.inl (some 84)))), u1, u2, u3, u4, u5, u6, u7, u8] [] h Q := by
  refine Wb.go (fun r hr q => b_Model_buyerLine_137 (Lay.o84 L) (Lay.a84_10 L ⟨by decide, by decide⟩) ?_) k
  (first | exact q | (simp only [Option.getD_some, (Lay.r84_10 L)]; exact q))
theorem w_Model_buyerLine_147 {rod : Nat → Nat × (Nat → Int32)} {d : Nat} {Q : Option MV → MH → Prop} {u0 : Option MV} {u1 : Option MV} {u2 : Option MV} {u3 : Option MV} {u4 : Option MV} {u5 : Option MV} {u6 : Option MV} {u7 : Option MV} {u8 : Option MV} {h : MH}   (q : Q (none) h) : Wb rod d B_Model_buyerLine 147 [u0, u1, u2, u3, u4, u5, u6, u7, u8] [] h Q := by
  refine Wb.ret (b_Model_buyerLine_147) ?_
  (first | exact q | (simp only [Option.getD_some]; exact q))
theorem n_Model_endsLine {rod : Nat → Nat × (Nat → Int32)} {d : Nat} {Q : Option MV → MH → Prop}  {h : MH} (k : Wb rod d B_Model_endsLine 0 [some (.inr (.inr (.inl (some 84))))] [] h Q) : Wc rod (d + 1) 211 [.inr (.inr (.inl (some 84)))] h Q := Wc.en (fun _ _ => e_Model_endsLine) k
theorem w_Model_endsLine_0 {rod : Nat → Nat × (Nat → Int32)} {d : Nat} {Q : Option MV → MH → Prop}  {h : MH} (L : Lay h.2)  (k1 : ¬ (h.1 84 8).toInt = 0 → Wb rod d B_Model_endsLine 22 [some (.inr (.inr (.inl (some 84))))] [] h Q) (k2 : (h.1 84 8).toInt = 0 → Wb rod d B_Model_endsLine 7 [some (.inr (.inr (.inl (some 84))))] [] h Q) : Wb rod d B_Model_endsLine 0 [some (.inr (.inr (.inl (some 84))))] [] h Q := by
  refine Wb.br (fun _ _ => b_Model_endsLine_0 (Lay.o84 L)) (fun c => ?_) (fun c => ?_)
  · have c : (!(decide ((h.1 84 8) = 0))) = true := by first | exact c | (simp only [Option.getD_some] at c; exact c)
    (first | exact (k1 (c_net c)) | (simp only [Option.getD_some]; exact (k1 (c_net c))))
  · have c : (!(decide ((h.1 84 8) = 0))) = false := by first | exact c | (simp only [Option.getD_some] at c; exact c)
    (first | exact (k2 (c_nef c)) | (simp only [Option.getD_some]; exact (k2 (c_nef c))))
theorem w_Model_endsLine_7 {rod : Nat → Nat × (Nat → Int32)} {d : Nat} {Q : Option MV → MH → Prop}  {h : MH} (L : Lay h.2)  (k1 : ¬ (h.1 84 5).toInt = 2 → Wb rod d B_Model_endsLine 22 [some (.inr (.inr (.inl (some 84))))] [] h Q) (k2 : (h.1 84 5).toInt = 2 → Wb rod d B_Model_endsLine 15 [some (.inr (.inr (.inl (some 84))))] [] h Q) : Wb rod d B_Model_endsLine 7 [some (.inr (.inr (.inl (some 84))))] [] h Q := by
  refine Wb.br (fun _ _ => b_Model_endsLine_7 (Lay.o84 L)) (fun c => ?_) (fun c => ?_)
  · have c : (!(decide ((h.1 84 5) = (2 : Int32)))) = true := by first | exact c | (simp only [Option.getD_some] at c; exact c)
    (first | exact (k1 (c_net c)) | (simp only [Option.getD_some]; exact (k1 (c_net c))))
  · have c : (!(decide ((h.1 84 5) = (2 : Int32)))) = false := by first | exact c | (simp only [Option.getD_some] at c; exact c)
    (first | exact (k2 (c_nef c)) | (simp only [Option.getD_some]; exact (k2 (c_nef c))))
theorem w_Model_endsLine_15 {rod : Nat → Nat × (Nat → Int32)} {d : Nat} {Q : Option MV → MH → Prop}  {h : MH} (L : Lay h.2)  {Q1 : Option MV → MH → Prop} (c : Wc rod d 195 [.inr (.inr (.inl (some 84)))] h Q1) (k : ∀ r1 h2, Q1 r1 h2 → Wb rod d B_Model_endsLine 19 [some (.inr (.inr (.inl (some 84))))] (r1.toList ++ []) h2 Q) : Wb rod d B_Model_endsLine 15 [some (.inr (.inr (.inl (some 84))))] [] h Q := by
  refine Wb.call (fun _ _ _ _ => b_Model_endsLine_15 (Lay.o84 L)) (Q1 := Q1) ?_ ?_
  · (first | exact c | (simp only [Option.getD_some]; exact c))
  · (first | exact k | (simp only [Option.getD_some]; exact k))
theorem w_Model_endsLine_19 {rod : Nat → Nat × (Nat → Int32)} {d : Nat} {Q : Option MV → MH → Prop} {u0 : Option MV} {h : MH}   (k : Wb rod d B_Model_endsLine 26 [u0] [] h Q) : Wb rod d B_Model_endsLine 19 [u0] [] h Q := by
  refine Wb.go (fun r hr q => b_Model_endsLine_19 ?_) k
  (first | exact q | (simp only [Option.getD_some]; exact q))
theorem w_Model_endsLine_22 {rod : Nat → Nat × (Nat → Int32)} {d : Nat} {Q : Option MV → MH → Prop}  {h : MH} (L : Lay h.2)  {Q1 : Option MV → MH → Prop} (c : Wc rod d 204 [.inr (.inr (.inl (some 84)))] h Q1) (k : ∀ r1 h2, Q1 r1 h2 → Wb rod d B_Model_endsLine 26 [some (.inr (.inr (.inl (some 84))))] (r1.toList ++ []) h2 Q) : Wb rod d B_Model_endsLine 22 [some (.inr (.inr (.inl (some 84))))] [] h Q := by
  refine Wb.call (fun _ _ _ _ => b_Model_endsLine_22 (Lay.o84 L)) (Q1 := Q1) ?_ ?_
  · (first | exact c | (simp only [Option.getD_some]; exact c))
  · (first | exact k | (simp only [Option.getD_some]; exact k))
theorem w_Model_endsLine_26 {rod : Nat → Nat × (Nat → Int32)} {d : Nat} {Q : Option MV → MH → Prop} {u0 : Option MV} {h : MH}   (q : Q (none) h) : Wb rod d B_Model_endsLine 26 [u0] [] h Q := by
  refine Wb.ret (b_Model_endsLine_26) ?_
  (first | exact q | (simp only [Option.getD_some]; exact q))
theorem n_Model_seasonLine {rod : Nat → Nat × (Nat → Int32)} {d : Nat} {Q : Option MV → MH → Prop}  {h : MH} (k : Wb rod d B_Model_seasonLine 0 [some (.inr (.inr (.inl (some 84)))), none, none, none, none, none, none] [] h Q) : Wc rod (d + 1) 212 [.inr (.inr (.inl (some 84)))] h Q := Wc.en (fun _ _ => e_Model_seasonLine) k
theorem w_Model_seasonLine_0 {rod : Nat → Nat × (Nat → Int32)} {d : Nat} {Q : Option MV → MH → Prop} {u1 : Option MV} {u2 : Option MV} {u3 : Option MV} {u4 : Option MV} {u5 : Option MV} {u6 : Option MV} {h : MH} (L : Lay h.2)  {Q1 : Option MV → MH → Prop} (c : Wc rod d 203 [.inr (.inr (.inl (some 84))), .inl (10 : Int32), .inl (16 : Int32)] h Q1) (k : ∀ r1 h2, Q1 r1 h2 → Wb rod d B_Model_seasonLine 13 [some (.inr (.inr (.inl (some 84)))), some (.inl (h.1 84 4)), u2, u3, u4, u5, u6] (r1.toList ++ []) h2 Q) : Wb rod d B_Model_seasonLine 0 [some (.inr (.inr (.inl (some 84)))), u1, u2, u3, u4, u5, u6] [] h Q := by
  refine Wb.call (fun _ _ _ _ => b_Model_seasonLine_0 (Lay.o84 L)) (Q1 := Q1) ?_ ?_
  · (first | exact c | (simp only [Option.getD_some]; exact c))
  · (first | exact k | (simp only [Option.getD_some]; exact k))
theorem w_Model_seasonLine_13 {rod : Nat → Nat × (Nat → Int32)} {d : Nat} {Q : Option MV → MH → Prop} {u1 : Option MV} {u2 : Option MV} {u3 : Option MV} {u4 : Option MV} {u5 : Option MV} {u6 : Option MV} {xs0 : Int32} {h : MH} (L : Lay h.2) (g0 : okl [some (.inr (.inr (.inl (some 84)))), u1, u2, u3, u4, u5, u6] 2 = true) (k1 : ¬ (h.1 84 8).toInt = 0 → Wb rod d B_Model_seasonLine 41 [some (.inr (.inr (.inl (some 84)))), u1, some (.inl (xs0 - (10 : Int32))), u3, u4, u5, u6] [] h Q) (k2 : (h.1 84 8).toInt = 0 → Wb rod d B_Model_seasonLine 24 [some (.inr (.inr (.inl (some 84)))), u1, some (.inl (xs0 - (10 : Int32))), u3, u4, u5, u6] [] h Q) : Wb rod d B_Model_seasonLine 13 [some (.inr (.inr (.inl (some 84)))), u1, u2, u3, u4, u5, u6] [.inl xs0] h Q := by
  refine Wb.br (fun _ _ => b_Model_seasonLine_13 g0 (Lay.o84 L)) (fun c => ?_) (fun c => ?_)
  · have c : (!(decide ((h.1 84 8) = 0))) = true := by first | exact c | (simp only [Option.getD_some] at c; exact c)
    (first | exact (k1 (c_net c)) | (simp only [Option.getD_some]; exact (k1 (c_net c))))
  · have c : (!(decide ((h.1 84 8) = 0))) = false := by first | exact c | (simp only [Option.getD_some] at c; exact c)
    (first | exact (k2 (c_nef c)) | (simp only [Option.getD_some]; exact (k2 (c_nef c))))
theorem w_Model_seasonLine_24 {rod : Nat → Nat × (Nat → Int32)} {d : Nat} {Q : Option MV → MH → Prop} {u1 : Option MV} {u2 : Option MV} {u3 : Option MV} {u4 : Option MV} {u5 : Option MV} {u6 : Option MV} {h : MH} (L : Lay h.2)  (k1 : (h.1 87 (0 : Int32).toNatClampNeg).toInt < 40 → Wb rod d B_Model_seasonLine 41 [some (.inr (.inr (.inl (some 84)))), u1, u2, u3, u4, u5, u6] [] h Q) (k2 : ¬ (h.1 87 (0 : Int32).toNatClampNeg).toInt < 40 → Wb rod d B_Model_seasonLine 35 [some (.inr (.inr (.inl (some 84)))), u1, u2, u3, u4, u5, u6] [] h Q) : Wb rod d B_Model_seasonLine 24 [some (.inr (.inr (.inl (some 84)))), u1, u2, u3, u4, u5, u6] [] h Q := by
  refine Wb.br (fun _ _ => b_Model_seasonLine_24 (Lay.o84 L) (Lay.a84_10 L ⟨by decide, by decide⟩)) (fun c => ?_) (fun c => ?_)
  · have c : (decide ((h.1 87 (0 : Int32).toNatClampNeg) < (40 : Int32))) = true := by first | exact c | (simp only [Option.getD_some, (Lay.r84_10 L)] at c; exact c)
    (first | exact (k1 (c_ltt c)) | (simp only [Option.getD_some, (Lay.r84_10 L)]; exact (k1 (c_ltt c))))
  · have c : (decide ((h.1 87 (0 : Int32).toNatClampNeg) < (40 : Int32))) = false := by first | exact c | (simp only [Option.getD_some, (Lay.r84_10 L)] at c; exact c)
    (first | exact (k2 (c_ltf c)) | (simp only [Option.getD_some, (Lay.r84_10 L)]; exact (k2 (c_ltf c))))
theorem w_Model_seasonLine_35 {rod : Nat → Nat × (Nat → Int32)} {d : Nat} {Q : Option MV → MH → Prop} {x1 : Int32} {u2 : Option MV} {u3 : Option MV} {u4 : Option MV} {u5 : Option MV} {u6 : Option MV} {h : MH} (L : Lay h.2)  {Q1 : Option MV → MH → Prop} (c : Wc rod d 208 [.inr (.inr (.inl (some 84))), .inl (3 : Int32), .inl x1] h Q1) (k : ∀ r1 h2, Q1 r1 h2 → Wb rod d B_Model_seasonLine 41 [some (.inr (.inr (.inl (some 84)))), some (.inl x1), u2, u3, u4, u5, u6] (r1.toList ++ []) h2 Q) : Wb rod d B_Model_seasonLine 35 [some (.inr (.inr (.inl (some 84)))), some (.inl x1), u2, u3, u4, u5, u6] [] h Q := by
  refine Wb.call (fun _ _ _ _ => b_Model_seasonLine_35 (Lay.o84 L)) (Q1 := Q1) ?_ ?_
  · (first | exact c | (simp only [Option.getD_some]; exact c))
  · (first | exact k | (simp only [Option.getD_some]; exact k))
theorem w_Model_seasonLine_41 {rod : Nat → Nat × (Nat → Int32)} {d : Nat} {Q : Option MV → MH → Prop} {u0 : Option MV} {u1 : Option MV} {x2 : Int32} {u3 : Option MV} {u4 : Option MV} {u5 : Option MV} {u6 : Option MV} {h : MH}   (k1 : ¬ x2.toInt = 0 → Wb rod d B_Model_seasonLine 49 [u0, u1, some (.inl x2), u3, u4, u5, u6] [] h Q) (k2 : x2.toInt = 0 → Wb rod d B_Model_seasonLine 45 [u0, u1, some (.inl x2), u3, u4, u5, u6] [] h Q) : Wb rod d B_Model_seasonLine 41 [u0, u1, some (.inl x2), u3, u4, u5, u6] [] h Q := by
  refine Wb.br (fun _ _ => b_Model_seasonLine_41) (fun c => ?_) (fun c => ?_)
  · have c : (!(decide (x2 = 0))) = true := by first | exact c | (simp only [Option.getD_some] at c; exact c)
    (first | exact (k1 (c_net c)) | (simp only [Option.getD_some]; exact (k1 (c_net c))))
  · have c : (!(decide (x2 = 0))) = false := by first | exact c | (simp only [Option.getD_some] at c; exact c)
    (first | exact (k2 (c_nef c)) | (simp only [Option.getD_some]; exact (k2 (c_nef c))))
theorem w_Model_seasonLine_45 {rod : Nat → Nat × (Nat → Int32)} {d : Nat} {Q : Option MV → MH → Prop} {u0 : Option MV} {u1 : Option MV} {u2 : Option MV} {u3 : Option MV} {u4 : Option MV} {u5 : Option MV} {u6 : Option MV} {h : MH}   (k : Wb rod d B_Model_seasonLine 61 [u0, u1, u2, u3, u4, u5, u6] [.inl (3 : Int32)] h Q) : Wb rod d B_Model_seasonLine 45 [u0, u1, u2, u3, u4, u5, u6] [] h Q := by
  refine Wb.go (fun r hr q => b_Model_seasonLine_45 ?_) k
  (first | exact q | (simp only [Option.getD_some]; exact q))
theorem w_Model_seasonLine_49 {rod : Nat → Nat × (Nat → Int32)} {d : Nat} {Q : Option MV → MH → Prop} {u0 : Option MV} {u1 : Option MV} {x2 : Int32} {u3 : Option MV} {u4 : Option MV} {u5 : Option MV} {u6 : Option MV} {h : MH}   (k1 : 4 ≤ x2.toInt → Wb rod d B_Model_seasonLine 60 [u0, u1, some (.inl x2), u3, u4, u5, u6] [] h Q) (k2 : ¬ 4 ≤ x2.toInt → Wb rod d B_Model_seasonLine 54 [u0, u1, some (.inl x2), u3, u4, u5, u6] [] h Q) : Wb rod d B_Model_seasonLine 49 [u0, u1, some (.inl x2), u3, u4, u5, u6] [] h Q := by
  refine Wb.br (fun _ _ => b_Model_seasonLine_49) (fun c => ?_) (fun c => ?_)
  · have c : (decide ((4 : Int32) ≤ x2)) = true := by first | exact c | (simp only [Option.getD_some] at c; exact c)
    (first | exact (k1 (c_let c)) | (simp only [Option.getD_some]; exact (k1 (c_let c))))
  · have c : (decide ((4 : Int32) ≤ x2)) = false := by first | exact c | (simp only [Option.getD_some] at c; exact c)
    (first | exact (k2 (c_lef c)) | (simp only [Option.getD_some]; exact (k2 (c_lef c))))
theorem w_Model_seasonLine_54 {rod : Nat → Nat × (Nat → Int32)} {d : Nat} {Q : Option MV → MH → Prop} {u0 : Option MV} {u1 : Option MV} {x2 : Int32} {u3 : Option MV} {u4 : Option MV} {u5 : Option MV} {u6 : Option MV} {h : MH}   (k : Wb rod d B_Model_seasonLine 61 [u0, u1, some (.inl x2), u3, u4, u5, u6] [.inl (x2 - (1 : Int32))] h Q) : Wb rod d B_Model_seasonLine 54 [u0, u1, some (.inl x2), u3, u4, u5, u6] [] h Q := by
  refine Wb.go (fun r hr q => b_Model_seasonLine_54 ?_) k
  (first | exact q | (simp only [Option.getD_some]; exact q))
theorem w_Model_seasonLine_60 {rod : Nat → Nat × (Nat → Int32)} {d : Nat} {Q : Option MV → MH → Prop} {u0 : Option MV} {u1 : Option MV} {x2 : Int32} {u3 : Option MV} {u4 : Option MV} {u5 : Option MV} {u6 : Option MV} {h : MH}   (k : Wb rod d B_Model_seasonLine 61 [u0, u1, some (.inl x2), u3, u4, u5, u6] [.inl x2] h Q) : Wb rod d B_Model_seasonLine 60 [u0, u1, some (.inl x2), u3, u4, u5, u6] [] h Q := by
  refine Wb.go (fun r hr q => b_Model_seasonLine_60 ?_) k
  (first | exact q | (simp only [Option.getD_some]; exact q))
theorem w_Model_seasonLine_61 {rod : Nat → Nat × (Nat → Int32)} {d : Nat} {Q : Option MV → MH → Prop} {u0 : Option MV} {u1 : Option MV} {u2 : Option MV} {u3 : Option MV} {u4 : Option MV} {u5 : Option MV} {u6 : Option MV} {xs0 : Int32} {h : MH}  (g0 : okl [u0, u1, u2, u3, u4, u5, u6] 3 = true) (k1 : 5 ≤ xs0.toInt → Wb rod d B_Model_seasonLine 86 [u0, u1, u2, some (.inl xs0), u4, u5, u6] [] h Q) (k2 : ¬ 5 ≤ xs0.toInt → Wb rod d B_Model_seasonLine 67 [u0, u1, u2, some (.inl xs0), u4, u5, u6] [] h Q) : Wb rod d B_Model_seasonLine 61 [u0, u1, u2, u3, u4, u5, u6] [.inl xs0] h Q := by
  refine Wb.br (fun _ _ => b_Model_seasonLine_61 g0) (fun c => ?_) (fun c => ?_)
  · have c : (decide ((5 : Int32) ≤ xs0)) = true := by first | exact c | (simp only [Option.getD_some] at c; exact c)
    (first | exact (k1 (c_let c)) | (simp only [Option.getD_some]; exact (k1 (c_let c))))
  · have c : (decide ((5 : Int32) ≤ xs0)) = false := by first | exact c | (simp only [Option.getD_some] at c; exact c)
    (first | exact (k2 (c_lef c)) | (simp only [Option.getD_some]; exact (k2 (c_lef c))))
theorem w_Model_seasonLine_67 {rod : Nat → Nat × (Nat → Int32)} {d : Nat} {Q : Option MV → MH → Prop} {u1 : Option MV} {u2 : Option MV} {x3 : Int32} {u4 : Option MV} {u5 : Option MV} {u6 : Option MV} {h : MH}   (k1 : 2 ≤ x3.toInt → Wb rod d B_Model_seasonLine 79 [some (.inr (.inr (.inl (some 84)))), u1, u2, some (.inl x3), u4, u5, u6] [.inl (0 : Int32), .inr (.inr (.inl (some 84)))] h Q) (k2 : ¬ 2 ≤ x3.toInt → Wb rod d B_Model_seasonLine 74 [some (.inr (.inr (.inl (some 84)))), u1, u2, some (.inl x3), u4, u5, u6] [.inl (0 : Int32), .inr (.inr (.inl (some 84)))] h Q) : Wb rod d B_Model_seasonLine 67 [some (.inr (.inr (.inl (some 84)))), u1, u2, some (.inl x3), u4, u5, u6] [] h Q := by
  refine Wb.br (fun _ _ => b_Model_seasonLine_67) (fun c => ?_) (fun c => ?_)
  · have c : (decide ((2 : Int32) ≤ x3)) = true := by first | exact c | (simp only [Option.getD_some] at c; exact c)
    (first | exact (k1 (c_let c)) | (simp only [Option.getD_some]; exact (k1 (c_let c))))
  · have c : (decide ((2 : Int32) ≤ x3)) = false := by first | exact c | (simp only [Option.getD_some] at c; exact c)
    (first | exact (k2 (c_lef c)) | (simp only [Option.getD_some]; exact (k2 (c_lef c))))
theorem w_Model_seasonLine_74 {rod : Nat → Nat × (Nat → Int32)} {d : Nat} {Q : Option MV → MH → Prop} {u0 : Option MV} {u1 : Option MV} {u2 : Option MV} {u3 : Option MV} {u4 : Option MV} {u5 : Option MV} {u6 : Option MV} {xs1 : Int32} {h : MH}   (k : Wb rod d B_Model_seasonLine 80 [u0, u1, u2, u3, u4, u5, u6] [.inl (7 : Int32), .inl xs1, .inr (.inr (.inl (some 84)))] h Q) : Wb rod d B_Model_seasonLine 74 [u0, u1, u2, u3, u4, u5, u6] [.inl xs1, .inr (.inr (.inl (some 84)))] h Q := by
  refine Wb.go (fun r hr q => b_Model_seasonLine_74 ?_) k
  (first | exact q | (simp only [Option.getD_some]; exact q))
theorem w_Model_seasonLine_79 {rod : Nat → Nat × (Nat → Int32)} {d : Nat} {Q : Option MV → MH → Prop} {u0 : Option MV} {u1 : Option MV} {u2 : Option MV} {u3 : Option MV} {u4 : Option MV} {u5 : Option MV} {u6 : Option MV} {xs1 : Int32} {h : MH}   (k : Wb rod d B_Model_seasonLine 80 [u0, u1, u2, u3, u4, u5, u6] [.inl (5 : Int32), .inl xs1, .inr (.inr (.inl (some 84)))] h Q) : Wb rod d B_Model_seasonLine 79 [u0, u1, u2, u3, u4, u5, u6] [.inl xs1, .inr (.inr (.inl (some 84)))] h Q := by
  refine Wb.go (fun r hr q => b_Model_seasonLine_79 ?_) k
  (first | exact q | (simp only [Option.getD_some]; exact q))
theorem w_Model_seasonLine_80 {rod : Nat → Nat × (Nat → Int32)} {d : Nat} {Q : Option MV → MH → Prop} {u0 : Option MV} {u1 : Option MV} {u2 : Option MV} {u3 : Option MV} {u4 : Option MV} {u5 : Option MV} {u6 : Option MV} {xs1 : Int32} {xs2 : Int32} {h : MH} (L : Lay h.2)  {Q1 : Option MV → MH → Prop} (c : Wc rod d 207 [.inr (.inr (.inl (some 84))), .inl xs1, .inl xs2] h Q1) (k : ∀ r1 h2, Q1 r1 h2 → Wb rod d B_Model_seasonLine 83 [u0, u1, u2, u3, u4, u5, u6] (r1.toList ++ []) h2 Q) : Wb rod d B_Model_seasonLine 80 [u0, u1, u2, u3, u4, u5, u6] [.inl xs2, .inl xs1, .inr (.inr (.inl (some 84)))] h Q := by
  refine Wb.call (fun _ _ _ _ => b_Model_seasonLine_80 (Lay.o84 L)) (Q1 := Q1) ?_ ?_
  · (first | exact c | (simp only [Option.getD_some]; exact c))
  · (first | exact k | (simp only [Option.getD_some]; exact k))
theorem w_Model_seasonLine_83 {rod : Nat → Nat × (Nat → Int32)} {d : Nat} {Q : Option MV → MH → Prop} {u0 : Option MV} {u1 : Option MV} {u2 : Option MV} {u3 : Option MV} {u4 : Option MV} {u5 : Option MV} {u6 : Option MV} {xs0 : Int32} {h : MH}   (k : Wb rod d B_Model_seasonLine 87 [u0, u1, u2, u3, u4, u5, u6] [.inl xs0] h Q) : Wb rod d B_Model_seasonLine 83 [u0, u1, u2, u3, u4, u5, u6] [.inl xs0] h Q := by
  refine Wb.go (fun r hr q => b_Model_seasonLine_83 ?_) k
  (first | exact q | (simp only [Option.getD_some]; exact q))
theorem w_Model_seasonLine_86 {rod : Nat → Nat × (Nat → Int32)} {d : Nat} {Q : Option MV → MH → Prop} {u0 : Option MV} {u1 : Option MV} {u2 : Option MV} {u3 : Option MV} {u4 : Option MV} {u5 : Option MV} {u6 : Option MV} {h : MH}   (k : Wb rod d B_Model_seasonLine 87 [u0, u1, u2, u3, u4, u5, u6] [.inl (-1 : Int32)] h Q) : Wb rod d B_Model_seasonLine 86 [u0, u1, u2, u3, u4, u5, u6] [] h Q := by
  refine Wb.go (fun r hr q => b_Model_seasonLine_86 ?_) k
  (first | exact q | (simp only [Option.getD_some]; exact q))
theorem w_Model_seasonLine_87 {rod : Nat → Nat × (Nat → Int32)} {d : Nat} {Q : Option MV → MH → Prop} {u0 : Option MV} {u1 : Option MV} {u2 : Option MV} {x3 : Int32} {u4 : Option MV} {u5 : Option MV} {u6 : Option MV} {xs0 : Int32} {h : MH}   (k1 : ¬ x3.toInt = 0 → Wb rod d B_Model_seasonLine 102 [u0, u1, u2, some (.inl x3), some (.inl xs0), u5, u6] [] h Q) (k2 : x3.toInt = 0 → Wb rod d B_Model_seasonLine 93 [u0, u1, u2, some (.inl x3), some (.inl xs0), u5, u6] [] h Q) : Wb rod d B_Model_seasonLine 87 [u0, u1, u2, some (.inl x3), u4, u5, u6] [.inl xs0] h Q := by
  refine Wb.br (fun _ _ => b_Model_seasonLine_87) (fun c => ?_) (fun c => ?_)
  · have c : (!(decide (x3 = 0))) = true := by first | exact c | (simp only [Option.getD_some] at c; exact c)
    (first | exact (k1 (c_net c)) | (simp only [Option.getD_some]; exact (k1 (c_net c))))
  · have c : (!(decide (x3 = 0))) = false := by first | exact c | (simp only [Option.getD_some] at c; exact c)
    (first | exact (k2 (c_nef c)) | (simp only [Option.getD_some]; exact (k2 (c_nef c))))
theorem w_Model_seasonLine_93 {rod : Nat → Nat × (Nat → Int32)} {d : Nat} {Q : Option MV → MH → Prop} {u1 : Option MV} {u2 : Option MV} {u3 : Option MV} {u4 : Option MV} {u5 : Option MV} {u6 : Option MV} {h : MH} (L : Lay h.2)  {Q1 : Option MV → MH → Prop} (c : Wc rod d 207 [.inr (.inr (.inl (some 84))), .inl (0 : Int32), .inl (3 : Int32)] h Q1) (k : ∀ r1 h2, Q1 r1 h2 → Wb rod d B_Model_seasonLine 99 [some (.inr (.inr (.inl (some 84)))), u1, u2, u3, u4, u5, u6] (r1.toList ++ []) h2 Q) : Wb rod d B_Model_seasonLine 93 [some (.inr (.inr (.inl (some 84)))), u1, u2, u3, u4, u5, u6] [] h Q := by
  refine Wb.call (fun _ _ _ _ => b_Model_seasonLine_93 (Lay.o84 L)) (Q1 := Q1) ?_ ?_
  · (first | exact c | (simp only [Option.getD_some]; exact c))
  · (first | exact k | (simp only [Option.getD_some]; exact k))
theorem w_Model_seasonLine_99 {rod : Nat → Nat × (Nat → Int32)} {d : Nat} {Q : Option MV → MH → Prop} {u0 : Option MV} {u1 : Option MV} {u2 : Option MV} {u3 : Option MV} {u4 : Option MV} {u5 : Option MV} {u6 : Option MV} {xs0 : Int32} {h : MH}   (k : Wb rod d B_Model_seasonLine 118 [u0, u1, u2, u3, u4, u5, u6] [.inl xs0] h Q) : Wb rod d B_Model_seasonLine 99 [u0, u1, u2, u3, u4, u5, u6] [.inl xs0] h Q := by
  refine Wb.go (fun r hr q => b_Model_seasonLine_99 ?_) k
  (first | exact q | (simp only [Option.getD_some]; exact q))
theorem w_Model_seasonLine_102 {rod : Nat → Nat × (Nat → Int32)} {d : Nat} {Q : Option MV → MH → Prop} {u0 : Option MV} {u1 : Option MV} {u2 : Option MV} {x3 : Int32} {u4 : Option MV} {u5 : Option MV} {u6 : Option MV} {h : MH}   (k1 : ¬ x3.toInt = 1 → Wb rod d B_Model_seasonLine 117 [u0, u1, u2, some (.inl x3), u4, u5, u6] [] h Q) (k2 : x3.toInt = 1 → Wb rod d B_Model_seasonLine 107 [u0, u1, u2, some (.inl x3), u4, u5, u6] [] h Q) : Wb rod d B_Model_seasonLine 102 [u0, u1, u2, some (.inl x3), u4, u5, u6] [] h Q := by
  refine Wb.br (fun _ _ => b_Model_seasonLine_102) (fun c => ?_) (fun c => ?_)
  · have c : (!(decide (x3 = (1 : Int32)))) = true := by first | exact c | (simp only [Option.getD_some] at c; exact c)
    (first | exact (k1 (c_net c)) | (simp only [Option.getD_some]; exact (k1 (c_net c))))
  · have c : (!(decide (x3 = (1 : Int32)))) = false := by first | exact c | (simp only [Option.getD_some] at c; exact c)
    (first | exact (k2 (c_nef c)) | (simp only [Option.getD_some]; exact (k2 (c_nef c))))
theorem w_Model_seasonLine_107 {rod : Nat → Nat × (Nat → Int32)} {d : Nat} {Q : Option MV → MH → Prop} {u1 : Option MV} {u2 : Option MV} {u3 : Option MV} {u4 : Option MV} {u5 : Option MV} {u6 : Option MV} {h : MH} (L : Lay h.2)  {Q1 : Option MV → MH → Prop} (c : Wc rod d 207 [.inr (.inr (.inl (some 84))), .inl (1 : Int32), .inl (60 : Int32)] h Q1) (k : ∀ r1 h2, Q1 r1 h2 → Wb rod d B_Model_seasonLine 114 [some (.inr (.inr (.inl (some 84)))), u1, u2, u3, u4, u5, u6] (r1.toList ++ []) h2 Q) : Wb rod d B_Model_seasonLine 107 [some (.inr (.inr (.inl (some 84)))), u1, u2, u3, u4, u5, u6] [] h Q := by
  refine Wb.call (fun _ _ _ _ => b_Model_seasonLine_107 (Lay.o84 L)) (Q1 := Q1) ?_ ?_
  · (first | exact c | (simp only [Option.getD_some]; exact c))
  · (first | exact k | (simp only [Option.getD_some]; exact k))
theorem w_Model_seasonLine_114 {rod : Nat → Nat × (Nat → Int32)} {d : Nat} {Q : Option MV → MH → Prop} {u0 : Option MV} {u1 : Option MV} {u2 : Option MV} {u3 : Option MV} {u4 : Option MV} {u5 : Option MV} {u6 : Option MV} {xs0 : Int32} {h : MH}   (k : Wb rod d B_Model_seasonLine 118 [u0, u1, u2, u3, u4, u5, u6] [.inl xs0] h Q) : Wb rod d B_Model_seasonLine 114 [u0, u1, u2, u3, u4, u5, u6] [.inl xs0] h Q := by
  refine Wb.go (fun r hr q => b_Model_seasonLine_114 ?_) k
  (first | exact q | (simp only [Option.getD_some]; exact q))
theorem w_Model_seasonLine_117 {rod : Nat → Nat × (Nat → Int32)} {d : Nat} {Q : Option MV → MH → Prop} {u0 : Option MV} {u1 : Option MV} {u2 : Option MV} {u3 : Option MV} {u4 : Option MV} {u5 : Option MV} {u6 : Option MV} {h : MH}   (k : Wb rod d B_Model_seasonLine 118 [u0, u1, u2, u3, u4, u5, u6] [.inl (-1 : Int32)] h Q) : Wb rod d B_Model_seasonLine 117 [u0, u1, u2, u3, u4, u5, u6] [] h Q := by
  refine Wb.go (fun r hr q => b_Model_seasonLine_117 ?_) k
  (first | exact q | (simp only [Option.getD_some]; exact q))
theorem w_Model_seasonLine_118 {rod : Nat → Nat × (Nat → Int32)} {d : Nat} {Q : Option MV → MH → Prop} {u1 : Option MV} {u2 : Option MV} {u3 : Option MV} {u4 : Option MV} {u5 : Option MV} {u6 : Option MV} {xs0 : Int32} {h : MH} (L : Lay h.2) (g0 : okl [some (.inr (.inr (.inl (some 84)))), u1, u2, u3, u4, u5, u6] 5 = true) (k1 : 40 ≤ (h.1 87 (0 : Int32).toNatClampNeg).toInt → Wb rod d B_Model_seasonLine 183 [some (.inr (.inr (.inl (some 84)))), u1, u2, u3, u4, some (.inl xs0), u6] [] h Q) (k2 : ¬ 40 ≤ (h.1 87 (0 : Int32).toNatClampNeg).toInt → Wb rod d B_Model_seasonLine 131 [some (.inr (.inr (.inl (some 84)))), u1, u2, u3, u4, some (.inl xs0), u6] [] h Q) : Wb rod d B_Model_seasonLine 118 [some (.inr (.inr (.inl (some 84)))), u1, u2, u3, u4, u5, u6] [.inl xs0] h Q := by
  refine Wb.br (fun _ _ => b_Model_seasonLine_118 g0 (Lay.o84 L) (Lay.a84_10 L ⟨by decide, by decide⟩)) (fun c => ?_) (fun c => ?_)
  · have c : (decide ((40 : Int32) ≤ (h.1 87 (0 : Int32).toNatClampNeg))) = true := by first | exact c | (simp only [Option.getD_some, (Lay.r84_10 L)] at c; exact c)
    (first | exact (k1 (c_let c)) | (simp only [Option.getD_some, (Lay.r84_10 L)]; exact (k1 (c_let c))))
  · have c : (decide ((40 : Int32) ≤ (h.1 87 (0 : Int32).toNatClampNeg))) = false := by first | exact c | (simp only [Option.getD_some, (Lay.r84_10 L)] at c; exact c)
    (first | exact (k2 (c_lef c)) | (simp only [Option.getD_some, (Lay.r84_10 L)]; exact (k2 (c_lef c))))
theorem w_Model_seasonLine_131 {rod : Nat → Nat × (Nat → Int32)} {d : Nat} {Q : Option MV → MH → Prop} {u1 : Option MV} {u2 : Option MV} {x3 : Int32} {u4 : Option MV} {u5 : Option MV} {u6 : Option MV} {h : MH} (L : Lay h.2) (g0 : okl [some (.inr (.inr (.inl (some 84)))), u1, u2, some (.inl x3), u4, u5, u6] 6 = true) (g1 : 0 ≤ ((1 : Int32) + ((3 : Int32) * (h.1 87 (0 : Int32).toNatClampNeg))).toInt ∧ ((1 : Int32) + ((3 : Int32) * (h.1 87 (0 : Int32).toNatClampNeg))).toInt < 121) (k : Wb rod d B_Model_seasonLine 151 [some (.inr (.inr (.inl (some 84)))), u1, u2, some (.inl x3), u4, u5, some (.inl ((1 : Int32) + ((3 : Int32) * (h.1 87 (0 : Int32).toNatClampNeg))))] [] (sI h 87 ((1 : Int32) + ((3 : Int32) * (h.1 87 (0 : Int32).toNatClampNeg))).toNatClampNeg x3) Q) : Wb rod d B_Model_seasonLine 131 [some (.inr (.inr (.inl (some 84)))), u1, u2, some (.inl x3), u4, u5, u6] [] h Q := by
  refine Wb.go (fun r hr q => b_Model_seasonLine_131 (Lay.o84 L) (Lay.a84_10 L ⟨by decide, by decide⟩) g0 (Lay.a84_10 L (by first | exact g1 | (simp only [Option.getD_some, (Lay.r84_10 L)]; exact g1))) ?_) k
  (first | exact q | (simp only [Option.getD_some, (Lay.r84_10 L)]; exact q))
theorem w_Model_seasonLine_151 {rod : Nat → Nat × (Nat → Int32)} {d : Nat} {Q : Option MV → MH → Prop} {u1 : Option MV} {u2 : Option MV} {u3 : Option MV} {x4 : Int32} {u5 : Option MV} {x6 : Int32} {h : MH} (L : Lay h.2) (g0 : 0 ≤ (x6 + (1 : Int32)).toInt ∧ (x6 + (1 : Int32)).toInt < 121) (k : Wb rod d B_Model_seasonLine 162 [some (.inr (.inr (.inl (some 84)))), u1, u2, u3, some (.inl x4), u5, some (.inl x6)] [] (sI h 87 (x6 + (1 : Int32)).toNatClampNeg x4) Q) : Wb rod d B_Model_seasonLine 151 [some (.inr (.inr (.inl (some 84)))), u1, u2, u3, some (.inl x4), u5, some (.inl x6)] [] h Q := by
  refine Wb.go (fun r hr q => b_Model_seasonLine_151 (Lay.o84 L) (Lay.a84_10 L g0) ?_) k
  (first | exact q | (simp only [Option.getD_some, (Lay.r84_10 L)]; exact q))
theorem w_Model_seasonLine_162 {rod : Nat → Nat × (Nat → Int32)} {d : Nat} {Q : Option MV → MH → Prop} {u1 : Option MV} {u2 : Option MV} {u3 : Option MV} {u4 : Option MV} {x5 : Int32} {x6 : Int32} {h : MH} (L : Lay h.2) (g0 : 0 ≤ (x6 + (2 : Int32)).toInt ∧ (x6 + (2 : Int32)).toInt < 121) (k : Wb rod d B_Model_seasonLine 173 [some (.inr (.inr (.inl (some 84)))), u1, u2, u3, u4, some (.inl x5), some (.inl x6)] [] (sI h 87 (x6 + (2 : Int32)).toNatClampNeg x5) Q) : Wb rod d B_Model_seasonLine 162 [some (.inr (.inr (.inl (some 84)))), u1, u2, u3, u4, some (.inl x5), some (.inl x6)] [] h Q := by
  refine Wb.go (fun r hr q => b_Model_seasonLine_162 (Lay.o84 L) (Lay.a84_10 L g0) ?_) k
  (first | exact q | (simp only [Option.getD_some, (Lay.r84_10 L)]; exact q))
theorem w_Model_seasonLine_173 {rod : Nat → Nat × (Nat → Int32)} {d : Nat} {Q : Option MV → MH → Prop} {u1 : Option MV} {u2 : Option MV} {u3 : Option MV} {u4 : Option MV} {u5 : Option MV} {u6 : Option MV} {h : MH} (L : Lay h.2)  (k : Wb rod d B_Model_seasonLine 183 [some (.inr (.inr (.inl (some 84)))), u1, u2, u3, u4, u5, u6] [] (sI h 87 (0 : Int32).toNatClampNeg ((h.1 87 (0 : Int32).toNatClampNeg) + (1 : Int32))) Q) : Wb rod d B_Model_seasonLine 173 [some (.inr (.inr (.inl (some 84)))), u1, u2, u3, u4, u5, u6] [] h Q := by
  refine Wb.go (fun r hr q => b_Model_seasonLine_173 (Lay.o84 L) (Lay.a84_10 L ⟨by decide, by decide⟩) ?_) k
  (first | exact q | (simp only [Option.getD_some, (Lay.r84_10 L)]; exact q))
theorem w_Model_seasonLine_183 {rod : Nat → Nat × (Nat → Int32)} {d : Nat} {Q : Option MV → MH → Prop} {u1 : Option MV} {u2 : Option MV} {u3 : Option MV} {u4 : Option MV} {u5 : Option MV} {u6 : Option MV} {h : MH} (L : Lay h.2)  {Q1 : Option MV → MH → Prop} (c : Wc rod d 211 [.inr (.inr (.inl (some 84)))] h Q1) (k : ∀ r1 h2, Q1 r1 h2 → Wb rod d B_Model_seasonLine 187 [some (.inr (.inr (.inl (some 84)))), u1, u2, u3, u4, u5, u6] (r1.toList ++ []) h2 Q) : Wb rod d B_Model_seasonLine 183 [some (.inr (.inr (.inl (some 84)))), u1, u2, u3, u4, u5, u6] [] h Q := by
  refine Wb.call (fun _ _ _ _ => b_Model_seasonLine_183 (Lay.o84 L)) (Q1 := Q1) ?_ ?_
  · (first | exact c | (simp only [Option.getD_some]; exact c))
  · (first | exact k | (simp only [Option.getD_some]; exact k))
theorem w_Model_seasonLine_187 {rod : Nat → Nat × (Nat → Int32)} {d : Nat} {Q : Option MV → MH → Prop} {u0 : Option MV} {u1 : Option MV} {u2 : Option MV} {u3 : Option MV} {u4 : Option MV} {u5 : Option MV} {u6 : Option MV} {h : MH}   (q : Q (none) h) : Wb rod d B_Model_seasonLine 187 [u0, u1, u2, u3, u4, u5, u6] [] h Q := by
  refine Wb.ret (b_Model_seasonLine_187) ?_
  (first | exact q | (simp only [Option.getD_some]; exact q))
theorem n_Model_ledgerLine {rod : Nat → Nat × (Nat → Int32)} {d : Nat} {Q : Option MV → MH → Prop}  {h : MH} (k : Wb rod d B_Model_ledgerLine 0 [some (.inr (.inr (.inl (some 84)))), none, none, none] [] h Q) : Wc rod (d + 1) 213 [.inr (.inr (.inl (some 84)))] h Q := Wc.en (fun _ _ => e_Model_ledgerLine) k
theorem w_Model_ledgerLine_0 {rod : Nat → Nat × (Nat → Int32)} {d : Nat} {Q : Option MV → MH → Prop} {u1 : Option MV} {u2 : Option MV} {u3 : Option MV} {h : MH} (L : Lay h.2)  {Q1 : Option MV → MH → Prop} (c : Wc rod d 203 [.inr (.inr (.inl (some 84))), .inl (17 : Int32), .inl (20 : Int32)] h Q1) (k : ∀ r1 h2, Q1 r1 h2 → Wb rod d B_Model_ledgerLine 13 [some (.inr (.inr (.inl (some 84)))), some (.inl (h.1 84 4)), u2, u3] (r1.toList ++ []) h2 Q) : Wb rod d B_Model_ledgerLine 0 [some (.inr (.inr (.inl (some 84)))), u1, u2, u3] [] h Q := by
  refine Wb.call (fun _ _ _ _ => b_Model_ledgerLine_0 (Lay.o84 L)) (Q1 := Q1) ?_ ?_
  · (first | exact c | (simp only [Option.getD_some]; exact c))
  · (first | exact k | (simp only [Option.getD_some]; exact k))
theorem w_Model_ledgerLine_13 {rod : Nat → Nat × (Nat → Int32)} {d : Nat} {Q : Option MV → MH → Prop} {u1 : Option MV} {u2 : Option MV} {u3 : Option MV} {xs0 : Int32} {h : MH} (L : Lay h.2) (g0 : okl [some (.inr (.inr (.inl (some 84)))), u1, u2, u3] 2 = true) (k1 : ¬ (h.1 84 8).toInt = 0 → Wb rod d B_Model_ledgerLine 41 [some (.inr (.inr (.inl (some 84)))), u1, some (.inl (xs0 - (17 : Int32))), u3] [] h Q) (k2 : (h.1 84 8).toInt = 0 → Wb rod d B_Model_ledgerLine 24 [some (.inr (.inr (.inl (some 84)))), u1, some (.inl (xs0 - (17 : Int32))), u3] [] h Q) : Wb rod d B_Model_ledgerLine 13 [some (.inr (.inr (.inl (some 84)))), u1, u2, u3] [.inl xs0] h Q := by
  refine Wb.br (fun _ _ => b_Model_ledgerLine_13 g0 (Lay.o84 L)) (fun c => ?_) (fun c => ?_)
  · have c : (!(decide ((h.1 84 8) = 0))) = true := by first | exact c | (simp only [Option.getD_some] at c; exact c)
    (first | exact (k1 (c_net c)) | (simp only [Option.getD_some]; exact (k1 (c_net c))))
  · have c : (!(decide ((h.1 84 8) = 0))) = false := by first | exact c | (simp only [Option.getD_some] at c; exact c)
    (first | exact (k2 (c_nef c)) | (simp only [Option.getD_some]; exact (k2 (c_nef c))))
theorem w_Model_ledgerLine_24 {rod : Nat → Nat × (Nat → Int32)} {d : Nat} {Q : Option MV → MH → Prop} {u1 : Option MV} {u2 : Option MV} {u3 : Option MV} {h : MH} (L : Lay h.2)  (k1 : (h.1 87 (0 : Int32).toNatClampNeg).toInt < 20 → Wb rod d B_Model_ledgerLine 41 [some (.inr (.inr (.inl (some 84)))), u1, u2, u3] [] h Q) (k2 : ¬ (h.1 87 (0 : Int32).toNatClampNeg).toInt < 20 → Wb rod d B_Model_ledgerLine 35 [some (.inr (.inr (.inl (some 84)))), u1, u2, u3] [] h Q) : Wb rod d B_Model_ledgerLine 24 [some (.inr (.inr (.inl (some 84)))), u1, u2, u3] [] h Q := by
  refine Wb.br (fun _ _ => b_Model_ledgerLine_24 (Lay.o84 L) (Lay.a84_10 L ⟨by decide, by decide⟩)) (fun c => ?_) (fun c => ?_)
  · have c : (decide ((h.1 87 (0 : Int32).toNatClampNeg) < (20 : Int32))) = true := by first | exact c | (simp only [Option.getD_some, (Lay.r84_10 L)] at c; exact c)
    (first | exact (k1 (c_ltt c)) | (simp only [Option.getD_some, (Lay.r84_10 L)]; exact (k1 (c_ltt c))))
  · have c : (decide ((h.1 87 (0 : Int32).toNatClampNeg) < (20 : Int32))) = false := by first | exact c | (simp only [Option.getD_some, (Lay.r84_10 L)] at c; exact c)
    (first | exact (k2 (c_ltf c)) | (simp only [Option.getD_some, (Lay.r84_10 L)]; exact (k2 (c_ltf c))))
theorem w_Model_ledgerLine_35 {rod : Nat → Nat × (Nat → Int32)} {d : Nat} {Q : Option MV → MH → Prop} {x1 : Int32} {u2 : Option MV} {u3 : Option MV} {h : MH} (L : Lay h.2)  {Q1 : Option MV → MH → Prop} (c : Wc rod d 208 [.inr (.inr (.inl (some 84))), .inl (3 : Int32), .inl x1] h Q1) (k : ∀ r1 h2, Q1 r1 h2 → Wb rod d B_Model_ledgerLine 41 [some (.inr (.inr (.inl (some 84)))), some (.inl x1), u2, u3] (r1.toList ++ []) h2 Q) : Wb rod d B_Model_ledgerLine 35 [some (.inr (.inr (.inl (some 84)))), some (.inl x1), u2, u3] [] h Q := by
  refine Wb.call (fun _ _ _ _ => b_Model_ledgerLine_35 (Lay.o84 L)) (Q1 := Q1) ?_ ?_
  · (first | exact c | (simp only [Option.getD_some]; exact c))
  · (first | exact k | (simp only [Option.getD_some]; exact k))
theorem w_Model_ledgerLine_41 {rod : Nat → Nat × (Nat → Int32)} {d : Nat} {Q : Option MV → MH → Prop} {u1 : Option MV} {x2 : Int32} {u3 : Option MV} {h : MH}   (k1 : ¬ x2.toInt = 3 → Wb rod d B_Model_ledgerLine 52 [some (.inr (.inr (.inl (some 84)))), u1, some (.inl x2), u3] [.inl (0 : Int32), .inr (.inr (.inl (some 84)))] h Q) (k2 : x2.toInt = 3 → Wb rod d B_Model_ledgerLine 48 [some (.inr (.inr (.inl (some 84)))), u1, some (.inl x2), u3] [.inl (0 : Int32), .inr (.inr (.inl (some 84)))] h Q) : Wb rod d B_Model_ledgerLine 41 [some (.inr (.inr (.inl (some 84)))), u1, some (.inl x2), u3] [] h Q := by
  refine Wb.br (fun _ _ => b_Model_ledgerLine_41) (fun c => ?_) (fun c => ?_)
  · have c : (!(decide (x2 = (3 : Int32)))) = true := by first | exact c | (simp only [Option.getD_some] at c; exact c)
    (first | exact (k1 (c_net c)) | (simp only [Option.getD_some]; exact (k1 (c_net c))))
  · have c : (!(decide (x2 = (3 : Int32)))) = false := by first | exact c | (simp only [Option.getD_some] at c; exact c)
    (first | exact (k2 (c_nef c)) | (simp only [Option.getD_some]; exact (k2 (c_nef c))))
theorem w_Model_ledgerLine_48 {rod : Nat → Nat × (Nat → Int32)} {d : Nat} {Q : Option MV → MH → Prop} {u0 : Option MV} {u1 : Option MV} {u2 : Option MV} {u3 : Option MV} {xs1 : Int32} {h : MH}   (k : Wb rod d B_Model_ledgerLine 54 [u0, u1, u2, u3] [.inl (5 : Int32), .inl xs1, .inr (.inr (.inl (some 84)))] h Q) : Wb rod d B_Model_ledgerLine 48 [u0, u1, u2, u3] [.inl xs1, .inr (.inr (.inl (some 84)))] h Q := by
  refine Wb.go (fun r hr q => b_Model_ledgerLine_48 ?_) k
  (first | exact q | (simp only [Option.getD_some]; exact q))
theorem w_Model_ledgerLine_52 {rod : Nat → Nat × (Nat → Int32)} {d : Nat} {Q : Option MV → MH → Prop} {u0 : Option MV} {u1 : Option MV} {u2 : Option MV} {u3 : Option MV} {xs1 : Int32} {h : MH}   (k : Wb rod d B_Model_ledgerLine 54 [u0, u1, u2, u3] [.inl (99 : Int32), .inl xs1, .inr (.inr (.inl (some 84)))] h Q) : Wb rod d B_Model_ledgerLine 52 [u0, u1, u2, u3] [.inl xs1, .inr (.inr (.inl (some 84)))] h Q := by
  refine Wb.go (fun r hr q => b_Model_ledgerLine_52 ?_) k
  (first | exact q | (simp only [Option.getD_some]; exact q))
theorem w_Model_ledgerLine_54 {rod : Nat → Nat × (Nat → Int32)} {d : Nat} {Q : Option MV → MH → Prop} {u0 : Option MV} {u1 : Option MV} {u2 : Option MV} {u3 : Option MV} {xs1 : Int32} {xs2 : Int32} {h : MH} (L : Lay h.2)  {Q1 : Option MV → MH → Prop} (c : Wc rod d 207 [.inr (.inr (.inl (some 84))), .inl xs1, .inl xs2] h Q1) (k : ∀ r1 h2, Q1 r1 h2 → Wb rod d B_Model_ledgerLine 57 [u0, u1, u2, u3] (r1.toList ++ []) h2 Q) : Wb rod d B_Model_ledgerLine 54 [u0, u1, u2, u3] [.inl xs2, .inl xs1, .inr (.inr (.inl (some 84)))] h Q := by
  refine Wb.call (fun _ _ _ _ => b_Model_ledgerLine_54 (Lay.o84 L)) (Q1 := Q1) ?_ ?_
  · (first | exact c | (simp only [Option.getD_some]; exact c))
  · (first | exact k | (simp only [Option.getD_some]; exact k))
theorem w_Model_ledgerLine_57 {rod : Nat → Nat × (Nat → Int32)} {d : Nat} {Q : Option MV → MH → Prop} {u1 : Option MV} {u2 : Option MV} {u3 : Option MV} {xs0 : Int32} {h : MH} (L : Lay h.2) (g0 : okl [some (.inr (.inr (.inl (some 84)))), u1, u2, u3] 3 = true) (k1 : 20 ≤ (h.1 87 (0 : Int32).toNatClampNeg).toInt → Wb rod d B_Model_ledgerLine 111 [some (.inr (.inr (.inl (some 84)))), u1, u2, some (.inl xs0)] [] h Q) (k2 : ¬ 20 ≤ (h.1 87 (0 : Int32).toNatClampNeg).toInt → Wb rod d B_Model_ledgerLine 69 [some (.inr (.inr (.inl (some 84)))), u1, u2, some (.inl xs0)] [] h Q) : Wb rod d B_Model_ledgerLine 57 [some (.inr (.inr (.inl (some 84)))), u1, u2, u3] [.inl xs0] h Q := by
  refine Wb.br (fun _ _ => b_Model_ledgerLine_57 g0 (Lay.o84 L) (Lay.a84_10 L ⟨by decide, by decide⟩)) (fun c => ?_) (fun c => ?_)
  · have c : (decide ((20 : Int32) ≤ (h.1 87 (0 : Int32).toNatClampNeg))) = true := by first | exact c | (simp only [Option.getD_some, (Lay.r84_10 L)] at c; exact c)
    (first | exact (k1 (c_let c)) | (simp only [Option.getD_some, (Lay.r84_10 L)]; exact (k1 (c_let c))))
  · have c : (decide ((20 : Int32) ≤ (h.1 87 (0 : Int32).toNatClampNeg))) = false := by first | exact c | (simp only [Option.getD_some, (Lay.r84_10 L)] at c; exact c)
    (first | exact (k2 (c_lef c)) | (simp only [Option.getD_some, (Lay.r84_10 L)]; exact (k2 (c_lef c))))
theorem w_Model_ledgerLine_69 {rod : Nat → Nat × (Nat → Int32)} {d : Nat} {Q : Option MV → MH → Prop} {u1 : Option MV} {x2 : Int32} {u3 : Option MV} {h : MH} (L : Lay h.2) (g0 : 0 ≤ ((1 : Int32) + ((2 : Int32) * (h.1 87 (0 : Int32).toNatClampNeg))).toInt ∧ ((1 : Int32) + ((2 : Int32) * (h.1 87 (0 : Int32).toNatClampNeg))).toInt < 121) (k : Wb rod d B_Model_ledgerLine 85 [some (.inr (.inr (.inl (some 84)))), u1, some (.inl x2), u3] [] (sI h 87 ((1 : Int32) + ((2 : Int32) * (h.1 87 (0 : Int32).toNatClampNeg))).toNatClampNeg x2) Q) : Wb rod d B_Model_ledgerLine 69 [some (.inr (.inr (.inl (some 84)))), u1, some (.inl x2), u3] [] h Q := by
  refine Wb.go (fun r hr q => b_Model_ledgerLine_69 (Lay.o84 L) (Lay.a84_10 L ⟨by decide, by decide⟩) (Lay.a84_10 L (by first | exact g0 | (simp only [Option.getD_some, (Lay.r84_10 L)]; exact g0))) ?_) k
  (first | exact q | (simp only [Option.getD_some, (Lay.r84_10 L)]; exact q))
theorem w_Model_ledgerLine_85 {rod : Nat → Nat × (Nat → Int32)} {d : Nat} {Q : Option MV → MH → Prop} {u1 : Option MV} {u2 : Option MV} {x3 : Int32} {h : MH} (L : Lay h.2) (g0 : 0 ≤ ((2 : Int32) + ((2 : Int32) * (h.1 87 (0 : Int32).toNatClampNeg))).toInt ∧ ((2 : Int32) + ((2 : Int32) * (h.1 87 (0 : Int32).toNatClampNeg))).toInt < 121) (k : Wb rod d B_Model_ledgerLine 101 [some (.inr (.inr (.inl (some 84)))), u1, u2, some (.inl x3)] [] (sI h 87 ((2 : Int32) + ((2 : Int32) * (h.1 87 (0 : Int32).toNatClampNeg))).toNatClampNeg x3) Q) : Wb rod d B_Model_ledgerLine 85 [some (.inr (.inr (.inl (some 84)))), u1, u2, some (.inl x3)] [] h Q := by
  refine Wb.go (fun r hr q => b_Model_ledgerLine_85 (Lay.o84 L) (Lay.a84_10 L ⟨by decide, by decide⟩) (Lay.a84_10 L (by first | exact g0 | (simp only [Option.getD_some, (Lay.r84_10 L)]; exact g0))) ?_) k
  (first | exact q | (simp only [Option.getD_some, (Lay.r84_10 L)]; exact q))
theorem w_Model_ledgerLine_101 {rod : Nat → Nat × (Nat → Int32)} {d : Nat} {Q : Option MV → MH → Prop} {u1 : Option MV} {u2 : Option MV} {u3 : Option MV} {h : MH} (L : Lay h.2)  (k : Wb rod d B_Model_ledgerLine 111 [some (.inr (.inr (.inl (some 84)))), u1, u2, u3] [] (sI h 87 (0 : Int32).toNatClampNeg ((h.1 87 (0 : Int32).toNatClampNeg) + (1 : Int32))) Q) : Wb rod d B_Model_ledgerLine 101 [some (.inr (.inr (.inl (some 84)))), u1, u2, u3] [] h Q := by
  refine Wb.go (fun r hr q => b_Model_ledgerLine_101 (Lay.o84 L) (Lay.a84_10 L ⟨by decide, by decide⟩) ?_) k
  (first | exact q | (simp only [Option.getD_some, (Lay.r84_10 L)]; exact q))
theorem w_Model_ledgerLine_111 {rod : Nat → Nat × (Nat → Int32)} {d : Nat} {Q : Option MV → MH → Prop} {u1 : Option MV} {u2 : Option MV} {u3 : Option MV} {h : MH} (L : Lay h.2)  {Q1 : Option MV → MH → Prop} (c : Wc rod d 211 [.inr (.inr (.inl (some 84)))] h Q1) (k : ∀ r1 h2, Q1 r1 h2 → Wb rod d B_Model_ledgerLine 115 [some (.inr (.inr (.inl (some 84)))), u1, u2, u3] (r1.toList ++ []) h2 Q) : Wb rod d B_Model_ledgerLine 111 [some (.inr (.inr (.inl (some 84)))), u1, u2, u3] [] h Q := by
  refine Wb.call (fun _ _ _ _ => b_Model_ledgerLine_111 (Lay.o84 L)) (Q1 := Q1) ?_ ?_
  · (first | exact c | (simp only [Option.getD_some]; exact c))
  · (first | exact k | (simp only [Option.getD_some]; exact k))
theorem w_Model_ledgerLine_115 {rod : Nat → Nat × (Nat → Int32)} {d : Nat} {Q : Option MV → MH → Prop} {u0 : Option MV} {u1 : Option MV} {u2 : Option MV} {u3 : Option MV} {h : MH}   (q : Q (none) h) : Wb rod d B_Model_ledgerLine 115 [u0, u1, u2, u3] [] h Q := by
  refine Wb.ret (b_Model_ledgerLine_115) ?_
  (first | exact q | (simp only [Option.getD_some]; exact q))
