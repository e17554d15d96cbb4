/-! RULES OF BLOCKS over postconditions, references resolved (7) -/
theorem n_Walk_payer {rod : Nat → Nat × (Nat → Int32)} {d : Nat} {Q : Option MV → MH → Prop} {a1 : Nat} {h : MH} (k : Wb rod d B_Walk_payer 0 [some (.inr (.inr (.inl (some 65)))), some (.inr (.inr (.inl (some a1)))), none, none, none, none] [] h Q) : Wc rod (d + 1) 173 [.inr (.inr (.inl (some 65))), .inr (.inr (.inl (some a1)))] h Q := Wc.en (fun _ _ => e_Walk_payer) k
theorem w_Walk_payer_0 {rod : Nat → Nat × (Nat → Int32)} {d : Nat} {Q : Option MV → MH → Prop} {u0 : Option MV} {u1 : Option MV} {u2 : Option MV} {u3 : Option MV} {u4 : Option MV} {u5 : Option MV} {h : MH}  (g0 : okl [u0, u1, u2, u3, u4, u5] 2 = true) (k : Wb rod d B_Walk_payer 7 [u0, u1, some (.inl (0 : Int32)), some (.inl (-1 : Int32)), some (.inl (0 : Int32)), u5] [] h Q) : Wb rod d B_Walk_payer 0 [u0, u1, u2, u3, u4, u5] [] h Q := by
  refine Wb.go (fun r hr q => b_Walk_payer_0 g0 ?_) k
  (first | exact q | (simp only [Option.getD_some]; exact q))
theorem w_Walk_payer_7 {rod : Nat → Nat × (Nat → Int32)} {d : Nat} {Q : Option MV → MH → Prop} {u0 : Option MV} {a1 : Nat} {u2 : Option MV} {u3 : Option MV} {x4 : Int32} {u5 : Option MV} {h : MH} (A1 : LandA h.2 a1)  (k1 : (h.1 a1 4).toInt ≤ x4.toInt → Wb rod d B_Walk_payer 51 [u0, some (.inr (.inr (.inl (some a1)))), u2, u3, some (.inl x4), u5] [] h Q) (k2 : ¬ (h.1 a1 4).toInt ≤ x4.toInt → Wb rod d B_Walk_payer 16 [u0, some (.inr (.inr (.inl (some a1)))), u2, u3, some (.inl x4), u5] [] h Q) : Wb rod d B_Walk_payer 7 [u0, some (.inr (.inr (.inl (some a1)))), u2, u3, some (.inl x4), u5] [] h Q := by
  refine Wb.br (fun _ _ => b_Walk_payer_7 (A1.o)) (fun c => ?_) (fun c => ?_)
  · have c : (decide ((h.1 a1 4) ≤ x4)) = true := by first | exact c | (simp only [Option.getD_some] at c; exact c)
    (first | exact (k1 (c_let c)) | (simp only [Option.getD_some]; exact (k1 (c_let c))))
  · have c : (decide ((h.1 a1 4) ≤ x4)) = false := by first | exact c | (simp only [Option.getD_some] at c; exact c)
    (first | exact (k2 (c_lef c)) | (simp only [Option.getD_some]; exact (k2 (c_lef c))))
theorem w_Walk_payer_16 {rod : Nat → Nat × (Nat → Int32)} {d : Nat} {Q : Option MV → MH → Prop} {a1 : Nat} {x2 : Int32} {u3 : Option MV} {x4 : Int32} {u5 : Option MV} {h : MH} (A1 : LandA h.2 a1) (L : Lay h.2) (g0 : 0 ≤ x4.toInt ∧ x4.toInt < 8) (k1 : ((h.1 (a1 + 4) x4.toNatClampNeg) - (h.1 67 x4.toNatClampNeg)).toInt ≤ x2.toInt → Wb rod d B_Walk_payer 45 [some (.inr (.inr (.inl (some 65)))), some (.inr (.inr (.inl (some a1)))), some (.inl x2), u3, some (.inl x4), some (.inl ((h.1 (a1 + 4) x4.toNatClampNeg) - (h.1 67 x4.toNatClampNeg)))] [] h Q) (k2 : ¬ ((h.1 (a1 + 4) x4.toNatClampNeg) - (h.1 67 x4.toNatClampNeg)).toInt ≤ x2.toInt → Wb rod d B_Walk_payer 39 [some (.inr (.inr (.inl (some 65)))), some (.inr (.inr (.inl (some a1)))), some (.inl x2), u3, some (.inl x4), some (.inl ((h.1 (a1 + 4) x4.toNatClampNeg) - (h.1 67 x4.toNatClampNeg)))] [] h Q) : Wb rod d B_Walk_payer 16 [some (.inr (.inr (.inl (some 65)))), some (.inr (.inr (.inl (some a1)))), some (.inl x2), u3, some (.inl x4), u5] [] h Q := by
  refine Wb.br (fun _ _ => b_Walk_payer_16 (A1.o) (A1.a9 g0) (Lay.o65 L) (Lay.a65_9 L g0)) (fun c => ?_) (fun c => ?_)
  · have c : (decide (((h.1 (a1 + 4) x4.toNatClampNeg) - (h.1 67 x4.toNatClampNeg)) ≤ x2)) = true := by first | exact c | (simp only [Option.getD_some, A1.r9, (Lay.r65_9 L)] at c; exact c)
    (first | exact (k1 (c_let c)) | (simp only [Option.getD_some, A1.r9, (Lay.r65_9 L)]; exact (k1 (c_let c))))
  · have c : (decide (((h.1 (a1 + 4) x4.toNatClampNeg) - (h.1 67 x4.toNatClampNeg)) ≤ x2)) = false := by first | exact c | (simp only [Option.getD_some, A1.r9, (Lay.r65_9 L)] at c; exact c)
    (first | exact (k2 (c_lef c)) | (simp only [Option.getD_some, A1.r9, (Lay.r65_9 L)]; exact (k2 (c_lef c))))
theorem w_Walk_payer_39 {rod : Nat → Nat × (Nat → Int32)} {d : Nat} {Q : Option MV → MH → Prop} {u0 : Option MV} {u1 : Option MV} {u2 : Option MV} {u3 : Option MV} {x4 : Int32} {x5 : Int32} {h : MH}  (g0 : okl [u0, u1, u2, u3, some (.inl x4), some (.inl x5)] 2 = true) (k : Wb rod d B_Walk_payer 45 [u0, u1, some (.inl x5), some (.inl x4), some (.inl x4), some (.inl x5)] [] h Q) : Wb rod d B_Walk_payer 39 [u0, u1, u2, u3, some (.inl x4), some (.inl x5)] [] h Q := by
  refine Wb.go (fun r hr q => b_Walk_payer_39 g0 ?_) k
  (first | exact q | (simp only [Option.getD_some]; exact q))
theorem w_Walk_payer_45 {rod : Nat → Nat × (Nat → Int32)} {d : Nat} {Q : Option MV → MH → Prop} {u0 : Option MV} {u1 : Option MV} {u2 : Option MV} {u3 : Option MV} {x4 : Int32} {u5 : Option MV} {h : MH}  (g0 : okl [u0, u1, u2, u3, some (.inl x4), u5] 4 = true) (k : Wb rod d B_Walk_payer 7 [u0, u1, u2, u3, some (.inl (x4 + 1)), u5] [] h Q) : Wb rod d B_Walk_payer 45 [u0, u1, u2, u3, some (.inl x4), u5] [] h Q := by
  refine Wb.go (fun r hr q => b_Walk_payer_45 g0 ?_) k
  (first | exact q | (simp only [Option.getD_some]; exact q))
theorem w_Walk_payer_51 {rod : Nat → Nat × (Nat → Int32)} {d : Nat} {Q : Option MV → MH → Prop} {u0 : Option MV} {u1 : Option MV} {u2 : Option MV} {x3 : Int32} {u4 : Option MV} {u5 : Option MV} {h : MH}   (q : Q (some (.inl x3)) h) : Wb rod d B_Walk_payer 51 [u0, u1, u2, some (.inl x3), u4, u5] [] h Q := by
  refine Wb.ret (b_Walk_payer_51) ?_
  (first | exact q | (simp only [Option.getD_some]; exact q))
theorem n_Walk_halfWay {rod : Nat → Nat × (Nat → Int32)} {d : Nat} {Q : Option MV → MH → Prop} {a1 : Nat} {a2 : Nat} {x3 : Int32} {h : MH} (k : Wb rod d B_Walk_halfWay 0 [some (.inr (.inr (.inl (some 65)))), some (.inr (.inr (.inl (some a1)))), some (.inr (.inr (.inl (some a2)))), some (.inl x3), none, none] [] h Q) : Wc rod (d + 1) 174 [.inr (.inr (.inl (some 65))), .inr (.inr (.inl (some a1))), .inr (.inr (.inl (some a2))), .inl x3] h Q := Wc.en (fun _ _ => e_Walk_halfWay) k
theorem w_Walk_halfWay_0 {rod : Nat → Nat × (Nat → Int32)} {d : Nat} {Q : Option MV → MH → Prop} {a1 : Nat} {u2 : Option MV} {u3 : Option MV} {u4 : Option MV} {u5 : Option MV} {h : MH} (L : Lay h.2) (g0 : okl [some (.inr (.inr (.inl (some 65)))), some (.inr (.inr (.inl (some a1)))), u2, u3, u4, u5] 4 = true) {Q1 : Option MV → MH → Prop} (c : Wc rod d 77 [.inr (.inr (.inl (some 65))), .inr (.inr (.inl (some a1)))] h Q1) (k : ∀ r1 h2, Q1 r1 h2 → Wb rod d B_Walk_halfWay 11 [some (.inr (.inr (.inl (some 65)))), some (.inr (.inr (.inl (some a1)))), u2, u3, some (.inl (h.1 65 6)), u5] (r1.toList ++ []) h2 Q) : Wb rod d B_Walk_halfWay 0 [some (.inr (.inr (.inl (some 65)))), some (.inr (.inr (.inl (some a1)))), u2, u3, u4, u5] [] h Q := by
  refine Wb.call (fun _ _ _ _ => b_Walk_halfWay_0 (Lay.o65 L) g0) (Q1 := Q1) ?_ ?_
  · (first | exact c | (simp only [Option.getD_some]; exact c))
  · (first | exact k | (simp only [Option.getD_some]; exact k))
theorem w_Walk_halfWay_11 {rod : Nat → Nat × (Nat → Int32)} {d : Nat} {Q : Option MV → MH → Prop} {u0 : Option MV} {u1 : Option MV} {u2 : Option MV} {u3 : Option MV} {u4 : Option MV} {u5 : Option MV} {h : MH}  (g0 : okl [u0, u1, u2, u3, u4, u5] 5 = true) (k : Wb rod d B_Walk_halfWay 14 [u0, u1, u2, u3, u4, some (.inl (0 : Int32))] [] h Q) : Wb rod d B_Walk_halfWay 11 [u0, u1, u2, u3, u4, u5] [] h Q := by
  refine Wb.go (fun r hr q => b_Walk_halfWay_11 g0 ?_) k
  (first | exact q | (simp only [Option.getD_some]; exact q))
theorem w_Walk_halfWay_14 {rod : Nat → Nat × (Nat → Int32)} {d : Nat} {Q : Option MV → MH → Prop} {u0 : Option MV} {u1 : Option MV} {u2 : Option MV} {x3 : Int32} {u4 : Option MV} {x5 : Int32} {h : MH}   (k1 : x3.toInt ≤ x5.toInt → Wb rod d B_Walk_halfWay 46 [u0, u1, u2, some (.inl x3), u4, some (.inl x5)] [] h Q) (k2 : ¬ x3.toInt ≤ x5.toInt → Wb rod d B_Walk_halfWay 20 [u0, u1, u2, some (.inl x3), u4, some (.inl x5)] [] h Q) : Wb rod d B_Walk_halfWay 14 [u0, u1, u2, some (.inl x3), u4, some (.inl x5)] [] h Q := by
  refine Wb.br (fun _ _ => b_Walk_halfWay_14) (fun c => ?_) (fun c => ?_)
  · have c : (decide (x3 ≤ x5)) = true := by first | exact c | (simp only [Option.getD_some] at c; exact c)
    (first | exact (k1 (c_let c)) | (simp only [Option.getD_some]; exact (k1 (c_let c))))
  · have c : (decide (x3 ≤ x5)) = false := by first | exact c | (simp only [Option.getD_some] at c; exact c)
    (first | exact (k2 (c_lef c)) | (simp only [Option.getD_some]; exact (k2 (c_lef c))))
theorem w_Walk_halfWay_20 {rod : Nat → Nat × (Nat → Int32)} {d : Nat} {Q : Option MV → MH → Prop} {u1 : Option MV} {u2 : Option MV} {u3 : Option MV} {x4 : Int32} {u5 : Option MV} {h : MH} (L : Lay h.2)  (k1 : x4.toInt ≤ ((2 : Int32) * (h.1 65 6)).toInt → Wb rod d B_Walk_halfWay 46 [some (.inr (.inr (.inl (some 65)))), u1, u2, u3, some (.inl x4), u5] [] h Q) (k2 : ¬ x4.toInt ≤ ((2 : Int32) * (h.1 65 6)).toInt → Wb rod d B_Walk_halfWay 31 [some (.inr (.inr (.inl (some 65)))), u1, u2, u3, some (.inl x4), u5] [] h Q) : Wb rod d B_Walk_halfWay 20 [some (.inr (.inr (.inl (some 65)))), u1, u2, u3, some (.inl x4), u5] [] h Q := by
  refine Wb.br (fun _ _ => b_Walk_halfWay_20 (Lay.o65 L)) (fun c => ?_) (fun c => ?_)
  · have c : (decide (x4 ≤ ((2 : Int32) * (h.1 65 6)))) = true := by first | exact c | (simp only [Option.getD_some] at c; exact c)
    (first | exact (k1 (c_let c)) | (simp only [Option.getD_some]; exact (k1 (c_let c))))
  · have c : (decide (x4 ≤ ((2 : Int32) * (h.1 65 6)))) = false := by first | exact c | (simp only [Option.getD_some] at c; exact c)
    (first | exact (k2 (c_lef c)) | (simp only [Option.getD_some]; exact (k2 (c_lef c))))
theorem w_Walk_halfWay_31 {rod : Nat → Nat × (Nat → Int32)} {d : Nat} {Q : Option MV → MH → Prop} {a1 : Nat} {a2 : Nat} {u3 : Option MV} {u4 : Option MV} {x5 : Int32} {h : MH} (L : Lay h.2)  {Q1 : Option MV → MH → Prop} (c : Wc rod d 78 [.inr (.inr (.inl (some 65))), .inr (.inr (.inl (some a1))), .inr (.inr (.inl (some a2))), .inl x5] h Q1) (k : ∀ r1 h2, Q1 r1 h2 → Wb rod d B_Walk_halfWay 39 [some (.inr (.inr (.inl (some 65)))), some (.inr (.inr (.inl (some a1)))), some (.inr (.inr (.inl (some a2)))), u3, u4, some (.inl x5)] (r1.toList ++ []) h2 Q) : Wb rod d B_Walk_halfWay 31 [some (.inr (.inr (.inl (some 65)))), some (.inr (.inr (.inl (some a1)))), some (.inr (.inr (.inl (some a2)))), u3, u4, some (.inl x5)] [] h Q := by
  refine Wb.call (fun _ _ _ _ => b_Walk_halfWay_31 (Lay.o65 L)) (Q1 := Q1) ?_ ?_
  · (first | exact c | (simp only [Option.getD_some]; exact c))
  · (first | exact k | (simp only [Option.getD_some]; exact k))
theorem w_Walk_halfWay_39 {rod : Nat → Nat × (Nat → Int32)} {d : Nat} {Q : Option MV → MH → Prop} {u0 : Option MV} {u1 : Option MV} {u2 : Option MV} {u3 : Option MV} {u4 : Option MV} {x5 : Int32} {xs0 : Int32} {h : MH}  (g0 : okl [u0, u1, u2, u3, u4, some (.inl x5)] 5 = true) (k : Wb rod d B_Walk_halfWay 14 [u0, u1, u2, u3, u4, some (.inl (x5 + 1))] [] h Q) : Wb rod d B_Walk_halfWay 39 [u0, u1, u2, u3, u4, some (.inl x5)] [.inl xs0] h Q := by
  refine Wb.go (fun r hr q => b_Walk_halfWay_39 g0 ?_) k
  (first | exact q | (simp only [Option.getD_some]; exact q))
theorem w_Walk_halfWay_46 {rod : Nat → Nat × (Nat → Int32)} {d : Nat} {Q : Option MV → MH → Prop} {u0 : Option MV} {u1 : Option MV} {u2 : Option MV} {u3 : Option MV} {u4 : Option MV} {x5 : Int32} {h : MH}   (q : Q (some (.inl x5)) h) : Wb rod d B_Walk_halfWay 46 [u0, u1, u2, u3, u4, some (.inl x5)] [] h Q := by
  refine Wb.ret (b_Walk_halfWay_46) ?_
  (first | exact q | (simp only [Option.getD_some]; exact q))
theorem n_Walk_buyersAhead {rod : Nat → Nat × (Nat → Int32)} {d : Nat} {Q : Option MV → MH → Prop} {a1 : Nat} {h : MH} (k : Wb rod d B_Walk_buyersAhead 0 [some (.inr (.inr (.inl (some 65)))), some (.inr (.inr (.inl (some a1)))), none, none] [] h Q) : Wc rod (d + 1) 175 [.inr (.inr (.inl (some 65))), .inr (.inr (.inl (some a1)))] h Q := Wc.en (fun _ _ => e_Walk_buyersAhead) k
theorem w_Walk_buyersAhead_0 {rod : Nat → Nat × (Nat → Int32)} {d : Nat} {Q : Option MV → MH → Prop} {u0 : Option MV} {u1 : Option MV} {u2 : Option MV} {u3 : Option MV} {h : MH}  (g0 : okl [u0, u1, u2, u3] 2 = true) (k : Wb rod d B_Walk_buyersAhead 4 [u0, u1, some (.inl (0 : Int32)), some (.inl (0 : Int32))] [] h Q) : Wb rod d B_Walk_buyersAhead 0 [u0, u1, u2, u3] [] h Q := by
  refine Wb.go (fun r hr q => b_Walk_buyersAhead_0 g0 ?_) k
  (first | exact q | (simp only [Option.getD_some]; exact q))
theorem w_Walk_buyersAhead_4 {rod : Nat → Nat × (Nat → Int32)} {d : Nat} {Q : Option MV → MH → Prop} {u0 : Option MV} {a1 : Nat} {u2 : Option MV} {x3 : Int32} {h : MH} (A1 : LandA h.2 a1)  (k1 : (h.1 a1 4).toInt ≤ x3.toInt → Wb rod d B_Walk_buyersAhead 33 [u0, some (.inr (.inr (.inl (some a1)))), u2, some (.inl x3)] [] h Q) (k2 : ¬ (h.1 a1 4).toInt ≤ x3.toInt → Wb rod d B_Walk_buyersAhead 12 [u0, some (.inr (.inr (.inl (some a1)))), u2, some (.inl x3)] [] h Q) : Wb rod d B_Walk_buyersAhead 4 [u0, some (.inr (.inr (.inl (some a1)))), u2, some (.inl x3)] [] h Q := by
  refine Wb.br (fun _ _ => b_Walk_buyersAhead_4 (A1.o)) (fun c => ?_) (fun c => ?_)
  · have c : (decide ((h.1 a1 4) ≤ x3)) = true := by first | exact c | (simp only [Option.getD_some] at c; exact c)
    (first | exact (k1 (c_let c)) | (simp only [Option.getD_some]; exact (k1 (c_let c))))
  · have c : (decide ((h.1 a1 4) ≤ x3)) = false := by first | exact c | (simp only [Option.getD_some] at c; exact c)
    (first | exact (k2 (c_lef c)) | (simp only [Option.getD_some]; exact (k2 (c_lef c))))
theorem w_Walk_buyersAhead_12 {rod : Nat → Nat × (Nat → Int32)} {d : Nat} {Q : Option MV → MH → Prop} {u1 : Option MV} {u2 : Option MV} {x3 : Int32} {h : MH} (L : Lay h.2) (g0 : 0 ≤ x3.toInt ∧ x3.toInt < 8) (k1 : 0 ≤ (h.1 66 x3.toNatClampNeg).toInt → Wb rod d B_Walk_buyersAhead 27 [some (.inr (.inr (.inl (some 65)))), u1, u2, some (.inl x3)] [] h Q) (k2 : ¬ 0 ≤ (h.1 66 x3.toNatClampNeg).toInt → Wb rod d B_Walk_buyersAhead 21 [some (.inr (.inr (.inl (some 65)))), u1, u2, some (.inl x3)] [] h Q) : Wb rod d B_Walk_buyersAhead 12 [some (.inr (.inr (.inl (some 65)))), u1, u2, some (.inl x3)] [] h Q := by
  refine Wb.br (fun _ _ => b_Walk_buyersAhead_12 (Lay.o65 L) (Lay.a65_8 L g0)) (fun c => ?_) (fun c => ?_)
  · have c : (decide (0 ≤ (h.1 66 x3.toNatClampNeg))) = true := by first | exact c | (simp only [Option.getD_some, (Lay.r65_8 L)] at c; exact c)
    (first | exact (k1 (c_let c)) | (simp only [Option.getD_some, (Lay.r65_8 L)]; exact (k1 (c_let c))))
  · have c : (decide (0 ≤ (h.1 66 x3.toNatClampNeg))) = false := by first | exact c | (simp only [Option.getD_some, (Lay.r65_8 L)] at c; exact c)
    (first | exact (k2 (c_lef c)) | (simp only [Option.getD_some, (Lay.r65_8 L)]; exact (k2 (c_lef c))))
theorem w_Walk_buyersAhead_21 {rod : Nat → Nat × (Nat → Int32)} {d : Nat} {Q : Option MV → MH → Prop} {u0 : Option MV} {u1 : Option MV} {x2 : Int32} {x3 : Int32} {h : MH}  (g0 : okl [u0, u1, some (.inl x2), some (.inl x3)] 2 = true) (k : Wb rod d B_Walk_buyersAhead 27 [u0, u1, some (.inl (x2 ||| ((1 : Int32) <<< (x3 &&& 31)))), some (.inl x3)] [] h Q) : Wb rod d B_Walk_buyersAhead 21 [u0, u1, some (.inl x2), some (.inl x3)] [] h Q := by
  refine Wb.go (fun r hr q => b_Walk_buyersAhead_21 g0 ?_) k
  (first | exact q | (simp only [Option.getD_some]; exact q))
theorem w_Walk_buyersAhead_27 {rod : Nat → Nat × (Nat → Int32)} {d : Nat} {Q : Option MV → MH → Prop} {u0 : Option MV} {u1 : Option MV} {u2 : Option MV} {x3 : Int32} {h : MH}  (g0 : okl [u0, u1, u2, some (.inl x3)] 3 = true) (k : Wb rod d B_Walk_buyersAhead 4 [u0, u1, u2, some (.inl (x3 + 1))] [] h Q) : Wb rod d B_Walk_buyersAhead 27 [u0, u1, u2, some (.inl x3)] [] h Q := by
  refine Wb.go (fun r hr q => b_Walk_buyersAhead_27 g0 ?_) k
  (first | exact q | (simp only [Option.getD_some]; exact q))
theorem w_Walk_buyersAhead_33 {rod : Nat → Nat × (Nat → Int32)} {d : Nat} {Q : Option MV → MH → Prop} {u0 : Option MV} {u1 : Option MV} {x2 : Int32} {u3 : Option MV} {h : MH}   (q : Q (some (.inl x2)) h) : Wb rod d B_Walk_buyersAhead 33 [u0, u1, some (.inl x2), u3] [] h Q := by
  refine Wb.ret (b_Walk_buyersAhead_33) ?_
  (first | exact q | (simp only [Option.getD_some]; exact q))
theorem n_Main_opened {rod : Nat → Nat × (Nat → Int32)} {d : Nat} {Q : Option MV → MH → Prop} {x1 : Int32} {x2 : Int32} {h : MH} (k : Wb rod d B_Main_opened 0 [some (.inr (.inr (.inl (some 0)))), some (.inl x1), some (.inl x2), none] [] h Q) : Wc rod (d + 1) 176 [.inr (.inr (.inl (some 0))), .inl x1, .inl x2] h Q := Wc.en (fun _ _ => e_Main_opened) k
theorem w_Main_opened_0 {rod : Nat → Nat × (Nat → Int32)} {d : Nat} {Q : Option MV → MH → Prop} {x1 : Int32} {u2 : Option MV} {u3 : Option MV} {h : MH} (L : Lay h.2)  {Q1 : Option MV → MH → Prop} (c : Wc rod d 116 [.inr (.inr (.inl (some 1))), .inl x1] h Q1) (k : ∀ r1 h2, Q1 r1 h2 → Wb rod d B_Main_opened 8 [some (.inr (.inr (.inl (some 0)))), some (.inl x1), u2, u3] (r1.toList ++ []) h2 Q) : Wb rod d B_Main_opened 0 [some (.inr (.inr (.inl (some 0)))), some (.inl x1), u2, u3] [] h Q := by
  refine Wb.call (fun _ _ _ _ => b_Main_opened_0 (Lay.o0 L) (Lay.k0_0 L)) (Q1 := Q1) ?_ ?_
  · (first | exact c | (simp only [Option.getD_some, (Lay.r0_0 L)]; exact c))
  · (first | exact k | (simp only [Option.getD_some, (Lay.r0_0 L)]; exact k))
theorem w_Main_opened_8 {rod : Nat → Nat × (Nat → Int32)} {d : Nat} {Q : Option MV → MH → Prop} {u0 : Option MV} {u1 : Option MV} {u2 : Option MV} {u3 : Option MV} {os0 : Option Nat} {h : MH}  (g0 : okl [u0, u1, u2, u3] 3 = true) (k1 : os0 = none → Wb rod d B_Main_opened 13 [u0, u1, u2, some (.inr (.inr (.inl os0)))] [] h Q) (k2 : ∀ v, os0 = some v → Wb rod d B_Main_opened 17 [u0, u1, u2, some (.inr (.inr (.inl os0)))] [] h Q) : Wb rod d B_Main_opened 8 [u0, u1, u2, u3] [.inr (.inr (.inl os0))] h Q := by
  cases os0 with
  | none =>
    refine Wb.br (fun _ _ => b_Main_opened_8 g0) (fun c => ?_) (fun c => ?_)
    · simp at c
    · exact k1 rfl
  | some v =>
    refine Wb.br (fun _ _ => b_Main_opened_8 g0) (fun c => ?_) (fun c => ?_)
    · exact k2 v rfl
    · simp at c
theorem w_Main_opened_13 {rod : Nat → Nat × (Nat → Int32)} {d : Nat} {Q : Option MV → MH → Prop} {u0 : Option MV} {u1 : Option MV} {u2 : Option MV} {u3 : Option MV} {h : MH}   (k : Wb rod d B_Main_opened 22 [u0, u1, u2, u3] [.inl (-1 : Int32)] h Q) : Wb rod d B_Main_opened 13 [u0, u1, u2, u3] [] h Q := by
  refine Wb.go (fun r hr q => b_Main_opened_13 ?_) k
  (first | exact q | (simp only [Option.getD_some]; exact q))
theorem w_Main_opened_17 {rod : Nat → Nat × (Nat → Int32)} {d : Nat} {Q : Option MV → MH → Prop} {u0 : Option MV} {u1 : Option MV} {x2 : Int32} {a3 : Nat} {h : MH} (A3 : LedgerA h.2 a3)  {Q1 : Option MV → MH → Prop} (c : Wc rod d 177 [.inr (.inr (.inl (some a3))), .inl x2] h Q1) (k : ∀ r1 h2, Q1 r1 h2 → Wb rod d B_Main_opened 22 [u0, u1, some (.inl x2), some (.inr (.inr (.inl (some a3))))] (r1.toList ++ []) h2 Q) : Wb rod d B_Main_opened 17 [u0, u1, some (.inl x2), some (.inr (.inr (.inl (some a3))))] [] h Q := by
  refine Wb.call (fun _ _ _ _ => b_Main_opened_17 (A3.o)) (Q1 := Q1) ?_ ?_
  · (first | exact c | (simp only [Option.getD_some]; exact c))
  · (first | exact k | (simp only [Option.getD_some]; exact k))
theorem w_Main_opened_22 {rod : Nat → Nat × (Nat → Int32)} {d : Nat} {Q : Option MV → MH → Prop} {u0 : Option MV} {u1 : Option MV} {u2 : Option MV} {u3 : Option MV} {xs0 : Int32} {h : MH}   (q : Q (some (.inl xs0)) h) : Wb rod d B_Main_opened 22 [u0, u1, u2, u3] [.inl xs0] h Q := by
  refine Wb.ret (b_Main_opened_22) ?_
  (first | exact q | (simp only [Option.getD_some]; exact q))
theorem n_Ledger_losses {rod : Nat → Nat × (Nat → Int32)} {d : Nat} {Q : Option MV → MH → Prop} {a0 : Nat} {x1 : Int32} {h : MH} (k : Wb rod d B_Ledger_losses 0 [some (.inr (.inr (.inl (some a0)))), some (.inl x1), none, none, none] [] h Q) : Wc rod (d + 1) 177 [.inr (.inr (.inl (some a0))), .inl x1] h Q := Wc.en (fun _ _ => e_Ledger_losses) k
theorem w_Ledger_losses_0 {rod : Nat → Nat × (Nat → Int32)} {d : Nat} {Q : Option MV → MH → Prop} {u0 : Option MV} {u1 : Option MV} {u2 : Option MV} {u3 : Option MV} {u4 : Option MV} {h : MH}  (g0 : okl [u0, u1, u2, u3, u4] 2 = true) (k : Wb rod d B_Ledger_losses 4 [u0, u1, some (.inl (0 : Int32)), some (.inl (0 : Int32)), u4] [] h Q) : Wb rod d B_Ledger_losses 0 [u0, u1, u2, u3, u4] [] h Q := by
  refine Wb.go (fun r hr q => b_Ledger_losses_0 g0 ?_) k
  (first | exact q | (simp only [Option.getD_some]; exact q))
theorem w_Ledger_losses_4 {rod : Nat → Nat × (Nat → Int32)} {d : Nat} {Q : Option MV → MH → Prop} {a0 : Nat} {u1 : Option MV} {u2 : Option MV} {x3 : Int32} {u4 : Option MV} {h : MH} (A0 : LedgerA h.2 a0)  (k1 : (h.1 a0 0).toInt ≤ x3.toInt → Wb rod d B_Ledger_losses 57 [some (.inr (.inr (.inl (some a0)))), u1, u2, some (.inl x3), u4] [] h Q) (k2 : ¬ (h.1 a0 0).toInt ≤ x3.toInt → Wb rod d B_Ledger_losses 12 [some (.inr (.inr (.inl (some a0)))), u1, u2, some (.inl x3), u4] [] h Q) : Wb rod d B_Ledger_losses 4 [some (.inr (.inr (.inl (some a0)))), u1, u2, some (.inl x3), u4] [] h Q := by
  refine Wb.br (fun _ _ => b_Ledger_losses_4 (A0.o)) (fun c => ?_) (fun c => ?_)
  · have c : (decide ((h.1 a0 0) ≤ x3)) = true := by first | exact c | (simp only [Option.getD_some] at c; exact c)
    (first | exact (k1 (c_let c)) | (simp only [Option.getD_some]; exact (k1 (c_let c))))
  · have c : (decide ((h.1 a0 0) ≤ x3)) = false := by first | exact c | (simp only [Option.getD_some] at c; exact c)
    (first | exact (k2 (c_lef c)) | (simp only [Option.getD_some]; exact (k2 (c_lef c))))
theorem w_Ledger_losses_12 {rod : Nat → Nat × (Nat → Int32)} {d : Nat} {Q : Option MV → MH → Prop} {a0 : Nat} {u1 : Option MV} {u2 : Option MV} {x3 : Int32} {u4 : Option MV} {h : MH} (A0 : LedgerA h.2 a0) (g0 : 0 ≤ x3.toInt ∧ x3.toInt < 20) (k1 : ¬ (h.1 (a0 + 1) x3.toNatClampNeg).toInt = 2 → Wb rod d B_Ledger_losses 30 [some (.inr (.inr (.inl (some a0)))), u1, u2, some (.inl x3), u4] [] h Q) (k2 : (h.1 (a0 + 1) x3.toNatClampNeg).toInt = 2 → Wb rod d B_Ledger_losses 22 [some (.inr (.inr (.inl (some a0)))), u1, u2, some (.inl x3), u4] [] h Q) : Wb rod d B_Ledger_losses 12 [some (.inr (.inr (.inl (some a0)))), u1, u2, some (.inl x3), u4] [] h Q := by
  refine Wb.br (fun _ _ => b_Ledger_losses_12 (A0.o) (A0.a1 g0)) (fun c => ?_) (fun c => ?_)
  · have c : (!(decide ((h.1 (a0 + 1) x3.toNatClampNeg) = (2 : Int32)))) = true := by first | exact c | (simp only [Option.getD_some, A0.r1] at c; exact c)
    (first | exact (k1 (c_net c)) | (simp only [Option.getD_some, A0.r1]; exact (k1 (c_net c))))
  · have c : (!(decide ((h.1 (a0 + 1) x3.toNatClampNeg) = (2 : Int32)))) = false := by first | exact c | (simp only [Option.getD_some, A0.r1] at c; exact c)
    (first | exact (k2 (c_nef c)) | (simp only [Option.getD_some, A0.r1]; exact (k2 (c_nef c))))
theorem w_Ledger_losses_22 {rod : Nat → Nat × (Nat → Int32)} {d : Nat} {Q : Option MV → MH → Prop} {a0 : Nat} {u1 : Option MV} {u2 : Option MV} {x3 : Int32} {u4 : Option MV} {h : MH} (A0 : LedgerA h.2 a0)  {Q1 : Option MV → MH → Prop} (c : Wc rod d 119 [.inr (.inr (.inl (some a0))), .inl x3] h Q1) (k : ∀ r1 h2, Q1 r1 h2 → Wb rod d B_Ledger_losses 27 [some (.inr (.inr (.inl (some a0)))), u1, u2, some (.inl x3), u4] (r1.toList ++ []) h2 Q) : Wb rod d B_Ledger_losses 22 [some (.inr (.inr (.inl (some a0)))), u1, u2, some (.inl x3), u4] [] h Q := by
  refine Wb.call (fun _ _ _ _ => b_Ledger_losses_22 (A0.o)) (Q1 := Q1) ?_ ?_
  · (first | exact c | (simp only [Option.getD_some]; exact c))
  · (first | exact k | (simp only [Option.getD_some]; exact k))
theorem w_Ledger_losses_27 {rod : Nat → Nat × (Nat → Int32)} {d : Nat} {Q : Option MV → MH → Prop} {u0 : Option MV} {u1 : Option MV} {u2 : Option MV} {u3 : Option MV} {u4 : Option MV} {xs0 : Int32} {h : MH}   (k : Wb rod d B_Ledger_losses 31 [u0, u1, u2, u3, u4] [.inl xs0] h Q) : Wb rod d B_Ledger_losses 27 [u0, u1, u2, u3, u4] [.inl xs0] h Q := by
  refine Wb.go (fun r hr q => b_Ledger_losses_27 ?_) k
  (first | exact q | (simp only [Option.getD_some]; exact q))
theorem w_Ledger_losses_30 {rod : Nat → Nat × (Nat → Int32)} {d : Nat} {Q : Option MV → MH → Prop} {u0 : Option MV} {u1 : Option MV} {u2 : Option MV} {u3 : Option MV} {u4 : Option MV} {h : MH}   (k : Wb rod d B_Ledger_losses 31 [u0, u1, u2, u3, u4] [.inl (0 : Int32)] h Q) : Wb rod d B_Ledger_losses 30 [u0, u1, u2, u3, u4] [] h Q := by
  refine Wb.go (fun r hr q => b_Ledger_losses_30 ?_) k
  (first | exact q | (simp only [Option.getD_some]; exact q))
theorem w_Ledger_losses_31 {rod : Nat → Nat × (Nat → Int32)} {d : Nat} {Q : Option MV → MH → Prop} {u0 : Option MV} {u1 : Option MV} {u2 : Option MV} {u3 : Option MV} {u4 : Option MV} {xs0 : Int32} {h : MH}  (g0 : okl [u0, u1, u2, u3, u4] 4 = true) (k1 : xs0.toInt ≤ 0 → Wb rod d B_Ledger_losses 51 [u0, u1, u2, u3, some (.inl xs0)] [] h Q) (k2 : ¬ xs0.toInt ≤ 0 → Wb rod d B_Ledger_losses 38 [u0, u1, u2, u3, some (.inl xs0)] [] h Q) : Wb rod d B_Ledger_losses 31 [u0, u1, u2, u3, u4] [.inl xs0] h Q := by
  refine Wb.br (fun _ _ => b_Ledger_losses_31 g0) (fun c => ?_) (fun c => ?_)
  · have c : (decide (xs0 ≤ 0)) = true := by first | exact c | (simp only [Option.getD_some] at c; exact c)
    (first | exact (k1 (c_let c)) | (simp only [Option.getD_some]; exact (k1 (c_let c))))
  · have c : (decide (xs0 ≤ 0)) = false := by first | exact c | (simp only [Option.getD_some] at c; exact c)
    (first | exact (k2 (c_lef c)) | (simp only [Option.getD_some]; exact (k2 (c_lef c))))
theorem w_Ledger_losses_38 {rod : Nat → Nat × (Nat → Int32)} {d : Nat} {Q : Option MV → MH → Prop} {u0 : Option MV} {x1 : Int32} {x2 : Int32} {u3 : Option MV} {u4 : Option MV} {h : MH}   (k1 : x1.toInt = 0 → Wb rod d B_Ledger_losses 48 [u0, some (.inl x1), some (.inl x2), u3, u4] [.inl x2] h Q) (k2 : ¬ x1.toInt = 0 → Wb rod d B_Ledger_losses 43 [u0, some (.inl x1), some (.inl x2), u3, u4] [.inl x2] h Q) : Wb rod d B_Ledger_losses 38 [u0, some (.inl x1), some (.inl x2), u3, u4] [] h Q := by
  refine Wb.br (fun _ _ => b_Ledger_losses_38) (fun c => ?_) (fun c => ?_)
  · have c : (decide (x1 = 0)) = true := by first | exact c | (simp only [Option.getD_some] at c; exact c)
    (first | exact (k1 (c_eqt c)) | (simp only [Option.getD_some]; exact (k1 (c_eqt c))))
  · have c : (decide (x1 = 0)) = false := by first | exact c | (simp only [Option.getD_some] at c; exact c)
    (first | exact (k2 (c_eqf c)) | (simp only [Option.getD_some]; exact (k2 (c_eqf c))))
theorem w_Ledger_losses_43 {rod : Nat → Nat × (Nat → Int32)} {d : Nat} {Q : Option MV → MH → Prop} {u0 : Option MV} {u1 : Option MV} {u2 : Option MV} {u3 : Option MV} {x4 : Int32} {xs0 : Int32} {h : MH}   (k : Wb rod d B_Ledger_losses 49 [u0, u1, u2, u3, some (.inl x4)] [.inl x4, .inl xs0] h Q) : Wb rod d B_Ledger_losses 43 [u0, u1, u2, u3, some (.inl x4)] [.inl xs0] h Q := by
  refine Wb.go (fun r hr q => b_Ledger_losses_43 ?_) k
  (first | exact q | (simp only [Option.getD_some]; exact q))
theorem w_Ledger_losses_48 {rod : Nat → Nat × (Nat → Int32)} {d : Nat} {Q : Option MV → MH → Prop} {u0 : Option MV} {u1 : Option MV} {u2 : Option MV} {u3 : Option MV} {u4 : Option MV} {xs0 : Int32} {h : MH}   (k : Wb rod d B_Ledger_losses 49 [u0, u1, u2, u3, u4] [.inl (1 : Int32), .inl xs0] h Q) : Wb rod d B_Ledger_losses 48 [u0, u1, u2, u3, u4] [.inl xs0] h Q := by
  refine Wb.go (fun r hr q => b_Ledger_losses_48 ?_) k
  (first | exact q | (simp only [Option.getD_some]; exact q))
theorem w_Ledger_losses_49 {rod : Nat → Nat × (Nat → Int32)} {d : Nat} {Q : Option MV → MH → Prop} {u0 : Option MV} {u1 : Option MV} {u2 : Option MV} {u3 : Option MV} {u4 : Option MV} {xs0 : Int32} {xs1 : Int32} {h : MH}  (g0 : okl [u0, u1, u2, u3, u4] 2 = true) (k : Wb rod d B_Ledger_losses 51 [u0, u1, some (.inl (xs0 + xs1)), u3, u4] [] h Q) : Wb rod d B_Ledger_losses 49 [u0, u1, u2, u3, u4] [.inl xs1, .inl xs0] h Q := by
  refine Wb.go (fun r hr q => b_Ledger_losses_49 g0 ?_) k
  (first | exact q | (simp only [Option.getD_some]; exact q))
theorem w_Ledger_losses_51 {rod : Nat → Nat × (Nat → Int32)} {d : Nat} {Q : Option MV → MH → Prop} {u0 : Option MV} {u1 : Option MV} {u2 : Option MV} {x3 : Int32} {u4 : Option MV} {h : MH}  (g0 : okl [u0, u1, u2, some (.inl x3), u4] 3 = true) (k : Wb rod d B_Ledger_losses 4 [u0, u1, u2, some (.inl (x3 + 1)), u4] [] h Q) : Wb rod d B_Ledger_losses 51 [u0, u1, u2, some (.inl x3), u4] [] h Q := by
  refine Wb.go (fun r hr q => b_Ledger_losses_51 g0 ?_) k
  (first | exact q | (simp only [Option.getD_some]; exact q))
theorem w_Ledger_losses_57 {rod : Nat → Nat × (Nat → Int32)} {d : Nat} {Q : Option MV → MH → Prop} {u0 : Option MV} {u1 : Option MV} {x2 : Int32} {u3 : Option MV} {u4 : Option MV} {h : MH}   (q : Q (some (.inl x2)) h) : Wb rod d B_Ledger_losses 57 [u0, u1, some (.inl x2), u3, u4] [] h Q := by
  refine Wb.ret (b_Ledger_losses_57) ?_
  (first | exact q | (simp only [Option.getD_some]; exact q))
theorem n_Main_poorer {rod : Nat → Nat × (Nat → Int32)} {d : Nat} {Q : Option MV → MH → Prop} {x1 : Int32} {h : MH} (k : Wb rod d B_Main_poorer 0 [some (.inr (.inr (.inl (some 0)))), some (.inl x1), none] [] h Q) : Wc rod (d + 1) 178 [.inr (.inr (.inl (some 0))), .inl x1] h Q := Wc.en (fun _ _ => e_Main_poorer) k
theorem w_Main_poorer_0 {rod : Nat → Nat × (Nat → Int32)} {d : Nat} {Q : Option MV → MH → Prop} {x1 : Int32} {u2 : Option MV} {h : MH} (L : Lay h.2)  {Q1 : Option MV → MH → Prop} (c : Wc rod d 61 [.inr (.inr (.inl (some 1))), .inl x1] h Q1) (k : ∀ r1 h2, Q1 r1 h2 → Wb rod d B_Main_poorer 8 [some (.inr (.inr (.inl (some 0)))), some (.inl x1), u2] (r1.toList ++ []) h2 Q) : Wb rod d B_Main_poorer 0 [some (.inr (.inr (.inl (some 0)))), some (.inl x1), u2] [] h Q := by
  refine Wb.call (fun _ _ _ _ => b_Main_poorer_0 (Lay.o0 L) (Lay.k0_0 L)) (Q1 := Q1) ?_ ?_
  · (first | exact c | (simp only [Option.getD_some, (Lay.r0_0 L)]; exact c))
  · (first | exact k | (simp only [Option.getD_some, (Lay.r0_0 L)]; exact k))
theorem w_Main_poorer_8 {rod : Nat → Nat × (Nat → Int32)} {d : Nat} {Q : Option MV → MH → Prop} {u0 : Option MV} {u1 : Option MV} {u2 : Option MV} {os0 : Option Nat} {h : MH}  (g0 : okl [u0, u1, u2] 2 = true) (k1 : os0 = none → Wb rod d B_Main_poorer 13 [u0, u1, some (.inr (.inr (.inl os0)))] [] h Q) (k2 : ∀ v, os0 = some v → Wb rod d B_Main_poorer 17 [u0, u1, some (.inr (.inr (.inl os0)))] [] h Q) : Wb rod d B_Main_poorer 8 [u0, u1, u2] [.inr (.inr (.inl os0))] h Q := by
  cases os0 with
  | none =>
    refine Wb.br (fun _ _ => b_Main_poorer_8 g0) (fun c => ?_) (fun c => ?_)
    · simp at c
    · exact k1 rfl
  | some v =>
    refine Wb.br (fun _ _ => b_Main_poorer_8 g0) (fun c => ?_) (fun c => ?_)
    · exact k2 v rfl
    · simp at c
theorem w_Main_poorer_13 {rod : Nat → Nat × (Nat → Int32)} {d : Nat} {Q : Option MV → MH → Prop} {u0 : Option MV} {u1 : Option MV} {u2 : Option MV} {h : MH}   (k : Wb rod d B_Main_poorer 21 [u0, u1, u2] [.inl (-1 : Int32)] h Q) : Wb rod d B_Main_poorer 13 [u0, u1, u2] [] h Q := by
  refine Wb.go (fun r hr q => b_Main_poorer_13 ?_) k
  (first | exact q | (simp only [Option.getD_some]; exact q))
theorem w_Main_poorer_17 {rod : Nat → Nat × (Nat → Int32)} {d : Nat} {Q : Option MV → MH → Prop} {u0 : Option MV} {u1 : Option MV} {a2 : Nat} {h : MH} (A2 : LandA h.2 a2)  {Q1 : Option MV → MH → Prop} (c : Wc rod d 179 [.inr (.inr (.inl (some a2)))] h Q1) (k : ∀ r1 h2, Q1 r1 h2 → Wb rod d B_Main_poorer 21 [u0, u1, some (.inr (.inr (.inl (some a2))))] (r1.toList ++ []) h2 Q) : Wb rod d B_Main_poorer 17 [u0, u1, some (.inr (.inr (.inl (some a2))))] [] h Q := by
  refine Wb.call (fun _ _ _ _ => b_Main_poorer_17 (A2.o)) (Q1 := Q1) ?_ ?_
  · (first | exact c | (simp only [Option.getD_some]; exact c))
  · (first | exact k | (simp only [Option.getD_some]; exact k))
theorem w_Main_poorer_21 {rod : Nat → Nat × (Nat → Int32)} {d : Nat} {Q : Option MV → MH → Prop} {u0 : Option MV} {u1 : Option MV} {u2 : Option MV} {xs0 : Int32} {h : MH}   (q : Q (some (.inl xs0)) h) : Wb rod d B_Main_poorer 21 [u0, u1, u2] [.inl xs0] h Q := by
  refine Wb.ret (b_Main_poorer_21) ?_
  (first | exact q | (simp only [Option.getD_some]; exact q))
theorem n_Land_poorerLetters {rod : Nat → Nat × (Nat → Int32)} {d : Nat} {Q : Option MV → MH → Prop} {a0 : Nat} {h : MH} (k : Wb rod d B_Land_poorerLetters 0 [some (.inr (.inr (.inl (some a0)))), none, none, none, none] [] h Q) : Wc rod (d + 1) 179 [.inr (.inr (.inl (some a0)))] h Q := Wc.en (fun _ _ => e_Land_poorerLetters) k
theorem w_Land_poorerLetters_0 {rod : Nat → Nat × (Nat → Int32)} {d : Nat} {Q : Option MV → MH → Prop} {u0 : Option MV} {u1 : Option MV} {u2 : Option MV} {u3 : Option MV} {u4 : Option MV} {h : MH}  (g0 : okl [u0, u1, u2, u3, u4] 1 = true) (k : Wb rod d B_Land_poorerLetters 4 [u0, some (.inl (0 : Int32)), some (.inl (0 : Int32)), u3, u4] [] h Q) : Wb rod d B_Land_poorerLetters 0 [u0, u1, u2, u3, u4] [] h Q := by
  refine Wb.go (fun r hr q => b_Land_poorerLetters_0 g0 ?_) k
  (first | exact q | (simp only [Option.getD_some]; exact q))
theorem w_Land_poorerLetters_4 {rod : Nat → Nat × (Nat → Int32)} {d : Nat} {Q : Option MV → MH → Prop} {a0 : Nat} {u1 : Option MV} {x2 : Int32} {u3 : Option MV} {u4 : Option MV} {h : MH} (A0 : LandA h.2 a0)  (k1 : (h.1 a0 5).toInt ≤ x2.toInt → Wb rod d B_Land_poorerLetters 112 [some (.inr (.inr (.inl (some a0)))), u1, some (.inl x2), u3, u4] [] h Q) (k2 : ¬ (h.1 a0 5).toInt ≤ x2.toInt → Wb rod d B_Land_poorerLetters 12 [some (.inr (.inr (.inl (some a0)))), u1, some (.inl x2), u3, u4] [] h Q) : Wb rod d B_Land_poorerLetters 4 [some (.inr (.inr (.inl (some a0)))), u1, some (.inl x2), u3, u4] [] h Q := by
  refine Wb.br (fun _ _ => b_Land_poorerLetters_4 (A0.o)) (fun c => ?_) (fun c => ?_)
  · have c : (decide ((h.1 a0 5) ≤ x2)) = true := by first | exact c | (simp only [Option.getD_some] at c; exact c)
    (first | exact (k1 (c_let c)) | (simp only [Option.getD_some]; exact (k1 (c_let c))))
  · have c : (decide ((h.1 a0 5) ≤ x2)) = false := by first | exact c | (simp only [Option.getD_some] at c; exact c)
    (first | exact (k2 (c_lef c)) | (simp only [Option.getD_some]; exact (k2 (c_lef c))))
theorem w_Land_poorerLetters_12 {rod : Nat → Nat × (Nat → Int32)} {d : Nat} {Q : Option MV → MH → Prop} {u0 : Option MV} {u1 : Option MV} {u2 : Option MV} {u3 : Option MV} {u4 : Option MV} {h : MH}  (g0 : okl [u0, u1, u2, u3, u4] 3 = true) (k : Wb rod d B_Land_poorerLetters 14 [u0, u1, u2, some (.inl (0 : Int32)), u4] [] h Q) : Wb rod d B_Land_poorerLetters 12 [u0, u1, u2, u3, u4] [] h Q := by
  refine Wb.go (fun r hr q => b_Land_poorerLetters_12 g0 ?_) k
  (first | exact q | (simp only [Option.getD_some]; exact q))
theorem w_Land_poorerLetters_14 {rod : Nat → Nat × (Nat → Int32)} {d : Nat} {Q : Option MV → MH → Prop} {a0 : Nat} {u1 : Option MV} {u2 : Option MV} {x3 : Int32} {u4 : Option MV} {h : MH} (A0 : LandA h.2 a0)  (k1 : (h.1 a0 5).toInt ≤ x3.toInt → Wb rod d B_Land_poorerLetters 106 [some (.inr (.inr (.inl (some a0)))), u1, u2, some (.inl x3), u4] [] h Q) (k2 : ¬ (h.1 a0 5).toInt ≤ x3.toInt → Wb rod d B_Land_poorerLetters 22 [some (.inr (.inr (.inl (some a0)))), u1, u2, some (.inl x3), u4] [] h Q) : Wb rod d B_Land_poorerLetters 14 [some (.inr (.inr (.inl (some a0)))), u1, u2, some (.inl x3), u4] [] h Q := by
  refine Wb.br (fun _ _ => b_Land_poorerLetters_14 (A0.o)) (fun c => ?_) (fun c => ?_)
  · have c : (decide ((h.1 a0 5) ≤ x3)) = true := by first | exact c | (simp only [Option.getD_some] at c; exact c)
    (first | exact (k1 (c_let c)) | (simp only [Option.getD_some]; exact (k1 (c_let c))))
  · have c : (decide ((h.1 a0 5) ≤ x3)) = false := by first | exact c | (simp only [Option.getD_some] at c; exact c)
    (first | exact (k2 (c_lef c)) | (simp only [Option.getD_some]; exact (k2 (c_lef c))))
theorem w_Land_poorerLetters_22 {rod : Nat → Nat × (Nat → Int32)} {d : Nat} {Q : Option MV → MH → Prop} {a0 : Nat} {u1 : Option MV} {x2 : Int32} {x3 : Int32} {u4 : Option MV} {h : MH} (A0 : LandA h.2 a0) (g0 : 0 ≤ x3.toInt ∧ x3.toInt < 4) (g1 : 0 ≤ x2.toInt ∧ x2.toInt < 4) (k1 : ¬ (h.1 (a0 + 6) x3.toNatClampNeg).toInt = (h.1 (a0 + 6) x2.toNatClampNeg).toInt → Wb rod d B_Land_poorerLetters 52 [some (.inr (.inr (.inl (some a0)))), u1, some (.inl x2), some (.inl x3), u4] [] h Q) (k2 : (h.1 (a0 + 6) x3.toNatClampNeg).toInt = (h.1 (a0 + 6) x2.toNatClampNeg).toInt → Wb rod d B_Land_poorerLetters 37 [some (.inr (.inr (.inl (some a0)))), u1, some (.inl x2), some (.inl x3), u4] [] h Q) : Wb rod d B_Land_poorerLetters 22 [some (.inr (.inr (.inl (some a0)))), u1, some (.inl x2), some (.inl x3), u4] [] h Q := by
  refine Wb.br (fun _ _ => b_Land_poorerLetters_22 (A0.o) (A0.a11 g0) (A0.a11 g1)) (fun c => ?_) (fun c => ?_)
  · have c : (!(decide ((h.1 (a0 + 6) x3.toNatClampNeg) = (h.1 (a0 + 6) x2.toNatClampNeg)))) = true := by first | exact c | (simp only [Option.getD_some, A0.r11] at c; exact c)
    (first | exact (k1 (c_net c)) | (simp only [Option.getD_some, A0.r11]; exact (k1 (c_net c))))
  · have c : (!(decide ((h.1 (a0 + 6) x3.toNatClampNeg) = (h.1 (a0 + 6) x2.toNatClampNeg)))) = false := by first | exact c | (simp only [Option.getD_some, A0.r11] at c; exact c)
    (first | exact (k2 (c_nef c)) | (simp only [Option.getD_some, A0.r11]; exact (k2 (c_nef c))))
theorem w_Land_poorerLetters_37 {rod : Nat → Nat × (Nat → Int32)} {d : Nat} {Q : Option MV → MH → Prop} {a0 : Nat} {u1 : Option MV} {x2 : Int32} {x3 : Int32} {u4 : Option MV} {h : MH} (A0 : LandA h.2 a0) (g0 : 0 ≤ x3.toInt ∧ x3.toInt < 4) (g1 : 0 ≤ x2.toInt ∧ x2.toInt < 4) (k1 : (h.1 (a0 + 7) x3.toNatClampNeg).toInt = (h.1 (a0 + 7) x2.toNatClampNeg).toInt → Wb rod d B_Land_poorerLetters 56 [some (.inr (.inr (.inl (some a0)))), u1, some (.inl x2), some (.inl x3), u4] [] h Q) (k2 : ¬ (h.1 (a0 + 7) x3.toNatClampNeg).toInt = (h.1 (a0 + 7) x2.toNatClampNeg).toInt → Wb rod d B_Land_poorerLetters 52 [some (.inr (.inr (.inl (some a0)))), u1, some (.inl x2), some (.inl x3), u4] [] h Q) : Wb rod d B_Land_poorerLetters 37 [some (.inr (.inr (.inl (some a0)))), u1, some (.inl x2), some (.inl x3), u4] [] h Q := by
  refine Wb.br (fun _ _ => b_Land_poorerLetters_37 (A0.o) (A0.a12 g0) (A0.a12 g1)) (fun c => ?_) (fun c => ?_)
  · have c : (decide ((h.1 (a0 + 7) x3.toNatClampNeg) = (h.1 (a0 + 7) x2.toNatClampNeg))) = true := by first | exact c | (simp only [Option.getD_some, A0.r12] at c; exact c)
    (first | exact (k1 (c_eqt c)) | (simp only [Option.getD_some, A0.r12]; exact (k1 (c_eqt c))))
  · have c : (decide ((h.1 (a0 + 7) x3.toNatClampNeg) = (h.1 (a0 + 7) x2.toNatClampNeg))) = false := by first | exact c | (simp only [Option.getD_some, A0.r12] at c; exact c)
    (first | exact (k2 (c_eqf c)) | (simp only [Option.getD_some, A0.r12]; exact (k2 (c_eqf c))))
theorem w_Land_poorerLetters_52 {rod : Nat → Nat × (Nat → Int32)} {d : Nat} {Q : Option MV → MH → Prop} {u0 : Option MV} {u1 : Option MV} {u2 : Option MV} {u3 : Option MV} {u4 : Option MV} {h : MH}   (k : Wb rod d B_Land_poorerLetters 57 [u0, u1, u2, u3, u4] [.inl (1 : Int32)] h Q) : Wb rod d B_Land_poorerLetters 52 [u0, u1, u2, u3, u4] [] h Q := by
  refine Wb.go (fun r hr q => b_Land_poorerLetters_52 ?_) k
  (first | exact q | (simp only [Option.getD_some]; exact q))
theorem w_Land_poorerLetters_56 {rod : Nat → Nat × (Nat → Int32)} {d : Nat} {Q : Option MV → MH → Prop} {u0 : Option MV} {u1 : Option MV} {u2 : Option MV} {u3 : Option MV} {u4 : Option MV} {h : MH}   (k : Wb rod d B_Land_poorerLetters 57 [u0, u1, u2, u3, u4] [.inl (0 : Int32)] h Q) : Wb rod d B_Land_poorerLetters 56 [u0, u1, u2, u3, u4] [] h Q := by
  refine Wb.go (fun r hr q => b_Land_poorerLetters_56 ?_) k
  (first | exact q | (simp only [Option.getD_some]; exact q))
theorem w_Land_poorerLetters_57 {rod : Nat → Nat × (Nat → Int32)} {d : Nat} {Q : Option MV → MH → Prop} {u0 : Option MV} {u1 : Option MV} {u2 : Option MV} {u3 : Option MV} {u4 : Option MV} {xs0 : Int32} {h : MH}  (g0 : okl [u0, u1, u2, u3, u4] 4 = true) (k1 : xs0.toInt = 0 → Wb rod d B_Land_poorerLetters 100 [u0, u1, u2, u3, some (.inl xs0)] [] h Q) (k2 : ¬ xs0.toInt = 0 → Wb rod d B_Land_poorerLetters 64 [u0, u1, u2, u3, some (.inl xs0)] [] h Q) : Wb rod d B_Land_poorerLetters 57 [u0, u1, u2, u3, u4] [.inl xs0] h Q := by
  refine Wb.br (fun _ _ => b_Land_poorerLetters_57 g0) (fun c => ?_) (fun c => ?_)
  · have c : (decide (xs0 = 0)) = true := by first | exact c | (simp only [Option.getD_some] at c; exact c)
    (first | exact (k1 (c_eqt c)) | (simp only [Option.getD_some]; exact (k1 (c_eqt c))))
  · have c : (decide (xs0 = 0)) = false := by first | exact c | (simp only [Option.getD_some] at c; exact c)
    (first | exact (k2 (c_eqf c)) | (simp only [Option.getD_some]; exact (k2 (c_eqf c))))
theorem w_Land_poorerLetters_64 {rod : Nat → Nat × (Nat → Int32)} {d : Nat} {Q : Option MV → MH → Prop} {a0 : Nat} {u1 : Option MV} {x2 : Int32} {x3 : Int32} {u4 : Option MV} {h : MH} (A0 : LandA h.2 a0) (g0 : 0 ≤ x3.toInt ∧ x3.toInt < 4) (g1 : 0 ≤ x2.toInt ∧ x2.toInt < 4) (k1 : (h.1 (a0 + 6) x3.toNatClampNeg).toInt < (h.1 (a0 + 6) x2.toNatClampNeg).toInt → Wb rod d B_Land_poorerLetters 100 [some (.inr (.inr (.inl (some a0)))), u1, some (.inl x2), some (.inl x3), u4] [] h Q) (k2 : ¬ (h.1 (a0 + 6) x3.toNatClampNeg).toInt < (h.1 (a0 + 6) x2.toNatClampNeg).toInt → Wb rod d B_Land_poorerLetters 79 [some (.inr (.inr (.inl (some a0)))), u1, some (.inl x2), some (.inl x3), u4] [] h Q) : Wb rod d B_Land_poorerLetters 64 [some (.inr (.inr (.inl (some a0)))), u1, some (.inl x2), some (.inl x3), u4] [] h Q := by
  refine Wb.br (fun _ _ => b_Land_poorerLetters_64 (A0.o) (A0.a11 g0) (A0.a11 g1)) (fun c => ?_) (fun c => ?_)
  · have c : (decide ((h.1 (a0 + 6) x3.toNatClampNeg) < (h.1 (a0 + 6) x2.toNatClampNeg))) = true := by first | exact c | (simp only [Option.getD_some, A0.r11] at c; exact c)
    (first | exact (k1 (c_ltt c)) | (simp only [Option.getD_some, A0.r11]; exact (k1 (c_ltt c))))
  · have c : (decide ((h.1 (a0 + 6) x3.toNatClampNeg) < (h.1 (a0 + 6) x2.toNatClampNeg))) = false := by first | exact c | (simp only [Option.getD_some, A0.r11] at c; exact c)
    (first | exact (k2 (c_ltf c)) | (simp only [Option.getD_some, A0.r11]; exact (k2 (c_ltf c))))
theorem w_Land_poorerLetters_79 {rod : Nat → Nat × (Nat → Int32)} {d : Nat} {Q : Option MV → MH → Prop} {a0 : Nat} {u1 : Option MV} {x2 : Int32} {x3 : Int32} {u4 : Option MV} {h : MH} (A0 : LandA h.2 a0) (g0 : 0 ≤ x3.toInt ∧ x3.toInt < 4) (g1 : 0 ≤ x2.toInt ∧ x2.toInt < 4) (k1 : (h.1 (a0 + 7) x2.toNatClampNeg).toInt < (h.1 (a0 + 7) x3.toNatClampNeg).toInt → Wb rod d B_Land_poorerLetters 100 [some (.inr (.inr (.inl (some a0)))), u1, some (.inl x2), some (.inl x3), u4] [] h Q) (k2 : ¬ (h.1 (a0 + 7) x2.toNatClampNeg).toInt < (h.1 (a0 + 7) x3.toNatClampNeg).toInt → Wb rod d B_Land_poorerLetters 94 [some (.inr (.inr (.inl (some a0)))), u1, some (.inl x2), some (.inl x3), u4] [] h Q) : Wb rod d B_Land_poorerLetters 79 [some (.inr (.inr (.inl (some a0)))), u1, some (.inl x2), some (.inl x3), u4] [] h Q := by
  refine Wb.br (fun _ _ => b_Land_poorerLetters_79 (A0.o) (A0.a12 g0) (A0.a12 g1)) (fun c => ?_) (fun c => ?_)
  · have c : (decide ((h.1 (a0 + 7) x2.toNatClampNeg) < (h.1 (a0 + 7) x3.toNatClampNeg))) = true := by first | exact c | (simp only [Option.getD_some, A0.r12] at c; exact c)
    (first | exact (k1 (c_ltt c)) | (simp only [Option.getD_some, A0.r12]; exact (k1 (c_ltt c))))
  · have c : (decide ((h.1 (a0 + 7) x2.toNatClampNeg) < (h.1 (a0 + 7) x3.toNatClampNeg))) = false := by first | exact c | (simp only [Option.getD_some, A0.r12] at c; exact c)
    (first | exact (k2 (c_ltf c)) | (simp only [Option.getD_some, A0.r12]; exact (k2 (c_ltf c))))
theorem w_Land_poorerLetters_94 {rod : Nat → Nat × (Nat → Int32)} {d : Nat} {Q : Option MV → MH → Prop} {u0 : Option MV} {x1 : Int32} {x2 : Int32} {u3 : Option MV} {u4 : Option MV} {h : MH}  (g0 : okl [u0, some (.inl x1), some (.inl x2), u3, u4] 1 = true) (k : Wb rod d B_Land_poorerLetters 100 [u0, some (.inl (x1 ||| ((1 : Int32) <<< (x2 &&& 31)))), some (.inl x2), u3, u4] [] h Q) : Wb rod d B_Land_poorerLetters 94 [u0, some (.inl x1), some (.inl x2), u3, u4] [] h Q := by
  refine Wb.go (fun r hr q => b_Land_poorerLetters_94 g0 ?_) k
  (first | exact q | (simp only [Option.getD_some]; exact q))
theorem w_Land_poorerLetters_100 {rod : Nat → Nat × (Nat → Int32)} {d : Nat} {Q : Option MV → MH → Prop} {u0 : Option MV} {u1 : Option MV} {u2 : Option MV} {x3 : Int32} {u4 : Option MV} {h : MH}  (g0 : okl [u0, u1, u2, some (.inl x3), u4] 3 = true) (k : Wb rod d B_Land_poorerLetters 14 [u0, u1, u2, some (.inl (x3 + 1)), u4] [] h Q) : Wb rod d B_Land_poorerLetters 100 [u0, u1, u2, some (.inl x3), u4] [] h Q := by
  refine Wb.go (fun r hr q => b_Land_poorerLetters_100 g0 ?_) k
  (first | exact q | (simp only [Option.getD_some]; exact q))
theorem w_Land_poorerLetters_106 {rod : Nat → Nat × (Nat → Int32)} {d : Nat} {Q : Option MV → MH → Prop} {u0 : Option MV} {u1 : Option MV} {x2 : Int32} {u3 : Option MV} {u4 : Option MV} {h : MH}  (g0 : okl [u0, u1, some (.inl x2), u3, u4] 2 = true) (k : Wb rod d B_Land_poorerLetters 4 [u0, u1, some (.inl (x2 + 1)), u3, u4] [] h Q) : Wb rod d B_Land_poorerLetters 106 [u0, u1, some (.inl x2), u3, u4] [] h Q := by
  refine Wb.go (fun r hr q => b_Land_poorerLetters_106 g0 ?_) k
  (first | exact q | (simp only [Option.getD_some]; exact q))
theorem w_Land_poorerLetters_112 {rod : Nat → Nat × (Nat → Int32)} {d : Nat} {Q : Option MV → MH → Prop} {u0 : Option MV} {x1 : Int32} {u2 : Option MV} {u3 : Option MV} {u4 : Option MV} {h : MH}   (q : Q (some (.inl x1)) h) : Wb rod d B_Land_poorerLetters 112 [u0, some (.inl x1), u2, u3, u4] [] h Q := by
  refine Wb.ret (b_Land_poorerLetters_112) ?_
  (first | exact q | (simp only [Option.getD_some]; exact q))
theorem n_Main_within {rod : Nat → Nat × (Nat → Int32)} {d : Nat} {Q : Option MV → MH → Prop} {x1 : Int32} {x2 : Int32} {h : MH} (k : Wb rod d B_Main_within 0 [some (.inr (.inr (.inl (some 0)))), some (.inl x1), some (.inl x2), none] [] h Q) : Wc rod (d + 1) 180 [.inr (.inr (.inl (some 0))), .inl x1, .inl x2] h Q := Wc.en (fun _ _ => e_Main_within) k
theorem w_Main_within_0 {rod : Nat → Nat × (Nat → Int32)} {d : Nat} {Q : Option MV → MH → Prop} {u0 : Option MV} {x1 : Int32} {u2 : Option MV} {u3 : Option MV} {h : MH}   {Q1 : Option MV → MH → Prop} (c : Wc rod d 15 [.inl x1] h Q1) (k : ∀ r1 h2, Q1 r1 h2 → Wb rod d B_Main_within 4 [u0, some (.inl x1), u2, u3] (r1.toList ++ []) h2 Q) : Wb rod d B_Main_within 0 [u0, some (.inl x1), u2, u3] [] h Q := by
  refine Wb.call (fun _ _ _ _ => b_Main_within_0) (Q1 := Q1) ?_ ?_
  · (first | exact c | (simp only [Option.getD_some]; exact c))
  · (first | exact k | (simp only [Option.getD_some]; exact k))
theorem w_Main_within_4 {rod : Nat → Nat × (Nat → Int32)} {d : Nat} {Q : Option MV → MH → Prop} {u0 : Option MV} {u1 : Option MV} {u2 : Option MV} {u3 : Option MV} {xs0 : Int32} {h : MH}   (k1 : xs0.toInt = 0 → Wb rod d B_Main_within 18 [u0, u1, u2, u3] [] h Q) (k2 : ¬ xs0.toInt = 0 → Wb rod d B_Main_within 7 [u0, u1, u2, u3] [] h Q) : Wb rod d B_Main_within 4 [u0, u1, u2, u3] [.inl xs0] h Q := by
  refine Wb.br (fun _ _ => b_Main_within_4) (fun c => ?_) (fun c => ?_)
  · have c : (decide (xs0 = 0)) = true := by first | exact c | (simp only [Option.getD_some] at c; exact c)
    (first | exact (k1 (c_eqt c)) | (simp only [Option.getD_some]; exact (k1 (c_eqt c))))
  · have c : (decide (xs0 = 0)) = false := by first | exact c | (simp only [Option.getD_some] at c; exact c)
    (first | exact (k2 (c_eqf c)) | (simp only [Option.getD_some]; exact (k2 (c_eqf c))))
theorem w_Main_within_7 {rod : Nat → Nat × (Nat → Int32)} {d : Nat} {Q : Option MV → MH → Prop} {u0 : Option MV} {u1 : Option MV} {x2 : Int32} {u3 : Option MV} {h : MH}   (k1 : x2.toInt < 0 → Wb rod d B_Main_within 18 [u0, u1, some (.inl x2), u3] [] h Q) (k2 : ¬ x2.toInt < 0 → Wb rod d B_Main_within 11 [u0, u1, some (.inl x2), u3] [] h Q) : Wb rod d B_Main_within 7 [u0, u1, some (.inl x2), u3] [] h Q := by
  refine Wb.br (fun _ _ => b_Main_within_7) (fun c => ?_) (fun c => ?_)
  · have c : (decide (x2 < 0)) = true := by first | exact c | (simp only [Option.getD_some] at c; exact c)
    (first | exact (k1 (c_ltt c)) | (simp only [Option.getD_some]; exact (k1 (c_ltt c))))
  · have c : (decide (x2 < 0)) = false := by first | exact c | (simp only [Option.getD_some] at c; exact c)
    (first | exact (k2 (c_ltf c)) | (simp only [Option.getD_some]; exact (k2 (c_ltf c))))
theorem w_Main_within_11 {rod : Nat → Nat × (Nat → Int32)} {d : Nat} {Q : Option MV → MH → Prop} {u0 : Option MV} {u1 : Option MV} {x2 : Int32} {u3 : Option MV} {h : MH}   (k1 : x2.toInt ≤ 999 → Wb rod d B_Main_within 20 [u0, u1, some (.inl x2), u3] [] h Q) (k2 : ¬ x2.toInt ≤ 999 → Wb rod d B_Main_within 18 [u0, u1, some (.inl x2), u3] [] h Q) : Wb rod d B_Main_within 11 [u0, u1, some (.inl x2), u3] [] h Q := by
  refine Wb.br (fun _ _ => b_Main_within_11) (fun c => ?_) (fun c => ?_)
  · have c : (decide (x2 ≤ (999 : Int32))) = true := by first | exact c | (simp only [Option.getD_some] at c; exact c)
    (first | exact (k1 (c_let c)) | (simp only [Option.getD_some]; exact (k1 (c_let c))))
  · have c : (decide (x2 ≤ (999 : Int32))) = false := by first | exact c | (simp only [Option.getD_some] at c; exact c)
    (first | exact (k2 (c_lef c)) | (simp only [Option.getD_some]; exact (k2 (c_lef c))))
theorem w_Main_within_18 {rod : Nat → Nat × (Nat → Int32)} {d : Nat} {Q : Option MV → MH → Prop} {u0 : Option MV} {u1 : Option MV} {u2 : Option MV} {u3 : Option MV} {h : MH}   (q : Q (some (.inl (-1 : Int32))) h) : Wb rod d B_Main_within 18 [u0, u1, u2, u3] [] h Q := by
  refine Wb.ret (b_Main_within_18) ?_
  (first | exact q | (simp only [Option.getD_some]; exact q))
theorem w_Main_within_20 {rod : Nat → Nat × (Nat → Int32)} {d : Nat} {Q : Option MV → MH → Prop} {u0 : Option MV} {u1 : Option MV} {u2 : Option MV} {u3 : Option MV} {h : MH}  (g0 : okl [u0, u1, u2, u3] 3 = true) (k : Wb rod d B_Main_within 22 [u0, u1, u2, some (.inl (0 : Int32))] [] h Q) : Wb rod d B_Main_within 20 [u0, u1, u2, u3] [] h Q := by
  refine Wb.go (fun r hr q => b_Main_within_20 g0 ?_) k
  (first | exact q | (simp only [Option.getD_some]; exact q))
theorem w_Main_within_22 {rod : Nat → Nat × (Nat → Int32)} {d : Nat} {Q : Option MV → MH → Prop} {u0 : Option MV} {u1 : Option MV} {u2 : Option MV} {x3 : Int32} {h : MH}   (k1 : 20 < x3.toInt → Wb rod d B_Main_within 49 [u0, u1, u2, some (.inl x3)] [] h Q) (k2 : ¬ 20 < x3.toInt → Wb rod d B_Main_within 28 [u0, u1, u2, some (.inl x3)] [] h Q) : Wb rod d B_Main_within 22 [u0, u1, u2, some (.inl x3)] [] h Q := by
  refine Wb.br (fun _ _ => b_Main_within_22) (fun c => ?_) (fun c => ?_)
  · have c : (decide ((20 : Int32) < x3)) = true := by first | exact c | (simp only [Option.getD_some] at c; exact c)
    (first | exact (k1 (c_ltt c)) | (simp only [Option.getD_some]; exact (k1 (c_ltt c))))
  · have c : (decide ((20 : Int32) < x3)) = false := by first | exact c | (simp only [Option.getD_some] at c; exact c)
    (first | exact (k2 (c_ltf c)) | (simp only [Option.getD_some]; exact (k2 (c_ltf c))))
theorem w_Main_within_28 {rod : Nat → Nat × (Nat → Int32)} {d : Nat} {Q : Option MV → MH → Prop} {x1 : Int32} {u2 : Option MV} {x3 : Int32} {h : MH} (L : Lay h.2)  {Q1 : Option MV → MH → Prop} (c : Wc rod d 14 [.inr (.inr (.inl (some 82))), .inl x3, .inl x1] h Q1) (k : ∀ r1 h2, Q1 r1 h2 → Wb rod d B_Main_within 37 [some (.inr (.inr (.inl (some 0)))), some (.inl x1), u2, some (.inl x3)] (r1.toList ++ []) h2 Q) : Wb rod d B_Main_within 28 [some (.inr (.inr (.inl (some 0)))), some (.inl x1), u2, some (.inl x3)] [] h Q := by
  refine Wb.call (fun _ _ _ _ => b_Main_within_28 (Lay.o0 L) (Lay.k0_7 L)) (Q1 := Q1) ?_ ?_
  · (first | exact c | (simp only [Option.getD_some, (Lay.r0_7 L)]; exact c))
  · (first | exact k | (simp only [Option.getD_some, (Lay.r0_7 L)]; exact k))
theorem w_Main_within_37 {rod : Nat → Nat × (Nat → Int32)} {d : Nat} {Q : Option MV → MH → Prop} {u0 : Option MV} {u1 : Option MV} {x2 : Int32} {u3 : Option MV} {xs0 : Int32} {h : MH}   (k1 : xs0.toInt < x2.toInt → Wb rod d B_Main_within 43 [u0, u1, some (.inl x2), u3] [] h Q) (k2 : ¬ xs0.toInt < x2.toInt → Wb rod d B_Main_within 41 [u0, u1, some (.inl x2), u3] [] h Q) : Wb rod d B_Main_within 37 [u0, u1, some (.inl x2), u3] [.inl xs0] h Q := by
  refine Wb.br (fun _ _ => b_Main_within_37) (fun c => ?_) (fun c => ?_)
  · have c : (decide (xs0 < x2)) = true := by first | exact c | (simp only [Option.getD_some] at c; exact c)
    (first | exact (k1 (c_ltt c)) | (simp only [Option.getD_some]; exact (k1 (c_ltt c))))
  · have c : (decide (xs0 < x2)) = false := by first | exact c | (simp only [Option.getD_some] at c; exact c)
    (first | exact (k2 (c_ltf c)) | (simp only [Option.getD_some]; exact (k2 (c_ltf c))))
theorem w_Main_within_41 {rod : Nat → Nat × (Nat → Int32)} {d : Nat} {Q : Option MV → MH → Prop} {u0 : Option MV} {u1 : Option MV} {u2 : Option MV} {x3 : Int32} {h : MH}   (q : Q (some (.inl x3)) h) : Wb rod d B_Main_within 41 [u0, u1, u2, some (.inl x3)] [] h Q := by
  refine Wb.ret (b_Main_within_41) ?_
  (first | exact q | (simp only [Option.getD_some]; exact q))
theorem w_Main_within_43 {rod : Nat → Nat × (Nat → Int32)} {d : Nat} {Q : Option MV → MH → Prop} {u0 : Option MV} {u1 : Option MV} {u2 : Option MV} {x3 : Int32} {h : MH}  (g0 : okl [u0, u1, u2, some (.inl x3)] 3 = true) (k : Wb rod d B_Main_within 22 [u0, u1, u2, some (.inl (x3 + 1))] [] h Q) : Wb rod d B_Main_within 43 [u0, u1, u2, some (.inl x3)] [] h Q := by
  refine Wb.go (fun r hr q => b_Main_within_43 g0 ?_) k
  (first | exact q | (simp only [Option.getD_some]; exact q))
theorem w_Main_within_49 {rod : Nat → Nat × (Nat → Int32)} {d : Nat} {Q : Option MV → MH → Prop} {u0 : Option MV} {u1 : Option MV} {u2 : Option MV} {u3 : Option MV} {h : MH}   (q : Q (some (.inl (-1 : Int32))) h) : Wb rod d B_Main_within 49 [u0, u1, u2, u3] [] h Q := by
  refine Wb.ret (b_Main_within_49) ?_
  (first | exact q | (simp only [Option.getD_some]; exact q))
theorem n_Main_even {rod : Nat → Nat × (Nat → Int32)} {d : Nat} {Q : Option MV → MH → Prop} {x1 : Int32} {x2 : Int32} {h : MH} (k : Wb rod d B_Main_even 0 [some (.inr (.inr (.inl (some 0)))), some (.inl x1), some (.inl x2), none] [] h Q) : Wc rod (d + 1) 181 [.inr (.inr (.inl (some 0))), .inl x1, .inl x2] h Q := Wc.en (fun _ _ => e_Main_even) k
theorem w_Main_even_0 {rod : Nat → Nat × (Nat → Int32)} {d : Nat} {Q : Option MV → MH → Prop} {x1 : Int32} {u2 : Option MV} {u3 : Option MV} {h : MH} (L : Lay h.2)  {Q1 : Option MV → MH → Prop} (c : Wc rod d 127 [.inr (.inr (.inl (some 1))), .inl x1] h Q1) (k : ∀ r1 h2, Q1 r1 h2 → Wb rod d B_Main_even 8 [some (.inr (.inr (.inl (some 0)))), some (.inl x1), u2, u3] (r1.toList ++ []) h2 Q) : Wb rod d B_Main_even 0 [some (.inr (.inr (.inl (some 0)))), some (.inl x1), u2, u3] [] h Q := by
  refine Wb.call (fun _ _ _ _ => b_Main_even_0 (Lay.o0 L) (Lay.k0_0 L)) (Q1 := Q1) ?_ ?_
  · (first | exact c | (simp only [Option.getD_some, (Lay.r0_0 L)]; exact c))
  · (first | exact k | (simp only [Option.getD_some, (Lay.r0_0 L)]; exact k))
theorem w_Main_even_8 {rod : Nat → Nat × (Nat → Int32)} {d : Nat} {Q : Option MV → MH → Prop} {u0 : Option MV} {u1 : Option MV} {u2 : Option MV} {u3 : Option MV} {os0 : Option Nat} {h : MH}  (g0 : okl [u0, u1, u2, u3] 3 = true) (k1 : os0 = none → Wb rod d B_Main_even 21 [u0, u1, u2, some (.inr (.inr (.inl os0)))] [] h Q) (k2 : ∀ v, os0 = some v → Wb rod d B_Main_even 13 [u0, u1, u2, some (.inr (.inr (.inl os0)))] [] h Q) : Wb rod d B_Main_even 8 [u0, u1, u2, u3] [.inr (.inr (.inl os0))] h Q := by
  cases os0 with
  | none =>
    refine Wb.br (fun _ _ => b_Main_even_8 g0) (fun c => ?_) (fun c => ?_)
    · exact k1 rfl
    · simp at c
  | some v =>
    refine Wb.br (fun _ _ => b_Main_even_8 g0) (fun c => ?_) (fun c => ?_)
    · simp at c
    · exact k2 v rfl
theorem w_Main_even_13 {rod : Nat → Nat × (Nat → Int32)} {d : Nat} {Q : Option MV → MH → Prop} {u0 : Option MV} {u1 : Option MV} {x2 : Int32} {a3 : Nat} {h : MH} (A3 : BargA h.2 a3)  {Q1 : Option MV → MH → Prop} (c : Wc rod d 134 [.inr (.inr (.inl (some a3))), .inl x2] h Q1) (k : ∀ r1 h2, Q1 r1 h2 → Wb rod d B_Main_even 18 [u0, u1, some (.inl x2), some (.inr (.inr (.inl (some a3))))] (r1.toList ++ []) h2 Q) : Wb rod d B_Main_even 13 [u0, u1, some (.inl x2), some (.inr (.inr (.inl (some a3))))] [] h Q := by
  refine Wb.call (fun _ _ _ _ => b_Main_even_13 (A3.o)) (Q1 := Q1) ?_ ?_
  · (first | exact c | (simp only [Option.getD_some]; exact c))
  · (first | exact k | (simp only [Option.getD_some]; exact k))
theorem w_Main_even_18 {rod : Nat → Nat × (Nat → Int32)} {d : Nat} {Q : Option MV → MH → Prop} {u0 : Option MV} {u1 : Option MV} {u2 : Option MV} {u3 : Option MV} {xs0 : Int32} {h : MH}   (k1 : ¬ xs0.toInt = 0 → Wb rod d B_Main_even 27 [u0, u1, u2, u3] [] h Q) (k2 : xs0.toInt = 0 → Wb rod d B_Main_even 21 [u0, u1, u2, u3] [] h Q) : Wb rod d B_Main_even 18 [u0, u1, u2, u3] [.inl xs0] h Q := by
  refine Wb.br (fun _ _ => b_Main_even_18) (fun c => ?_) (fun c => ?_)
  · have c : (!(decide (xs0 = 0))) = true := by first | exact c | (simp only [Option.getD_some] at c; exact c)
    (first | exact (k1 (c_net c)) | (simp only [Option.getD_some]; exact (k1 (c_net c))))
  · have c : (!(decide (xs0 = 0))) = false := by first | exact c | (simp only [Option.getD_some] at c; exact c)
    (first | exact (k2 (c_nef c)) | (simp only [Option.getD_some]; exact (k2 (c_nef c))))
theorem w_Main_even_21 {rod : Nat → Nat × (Nat → Int32)} {d : Nat} {Q : Option MV → MH → Prop} {u0 : Option MV} {u1 : Option MV} {u2 : Option MV} {u3 : Option MV} {h : MH}   (k : Wb rod d B_Main_even 36 [u0, u1, u2, u3] [.inl (-1000 : Int32)] h Q) : Wb rod d B_Main_even 21 [u0, u1, u2, u3] [] h Q := by
  refine Wb.go (fun r hr q => b_Main_even_21 ?_) k
  (first | exact q | (simp only [Option.getD_some]; exact q))
theorem w_Main_even_27 {rod : Nat → Nat × (Nat → Int32)} {d : Nat} {Q : Option MV → MH → Prop} {u1 : Option MV} {x2 : Int32} {a3 : Nat} {h : MH} (L : Lay h.2)  {Q1 : Option MV → MH → Prop} (c : Wc rod d 182 [.inr (.inr (.inl (some 78))), .inr (.inr (.inl (some a3))), .inl x2] h Q1) (k : ∀ r1 h2, Q1 r1 h2 → Wb rod d B_Main_even 36 [some (.inr (.inr (.inl (some 0)))), u1, some (.inl x2), some (.inr (.inr (.inl (some a3))))] (r1.toList ++ []) h2 Q) : Wb rod d B_Main_even 27 [some (.inr (.inr (.inl (some 0)))), u1, some (.inl x2), some (.inr (.inr (.inl (some a3))))] [] h Q := by
  refine Wb.call (fun _ _ _ _ => b_Main_even_27 (Lay.o0 L) (Lay.k0_6 L)) (Q1 := Q1) ?_ ?_
  · (first | exact c | (simp only [Option.getD_some, (Lay.r0_6 L)]; exact c))
  · (first | exact k | (simp only [Option.getD_some, (Lay.r0_6 L)]; exact k))
theorem w_Main_even_36 {rod : Nat → Nat × (Nat → Int32)} {d : Nat} {Q : Option MV → MH → Prop} {u0 : Option MV} {u1 : Option MV} {u2 : Option MV} {u3 : Option MV} {xs0 : Int32} {h : MH}   (q : Q (some (.inl xs0)) h) : Wb rod d B_Main_even 36 [u0, u1, u2, u3] [.inl xs0] h Q := by
  refine Wb.ret (b_Main_even_36) ?_
  (first | exact q | (simp only [Option.getD_some]; exact q))
theorem n_Sharing_evenShare {rod : Nat → Nat × (Nat → Int32)} {d : Nat} {Q : Option MV → MH → Prop} {a1 : Nat} {x2 : Int32} {h : MH} (k : Wb rod d B_Sharing_evenShare 0 [some (.inr (.inr (.inl (some 78)))), some (.inr (.inr (.inl (some a1)))), some (.inl x2), none, none, none, none, none, none, none] [] h Q) : Wc rod (d + 1) 182 [.inr (.inr (.inl (some 78))), .inr (.inr (.inl (some a1))), .inl x2] h Q := Wc.en (fun _ _ => e_Sharing_evenShare) k
theorem w_Sharing_evenShare_0 {rod : Nat → Nat × (Nat → Int32)} {d : Nat} {Q : Option MV → MH → Prop} {a1 : Nat} {u2 : Option MV} {u3 : Option MV} {u4 : Option MV} {u5 : Option MV} {u6 : Option MV} {u7 : Option MV} {u8 : Option MV} {u9 : Option MV} {h : MH} (L : Lay h.2)  {Q1 : Option MV → MH → Prop} (c : Wc rod d 143 [.inr (.inr (.inl (some 78))), .inr (.inr (.inl (some a1)))] h Q1) (k : ∀ r1 h2, Q1 r1 h2 → Wb rod d B_Sharing_evenShare 5 [some (.inr (.inr (.inl (some 78)))), some (.inr (.inr (.inl (some a1)))), u2, u3, u4, u5, u6, u7, u8, u9] (r1.toList ++ []) h2 Q) : Wb rod d B_Sharing_evenShare 0 [some (.inr (.inr (.inl (some 78)))), some (.inr (.inr (.inl (some a1)))), u2, u3, u4, u5, u6, u7, u8, u9] [] h Q := by
  refine Wb.call (fun _ _ _ _ => b_Sharing_evenShare_0 (Lay.o78 L)) (Q1 := Q1) ?_ ?_
  · (first | exact c | (simp only [Option.getD_some]; exact c))
  · (first | exact k | (simp only [Option.getD_some]; exact k))
theorem w_Sharing_evenShare_5 {rod : Nat → Nat × (Nat → Int32)} {d : Nat} {Q : Option MV → MH → Prop} {u0 : Option MV} {a1 : Nat} {u2 : Option MV} {u3 : Option MV} {u4 : Option MV} {u5 : Option MV} {u6 : Option MV} {u7 : Option MV} {u8 : Option MV} {u9 : Option MV} {xs0 : Int32} {h : MH} (A1 : BargA h.2 a1) (g0 : okl [u0, some (.inr (.inr (.inl (some a1)))), u2, u3, u4, u5, u6, u7, u8, u9] 3 = true) {Q1 : Option MV → MH → Prop} (c : Wc rod d 128 [.inr (.inr (.inl (some a1)))] h Q1) (k : ∀ r1 h2, Q1 r1 h2 → Wb rod d B_Sharing_evenShare 11 [u0, some (.inr (.inr (.inl (some a1)))), u2, some (.inl xs0), u4, u5, u6, u7, u8, u9] (r1.toList ++ [.inr (.inr (.inl (some a1)))]) h2 Q) : Wb rod d B_Sharing_evenShare 5 [u0, some (.inr (.inr (.inl (some a1)))), u2, u3, u4, u5, u6, u7, u8, u9] [.inl xs0] h Q := by
  refine Wb.call (fun _ _ _ _ => b_Sharing_evenShare_5 g0 (A1.o)) (Q1 := Q1) ?_ ?_
  · (first | exact c | (simp only [Option.getD_some]; exact c))
  · (first | exact k | (simp only [Option.getD_some]; exact k))
theorem w_Sharing_evenShare_11 {rod : Nat → Nat × (Nat → Int32)} {d : Nat} {Q : Option MV → MH → Prop} {u0 : Option MV} {u1 : Option MV} {u2 : Option MV} {u3 : Option MV} {u4 : Option MV} {u5 : Option MV} {u6 : Option MV} {u7 : Option MV} {u8 : Option MV} {u9 : Option MV} {as0 : Nat} {xs1 : Int32} {h : MH} (As0 : BargA h.2 as0)  {Q1 : Option MV → MH → Prop} (c : Wc rod d 129 [.inr (.inr (.inl (some as0))), .inl xs1] h Q1) (k : ∀ r1 h2, Q1 r1 h2 → Wb rod d B_Sharing_evenShare 14 [u0, u1, u2, u3, u4, u5, u6, u7, u8, u9] (r1.toList ++ []) h2 Q) : Wb rod d B_Sharing_evenShare 11 [u0, u1, u2, u3, u4, u5, u6, u7, u8, u9] [.inl xs1, .inr (.inr (.inl (some as0)))] h Q := by
  refine Wb.call (fun _ _ _ _ => b_Sharing_evenShare_11 (As0.o)) (Q1 := Q1) ?_ ?_
  · (first | exact c | (simp only [Option.getD_some]; exact c))
  · (first | exact k | (simp only [Option.getD_some]; exact k))
theorem w_Sharing_evenShare_14 {rod : Nat → Nat × (Nat → Int32)} {d : Nat} {Q : Option MV → MH → Prop} {a1 : Nat} {x2 : Int32} {u3 : Option MV} {u4 : Option MV} {u5 : Option MV} {u6 : Option MV} {u7 : Option MV} {u8 : Option MV} {u9 : Option MV} {xs0 : Int32} {h : MH} (L : Lay h.2) (g0 : okl [some (.inr (.inr (.inl (some 78)))), some (.inr (.inr (.inl (some a1)))), some (.inl x2), u3, u4, u5, u6, u7, u8, u9] 4 = true) {Q1 : Option MV → MH → Prop} (c : Wc rod d 139 [.inr (.inr (.inl (some 78))), .inr (.inr (.inl (some a1))), .inl x2] h Q1) (k : ∀ r1 h2, Q1 r1 h2 → Wb rod d B_Sharing_evenShare 25 [some (.inr (.inr (.inl (some 78)))), some (.inr (.inr (.inl (some a1)))), some (.inl x2), u3, some (.inl xs0), some (.inl (0 : Int32)), u6, u7, u8, u9] (r1.toList ++ []) h2 Q) : Wb rod d B_Sharing_evenShare 14 [some (.inr (.inr (.inl (some 78)))), some (.inr (.inr (.inl (some a1)))), some (.inl x2), u3, u4, u5, u6, u7, u8, u9] [.inl xs0] h Q := by
  refine Wb.call (fun _ _ _ _ => b_Sharing_evenShare_14 g0 (Lay.o78 L)) (Q1 := Q1) ?_ ?_
  · (first | exact c | (simp only [Option.getD_some]; exact c))
  · (first | exact k | (simp only [Option.getD_some]; exact k))
theorem w_Sharing_evenShare_25 {rod : Nat → Nat × (Nat → Int32)} {d : Nat} {Q : Option MV → MH → Prop} {u0 : Option MV} {u1 : Option MV} {u2 : Option MV} {x3 : Int32} {u4 : Option MV} {u5 : Option MV} {u6 : Option MV} {u7 : Option MV} {u8 : Option MV} {u9 : Option MV} {xs0 : Int32} {h : MH}   {Q1 : Option MV → MH → Prop} (c : Wc rod d 183 [.inl xs0, .inl x3] h Q1) (k : ∀ r1 h2, Q1 r1 h2 → Wb rod d B_Sharing_evenShare 29 [u0, u1, u2, some (.inl x3), u4, u5, u6, u7, u8, u9] (r1.toList ++ []) h2 Q) : Wb rod d B_Sharing_evenShare 25 [u0, u1, u2, some (.inl x3), u4, u5, u6, u7, u8, u9] [.inl xs0] h Q := by
  refine Wb.call (fun _ _ _ _ => b_Sharing_evenShare_25) (Q1 := Q1) ?_ ?_
  · (first | exact c | (simp only [Option.getD_some]; exact c))
  · (first | exact k | (simp only [Option.getD_some]; exact k))
theorem w_Sharing_evenShare_29 {rod : Nat → Nat × (Nat → Int32)} {d : Nat} {Q : Option MV → MH → Prop} {u0 : Option MV} {u1 : Option MV} {u2 : Option MV} {u3 : Option MV} {u4 : Option MV} {u5 : Option MV} {u6 : Option MV} {u7 : Option MV} {u8 : Option MV} {u9 : Option MV} {xs0 : Int32} {h : MH}  (g0 : okl [u0, u1, u2, u3, u4, u5, u6, u7, u8, u9] 6 = true) (k : Wb rod d B_Sharing_evenShare 34 [u0, u1, u2, u3, u4, u5, some (.inl xs0), some (.inl (0 : Int32)), u8, u9] [] h Q) : Wb rod d B_Sharing_evenShare 29 [u0, u1, u2, u3, u4, u5, u6, u7, u8, u9] [.inl xs0] h Q := by
  refine Wb.go (fun r hr q => b_Sharing_evenShare_29 g0 ?_) k
  (first | exact q | (simp only [Option.getD_some]; exact q))
theorem w_Sharing_evenShare_34 {rod : Nat → Nat × (Nat → Int32)} {d : Nat} {Q : Option MV → MH → Prop} {u0 : Option MV} {a1 : Nat} {u2 : Option MV} {u3 : Option MV} {u4 : Option MV} {u5 : Option MV} {u6 : Option MV} {x7 : Int32} {u8 : Option MV} {u9 : Option MV} {h : MH} (A1 : BargA h.2 a1)  (k1 : (h.1 a1 0).toInt ≤ x7.toInt → Wb rod d B_Sharing_evenShare 100 [u0, some (.inr (.inr (.inl (some a1)))), u2, u3, u4, u5, u6, some (.inl x7), u8, u9] [] h Q) (k2 : ¬ (h.1 a1 0).toInt ≤ x7.toInt → Wb rod d B_Sharing_evenShare 43 [u0, some (.inr (.inr (.inl (some a1)))), u2, u3, u4, u5, u6, some (.inl x7), u8, u9] [] h Q) : Wb rod d B_Sharing_evenShare 34 [u0, some (.inr (.inr (.inl (some a1)))), u2, u3, u4, u5, u6, some (.inl x7), u8, u9] [] h Q := by
  refine Wb.br (fun _ _ => b_Sharing_evenShare_34 (A1.o)) (fun c => ?_) (fun c => ?_)
  · have c : (decide ((h.1 a1 0) ≤ x7)) = true := by first | exact c | (simp only [Option.getD_some] at c; exact c)
    (first | exact (k1 (c_let c)) | (simp only [Option.getD_some]; exact (k1 (c_let c))))
  · have c : (decide ((h.1 a1 0) ≤ x7)) = false := by first | exact c | (simp only [Option.getD_some] at c; exact c)
    (first | exact (k2 (c_lef c)) | (simp only [Option.getD_some]; exact (k2 (c_lef c))))
theorem w_Sharing_evenShare_43 {rod : Nat → Nat × (Nat → Int32)} {d : Nat} {Q : Option MV → MH → Prop} {a1 : Nat} {u2 : Option MV} {u3 : Option MV} {u4 : Option MV} {u5 : Option MV} {u6 : Option MV} {x7 : Int32} {u8 : Option MV} {u9 : Option MV} {h : MH} (L : Lay h.2)  {Q1 : Option MV → MH → Prop} (c : Wc rod d 139 [.inr (.inr (.inl (some 78))), .inr (.inr (.inl (some a1))), .inl x7] h Q1) (k : ∀ r1 h2, Q1 r1 h2 → Wb rod d B_Sharing_evenShare 50 [some (.inr (.inr (.inl (some 78)))), some (.inr (.inr (.inl (some a1)))), u2, u3, u4, u5, u6, some (.inl x7), u8, u9] (r1.toList ++ []) h2 Q) : Wb rod d B_Sharing_evenShare 43 [some (.inr (.inr (.inl (some 78)))), some (.inr (.inr (.inl (some a1)))), u2, u3, u4, u5, u6, some (.inl x7), u8, u9] [] h Q := by
  refine Wb.call (fun _ _ _ _ => b_Sharing_evenShare_43 (Lay.o78 L)) (Q1 := Q1) ?_ ?_
  · (first | exact c | (simp only [Option.getD_some]; exact c))
  · (first | exact k | (simp only [Option.getD_some]; exact k))
theorem w_Sharing_evenShare_50 {rod : Nat → Nat × (Nat → Int32)} {d : Nat} {Q : Option MV → MH → Prop} {u0 : Option MV} {u1 : Option MV} {u2 : Option MV} {x3 : Int32} {u4 : Option MV} {u5 : Option MV} {u6 : Option MV} {u7 : Option MV} {u8 : Option MV} {u9 : Option MV} {xs0 : Int32} {h : MH}  (g0 : okl [u0, u1, u2, some (.inl x3), u4, u5, u6, u7, u8, u9] 8 = true) {Q1 : Option MV → MH → Prop} (c : Wc rod d 183 [.inl xs0, .inl x3] h Q1) (k : ∀ r1 h2, Q1 r1 h2 → Wb rod d B_Sharing_evenShare 58 [u0, u1, u2, some (.inl x3), u4, u5, u6, u7, some (.inl xs0), u9] (r1.toList ++ []) h2 Q) : Wb rod d B_Sharing_evenShare 50 [u0, u1, u2, some (.inl x3), u4, u5, u6, u7, u8, u9] [.inl xs0] h Q := by
  refine Wb.call (fun _ _ _ _ => b_Sharing_evenShare_50 g0) (Q1 := Q1) ?_ ?_
  · (first | exact c | (simp only [Option.getD_some]; exact c))
  · (first | exact k | (simp only [Option.getD_some]; exact k))
theorem w_Sharing_evenShare_58 {rod : Nat → Nat × (Nat → Int32)} {d : Nat} {Q : Option MV → MH → Prop} {u0 : Option MV} {u1 : Option MV} {u2 : Option MV} {x3 : Int32} {x4 : Int32} {u5 : Option MV} {u6 : Option MV} {u7 : Option MV} {x8 : Int32} {u9 : Option MV} {xs0 : Int32} {h : MH}   {Q1 : Option MV → MH → Prop} (c : Wc rod d 184 [.inl x8, .inl x3] h Q1) (k : ∀ r1 h2, Q1 r1 h2 → Wb rod d B_Sharing_evenShare 68 [u0, u1, u2, some (.inl x3), some (.inl x4), u5, u6, u7, some (.inl x8), some (.inl xs0)] (r1.toList ++ [.inl x4]) h2 Q) : Wb rod d B_Sharing_evenShare 58 [u0, u1, u2, some (.inl x3), some (.inl x4), u5, u6, u7, some (.inl x8), u9] [.inl xs0] h Q := by
  refine Wb.call (fun _ _ _ _ => b_Sharing_evenShare_58) (Q1 := Q1) ?_ ?_
  · (first | exact c | (simp only [Option.getD_some]; exact c))
  · (first | exact k | (simp only [Option.getD_some]; exact k))
theorem w_Sharing_evenShare_68 {rod : Nat → Nat × (Nat → Int32)} {d : Nat} {Q : Option MV → MH → Prop} {u0 : Option MV} {u1 : Option MV} {u2 : Option MV} {u3 : Option MV} {u4 : Option MV} {u5 : Option MV} {x6 : Int32} {u7 : Option MV} {u8 : Option MV} {x9 : Int32} {xs0 : Int32} {xs1 : Int32} {h : MH}  (g0 : okl [u0, u1, u2, u3, u4, u5, some (.inl x6), u7, u8, some (.inl x9)] 4 = true) (k1 : x6.toInt < x9.toInt → Wb rod d B_Sharing_evenShare 91 [u0, u1, u2, u3, some (.inl (xs0 - xs1)), u5, some (.inl x6), u7, u8, some (.inl x9)] [] h Q) (k2 : ¬ x6.toInt < x9.toInt → Wb rod d B_Sharing_evenShare 78 [u0, u1, u2, u3, some (.inl (xs0 - xs1)), u5, some (.inl x6), u7, u8, some (.inl x9)] [] h Q) : Wb rod d B_Sharing_evenShare 68 [u0, u1, u2, u3, u4, u5, some (.inl x6), u7, u8, some (.inl x9)] [.inl xs1, .inl xs0] h Q := by
  refine Wb.br (fun _ _ => b_Sharing_evenShare_68 g0) (fun c => ?_) (fun c => ?_)
  · have c : (decide (x6 < x9)) = true := by first | exact c | (simp only [Option.getD_some] at c; exact c)
    (first | exact (k1 (c_ltt c)) | (simp only [Option.getD_some]; exact (k1 (c_ltt c))))
  · have c : (decide (x6 < x9)) = false := by first | exact c | (simp only [Option.getD_some] at c; exact c)
    (first | exact (k2 (c_ltf c)) | (simp only [Option.getD_some]; exact (k2 (c_ltf c))))
theorem w_Sharing_evenShare_78 {rod : Nat → Nat × (Nat → Int32)} {d : Nat} {Q : Option MV → MH → Prop} {u0 : Option MV} {u1 : Option MV} {u2 : Option MV} {u3 : Option MV} {u4 : Option MV} {u5 : Option MV} {x6 : Int32} {u7 : Option MV} {u8 : Option MV} {x9 : Int32} {h : MH}   (k1 : ¬ x9.toInt = x6.toInt → Wb rod d B_Sharing_evenShare 94 [u0, u1, u2, u3, u4, u5, some (.inl x6), u7, u8, some (.inl x9)] [] h Q) (k2 : x9.toInt = x6.toInt → Wb rod d B_Sharing_evenShare 85 [u0, u1, u2, u3, u4, u5, some (.inl x6), u7, u8, some (.inl x9)] [] h Q) : Wb rod d B_Sharing_evenShare 78 [u0, u1, u2, u3, u4, u5, some (.inl x6), u7, u8, some (.inl x9)] [] h Q := by
  refine Wb.br (fun _ _ => b_Sharing_evenShare_78) (fun c => ?_) (fun c => ?_)
  · have c : (!(decide (x9 = x6))) = true := by first | exact c | (simp only [Option.getD_some] at c; exact c)
    (first | exact (k1 (c_net c)) | (simp only [Option.getD_some]; exact (k1 (c_net c))))
  · have c : (!(decide (x9 = x6))) = false := by first | exact c | (simp only [Option.getD_some] at c; exact c)
    (first | exact (k2 (c_nef c)) | (simp only [Option.getD_some]; exact (k2 (c_nef c))))
theorem w_Sharing_evenShare_85 {rod : Nat → Nat × (Nat → Int32)} {d : Nat} {Q : Option MV → MH → Prop} {u0 : Option MV} {u1 : Option MV} {x2 : Int32} {u3 : Option MV} {u4 : Option MV} {u5 : Option MV} {u6 : Option MV} {x7 : Int32} {u8 : Option MV} {u9 : Option MV} {h : MH}   (k1 : x2.toInt ≤ x7.toInt → Wb rod d B_Sharing_evenShare 94 [u0, u1, some (.inl x2), u3, u4, u5, u6, some (.inl x7), u8, u9] [] h Q) (k2 : ¬ x2.toInt ≤ x7.toInt → Wb rod d B_Sharing_evenShare 91 [u0, u1, some (.inl x2), u3, u4, u5, u6, some (.inl x7), u8, u9] [] h Q) : Wb rod d B_Sharing_evenShare 85 [u0, u1, some (.inl x2), u3, u4, u5, u6, some (.inl x7), u8, u9] [] h Q := by
  refine Wb.br (fun _ _ => b_Sharing_evenShare_85) (fun c => ?_) (fun c => ?_)
  · have c : (decide (x2 ≤ x7)) = true := by first | exact c | (simp only [Option.getD_some] at c; exact c)
    (first | exact (k1 (c_let c)) | (simp only [Option.getD_some]; exact (k1 (c_let c))))
  · have c : (decide (x2 ≤ x7)) = false := by first | exact c | (simp only [Option.getD_some] at c; exact c)
    (first | exact (k2 (c_lef c)) | (simp only [Option.getD_some]; exact (k2 (c_lef c))))
theorem w_Sharing_evenShare_91 {rod : Nat → Nat × (Nat → Int32)} {d : Nat} {Q : Option MV → MH → Prop} {u0 : Option MV} {u1 : Option MV} {u2 : Option MV} {u3 : Option MV} {u4 : Option MV} {x5 : Int32} {u6 : Option MV} {u7 : Option MV} {u8 : Option MV} {u9 : Option MV} {h : MH}  (g0 : okl [u0, u1, u2, u3, u4, some (.inl x5), u6, u7, u8, u9] 5 = true) (k : Wb rod d B_Sharing_evenShare 94 [u0, u1, u2, u3, u4, some (.inl (x5 + 1)), u6, u7, u8, u9] [] h Q) : Wb rod d B_Sharing_evenShare 91 [u0, u1, u2, u3, u4, some (.inl x5), u6, u7, u8, u9] [] h Q := by
  refine Wb.go (fun r hr q => b_Sharing_evenShare_91 g0 ?_) k
  (first | exact q | (simp only [Option.getD_some]; exact q))
theorem w_Sharing_evenShare_94 {rod : Nat → Nat × (Nat → Int32)} {d : Nat} {Q : Option MV → MH → Prop} {u0 : Option MV} {u1 : Option MV} {u2 : Option MV} {u3 : Option MV} {u4 : Option MV} {u5 : Option MV} {u6 : Option MV} {x7 : Int32} {u8 : Option MV} {u9 : Option MV} {h : MH}  (g0 : okl [u0, u1, u2, u3, u4, u5, u6, some (.inl x7), u8, u9] 7 = true) (k : Wb rod d B_Sharing_evenShare 34 [u0, u1, u2, u3, u4, u5, u6, some (.inl (x7 + 1)), u8, u9] [] h Q) : Wb rod d B_Sharing_evenShare 94 [u0, u1, u2, u3, u4, u5, u6, some (.inl x7), u8, u9] [] h Q := by
  refine Wb.go (fun r hr q => b_Sharing_evenShare_94 g0 ?_) k
  (first | exact q | (simp only [Option.getD_some]; exact q))
theorem w_Sharing_evenShare_100 {rod : Nat → Nat × (Nat → Int32)} {d : Nat} {Q : Option MV → MH → Prop} {a1 : Nat} {x2 : Int32} {u3 : Option MV} {u4 : Option MV} {u5 : Option MV} {u6 : Option MV} {u7 : Option MV} {u8 : Option MV} {u9 : Option MV} {h : MH} (L : Lay h.2)  {Q1 : Option MV → MH → Prop} (c : Wc rod d 139 [.inr (.inr (.inl (some 78))), .inr (.inr (.inl (some a1))), .inl x2] h Q1) (k : ∀ r1 h2, Q1 r1 h2 → Wb rod d B_Sharing_evenShare 106 [some (.inr (.inr (.inl (some 78)))), some (.inr (.inr (.inl (some a1)))), some (.inl x2), u3, u4, u5, u6, u7, u8, u9] (r1.toList ++ []) h2 Q) : Wb rod d B_Sharing_evenShare 100 [some (.inr (.inr (.inl (some 78)))), some (.inr (.inr (.inl (some a1)))), some (.inl x2), u3, u4, u5, u6, u7, u8, u9] [] h Q := by
  refine Wb.call (fun _ _ _ _ => b_Sharing_evenShare_100 (Lay.o78 L)) (Q1 := Q1) ?_ ?_
  · (first | exact c | (simp only [Option.getD_some]; exact c))
  · (first | exact k | (simp only [Option.getD_some]; exact k))
theorem w_Sharing_evenShare_106 {rod : Nat → Nat × (Nat → Int32)} {d : Nat} {Q : Option MV → MH → Prop} {u0 : Option MV} {u1 : Option MV} {u2 : Option MV} {x3 : Int32} {u4 : Option MV} {u5 : Option MV} {u6 : Option MV} {u7 : Option MV} {u8 : Option MV} {u9 : Option MV} {xs0 : Int32} {h : MH}   {Q1 : Option MV → MH → Prop} (c : Wc rod d 184 [.inl xs0, .inl x3] h Q1) (k : ∀ r1 h2, Q1 r1 h2 → Wb rod d B_Sharing_evenShare 110 [u0, u1, u2, some (.inl x3), u4, u5, u6, u7, u8, u9] (r1.toList ++ []) h2 Q) : Wb rod d B_Sharing_evenShare 106 [u0, u1, u2, some (.inl x3), u4, u5, u6, u7, u8, u9] [.inl xs0] h Q := by
  refine Wb.call (fun _ _ _ _ => b_Sharing_evenShare_106) (Q1 := Q1) ?_ ?_
  · (first | exact c | (simp only [Option.getD_some]; exact c))
  · (first | exact k | (simp only [Option.getD_some]; exact k))
theorem w_Sharing_evenShare_110 {rod : Nat → Nat × (Nat → Int32)} {d : Nat} {Q : Option MV → MH → Prop} {u0 : Option MV} {u1 : Option MV} {u2 : Option MV} {u3 : Option MV} {x4 : Int32} {x5 : Int32} {u6 : Option MV} {u7 : Option MV} {u8 : Option MV} {u9 : Option MV} {xs0 : Int32} {h : MH}   (k1 : x4.toInt ≤ x5.toInt → Wb rod d B_Sharing_evenShare 121 [u0, u1, u2, u3, some (.inl x4), some (.inl x5), u6, u7, u8, u9] [.inl xs0] h Q) (k2 : ¬ x4.toInt ≤ x5.toInt → Wb rod d B_Sharing_evenShare 117 [u0, u1, u2, u3, some (.inl x4), some (.inl x5), u6, u7, u8, u9] [.inl xs0] h Q) : Wb rod d B_Sharing_evenShare 110 [u0, u1, u2, u3, some (.inl x4), some (.inl x5), u6, u7, u8, u9] [.inl xs0] h Q := by
  refine Wb.br (fun _ _ => b_Sharing_evenShare_110) (fun c => ?_) (fun c => ?_)
  · have c : (decide (x4 ≤ x5)) = true := by first | exact c | (simp only [Option.getD_some] at c; exact c)
    (first | exact (k1 (c_let c)) | (simp only [Option.getD_some]; exact (k1 (c_let c))))
  · have c : (decide (x4 ≤ x5)) = false := by first | exact c | (simp only [Option.getD_some] at c; exact c)
    (first | exact (k2 (c_lef c)) | (simp only [Option.getD_some]; exact (k2 (c_lef c))))
theorem w_Sharing_evenShare_117 {rod : Nat → Nat × (Nat → Int32)} {d : Nat} {Q : Option MV → MH → Prop} {u0 : Option MV} {u1 : Option MV} {u2 : Option MV} {u3 : Option MV} {u4 : Option MV} {u5 : Option MV} {u6 : Option MV} {u7 : Option MV} {u8 : Option MV} {u9 : Option MV} {xs0 : Int32} {h : MH}   (k : Wb rod d B_Sharing_evenShare 122 [u0, u1, u2, u3, u4, u5, u6, u7, u8, u9] [.inl (1 : Int32), .inl xs0] h Q) : Wb rod d B_Sharing_evenShare 117 [u0, u1, u2, u3, u4, u5, u6, u7, u8, u9] [.inl xs0] h Q := by
  refine Wb.go (fun r hr q => b_Sharing_evenShare_117 ?_) k
  (first | exact q | (simp only [Option.getD_some]; exact q))
theorem w_Sharing_evenShare_121 {rod : Nat → Nat × (Nat → Int32)} {d : Nat} {Q : Option MV → MH → Prop} {u0 : Option MV} {u1 : Option MV} {u2 : Option MV} {u3 : Option MV} {u4 : Option MV} {u5 : Option MV} {u6 : Option MV} {u7 : Option MV} {u8 : Option MV} {u9 : Option MV} {xs0 : Int32} {h : MH}   (k : Wb rod d B_Sharing_evenShare 122 [u0, u1, u2, u3, u4, u5, u6, u7, u8, u9] [.inl (0 : Int32), .inl xs0] h Q) : Wb rod d B_Sharing_evenShare 121 [u0, u1, u2, u3, u4, u5, u6, u7, u8, u9] [.inl xs0] h Q := by
  refine Wb.go (fun r hr q => b_Sharing_evenShare_121 ?_) k
  (first | exact q | (simp only [Option.getD_some]; exact q))
theorem w_Sharing_evenShare_122 {rod : Nat → Nat × (Nat → Int32)} {d : Nat} {Q : Option MV → MH → Prop} {u0 : Option MV} {u1 : Option MV} {u2 : Option MV} {u3 : Option MV} {u4 : Option MV} {u5 : Option MV} {u6 : Option MV} {u7 : Option MV} {u8 : Option MV} {u9 : Option MV} {xs0 : Int32} {xs1 : Int32} {h : MH}   (q : Q (some (.inl (xs0 + xs1))) h) : Wb rod d B_Sharing_evenShare 122 [u0, u1, u2, u3, u4, u5, u6, u7, u8, u9] [.inl xs1, .inl xs0] h Q := by
  refine Wb.ret (b_Sharing_evenShare_122) ?_
  (first | exact q | (simp only [Option.getD_some]; exact q))
theorem n_Math_floorMod {rod : Nat → Nat × (Nat → Int32)} {d : Nat} {Q : Option MV → MH → Prop} {x0 : Int32} {x1 : Int32} {h : MH} (k : Wb rod d B_Math_floorMod 0 [some (.inl x0), some (.inl x1), none] [] h Q) : Wc rod (d + 1) 183 [.inl x0, .inl x1] h Q := Wc.en (fun _ _ => e_Math_floorMod) k
theorem w_Math_floorMod_0 {rod : Nat → Nat × (Nat → Int32)} {d : Nat} {Q : Option MV → MH → Prop} {x0 : Int32} {x1 : Int32} {u2 : Option MV} {h : MH}  (g0 : x1 ≠ 0) (k1 : 0 ≤ (x0 ^^^ x1).toInt → Wb rod d B_Math_floorMod 18 [some (.inl x0), some (.inl x1), some (.inl (x0 - x0 / x1 * x1))] [] h Q) (k2 : ¬ 0 ≤ (x0 ^^^ x1).toInt → Wb rod d B_Math_floorMod 10 [some (.inl x0), some (.inl x1), some (.inl (x0 - x0 / x1 * x1))] [] h Q) : Wb rod d B_Math_floorMod 0 [some (.inl x0), some (.inl x1), u2] [] h Q := by
  refine Wb.br (fun _ _ => b_Math_floorMod_0 (ndec g0)) (fun c => ?_) (fun c => ?_)
  · have c : (decide (0 ≤ (x0 ^^^ x1))) = true := by first | exact c | (simp only [Option.getD_some] at c; exact c)
    (first | exact (k1 (c_let c)) | (simp only [Option.getD_some]; exact (k1 (c_let c))))
  · have c : (decide (0 ≤ (x0 ^^^ x1))) = false := by first | exact c | (simp only [Option.getD_some] at c; exact c)
    (first | exact (k2 (c_lef c)) | (simp only [Option.getD_some]; exact (k2 (c_lef c))))
theorem w_Math_floorMod_10 {rod : Nat → Nat × (Nat → Int32)} {d : Nat} {Q : Option MV → MH → Prop} {u0 : Option MV} {u1 : Option MV} {x2 : Int32} {h : MH}   (k1 : x2.toInt = 0 → Wb rod d B_Math_floorMod 18 [u0, u1, some (.inl x2)] [] h Q) (k2 : ¬ x2.toInt = 0 → Wb rod d B_Math_floorMod 14 [u0, u1, some (.inl x2)] [] h Q) : Wb rod d B_Math_floorMod 10 [u0, u1, some (.inl x2)] [] h Q := by
  refine Wb.br (fun _ _ => b_Math_floorMod_10) (fun c => ?_) (fun c => ?_)
  · have c : (decide (x2 = 0)) = true := by first | exact c | (simp only [Option.getD_some] at c; exact c)
    (first | exact (k1 (c_eqt c)) | (simp only [Option.getD_some]; exact (k1 (c_eqt c))))
  · have c : (decide (x2 = 0)) = false := by first | exact c | (simp only [Option.getD_some] at c; exact c)
    (first | exact (k2 (c_eqf c)) | (simp only [Option.getD_some]; exact (k2 (c_eqf c))))
theorem w_Math_floorMod_14 {rod : Nat → Nat × (Nat → Int32)} {d : Nat} {Q : Option MV → MH → Prop} {u0 : Option MV} {x1 : Int32} {x2 : Int32} {h : MH}   (q : Q (some (.inl (x2 + x1))) h) : Wb rod d B_Math_floorMod 14 [u0, some (.inl x1), some (.inl x2)] [] h Q := by
  refine Wb.ret (b_Math_floorMod_14) ?_
  (first | exact q | (simp only [Option.getD_some]; exact q))
theorem w_Math_floorMod_18 {rod : Nat → Nat × (Nat → Int32)} {d : Nat} {Q : Option MV → MH → Prop} {u0 : Option MV} {u1 : Option MV} {x2 : Int32} {h : MH}   (q : Q (some (.inl x2)) h) : Wb rod d B_Math_floorMod 18 [u0, u1, some (.inl x2)] [] h Q := by
  refine Wb.ret (b_Math_floorMod_18) ?_
  (first | exact q | (simp only [Option.getD_some]; exact q))
theorem n_Math_floorDiv {rod : Nat → Nat × (Nat → Int32)} {d : Nat} {Q : Option MV → MH → Prop} {x0 : Int32} {x1 : Int32} {h : MH} (k : Wb rod d B_Math_floorDiv 0 [some (.inl x0), some (.inl x1), none] [] h Q) : Wc rod (d + 1) 184 [.inl x0, .inl x1] h Q := Wc.en (fun _ _ => e_Math_floorDiv) k
theorem w_Math_floorDiv_0 {rod : Nat → Nat × (Nat → Int32)} {d : Nat} {Q : Option MV → MH → Prop} {x0 : Int32} {x1 : Int32} {u2 : Option MV} {h : MH}  (g0 : x1 ≠ 0) (k1 : 0 ≤ (x0 ^^^ x1).toInt → Wb rod d B_Math_floorDiv 21 [some (.inl x0), some (.inl x1), some (.inl (x0 / x1))] [] h Q) (k2 : ¬ 0 ≤ (x0 ^^^ x1).toInt → Wb rod d B_Math_floorDiv 10 [some (.inl x0), some (.inl x1), some (.inl (x0 / x1))] [] h Q) : Wb rod d B_Math_floorDiv 0 [some (.inl x0), some (.inl x1), u2] [] h Q := by
  refine Wb.br (fun _ _ => b_Math_floorDiv_0 (ndec g0)) (fun c => ?_) (fun c => ?_)
  · have c : (decide (0 ≤ (x0 ^^^ x1))) = true := by first | exact c | (simp only [Option.getD_some] at c; exact c)
    (first | exact (k1 (c_let c)) | (simp only [Option.getD_some]; exact (k1 (c_let c))))
  · have c : (decide (0 ≤ (x0 ^^^ x1))) = false := by first | exact c | (simp only [Option.getD_some] at c; exact c)
    (first | exact (k2 (c_lef c)) | (simp only [Option.getD_some]; exact (k2 (c_lef c))))
theorem w_Math_floorDiv_10 {rod : Nat → Nat × (Nat → Int32)} {d : Nat} {Q : Option MV → MH → Prop} {x0 : Int32} {x1 : Int32} {x2 : Int32} {h : MH}   (k1 : (x2 * x1).toInt = x0.toInt → Wb rod d B_Math_floorDiv 21 [some (.inl x0), some (.inl x1), some (.inl x2)] [] h Q) (k2 : ¬ (x2 * x1).toInt = x0.toInt → Wb rod d B_Math_floorDiv 17 [some (.inl x0), some (.inl x1), some (.inl x2)] [] h Q) : Wb rod d B_Math_floorDiv 10 [some (.inl x0), some (.inl x1), some (.inl x2)] [] h Q := by
  refine Wb.br (fun _ _ => b_Math_floorDiv_10) (fun c => ?_) (fun c => ?_)
  · have c : (decide ((x2 * x1) = x0)) = true := by first | exact c | (simp only [Option.getD_some] at c; exact c)
    (first | exact (k1 (c_eqt c)) | (simp only [Option.getD_some]; exact (k1 (c_eqt c))))
  · have c : (decide ((x2 * x1) = x0)) = false := by first | exact c | (simp only [Option.getD_some] at c; exact c)
    (first | exact (k2 (c_eqf c)) | (simp only [Option.getD_some]; exact (k2 (c_eqf c))))
theorem w_Math_floorDiv_17 {rod : Nat → Nat × (Nat → Int32)} {d : Nat} {Q : Option MV → MH → Prop} {u0 : Option MV} {u1 : Option MV} {x2 : Int32} {h : MH}   (q : Q (some (.inl (x2 - (1 : Int32)))) h) : Wb rod d B_Math_floorDiv 17 [u0, u1, some (.inl x2)] [] h Q := by
  refine Wb.ret (b_Math_floorDiv_17) ?_
  (first | exact q | (simp only [Option.getD_some]; exact q))
theorem w_Math_floorDiv_21 {rod : Nat → Nat × (Nat → Int32)} {d : Nat} {Q : Option MV → MH → Prop} {u0 : Option MV} {u1 : Option MV} {x2 : Int32} {h : MH}   (q : Q (some (.inl x2)) h) : Wb rod d B_Math_floorDiv 21 [u0, u1, some (.inl x2)] [] h Q := by
  refine Wb.ret (b_Math_floorDiv_21) ?_
  (first | exact q | (simp only [Option.getD_some]; exact q))
theorem n_Main_count {rod : Nat → Nat × (Nat → Int32)} {d : Nat} {Q : Option MV → MH → Prop} {x1 : Int32} {h : MH} (k : Wb rod d B_Main_count 0 [some (.inr (.inr (.inl (some 0)))), some (.inl x1)] [] h Q) : Wc rod (d + 1) 185 [.inr (.inr (.inl (some 0))), .inl x1] h Q := Wc.en (fun _ _ => e_Main_count) k
theorem w_Main_count_0 {rod : Nat → Nat × (Nat → Int32)} {d : Nat} {Q : Option MV → MH → Prop} {u0 : Option MV} {x1 : Int32} {h : MH}   (k1 : x1.toInt < 0 → Wb rod d B_Main_count 9 [u0, some (.inl x1)] [] h Q) (k2 : ¬ x1.toInt < 0 → Wb rod d B_Main_count 4 [u0, some (.inl x1)] [] h Q) : Wb rod d B_Main_count 0 [u0, some (.inl x1)] [] h Q := by
  refine Wb.br (fun _ _ => b_Main_count_0) (fun c => ?_) (fun c => ?_)
  · have c : (decide (x1 < 0)) = true := by first | exact c | (simp only [Option.getD_some] at c; exact c)
    (first | exact (k1 (c_ltt c)) | (simp only [Option.getD_some]; exact (k1 (c_ltt c))))
  · have c : (decide (x1 < 0)) = false := by first | exact c | (simp only [Option.getD_some] at c; exact c)
    (first | exact (k2 (c_ltf c)) | (simp only [Option.getD_some]; exact (k2 (c_ltf c))))
theorem w_Main_count_4 {rod : Nat → Nat × (Nat → Int32)} {d : Nat} {Q : Option MV → MH → Prop} {u0 : Option MV} {x1 : Int32} {h : MH}   (k1 : x1.toInt < 4 → Wb rod d B_Main_count 14 [u0, some (.inl x1)] [] h Q) (k2 : ¬ x1.toInt < 4 → Wb rod d B_Main_count 9 [u0, some (.inl x1)] [] h Q) : Wb rod d B_Main_count 4 [u0, some (.inl x1)] [] h Q := by
  refine Wb.br (fun _ _ => b_Main_count_4) (fun c => ?_) (fun c => ?_)
  · have c : (decide (x1 < (4 : Int32))) = true := by first | exact c | (simp only [Option.getD_some] at c; exact c)
    (first | exact (k1 (c_ltt c)) | (simp only [Option.getD_some]; exact (k1 (c_ltt c))))
  · have c : (decide (x1 < (4 : Int32))) = false := by first | exact c | (simp only [Option.getD_some] at c; exact c)
    (first | exact (k2 (c_ltf c)) | (simp only [Option.getD_some]; exact (k2 (c_ltf c))))
theorem w_Main_count_9 {rod : Nat → Nat × (Nat → Int32)} {d : Nat} {Q : Option MV → MH → Prop} {u0 : Option MV} {u1 : Option MV} {h : MH}   (k : Wb rod d B_Main_count 23 [u0, u1] [.inl (-2 : Int32)] h Q) : Wb rod d B_Main_count 9 [u0, u1] [] h Q := by
  refine Wb.go (fun r hr q => b_Main_count_9 ?_) k
  (first | exact q | (simp only [Option.getD_some]; exact q))
theorem w_Main_count_14 {rod : Nat → Nat × (Nat → Int32)} {d : Nat} {Q : Option MV → MH → Prop} {x1 : Int32} {h : MH} (L : Lay h.2) (g0 : 0 ≤ x1.toInt ∧ x1.toInt < 4) (k : Wb rod d B_Main_count 23 [some (.inr (.inr (.inl (some 0)))), some (.inl x1)] [.inl (h.1 3 x1.toNatClampNeg)] h Q) : Wb rod d B_Main_count 14 [some (.inr (.inr (.inl (some 0)))), some (.inl x1)] [] h Q := by
  refine Wb.go (fun r hr q => b_Main_count_14 (Lay.o0 L) (Lay.k0_0 L) (by simp only [Option.getD_some, (Lay.r0_0 L), (Lay.r1_4 L)]; exact gA_of (L.1 3 _ rfl) (inB_of (And.left g0) (by have q := And.right g0; omega))) ?_) k
  (first | exact q | (simp only [Option.getD_some, (Lay.r0_0 L), (Lay.r1_4 L)]; exact q))
theorem w_Main_count_23 {rod : Nat → Nat × (Nat → Int32)} {d : Nat} {Q : Option MV → MH → Prop} {u0 : Option MV} {u1 : Option MV} {xs0 : Int32} {h : MH}   (q : Q (some (.inl xs0)) h) : Wb rod d B_Main_count 23 [u0, u1] [.inl xs0] h Q := by
  refine Wb.ret (b_Main_count_23) ?_
  (first | exact q | (simp only [Option.getD_some]; exact q))
theorem n_Main_image {rod : Nat → Nat × (Nat → Int32)} {d : Nat} {Q : Option MV → MH → Prop} {x1 : Int32} {h : MH} (k : Wb rod d B_Main_image 0 [some (.inr (.inr (.inl (some 0)))), some (.inl x1)] [] h Q) : Wc rod (d + 1) 186 [.inr (.inr (.inl (some 0))), .inl x1] h Q := Wc.en (fun _ _ => e_Main_image) k
theorem w_Main_image_0 {rod : Nat → Nat × (Nat → Int32)} {d : Nat} {Q : Option MV → MH → Prop} {u0 : Option MV} {x1 : Int32} {h : MH}   (k1 : x1.toInt < 0 → Wb rod d B_Main_image 9 [u0, some (.inl x1)] [] h Q) (k2 : ¬ x1.toInt < 0 → Wb rod d B_Main_image 4 [u0, some (.inl x1)] [] h Q) : Wb rod d B_Main_image 0 [u0, some (.inl x1)] [] h Q := by
  refine Wb.br (fun _ _ => b_Main_image_0) (fun c => ?_) (fun c => ?_)
  · have c : (decide (x1 < 0)) = true := by first | exact c | (simp only [Option.getD_some] at c; exact c)
    (first | exact (k1 (c_ltt c)) | (simp only [Option.getD_some]; exact (k1 (c_ltt c))))
  · have c : (decide (x1 < 0)) = false := by first | exact c | (simp only [Option.getD_some] at c; exact c)
    (first | exact (k2 (c_ltf c)) | (simp only [Option.getD_some]; exact (k2 (c_ltf c))))
theorem w_Main_image_4 {rod : Nat → Nat × (Nat → Int32)} {d : Nat} {Q : Option MV → MH → Prop} {u0 : Option MV} {x1 : Int32} {h : MH}   (k1 : x1.toInt < 3 → Wb rod d B_Main_image 11 [u0, some (.inl x1)] [] h Q) (k2 : ¬ x1.toInt < 3 → Wb rod d B_Main_image 9 [u0, some (.inl x1)] [] h Q) : Wb rod d B_Main_image 4 [u0, some (.inl x1)] [] h Q := by
  refine Wb.br (fun _ _ => b_Main_image_4) (fun c => ?_) (fun c => ?_)
  · have c : (decide (x1 < (3 : Int32))) = true := by first | exact c | (simp only [Option.getD_some] at c; exact c)
    (first | exact (k1 (c_ltt c)) | (simp only [Option.getD_some]; exact (k1 (c_ltt c))))
  · have c : (decide (x1 < (3 : Int32))) = false := by first | exact c | (simp only [Option.getD_some] at c; exact c)
    (first | exact (k2 (c_ltf c)) | (simp only [Option.getD_some]; exact (k2 (c_ltf c))))
theorem w_Main_image_9 {rod : Nat → Nat × (Nat → Int32)} {d : Nat} {Q : Option MV → MH → Prop} {u0 : Option MV} {u1 : Option MV} {h : MH}   (q : Q (some (.inl (0 : Int32))) h) : Wb rod d B_Main_image 9 [u0, u1] [] h Q := by
  refine Wb.ret (b_Main_image_9) ?_
  (first | exact q | (simp only [Option.getD_some]; exact q))
theorem w_Main_image_11 {rod : Nat → Nat × (Nat → Int32)} {d : Nat} {Q : Option MV → MH → Prop} {x1 : Int32} {h : MH} (L : Lay h.2) (g0 : 0 ≤ x1.toInt ∧ x1.toInt < 3) (k1 : (h.2.1 44 x1.toNatClampNeg) = none → Wb rod d B_Main_image 20 [some (.inr (.inr (.inl (some 0)))), some (.inl x1)] [] h Q) (k2 : ∀ v, (h.2.1 44 x1.toNatClampNeg) = some v → Wb rod d B_Main_image 33 [some (.inr (.inr (.inl (some 0)))), some (.inl x1)] [] h Q) : Wb rod d B_Main_image 11 [some (.inr (.inr (.inl (some 0)))), some (.inl x1)] [] h Q := by
  refine Wb.br (fun _ _ => b_Main_image_11 (Lay.o0 L) (Lay.a0_1 L g0)) (fun c => ?_) (fun c => ?_)
  · have c : ((h.2.1 44 x1.toNatClampNeg)).isSome = true := by first | exact c | (simp only [Option.getD_some, (Lay.r0_1 L)] at c; exact c)
    cases hv : (h.2.1 44 x1.toNatClampNeg) with
    | none => rw [hv] at c; exact absurd c (by decide)
    | some v => (first | exact (k2 v hv) | (simp only [Option.getD_some, (Lay.r0_1 L)]; exact (k2 v hv)))
  · have c : ((h.2.1 44 x1.toNatClampNeg)).isSome = false := by first | exact c | (simp only [Option.getD_some, (Lay.r0_1 L)] at c; exact c)
    cases hv : (h.2.1 44 x1.toNatClampNeg) with
    | none => (first | exact (k1 hv) | (simp only [Option.getD_some, (Lay.r0_1 L)]; exact (k1 hv)))
    | some v => rw [hv] at c; exact absurd c (by simp)
theorem w_Main_image_28 {rod : Nat → Nat × (Nat → Int32)} {d : Nat} {Q : Option MV → MH → Prop} {u0 : Option MV} {u1 : Option MV} {os0 : Option Nat} {xs1 : Int32} {h : MH}   {Q1 : Option MV → MH → Prop} (c : Wc rod d 1 [.inr (.inr (.inl (some 1)))] h Q1) (k : ∀ r1 h2, Q1 r1 h2 → Wb rod d B_Main_image 32 [u0, u1] (r1.toList ++ [.inr (.inr (.inl (some 1))), .inl xs1, .inr (.inr (.inl os0))]) h2 Q) : Wb rod d B_Main_image 28 [u0, u1] [.inr (.inr (.inl (some 1))), .inl xs1, .inr (.inr (.inl os0))] h Q := by
  refine Wb.call (fun _ _ _ _ => b_Main_image_28 rfl) (Q1 := Q1) ?_ ?_
  · (first | exact c | (simp only [Option.getD_some]; exact c))
  · (first | exact k | (simp only [Option.getD_some]; exact k))
theorem w_Main_image_33 {rod : Nat → Nat × (Nat → Int32)} {d : Nat} {Q : Option MV → MH → Prop} {x1 : Int32} {h : MH} (L : Lay h.2) (g0 : 0 ≤ x1.toInt ∧ x1.toInt < 3) (g1 : gO h (h.2.1 44 x1.toNatClampNeg) 18 = true) {Q1 : Option MV → MH → Prop} (c : Wc rod d 187 [.inr (.inr (.inl (h.2.1 44 x1.toNatClampNeg))), .inr (.inr (.inl (some 1)))] h Q1) (k : ∀ r1 h2, Q1 r1 h2 → Wb rod d B_Main_image 46 [some (.inr (.inr (.inl (some 0)))), some (.inl x1)] (r1.toList ++ []) h2 Q) : Wb rod d B_Main_image 33 [some (.inr (.inr (.inl (some 0)))), some (.inl x1)] [] h Q := by
  refine Wb.call (fun _ _ _ _ => b_Main_image_33 (Lay.o0 L) (Lay.a0_1 L g0) (by first | exact g1 | (simp only [Option.getD_some, (Lay.r0_1 L), (Lay.r0_0 L)]; exact g1))) (Q1 := Q1) ?_ ?_
  · (first | exact c | (simp only [Option.getD_some, (Lay.r0_1 L), (Lay.r0_0 L)]; exact c))
  · (first | exact k | (simp only [Option.getD_some, (Lay.r0_1 L), (Lay.r0_0 L)]; exact k))
theorem w_Main_image_46 {rod : Nat → Nat × (Nat → Int32)} {d : Nat} {Q : Option MV → MH → Prop} {u0 : Option MV} {u1 : Option MV} {h : MH}   (q : Q (some (.inl (1 : Int32))) h) : Wb rod d B_Main_image 46 [u0, u1] [] h Q := by
  refine Wb.ret (b_Main_image_46) ?_
  (first | exact q | (simp only [Option.getD_some]; exact q))
theorem n_Main_again {rod : Nat → Nat × (Nat → Int32)} {d : Nat} {Q : Option MV → MH → Prop} {x1 : Int32} {h : MH} (k : Wb rod d B_Main_again 0 [some (.inr (.inr (.inl (some 0)))), some (.inl x1)] [] h Q) : Wc rod (d + 1) 188 [.inr (.inr (.inl (some 0))), .inl x1] h Q := Wc.en (fun _ _ => e_Main_again) k
theorem w_Main_again_0 {rod : Nat → Nat × (Nat → Int32)} {d : Nat} {Q : Option MV → MH → Prop} {u0 : Option MV} {x1 : Int32} {h : MH}   (k1 : x1.toInt < 0 → Wb rod d B_Main_again 18 [u0, some (.inl x1)] [] h Q) (k2 : ¬ x1.toInt < 0 → Wb rod d B_Main_again 4 [u0, some (.inl x1)] [] h Q) : Wb rod d B_Main_again 0 [u0, some (.inl x1)] [] h Q := by
  refine Wb.br (fun _ _ => b_Main_again_0) (fun c => ?_) (fun c => ?_)
  · have c : (decide (x1 < 0)) = true := by first | exact c | (simp only [Option.getD_some] at c; exact c)
    (first | exact (k1 (c_ltt c)) | (simp only [Option.getD_some]; exact (k1 (c_ltt c))))
  · have c : (decide (x1 < 0)) = false := by first | exact c | (simp only [Option.getD_some] at c; exact c)
    (first | exact (k2 (c_ltf c)) | (simp only [Option.getD_some]; exact (k2 (c_ltf c))))
theorem w_Main_again_4 {rod : Nat → Nat × (Nat → Int32)} {d : Nat} {Q : Option MV → MH → Prop} {u0 : Option MV} {x1 : Int32} {h : MH}   (k1 : 3 ≤ x1.toInt → Wb rod d B_Main_again 18 [u0, some (.inl x1)] [] h Q) (k2 : ¬ 3 ≤ x1.toInt → Wb rod d B_Main_again 9 [u0, some (.inl x1)] [] h Q) : Wb rod d B_Main_again 4 [u0, some (.inl x1)] [] h Q := by
  refine Wb.br (fun _ _ => b_Main_again_4) (fun c => ?_) (fun c => ?_)
  · have c : (decide ((3 : Int32) ≤ x1)) = true := by first | exact c | (simp only [Option.getD_some] at c; exact c)
    (first | exact (k1 (c_let c)) | (simp only [Option.getD_some]; exact (k1 (c_let c))))
  · have c : (decide ((3 : Int32) ≤ x1)) = false := by first | exact c | (simp only [Option.getD_some] at c; exact c)
    (first | exact (k2 (c_lef c)) | (simp only [Option.getD_some]; exact (k2 (c_lef c))))
theorem w_Main_again_9 {rod : Nat → Nat × (Nat → Int32)} {d : Nat} {Q : Option MV → MH → Prop} {x1 : Int32} {h : MH} (L : Lay h.2) (g0 : 0 ≤ x1.toInt ∧ x1.toInt < 3) (k1 : (h.2.1 44 x1.toNatClampNeg) = none → Wb rod d B_Main_again 18 [some (.inr (.inr (.inl (some 0)))), some (.inl x1)] [] h Q) (k2 : ∀ v, (h.2.1 44 x1.toNatClampNeg) = some v → Wb rod d B_Main_again 20 [some (.inr (.inr (.inl (some 0)))), some (.inl x1)] [] h Q) : Wb rod d B_Main_again 9 [some (.inr (.inr (.inl (some 0)))), some (.inl x1)] [] h Q := by
  refine Wb.br (fun _ _ => b_Main_again_9 (Lay.o0 L) (Lay.a0_1 L g0)) (fun c => ?_) (fun c => ?_)
  · have c : ((h.2.1 44 x1.toNatClampNeg)).isSome = true := by first | exact c | (simp only [Option.getD_some, (Lay.r0_1 L)] at c; exact c)
    cases hv : (h.2.1 44 x1.toNatClampNeg) with
    | none => rw [hv] at c; exact absurd c (by decide)
    | some v => (first | exact (k2 v hv) | (simp only [Option.getD_some, (Lay.r0_1 L)]; exact (k2 v hv)))
  · have c : ((h.2.1 44 x1.toNatClampNeg)).isSome = false := by first | exact c | (simp only [Option.getD_some, (Lay.r0_1 L)] at c; exact c)
    cases hv : (h.2.1 44 x1.toNatClampNeg) with
    | none => (first | exact (k1 hv) | (simp only [Option.getD_some, (Lay.r0_1 L)]; exact (k1 hv)))
    | some v => rw [hv] at c; exact absurd c (by simp)
theorem w_Main_again_18 {rod : Nat → Nat × (Nat → Int32)} {d : Nat} {Q : Option MV → MH → Prop} {u0 : Option MV} {u1 : Option MV} {h : MH}   (q : Q (some (.inl (0 : Int32))) h) : Wb rod d B_Main_again 18 [u0, u1] [] h Q := by
  refine Wb.ret (b_Main_again_18) ?_
  (first | exact q | (simp only [Option.getD_some]; exact q))
theorem w_Main_again_20 {rod : Nat → Nat × (Nat → Int32)} {d : Nat} {Q : Option MV → MH → Prop} {x1 : Int32} {h : MH} (L : Lay h.2) (g0 : 0 ≤ x1.toInt ∧ x1.toInt < 3) {Q1 : Option MV → MH → Prop} (c : Wc rod d 187 [.inr (.inr (.inl (some 1))), .inr (.inr (.inl (h.2.1 44 x1.toNatClampNeg)))] h Q1) (k : ∀ r1 h2, Q1 r1 h2 → Wb rod d B_Main_again 33 [some (.inr (.inr (.inl (some 0)))), some (.inl x1)] (r1.toList ++ []) h2 Q) : Wb rod d B_Main_again 20 [some (.inr (.inr (.inl (some 0)))), some (.inl x1)] [] h Q := by
  refine Wb.call (fun _ _ _ _ => b_Main_again_20 (Lay.o0 L) (Lay.a0_1 L g0) (Lay.k0_0 L)) (Q1 := Q1) ?_ ?_
  · (first | exact c | (simp only [Option.getD_some, (Lay.r0_0 L), (Lay.r0_1 L)]; exact c))
  · (first | exact k | (simp only [Option.getD_some, (Lay.r0_0 L), (Lay.r0_1 L)]; exact k))
theorem w_Main_again_33 {rod : Nat → Nat × (Nat → Int32)} {d : Nat} {Q : Option MV → MH → Prop} {u0 : Option MV} {u1 : Option MV} {h : MH}   (q : Q (some (.inl (1 : Int32))) h) : Wb rod d B_Main_again 33 [u0, u1] [] h Q := by
  refine Wb.ret (b_Main_again_33) ?_
  (first | exact q | (simp only [Option.getD_some]; exact q))
theorem n_Model_feed {rod : Nat → Nat × (Nat → Int32)} {d : Nat} {Q : Option MV → MH → Prop} {x1 : Int32} {x2 : Int32} {x3 : Int32} {x4 : Int32} {x5 : Int32} {h : MH} (k : Wb rod d B_Model_feed 0 [some (.inr (.inr (.inl (some 84)))), some (.inl x1), some (.inl x2), some (.inl x3), some (.inl x4), some (.inl x5), none, none] [] h Q) : Wc rod (d + 1) 190 [.inr (.inr (.inl (some 84))), .inl x1, .inl x2, .inl x3, .inl x4, .inl x5] h Q := Wc.en (fun _ _ => e_Model_feed) k
theorem w_Model_feed_0 {rod : Nat → Nat × (Nat → Int32)} {d : Nat} {Q : Option MV → MH → Prop} {u1 : Option MV} {u2 : Option MV} {u3 : Option MV} {u4 : Option MV} {u5 : Option MV} {u6 : Option MV} {u7 : Option MV} {h : MH} (L : Lay h.2)  (k1 : ((h.1 85 (4 : Int32).toNatClampNeg) + (20 : Int32)).toInt ≤ 600 → Wb rod d B_Model_feed 17 [some (.inr (.inr (.inl (some 84)))), u1, u2, u3, u4, u5, u6, u7] [] h Q) (k2 : ¬ ((h.1 85 (4 : Int32).toNatClampNeg) + (20 : Int32)).toInt ≤ 600 → Wb rod d B_Model_feed 15 [some (.inr (.inr (.inl (some 84)))), u1, u2, u3, u4, u5, u6, u7] [] h Q) : Wb rod d B_Model_feed 0 [some (.inr (.inr (.inl (some 84)))), u1, u2, u3, u4, u5, u6, u7] [] h Q := by
  refine Wb.br (fun _ _ => b_Model_feed_0 (Lay.o84 L) (Lay.a84_0 L ⟨by decide, by decide⟩)) (fun c => ?_) (fun c => ?_)
  · have c : (decide (((h.1 85 (4 : Int32).toNatClampNeg) + (20 : Int32)) ≤ (600 : Int32))) = true := by first | exact c | (simp only [Option.getD_some, (Lay.r84_0 L)] at c; exact c)
    (first | exact (k1 (c_let c)) | (simp only [Option.getD_some, (Lay.r84_0 L)]; exact (k1 (c_let c))))
  · have c : (decide (((h.1 85 (4 : Int32).toNatClampNeg) + (20 : Int32)) ≤ (600 : Int32))) = false := by first | exact c | (simp only [Option.getD_some, (Lay.r84_0 L)] at c; exact c)
    (first | exact (k2 (c_lef c)) | (simp only [Option.getD_some, (Lay.r84_0 L)]; exact (k2 (c_lef c))))
theorem w_Model_feed_15 {rod : Nat → Nat × (Nat → Int32)} {d : Nat} {Q : Option MV → MH → Prop} {u0 : Option MV} {u1 : Option MV} {u2 : Option MV} {u3 : Option MV} {u4 : Option MV} {u5 : Option MV} {u6 : Option MV} {u7 : Option MV} {h : MH}   (q : Q (some (.inl (-1 : Int32))) h) : Wb rod d B_Model_feed 15 [u0, u1, u2, u3, u4, u5, u6, u7] [] h Q := by
  refine Wb.ret (b_Model_feed_15) ?_
  (first | exact q | (simp only [Option.getD_some]; exact q))
theorem w_Model_feed_17 {rod : Nat → Nat × (Nat → Int32)} {d : Nat} {Q : Option MV → MH → Prop} {u0 : Option MV} {u1 : Option MV} {u2 : Option MV} {u3 : Option MV} {u4 : Option MV} {u5 : Option MV} {u6 : Option MV} {u7 : Option MV} {h : MH}  (g0 : okl [u0, u1, u2, u3, u4, u5, u6, u7] 6 = true) (k : Wb rod d B_Model_feed 20 [u0, u1, u2, u3, u4, u5, some (.inl (0 : Int32)), u7] [] h Q) : Wb rod d B_Model_feed 17 [u0, u1, u2, u3, u4, u5, u6, u7] [] h Q := by
  refine Wb.go (fun r hr q => b_Model_feed_17 g0 ?_) k
  (first | exact q | (simp only [Option.getD_some]; exact q))
theorem w_Model_feed_20 {rod : Nat → Nat × (Nat → Int32)} {d : Nat} {Q : Option MV → MH → Prop} {u0 : Option MV} {u1 : Option MV} {u2 : Option MV} {u3 : Option MV} {u4 : Option MV} {u5 : Option MV} {x6 : Int32} {u7 : Option MV} {h : MH}   (k1 : 20 ≤ x6.toInt → Wb rod d B_Model_feed 122 [u0, u1, u2, u3, u4, u5, some (.inl x6), u7] [] h Q) (k2 : ¬ 20 ≤ x6.toInt → Wb rod d B_Model_feed 27 [u0, u1, u2, u3, u4, u5, some (.inl x6), u7] [] h Q) : Wb rod d B_Model_feed 20 [u0, u1, u2, u3, u4, u5, some (.inl x6), u7] [] h Q := by
  refine Wb.br (fun _ _ => b_Model_feed_20) (fun c => ?_) (fun c => ?_)
  · have c : (decide ((20 : Int32) ≤ x6)) = true := by first | exact c | (simp only [Option.getD_some] at c; exact c)
    (first | exact (k1 (c_let c)) | (simp only [Option.getD_some]; exact (k1 (c_let c))))
  · have c : (decide ((20 : Int32) ≤ x6)) = false := by first | exact c | (simp only [Option.getD_some] at c; exact c)
    (first | exact (k2 (c_lef c)) | (simp only [Option.getD_some]; exact (k2 (c_lef c))))
theorem w_Model_feed_27 {rod : Nat → Nat × (Nat → Int32)} {d : Nat} {Q : Option MV → MH → Prop} {u0 : Option MV} {u1 : Option MV} {u2 : Option MV} {u3 : Option MV} {u4 : Option MV} {u5 : Option MV} {x6 : Int32} {u7 : Option MV} {h : MH}   (k1 : 4 ≤ x6.toInt → Wb rod d B_Model_feed 37 [u0, u1, u2, u3, u4, u5, some (.inl x6), u7] [] h Q) (k2 : ¬ 4 ≤ x6.toInt → Wb rod d B_Model_feed 33 [u0, u1, u2, u3, u4, u5, some (.inl x6), u7] [] h Q) : Wb rod d B_Model_feed 27 [u0, u1, u2, u3, u4, u5, some (.inl x6), u7] [] h Q := by
  refine Wb.br (fun _ _ => b_Model_feed_27) (fun c => ?_) (fun c => ?_)
  · have c : (decide ((4 : Int32) ≤ x6)) = true := by first | exact c | (simp only [Option.getD_some] at c; exact c)
    (first | exact (k1 (c_let c)) | (simp only [Option.getD_some]; exact (k1 (c_let c))))
  · have c : (decide ((4 : Int32) ≤ x6)) = false := by first | exact c | (simp only [Option.getD_some] at c; exact c)
    (first | exact (k2 (c_lef c)) | (simp only [Option.getD_some]; exact (k2 (c_lef c))))
theorem w_Model_feed_33 {rod : Nat → Nat × (Nat → Int32)} {d : Nat} {Q : Option MV → MH → Prop} {u0 : Option MV} {x1 : Int32} {u2 : Option MV} {u3 : Option MV} {u4 : Option MV} {u5 : Option MV} {u6 : Option MV} {u7 : Option MV} {h : MH}   (k : Wb rod d B_Model_feed 73 [u0, some (.inl x1), u2, u3, u4, u5, u6, u7] [.inl x1] h Q) : Wb rod d B_Model_feed 33 [u0, some (.inl x1), u2, u3, u4, u5, u6, u7] [] h Q := by
  refine Wb.go (fun r hr q => b_Model_feed_33 ?_) k
  (first | exact q | (simp only [Option.getD_some]; exact q))
theorem w_Model_feed_37 {rod : Nat → Nat × (Nat → Int32)} {d : Nat} {Q : Option MV → MH → Prop} {u0 : Option MV} {u1 : Option MV} {u2 : Option MV} {u3 : Option MV} {u4 : Option MV} {u5 : Option MV} {x6 : Int32} {u7 : Option MV} {h : MH}   (k1 : 8 ≤ x6.toInt → Wb rod d B_Model_feed 48 [u0, u1, u2, u3, u4, u5, some (.inl x6), u7] [] h Q) (k2 : ¬ 8 ≤ x6.toInt → Wb rod d B_Model_feed 44 [u0, u1, u2, u3, u4, u5, some (.inl x6), u7] [] h Q) : Wb rod d B_Model_feed 37 [u0, u1, u2, u3, u4, u5, some (.inl x6), u7] [] h Q := by
  refine Wb.br (fun _ _ => b_Model_feed_37) (fun c => ?_) (fun c => ?_)
  · have c : (decide ((8 : Int32) ≤ x6)) = true := by first | exact c | (simp only [Option.getD_some] at c; exact c)
    (first | exact (k1 (c_let c)) | (simp only [Option.getD_some]; exact (k1 (c_let c))))
  · have c : (decide ((8 : Int32) ≤ x6)) = false := by first | exact c | (simp only [Option.getD_some] at c; exact c)
    (first | exact (k2 (c_lef c)) | (simp only [Option.getD_some]; exact (k2 (c_lef c))))
theorem w_Model_feed_44 {rod : Nat → Nat × (Nat → Int32)} {d : Nat} {Q : Option MV → MH → Prop} {u0 : Option MV} {u1 : Option MV} {x2 : Int32} {u3 : Option MV} {u4 : Option MV} {u5 : Option MV} {u6 : Option MV} {u7 : Option MV} {h : MH}   (k : Wb rod d B_Model_feed 73 [u0, u1, some (.inl x2), u3, u4, u5, u6, u7] [.inl x2] h Q) : Wb rod d B_Model_feed 44 [u0, u1, some (.inl x2), u3, u4, u5, u6, u7] [] h Q := by
  refine Wb.go (fun r hr q => b_Model_feed_44 ?_) k
  (first | exact q | (simp only [Option.getD_some]; exact q))
theorem w_Model_feed_48 {rod : Nat → Nat × (Nat → Int32)} {d : Nat} {Q : Option MV → MH → Prop} {u0 : Option MV} {u1 : Option MV} {u2 : Option MV} {u3 : Option MV} {u4 : Option MV} {u5 : Option MV} {x6 : Int32} {u7 : Option MV} {h : MH}   (k1 : 12 ≤ x6.toInt → Wb rod d B_Model_feed 59 [u0, u1, u2, u3, u4, u5, some (.inl x6), u7] [] h Q) (k2 : ¬ 12 ≤ x6.toInt → Wb rod d B_Model_feed 55 [u0, u1, u2, u3, u4, u5, some (.inl x6), u7] [] h Q) : Wb rod d B_Model_feed 48 [u0, u1, u2, u3, u4, u5, some (.inl x6), u7] [] h Q := by
  refine Wb.br (fun _ _ => b_Model_feed_48) (fun c => ?_) (fun c => ?_)
  · have c : (decide ((12 : Int32) ≤ x6)) = true := by first | exact c | (simp only [Option.getD_some] at c; exact c)
    (first | exact (k1 (c_let c)) | (simp only [Option.getD_some]; exact (k1 (c_let c))))
  · have c : (decide ((12 : Int32) ≤ x6)) = false := by first | exact c | (simp only [Option.getD_some] at c; exact c)
    (first | exact (k2 (c_lef c)) | (simp only [Option.getD_some]; exact (k2 (c_lef c))))
theorem w_Model_feed_55 {rod : Nat → Nat × (Nat → Int32)} {d : Nat} {Q : Option MV → MH → Prop} {u0 : Option MV} {u1 : Option MV} {u2 : Option MV} {x3 : Int32} {u4 : Option MV} {u5 : Option MV} {u6 : Option MV} {u7 : Option MV} {h : MH}   (k : Wb rod d B_Model_feed 73 [u0, u1, u2, some (.inl x3), u4, u5, u6, u7] [.inl x3] h Q) : Wb rod d B_Model_feed 55 [u0, u1, u2, some (.inl x3), u4, u5, u6, u7] [] h Q := by
  refine Wb.go (fun r hr q => b_Model_feed_55 ?_) k
  (first | exact q | (simp only [Option.getD_some]; exact q))
theorem w_Model_feed_59 {rod : Nat → Nat × (Nat → Int32)} {d : Nat} {Q : Option MV → MH → Prop} {u0 : Option MV} {u1 : Option MV} {u2 : Option MV} {u3 : Option MV} {u4 : Option MV} {u5 : Option MV} {x6 : Int32} {u7 : Option MV} {h : MH}   (k1 : 16 ≤ x6.toInt → Wb rod d B_Model_feed 71 [u0, u1, u2, u3, u4, u5, some (.inl x6), u7] [] h Q) (k2 : ¬ 16 ≤ x6.toInt → Wb rod d B_Model_feed 66 [u0, u1, u2, u3, u4, u5, some (.inl x6), u7] [] h Q) : Wb rod d B_Model_feed 59 [u0, u1, u2, u3, u4, u5, some (.inl x6), u7] [] h Q := by
  refine Wb.br (fun _ _ => b_Model_feed_59) (fun c => ?_) (fun c => ?_)
  · have c : (decide ((16 : Int32) ≤ x6)) = true := by first | exact c | (simp only [Option.getD_some] at c; exact c)
    (first | exact (k1 (c_let c)) | (simp only [Option.getD_some]; exact (k1 (c_let c))))
  · have c : (decide ((16 : Int32) ≤ x6)) = false := by first | exact c | (simp only [Option.getD_some] at c; exact c)
    (first | exact (k2 (c_lef c)) | (simp only [Option.getD_some]; exact (k2 (c_lef c))))
theorem w_Model_feed_66 {rod : Nat → Nat × (Nat → Int32)} {d : Nat} {Q : Option MV → MH → Prop} {u0 : Option MV} {u1 : Option MV} {u2 : Option MV} {u3 : Option MV} {x4 : Int32} {u5 : Option MV} {u6 : Option MV} {u7 : Option MV} {h : MH}   (k : Wb rod d B_Model_feed 73 [u0, u1, u2, u3, some (.inl x4), u5, u6, u7] [.inl x4] h Q) : Wb rod d B_Model_feed 66 [u0, u1, u2, u3, some (.inl x4), u5, u6, u7] [] h Q := by
  refine Wb.go (fun r hr q => b_Model_feed_66 ?_) k
  (first | exact q | (simp only [Option.getD_some]; exact q))
theorem w_Model_feed_71 {rod : Nat → Nat × (Nat → Int32)} {d : Nat} {Q : Option MV → MH → Prop} {u0 : Option MV} {u1 : Option MV} {u2 : Option MV} {u3 : Option MV} {u4 : Option MV} {x5 : Int32} {u6 : Option MV} {u7 : Option MV} {h : MH}   (k : Wb rod d B_Model_feed 73 [u0, u1, u2, u3, u4, some (.inl x5), u6, u7] [.inl x5] h Q) : Wb rod d B_Model_feed 71 [u0, u1, u2, u3, u4, some (.inl x5), u6, u7] [] h Q := by
  refine Wb.go (fun r hr q => b_Model_feed_71 ?_) k
  (first | exact q | (simp only [Option.getD_some]; exact q))
theorem w_Model_feed_73 {rod : Nat → Nat × (Nat → Int32)} {d : Nat} {Q : Option MV → MH → Prop} {u1 : Option MV} {u2 : Option MV} {u3 : Option MV} {u4 : Option MV} {u5 : Option MV} {x6 : Int32} {u7 : Option MV} {xs0 : Int32} {h : MH} (L : Lay h.2) (g0 : 0 ≤ ((10 : Int32) + (h.1 85 (4 : Int32).toNatClampNeg)).toInt ∧ ((10 : Int32) + (h.1 85 (4 : Int32).toNatClampNeg)).toInt < 4584) (k : Wb rod d B_Model_feed 106 [some (.inr (.inr (.inl (some 84)))), u1, u2, u3, u4, u5, some (.inl x6), some (.inl xs0)] [] (sI h 85 ((10 : Int32) + (h.1 85 (4 : Int32).toNatClampNeg)).toNatClampNeg ((xs0 >>> (((24 : Int32) - ((8 : Int32) * (x6 - x6 / (4 : Int32) * (4 : Int32)))) &&& 31)) &&& (255 : Int32))) Q) : Wb rod d B_Model_feed 73 [some (.inr (.inr (.inl (some 84)))), u1, u2, u3, u4, u5, some (.inl x6), u7] [.inl xs0] h Q := by
  refine Wb.go (fun r hr q => b_Model_feed_73 (Lay.o84 L) (Lay.a84_0 L ⟨by decide, by decide⟩) (by decide) (Lay.a84_0 L (by first | exact g0 | (simp only [Option.getD_some, (Lay.r84_0 L)]; exact g0))) ?_) k
  (first | exact q | (simp only [Option.getD_some, (Lay.r84_0 L)]; exact q))
theorem w_Model_feed_106 {rod : Nat → Nat × (Nat → Int32)} {d : Nat} {Q : Option MV → MH → Prop} {u1 : Option MV} {u2 : Option MV} {u3 : Option MV} {u4 : Option MV} {u5 : Option MV} {u6 : Option MV} {u7 : Option MV} {h : MH} (L : Lay h.2)  (k : Wb rod d B_Model_feed 116 [some (.inr (.inr (.inl (some 84)))), u1, u2, u3, u4, u5, u6, u7] [] (sI h 85 (4 : Int32).toNatClampNeg ((h.1 85 (4 : Int32).toNatClampNeg) + (1 : Int32))) Q) : Wb rod d B_Model_feed 106 [some (.inr (.inr (.inl (some 84)))), u1, u2, u3, u4, u5, u6, u7] [] h Q := by
  refine Wb.go (fun r hr q => b_Model_feed_106 (Lay.o84 L) (Lay.a84_0 L ⟨by decide, by decide⟩) ?_) k
  (first | exact q | (simp only [Option.getD_some, (Lay.r84_0 L)]; exact q))
theorem w_Model_feed_116 {rod : Nat → Nat × (Nat → Int32)} {d : Nat} {Q : Option MV → MH → Prop} {u0 : Option MV} {u1 : Option MV} {u2 : Option MV} {u3 : Option MV} {u4 : Option MV} {u5 : Option MV} {x6 : Int32} {u7 : Option MV} {h : MH}  (g0 : okl [u0, u1, u2, u3, u4, u5, some (.inl x6), u7] 6 = true) (k : Wb rod d B_Model_feed 20 [u0, u1, u2, u3, u4, u5, some (.inl (x6 + 1)), u7] [] h Q) : Wb rod d B_Model_feed 116 [u0, u1, u2, u3, u4, u5, some (.inl x6), u7] [] h Q := by
  refine Wb.go (fun r hr q => b_Model_feed_116 g0 ?_) k
  (first | exact q | (simp only [Option.getD_some]; exact q))
theorem w_Model_feed_122 {rod : Nat → Nat × (Nat → Int32)} {d : Nat} {Q : Option MV → MH → Prop} {u1 : Option MV} {u2 : Option MV} {u3 : Option MV} {u4 : Option MV} {u5 : Option MV} {u6 : Option MV} {u7 : Option MV} {h : MH} (L : Lay h.2)  (q : Q (some (.inl (h.1 85 (4 : Int32).toNatClampNeg))) h) : Wb rod d B_Model_feed 122 [some (.inr (.inr (.inl (some 84)))), u1, u2, u3, u4, u5, u6, u7] [] h Q := by
  refine Wb.ret (b_Model_feed_122 (Lay.o84 L) (Lay.a84_0 L ⟨by decide, by decide⟩)) ?_
  (first | exact q | (simp only [Option.getD_some, (Lay.r84_0 L)]; exact q))
theorem n_Model_end {rod : Nat → Nat × (Nat → Int32)} {d : Nat} {Q : Option MV → MH → Prop} {x1 : Int32} {h : MH} (k : Wb rod d B_Model_end 0 [some (.inr (.inr (.inl (some 84)))), some (.inl x1)] [] h Q) : Wc rod (d + 1) 191 [.inr (.inr (.inl (some 84))), .inl x1] h Q := Wc.en (fun _ _ => e_Model_end) k
theorem w_Model_end_0 {rod : Nat → Nat × (Nat → Int32)} {d : Nat} {Q : Option MV → MH → Prop} {u0 : Option MV} {x1 : Int32} {h : MH}   (k1 : x1.toInt < 0 → Wb rod d B_Model_end 14 [u0, some (.inl x1)] [] h Q) (k2 : ¬ x1.toInt < 0 → Wb rod d B_Model_end 4 [u0, some (.inl x1)] [] h Q) : Wb rod d B_Model_end 0 [u0, some (.inl x1)] [] h Q := by
  refine Wb.br (fun _ _ => b_Model_end_0) (fun c => ?_) (fun c => ?_)
  · have c : (decide (x1 < 0)) = true := by first | exact c | (simp only [Option.getD_some] at c; exact c)
    (first | exact (k1 (c_ltt c)) | (simp only [Option.getD_some]; exact (k1 (c_ltt c))))
  · have c : (decide (x1 < 0)) = false := by first | exact c | (simp only [Option.getD_some] at c; exact c)
    (first | exact (k2 (c_ltf c)) | (simp only [Option.getD_some]; exact (k2 (c_ltf c))))
theorem w_Model_end_4 {rod : Nat → Nat × (Nat → Int32)} {d : Nat} {Q : Option MV → MH → Prop} {x1 : Int32} {h : MH} (L : Lay h.2)  (k1 : x1.toInt ≤ (h.1 85 (4 : Int32).toNatClampNeg).toInt → Wb rod d B_Model_end 16 [some (.inr (.inr (.inl (some 84)))), some (.inl x1)] [] h Q) (k2 : ¬ x1.toInt ≤ (h.1 85 (4 : Int32).toNatClampNeg).toInt → Wb rod d B_Model_end 14 [some (.inr (.inr (.inl (some 84)))), some (.inl x1)] [] h Q) : Wb rod d B_Model_end 4 [some (.inr (.inr (.inl (some 84)))), some (.inl x1)] [] h Q := by
  refine Wb.br (fun _ _ => b_Model_end_4 (Lay.o84 L) (Lay.a84_0 L ⟨by decide, by decide⟩)) (fun c => ?_) (fun c => ?_)
  · have c : (decide (x1 ≤ (h.1 85 (4 : Int32).toNatClampNeg))) = true := by first | exact c | (simp only [Option.getD_some, (Lay.r84_0 L)] at c; exact c)
    (first | exact (k1 (c_let c)) | (simp only [Option.getD_some, (Lay.r84_0 L)]; exact (k1 (c_let c))))
  · have c : (decide (x1 ≤ (h.1 85 (4 : Int32).toNatClampNeg))) = false := by first | exact c | (simp only [Option.getD_some, (Lay.r84_0 L)] at c; exact c)
    (first | exact (k2 (c_lef c)) | (simp only [Option.getD_some, (Lay.r84_0 L)]; exact (k2 (c_lef c))))
theorem w_Model_end_14 {rod : Nat → Nat × (Nat → Int32)} {d : Nat} {Q : Option MV → MH → Prop} {u0 : Option MV} {u1 : Option MV} {h : MH}   (q : Q (some (.inl (-1 : Int32))) h) : Wb rod d B_Model_end 14 [u0, u1] [] h Q := by
  refine Wb.ret (b_Model_end_14) ?_
  (first | exact q | (simp only [Option.getD_some]; exact q))
theorem w_Model_end_16 {rod : Nat → Nat × (Nat → Int32)} {d : Nat} {Q : Option MV → MH → Prop} {x1 : Int32} {h : MH} (L : Lay h.2)  (k : Wb rod d B_Model_end 23 [some (.inr (.inr (.inl (some 84)))), some (.inl x1)] [] (sI h 85 (4 : Int32).toNatClampNeg x1) Q) : Wb rod d B_Model_end 16 [some (.inr (.inr (.inl (some 84)))), some (.inl x1)] [] h Q := by
  refine Wb.go (fun r hr q => b_Model_end_16 (Lay.o84 L) (Lay.a84_0 L ⟨by decide, by decide⟩) ?_) k
  (first | exact q | (simp only [Option.getD_some, (Lay.r84_0 L)]; exact q))
theorem w_Model_end_23 {rod : Nat → Nat × (Nat → Int32)} {d : Nat} {Q : Option MV → MH → Prop} {u0 : Option MV} {x1 : Int32} {h : MH}   (q : Q (some (.inl x1)) h) : Wb rod d B_Model_end 23 [u0, some (.inl x1)] [] h Q := by
  refine Wb.ret (b_Model_end_23) ?_
  (first | exact q | (simp only [Option.getD_some]; exact q))
theorem n_Model_text {rod : Nat → Nat × (Nat → Int32)} {d : Nat} {Q : Option MV → MH → Prop} {x1 : Int32} {x2 : Int32} {h : MH} (k : Wb rod d B_Model_text 0 [some (.inr (.inr (.inl (some 84)))), some (.inl x1), some (.inl x2), none, none] [] h Q) : Wc rod (d + 1) 192 [.inr (.inr (.inl (some 84))), .inl x1, .inl x2] h Q := Wc.en (fun _ _ => e_Model_text) k
theorem w_Model_text_0 {rod : Nat → Nat × (Nat → Int32)} {d : Nat} {Q : Option MV → MH → Prop} {u1 : Option MV} {u2 : Option MV} {u3 : Option MV} {u4 : Option MV} {h : MH} (L : Lay h.2)  (k : Wb rod d B_Model_text 10 [some (.inr (.inr (.inl (some 84)))), u1, u2, u3, u4] [] (sI h 84 2 (h.1 85 (4 : Int32).toNatClampNeg)) Q) : Wb rod d B_Model_text 0 [some (.inr (.inr (.inl (some 84)))), u1, u2, u3, u4] [] h Q := by
  refine Wb.go (fun r hr q => b_Model_text_0 (Lay.o84 L) (Lay.a84_0 L ⟨by decide, by decide⟩) ?_) k
  (first | exact q | (simp only [Option.getD_some, (Lay.r84_0 L)]; exact q))
theorem w_Model_text_10 {rod : Nat → Nat × (Nat → Int32)} {d : Nat} {Q : Option MV → MH → Prop} {u1 : Option MV} {u2 : Option MV} {u3 : Option MV} {u4 : Option MV} {h : MH} (L : Lay h.2)  (k : Wb rod d B_Model_text 17 [some (.inr (.inr (.inl (some 84)))), u1, u2, u3, u4] [] (sI h 85 (4 : Int32).toNatClampNeg (0 : Int32)) Q) : Wb rod d B_Model_text 10 [some (.inr (.inr (.inl (some 84)))), u1, u2, u3, u4] [] h Q := by
  refine Wb.go (fun r hr q => b_Model_text_10 (Lay.o84 L) (Lay.a84_0 L ⟨by decide, by decide⟩) ?_) k
  (first | exact q | (simp only [Option.getD_some, (Lay.r84_0 L)]; exact q))
theorem w_Model_text_17 {rod : Nat → Nat × (Nat → Int32)} {d : Nat} {Q : Option MV → MH → Prop} {u1 : Option MV} {u2 : Option MV} {u3 : Option MV} {u4 : Option MV} {h : MH} (L : Lay h.2)  (k : Wb rod d B_Model_text 24 [some (.inr (.inr (.inl (some 84)))), u1, u2, u3, u4] [] (sI h 85 (5 : Int32).toNatClampNeg (0 : Int32)) Q) : Wb rod d B_Model_text 17 [some (.inr (.inr (.inl (some 84)))), u1, u2, u3, u4] [] h Q := by
  refine Wb.go (fun r hr q => b_Model_text_17 (Lay.o84 L) (Lay.a84_0 L ⟨by decide, by decide⟩) ?_) k
  (first | exact q | (simp only [Option.getD_some, (Lay.r84_0 L)]; exact q))
theorem w_Model_text_24 {rod : Nat → Nat × (Nat → Int32)} {d : Nat} {Q : Option MV → MH → Prop} {u1 : Option MV} {u2 : Option MV} {u3 : Option MV} {u4 : Option MV} {h : MH} (L : Lay h.2)  (k : Wb rod d B_Model_text 32 [some (.inr (.inr (.inl (some 84)))), u1, u2, u3, u4] [] (sI h 85 (6 : Int32).toNatClampNeg (-1 : Int32)) Q) : Wb rod d B_Model_text 24 [some (.inr (.inr (.inl (some 84)))), u1, u2, u3, u4] [] h Q := by
  refine Wb.go (fun r hr q => b_Model_text_24 (Lay.o84 L) (Lay.a84_0 L ⟨by decide, by decide⟩) ?_) k
  (first | exact q | (simp only [Option.getD_some, (Lay.r84_0 L)]; exact q))
theorem w_Model_text_32 {rod : Nat → Nat × (Nat → Int32)} {d : Nat} {Q : Option MV → MH → Prop} {u0 : Option MV} {x1 : Int32} {u2 : Option MV} {u3 : Option MV} {u4 : Option MV} {h : MH}   {Q1 : Option MV → MH → Prop} (c : Wc rod d 193 [.inl x1, .inl (0 : Int32), .inl (3 : Int32)] h Q1) (k : ∀ r1 h2, Q1 r1 h2 → Wb rod d B_Model_text 38 [u0, some (.inl x1), u2, u3, u4] (r1.toList ++ []) h2 Q) : Wb rod d B_Model_text 32 [u0, some (.inl x1), u2, u3, u4] [] h Q := by
  refine Wb.call (fun _ _ _ _ => b_Model_text_32) (Q1 := Q1) ?_ ?_
  · (first | exact c | (simp only [Option.getD_some]; exact c))
  · (first | exact k | (simp only [Option.getD_some]; exact k))
theorem w_Model_text_38 {rod : Nat → Nat × (Nat → Int32)} {d : Nat} {Q : Option MV → MH → Prop} {u0 : Option MV} {u1 : Option MV} {u2 : Option MV} {u3 : Option MV} {u4 : Option MV} {xs0 : Int32} {h : MH}   (k1 : xs0.toInt = 0 → Wb rod d B_Model_text 68 [u0, u1, u2, u3, u4] [] h Q) (k2 : ¬ xs0.toInt = 0 → Wb rod d B_Model_text 41 [u0, u1, u2, u3, u4] [] h Q) : Wb rod d B_Model_text 38 [u0, u1, u2, u3, u4] [.inl xs0] h Q := by
  refine Wb.br (fun _ _ => b_Model_text_38) (fun c => ?_) (fun c => ?_)
  · have c : (decide (xs0 = 0)) = true := by first | exact c | (simp only [Option.getD_some] at c; exact c)
    (first | exact (k1 (c_eqt c)) | (simp only [Option.getD_some]; exact (k1 (c_eqt c))))
  · have c : (decide (xs0 = 0)) = false := by first | exact c | (simp only [Option.getD_some] at c; exact c)
    (first | exact (k2 (c_eqf c)) | (simp only [Option.getD_some]; exact (k2 (c_eqf c))))
theorem w_Model_text_41 {rod : Nat → Nat × (Nat → Int32)} {d : Nat} {Q : Option MV → MH → Prop} {u0 : Option MV} {u1 : Option MV} {x2 : Int32} {u3 : Option MV} {u4 : Option MV} {h : MH}   (k1 : ¬ x2.toInt = (-1) → Wb rod d B_Model_text 59 [u0, u1, some (.inl x2), u3, u4] [] h Q) (k2 : x2.toInt = (-1) → Wb rod d B_Model_text 46 [u0, u1, some (.inl x2), u3, u4] [] h Q) : Wb rod d B_Model_text 41 [u0, u1, some (.inl x2), u3, u4] [] h Q := by
  refine Wb.br (fun _ _ => b_Model_text_41) (fun c => ?_) (fun c => ?_)
  · have c : (!(decide (x2 = (-1 : Int32)))) = true := by first | exact c | (simp only [Option.getD_some] at c; exact c)
    (first | exact (k1 (c_net c)) | (simp only [Option.getD_some]; exact (k1 (c_net c))))
  · have c : (!(decide (x2 = (-1 : Int32)))) = false := by first | exact c | (simp only [Option.getD_some] at c; exact c)
    (first | exact (k2 (c_nef c)) | (simp only [Option.getD_some]; exact (k2 (c_nef c))))
theorem w_Model_text_46 {rod : Nat → Nat × (Nat → Int32)} {d : Nat} {Q : Option MV → MH → Prop} {x1 : Int32} {u2 : Option MV} {u3 : Option MV} {u4 : Option MV} {h : MH} (L : Lay h.2) (g0 : 0 ≤ x1.toInt ∧ x1.toInt < 4584) (k1 : (h.1 85 x1.toNatClampNeg).toInt < 2 → Wb rod d B_Model_text 71 [some (.inr (.inr (.inl (some 84)))), some (.inl x1), u2, u3, u4] [] h Q) (k2 : ¬ (h.1 85 x1.toNatClampNeg).toInt < 2 → Wb rod d B_Model_text 56 [some (.inr (.inr (.inl (some 84)))), some (.inl x1), u2, u3, u4] [] h Q) : Wb rod d B_Model_text 46 [some (.inr (.inr (.inl (some 84)))), some (.inl x1), u2, u3, u4] [] h Q := by
  refine Wb.br (fun _ _ => b_Model_text_46 (Lay.o84 L) (Lay.a84_0 L g0)) (fun c => ?_) (fun c => ?_)
  · have c : (decide ((h.1 85 x1.toNatClampNeg) < (2 : Int32))) = true := by first | exact c | (simp only [Option.getD_some, (Lay.r84_0 L)] at c; exact c)
    (first | exact (k1 (c_ltt c)) | (simp only [Option.getD_some, (Lay.r84_0 L)]; exact (k1 (c_ltt c))))
  · have c : (decide ((h.1 85 x1.toNatClampNeg) < (2 : Int32))) = false := by first | exact c | (simp only [Option.getD_some, (Lay.r84_0 L)] at c; exact c)
    (first | exact (k2 (c_ltf c)) | (simp only [Option.getD_some, (Lay.r84_0 L)]; exact (k2 (c_ltf c))))
theorem w_Model_text_56 {rod : Nat → Nat × (Nat → Int32)} {d : Nat} {Q : Option MV → MH → Prop} {u0 : Option MV} {u1 : Option MV} {u2 : Option MV} {u3 : Option MV} {u4 : Option MV} {h : MH}   (k : Wb rod d B_Model_text 68 [u0, u1, u2, u3, u4] [] h Q) : Wb rod d B_Model_text 56 [u0, u1, u2, u3, u4] [] h Q := by
  refine Wb.go (fun r hr q => b_Model_text_56 ?_) k
  (first | exact q | (simp only [Option.getD_some]; exact q))
theorem w_Model_text_59 {rod : Nat → Nat × (Nat → Int32)} {d : Nat} {Q : Option MV → MH → Prop} {x1 : Int32} {x2 : Int32} {u3 : Option MV} {u4 : Option MV} {h : MH} (L : Lay h.2)  {Q1 : Option MV → MH → Prop} (c : Wc rod d 194 [.inr (.inr (.inl (some 84))), .inl x1, .inl x2] h Q1) (k : ∀ r1 h2, Q1 r1 h2 → Wb rod d B_Model_text 65 [some (.inr (.inr (.inl (some 84)))), some (.inl x1), some (.inl x2), u3, u4] (r1.toList ++ []) h2 Q) : Wb rod d B_Model_text 59 [some (.inr (.inr (.inl (some 84)))), some (.inl x1), some (.inl x2), u3, u4] [] h Q := by
  refine Wb.call (fun _ _ _ _ => b_Model_text_59 (Lay.o84 L)) (Q1 := Q1) ?_ ?_
  · (first | exact c | (simp only [Option.getD_some]; exact c))
  · (first | exact k | (simp only [Option.getD_some]; exact k))
theorem w_Model_text_65 {rod : Nat → Nat × (Nat → Int32)} {d : Nat} {Q : Option MV → MH → Prop} {u0 : Option MV} {u1 : Option MV} {u2 : Option MV} {u3 : Option MV} {u4 : Option MV} {xs0 : Int32} {h : MH}   (k1 : ¬ xs0.toInt = 0 → Wb rod d B_Model_text 71 [u0, u1, u2, u3, u4] [] h Q) (k2 : xs0.toInt = 0 → Wb rod d B_Model_text 68 [u0, u1, u2, u3, u4] [] h Q) : Wb rod d B_Model_text 65 [u0, u1, u2, u3, u4] [.inl xs0] h Q := by
  refine Wb.br (fun _ _ => b_Model_text_65) (fun c => ?_) (fun c => ?_)
  · have c : (!(decide (xs0 = 0))) = true := by first | exact c | (simp only [Option.getD_some] at c; exact c)
    (first | exact (k1 (c_net c)) | (simp only [Option.getD_some]; exact (k1 (c_net c))))
  · have c : (!(decide (xs0 = 0))) = false := by first | exact c | (simp only [Option.getD_some] at c; exact c)
    (first | exact (k2 (c_nef c)) | (simp only [Option.getD_some]; exact (k2 (c_nef c))))
theorem w_Model_text_68 {rod : Nat → Nat × (Nat → Int32)} {d : Nat} {Q : Option MV → MH → Prop} {u0 : Option MV} {u1 : Option MV} {u2 : Option MV} {u3 : Option MV} {u4 : Option MV} {h : MH}   (q : Q (some (.inl (-2 : Int32))) h) : Wb rod d B_Model_text 68 [u0, u1, u2, u3, u4] [] h Q := by
  refine Wb.ret (b_Model_text_68) ?_
  (first | exact q | (simp only [Option.getD_some]; exact q))
theorem w_Model_text_71 {rod : Nat → Nat × (Nat → Int32)} {d : Nat} {Q : Option MV → MH → Prop} {u1 : Option MV} {u2 : Option MV} {u3 : Option MV} {u4 : Option MV} {h : MH} (L : Lay h.2)  (k : Wb rod d B_Model_text 76 [some (.inr (.inr (.inl (some 84)))), u1, u2, u3, u4] [] (sI h 84 3 (0 : Int32)) Q) : Wb rod d B_Model_text 71 [some (.inr (.inr (.inl (some 84)))), u1, u2, u3, u4] [] h Q := by
  refine Wb.go (fun r hr q => b_Model_text_71 (Lay.o84 L) ?_) k
  (first | exact q | (simp only [Option.getD_some]; exact q))
theorem w_Model_text_76 {rod : Nat → Nat × (Nat → Int32)} {d : Nat} {Q : Option MV → MH → Prop} {u1 : Option MV} {u2 : Option MV} {u3 : Option MV} {u4 : Option MV} {h : MH} (L : Lay h.2)  (k : Wb rod d B_Model_text 81 [some (.inr (.inr (.inl (some 84)))), u1, u2, u3, u4] [] (sI h 84 8 (0 : Int32)) Q) : Wb rod d B_Model_text 76 [some (.inr (.inr (.inl (some 84)))), u1, u2, u3, u4] [] h Q := by
  refine Wb.go (fun r hr q => b_Model_text_76 (Lay.o84 L) ?_) k
  (first | exact q | (simp only [Option.getD_some]; exact q))
theorem w_Model_text_81 {rod : Nat → Nat × (Nat → Int32)} {d : Nat} {Q : Option MV → MH → Prop} {u1 : Option MV} {u2 : Option MV} {u3 : Option MV} {u4 : Option MV} {h : MH} (L : Lay h.2)  (k : Wb rod d B_Model_text 86 [some (.inr (.inr (.inl (some 84)))), u1, u2, u3, u4] [] (sI h 84 9 (-1 : Int32)) Q) : Wb rod d B_Model_text 81 [some (.inr (.inr (.inl (some 84)))), u1, u2, u3, u4] [] h Q := by
  refine Wb.go (fun r hr q => b_Model_text_81 (Lay.o84 L) ?_) k
  (first | exact q | (simp only [Option.getD_some]; exact q))
theorem w_Model_text_86 {rod : Nat → Nat × (Nat → Int32)} {d : Nat} {Q : Option MV → MH → Prop} {u1 : Option MV} {u2 : Option MV} {u3 : Option MV} {u4 : Option MV} {h : MH} (L : Lay h.2)  (k : Wb rod d B_Model_text 91 [some (.inr (.inr (.inl (some 84)))), u1, u2, u3, u4] [] (sI h 84 11 (0 : Int32)) Q) : Wb rod d B_Model_text 86 [some (.inr (.inr (.inl (some 84)))), u1, u2, u3, u4] [] h Q := by
  refine Wb.go (fun r hr q => b_Model_text_86 (Lay.o84 L) ?_) k
  (first | exact q | (simp only [Option.getD_some]; exact q))
theorem w_Model_text_91 {rod : Nat → Nat × (Nat → Int32)} {d : Nat} {Q : Option MV → MH → Prop} {u0 : Option MV} {u1 : Option MV} {u2 : Option MV} {u3 : Option MV} {u4 : Option MV} {h : MH}  (g0 : okl [u0, u1, u2, u3, u4] 3 = true) (k : Wb rod d B_Model_text 93 [u0, u1, u2, some (.inl (0 : Int32)), u4] [] h Q) : Wb rod d B_Model_text 91 [u0, u1, u2, u3, u4] [] h Q := by
  refine Wb.go (fun r hr q => b_Model_text_91 g0 ?_) k
  (first | exact q | (simp only [Option.getD_some]; exact q))
theorem w_Model_text_93 {rod : Nat → Nat × (Nat → Int32)} {d : Nat} {Q : Option MV → MH → Prop} {u0 : Option MV} {u1 : Option MV} {u2 : Option MV} {x3 : Int32} {u4 : Option MV} {h : MH}   (k1 : 121 ≤ x3.toInt → Wb rod d B_Model_text 112 [u0, u1, u2, some (.inl x3), u4] [] h Q) (k2 : ¬ 121 ≤ x3.toInt → Wb rod d B_Model_text 99 [u0, u1, u2, some (.inl x3), u4] [] h Q) : Wb rod d B_Model_text 93 [u0, u1, u2, some (.inl x3), u4] [] h Q := by
  refine Wb.br (fun _ _ => b_Model_text_93) (fun c => ?_) (fun c => ?_)
  · have c : (decide ((121 : Int32) ≤ x3)) = true := by first | exact c | (simp only [Option.getD_some] at c; exact c)
    (first | exact (k1 (c_let c)) | (simp only [Option.getD_some]; exact (k1 (c_let c))))
  · have c : (decide ((121 : Int32) ≤ x3)) = false := by first | exact c | (simp only [Option.getD_some] at c; exact c)
    (first | exact (k2 (c_lef c)) | (simp only [Option.getD_some]; exact (k2 (c_lef c))))
theorem w_Model_text_99 {rod : Nat → Nat × (Nat → Int32)} {d : Nat} {Q : Option MV → MH → Prop} {u1 : Option MV} {u2 : Option MV} {x3 : Int32} {u4 : Option MV} {h : MH} (L : Lay h.2) (g0 : 0 ≤ x3.toInt ∧ x3.toInt < 121) (k : Wb rod d B_Model_text 106 [some (.inr (.inr (.inl (some 84)))), u1, u2, some (.inl x3), u4] [] (sI h 87 x3.toNatClampNeg (0 : Int32)) Q) : Wb rod d B_Model_text 99 [some (.inr (.inr (.inl (some 84)))), u1, u2, some (.inl x3), u4] [] h Q := by
  refine Wb.go (fun r hr q => b_Model_text_99 (Lay.o84 L) (Lay.a84_10 L g0) ?_) k
  (first | exact q | (simp only [Option.getD_some, (Lay.r84_10 L)]; exact q))
theorem w_Model_text_106 {rod : Nat → Nat × (Nat → Int32)} {d : Nat} {Q : Option MV → MH → Prop} {u0 : Option MV} {u1 : Option MV} {u2 : Option MV} {x3 : Int32} {u4 : Option MV} {h : MH}  (g0 : okl [u0, u1, u2, some (.inl x3), u4] 3 = true) (k : Wb rod d B_Model_text 93 [u0, u1, u2, some (.inl (x3 + 1)), u4] [] h Q) : Wb rod d B_Model_text 106 [u0, u1, u2, some (.inl x3), u4] [] h Q := by
  refine Wb.go (fun r hr q => b_Model_text_106 g0 ?_) k
  (first | exact q | (simp only [Option.getD_some]; exact q))
theorem w_Model_text_112 {rod : Nat → Nat × (Nat → Int32)} {d : Nat} {Q : Option MV → MH → Prop} {u0 : Option MV} {x1 : Int32} {u2 : Option MV} {u3 : Option MV} {u4 : Option MV} {h : MH}   (k1 : ¬ x1.toInt = 0 → Wb rod d B_Model_text 123 [u0, some (.inl x1), u2, u3, u4] [] h Q) (k2 : x1.toInt = 0 → Wb rod d B_Model_text 116 [u0, some (.inl x1), u2, u3, u4] [] h Q) : Wb rod d B_Model_text 112 [u0, some (.inl x1), u2, u3, u4] [] h Q := by
  refine Wb.br (fun _ _ => b_Model_text_112) (fun c => ?_) (fun c => ?_)
  · have c : (!(decide (x1 = 0))) = true := by first | exact c | (simp only [Option.getD_some] at c; exact c)
    (first | exact (k1 (c_net c)) | (simp only [Option.getD_some]; exact (k1 (c_net c))))
  · have c : (!(decide (x1 = 0))) = false := by first | exact c | (simp only [Option.getD_some] at c; exact c)
    (first | exact (k2 (c_nef c)) | (simp only [Option.getD_some]; exact (k2 (c_nef c))))
theorem w_Model_text_116 {rod : Nat → Nat × (Nat → Int32)} {d : Nat} {Q : Option MV → MH → Prop} {u1 : Option MV} {u2 : Option MV} {u3 : Option MV} {u4 : Option MV} {h : MH} (L : Lay h.2)  (k : Wb rod d B_Model_text 123 [some (.inr (.inr (.inl (some 84)))), u1, u2, u3, u4] [] (sI h 87 (0 : Int32).toNatClampNeg (3 : Int32)) Q) : Wb rod d B_Model_text 116 [some (.inr (.inr (.inl (some 84)))), u1, u2, u3, u4] [] h Q := by
  refine Wb.go (fun r hr q => b_Model_text_116 (Lay.o84 L) (Lay.a84_10 L ⟨by decide, by decide⟩) ?_) k
  (first | exact q | (simp only [Option.getD_some, (Lay.r84_10 L)]; exact q))
theorem w_Model_text_123 {rod : Nat → Nat × (Nat → Int32)} {d : Nat} {Q : Option MV → MH → Prop} {u0 : Option MV} {x1 : Int32} {u2 : Option MV} {u3 : Option MV} {u4 : Option MV} {h : MH}   (k1 : ¬ x1.toInt = 3 → Wb rod d B_Model_text 135 [u0, some (.inl x1), u2, u3, u4] [] h Q) (k2 : x1.toInt = 3 → Wb rod d B_Model_text 128 [u0, some (.inl x1), u2, u3, u4] [] h Q) : Wb rod d B_Model_text 123 [u0, some (.inl x1), u2, u3, u4] [] h Q := by
  refine Wb.br (fun _ _ => b_Model_text_123) (fun c => ?_) (fun c => ?_)
  · have c : (!(decide (x1 = (3 : Int32)))) = true := by first | exact c | (simp only [Option.getD_some] at c; exact c)
    (first | exact (k1 (c_net c)) | (simp only [Option.getD_some]; exact (k1 (c_net c))))
  · have c : (!(decide (x1 = (3 : Int32)))) = false := by first | exact c | (simp only [Option.getD_some] at c; exact c)
    (first | exact (k2 (c_nef c)) | (simp only [Option.getD_some]; exact (k2 (c_nef c))))
theorem w_Model_text_128 {rod : Nat → Nat × (Nat → Int32)} {d : Nat} {Q : Option MV → MH → Prop} {u1 : Option MV} {u2 : Option MV} {u3 : Option MV} {u4 : Option MV} {h : MH} (L : Lay h.2)  (k : Wb rod d B_Model_text 135 [some (.inr (.inr (.inl (some 84)))), u1, u2, u3, u4] [] (sI h 87 (0 : Int32).toNatClampNeg (2 : Int32)) Q) : Wb rod d B_Model_text 128 [some (.inr (.inr (.inl (some 84)))), u1, u2, u3, u4] [] h Q := by
  refine Wb.go (fun r hr q => b_Model_text_128 (Lay.o84 L) (Lay.a84_10 L ⟨by decide, by decide⟩) ?_) k
  (first | exact q | (simp only [Option.getD_some, (Lay.r84_10 L)]; exact q))
theorem w_Model_text_135 {rod : Nat → Nat × (Nat → Int32)} {d : Nat} {Q : Option MV → MH → Prop} {u1 : Option MV} {u2 : Option MV} {u3 : Option MV} {u4 : Option MV} {h : MH} (L : Lay h.2)  {Q1 : Option MV → MH → Prop} (c : Wc rod d 195 [.inr (.inr (.inl (some 84)))] h Q1) (k : ∀ r1 h2, Q1 r1 h2 → Wb rod d B_Model_text 139 [some (.inr (.inr (.inl (some 84)))), u1, u2, u3, u4] (r1.toList ++ []) h2 Q) : Wb rod d B_Model_text 135 [some (.inr (.inr (.inl (some 84)))), u1, u2, u3, u4] [] h Q := by
  refine Wb.call (fun _ _ _ _ => b_Model_text_135 (Lay.o84 L)) (Q1 := Q1) ?_ ?_
  · (first | exact c | (simp only [Option.getD_some]; exact c))
  · (first | exact k | (simp only [Option.getD_some]; exact k))
theorem w_Model_text_139 {rod : Nat → Nat × (Nat → Int32)} {d : Nat} {Q : Option MV → MH → Prop} {u1 : Option MV} {u2 : Option MV} {u3 : Option MV} {u4 : Option MV} {h : MH} (L : Lay h.2)  (k1 : ¬ (h.1 84 8).toInt = 0 → Wb rod d B_Model_text 208 [some (.inr (.inr (.inl (some 84)))), u1, u2, u3, u4] [] h Q) (k2 : (h.1 84 8).toInt = 0 → Wb rod d B_Model_text 146 [some (.inr (.inr (.inl (some 84)))), u1, u2, u3, u4] [] h Q) : Wb rod d B_Model_text 139 [some (.inr (.inr (.inl (some 84)))), u1, u2, u3, u4] [] h Q := by
  refine Wb.br (fun _ _ => b_Model_text_139 (Lay.o84 L)) (fun c => ?_) (fun c => ?_)
  · have c : (!(decide ((h.1 84 8) = 0))) = true := by first | exact c | (simp only [Option.getD_some] at c; exact c)
    (first | exact (k1 (c_net c)) | (simp only [Option.getD_some]; exact (k1 (c_net c))))
  · have c : (!(decide ((h.1 84 8) = 0))) = false := by first | exact c | (simp only [Option.getD_some] at c; exact c)
    (first | exact (k2 (c_nef c)) | (simp only [Option.getD_some]; exact (k2 (c_nef c))))
theorem w_Model_text_146 {rod : Nat → Nat × (Nat → Int32)} {d : Nat} {Q : Option MV → MH → Prop} {u1 : Option MV} {u2 : Option MV} {u3 : Option MV} {u4 : Option MV} {h : MH} (L : Lay h.2)  (k1 : (h.1 84 5).toInt = 0 → Wb rod d B_Model_text 208 [some (.inr (.inr (.inl (some 84)))), u1, u2, u3, u4] [] h Q) (k2 : ¬ (h.1 84 5).toInt = 0 → Wb rod d B_Model_text 153 [some (.inr (.inr (.inl (some 84)))), u1, u2, u3, u4] [] h Q) : Wb rod d B_Model_text 146 [some (.inr (.inr (.inl (some 84)))), u1, u2, u3, u4] [] h Q := by
  refine Wb.br (fun _ _ => b_Model_text_146 (Lay.o84 L)) (fun c => ?_) (fun c => ?_)
  · have c : (decide ((h.1 84 5) = 0)) = true := by first | exact c | (simp only [Option.getD_some] at c; exact c)
    (first | exact (k1 (c_eqt c)) | (simp only [Option.getD_some]; exact (k1 (c_eqt c))))
  · have c : (decide ((h.1 84 5) = 0)) = false := by first | exact c | (simp only [Option.getD_some] at c; exact c)
    (first | exact (k2 (c_eqf c)) | (simp only [Option.getD_some]; exact (k2 (c_eqf c))))
theorem w_Model_text_153 {rod : Nat → Nat × (Nat → Int32)} {d : Nat} {Q : Option MV → MH → Prop} {u0 : Option MV} {x1 : Int32} {u2 : Option MV} {u3 : Option MV} {u4 : Option MV} {h : MH}   (k0 : x1.toInt = 0 → Wb rod d B_Model_text 180 [u0, some (.inl x1), u2, u3, u4] [] h Q) (k1 : x1.toInt = 1 → Wb rod d B_Model_text 187 [u0, some (.inl x1), u2, u3, u4] [] h Q) (k2 : x1.toInt = 2 → Wb rod d B_Model_text 194 [u0, some (.inl x1), u2, u3, u4] [] h Q) (kd : x1.toInt ≠ 0 → x1.toInt ≠ 1 → x1.toInt ≠ 2 → Wb rod d B_Model_text 201 [u0, some (.inl x1), u2, u3, u4] [] h Q) : Wb rod d B_Model_text 153 [u0, some (.inl x1), u2, u3, u4] [] h Q := by
  have key : Wb rod d B_Model_text (tabT [26, 33, 40] 0 x1 154 201) [u0, some (.inl x1), u2, u3, u4] [] h Q := by
    by_cases e0 : x1 = Int32.ofInt 0
    · rw [show tabT [26, 33, 40] 0 x1 154 201 = 180 from by rw [e0]; rfl]
      exact k0 (by rw [e0]; rfl)
    by_cases e1 : x1 = Int32.ofInt 1
    · rw [show tabT [26, 33, 40] 0 x1 154 201 = 187 from by rw [e1]; rfl]
      exact k1 (by rw [e1]; rfl)
    by_cases e2 : x1 = Int32.ofInt 2
    · rw [show tabT [26, 33, 40] 0 x1 154 201 = 194 from by rw [e2]; rfl]
      exact k2 (by rw [e2]; rfl)
    rw [show tabT [26, 33, 40] 0 x1 154 201 = 201 from (if_neg e0).trans ((if_neg e1).trans ((if_neg e2).trans (rfl)))]
    exact kd (fun q => e0 (Int32.toInt_inj.mp q)) (fun q => e1 (Int32.toInt_inj.mp q)) (fun q => e2 (Int32.toInt_inj.mp q))
  refine Wb.go (fun r hr q => b_Model_text_153 ?_) key
  (first | exact q | (simp only [Option.getD_some]; exact q))
theorem w_Model_text_180 {rod : Nat → Nat × (Nat → Int32)} {d : Nat} {Q : Option MV → MH → Prop} {u1 : Option MV} {u2 : Option MV} {u3 : Option MV} {u4 : Option MV} {h : MH} (L : Lay h.2)  {Q1 : Option MV → MH → Prop} (c : Wc rod d 202 [.inr (.inr (.inl (some 84)))] h Q1) (k : ∀ r1 h2, Q1 r1 h2 → Wb rod d B_Model_text 184 [some (.inr (.inr (.inl (some 84)))), u1, u2, u3, u4] (r1.toList ++ []) h2 Q) : Wb rod d B_Model_text 180 [some (.inr (.inr (.inl (some 84)))), u1, u2, u3, u4] [] h Q := by
  refine Wb.call (fun _ _ _ _ => b_Model_text_180 (Lay.o84 L)) (Q1 := Q1) ?_ ?_
  · (first | exact c | (simp only [Option.getD_some]; exact c))
  · (first | exact k | (simp only [Option.getD_some]; exact k))
theorem w_Model_text_184 {rod : Nat → Nat × (Nat → Int32)} {d : Nat} {Q : Option MV → MH → Prop} {u0 : Option MV} {u1 : Option MV} {u2 : Option MV} {u3 : Option MV} {u4 : Option MV} {h : MH}   (k : Wb rod d B_Model_text 139 [u0, u1, u2, u3, u4] [] h Q) : Wb rod d B_Model_text 184 [u0, u1, u2, u3, u4] [] h Q := by
  refine Wb.go (fun r hr q => b_Model_text_184 ?_) k
  (first | exact q | (simp only [Option.getD_some]; exact q))
theorem w_Model_text_187 {rod : Nat → Nat × (Nat → Int32)} {d : Nat} {Q : Option MV → MH → Prop} {u1 : Option MV} {u2 : Option MV} {u3 : Option MV} {u4 : Option MV} {h : MH} (L : Lay h.2)  {Q1 : Option MV → MH → Prop} (c : Wc rod d 212 [.inr (.inr (.inl (some 84)))] h Q1) (k : ∀ r1 h2, Q1 r1 h2 → Wb rod d B_Model_text 191 [some (.inr (.inr (.inl (some 84)))), u1, u2, u3, u4] (r1.toList ++ []) h2 Q) : Wb rod d B_Model_text 187 [some (.inr (.inr (.inl (some 84)))), u1, u2, u3, u4] [] h Q := by
  refine Wb.call (fun _ _ _ _ => b_Model_text_187 (Lay.o84 L)) (Q1 := Q1) ?_ ?_
  · (first | exact c | (simp only [Option.getD_some]; exact c))
  · (first | exact k | (simp only [Option.getD_some]; exact k))
theorem w_Model_text_191 {rod : Nat → Nat × (Nat → Int32)} {d : Nat} {Q : Option MV → MH → Prop} {u0 : Option MV} {u1 : Option MV} {u2 : Option MV} {u3 : Option MV} {u4 : Option MV} {h : MH}   (k : Wb rod d B_Model_text 139 [u0, u1, u2, u3, u4] [] h Q) : Wb rod d B_Model_text 191 [u0, u1, u2, u3, u4] [] h Q := by
  refine Wb.go (fun r hr q => b_Model_text_191 ?_) k
  (first | exact q | (simp only [Option.getD_some]; exact q))
theorem w_Model_text_194 {rod : Nat → Nat × (Nat → Int32)} {d : Nat} {Q : Option MV → MH → Prop} {u1 : Option MV} {u2 : Option MV} {u3 : Option MV} {u4 : Option MV} {h : MH} (L : Lay h.2)  {Q1 : Option MV → MH → Prop} (c : Wc rod d 213 [.inr (.inr (.inl (some 84)))] h Q1) (k : ∀ r1 h2, Q1 r1 h2 → Wb rod d B_Model_text 198 [some (.inr (.inr (.inl (some 84)))), u1, u2, u3, u4] (r1.toList ++ []) h2 Q) : Wb rod d B_Model_text 194 [some (.inr (.inr (.inl (some 84)))), u1, u2, u3, u4] [] h Q := by
  refine Wb.call (fun _ _ _ _ => b_Model_text_194 (Lay.o84 L)) (Q1 := Q1) ?_ ?_
  · (first | exact c | (simp only [Option.getD_some]; exact c))
  · (first | exact k | (simp only [Option.getD_some]; exact k))
theorem w_Model_text_198 {rod : Nat → Nat × (Nat → Int32)} {d : Nat} {Q : Option MV → MH → Prop} {u0 : Option MV} {u1 : Option MV} {u2 : Option MV} {u3 : Option MV} {u4 : Option MV} {h : MH}   (k : Wb rod d B_Model_text 139 [u0, u1, u2, u3, u4] [] h Q) : Wb rod d B_Model_text 198 [u0, u1, u2, u3, u4] [] h Q := by
  refine Wb.go (fun r hr q => b_Model_text_198 ?_) k
  (first | exact q | (simp only [Option.getD_some]; exact q))
theorem w_Model_text_201 {rod : Nat → Nat × (Nat → Int32)} {d : Nat} {Q : Option MV → MH → Prop} {u1 : Option MV} {u2 : Option MV} {u3 : Option MV} {u4 : Option MV} {h : MH} (L : Lay h.2)  {Q1 : Option MV → MH → Prop} (c : Wc rod d 214 [.inr (.inr (.inl (some 84)))] h Q1) (k : ∀ r1 h2, Q1 r1 h2 → Wb rod d B_Model_text 205 [some (.inr (.inr (.inl (some 84)))), u1, u2, u3, u4] (r1.toList ++ []) h2 Q) : Wb rod d B_Model_text 201 [some (.inr (.inr (.inl (some 84)))), u1, u2, u3, u4] [] h Q := by
  refine Wb.call (fun _ _ _ _ => b_Model_text_201 (Lay.o84 L)) (Q1 := Q1) ?_ ?_
  · (first | exact c | (simp only [Option.getD_some]; exact c))
  · (first | exact k | (simp only [Option.getD_some]; exact k))
theorem w_Model_text_205 {rod : Nat → Nat × (Nat → Int32)} {d : Nat} {Q : Option MV → MH → Prop} {u0 : Option MV} {u1 : Option MV} {u2 : Option MV} {u3 : Option MV} {u4 : Option MV} {h : MH}   (k : Wb rod d B_Model_text 139 [u0, u1, u2, u3, u4] [] h Q) : Wb rod d B_Model_text 205 [u0, u1, u2, u3, u4] [] h Q := by
  refine Wb.go (fun r hr q => b_Model_text_205 ?_) k
  (first | exact q | (simp only [Option.getD_some]; exact q))
theorem w_Model_text_208 {rod : Nat → Nat × (Nat → Int32)} {d : Nat} {Q : Option MV → MH → Prop} {u1 : Option MV} {u2 : Option MV} {u3 : Option MV} {u4 : Option MV} {h : MH} (L : Lay h.2)  (k1 : ¬ (h.1 85 (5 : Int32).toNatClampNeg).toInt = 0 → Wb rod d B_Model_text 243 [some (.inr (.inr (.inl (some 84)))), u1, u2, u3, u4] [] h Q) (k2 : (h.1 85 (5 : Int32).toNatClampNeg).toInt = 0 → Wb rod d B_Model_text 217 [some (.inr (.inr (.inl (some 84)))), u1, u2, u3, u4] [] h Q) : Wb rod d B_Model_text 208 [some (.inr (.inr (.inl (some 84)))), u1, u2, u3, u4] [] h Q := by
  refine Wb.br (fun _ _ => b_Model_text_208 (Lay.o84 L) (Lay.a84_0 L ⟨by decide, by decide⟩)) (fun c => ?_) (fun c => ?_)
  · have c : (!(decide ((h.1 85 (5 : Int32).toNatClampNeg) = 0))) = true := by first | exact c | (simp only [Option.getD_some, (Lay.r84_0 L)] at c; exact c)
    (first | exact (k1 (c_net c)) | (simp only [Option.getD_some, (Lay.r84_0 L)]; exact (k1 (c_net c))))
  · have c : (!(decide ((h.1 85 (5 : Int32).toNatClampNeg) = 0))) = false := by first | exact c | (simp only [Option.getD_some, (Lay.r84_0 L)] at c; exact c)
    (first | exact (k2 (c_nef c)) | (simp only [Option.getD_some, (Lay.r84_0 L)]; exact (k2 (c_nef c))))
theorem w_Model_text_217 {rod : Nat → Nat × (Nat → Int32)} {d : Nat} {Q : Option MV → MH → Prop} {u0 : Option MV} {x1 : Int32} {u2 : Option MV} {u3 : Option MV} {u4 : Option MV} {h : MH}   (k1 : ¬ x1.toInt = 0 → Wb rod d B_Model_text 243 [u0, some (.inl x1), u2, u3, u4] [] h Q) (k2 : x1.toInt = 0 → Wb rod d B_Model_text 221 [u0, some (.inl x1), u2, u3, u4] [] h Q) : Wb rod d B_Model_text 217 [u0, some (.inl x1), u2, u3, u4] [] h Q := by
  refine Wb.br (fun _ _ => b_Model_text_217) (fun c => ?_) (fun c => ?_)
  · have c : (!(decide (x1 = 0))) = true := by first | exact c | (simp only [Option.getD_some] at c; exact c)
    (first | exact (k1 (c_net c)) | (simp only [Option.getD_some]; exact (k1 (c_net c))))
  · have c : (!(decide (x1 = 0))) = false := by first | exact c | (simp only [Option.getD_some] at c; exact c)
    (first | exact (k2 (c_nef c)) | (simp only [Option.getD_some]; exact (k2 (c_nef c))))
theorem w_Model_text_221 {rod : Nat → Nat × (Nat → Int32)} {d : Nat} {Q : Option MV → MH → Prop} {u1 : Option MV} {u2 : Option MV} {u3 : Option MV} {u4 : Option MV} {h : MH} (L : Lay h.2)  (k1 : (h.1 84 9).toInt < (h.1 87 (0 : Int32).toNatClampNeg).toInt → Wb rod d B_Model_text 243 [some (.inr (.inr (.inl (some 84)))), u1, u2, u3, u4] [] h Q) (k2 : ¬ (h.1 84 9).toInt < (h.1 87 (0 : Int32).toNatClampNeg).toInt → Wb rod d B_Model_text 234 [some (.inr (.inr (.inl (some 84)))), u1, u2, u3, u4] [] h Q) : Wb rod d B_Model_text 221 [some (.inr (.inr (.inl (some 84)))), u1, u2, u3, u4] [] h Q := by
  refine Wb.br (fun _ _ => b_Model_text_221 (Lay.o84 L) (Lay.a84_10 L ⟨by decide, by decide⟩)) (fun c => ?_) (fun c => ?_)
  · have c : (decide ((h.1 84 9) < (h.1 87 (0 : Int32).toNatClampNeg))) = true := by first | exact c | (simp only [Option.getD_some, (Lay.r84_10 L)] at c; exact c)
    (first | exact (k1 (c_ltt c)) | (simp only [Option.getD_some, (Lay.r84_10 L)]; exact (k1 (c_ltt c))))
  · have c : (decide ((h.1 84 9) < (h.1 87 (0 : Int32).toNatClampNeg))) = false := by first | exact c | (simp only [Option.getD_some, (Lay.r84_10 L)] at c; exact c)
    (first | exact (k2 (c_ltf c)) | (simp only [Option.getD_some, (Lay.r84_10 L)]; exact (k2 (c_ltf c))))
theorem w_Model_text_234 {rod : Nat → Nat × (Nat → Int32)} {d : Nat} {Q : Option MV → MH → Prop} {u1 : Option MV} {u2 : Option MV} {u3 : Option MV} {u4 : Option MV} {h : MH} (L : Lay h.2)  {Q1 : Option MV → MH → Prop} (c : Wc rod d 208 [.inr (.inr (.inl (some 84))), .inl (4 : Int32), .inl (h.1 84 4)] h Q1) (k : ∀ r1 h2, Q1 r1 h2 → Wb rod d B_Model_text 243 [some (.inr (.inr (.inl (some 84)))), u1, u2, u3, u4] (r1.toList ++ []) h2 Q) : Wb rod d B_Model_text 234 [some (.inr (.inr (.inl (some 84)))), u1, u2, u3, u4] [] h Q := by
  refine Wb.call (fun _ _ _ _ => b_Model_text_234 (Lay.o84 L)) (Q1 := Q1) ?_ ?_
  · (first | exact c | (simp only [Option.getD_some]; exact c))
  · (first | exact k | (simp only [Option.getD_some]; exact k))
theorem w_Model_text_243 {rod : Nat → Nat × (Nat → Int32)} {d : Nat} {Q : Option MV → MH → Prop} {u1 : Option MV} {u2 : Option MV} {u3 : Option MV} {u4 : Option MV} {h : MH} (L : Lay h.2)  (k1 : ¬ (h.1 85 (5 : Int32).toNatClampNeg).toInt = 0 → Wb rod d B_Model_text 280 [some (.inr (.inr (.inl (some 84)))), u1, u2, u3, u4] [] h Q) (k2 : (h.1 85 (5 : Int32).toNatClampNeg).toInt = 0 → Wb rod d B_Model_text 252 [some (.inr (.inr (.inl (some 84)))), u1, u2, u3, u4] [] h Q) : Wb rod d B_Model_text 243 [some (.inr (.inr (.inl (some 84)))), u1, u2, u3, u4] [] h Q := by
  refine Wb.br (fun _ _ => b_Model_text_243 (Lay.o84 L) (Lay.a84_0 L ⟨by decide, by decide⟩)) (fun c => ?_) (fun c => ?_)
  · have c : (!(decide ((h.1 85 (5 : Int32).toNatClampNeg) = 0))) = true := by first | exact c | (simp only [Option.getD_some, (Lay.r84_0 L)] at c; exact c)
    (first | exact (k1 (c_net c)) | (simp only [Option.getD_some, (Lay.r84_0 L)]; exact (k1 (c_net c))))
  · have c : (!(decide ((h.1 85 (5 : Int32).toNatClampNeg) = 0))) = false := by first | exact c | (simp only [Option.getD_some, (Lay.r84_0 L)] at c; exact c)
    (first | exact (k2 (c_nef c)) | (simp only [Option.getD_some, (Lay.r84_0 L)]; exact (k2 (c_nef c))))
theorem w_Model_text_252 {rod : Nat → Nat × (Nat → Int32)} {d : Nat} {Q : Option MV → MH → Prop} {u0 : Option MV} {x1 : Int32} {u2 : Option MV} {u3 : Option MV} {u4 : Option MV} {h : MH}   (k1 : ¬ x1.toInt = 3 → Wb rod d B_Model_text 280 [u0, some (.inl x1), u2, u3, u4] [] h Q) (k2 : x1.toInt = 3 → Wb rod d B_Model_text 257 [u0, some (.inl x1), u2, u3, u4] [] h Q) : Wb rod d B_Model_text 252 [u0, some (.inl x1), u2, u3, u4] [] h Q := by
  refine Wb.br (fun _ _ => b_Model_text_252) (fun c => ?_) (fun c => ?_)
  · have c : (!(decide (x1 = (3 : Int32)))) = true := by first | exact c | (simp only [Option.getD_some] at c; exact c)
    (first | exact (k1 (c_net c)) | (simp only [Option.getD_some]; exact (k1 (c_net c))))
  · have c : (!(decide (x1 = (3 : Int32)))) = false := by first | exact c | (simp only [Option.getD_some] at c; exact c)
    (first | exact (k2 (c_nef c)) | (simp only [Option.getD_some]; exact (k2 (c_nef c))))
theorem w_Model_text_257 {rod : Nat → Nat × (Nat → Int32)} {d : Nat} {Q : Option MV → MH → Prop} {u1 : Option MV} {u2 : Option MV} {u3 : Option MV} {u4 : Option MV} {h : MH} (L : Lay h.2)  (k1 : ((h.1 84 11) >>> ((h.1 87 (0 : Int32).toNatClampNeg) &&& 31)).toInt = 0 → Wb rod d B_Model_text 280 [some (.inr (.inr (.inl (some 84)))), u1, u2, u3, u4] [] h Q) (k2 : ¬ ((h.1 84 11) >>> ((h.1 87 (0 : Int32).toNatClampNeg) &&& 31)).toInt = 0 → Wb rod d B_Model_text 271 [some (.inr (.inr (.inl (some 84)))), u1, u2, u3, u4] [] h Q) : Wb rod d B_Model_text 257 [some (.inr (.inr (.inl (some 84)))), u1, u2, u3, u4] [] h Q := by
  refine Wb.br (fun _ _ => b_Model_text_257 (Lay.o84 L) (Lay.a84_10 L ⟨by decide, by decide⟩)) (fun c => ?_) (fun c => ?_)
  · have c : (decide (((h.1 84 11) >>> ((h.1 87 (0 : Int32).toNatClampNeg) &&& 31)) = 0)) = true := by first | exact c | (simp only [Option.getD_some, (Lay.r84_10 L)] at c; exact c)
    (first | exact (k1 (c_eqt c)) | (simp only [Option.getD_some, (Lay.r84_10 L)]; exact (k1 (c_eqt c))))
  · have c : (decide (((h.1 84 11) >>> ((h.1 87 (0 : Int32).toNatClampNeg) &&& 31)) = 0)) = false := by first | exact c | (simp only [Option.getD_some, (Lay.r84_10 L)] at c; exact c)
    (first | exact (k2 (c_eqf c)) | (simp only [Option.getD_some, (Lay.r84_10 L)]; exact (k2 (c_eqf c))))
theorem w_Model_text_271 {rod : Nat → Nat × (Nat → Int32)} {d : Nat} {Q : Option MV → MH → Prop} {u1 : Option MV} {u2 : Option MV} {u3 : Option MV} {u4 : Option MV} {h : MH} (L : Lay h.2)  {Q1 : Option MV → MH → Prop} (c : Wc rod d 208 [.inr (.inr (.inl (some 84))), .inl (4 : Int32), .inl (h.1 84 4)] h Q1) (k : ∀ r1 h2, Q1 r1 h2 → Wb rod d B_Model_text 280 [some (.inr (.inr (.inl (some 84)))), u1, u2, u3, u4] (r1.toList ++ []) h2 Q) : Wb rod d B_Model_text 271 [some (.inr (.inr (.inl (some 84)))), u1, u2, u3, u4] [] h Q := by
  refine Wb.call (fun _ _ _ _ => b_Model_text_271 (Lay.o84 L)) (Q1 := Q1) ?_ ?_
  · (first | exact c | (simp only [Option.getD_some]; exact c))
  · (first | exact k | (simp only [Option.getD_some]; exact k))
theorem w_Model_text_280 {rod : Nat → Nat × (Nat → Int32)} {d : Nat} {Q : Option MV → MH → Prop} {u1 : Option MV} {u2 : Option MV} {u3 : Option MV} {u4 : Option MV} {h : MH} (L : Lay h.2)  (k1 : (h.1 85 (5 : Int32).toNatClampNeg).toInt = 0 → Wb rod d B_Model_text 291 [some (.inr (.inr (.inl (some 84)))), u1, u2, u3, u4] [] h Q) (k2 : ¬ (h.1 85 (5 : Int32).toNatClampNeg).toInt = 0 → Wb rod d B_Model_text 289 [some (.inr (.inr (.inl (some 84)))), u1, u2, u3, u4] [] h Q) : Wb rod d B_Model_text 280 [some (.inr (.inr (.inl (some 84)))), u1, u2, u3, u4] [] h Q := by
  refine Wb.br (fun _ _ => b_Model_text_280 (Lay.o84 L) (Lay.a84_0 L ⟨by decide, by decide⟩)) (fun c => ?_) (fun c => ?_)
  · have c : (decide ((h.1 85 (5 : Int32).toNatClampNeg) = 0)) = true := by first | exact c | (simp only [Option.getD_some, (Lay.r84_0 L)] at c; exact c)
    (first | exact (k1 (c_eqt c)) | (simp only [Option.getD_some, (Lay.r84_0 L)]; exact (k1 (c_eqt c))))
  · have c : (decide ((h.1 85 (5 : Int32).toNatClampNeg) = 0)) = false := by first | exact c | (simp only [Option.getD_some, (Lay.r84_0 L)] at c; exact c)
    (first | exact (k2 (c_eqf c)) | (simp only [Option.getD_some, (Lay.r84_0 L)]; exact (k2 (c_eqf c))))
theorem w_Model_text_289 {rod : Nat → Nat × (Nat → Int32)} {d : Nat} {Q : Option MV → MH → Prop} {u0 : Option MV} {u1 : Option MV} {u2 : Option MV} {u3 : Option MV} {u4 : Option MV} {h : MH}   (q : Q (some (.inl (-1 : Int32))) h) : Wb rod d B_Model_text 289 [u0, u1, u2, u3, u4] [] h Q := by
  refine Wb.ret (b_Model_text_289) ?_
  (first | exact q | (simp only [Option.getD_some]; exact q))
theorem w_Model_text_291 {rod : Nat → Nat × (Nat → Int32)} {d : Nat} {Q : Option MV → MH → Prop} {u0 : Option MV} {u1 : Option MV} {x2 : Int32} {u3 : Option MV} {u4 : Option MV} {h : MH}   (k1 : ¬ x2.toInt = (-1) → Wb rod d B_Model_text 305 [u0, u1, some (.inl x2), u3, u4] [] h Q) (k2 : x2.toInt = (-1) → Wb rod d B_Model_text 296 [u0, u1, some (.inl x2), u3, u4] [] h Q) : Wb rod d B_Model_text 291 [u0, u1, some (.inl x2), u3, u4] [] h Q := by
  refine Wb.br (fun _ _ => b_Model_text_291) (fun c => ?_) (fun c => ?_)
  · have c : (!(decide (x2 = (-1 : Int32)))) = true := by first | exact c | (simp only [Option.getD_some] at c; exact c)
    (first | exact (k1 (c_net c)) | (simp only [Option.getD_some]; exact (k1 (c_net c))))
  · have c : (!(decide (x2 = (-1 : Int32)))) = false := by first | exact c | (simp only [Option.getD_some] at c; exact c)
    (first | exact (k2 (c_nef c)) | (simp only [Option.getD_some]; exact (k2 (c_nef c))))
theorem w_Model_text_296 {rod : Nat → Nat × (Nat → Int32)} {d : Nat} {Q : Option MV → MH → Prop} {x1 : Int32} {u2 : Option MV} {u3 : Option MV} {u4 : Option MV} {h : MH} (L : Lay h.2) (g0 : 0 ≤ x1.toInt ∧ x1.toInt < 4584) (k : Wb rod d B_Model_text 306 [some (.inr (.inr (.inl (some 84)))), some (.inl x1), u2, u3, u4] [.inl (h.1 85 x1.toNatClampNeg)] h Q) : Wb rod d B_Model_text 296 [some (.inr (.inr (.inl (some 84)))), some (.inl x1), u2, u3, u4] [] h Q := by
  refine Wb.go (fun r hr q => b_Model_text_296 (Lay.o84 L) (Lay.a84_0 L g0) ?_) k
  (first | exact q | (simp only [Option.getD_some, (Lay.r84_0 L)]; exact q))
theorem w_Model_text_305 {rod : Nat → Nat × (Nat → Int32)} {d : Nat} {Q : Option MV → MH → Prop} {u0 : Option MV} {u1 : Option MV} {x2 : Int32} {u3 : Option MV} {u4 : Option MV} {h : MH}   (k : Wb rod d B_Model_text 306 [u0, u1, some (.inl x2), u3, u4] [.inl x2] h Q) : Wb rod d B_Model_text 305 [u0, u1, some (.inl x2), u3, u4] [] h Q := by
  refine Wb.go (fun r hr q => b_Model_text_305 ?_) k
  (first | exact q | (simp only [Option.getD_some]; exact q))
theorem w_Model_text_306 {rod : Nat → Nat × (Nat → Int32)} {d : Nat} {Q : Option MV → MH → Prop} {u0 : Option MV} {u1 : Option MV} {x2 : Int32} {u3 : Option MV} {u4 : Option MV} {xs0 : Int32} {h : MH}   (k1 : ¬ x2.toInt = (-1) → Wb rod d B_Model_text 322 [u0, u1, some (.inl x2), some (.inl xs0), u4] [] h Q) (k2 : x2.toInt = (-1) → Wb rod d B_Model_text 312 [u0, u1, some (.inl x2), some (.inl xs0), u4] [] h Q) : Wb rod d B_Model_text 306 [u0, u1, some (.inl x2), u3, u4] [.inl xs0] h Q := by
  refine Wb.br (fun _ _ => b_Model_text_306) (fun c => ?_) (fun c => ?_)
  · have c : (!(decide (x2 = (-1 : Int32)))) = true := by first | exact c | (simp only [Option.getD_some] at c; exact c)
    (first | exact (k1 (c_net c)) | (simp only [Option.getD_some]; exact (k1 (c_net c))))
  · have c : (!(decide (x2 = (-1 : Int32)))) = false := by first | exact c | (simp only [Option.getD_some] at c; exact c)
    (first | exact (k2 (c_nef c)) | (simp only [Option.getD_some]; exact (k2 (c_nef c))))
theorem w_Model_text_312 {rod : Nat → Nat × (Nat → Int32)} {d : Nat} {Q : Option MV → MH → Prop} {x1 : Int32} {u2 : Option MV} {u3 : Option MV} {u4 : Option MV} {h : MH} (L : Lay h.2) (g0 : 0 ≤ x1.toInt ∧ x1.toInt < 4584) (k : Wb rod d B_Model_text 322 [some (.inr (.inr (.inl (some 84)))), some (.inl x1), u2, u3, u4] [] (sI h 85 x1.toNatClampNeg ((h.1 85 x1.toNatClampNeg) + (1 : Int32))) Q) : Wb rod d B_Model_text 312 [some (.inr (.inr (.inl (some 84)))), some (.inl x1), u2, u3, u4] [] h Q := by
  refine Wb.go (fun r hr q => b_Model_text_312 (Lay.o84 L) (Lay.a84_0 L g0) ?_) k
  (first | exact q | (simp only [Option.getD_some, (Lay.r84_0 L)]; exact q))
theorem w_Model_text_322 {rod : Nat → Nat × (Nat → Int32)} {d : Nat} {Q : Option MV → MH → Prop} {u0 : Option MV} {u1 : Option MV} {u2 : Option MV} {u3 : Option MV} {u4 : Option MV} {h : MH}  (g0 : okl [u0, u1, u2, u3, u4] 4 = true) (k : Wb rod d B_Model_text 325 [u0, u1, u2, u3, some (.inl (0 : Int32))] [] h Q) : Wb rod d B_Model_text 322 [u0, u1, u2, u3, u4] [] h Q := by
  refine Wb.go (fun r hr q => b_Model_text_322 g0 ?_) k
  (first | exact q | (simp only [Option.getD_some]; exact q))
theorem w_Model_text_325 {rod : Nat → Nat × (Nat → Int32)} {d : Nat} {Q : Option MV → MH → Prop} {u0 : Option MV} {x1 : Int32} {u2 : Option MV} {u3 : Option MV} {x4 : Int32} {h : MH}   {Q1 : Option MV → MH → Prop} (c : Wc rod d 215 [.inl x1] h Q1) (k : ∀ r1 h2, Q1 r1 h2 → Wb rod d B_Model_text 331 [u0, some (.inl x1), u2, u3, some (.inl x4)] (r1.toList ++ [.inl x4]) h2 Q) : Wb rod d B_Model_text 325 [u0, some (.inl x1), u2, u3, some (.inl x4)] [] h Q := by
  refine Wb.call (fun _ _ _ _ => b_Model_text_325) (Q1 := Q1) ?_ ?_
  · (first | exact c | (simp only [Option.getD_some]; exact c))
  · (first | exact k | (simp only [Option.getD_some]; exact k))
theorem w_Model_text_331 {rod : Nat → Nat × (Nat → Int32)} {d : Nat} {Q : Option MV → MH → Prop} {u0 : Option MV} {u1 : Option MV} {u2 : Option MV} {u3 : Option MV} {u4 : Option MV} {xs0 : Int32} {xs1 : Int32} {h : MH}   (k1 : xs1.toInt ≤ xs0.toInt → Wb rod d B_Model_text 360 [u0, u1, u2, u3, u4] [] h Q) (k2 : ¬ xs1.toInt ≤ xs0.toInt → Wb rod d B_Model_text 334 [u0, u1, u2, u3, u4] [] h Q) : Wb rod d B_Model_text 331 [u0, u1, u2, u3, u4] [.inl xs1, .inl xs0] h Q := by
  refine Wb.br (fun _ _ => b_Model_text_331) (fun c => ?_) (fun c => ?_)
  · have c : (decide (xs1 ≤ xs0)) = true := by first | exact c | (simp only [Option.getD_some] at c; exact c)
    (first | exact (k1 (c_let c)) | (simp only [Option.getD_some]; exact (k1 (c_let c))))
  · have c : (decide (xs1 ≤ xs0)) = false := by first | exact c | (simp only [Option.getD_some] at c; exact c)
    (first | exact (k2 (c_lef c)) | (simp only [Option.getD_some]; exact (k2 (c_lef c))))
theorem w_Model_text_334 {rod : Nat → Nat × (Nat → Int32)} {d : Nat} {Q : Option MV → MH → Prop} {x1 : Int32} {u2 : Option MV} {x3 : Int32} {u4 : Option MV} {h : MH} (L : Lay h.2)  {Q1 : Option MV → MH → Prop} (c : Wc rod d 216 [.inl x1, .inl x3] h Q1) (k : ∀ r1 h2, Q1 r1 h2 → Wb rod d B_Model_text 343 [some (.inr (.inr (.inl (some 84)))), some (.inl x1), u2, some (.inl x3), u4] (r1.toList ++ [.inr (.inr (.inl (some 85)))]) h2 Q) : Wb rod d B_Model_text 334 [some (.inr (.inr (.inl (some 84)))), some (.inl x1), u2, some (.inl x3), u4] [] h Q := by
  refine Wb.call (fun _ _ _ _ => b_Model_text_334 (Lay.o84 L)) (Q1 := Q1) ?_ ?_
  · (first | exact c | (simp only [Option.getD_some, (Lay.r84_0 L)]; exact c))
  · (first | exact k | (simp only [Option.getD_some, (Lay.r84_0 L)]; exact k))
theorem w_Model_text_343 {rod : Nat → Nat × (Nat → Int32)} {d : Nat} {Q : Option MV → MH → Prop} {u1 : Option MV} {u2 : Option MV} {u3 : Option MV} {x4 : Int32} {cs0 : Nat} {ncs0 : Nat} {xs1 : Int32} {h : MH} (L : Lay h.2) (Scs0 : h.2.2[cs0]? = some (0, ncs0)) (g0 : 0 ≤ x4.toInt ∧ x4.toInt < 121) (g1 : 0 ≤ (xs1 + x4).toInt ∧ (xs1 + x4).toInt < ncs0) (k : Wb rod d B_Model_text 354 [some (.inr (.inr (.inl (some 84)))), u1, u2, u3, some (.inl x4)] [] (sI h cs0 (xs1 + x4).toNatClampNeg (h.1 87 x4.toNatClampNeg)) Q) : Wb rod d B_Model_text 343 [some (.inr (.inr (.inl (some 84)))), u1, u2, u3, some (.inl x4)] [.inl xs1, .inr (.inr (.inl (some cs0)))] h Q := by
  refine Wb.go (fun r hr q => b_Model_text_343 (Lay.o84 L) (Lay.a84_10 L g0) (gA_of Scs0 (inB_of g1.1 g1.2)) ?_) k
  (first | exact q | (simp only [Option.getD_some, (Lay.r84_10 L)]; exact q))
theorem w_Model_text_354 {rod : Nat → Nat × (Nat → Int32)} {d : Nat} {Q : Option MV → MH → Prop} {u0 : Option MV} {u1 : Option MV} {u2 : Option MV} {u3 : Option MV} {x4 : Int32} {h : MH}  (g0 : okl [u0, u1, u2, u3, some (.inl x4)] 4 = true) (k : Wb rod d B_Model_text 325 [u0, u1, u2, u3, some (.inl (x4 + 1))] [] h Q) : Wb rod d B_Model_text 354 [u0, u1, u2, u3, some (.inl x4)] [] h Q := by
  refine Wb.go (fun r hr q => b_Model_text_354 g0 ?_) k
  (first | exact q | (simp only [Option.getD_some]; exact q))
theorem w_Model_text_360 {rod : Nat → Nat × (Nat → Int32)} {d : Nat} {Q : Option MV → MH → Prop} {u0 : Option MV} {u1 : Option MV} {u2 : Option MV} {x3 : Int32} {u4 : Option MV} {h : MH}   (q : Q (some (.inl x3)) h) : Wb rod d B_Model_text 360 [u0, u1, u2, some (.inl x3), u4] [] h Q := by
  refine Wb.ret (b_Model_text_360) ?_
  (first | exact q | (simp only [Option.getD_some]; exact q))
theorem n_Model_advance {rod : Nat → Nat × (Nat → Int32)} {d : Nat} {Q : Option MV → MH → Prop}  {h : MH} (k : Wb rod d B_Model_advance 0 [some (.inr (.inr (.inl (some 84)))), none, none, none] [] h Q) : Wc rod (d + 1) 195 [.inr (.inr (.inl (some 84)))] h Q := Wc.en (fun _ _ => e_Model_advance) k
theorem w_Model_advance_0 {rod : Nat → Nat × (Nat → Int32)} {d : Nat} {Q : Option MV → MH → Prop} {u1 : Option MV} {u2 : Option MV} {u3 : Option MV} {h : MH} (L : Lay h.2)  {Q1 : Option MV → MH → Prop} (c : Wc rod d 196 [.inr (.inr (.inl (some 84))), .inl (h.1 84 3)] h Q1) (k : ∀ r1 h2, Q1 r1 h2 → Wb rod d B_Model_advance 8 [some (.inr (.inr (.inl (some 84)))), u1, u2, u3] (r1.toList ++ []) h2 Q) : Wb rod d B_Model_advance 0 [some (.inr (.inr (.inl (some 84)))), u1, u2, u3] [] h Q := by
  refine Wb.call (fun _ _ _ _ => b_Model_advance_0 (Lay.o84 L)) (Q1 := Q1) ?_ ?_
  · (first | exact c | (simp only [Option.getD_some]; exact c))
  · (first | exact k | (simp only [Option.getD_some]; exact k))
theorem w_Model_advance_8 {rod : Nat → Nat × (Nat → Int32)} {d : Nat} {Q : Option MV → MH → Prop} {u0 : Option MV} {u1 : Option MV} {u2 : Option MV} {u3 : Option MV} {xs0 : Int32} {h : MH}   (k1 : xs0.toInt = 10 → Wb rod d B_Model_advance 26 [u0, u1, u2, u3] [] h Q) (k2 : ¬ xs0.toInt = 10 → Wb rod d B_Model_advance 13 [u0, u1, u2, u3] [] h Q) : Wb rod d B_Model_advance 8 [u0, u1, u2, u3] [.inl xs0] h Q := by
  refine Wb.br (fun _ _ => b_Model_advance_8) (fun c => ?_) (fun c => ?_)
  · have c : (decide (xs0 = (10 : Int32))) = true := by first | exact c | (simp only [Option.getD_some] at c; exact c)
    (first | exact (k1 (c_eqt c)) | (simp only [Option.getD_some]; exact (k1 (c_eqt c))))
  · have c : (decide (xs0 = (10 : Int32))) = false := by first | exact c | (simp only [Option.getD_some] at c; exact c)
    (first | exact (k2 (c_eqf c)) | (simp only [Option.getD_some]; exact (k2 (c_eqf c))))
theorem w_Model_advance_13 {rod : Nat → Nat × (Nat → Int32)} {d : Nat} {Q : Option MV → MH → Prop} {u1 : Option MV} {u2 : Option MV} {u3 : Option MV} {h : MH} (L : Lay h.2)  {Q1 : Option MV → MH → Prop} (c : Wc rod d 196 [.inr (.inr (.inl (some 84))), .inl (h.1 84 3)] h Q1) (k : ∀ r1 h2, Q1 r1 h2 → Wb rod d B_Model_advance 21 [some (.inr (.inr (.inl (some 84)))), u1, u2, u3] (r1.toList ++ []) h2 Q) : Wb rod d B_Model_advance 13 [some (.inr (.inr (.inl (some 84)))), u1, u2, u3] [] h Q := by
  refine Wb.call (fun _ _ _ _ => b_Model_advance_13 (Lay.o84 L)) (Q1 := Q1) ?_ ?_
  · (first | exact c | (simp only [Option.getD_some]; exact c))
  · (first | exact k | (simp only [Option.getD_some]; exact k))
theorem w_Model_advance_21 {rod : Nat → Nat × (Nat → Int32)} {d : Nat} {Q : Option MV → MH → Prop} {u0 : Option MV} {u1 : Option MV} {u2 : Option MV} {u3 : Option MV} {xs0 : Int32} {h : MH}   (k1 : ¬ xs0.toInt = 32 → Wb rod d B_Model_advance 39 [u0, u1, u2, u3] [] h Q) (k2 : xs0.toInt = 32 → Wb rod d B_Model_advance 26 [u0, u1, u2, u3] [] h Q) : Wb rod d B_Model_advance 21 [u0, u1, u2, u3] [.inl xs0] h Q := by
  refine Wb.br (fun _ _ => b_Model_advance_21) (fun c => ?_) (fun c => ?_)
  · have c : (!(decide (xs0 = (32 : Int32)))) = true := by first | exact c | (simp only [Option.getD_some] at c; exact c)
    (first | exact (k1 (c_net c)) | (simp only [Option.getD_some]; exact (k1 (c_net c))))
  · have c : (!(decide (xs0 = (32 : Int32)))) = false := by first | exact c | (simp only [Option.getD_some] at c; exact c)
    (first | exact (k2 (c_nef c)) | (simp only [Option.getD_some]; exact (k2 (c_nef c))))
theorem w_Model_advance_26 {rod : Nat → Nat × (Nat → Int32)} {d : Nat} {Q : Option MV → MH → Prop} {u1 : Option MV} {u2 : Option MV} {u3 : Option MV} {h : MH} (L : Lay h.2)  (k : Wb rod d B_Model_advance 36 [some (.inr (.inr (.inl (some 84)))), u1, u2, u3] [] (sI h 84 3 ((h.1 84 3) + (1 : Int32))) Q) : Wb rod d B_Model_advance 26 [some (.inr (.inr (.inl (some 84)))), u1, u2, u3] [] h Q := by
  refine Wb.go (fun r hr q => b_Model_advance_26 (Lay.o84 L) ?_) k
  (first | exact q | (simp only [Option.getD_some]; exact q))
theorem w_Model_advance_36 {rod : Nat → Nat × (Nat → Int32)} {d : Nat} {Q : Option MV → MH → Prop} {u0 : Option MV} {u1 : Option MV} {u2 : Option MV} {u3 : Option MV} {h : MH}   (k : Wb rod d B_Model_advance 0 [u0, u1, u2, u3] [] h Q) : Wb rod d B_Model_advance 36 [u0, u1, u2, u3] [] h Q := by
  refine Wb.go (fun r hr q => b_Model_advance_36 ?_) k
  (first | exact q | (simp only [Option.getD_some]; exact q))
theorem w_Model_advance_39 {rod : Nat → Nat × (Nat → Int32)} {d : Nat} {Q : Option MV → MH → Prop} {u1 : Option MV} {u2 : Option MV} {u3 : Option MV} {h : MH} (L : Lay h.2)  (k : Wb rod d B_Model_advance 47 [some (.inr (.inr (.inl (some 84)))), u1, u2, u3] [] (sI h 84 4 (h.1 84 3)) Q) : Wb rod d B_Model_advance 39 [some (.inr (.inr (.inl (some 84)))), u1, u2, u3] [] h Q := by
  refine Wb.go (fun r hr q => b_Model_advance_39 (Lay.o84 L) ?_) k
  (first | exact q | (simp only [Option.getD_some]; exact q))
theorem w_Model_advance_47 {rod : Nat → Nat × (Nat → Int32)} {d : Nat} {Q : Option MV → MH → Prop} {u1 : Option MV} {u2 : Option MV} {u3 : Option MV} {h : MH} (L : Lay h.2)  {Q1 : Option MV → MH → Prop} (c : Wc rod d 196 [.inr (.inr (.inl (some 84))), .inl (h.1 84 3)] h Q1) (k : ∀ r1 h2, Q1 r1 h2 → Wb rod d B_Model_advance 55 [some (.inr (.inr (.inl (some 84)))), u1, u2, u3] (r1.toList ++ []) h2 Q) : Wb rod d B_Model_advance 47 [some (.inr (.inr (.inl (some 84)))), u1, u2, u3] [] h Q := by
  refine Wb.call (fun _ _ _ _ => b_Model_advance_47 (Lay.o84 L)) (Q1 := Q1) ?_ ?_
  · (first | exact c | (simp only [Option.getD_some]; exact c))
  · (first | exact k | (simp only [Option.getD_some]; exact k))
theorem w_Model_advance_55 {rod : Nat → Nat × (Nat → Int32)} {d : Nat} {Q : Option MV → MH → Prop} {u0 : Option MV} {u1 : Option MV} {u2 : Option MV} {u3 : Option MV} {xs0 : Int32} {h : MH}  (g0 : okl [u0, u1, u2, u3] 1 = true) (k1 : 0 ≤ xs0.toInt → Wb rod d B_Model_advance 68 [u0, some (.inl xs0), u2, u3] [] h Q) (k2 : ¬ 0 ≤ xs0.toInt → Wb rod d B_Model_advance 60 [u0, some (.inl xs0), u2, u3] [] h Q) : Wb rod d B_Model_advance 55 [u0, u1, u2, u3] [.inl xs0] h Q := by
  refine Wb.br (fun _ _ => b_Model_advance_55 g0) (fun c => ?_) (fun c => ?_)
  · have c : (decide (0 ≤ xs0)) = true := by first | exact c | (simp only [Option.getD_some] at c; exact c)
    (first | exact (k1 (c_let c)) | (simp only [Option.getD_some]; exact (k1 (c_let c))))
  · have c : (decide (0 ≤ xs0)) = false := by first | exact c | (simp only [Option.getD_some] at c; exact c)
    (first | exact (k2 (c_lef c)) | (simp only [Option.getD_some]; exact (k2 (c_lef c))))
theorem w_Model_advance_60 {rod : Nat → Nat × (Nat → Int32)} {d : Nat} {Q : Option MV → MH → Prop} {u1 : Option MV} {u2 : Option MV} {u3 : Option MV} {h : MH} (L : Lay h.2)  (k : Wb rod d B_Model_advance 65 [some (.inr (.inr (.inl (some 84)))), u1, u2, u3] [] (sI h 84 5 (0 : Int32)) Q) : Wb rod d B_Model_advance 60 [some (.inr (.inr (.inl (some 84)))), u1, u2, u3] [] h Q := by
  refine Wb.go (fun r hr q => b_Model_advance_60 (Lay.o84 L) ?_) k
  (first | exact q | (simp only [Option.getD_some]; exact q))
theorem w_Model_advance_65 {rod : Nat → Nat × (Nat → Int32)} {d : Nat} {Q : Option MV → MH → Prop} {u0 : Option MV} {u1 : Option MV} {u2 : Option MV} {u3 : Option MV} {h : MH}   (k : Wb rod d B_Model_advance 311 [u0, u1, u2, u3] [] h Q) : Wb rod d B_Model_advance 65 [u0, u1, u2, u3] [] h Q := by
  refine Wb.go (fun r hr q => b_Model_advance_65 ?_) k
  (first | exact q | (simp only [Option.getD_some]; exact q))
theorem w_Model_advance_68 {rod : Nat → Nat × (Nat → Int32)} {d : Nat} {Q : Option MV → MH → Prop} {u0 : Option MV} {x1 : Int32} {u2 : Option MV} {u3 : Option MV} {h : MH}   {Q1 : Option MV → MH → Prop} (c : Wc rod d 197 [.inl x1] h Q1) (k : ∀ r1 h2, Q1 r1 h2 → Wb rod d B_Model_advance 72 [u0, some (.inl x1), u2, u3] (r1.toList ++ []) h2 Q) : Wb rod d B_Model_advance 68 [u0, some (.inl x1), u2, u3] [] h Q := by
  refine Wb.call (fun _ _ _ _ => b_Model_advance_68) (Q1 := Q1) ?_ ?_
  · (first | exact c | (simp only [Option.getD_some]; exact c))
  · (first | exact k | (simp only [Option.getD_some]; exact k))
theorem w_Model_advance_72 {rod : Nat → Nat × (Nat → Int32)} {d : Nat} {Q : Option MV → MH → Prop} {u0 : Option MV} {u1 : Option MV} {u2 : Option MV} {u3 : Option MV} {xs0 : Int32} {h : MH}   (k1 : xs0.toInt = 0 → Wb rod d B_Model_advance 186 [u0, u1, u2, u3] [] h Q) (k2 : ¬ xs0.toInt = 0 → Wb rod d B_Model_advance 75 [u0, u1, u2, u3] [] h Q) : Wb rod d B_Model_advance 72 [u0, u1, u2, u3] [.inl xs0] h Q := by
  refine Wb.br (fun _ _ => b_Model_advance_72) (fun c => ?_) (fun c => ?_)
  · have c : (decide (xs0 = 0)) = true := by first | exact c | (simp only [Option.getD_some] at c; exact c)
    (first | exact (k1 (c_eqt c)) | (simp only [Option.getD_some]; exact (k1 (c_eqt c))))
  · have c : (decide (xs0 = 0)) = false := by first | exact c | (simp only [Option.getD_some] at c; exact c)
    (first | exact (k2 (c_eqf c)) | (simp only [Option.getD_some]; exact (k2 (c_eqf c))))
theorem w_Model_advance_75 {rod : Nat → Nat × (Nat → Int32)} {d : Nat} {Q : Option MV → MH → Prop} {u0 : Option MV} {u1 : Option MV} {u2 : Option MV} {u3 : Option MV} {h : MH}  (g0 : okl [u0, u1, u2, u3] 2 = true) (k : Wb rod d B_Model_advance 77 [u0, u1, some (.inr (.inl (0 : Int64))), none] [] h Q) : Wb rod d B_Model_advance 75 [u0, u1, u2, u3] [] h Q := by
  refine Wb.go (fun r hr q => b_Model_advance_75 g0 ?_) k
  (first | exact q | (simp only [Option.getD_some]; exact q))
theorem w_Model_advance_77 {rod : Nat → Nat × (Nat → Int32)} {d : Nat} {Q : Option MV → MH → Prop} {u1 : Option MV} {u2 : Option MV} {u3 : Option MV} {h : MH} (L : Lay h.2)  {Q1 : Option MV → MH → Prop} (c : Wc rod d 196 [.inr (.inr (.inl (some 84))), .inl (h.1 84 3)] h Q1) (k : ∀ r1 h2, Q1 r1 h2 → Wb rod d B_Model_advance 85 [some (.inr (.inr (.inl (some 84)))), u1, u2, u3] (r1.toList ++ []) h2 Q) : Wb rod d B_Model_advance 77 [some (.inr (.inr (.inl (some 84)))), u1, u2, u3] [] h Q := by
  refine Wb.call (fun _ _ _ _ => b_Model_advance_77 (Lay.o84 L)) (Q1 := Q1) ?_ ?_
  · (first | exact c | (simp only [Option.getD_some]; exact c))
  · (first | exact k | (simp only [Option.getD_some]; exact k))
theorem w_Model_advance_85 {rod : Nat → Nat × (Nat → Int32)} {d : Nat} {Q : Option MV → MH → Prop} {u0 : Option MV} {u1 : Option MV} {u2 : Option MV} {u3 : Option MV} {xs0 : Int32} {h : MH}   {Q1 : Option MV → MH → Prop} (c : Wc rod d 197 [.inl xs0] h Q1) (k : ∀ r1 h2, Q1 r1 h2 → Wb rod d B_Model_advance 88 [u0, u1, u2, u3] (r1.toList ++ []) h2 Q) : Wb rod d B_Model_advance 85 [u0, u1, u2, u3] [.inl xs0] h Q := by
  refine Wb.call (fun _ _ _ _ => b_Model_advance_85) (Q1 := Q1) ?_ ?_
  · (first | exact c | (simp only [Option.getD_some]; exact c))
  · (first | exact k | (simp only [Option.getD_some]; exact k))
theorem w_Model_advance_88 {rod : Nat → Nat × (Nat → Int32)} {d : Nat} {Q : Option MV → MH → Prop} {u0 : Option MV} {u1 : Option MV} {u2 : Option MV} {u3 : Option MV} {xs0 : Int32} {h : MH}   (k1 : xs0.toInt = 0 → Wb rod d B_Model_advance 138 [u0, u1, u2, u3] [] h Q) (k2 : ¬ xs0.toInt = 0 → Wb rod d B_Model_advance 91 [u0, u1, u2, u3] [] h Q) : Wb rod d B_Model_advance 88 [u0, u1, u2, u3] [.inl xs0] h Q := by
  refine Wb.br (fun _ _ => b_Model_advance_88) (fun c => ?_) (fun c => ?_)
  · have c : (decide (xs0 = 0)) = true := by first | exact c | (simp only [Option.getD_some] at c; exact c)
    (first | exact (k1 (c_eqt c)) | (simp only [Option.getD_some]; exact (k1 (c_eqt c))))
  · have c : (decide (xs0 = 0)) = false := by first | exact c | (simp only [Option.getD_some] at c; exact c)
    (first | exact (k2 (c_eqf c)) | (simp only [Option.getD_some]; exact (k2 (c_eqf c))))
theorem w_Model_advance_91 {rod : Nat → Nat × (Nat → Int32)} {d : Nat} {Q : Option MV → MH → Prop} {u1 : Option MV} {u2 : Option MV} {u3 : Option MV} {h : MH} (L : Lay h.2)  (k1 : 8 ≤ ((h.1 84 3) - (h.1 84 4)).toInt → Wb rod d B_Model_advance 125 [some (.inr (.inr (.inl (some 84)))), u1, u2, u3] [] h Q) (k2 : ¬ 8 ≤ ((h.1 84 3) - (h.1 84 4)).toInt → Wb rod d B_Model_advance 105 [some (.inr (.inr (.inl (some 84)))), u1, u2, u3] [] h Q) : Wb rod d B_Model_advance 91 [some (.inr (.inr (.inl (some 84)))), u1, u2, u3] [] h Q := by
  refine Wb.br (fun _ _ => b_Model_advance_91 (Lay.o84 L)) (fun c => ?_) (fun c => ?_)
  · have c : (decide ((8 : Int32) ≤ ((h.1 84 3) - (h.1 84 4)))) = true := by first | exact c | (simp only [Option.getD_some] at c; exact c)
    (first | exact (k1 (c_let c)) | (simp only [Option.getD_some]; exact (k1 (c_let c))))
  · have c : (decide ((8 : Int32) ≤ ((h.1 84 3) - (h.1 84 4)))) = false := by first | exact c | (simp only [Option.getD_some] at c; exact c)
    (first | exact (k2 (c_lef c)) | (simp only [Option.getD_some]; exact (k2 (c_lef c))))
theorem w_Model_advance_105 {rod : Nat → Nat × (Nat → Int32)} {d : Nat} {Q : Option MV → MH → Prop} {u1 : Option MV} {z2 : Int64} {u3 : Option MV} {h : MH} (L : Lay h.2)  {Q1 : Option MV → MH → Prop} (c : Wc rod d 196 [.inr (.inr (.inl (some 84))), .inl (h.1 84 3)] h Q1) (k : ∀ r1 h2, Q1 r1 h2 → Wb rod d B_Model_advance 118 [some (.inr (.inr (.inl (some 84)))), u1, some (.inr (.inl z2)), u3] (r1.toList ++ [.inr (.inl ((32 : Int64) * z2))]) h2 Q) : Wb rod d B_Model_advance 105 [some (.inr (.inr (.inl (some 84)))), u1, some (.inr (.inl z2)), u3] [] h Q := by
  refine Wb.call (fun _ _ _ _ => b_Model_advance_105 (Lay.o84 L)) (Q1 := Q1) ?_ ?_
  · (first | exact c | (simp only [Option.getD_some]; exact c))
  · (first | exact k | (simp only [Option.getD_some]; exact k))
theorem w_Model_advance_118 {rod : Nat → Nat × (Nat → Int32)} {d : Nat} {Q : Option MV → MH → Prop} {u0 : Option MV} {u1 : Option MV} {u2 : Option MV} {u3 : Option MV} {zs0 : Int64} {xs1 : Int32} {h : MH}  (g0 : okl [u0, u1, u2, u3] 2 = true) (k : Wb rod d B_Model_advance 125 [u0, u1, some (.inr (.inl ((zs0 + (xs1.toInt64)) - (96 : Int64)))), none] [] h Q) : Wb rod d B_Model_advance 118 [u0, u1, u2, u3] [.inl xs1, .inr (.inl zs0)] h Q := by
  refine Wb.go (fun r hr q => b_Model_advance_118 g0 ?_) k
  (first | exact q | (simp only [Option.getD_some]; exact q))
theorem w_Model_advance_125 {rod : Nat → Nat × (Nat → Int32)} {d : Nat} {Q : Option MV → MH → Prop} {u1 : Option MV} {u2 : Option MV} {u3 : Option MV} {h : MH} (L : Lay h.2)  (k : Wb rod d B_Model_advance 135 [some (.inr (.inr (.inl (some 84)))), u1, u2, u3] [] (sI h 84 3 ((h.1 84 3) + (1 : Int32))) Q) : Wb rod d B_Model_advance 125 [some (.inr (.inr (.inl (some 84)))), u1, u2, u3] [] h Q := by
  refine Wb.go (fun r hr q => b_Model_advance_125 (Lay.o84 L) ?_) k
  (first | exact q | (simp only [Option.getD_some]; exact q))
theorem w_Model_advance_135 {rod : Nat → Nat × (Nat → Int32)} {d : Nat} {Q : Option MV → MH → Prop} {u0 : Option MV} {u1 : Option MV} {u2 : Option MV} {u3 : Option MV} {h : MH}   (k : Wb rod d B_Model_advance 77 [u0, u1, u2, u3] [] h Q) : Wb rod d B_Model_advance 135 [u0, u1, u2, u3] [] h Q := by
  refine Wb.go (fun r hr q => b_Model_advance_135 ?_) k
  (first | exact q | (simp only [Option.getD_some]; exact q))
theorem w_Model_advance_138 {rod : Nat → Nat × (Nat → Int32)} {d : Nat} {Q : Option MV → MH → Prop} {u1 : Option MV} {u2 : Option MV} {u3 : Option MV} {h : MH} (L : Lay h.2)  (k1 : ((h.1 84 3) - (h.1 84 4)).toInt ≤ 8 → Wb rod d B_Model_advance 158 [some (.inr (.inr (.inl (some 84)))), u1, u2, u3] [.inr (.inr (.inl (some 84)))] h Q) (k2 : ¬ ((h.1 84 3) - (h.1 84 4)).toInt ≤ 8 → Wb rod d B_Model_advance 153 [some (.inr (.inr (.inl (some 84)))), u1, u2, u3] [.inr (.inr (.inl (some 84)))] h Q) : Wb rod d B_Model_advance 138 [some (.inr (.inr (.inl (some 84)))), u1, u2, u3] [] h Q := by
  refine Wb.br (fun _ _ => b_Model_advance_138 (Lay.o84 L)) (fun c => ?_) (fun c => ?_)
  · have c : (decide (((h.1 84 3) - (h.1 84 4)) ≤ (8 : Int32))) = true := by first | exact c | (simp only [Option.getD_some] at c; exact c)
    (first | exact (k1 (c_let c)) | (simp only [Option.getD_some]; exact (k1 (c_let c))))
  · have c : (decide (((h.1 84 3) - (h.1 84 4)) ≤ (8 : Int32))) = false := by first | exact c | (simp only [Option.getD_some] at c; exact c)
    (first | exact (k2 (c_lef c)) | (simp only [Option.getD_some]; exact (k2 (c_lef c))))
theorem w_Model_advance_153 {rod : Nat → Nat × (Nat → Int32)} {d : Nat} {Q : Option MV → MH → Prop} {u0 : Option MV} {u1 : Option MV} {u2 : Option MV} {u3 : Option MV} {h : MH}   (k : Wb rod d B_Model_advance 162 [u0, u1, u2, u3] [.inl (99 : Int32), .inr (.inr (.inl (some 84)))] h Q) : Wb rod d B_Model_advance 153 [u0, u1, u2, u3] [.inr (.inr (.inl (some 84)))] h Q := by
  refine Wb.go (fun r hr q => b_Model_advance_153 ?_) k
  (first | exact q | (simp only [Option.getD_some]; exact q))
theorem w_Model_advance_158 {rod : Nat → Nat × (Nat → Int32)} {d : Nat} {Q : Option MV → MH → Prop} {u0 : Option MV} {u1 : Option MV} {z2 : Int64} {u3 : Option MV} {h : MH}   {Q1 : Option MV → MH → Prop} (c : Wc rod d 198 [.inr (.inl z2)] h Q1) (k : ∀ r1 h2, Q1 r1 h2 → Wb rod d B_Model_advance 162 [u0, u1, some (.inr (.inl z2)), u3] (r1.toList ++ [.inr (.inr (.inl (some 84)))]) h2 Q) : Wb rod d B_Model_advance 158 [u0, u1, some (.inr (.inl z2)), u3] [.inr (.inr (.inl (some 84)))] h Q := by
  refine Wb.call (fun _ _ _ _ => b_Model_advance_158) (Q1 := Q1) ?_ ?_
  · (first | exact c | (simp only [Option.getD_some]; exact c))
  · (first | exact k | (simp only [Option.getD_some]; exact k))
theorem w_Model_advance_162 {rod : Nat → Nat × (Nat → Int32)} {d : Nat} {Q : Option MV → MH → Prop} {u0 : Option MV} {u1 : Option MV} {u2 : Option MV} {u3 : Option MV} {xs1 : Int32} {h : MH} (L : Lay h.2)  (k : Wb rod d B_Model_advance 165 [u0, u1, u2, u3] [] (sI h 84 7 xs1) Q) : Wb rod d B_Model_advance 162 [u0, u1, u2, u3] [.inl xs1, .inr (.inr (.inl (some 84)))] h Q := by
  refine Wb.go (fun r hr q => b_Model_advance_162 (Lay.o84 L) ?_) k
  (first | exact q | (simp only [Option.getD_some]; exact q))
theorem w_Model_advance_165 {rod : Nat → Nat × (Nat → Int32)} {d : Nat} {Q : Option MV → MH → Prop} {u1 : Option MV} {u2 : Option MV} {u3 : Option MV} {h : MH} (L : Lay h.2)  (k1 : ¬ (h.1 84 7).toInt = 99 → Wb rod d B_Model_advance 179 [some (.inr (.inr (.inl (some 84)))), u1, u2, u3] [.inr (.inr (.inl (some 84)))] h Q) (k2 : (h.1 84 7).toInt = 99 → Wb rod d B_Model_advance 175 [some (.inr (.inr (.inl (some 84)))), u1, u2, u3] [.inr (.inr (.inl (some 84)))] h Q) : Wb rod d B_Model_advance 165 [some (.inr (.inr (.inl (some 84)))), u1, u2, u3] [] h Q := by
  refine Wb.br (fun _ _ => b_Model_advance_165 (Lay.o84 L)) (fun c => ?_) (fun c => ?_)
  · have c : (!(decide ((h.1 84 7) = (99 : Int32)))) = true := by first | exact c | (simp only [Option.getD_some] at c; exact c)
    (first | exact (k1 (c_net c)) | (simp only [Option.getD_some]; exact (k1 (c_net c))))
  · have c : (!(decide ((h.1 84 7) = (99 : Int32)))) = false := by first | exact c | (simp only [Option.getD_some] at c; exact c)
    (first | exact (k2 (c_nef c)) | (simp only [Option.getD_some]; exact (k2 (c_nef c))))
theorem w_Model_advance_175 {rod : Nat → Nat × (Nat → Int32)} {d : Nat} {Q : Option MV → MH → Prop} {u0 : Option MV} {u1 : Option MV} {u2 : Option MV} {u3 : Option MV} {h : MH}   (k : Wb rod d B_Model_advance 180 [u0, u1, u2, u3] [.inl (4 : Int32), .inr (.inr (.inl (some 84)))] h Q) : Wb rod d B_Model_advance 175 [u0, u1, u2, u3] [.inr (.inr (.inl (some 84)))] h Q := by
  refine Wb.go (fun r hr q => b_Model_advance_175 ?_) k
  (first | exact q | (simp only [Option.getD_some]; exact q))
theorem w_Model_advance_179 {rod : Nat → Nat × (Nat → Int32)} {d : Nat} {Q : Option MV → MH → Prop} {u0 : Option MV} {u1 : Option MV} {u2 : Option MV} {u3 : Option MV} {h : MH}   (k : Wb rod d B_Model_advance 180 [u0, u1, u2, u3] [.inl (3 : Int32), .inr (.inr (.inl (some 84)))] h Q) : Wb rod d B_Model_advance 179 [u0, u1, u2, u3] [.inr (.inr (.inl (some 84)))] h Q := by
  refine Wb.go (fun r hr q => b_Model_advance_179 ?_) k
  (first | exact q | (simp only [Option.getD_some]; exact q))
theorem w_Model_advance_180 {rod : Nat → Nat × (Nat → Int32)} {d : Nat} {Q : Option MV → MH → Prop} {u0 : Option MV} {u1 : Option MV} {u2 : Option MV} {u3 : Option MV} {xs1 : Int32} {h : MH} (L : Lay h.2)  (k : Wb rod d B_Model_advance 183 [u0, u1, u2, u3] [] (sI h 84 5 xs1) Q) : Wb rod d B_Model_advance 180 [u0, u1, u2, u3] [.inl xs1, .inr (.inr (.inl (some 84)))] h Q := by
  refine Wb.go (fun r hr q => b_Model_advance_180 (Lay.o84 L) ?_) k
  (first | exact q | (simp only [Option.getD_some]; exact q))
theorem w_Model_advance_183 {rod : Nat → Nat × (Nat → Int32)} {d : Nat} {Q : Option MV → MH → Prop} {u0 : Option MV} {u1 : Option MV} {u2 : Option MV} {u3 : Option MV} {h : MH}   (k : Wb rod d B_Model_advance 311 [u0, u1, u2, u3] [] h Q) : Wb rod d B_Model_advance 183 [u0, u1, u2, u3] [] h Q := by
  refine Wb.go (fun r hr q => b_Model_advance_183 ?_) k
  (first | exact q | (simp only [Option.getD_some]; exact q))
theorem w_Model_advance_186 {rod : Nat → Nat × (Nat → Int32)} {d : Nat} {Q : Option MV → MH → Prop} {u0 : Option MV} {x1 : Int32} {u2 : Option MV} {u3 : Option MV} {h : MH}   {Q1 : Option MV → MH → Prop} (c : Wc rod d 201 [.inl x1] h Q1) (k : ∀ r1 h2, Q1 r1 h2 → Wb rod d B_Model_advance 190 [u0, some (.inl x1), u2, u3] (r1.toList ++ []) h2 Q) : Wb rod d B_Model_advance 186 [u0, some (.inl x1), u2, u3] [] h Q := by
  refine Wb.call (fun _ _ _ _ => b_Model_advance_186) (Q1 := Q1) ?_ ?_
  · (first | exact c | (simp only [Option.getD_some]; exact c))
  · (first | exact k | (simp only [Option.getD_some]; exact k))
theorem w_Model_advance_190 {rod : Nat → Nat × (Nat → Int32)} {d : Nat} {Q : Option MV → MH → Prop} {u0 : Option MV} {u1 : Option MV} {u2 : Option MV} {u3 : Option MV} {xs0 : Int32} {h : MH}   (k1 : xs0.toInt = 0 → Wb rod d B_Model_advance 286 [u0, u1, u2, u3] [] h Q) (k2 : ¬ xs0.toInt = 0 → Wb rod d B_Model_advance 193 [u0, u1, u2, u3] [] h Q) : Wb rod d B_Model_advance 190 [u0, u1, u2, u3] [.inl xs0] h Q := by
  refine Wb.br (fun _ _ => b_Model_advance_190) (fun c => ?_) (fun c => ?_)
  · have c : (decide (xs0 = 0)) = true := by first | exact c | (simp only [Option.getD_some] at c; exact c)
    (first | exact (k1 (c_eqt c)) | (simp only [Option.getD_some]; exact (k1 (c_eqt c))))
  · have c : (decide (xs0 = 0)) = false := by first | exact c | (simp only [Option.getD_some] at c; exact c)
    (first | exact (k2 (c_eqf c)) | (simp only [Option.getD_some]; exact (k2 (c_eqf c))))
theorem w_Model_advance_193 {rod : Nat → Nat × (Nat → Int32)} {d : Nat} {Q : Option MV → MH → Prop} {u1 : Option MV} {u2 : Option MV} {u3 : Option MV} {h : MH} (L : Lay h.2)  (k : Wb rod d B_Model_advance 198 [some (.inr (.inr (.inl (some 84)))), u1, u2, u3] [] (sI h 84 6 (0 : Int32)) Q) : Wb rod d B_Model_advance 193 [some (.inr (.inr (.inl (some 84)))), u1, u2, u3] [] h Q := by
  refine Wb.go (fun r hr q => b_Model_advance_193 (Lay.o84 L) ?_) k
  (first | exact q | (simp only [Option.getD_some]; exact q))
theorem w_Model_advance_198 {rod : Nat → Nat × (Nat → Int32)} {d : Nat} {Q : Option MV → MH → Prop} {u1 : Option MV} {u2 : Option MV} {u3 : Option MV} {h : MH} (L : Lay h.2)  {Q1 : Option MV → MH → Prop} (c : Wc rod d 196 [.inr (.inr (.inl (some 84))), .inl (h.1 84 3)] h Q1) (k : ∀ r1 h2, Q1 r1 h2 → Wb rod d B_Model_advance 206 [some (.inr (.inr (.inl (some 84)))), u1, u2, u3] (r1.toList ++ []) h2 Q) : Wb rod d B_Model_advance 198 [some (.inr (.inr (.inl (some 84)))), u1, u2, u3] [] h Q := by
  refine Wb.call (fun _ _ _ _ => b_Model_advance_198 (Lay.o84 L)) (Q1 := Q1) ?_ ?_
  · (first | exact c | (simp only [Option.getD_some]; exact c))
  · (first | exact k | (simp only [Option.getD_some]; exact k))
theorem w_Model_advance_206 {rod : Nat → Nat × (Nat → Int32)} {d : Nat} {Q : Option MV → MH → Prop} {u0 : Option MV} {u1 : Option MV} {u2 : Option MV} {u3 : Option MV} {xs0 : Int32} {h : MH}   {Q1 : Option MV → MH → Prop} (c : Wc rod d 201 [.inl xs0] h Q1) (k : ∀ r1 h2, Q1 r1 h2 → Wb rod d B_Model_advance 209 [u0, u1, u2, u3] (r1.toList ++ []) h2 Q) : Wb rod d B_Model_advance 206 [u0, u1, u2, u3] [.inl xs0] h Q := by
  refine Wb.call (fun _ _ _ _ => b_Model_advance_206) (Q1 := Q1) ?_ ?_
  · (first | exact c | (simp only [Option.getD_some]; exact c))
  · (first | exact k | (simp only [Option.getD_some]; exact k))
theorem w_Model_advance_209 {rod : Nat → Nat × (Nat → Int32)} {d : Nat} {Q : Option MV → MH → Prop} {u0 : Option MV} {u1 : Option MV} {u2 : Option MV} {u3 : Option MV} {xs0 : Int32} {h : MH}   (k1 : xs0.toInt = 0 → Wb rod d B_Model_advance 261 [u0, u1, u2, u3] [] h Q) (k2 : ¬ xs0.toInt = 0 → Wb rod d B_Model_advance 212 [u0, u1, u2, u3] [] h Q) : Wb rod d B_Model_advance 209 [u0, u1, u2, u3] [.inl xs0] h Q := by
  refine Wb.br (fun _ _ => b_Model_advance_209) (fun c => ?_) (fun c => ?_)
  · have c : (decide (xs0 = 0)) = true := by first | exact c | (simp only [Option.getD_some] at c; exact c)
    (first | exact (k1 (c_eqt c)) | (simp only [Option.getD_some]; exact (k1 (c_eqt c))))
  · have c : (decide (xs0 = 0)) = false := by first | exact c | (simp only [Option.getD_some] at c; exact c)
    (first | exact (k2 (c_eqf c)) | (simp only [Option.getD_some]; exact (k2 (c_eqf c))))
theorem w_Model_advance_212 {rod : Nat → Nat × (Nat → Int32)} {d : Nat} {Q : Option MV → MH → Prop} {u1 : Option MV} {u2 : Option MV} {u3 : Option MV} {h : MH} (L : Lay h.2)  (k1 : 2 ≤ ((h.1 84 3) - (h.1 84 4)).toInt → Wb rod d B_Model_advance 248 [some (.inr (.inr (.inl (some 84)))), u1, u2, u3] [] h Q) (k2 : ¬ 2 ≤ ((h.1 84 3) - (h.1 84 4)).toInt → Wb rod d B_Model_advance 225 [some (.inr (.inr (.inl (some 84)))), u1, u2, u3] [] h Q) : Wb rod d B_Model_advance 212 [some (.inr (.inr (.inl (some 84)))), u1, u2, u3] [] h Q := by
  refine Wb.br (fun _ _ => b_Model_advance_212 (Lay.o84 L)) (fun c => ?_) (fun c => ?_)
  · have c : (decide ((2 : Int32) ≤ ((h.1 84 3) - (h.1 84 4)))) = true := by first | exact c | (simp only [Option.getD_some] at c; exact c)
    (first | exact (k1 (c_let c)) | (simp only [Option.getD_some]; exact (k1 (c_let c))))
  · have c : (decide ((2 : Int32) ≤ ((h.1 84 3) - (h.1 84 4)))) = false := by first | exact c | (simp only [Option.getD_some] at c; exact c)
    (first | exact (k2 (c_lef c)) | (simp only [Option.getD_some]; exact (k2 (c_lef c))))
theorem w_Model_advance_225 {rod : Nat → Nat × (Nat → Int32)} {d : Nat} {Q : Option MV → MH → Prop} {u1 : Option MV} {u2 : Option MV} {u3 : Option MV} {h : MH} (L : Lay h.2)  {Q1 : Option MV → MH → Prop} (c : Wc rod d 196 [.inr (.inr (.inl (some 84))), .inl (h.1 84 3)] h Q1) (k : ∀ r1 h2, Q1 r1 h2 → Wb rod d B_Model_advance 241 [some (.inr (.inr (.inl (some 84)))), u1, u2, u3] (r1.toList ++ [.inl ((10 : Int32) * (h.1 84 6)), .inr (.inr (.inl (some 84)))]) h2 Q) : Wb rod d B_Model_advance 225 [some (.inr (.inr (.inl (some 84)))), u1, u2, u3] [] h Q := by
  refine Wb.call (fun _ _ _ _ => b_Model_advance_225 (Lay.o84 L)) (Q1 := Q1) ?_ ?_
  · (first | exact c | (simp only [Option.getD_some]; exact c))
  · (first | exact k | (simp only [Option.getD_some]; exact k))
theorem w_Model_advance_241 {rod : Nat → Nat × (Nat → Int32)} {d : Nat} {Q : Option MV → MH → Prop} {u0 : Option MV} {u1 : Option MV} {u2 : Option MV} {u3 : Option MV} {xs1 : Int32} {xs2 : Int32} {h : MH} (L : Lay h.2)  (k : Wb rod d B_Model_advance 248 [u0, u1, u2, u3] [] (sI h 84 6 ((xs1 + xs2) - (48 : Int32))) Q) : Wb rod d B_Model_advance 241 [u0, u1, u2, u3] [.inl xs2, .inl xs1, .inr (.inr (.inl (some 84)))] h Q := by
  refine Wb.go (fun r hr q => b_Model_advance_241 (Lay.o84 L) ?_) k
  (first | exact q | (simp only [Option.getD_some]; exact q))
theorem w_Model_advance_248 {rod : Nat → Nat × (Nat → Int32)} {d : Nat} {Q : Option MV → MH → Prop} {u1 : Option MV} {u2 : Option MV} {u3 : Option MV} {h : MH} (L : Lay h.2)  (k : Wb rod d B_Model_advance 258 [some (.inr (.inr (.inl (some 84)))), u1, u2, u3] [] (sI h 84 3 ((h.1 84 3) + (1 : Int32))) Q) : Wb rod d B_Model_advance 248 [some (.inr (.inr (.inl (some 84)))), u1, u2, u3] [] h Q := by
  refine Wb.go (fun r hr q => b_Model_advance_248 (Lay.o84 L) ?_) k
  (first | exact q | (simp only [Option.getD_some]; exact q))
theorem w_Model_advance_258 {rod : Nat → Nat × (Nat → Int32)} {d : Nat} {Q : Option MV → MH → Prop} {u0 : Option MV} {u1 : Option MV} {u2 : Option MV} {u3 : Option MV} {h : MH}   (k : Wb rod d B_Model_advance 198 [u0, u1, u2, u3] [] h Q) : Wb rod d B_Model_advance 258 [u0, u1, u2, u3] [] h Q := by
  refine Wb.go (fun r hr q => b_Model_advance_258 ?_) k
  (first | exact q | (simp only [Option.getD_some]; exact q))
theorem w_Model_advance_261 {rod : Nat → Nat × (Nat → Int32)} {d : Nat} {Q : Option MV → MH → Prop} {u1 : Option MV} {u2 : Option MV} {u3 : Option MV} {h : MH} (L : Lay h.2)  (k1 : ((h.1 84 3) - (h.1 84 4)).toInt ≤ 2 → Wb rod d B_Model_advance 279 [some (.inr (.inr (.inl (some 84)))), u1, u2, u3] [.inr (.inr (.inl (some 84)))] h Q) (k2 : ¬ ((h.1 84 3) - (h.1 84 4)).toInt ≤ 2 → Wb rod d B_Model_advance 275 [some (.inr (.inr (.inl (some 84)))), u1, u2, u3] [.inr (.inr (.inl (some 84)))] h Q) : Wb rod d B_Model_advance 261 [some (.inr (.inr (.inl (some 84)))), u1, u2, u3] [] h Q := by
  refine Wb.br (fun _ _ => b_Model_advance_261 (Lay.o84 L)) (fun c => ?_) (fun c => ?_)
  · have c : (decide (((h.1 84 3) - (h.1 84 4)) ≤ (2 : Int32))) = true := by first | exact c | (simp only [Option.getD_some] at c; exact c)
    (first | exact (k1 (c_let c)) | (simp only [Option.getD_some]; exact (k1 (c_let c))))
  · have c : (decide (((h.1 84 3) - (h.1 84 4)) ≤ (2 : Int32))) = false := by first | exact c | (simp only [Option.getD_some] at c; exact c)
    (first | exact (k2 (c_lef c)) | (simp only [Option.getD_some]; exact (k2 (c_lef c))))
theorem w_Model_advance_275 {rod : Nat → Nat × (Nat → Int32)} {d : Nat} {Q : Option MV → MH → Prop} {u0 : Option MV} {u1 : Option MV} {u2 : Option MV} {u3 : Option MV} {h : MH}   (k : Wb rod d B_Model_advance 280 [u0, u1, u2, u3] [.inl (4 : Int32), .inr (.inr (.inl (some 84)))] h Q) : Wb rod d B_Model_advance 275 [u0, u1, u2, u3] [.inr (.inr (.inl (some 84)))] h Q := by
  refine Wb.go (fun r hr q => b_Model_advance_275 ?_) k
  (first | exact q | (simp only [Option.getD_some]; exact q))
theorem w_Model_advance_279 {rod : Nat → Nat × (Nat → Int32)} {d : Nat} {Q : Option MV → MH → Prop} {u0 : Option MV} {u1 : Option MV} {u2 : Option MV} {u3 : Option MV} {h : MH}   (k : Wb rod d B_Model_advance 280 [u0, u1, u2, u3] [.inl (1 : Int32), .inr (.inr (.inl (some 84)))] h Q) : Wb rod d B_Model_advance 279 [u0, u1, u2, u3] [.inr (.inr (.inl (some 84)))] h Q := by
  refine Wb.go (fun r hr q => b_Model_advance_279 ?_) k
  (first | exact q | (simp only [Option.getD_some]; exact q))
theorem w_Model_advance_280 {rod : Nat → Nat × (Nat → Int32)} {d : Nat} {Q : Option MV → MH → Prop} {u0 : Option MV} {u1 : Option MV} {u2 : Option MV} {u3 : Option MV} {xs1 : Int32} {h : MH} (L : Lay h.2)  (k : Wb rod d B_Model_advance 283 [u0, u1, u2, u3] [] (sI h 84 5 xs1) Q) : Wb rod d B_Model_advance 280 [u0, u1, u2, u3] [.inl xs1, .inr (.inr (.inl (some 84)))] h Q := by
  refine Wb.go (fun r hr q => b_Model_advance_280 (Lay.o84 L) ?_) k
  (first | exact q | (simp only [Option.getD_some]; exact q))
theorem w_Model_advance_283 {rod : Nat → Nat × (Nat → Int32)} {d : Nat} {Q : Option MV → MH → Prop} {u0 : Option MV} {u1 : Option MV} {u2 : Option MV} {u3 : Option MV} {h : MH}   (k : Wb rod d B_Model_advance 311 [u0, u1, u2, u3] [] h Q) : Wb rod d B_Model_advance 283 [u0, u1, u2, u3] [] h Q := by
  refine Wb.go (fun r hr q => b_Model_advance_283 ?_) k
  (first | exact q | (simp only [Option.getD_some]; exact q))
theorem w_Model_advance_286 {rod : Nat → Nat × (Nat → Int32)} {d : Nat} {Q : Option MV → MH → Prop} {u1 : Option MV} {u2 : Option MV} {u3 : Option MV} {h : MH} (L : Lay h.2)  (k : Wb rod d B_Model_advance 296 [some (.inr (.inr (.inl (some 84)))), u1, u2, u3] [] (sI h 84 3 ((h.1 84 3) + (1 : Int32))) Q) : Wb rod d B_Model_advance 286 [some (.inr (.inr (.inl (some 84)))), u1, u2, u3] [] h Q := by
  refine Wb.go (fun r hr q => b_Model_advance_286 (Lay.o84 L) ?_) k
  (first | exact q | (simp only [Option.getD_some]; exact q))
theorem w_Model_advance_296 {rod : Nat → Nat × (Nat → Int32)} {d : Nat} {Q : Option MV → MH → Prop} {x1 : Int32} {u2 : Option MV} {u3 : Option MV} {h : MH}   (k1 : ¬ x1.toInt = 59 → Wb rod d B_Model_advance 307 [some (.inr (.inr (.inl (some 84)))), some (.inl x1), u2, u3] [.inr (.inr (.inl (some 84)))] h Q) (k2 : x1.toInt = 59 → Wb rod d B_Model_advance 303 [some (.inr (.inr (.inl (some 84)))), some (.inl x1), u2, u3] [.inr (.inr (.inl (some 84)))] h Q) : Wb rod d B_Model_advance 296 [some (.inr (.inr (.inl (some 84)))), some (.inl x1), u2, u3] [] h Q := by
  refine Wb.br (fun _ _ => b_Model_advance_296) (fun c => ?_) (fun c => ?_)
  · have c : (!(decide (x1 = (59 : Int32)))) = true := by first | exact c | (simp only [Option.getD_some] at c; exact c)
    (first | exact (k1 (c_net c)) | (simp only [Option.getD_some]; exact (k1 (c_net c))))
  · have c : (!(decide (x1 = (59 : Int32)))) = false := by first | exact c | (simp only [Option.getD_some] at c; exact c)
    (first | exact (k2 (c_nef c)) | (simp only [Option.getD_some]; exact (k2 (c_nef c))))
theorem w_Model_advance_303 {rod : Nat → Nat × (Nat → Int32)} {d : Nat} {Q : Option MV → MH → Prop} {u0 : Option MV} {u1 : Option MV} {u2 : Option MV} {u3 : Option MV} {h : MH}   (k : Wb rod d B_Model_advance 308 [u0, u1, u2, u3] [.inl (2 : Int32), .inr (.inr (.inl (some 84)))] h Q) : Wb rod d B_Model_advance 303 [u0, u1, u2, u3] [.inr (.inr (.inl (some 84)))] h Q := by
  refine Wb.go (fun r hr q => b_Model_advance_303 ?_) k
  (first | exact q | (simp only [Option.getD_some]; exact q))
theorem w_Model_advance_307 {rod : Nat → Nat × (Nat → Int32)} {d : Nat} {Q : Option MV → MH → Prop} {u0 : Option MV} {u1 : Option MV} {u2 : Option MV} {u3 : Option MV} {h : MH}   (k : Wb rod d B_Model_advance 308 [u0, u1, u2, u3] [.inl (4 : Int32), .inr (.inr (.inl (some 84)))] h Q) : Wb rod d B_Model_advance 307 [u0, u1, u2, u3] [.inr (.inr (.inl (some 84)))] h Q := by
  refine Wb.go (fun r hr q => b_Model_advance_307 ?_) k
  (first | exact q | (simp only [Option.getD_some]; exact q))
theorem w_Model_advance_308 {rod : Nat → Nat × (Nat → Int32)} {d : Nat} {Q : Option MV → MH → Prop} {u0 : Option MV} {u1 : Option MV} {u2 : Option MV} {u3 : Option MV} {xs1 : Int32} {h : MH} (L : Lay h.2)  (k : Wb rod d B_Model_advance 311 [u0, u1, u2, u3] [] (sI h 84 5 xs1) Q) : Wb rod d B_Model_advance 308 [u0, u1, u2, u3] [.inl xs1, .inr (.inr (.inl (some 84)))] h Q := by
  refine Wb.go (fun r hr q => b_Model_advance_308 (Lay.o84 L) ?_) k
  (first | exact q | (simp only [Option.getD_some]; exact q))
theorem w_Model_advance_311 {rod : Nat → Nat × (Nat → Int32)} {d : Nat} {Q : Option MV → MH → Prop} {u0 : Option MV} {u1 : Option MV} {u2 : Option MV} {u3 : Option MV} {h : MH}   (q : Q (none) h) : Wb rod d B_Model_advance 311 [u0, u1, u2, u3] [] h Q := by
  refine Wb.ret (b_Model_advance_311) ?_
  (first | exact q | (simp only [Option.getD_some]; exact q))
