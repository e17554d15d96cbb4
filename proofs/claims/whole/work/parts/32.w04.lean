/-! RULES OF BLOCKS over postconditions, references resolved (4) -/
theorem n_Ways_measure {rod : Nat → Nat × (Nat → Int32)} {d : Nat} {Q : Option MV → MH → Prop} {a1 : Nat} {x2 : Int32} {h : MH} (k : Wb rod d B_Ways_measure 0 [some (.inr (.inr (.inl (some 70)))), some (.inr (.inr (.inl (some a1)))), some (.inl x2), none, none, none, none] [] h Q) : Wc rod (d + 1) 99 [.inr (.inr (.inl (some 70))), .inr (.inr (.inl (some a1))), .inl x2] h Q := Wc.en (fun _ _ => e_Ways_measure) k
theorem w_Ways_measure_0 {rod : Nat → Nat × (Nat → Int32)} {d : Nat} {Q : Option MV → MH → Prop} {a1 : Nat} {u2 : Option MV} {u3 : Option MV} {u4 : Option MV} {u5 : Option MV} {u6 : Option MV} {h : MH} (A1 : LandA h.2 a1) (L : Lay h.2)  (k : Wb rod d B_Ways_measure 8 [some (.inr (.inr (.inl (some 70)))), some (.inr (.inr (.inl (some a1)))), u2, u3, u4, u5, u6] [] (sI h 70 0 (h.1 a1 0)) Q) : Wb rod d B_Ways_measure 0 [some (.inr (.inr (.inl (some 70)))), some (.inr (.inr (.inl (some a1)))), u2, u3, u4, u5, u6] [] h Q := by
  refine Wb.go (fun r hr q => b_Ways_measure_0 (A1.o) (Lay.o70 L) ?_) k
  (first | exact q | (simp only [Option.getD_some]; exact q))
theorem w_Ways_measure_8 {rod : Nat → Nat × (Nat → Int32)} {d : Nat} {Q : Option MV → MH → Prop} {u0 : Option MV} {u1 : Option MV} {u2 : Option MV} {u3 : Option MV} {u4 : Option MV} {u5 : Option MV} {u6 : Option MV} {h : MH}  (g0 : okl [u0, u1, u2, u3, u4, u5, u6] 3 = true) (k : Wb rod d B_Ways_measure 10 [u0, u1, u2, some (.inl (0 : Int32)), u4, u5, u6] [] h Q) : Wb rod d B_Ways_measure 8 [u0, u1, u2, u3, u4, u5, u6] [] h Q := by
  refine Wb.go (fun r hr q => b_Ways_measure_8 g0 ?_) k
  (first | exact q | (simp only [Option.getD_some]; exact q))
theorem w_Ways_measure_10 {rod : Nat → Nat × (Nat → Int32)} {d : Nat} {Q : Option MV → MH → Prop} {u1 : Option MV} {u2 : Option MV} {x3 : Int32} {u4 : Option MV} {u5 : Option MV} {u6 : Option MV} {h : MH} (L : Lay h.2)  (k1 : (h.1 70 0).toInt ≤ x3.toInt → Wb rod d B_Ways_measure 99 [some (.inr (.inr (.inl (some 70)))), u1, u2, some (.inl x3), u4, u5, u6] [] h Q) (k2 : ¬ (h.1 70 0).toInt ≤ x3.toInt → Wb rod d B_Ways_measure 18 [some (.inr (.inr (.inl (some 70)))), u1, u2, some (.inl x3), u4, u5, u6] [] h Q) : Wb rod d B_Ways_measure 10 [some (.inr (.inr (.inl (some 70)))), u1, u2, some (.inl x3), u4, u5, u6] [] h Q := by
  refine Wb.br (fun _ _ => b_Ways_measure_10 (Lay.o70 L)) (fun c => ?_) (fun c => ?_)
  · have c : (decide ((h.1 70 0) ≤ x3)) = true := by first | exact c | (simp only [Option.getD_some] at c; exact c)
    (first | exact (k1 (c_let c)) | (simp only [Option.getD_some]; exact (k1 (c_let c))))
  · have c : (decide ((h.1 70 0) ≤ x3)) = false := by first | exact c | (simp only [Option.getD_some] at c; exact c)
    (first | exact (k2 (c_lef c)) | (simp only [Option.getD_some]; exact (k2 (c_lef c))))
theorem w_Ways_measure_18 {rod : Nat → Nat × (Nat → Int32)} {d : Nat} {Q : Option MV → MH → Prop} {u0 : Option MV} {u1 : Option MV} {u2 : Option MV} {u3 : Option MV} {u4 : Option MV} {u5 : Option MV} {u6 : Option MV} {h : MH}  (g0 : okl [u0, u1, u2, u3, u4, u5, u6] 4 = true) (k : Wb rod d B_Ways_measure 21 [u0, u1, u2, u3, some (.inl (0 : Int32)), u5, u6] [] h Q) : Wb rod d B_Ways_measure 18 [u0, u1, u2, u3, u4, u5, u6] [] h Q := by
  refine Wb.go (fun r hr q => b_Ways_measure_18 g0 ?_) k
  (first | exact q | (simp only [Option.getD_some]; exact q))
theorem w_Ways_measure_21 {rod : Nat → Nat × (Nat → Int32)} {d : Nat} {Q : Option MV → MH → Prop} {u1 : Option MV} {u2 : Option MV} {u3 : Option MV} {x4 : Int32} {u5 : Option MV} {u6 : Option MV} {h : MH} (L : Lay h.2)  (k1 : (h.1 70 0).toInt ≤ x4.toInt → Wb rod d B_Ways_measure 93 [some (.inr (.inr (.inl (some 70)))), u1, u2, u3, some (.inl x4), u5, u6] [] h Q) (k2 : ¬ (h.1 70 0).toInt ≤ x4.toInt → Wb rod d B_Ways_measure 30 [some (.inr (.inr (.inl (some 70)))), u1, u2, u3, some (.inl x4), u5, u6] [] h Q) : Wb rod d B_Ways_measure 21 [some (.inr (.inr (.inl (some 70)))), u1, u2, u3, some (.inl x4), u5, u6] [] h Q := by
  refine Wb.br (fun _ _ => b_Ways_measure_21 (Lay.o70 L)) (fun c => ?_) (fun c => ?_)
  · have c : (decide ((h.1 70 0) ≤ x4)) = true := by first | exact c | (simp only [Option.getD_some] at c; exact c)
    (first | exact (k1 (c_let c)) | (simp only [Option.getD_some]; exact (k1 (c_let c))))
  · have c : (decide ((h.1 70 0) ≤ x4)) = false := by first | exact c | (simp only [Option.getD_some] at c; exact c)
    (first | exact (k2 (c_lef c)) | (simp only [Option.getD_some]; exact (k2 (c_lef c))))
theorem w_Ways_measure_30 {rod : Nat → Nat × (Nat → Int32)} {d : Nat} {Q : Option MV → MH → Prop} {u0 : Option MV} {u1 : Option MV} {x2 : Int32} {u3 : Option MV} {x4 : Int32} {u5 : Option MV} {u6 : Option MV} {h : MH}   (k1 : ((x2 >>> (x4 &&& 31)) &&& (1 : Int32)).toInt = 0 → Wb rod d B_Ways_measure 43 [u0, u1, some (.inl x2), u3, some (.inl x4), u5, u6] [] h Q) (k2 : ¬ ((x2 >>> (x4 &&& 31)) &&& (1 : Int32)).toInt = 0 → Wb rod d B_Ways_measure 39 [u0, u1, some (.inl x2), u3, some (.inl x4), u5, u6] [] h Q) : Wb rod d B_Ways_measure 30 [u0, u1, some (.inl x2), u3, some (.inl x4), u5, u6] [] h Q := by
  refine Wb.br (fun _ _ => b_Ways_measure_30) (fun c => ?_) (fun c => ?_)
  · have c : (decide (((x2 >>> (x4 &&& 31)) &&& (1 : Int32)) = 0)) = true := by first | exact c | (simp only [Option.getD_some] at c; exact c)
    (first | exact (k1 (c_eqt c)) | (simp only [Option.getD_some]; exact (k1 (c_eqt c))))
  · have c : (decide (((x2 >>> (x4 &&& 31)) &&& (1 : Int32)) = 0)) = false := by first | exact c | (simp only [Option.getD_some] at c; exact c)
    (first | exact (k2 (c_eqf c)) | (simp only [Option.getD_some]; exact (k2 (c_eqf c))))
theorem w_Ways_measure_39 {rod : Nat → Nat × (Nat → Int32)} {d : Nat} {Q : Option MV → MH → Prop} {u0 : Option MV} {u1 : Option MV} {u2 : Option MV} {u3 : Option MV} {u4 : Option MV} {u5 : Option MV} {u6 : Option MV} {h : MH}   (k : Wb rod d B_Ways_measure 50 [u0, u1, u2, u3, u4, u5, u6] [.inl (0 : Int32)] h Q) : Wb rod d B_Ways_measure 39 [u0, u1, u2, u3, u4, u5, u6] [] h Q := by
  refine Wb.go (fun r hr q => b_Ways_measure_39 ?_) k
  (first | exact q | (simp only [Option.getD_some]; exact q))
theorem w_Ways_measure_43 {rod : Nat → Nat × (Nat → Int32)} {d : Nat} {Q : Option MV → MH → Prop} {u0 : Option MV} {a1 : Nat} {u2 : Option MV} {x3 : Int32} {x4 : Int32} {u5 : Option MV} {u6 : Option MV} {h : MH} (A1 : LandA h.2 a1)  {Q1 : Option MV → MH → Prop} (c : Wc rod d 66 [.inr (.inr (.inl (some a1))), .inl x3, .inl x4] h Q1) (k : ∀ r1 h2, Q1 r1 h2 → Wb rod d B_Ways_measure 50 [u0, some (.inr (.inr (.inl (some a1)))), u2, some (.inl x3), some (.inl x4), u5, u6] (r1.toList ++ []) h2 Q) : Wb rod d B_Ways_measure 43 [u0, some (.inr (.inr (.inl (some a1)))), u2, some (.inl x3), some (.inl x4), u5, u6] [] h Q := by
  refine Wb.call (fun _ _ _ _ => b_Ways_measure_43 (A1.o)) (Q1 := Q1) ?_ ?_
  · (first | exact c | (simp only [Option.getD_some]; exact c))
  · (first | exact k | (simp only [Option.getD_some]; exact k))
theorem w_Ways_measure_50 {rod : Nat → Nat × (Nat → Int32)} {d : Nat} {Q : Option MV → MH → Prop} {u1 : Option MV} {u2 : Option MV} {x3 : Int32} {x4 : Int32} {u5 : Option MV} {u6 : Option MV} {xs0 : Int32} {h : MH} (L : Lay h.2)  (k1 : ¬ x3.toInt = x4.toInt → Wb rod d B_Ways_measure 73 [some (.inr (.inr (.inl (some 70)))), u1, u2, some (.inl x3), some (.inl x4), some (.inl xs0), u6] [.inl ((x3 * (6 : Int32)) + x4), .inr (.inr (.inl (some 71)))] h Q) (k2 : x3.toInt = x4.toInt → Wb rod d B_Ways_measure 69 [some (.inr (.inr (.inl (some 70)))), u1, u2, some (.inl x3), some (.inl x4), some (.inl xs0), u6] [.inl ((x3 * (6 : Int32)) + x4), .inr (.inr (.inl (some 71)))] h Q) : Wb rod d B_Ways_measure 50 [some (.inr (.inr (.inl (some 70)))), u1, u2, some (.inl x3), some (.inl x4), u5, u6] [.inl xs0] h Q := by
  refine Wb.br (fun _ _ => b_Ways_measure_50 (Lay.o70 L)) (fun c => ?_) (fun c => ?_)
  · have c : (!(decide (x3 = x4))) = true := by first | exact c | (simp only [Option.getD_some, (Lay.r70_1 L)] at c; exact c)
    (first | exact (k1 (c_net c)) | (simp only [Option.getD_some, (Lay.r70_1 L)]; exact (k1 (c_net c))))
  · have c : (!(decide (x3 = x4))) = false := by first | exact c | (simp only [Option.getD_some, (Lay.r70_1 L)] at c; exact c)
    (first | exact (k2 (c_nef c)) | (simp only [Option.getD_some, (Lay.r70_1 L)]; exact (k2 (c_nef c))))
theorem w_Ways_measure_69 {rod : Nat → Nat × (Nat → Int32)} {d : Nat} {Q : Option MV → MH → Prop} {u0 : Option MV} {u1 : Option MV} {u2 : Option MV} {u3 : Option MV} {u4 : Option MV} {u5 : Option MV} {u6 : Option MV} {cs0 : Nat} {xs1 : Int32} {h : MH}   (k : Wb rod d B_Ways_measure 86 [u0, u1, u2, u3, u4, u5, u6] [.inl (0 : Int32), .inl xs1, .inr (.inr (.inl (some cs0)))] h Q) : Wb rod d B_Ways_measure 69 [u0, u1, u2, u3, u4, u5, u6] [.inl xs1, .inr (.inr (.inl (some cs0)))] h Q := by
  refine Wb.go (fun r hr q => b_Ways_measure_69 ?_) k
  (first | exact q | (simp only [Option.getD_some]; exact q))
theorem w_Ways_measure_73 {rod : Nat → Nat × (Nat → Int32)} {d : Nat} {Q : Option MV → MH → Prop} {u0 : Option MV} {u1 : Option MV} {u2 : Option MV} {u3 : Option MV} {u4 : Option MV} {x5 : Int32} {u6 : Option MV} {cs0 : Nat} {xs1 : Int32} {h : MH}   (k1 : ¬ x5.toInt = 0 → Wb rod d B_Ways_measure 84 [u0, u1, u2, u3, u4, some (.inl x5), u6] [.inl xs1, .inr (.inr (.inl (some cs0)))] h Q) (k2 : x5.toInt = 0 → Wb rod d B_Ways_measure 78 [u0, u1, u2, u3, u4, some (.inl x5), u6] [.inl xs1, .inr (.inr (.inl (some cs0)))] h Q) : Wb rod d B_Ways_measure 73 [u0, u1, u2, u3, u4, some (.inl x5), u6] [.inl xs1, .inr (.inr (.inl (some cs0)))] h Q := by
  refine Wb.br (fun _ _ => b_Ways_measure_73) (fun c => ?_) (fun c => ?_)
  · have c : (!(decide (x5 = 0))) = true := by first | exact c | (simp only [Option.getD_some] at c; exact c)
    (first | exact (k1 (c_net c)) | (simp only [Option.getD_some]; exact (k1 (c_net c))))
  · have c : (!(decide (x5 = 0))) = false := by first | exact c | (simp only [Option.getD_some] at c; exact c)
    (first | exact (k2 (c_nef c)) | (simp only [Option.getD_some]; exact (k2 (c_nef c))))
theorem w_Ways_measure_78 {rod : Nat → Nat × (Nat → Int32)} {d : Nat} {Q : Option MV → MH → Prop} {u0 : Option MV} {u1 : Option MV} {u2 : Option MV} {u3 : Option MV} {u4 : Option MV} {u5 : Option MV} {u6 : Option MV} {cs0 : Nat} {xs1 : Int32} {h : MH}   (k : Wb rod d B_Ways_measure 86 [u0, u1, u2, u3, u4, u5, u6] [.inl (1000 : Int32), .inl xs1, .inr (.inr (.inl (some cs0)))] h Q) : Wb rod d B_Ways_measure 78 [u0, u1, u2, u3, u4, u5, u6] [.inl xs1, .inr (.inr (.inl (some cs0)))] h Q := by
  refine Wb.go (fun r hr q => b_Ways_measure_78 ?_) k
  (first | exact q | (simp only [Option.getD_some]; exact q))
theorem w_Ways_measure_84 {rod : Nat → Nat × (Nat → Int32)} {d : Nat} {Q : Option MV → MH → Prop} {u0 : Option MV} {u1 : Option MV} {u2 : Option MV} {u3 : Option MV} {u4 : Option MV} {x5 : Int32} {u6 : Option MV} {cs0 : Nat} {xs1 : Int32} {h : MH}   (k : Wb rod d B_Ways_measure 86 [u0, u1, u2, u3, u4, some (.inl x5), u6] [.inl x5, .inl xs1, .inr (.inr (.inl (some cs0)))] h Q) : Wb rod d B_Ways_measure 84 [u0, u1, u2, u3, u4, some (.inl x5), u6] [.inl xs1, .inr (.inr (.inl (some cs0)))] h Q := by
  refine Wb.go (fun r hr q => b_Ways_measure_84 ?_) k
  (first | exact q | (simp only [Option.getD_some]; exact q))
theorem w_Ways_measure_86 {rod : Nat → Nat × (Nat → Int32)} {d : Nat} {Q : Option MV → MH → Prop} {u0 : Option MV} {u1 : Option MV} {u2 : Option MV} {u3 : Option MV} {u4 : Option MV} {u5 : Option MV} {u6 : Option MV} {cs0 : Nat} {ncs0 : Nat} {xs1 : Int32} {xs2 : Int32} {h : MH} (Scs0 : h.2.2[cs0]? = some (0, ncs0)) (g0 : 0 ≤ xs1.toInt ∧ xs1.toInt < ncs0) (k : Wb rod d B_Ways_measure 87 [u0, u1, u2, u3, u4, u5, u6] [] (sI h cs0 xs1.toNatClampNeg xs2) Q) : Wb rod d B_Ways_measure 86 [u0, u1, u2, u3, u4, u5, u6] [.inl xs2, .inl xs1, .inr (.inr (.inl (some cs0)))] h Q := by
  refine Wb.go (fun r hr q => b_Ways_measure_86 (gA_of Scs0 (inB_of g0.1 g0.2)) ?_) k
  (first | exact q | (simp only [Option.getD_some]; exact q))
theorem w_Ways_measure_87 {rod : Nat → Nat × (Nat → Int32)} {d : Nat} {Q : Option MV → MH → Prop} {u0 : Option MV} {u1 : Option MV} {u2 : Option MV} {u3 : Option MV} {x4 : Int32} {u5 : Option MV} {u6 : Option MV} {h : MH}  (g0 : okl [u0, u1, u2, u3, some (.inl x4), u5, u6] 4 = true) (k : Wb rod d B_Ways_measure 21 [u0, u1, u2, u3, some (.inl (x4 + 1)), u5, u6] [] h Q) : Wb rod d B_Ways_measure 87 [u0, u1, u2, u3, some (.inl x4), u5, u6] [] h Q := by
  refine Wb.go (fun r hr q => b_Ways_measure_87 g0 ?_) k
  (first | exact q | (simp only [Option.getD_some]; exact q))
theorem w_Ways_measure_93 {rod : Nat → Nat × (Nat → Int32)} {d : Nat} {Q : Option MV → MH → Prop} {u0 : Option MV} {u1 : Option MV} {u2 : Option MV} {x3 : Int32} {u4 : Option MV} {u5 : Option MV} {u6 : Option MV} {h : MH}  (g0 : okl [u0, u1, u2, some (.inl x3), u4, u5, u6] 3 = true) (k : Wb rod d B_Ways_measure 10 [u0, u1, u2, some (.inl (x3 + 1)), u4, u5, u6] [] h Q) : Wb rod d B_Ways_measure 93 [u0, u1, u2, some (.inl x3), u4, u5, u6] [] h Q := by
  refine Wb.go (fun r hr q => b_Ways_measure_93 g0 ?_) k
  (first | exact q | (simp only [Option.getD_some]; exact q))
theorem w_Ways_measure_99 {rod : Nat → Nat × (Nat → Int32)} {d : Nat} {Q : Option MV → MH → Prop} {u0 : Option MV} {u1 : Option MV} {u2 : Option MV} {u3 : Option MV} {u4 : Option MV} {u5 : Option MV} {u6 : Option MV} {h : MH}  (g0 : okl [u0, u1, u2, u3, u4, u5, u6] 3 = true) (k : Wb rod d B_Ways_measure 101 [u0, u1, u2, some (.inl (0 : Int32)), u4, u5, u6] [] h Q) : Wb rod d B_Ways_measure 99 [u0, u1, u2, u3, u4, u5, u6] [] h Q := by
  refine Wb.go (fun r hr q => b_Ways_measure_99 g0 ?_) k
  (first | exact q | (simp only [Option.getD_some]; exact q))
theorem w_Ways_measure_101 {rod : Nat → Nat × (Nat → Int32)} {d : Nat} {Q : Option MV → MH → Prop} {u1 : Option MV} {u2 : Option MV} {x3 : Int32} {u4 : Option MV} {u5 : Option MV} {u6 : Option MV} {h : MH} (L : Lay h.2)  (k1 : (h.1 70 0).toInt ≤ x3.toInt → Wb rod d B_Ways_measure 196 [some (.inr (.inr (.inl (some 70)))), u1, u2, some (.inl x3), u4, u5, u6] [] h Q) (k2 : ¬ (h.1 70 0).toInt ≤ x3.toInt → Wb rod d B_Ways_measure 109 [some (.inr (.inr (.inl (some 70)))), u1, u2, some (.inl x3), u4, u5, u6] [] h Q) : Wb rod d B_Ways_measure 101 [some (.inr (.inr (.inl (some 70)))), u1, u2, some (.inl x3), u4, u5, u6] [] h Q := by
  refine Wb.br (fun _ _ => b_Ways_measure_101 (Lay.o70 L)) (fun c => ?_) (fun c => ?_)
  · have c : (decide ((h.1 70 0) ≤ x3)) = true := by first | exact c | (simp only [Option.getD_some] at c; exact c)
    (first | exact (k1 (c_let c)) | (simp only [Option.getD_some]; exact (k1 (c_let c))))
  · have c : (decide ((h.1 70 0) ≤ x3)) = false := by first | exact c | (simp only [Option.getD_some] at c; exact c)
    (first | exact (k2 (c_lef c)) | (simp only [Option.getD_some]; exact (k2 (c_lef c))))
theorem w_Ways_measure_109 {rod : Nat → Nat × (Nat → Int32)} {d : Nat} {Q : Option MV → MH → Prop} {u0 : Option MV} {u1 : Option MV} {u2 : Option MV} {u3 : Option MV} {u4 : Option MV} {u5 : Option MV} {u6 : Option MV} {h : MH}  (g0 : okl [u0, u1, u2, u3, u4, u5, u6] 4 = true) (k : Wb rod d B_Ways_measure 112 [u0, u1, u2, u3, some (.inl (0 : Int32)), u5, u6] [] h Q) : Wb rod d B_Ways_measure 109 [u0, u1, u2, u3, u4, u5, u6] [] h Q := by
  refine Wb.go (fun r hr q => b_Ways_measure_109 g0 ?_) k
  (first | exact q | (simp only [Option.getD_some]; exact q))
theorem w_Ways_measure_112 {rod : Nat → Nat × (Nat → Int32)} {d : Nat} {Q : Option MV → MH → Prop} {u1 : Option MV} {u2 : Option MV} {u3 : Option MV} {x4 : Int32} {u5 : Option MV} {u6 : Option MV} {h : MH} (L : Lay h.2)  (k1 : (h.1 70 0).toInt ≤ x4.toInt → Wb rod d B_Ways_measure 190 [some (.inr (.inr (.inl (some 70)))), u1, u2, u3, some (.inl x4), u5, u6] [] h Q) (k2 : ¬ (h.1 70 0).toInt ≤ x4.toInt → Wb rod d B_Ways_measure 121 [some (.inr (.inr (.inl (some 70)))), u1, u2, u3, some (.inl x4), u5, u6] [] h Q) : Wb rod d B_Ways_measure 112 [some (.inr (.inr (.inl (some 70)))), u1, u2, u3, some (.inl x4), u5, u6] [] h Q := by
  refine Wb.br (fun _ _ => b_Ways_measure_112 (Lay.o70 L)) (fun c => ?_) (fun c => ?_)
  · have c : (decide ((h.1 70 0) ≤ x4)) = true := by first | exact c | (simp only [Option.getD_some] at c; exact c)
    (first | exact (k1 (c_let c)) | (simp only [Option.getD_some]; exact (k1 (c_let c))))
  · have c : (decide ((h.1 70 0) ≤ x4)) = false := by first | exact c | (simp only [Option.getD_some] at c; exact c)
    (first | exact (k2 (c_lef c)) | (simp only [Option.getD_some]; exact (k2 (c_lef c))))
theorem w_Ways_measure_121 {rod : Nat → Nat × (Nat → Int32)} {d : Nat} {Q : Option MV → MH → Prop} {u0 : Option MV} {u1 : Option MV} {u2 : Option MV} {u3 : Option MV} {u4 : Option MV} {u5 : Option MV} {u6 : Option MV} {h : MH}  (g0 : okl [u0, u1, u2, u3, u4, u5, u6] 5 = true) (k : Wb rod d B_Ways_measure 124 [u0, u1, u2, u3, u4, some (.inl (0 : Int32)), u6] [] h Q) : Wb rod d B_Ways_measure 121 [u0, u1, u2, u3, u4, u5, u6] [] h Q := by
  refine Wb.go (fun r hr q => b_Ways_measure_121 g0 ?_) k
  (first | exact q | (simp only [Option.getD_some]; exact q))
theorem w_Ways_measure_124 {rod : Nat → Nat × (Nat → Int32)} {d : Nat} {Q : Option MV → MH → Prop} {u1 : Option MV} {u2 : Option MV} {u3 : Option MV} {u4 : Option MV} {x5 : Int32} {u6 : Option MV} {h : MH} (L : Lay h.2)  (k1 : (h.1 70 0).toInt ≤ x5.toInt → Wb rod d B_Ways_measure 184 [some (.inr (.inr (.inl (some 70)))), u1, u2, u3, u4, some (.inl x5), u6] [] h Q) (k2 : ¬ (h.1 70 0).toInt ≤ x5.toInt → Wb rod d B_Ways_measure 133 [some (.inr (.inr (.inl (some 70)))), u1, u2, u3, u4, some (.inl x5), u6] [] h Q) : Wb rod d B_Ways_measure 124 [some (.inr (.inr (.inl (some 70)))), u1, u2, u3, u4, some (.inl x5), u6] [] h Q := by
  refine Wb.br (fun _ _ => b_Ways_measure_124 (Lay.o70 L)) (fun c => ?_) (fun c => ?_)
  · have c : (decide ((h.1 70 0) ≤ x5)) = true := by first | exact c | (simp only [Option.getD_some] at c; exact c)
    (first | exact (k1 (c_let c)) | (simp only [Option.getD_some]; exact (k1 (c_let c))))
  · have c : (decide ((h.1 70 0) ≤ x5)) = false := by first | exact c | (simp only [Option.getD_some] at c; exact c)
    (first | exact (k2 (c_lef c)) | (simp only [Option.getD_some]; exact (k2 (c_lef c))))
theorem w_Ways_measure_133 {rod : Nat → Nat × (Nat → Int32)} {d : Nat} {Q : Option MV → MH → Prop} {u1 : Option MV} {u2 : Option MV} {x3 : Int32} {x4 : Int32} {u5 : Option MV} {u6 : Option MV} {h : MH} (L : Lay h.2)  {Q1 : Option MV → MH → Prop} (c : Wc rod d 100 [.inr (.inr (.inl (some 70))), .inl x4, .inl x3] h Q1) (k : ∀ r1 h2, Q1 r1 h2 → Wb rod d B_Ways_measure 140 [some (.inr (.inr (.inl (some 70)))), u1, u2, some (.inl x3), some (.inl x4), u5, u6] (r1.toList ++ []) h2 Q) : Wb rod d B_Ways_measure 133 [some (.inr (.inr (.inl (some 70)))), u1, u2, some (.inl x3), some (.inl x4), u5, u6] [] h Q := by
  refine Wb.call (fun _ _ _ _ => b_Ways_measure_133 (Lay.o70 L)) (Q1 := Q1) ?_ ?_
  · (first | exact c | (simp only [Option.getD_some]; exact c))
  · (first | exact k | (simp only [Option.getD_some]; exact k))
theorem w_Ways_measure_140 {rod : Nat → Nat × (Nat → Int32)} {d : Nat} {Q : Option MV → MH → Prop} {u1 : Option MV} {u2 : Option MV} {x3 : Int32} {u4 : Option MV} {x5 : Int32} {u6 : Option MV} {xs0 : Int32} {h : MH} (L : Lay h.2)  {Q1 : Option MV → MH → Prop} (c : Wc rod d 100 [.inr (.inr (.inl (some 70))), .inl x3, .inl x5] h Q1) (k : ∀ r1 h2, Q1 r1 h2 → Wb rod d B_Ways_measure 147 [some (.inr (.inr (.inl (some 70)))), u1, u2, some (.inl x3), u4, some (.inl x5), u6] (r1.toList ++ [.inl xs0]) h2 Q) : Wb rod d B_Ways_measure 140 [some (.inr (.inr (.inl (some 70)))), u1, u2, some (.inl x3), u4, some (.inl x5), u6] [.inl xs0] h Q := by
  refine Wb.call (fun _ _ _ _ => b_Ways_measure_140 (Lay.o70 L)) (Q1 := Q1) ?_ ?_
  · (first | exact c | (simp only [Option.getD_some]; exact c))
  · (first | exact k | (simp only [Option.getD_some]; exact k))
theorem w_Ways_measure_147 {rod : Nat → Nat × (Nat → Int32)} {d : Nat} {Q : Option MV → MH → Prop} {u1 : Option MV} {u2 : Option MV} {u3 : Option MV} {x4 : Int32} {x5 : Int32} {u6 : Option MV} {xs0 : Int32} {xs1 : Int32} {h : MH} (L : Lay h.2)  {Q1 : Option MV → MH → Prop} (c : Wc rod d 100 [.inr (.inr (.inl (some 70))), .inl x4, .inl x5] h Q1) (k : ∀ r1 h2, Q1 r1 h2 → Wb rod d B_Ways_measure 160 [some (.inr (.inr (.inl (some 70)))), u1, u2, u3, some (.inl x4), some (.inl x5), some (.inl (xs0 + xs1))] (r1.toList ++ [.inl (xs0 + xs1)]) h2 Q) : Wb rod d B_Ways_measure 147 [some (.inr (.inr (.inl (some 70)))), u1, u2, u3, some (.inl x4), some (.inl x5), u6] [.inl xs1, .inl xs0] h Q := by
  refine Wb.call (fun _ _ _ _ => b_Ways_measure_147 (Lay.o70 L)) (Q1 := Q1) ?_ ?_
  · (first | exact c | (simp only [Option.getD_some]; exact c))
  · (first | exact k | (simp only [Option.getD_some]; exact k))
theorem w_Ways_measure_160 {rod : Nat → Nat × (Nat → Int32)} {d : Nat} {Q : Option MV → MH → Prop} {u0 : Option MV} {u1 : Option MV} {u2 : Option MV} {u3 : Option MV} {u4 : Option MV} {u5 : Option MV} {u6 : Option MV} {xs0 : Int32} {xs1 : Int32} {h : MH}   (k1 : xs1.toInt ≤ xs0.toInt → Wb rod d B_Ways_measure 178 [u0, u1, u2, u3, u4, u5, u6] [] h Q) (k2 : ¬ xs1.toInt ≤ xs0.toInt → Wb rod d B_Ways_measure 163 [u0, u1, u2, u3, u4, u5, u6] [] h Q) : Wb rod d B_Ways_measure 160 [u0, u1, u2, u3, u4, u5, u6] [.inl xs1, .inl xs0] h Q := by
  refine Wb.br (fun _ _ => b_Ways_measure_160) (fun c => ?_) (fun c => ?_)
  · have c : (decide (xs1 ≤ xs0)) = true := by first | exact c | (simp only [Option.getD_some] at c; exact c)
    (first | exact (k1 (c_let c)) | (simp only [Option.getD_some]; exact (k1 (c_let c))))
  · have c : (decide (xs1 ≤ xs0)) = false := by first | exact c | (simp only [Option.getD_some] at c; exact c)
    (first | exact (k2 (c_lef c)) | (simp only [Option.getD_some]; exact (k2 (c_lef c))))
theorem w_Ways_measure_163 {rod : Nat → Nat × (Nat → Int32)} {d : Nat} {Q : Option MV → MH → Prop} {u1 : Option MV} {u2 : Option MV} {u3 : Option MV} {x4 : Int32} {x5 : Int32} {x6 : Int32} {h : MH} (L : Lay h.2) (g0 : 0 ≤ ((x4 * (6 : Int32)) + x5).toInt ∧ ((x4 * (6 : Int32)) + x5).toInt < 36) (k : Wb rod d B_Ways_measure 178 [some (.inr (.inr (.inl (some 70)))), u1, u2, u3, some (.inl x4), some (.inl x5), some (.inl x6)] [] (sI h 71 ((x4 * (6 : Int32)) + x5).toNatClampNeg x6) Q) : Wb rod d B_Ways_measure 163 [some (.inr (.inr (.inl (some 70)))), u1, u2, u3, some (.inl x4), some (.inl x5), some (.inl x6)] [] h Q := by
  refine Wb.go (fun r hr q => b_Ways_measure_163 (Lay.o70 L) (Lay.a70_1 L g0) ?_) k
  (first | exact q | (simp only [Option.getD_some, (Lay.r70_1 L)]; exact q))
theorem w_Ways_measure_178 {rod : Nat → Nat × (Nat → Int32)} {d : Nat} {Q : Option MV → MH → Prop} {u0 : Option MV} {u1 : Option MV} {u2 : Option MV} {u3 : Option MV} {u4 : Option MV} {x5 : Int32} {u6 : Option MV} {h : MH}  (g0 : okl [u0, u1, u2, u3, u4, some (.inl x5), u6] 5 = true) (k : Wb rod d B_Ways_measure 124 [u0, u1, u2, u3, u4, some (.inl (x5 + 1)), u6] [] h Q) : Wb rod d B_Ways_measure 178 [u0, u1, u2, u3, u4, some (.inl x5), u6] [] h Q := by
  refine Wb.go (fun r hr q => b_Ways_measure_178 g0 ?_) k
  (first | exact q | (simp only [Option.getD_some]; exact q))
theorem w_Ways_measure_184 {rod : Nat → Nat × (Nat → Int32)} {d : Nat} {Q : Option MV → MH → Prop} {u0 : Option MV} {u1 : Option MV} {u2 : Option MV} {u3 : Option MV} {x4 : Int32} {u5 : Option MV} {u6 : Option MV} {h : MH}  (g0 : okl [u0, u1, u2, u3, some (.inl x4), u5, u6] 4 = true) (k : Wb rod d B_Ways_measure 112 [u0, u1, u2, u3, some (.inl (x4 + 1)), u5, u6] [] h Q) : Wb rod d B_Ways_measure 184 [u0, u1, u2, u3, some (.inl x4), u5, u6] [] h Q := by
  refine Wb.go (fun r hr q => b_Ways_measure_184 g0 ?_) k
  (first | exact q | (simp only [Option.getD_some]; exact q))
theorem w_Ways_measure_190 {rod : Nat → Nat × (Nat → Int32)} {d : Nat} {Q : Option MV → MH → Prop} {u0 : Option MV} {u1 : Option MV} {u2 : Option MV} {x3 : Int32} {u4 : Option MV} {u5 : Option MV} {u6 : Option MV} {h : MH}  (g0 : okl [u0, u1, u2, some (.inl x3), u4, u5, u6] 3 = true) (k : Wb rod d B_Ways_measure 101 [u0, u1, u2, some (.inl (x3 + 1)), u4, u5, u6] [] h Q) : Wb rod d B_Ways_measure 190 [u0, u1, u2, some (.inl x3), u4, u5, u6] [] h Q := by
  refine Wb.go (fun r hr q => b_Ways_measure_190 g0 ?_) k
  (first | exact q | (simp only [Option.getD_some]; exact q))
theorem w_Ways_measure_196 {rod : Nat → Nat × (Nat → Int32)} {d : Nat} {Q : Option MV → MH → Prop} {u0 : Option MV} {u1 : Option MV} {u2 : Option MV} {u3 : Option MV} {u4 : Option MV} {u5 : Option MV} {u6 : Option MV} {h : MH}   (q : Q (none) h) : Wb rod d B_Ways_measure 196 [u0, u1, u2, u3, u4, u5, u6] [] h Q := by
  refine Wb.ret (b_Ways_measure_196) ?_
  (first | exact q | (simp only [Option.getD_some]; exact q))
theorem n_Ways_between {rod : Nat → Nat × (Nat → Int32)} {d : Nat} {Q : Option MV → MH → Prop} {x1 : Int32} {x2 : Int32} {h : MH} (k : Wb rod d B_Ways_between 0 [some (.inr (.inr (.inl (some 70)))), some (.inl x1), some (.inl x2), none] [] h Q) : Wc rod (d + 1) 100 [.inr (.inr (.inl (some 70))), .inl x1, .inl x2] h Q := Wc.en (fun _ _ => e_Ways_between) k
theorem w_Ways_between_0 {rod : Nat → Nat × (Nat → Int32)} {d : Nat} {Q : Option MV → MH → Prop} {u0 : Option MV} {x1 : Int32} {u2 : Option MV} {u3 : Option MV} {h : MH}   (k1 : x1.toInt < 0 → Wb rod d B_Ways_between 28 [u0, some (.inl x1), u2, u3] [] h Q) (k2 : ¬ x1.toInt < 0 → Wb rod d B_Ways_between 4 [u0, some (.inl x1), u2, u3] [] h Q) : Wb rod d B_Ways_between 0 [u0, some (.inl x1), u2, u3] [] h Q := by
  refine Wb.br (fun _ _ => b_Ways_between_0) (fun c => ?_) (fun c => ?_)
  · have c : (decide (x1 < 0)) = true := by first | exact c | (simp only [Option.getD_some] at c; exact c)
    (first | exact (k1 (c_ltt c)) | (simp only [Option.getD_some]; exact (k1 (c_ltt c))))
  · have c : (decide (x1 < 0)) = false := by first | exact c | (simp only [Option.getD_some] at c; exact c)
    (first | exact (k2 (c_ltf c)) | (simp only [Option.getD_some]; exact (k2 (c_ltf c))))
theorem w_Ways_between_4 {rod : Nat → Nat × (Nat → Int32)} {d : Nat} {Q : Option MV → MH → Prop} {x1 : Int32} {u2 : Option MV} {u3 : Option MV} {h : MH} (L : Lay h.2)  (k1 : (h.1 70 0).toInt ≤ x1.toInt → Wb rod d B_Ways_between 28 [some (.inr (.inr (.inl (some 70)))), some (.inl x1), u2, u3] [] h Q) (k2 : ¬ (h.1 70 0).toInt ≤ x1.toInt → Wb rod d B_Ways_between 12 [some (.inr (.inr (.inl (some 70)))), some (.inl x1), u2, u3] [] h Q) : Wb rod d B_Ways_between 4 [some (.inr (.inr (.inl (some 70)))), some (.inl x1), u2, u3] [] h Q := by
  refine Wb.br (fun _ _ => b_Ways_between_4 (Lay.o70 L)) (fun c => ?_) (fun c => ?_)
  · have c : (decide ((h.1 70 0) ≤ x1)) = true := by first | exact c | (simp only [Option.getD_some] at c; exact c)
    (first | exact (k1 (c_let c)) | (simp only [Option.getD_some]; exact (k1 (c_let c))))
  · have c : (decide ((h.1 70 0) ≤ x1)) = false := by first | exact c | (simp only [Option.getD_some] at c; exact c)
    (first | exact (k2 (c_lef c)) | (simp only [Option.getD_some]; exact (k2 (c_lef c))))
theorem w_Ways_between_12 {rod : Nat → Nat × (Nat → Int32)} {d : Nat} {Q : Option MV → MH → Prop} {u0 : Option MV} {u1 : Option MV} {x2 : Int32} {u3 : Option MV} {h : MH}   (k1 : x2.toInt < 0 → Wb rod d B_Ways_between 28 [u0, u1, some (.inl x2), u3] [] h Q) (k2 : ¬ x2.toInt < 0 → Wb rod d B_Ways_between 16 [u0, u1, some (.inl x2), u3] [] h Q) : Wb rod d B_Ways_between 12 [u0, u1, some (.inl x2), u3] [] h Q := by
  refine Wb.br (fun _ _ => b_Ways_between_12) (fun c => ?_) (fun c => ?_)
  · have c : (decide (x2 < 0)) = true := by first | exact c | (simp only [Option.getD_some] at c; exact c)
    (first | exact (k1 (c_ltt c)) | (simp only [Option.getD_some]; exact (k1 (c_ltt c))))
  · have c : (decide (x2 < 0)) = false := by first | exact c | (simp only [Option.getD_some] at c; exact c)
    (first | exact (k2 (c_ltf c)) | (simp only [Option.getD_some]; exact (k2 (c_ltf c))))
theorem w_Ways_between_16 {rod : Nat → Nat × (Nat → Int32)} {d : Nat} {Q : Option MV → MH → Prop} {u1 : Option MV} {x2 : Int32} {u3 : Option MV} {h : MH} (L : Lay h.2)  (k1 : (h.1 70 0).toInt ≤ x2.toInt → Wb rod d B_Ways_between 28 [some (.inr (.inr (.inl (some 70)))), u1, some (.inl x2), u3] [] h Q) (k2 : ¬ (h.1 70 0).toInt ≤ x2.toInt → Wb rod d B_Ways_between 24 [some (.inr (.inr (.inl (some 70)))), u1, some (.inl x2), u3] [] h Q) : Wb rod d B_Ways_between 16 [some (.inr (.inr (.inl (some 70)))), u1, some (.inl x2), u3] [] h Q := by
  refine Wb.br (fun _ _ => b_Ways_between_16 (Lay.o70 L)) (fun c => ?_) (fun c => ?_)
  · have c : (decide ((h.1 70 0) ≤ x2)) = true := by first | exact c | (simp only [Option.getD_some] at c; exact c)
    (first | exact (k1 (c_let c)) | (simp only [Option.getD_some]; exact (k1 (c_let c))))
  · have c : (decide ((h.1 70 0) ≤ x2)) = false := by first | exact c | (simp only [Option.getD_some] at c; exact c)
    (first | exact (k2 (c_lef c)) | (simp only [Option.getD_some]; exact (k2 (c_lef c))))
theorem w_Ways_between_24 {rod : Nat → Nat × (Nat → Int32)} {d : Nat} {Q : Option MV → MH → Prop} {u0 : Option MV} {u1 : Option MV} {u2 : Option MV} {u3 : Option MV} {h : MH}   (k : Wb rod d B_Ways_between 29 [u0, u1, u2, u3] [.inl (1 : Int32)] h Q) : Wb rod d B_Ways_between 24 [u0, u1, u2, u3] [] h Q := by
  refine Wb.go (fun r hr q => b_Ways_between_24 ?_) k
  (first | exact q | (simp only [Option.getD_some]; exact q))
theorem w_Ways_between_28 {rod : Nat → Nat × (Nat → Int32)} {d : Nat} {Q : Option MV → MH → Prop} {u0 : Option MV} {u1 : Option MV} {u2 : Option MV} {u3 : Option MV} {h : MH}   (k : Wb rod d B_Ways_between 29 [u0, u1, u2, u3] [.inl (0 : Int32)] h Q) : Wb rod d B_Ways_between 28 [u0, u1, u2, u3] [] h Q := by
  refine Wb.go (fun r hr q => b_Ways_between_28 ?_) k
  (first | exact q | (simp only [Option.getD_some]; exact q))
theorem w_Ways_between_29 {rod : Nat → Nat × (Nat → Int32)} {d : Nat} {Q : Option MV → MH → Prop} {u0 : Option MV} {u1 : Option MV} {u2 : Option MV} {u3 : Option MV} {xs0 : Int32} {h : MH}  (g0 : okl [u0, u1, u2, u3] 3 = true) (k1 : xs0.toInt = 0 → Wb rod d B_Ways_between 48 [u0, u1, u2, some (.inl xs0)] [] h Q) (k2 : ¬ xs0.toInt = 0 → Wb rod d B_Ways_between 34 [u0, u1, u2, some (.inl xs0)] [] h Q) : Wb rod d B_Ways_between 29 [u0, u1, u2, u3] [.inl xs0] h Q := by
  refine Wb.br (fun _ _ => b_Ways_between_29 g0) (fun c => ?_) (fun c => ?_)
  · have c : (decide (xs0 = 0)) = true := by first | exact c | (simp only [Option.getD_some] at c; exact c)
    (first | exact (k1 (c_eqt c)) | (simp only [Option.getD_some]; exact (k1 (c_eqt c))))
  · have c : (decide (xs0 = 0)) = false := by first | exact c | (simp only [Option.getD_some] at c; exact c)
    (first | exact (k2 (c_eqf c)) | (simp only [Option.getD_some]; exact (k2 (c_eqf c))))
theorem w_Ways_between_34 {rod : Nat → Nat × (Nat → Int32)} {d : Nat} {Q : Option MV → MH → Prop} {x1 : Int32} {x2 : Int32} {u3 : Option MV} {h : MH} (L : Lay h.2) (g0 : 0 ≤ ((x1 * (6 : Int32)) + x2).toInt ∧ ((x1 * (6 : Int32)) + x2).toInt < 36) (k : Wb rod d B_Ways_between 51 [some (.inr (.inr (.inl (some 70)))), some (.inl x1), some (.inl x2), u3] [.inl (h.1 71 ((x1 * (6 : Int32)) + x2).toNatClampNeg)] h Q) : Wb rod d B_Ways_between 34 [some (.inr (.inr (.inl (some 70)))), some (.inl x1), some (.inl x2), u3] [] h Q := by
  refine Wb.go (fun r hr q => b_Ways_between_34 (Lay.o70 L) (Lay.a70_1 L g0) ?_) k
  (first | exact q | (simp only [Option.getD_some, (Lay.r70_1 L)]; exact q))
theorem w_Ways_between_48 {rod : Nat → Nat × (Nat → Int32)} {d : Nat} {Q : Option MV → MH → Prop} {u0 : Option MV} {u1 : Option MV} {u2 : Option MV} {u3 : Option MV} {h : MH}   (k : Wb rod d B_Ways_between 51 [u0, u1, u2, u3] [.inl (1000 : Int32)] h Q) : Wb rod d B_Ways_between 48 [u0, u1, u2, u3] [] h Q := by
  refine Wb.go (fun r hr q => b_Ways_between_48 ?_) k
  (first | exact q | (simp only [Option.getD_some]; exact q))
theorem w_Ways_between_51 {rod : Nat → Nat × (Nat → Int32)} {d : Nat} {Q : Option MV → MH → Prop} {u0 : Option MV} {u1 : Option MV} {u2 : Option MV} {u3 : Option MV} {xs0 : Int32} {h : MH}   (q : Q (some (.inl xs0)) h) : Wb rod d B_Ways_between 51 [u0, u1, u2, u3] [.inl xs0] h Q := by
  refine Wb.ret (b_Ways_between_51) ?_
  (first | exact q | (simp only [Option.getD_some]; exact q))
theorem n_Main_tour {rod : Nat → Nat × (Nat → Int32)} {d : Nat} {Q : Option MV → MH → Prop} {x1 : Int32} {x2 : Int32} {x3 : Int32} {x4 : Int32} {h : MH} (k : Wb rod d B_Main_tour 0 [some (.inr (.inr (.inl (some 0)))), some (.inl x1), some (.inl x2), some (.inl x3), some (.inl x4), none, none] [] h Q) : Wc rod (d + 1) 101 [.inr (.inr (.inl (some 0))), .inl x1, .inl x2, .inl x3, .inl x4] h Q := Wc.en (fun _ _ => e_Main_tour) k
theorem w_Main_tour_0 {rod : Nat → Nat × (Nat → Int32)} {d : Nat} {Q : Option MV → MH → Prop} {x1 : Int32} {u2 : Option MV} {u3 : Option MV} {u4 : Option MV} {u5 : Option MV} {u6 : Option MV} {h : MH} (L : Lay h.2)  {Q1 : Option MV → MH → Prop} (c : Wc rod d 61 [.inr (.inr (.inl (some 1))), .inl x1] h Q1) (k : ∀ r1 h2, Q1 r1 h2 → Wb rod d B_Main_tour 8 [some (.inr (.inr (.inl (some 0)))), some (.inl x1), u2, u3, u4, u5, u6] (r1.toList ++ []) h2 Q) : Wb rod d B_Main_tour 0 [some (.inr (.inr (.inl (some 0)))), some (.inl x1), u2, u3, u4, u5, u6] [] h Q := by
  refine Wb.call (fun _ _ _ _ => b_Main_tour_0 (Lay.o0 L) (Lay.k0_0 L)) (Q1 := Q1) ?_ ?_
  · (first | exact c | (simp only [Option.getD_some, (Lay.r0_0 L)]; exact c))
  · (first | exact k | (simp only [Option.getD_some, (Lay.r0_0 L)]; exact k))
theorem w_Main_tour_8 {rod : Nat → Nat × (Nat → Int32)} {d : Nat} {Q : Option MV → MH → Prop} {u0 : Option MV} {u1 : Option MV} {u2 : Option MV} {u3 : Option MV} {u4 : Option MV} {u5 : Option MV} {u6 : Option MV} {os0 : Option Nat} {h : MH}  (g0 : okl [u0, u1, u2, u3, u4, u5, u6] 5 = true) (k1 : os0 = none → Wb rod d B_Main_tour 25 [u0, u1, u2, u3, u4, some (.inr (.inr (.inl os0))), u6] [] h Q) (k2 : ∀ v, os0 = some v → Wb rod d B_Main_tour 15 [u0, u1, u2, u3, u4, some (.inr (.inr (.inl os0))), u6] [] h Q) : Wb rod d B_Main_tour 8 [u0, u1, u2, u3, u4, u5, u6] [.inr (.inr (.inl os0))] h Q := by
  cases os0 with
  | none =>
    refine Wb.br (fun _ _ => b_Main_tour_8 g0) (fun c => ?_) (fun c => ?_)
    · exact k1 rfl
    · simp at c
  | some v =>
    refine Wb.br (fun _ _ => b_Main_tour_8 g0) (fun c => ?_) (fun c => ?_)
    · simp at c
    · exact k2 v rfl
theorem w_Main_tour_15 {rod : Nat → Nat × (Nat → Int32)} {d : Nat} {Q : Option MV → MH → Prop} {u0 : Option MV} {u1 : Option MV} {x2 : Int32} {x3 : Int32} {u4 : Option MV} {a5 : Nat} {u6 : Option MV} {h : MH}   {Q1 : Option MV → MH → Prop} (c : Wc rod d 102 [.inr (.inr (.inl (some a5))), .inl x2, .inl x3] h Q1) (k : ∀ r1 h2, Q1 r1 h2 → Wb rod d B_Main_tour 22 [u0, u1, some (.inl x2), some (.inl x3), u4, some (.inr (.inr (.inl (some a5)))), u6] (r1.toList ++ []) h2 Q) : Wb rod d B_Main_tour 15 [u0, u1, some (.inl x2), some (.inl x3), u4, some (.inr (.inr (.inl (some a5)))), u6] [] h Q := by
  refine Wb.call (fun _ _ _ _ => b_Main_tour_15) (Q1 := Q1) ?_ ?_
  · (first | exact c | (simp only [Option.getD_some]; exact c))
  · (first | exact k | (simp only [Option.getD_some]; exact k))
theorem w_Main_tour_22 {rod : Nat → Nat × (Nat → Int32)} {d : Nat} {Q : Option MV → MH → Prop} {u0 : Option MV} {u1 : Option MV} {u2 : Option MV} {u3 : Option MV} {u4 : Option MV} {u5 : Option MV} {u6 : Option MV} {xs0 : Int32} {h : MH}   (k1 : ¬ xs0.toInt = 0 → Wb rod d B_Main_tour 27 [u0, u1, u2, u3, u4, u5, u6] [] h Q) (k2 : xs0.toInt = 0 → Wb rod d B_Main_tour 25 [u0, u1, u2, u3, u4, u5, u6] [] h Q) : Wb rod d B_Main_tour 22 [u0, u1, u2, u3, u4, u5, u6] [.inl xs0] h Q := by
  refine Wb.br (fun _ _ => b_Main_tour_22) (fun c => ?_) (fun c => ?_)
  · have c : (!(decide (xs0 = 0))) = true := by first | exact c | (simp only [Option.getD_some] at c; exact c)
    (first | exact (k1 (c_net c)) | (simp only [Option.getD_some]; exact (k1 (c_net c))))
  · have c : (!(decide (xs0 = 0))) = false := by first | exact c | (simp only [Option.getD_some] at c; exact c)
    (first | exact (k2 (c_nef c)) | (simp only [Option.getD_some]; exact (k2 (c_nef c))))
theorem w_Main_tour_25 {rod : Nat → Nat × (Nat → Int32)} {d : Nat} {Q : Option MV → MH → Prop} {u0 : Option MV} {u1 : Option MV} {u2 : Option MV} {u3 : Option MV} {u4 : Option MV} {u5 : Option MV} {u6 : Option MV} {h : MH}   (q : Q (some (.inl (-1 : Int32))) h) : Wb rod d B_Main_tour 25 [u0, u1, u2, u3, u4, u5, u6] [] h Q := by
  refine Wb.ret (b_Main_tour_25) ?_
  (first | exact q | (simp only [Option.getD_some]; exact q))
theorem w_Main_tour_27 {rod : Nat → Nat × (Nat → Int32)} {d : Nat} {Q : Option MV → MH → Prop} {u1 : Option MV} {x2 : Int32} {x3 : Int32} {u4 : Option MV} {a5 : Nat} {u6 : Option MV} {h : MH} (L : Lay h.2) (A5 : LandA h.2 a5)  {Q1 : Option MV → MH → Prop} (c : Wc rod d 103 [.inr (.inr (.inl (some 70))), .inr (.inr (.inl (some a5))), .inl (h.1 a5 3), .inl x2, .inl x3] h Q1) (k : ∀ r1 h2, Q1 r1 h2 → Wb rod d B_Main_tour 43 [some (.inr (.inr (.inl (some 0)))), u1, some (.inl x2), some (.inl x3), u4, some (.inr (.inr (.inl (some a5)))), u6] (r1.toList ++ []) h2 Q) : Wb rod d B_Main_tour 27 [some (.inr (.inr (.inl (some 0)))), u1, some (.inl x2), some (.inl x3), u4, some (.inr (.inr (.inl (some a5)))), u6] [] h Q := by
  refine Wb.call (fun _ _ _ _ => b_Main_tour_27 (Lay.o0 L) (A5.o) (Lay.k0_4 L)) (Q1 := Q1) ?_ ?_
  · (first | exact c | (simp only [Option.getD_some, (Lay.r0_4 L)]; exact c))
  · (first | exact k | (simp only [Option.getD_some, (Lay.r0_4 L)]; exact k))
theorem w_Main_tour_43 {rod : Nat → Nat × (Nat → Int32)} {d : Nat} {Q : Option MV → MH → Prop} {u0 : Option MV} {u1 : Option MV} {u2 : Option MV} {u3 : Option MV} {x4 : Int32} {u5 : Option MV} {u6 : Option MV} {xs0 : Int32} {h : MH}  (g0 : okl [u0, u1, u2, u3, some (.inl x4), u5, u6] 6 = true) (k1 : ¬ x4.toInt = (-1) → Wb rod d B_Main_tour 54 [u0, u1, u2, u3, some (.inl x4), u5, some (.inl xs0)] [] h Q) (k2 : x4.toInt = (-1) → Wb rod d B_Main_tour 51 [u0, u1, u2, u3, some (.inl x4), u5, some (.inl xs0)] [] h Q) : Wb rod d B_Main_tour 43 [u0, u1, u2, u3, some (.inl x4), u5, u6] [.inl xs0] h Q := by
  refine Wb.br (fun _ _ => b_Main_tour_43 g0) (fun c => ?_) (fun c => ?_)
  · have c : (!(decide (x4 = (-1 : Int32)))) = true := by first | exact c | (simp only [Option.getD_some] at c; exact c)
    (first | exact (k1 (c_net c)) | (simp only [Option.getD_some]; exact (k1 (c_net c))))
  · have c : (!(decide (x4 = (-1 : Int32)))) = false := by first | exact c | (simp only [Option.getD_some] at c; exact c)
    (first | exact (k2 (c_nef c)) | (simp only [Option.getD_some]; exact (k2 (c_nef c))))
theorem w_Main_tour_51 {rod : Nat → Nat × (Nat → Int32)} {d : Nat} {Q : Option MV → MH → Prop} {u0 : Option MV} {u1 : Option MV} {u2 : Option MV} {u3 : Option MV} {u4 : Option MV} {u5 : Option MV} {x6 : Int32} {h : MH}   (q : Q (some (.inl x6)) h) : Wb rod d B_Main_tour 51 [u0, u1, u2, u3, u4, u5, some (.inl x6)] [] h Q := by
  refine Wb.ret (b_Main_tour_51) ?_
  (first | exact q | (simp only [Option.getD_some]; exact q))
theorem w_Main_tour_54 {rod : Nat → Nat × (Nat → Int32)} {d : Nat} {Q : Option MV → MH → Prop} {u0 : Option MV} {u1 : Option MV} {u2 : Option MV} {u3 : Option MV} {x4 : Int32} {u5 : Option MV} {u6 : Option MV} {h : MH}   (k1 : ¬ x4.toInt = (-2) → Wb rod d B_Main_tour 71 [u0, u1, u2, u3, some (.inl x4), u5, u6] [] h Q) (k2 : x4.toInt = (-2) → Wb rod d B_Main_tour 61 [u0, u1, u2, u3, some (.inl x4), u5, u6] [] h Q) : Wb rod d B_Main_tour 54 [u0, u1, u2, u3, some (.inl x4), u5, u6] [] h Q := by
  refine Wb.br (fun _ _ => b_Main_tour_54) (fun c => ?_) (fun c => ?_)
  · have c : (!(decide (x4 = (-2 : Int32)))) = true := by first | exact c | (simp only [Option.getD_some] at c; exact c)
    (first | exact (k1 (c_net c)) | (simp only [Option.getD_some]; exact (k1 (c_net c))))
  · have c : (!(decide (x4 = (-2 : Int32)))) = false := by first | exact c | (simp only [Option.getD_some] at c; exact c)
    (first | exact (k2 (c_nef c)) | (simp only [Option.getD_some]; exact (k2 (c_nef c))))
theorem w_Main_tour_61 {rod : Nat → Nat × (Nat → Int32)} {d : Nat} {Q : Option MV → MH → Prop} {u1 : Option MV} {u2 : Option MV} {u3 : Option MV} {u4 : Option MV} {u5 : Option MV} {u6 : Option MV} {h : MH} (L : Lay h.2)  (k : Wb rod d B_Main_tour 80 [some (.inr (.inr (.inl (some 0)))), u1, u2, u3, u4, u5, u6] [.inl (h.1 70 7)] h Q) : Wb rod d B_Main_tour 61 [some (.inr (.inr (.inl (some 0)))), u1, u2, u3, u4, u5, u6] [] h Q := by
  refine Wb.go (fun r hr q => b_Main_tour_61 (Lay.o0 L) (Lay.k0_4 L) ?_) k
  (first | exact q | (simp only [Option.getD_some, (Lay.r0_4 L)]; exact q))
theorem w_Main_tour_71 {rod : Nat → Nat × (Nat → Int32)} {d : Nat} {Q : Option MV → MH → Prop} {u1 : Option MV} {u2 : Option MV} {u3 : Option MV} {x4 : Int32} {u5 : Option MV} {u6 : Option MV} {h : MH} (L : Lay h.2)  {Q1 : Option MV → MH → Prop} (c : Wc rod d 107 [.inr (.inr (.inl (some 70))), .inl x4] h Q1) (k : ∀ r1 h2, Q1 r1 h2 → Wb rod d B_Main_tour 80 [some (.inr (.inr (.inl (some 0)))), u1, u2, u3, some (.inl x4), u5, u6] (r1.toList ++ []) h2 Q) : Wb rod d B_Main_tour 71 [some (.inr (.inr (.inl (some 0)))), u1, u2, u3, some (.inl x4), u5, u6] [] h Q := by
  refine Wb.call (fun _ _ _ _ => b_Main_tour_71 (Lay.o0 L) (Lay.k0_4 L)) (Q1 := Q1) ?_ ?_
  · (first | exact c | (simp only [Option.getD_some, (Lay.r0_4 L)]; exact c))
  · (first | exact k | (simp only [Option.getD_some, (Lay.r0_4 L)]; exact k))
theorem w_Main_tour_80 {rod : Nat → Nat × (Nat → Int32)} {d : Nat} {Q : Option MV → MH → Prop} {u0 : Option MV} {u1 : Option MV} {u2 : Option MV} {u3 : Option MV} {u4 : Option MV} {u5 : Option MV} {u6 : Option MV} {xs0 : Int32} {h : MH}   (q : Q (some (.inl xs0)) h) : Wb rod d B_Main_tour 80 [u0, u1, u2, u3, u4, u5, u6] [.inl xs0] h Q := by
  refine Wb.ret (b_Main_tour_80) ?_
  (first | exact q | (simp only [Option.getD_some]; exact q))
theorem n_Main_isTour {rod : Nat → Nat × (Nat → Int32)} {d : Nat} {Q : Option MV → MH → Prop} {a0 : Nat} {x1 : Int32} {x2 : Int32} {h : MH} (k : Wb rod d B_Main_isTour 0 [some (.inr (.inr (.inl (some a0)))), some (.inl x1), some (.inl x2)] [] h Q) : Wc rod (d + 1) 102 [.inr (.inr (.inl (some a0))), .inl x1, .inl x2] h Q := Wc.en (fun _ _ => e_Main_isTour) k
theorem w_Main_isTour_0 {rod : Nat → Nat × (Nat → Int32)} {d : Nat} {Q : Option MV → MH → Prop} {u0 : Option MV} {x1 : Int32} {u2 : Option MV} {h : MH}   (k1 : x1.toInt < 0 → Wb rod d B_Main_isTour 22 [u0, some (.inl x1), u2] [] h Q) (k2 : ¬ x1.toInt < 0 → Wb rod d B_Main_isTour 4 [u0, some (.inl x1), u2] [] h Q) : Wb rod d B_Main_isTour 0 [u0, some (.inl x1), u2] [] h Q := by
  refine Wb.br (fun _ _ => b_Main_isTour_0) (fun c => ?_) (fun c => ?_)
  · have c : (decide (x1 < 0)) = true := by first | exact c | (simp only [Option.getD_some] at c; exact c)
    (first | exact (k1 (c_ltt c)) | (simp only [Option.getD_some]; exact (k1 (c_ltt c))))
  · have c : (decide (x1 < 0)) = false := by first | exact c | (simp only [Option.getD_some] at c; exact c)
    (first | exact (k2 (c_ltf c)) | (simp only [Option.getD_some]; exact (k2 (c_ltf c))))
theorem w_Main_isTour_4 {rod : Nat → Nat × (Nat → Int32)} {d : Nat} {Q : Option MV → MH → Prop} {u0 : Option MV} {x1 : Int32} {u2 : Option MV} {h : MH}   (k1 : 40 < x1.toInt → Wb rod d B_Main_isTour 22 [u0, some (.inl x1), u2] [] h Q) (k2 : ¬ 40 < x1.toInt → Wb rod d B_Main_isTour 10 [u0, some (.inl x1), u2] [] h Q) : Wb rod d B_Main_isTour 4 [u0, some (.inl x1), u2] [] h Q := by
  refine Wb.br (fun _ _ => b_Main_isTour_4) (fun c => ?_) (fun c => ?_)
  · have c : (decide ((40 : Int32) < x1)) = true := by first | exact c | (simp only [Option.getD_some] at c; exact c)
    (first | exact (k1 (c_ltt c)) | (simp only [Option.getD_some]; exact (k1 (c_ltt c))))
  · have c : (decide ((40 : Int32) < x1)) = false := by first | exact c | (simp only [Option.getD_some] at c; exact c)
    (first | exact (k2 (c_ltf c)) | (simp only [Option.getD_some]; exact (k2 (c_ltf c))))
theorem w_Main_isTour_10 {rod : Nat → Nat × (Nat → Int32)} {d : Nat} {Q : Option MV → MH → Prop} {a0 : Nat} {u1 : Option MV} {x2 : Int32} {h : MH} (A0 : LandA h.2 a0)  {Q1 : Option MV → MH → Prop} (c : Wc rod d 68 [.inr (.inr (.inl (some a0))), .inl x2] h Q1) (k : ∀ r1 h2, Q1 r1 h2 → Wb rod d B_Main_isTour 15 [some (.inr (.inr (.inl (some a0)))), u1, some (.inl x2)] (r1.toList ++ []) h2 Q) : Wb rod d B_Main_isTour 10 [some (.inr (.inr (.inl (some a0)))), u1, some (.inl x2)] [] h Q := by
  refine Wb.call (fun _ _ _ _ => b_Main_isTour_10 (A0.o)) (Q1 := Q1) ?_ ?_
  · (first | exact c | (simp only [Option.getD_some]; exact c))
  · (first | exact k | (simp only [Option.getD_some]; exact k))
theorem w_Main_isTour_15 {rod : Nat → Nat × (Nat → Int32)} {d : Nat} {Q : Option MV → MH → Prop} {u0 : Option MV} {u1 : Option MV} {u2 : Option MV} {xs0 : Int32} {h : MH}   (k1 : xs0.toInt = 0 → Wb rod d B_Main_isTour 22 [u0, u1, u2] [] h Q) (k2 : ¬ xs0.toInt = 0 → Wb rod d B_Main_isTour 18 [u0, u1, u2] [] h Q) : Wb rod d B_Main_isTour 15 [u0, u1, u2] [.inl xs0] h Q := by
  refine Wb.br (fun _ _ => b_Main_isTour_15) (fun c => ?_) (fun c => ?_)
  · have c : (decide (xs0 = 0)) = true := by first | exact c | (simp only [Option.getD_some] at c; exact c)
    (first | exact (k1 (c_eqt c)) | (simp only [Option.getD_some]; exact (k1 (c_eqt c))))
  · have c : (decide (xs0 = 0)) = false := by first | exact c | (simp only [Option.getD_some] at c; exact c)
    (first | exact (k2 (c_eqf c)) | (simp only [Option.getD_some]; exact (k2 (c_eqf c))))
theorem w_Main_isTour_18 {rod : Nat → Nat × (Nat → Int32)} {d : Nat} {Q : Option MV → MH → Prop} {u0 : Option MV} {u1 : Option MV} {u2 : Option MV} {h : MH}   (k : Wb rod d B_Main_isTour 23 [u0, u1, u2] [.inl (1 : Int32)] h Q) : Wb rod d B_Main_isTour 18 [u0, u1, u2] [] h Q := by
  refine Wb.go (fun r hr q => b_Main_isTour_18 ?_) k
  (first | exact q | (simp only [Option.getD_some]; exact q))
theorem w_Main_isTour_22 {rod : Nat → Nat × (Nat → Int32)} {d : Nat} {Q : Option MV → MH → Prop} {u0 : Option MV} {u1 : Option MV} {u2 : Option MV} {h : MH}   (k : Wb rod d B_Main_isTour 23 [u0, u1, u2] [.inl (0 : Int32)] h Q) : Wb rod d B_Main_isTour 22 [u0, u1, u2] [] h Q := by
  refine Wb.go (fun r hr q => b_Main_isTour_22 ?_) k
  (first | exact q | (simp only [Option.getD_some]; exact q))
theorem w_Main_isTour_23 {rod : Nat → Nat × (Nat → Int32)} {d : Nat} {Q : Option MV → MH → Prop} {u0 : Option MV} {u1 : Option MV} {u2 : Option MV} {xs0 : Int32} {h : MH}  (g0 : xs0 = 0 ∨ xs0 = 1) (q : Q (some (.inl xs0)) h) : Wb rod d B_Main_isTour 23 [u0, u1, u2] [.inl xs0] h Q := by
  refine Wb.ret (b_Main_isTour_23 (d01 g0)) ?_
  (first | exact q | (simp only [Option.getD_some]; exact q))
theorem n_Ways_earn {rod : Nat → Nat × (Nat → Int32)} {d : Nat} {Q : Option MV → MH → Prop} {a1 : Nat} {x2 : Int32} {x3 : Int32} {x4 : Int32} {h : MH} (k : Wb rod d B_Ways_earn 0 [some (.inr (.inr (.inl (some 70)))), some (.inr (.inr (.inl (some a1)))), some (.inl x2), some (.inl x3), some (.inl x4), none] [] h Q) : Wc rod (d + 1) 103 [.inr (.inr (.inl (some 70))), .inr (.inr (.inl (some a1))), .inl x2, .inl x3, .inl x4] h Q := Wc.en (fun _ _ => e_Ways_earn) k
theorem w_Ways_earn_0 {rod : Nat → Nat × (Nat → Int32)} {d : Nat} {Q : Option MV → MH → Prop} {a1 : Nat} {x2 : Int32} {u3 : Option MV} {u4 : Option MV} {u5 : Option MV} {h : MH} (L : Lay h.2)  {Q1 : Option MV → MH → Prop} (c : Wc rod d 99 [.inr (.inr (.inl (some 70))), .inr (.inr (.inl (some a1))), .inl x2] h Q1) (k : ∀ r1 h2, Q1 r1 h2 → Wb rod d B_Ways_earn 6 [some (.inr (.inr (.inl (some 70)))), some (.inr (.inr (.inl (some a1)))), some (.inl x2), u3, u4, u5] (r1.toList ++ []) h2 Q) : Wb rod d B_Ways_earn 0 [some (.inr (.inr (.inl (some 70)))), some (.inr (.inr (.inl (some a1)))), some (.inl x2), u3, u4, u5] [] h Q := by
  refine Wb.call (fun _ _ _ _ => b_Ways_earn_0 (Lay.o70 L)) (Q1 := Q1) ?_ ?_
  · (first | exact c | (simp only [Option.getD_some]; exact c))
  · (first | exact k | (simp only [Option.getD_some]; exact k))
theorem w_Ways_earn_6 {rod : Nat → Nat × (Nat → Int32)} {d : Nat} {Q : Option MV → MH → Prop} {u0 : Option MV} {u1 : Option MV} {u2 : Option MV} {u3 : Option MV} {u4 : Option MV} {u5 : Option MV} {h : MH}  (g0 : okl [u0, u1, u2, u3, u4, u5] 5 = true) (k : Wb rod d B_Ways_earn 9 [u0, u1, u2, u3, u4, some (.inl (0 : Int32))] [] h Q) : Wb rod d B_Ways_earn 6 [u0, u1, u2, u3, u4, u5] [] h Q := by
  refine Wb.go (fun r hr q => b_Ways_earn_6 g0 ?_) k
  (first | exact q | (simp only [Option.getD_some]; exact q))
theorem w_Ways_earn_9 {rod : Nat → Nat × (Nat → Int32)} {d : Nat} {Q : Option MV → MH → Prop} {u1 : Option MV} {u2 : Option MV} {u3 : Option MV} {u4 : Option MV} {x5 : Int32} {h : MH} (L : Lay h.2)  (k1 : (h.1 70 0).toInt ≤ x5.toInt → Wb rod d B_Ways_earn 52 [some (.inr (.inr (.inl (some 70)))), u1, u2, u3, u4, some (.inl x5)] [] h Q) (k2 : ¬ (h.1 70 0).toInt ≤ x5.toInt → Wb rod d B_Ways_earn 18 [some (.inr (.inr (.inl (some 70)))), u1, u2, u3, u4, some (.inl x5)] [] h Q) : Wb rod d B_Ways_earn 9 [some (.inr (.inr (.inl (some 70)))), u1, u2, u3, u4, some (.inl x5)] [] h Q := by
  refine Wb.br (fun _ _ => b_Ways_earn_9 (Lay.o70 L)) (fun c => ?_) (fun c => ?_)
  · have c : (decide ((h.1 70 0) ≤ x5)) = true := by first | exact c | (simp only [Option.getD_some] at c; exact c)
    (first | exact (k1 (c_let c)) | (simp only [Option.getD_some]; exact (k1 (c_let c))))
  · have c : (decide ((h.1 70 0) ≤ x5)) = false := by first | exact c | (simp only [Option.getD_some] at c; exact c)
    (first | exact (k2 (c_lef c)) | (simp only [Option.getD_some]; exact (k2 (c_lef c))))
theorem w_Ways_earn_18 {rod : Nat → Nat × (Nat → Int32)} {d : Nat} {Q : Option MV → MH → Prop} {u1 : Option MV} {x2 : Int32} {u3 : Option MV} {u4 : Option MV} {x5 : Int32} {h : MH} (L : Lay h.2)  (k1 : ((x2 >>> (x5 &&& 31)) &&& (1 : Int32)).toInt = 0 → Wb rod d B_Ways_earn 37 [some (.inr (.inr (.inl (some 70)))), u1, some (.inl x2), u3, u4, some (.inl x5)] [.inl x5, .inr (.inr (.inl (some 72)))] h Q) (k2 : ¬ ((x2 >>> (x5 &&& 31)) &&& (1 : Int32)).toInt = 0 → Wb rod d B_Ways_earn 33 [some (.inr (.inr (.inl (some 70)))), u1, some (.inl x2), u3, u4, some (.inl x5)] [.inl x5, .inr (.inr (.inl (some 72)))] h Q) : Wb rod d B_Ways_earn 18 [some (.inr (.inr (.inl (some 70)))), u1, some (.inl x2), u3, u4, some (.inl x5)] [] h Q := by
  refine Wb.br (fun _ _ => b_Ways_earn_18 (Lay.o70 L)) (fun c => ?_) (fun c => ?_)
  · have c : (decide (((x2 >>> (x5 &&& 31)) &&& (1 : Int32)) = 0)) = true := by first | exact c | (simp only [Option.getD_some, (Lay.r70_2 L)] at c; exact c)
    (first | exact (k1 (c_eqt c)) | (simp only [Option.getD_some, (Lay.r70_2 L)]; exact (k1 (c_eqt c))))
  · have c : (decide (((x2 >>> (x5 &&& 31)) &&& (1 : Int32)) = 0)) = false := by first | exact c | (simp only [Option.getD_some, (Lay.r70_2 L)] at c; exact c)
    (first | exact (k2 (c_eqf c)) | (simp only [Option.getD_some, (Lay.r70_2 L)]; exact (k2 (c_eqf c))))
theorem w_Ways_earn_33 {rod : Nat → Nat × (Nat → Int32)} {d : Nat} {Q : Option MV → MH → Prop} {u0 : Option MV} {u1 : Option MV} {u2 : Option MV} {u3 : Option MV} {u4 : Option MV} {u5 : Option MV} {cs0 : Nat} {xs1 : Int32} {h : MH}   (k : Wb rod d B_Ways_earn 45 [u0, u1, u2, u3, u4, u5] [.inl (0 : Int32), .inl xs1, .inr (.inr (.inl (some cs0)))] h Q) : Wb rod d B_Ways_earn 33 [u0, u1, u2, u3, u4, u5] [.inl xs1, .inr (.inr (.inl (some cs0)))] h Q := by
  refine Wb.go (fun r hr q => b_Ways_earn_33 ?_) k
  (first | exact q | (simp only [Option.getD_some]; exact q))
theorem w_Ways_earn_37 {rod : Nat → Nat × (Nat → Int32)} {d : Nat} {Q : Option MV → MH → Prop} {u0 : Option MV} {a1 : Nat} {u2 : Option MV} {u3 : Option MV} {x4 : Int32} {x5 : Int32} {cs0 : Nat} {xs1 : Int32} {h : MH} (A1 : LandA h.2 a1)  {Q1 : Option MV → MH → Prop} (c : Wc rod d 104 [.inr (.inr (.inl (some a1))), .inl x5, .inl x4] h Q1) (k : ∀ r1 h2, Q1 r1 h2 → Wb rod d B_Ways_earn 45 [u0, some (.inr (.inr (.inl (some a1)))), u2, u3, some (.inl x4), some (.inl x5)] (r1.toList ++ [.inl xs1, .inr (.inr (.inl (some cs0)))]) h2 Q) : Wb rod d B_Ways_earn 37 [u0, some (.inr (.inr (.inl (some a1)))), u2, u3, some (.inl x4), some (.inl x5)] [.inl xs1, .inr (.inr (.inl (some cs0)))] h Q := by
  refine Wb.call (fun _ _ _ _ => b_Ways_earn_37 (A1.o)) (Q1 := Q1) ?_ ?_
  · (first | exact c | (simp only [Option.getD_some]; exact c))
  · (first | exact k | (simp only [Option.getD_some]; exact k))
theorem w_Ways_earn_45 {rod : Nat → Nat × (Nat → Int32)} {d : Nat} {Q : Option MV → MH → Prop} {u0 : Option MV} {u1 : Option MV} {u2 : Option MV} {u3 : Option MV} {u4 : Option MV} {u5 : Option MV} {cs0 : Nat} {ncs0 : Nat} {xs1 : Int32} {xs2 : Int32} {h : MH} (Scs0 : h.2.2[cs0]? = some (0, ncs0)) (g0 : 0 ≤ xs1.toInt ∧ xs1.toInt < ncs0) (k : Wb rod d B_Ways_earn 46 [u0, u1, u2, u3, u4, u5] [] (sI h cs0 xs1.toNatClampNeg xs2) Q) : Wb rod d B_Ways_earn 45 [u0, u1, u2, u3, u4, u5] [.inl xs2, .inl xs1, .inr (.inr (.inl (some cs0)))] h Q := by
  refine Wb.go (fun r hr q => b_Ways_earn_45 (gA_of Scs0 (inB_of g0.1 g0.2)) ?_) k
  (first | exact q | (simp only [Option.getD_some]; exact q))
theorem w_Ways_earn_46 {rod : Nat → Nat × (Nat → Int32)} {d : Nat} {Q : Option MV → MH → Prop} {u0 : Option MV} {u1 : Option MV} {u2 : Option MV} {u3 : Option MV} {u4 : Option MV} {x5 : Int32} {h : MH}  (g0 : okl [u0, u1, u2, u3, u4, some (.inl x5)] 5 = true) (k : Wb rod d B_Ways_earn 9 [u0, u1, u2, u3, u4, some (.inl (x5 + 1))] [] h Q) : Wb rod d B_Ways_earn 46 [u0, u1, u2, u3, u4, some (.inl x5)] [] h Q := by
  refine Wb.go (fun r hr q => b_Ways_earn_46 g0 ?_) k
  (first | exact q | (simp only [Option.getD_some]; exact q))
theorem w_Ways_earn_52 {rod : Nat → Nat × (Nat → Int32)} {d : Nat} {Q : Option MV → MH → Prop} {u1 : Option MV} {u2 : Option MV} {u3 : Option MV} {u4 : Option MV} {u5 : Option MV} {h : MH} (L : Lay h.2)  (k : Wb rod d B_Ways_earn 57 [some (.inr (.inr (.inl (some 70)))), u1, u2, u3, u4, u5] [] (sI h 70 6 (-1 : Int32)) Q) : Wb rod d B_Ways_earn 52 [some (.inr (.inr (.inl (some 70)))), u1, u2, u3, u4, u5] [] h Q := by
  refine Wb.go (fun r hr q => b_Ways_earn_52 (Lay.o70 L) ?_) k
  (first | exact q | (simp only [Option.getD_some]; exact q))
theorem w_Ways_earn_57 {rod : Nat → Nat × (Nat → Int32)} {d : Nat} {Q : Option MV → MH → Prop} {u1 : Option MV} {u2 : Option MV} {u3 : Option MV} {u4 : Option MV} {u5 : Option MV} {h : MH} (L : Lay h.2)  (k : Wb rod d B_Ways_earn 62 [some (.inr (.inr (.inl (some 70)))), u1, u2, u3, u4, u5] [] (sI h 70 7 (0 : Int32)) Q) : Wb rod d B_Ways_earn 57 [some (.inr (.inr (.inl (some 70)))), u1, u2, u3, u4, u5] [] h Q := by
  refine Wb.go (fun r hr q => b_Ways_earn_57 (Lay.o70 L) ?_) k
  (first | exact q | (simp only [Option.getD_some]; exact q))
theorem w_Ways_earn_62 {rod : Nat → Nat × (Nat → Int32)} {d : Nat} {Q : Option MV → MH → Prop} {u1 : Option MV} {u2 : Option MV} {x3 : Int32} {u4 : Option MV} {u5 : Option MV} {h : MH} (L : Lay h.2)  {Q1 : Option MV → MH → Prop} (c : Wc rod d 105 [.inr (.inr (.inl (some 70))), .inl (0 : Int32), .inl (0 : Int32), .inl (1 : Int32), .inl x3, .inl (h.1 72 (0 : Int32).toNatClampNeg)] h Q1) (k : ∀ r1 h2, Q1 r1 h2 → Wb rod d B_Ways_earn 76 [some (.inr (.inr (.inl (some 70)))), u1, u2, some (.inl x3), u4, u5] (r1.toList ++ []) h2 Q) : Wb rod d B_Ways_earn 62 [some (.inr (.inr (.inl (some 70)))), u1, u2, some (.inl x3), u4, u5] [] h Q := by
  refine Wb.call (fun _ _ _ _ => b_Ways_earn_62 (Lay.o70 L) (Lay.a70_2 L ⟨by decide, by decide⟩)) (Q1 := Q1) ?_ ?_
  · (first | exact c | (simp only [Option.getD_some, (Lay.r70_2 L)]; exact c))
  · (first | exact k | (simp only [Option.getD_some, (Lay.r70_2 L)]; exact k))
theorem w_Ways_earn_76 {rod : Nat → Nat × (Nat → Int32)} {d : Nat} {Q : Option MV → MH → Prop} {u1 : Option MV} {u2 : Option MV} {u3 : Option MV} {u4 : Option MV} {u5 : Option MV} {h : MH} (L : Lay h.2)  (q : Q (some (.inl (h.1 70 6))) h) : Wb rod d B_Ways_earn 76 [some (.inr (.inr (.inl (some 70)))), u1, u2, u3, u4, u5] [] h Q := by
  refine Wb.ret (b_Ways_earn_76 (Lay.o70 L)) ?_
  (first | exact q | (simp only [Option.getD_some]; exact q))
theorem n_Land_salesIn {rod : Nat → Nat × (Nat → Int32)} {d : Nat} {Q : Option MV → MH → Prop} {a0 : Nat} {x1 : Int32} {x2 : Int32} {h : MH} (k : Wb rod d B_Land_salesIn 0 [some (.inr (.inr (.inl (some a0)))), some (.inl x1), some (.inl x2), none, none] [] h Q) : Wc rod (d + 1) 104 [.inr (.inr (.inl (some a0))), .inl x1, .inl x2] h Q := Wc.en (fun _ _ => e_Land_salesIn) k
theorem w_Land_salesIn_0 {rod : Nat → Nat × (Nat → Int32)} {d : Nat} {Q : Option MV → MH → Prop} {a0 : Nat} {u1 : Option MV} {x2 : Int32} {u3 : Option MV} {u4 : Option MV} {h : MH} (A0 : LandA h.2 a0)  {Q1 : Option MV → MH → Prop} (c : Wc rod d 68 [.inr (.inr (.inl (some a0))), .inl x2] h Q1) (k : ∀ r1 h2, Q1 r1 h2 → Wb rod d B_Land_salesIn 5 [some (.inr (.inr (.inl (some a0)))), u1, some (.inl x2), u3, u4] (r1.toList ++ []) h2 Q) : Wb rod d B_Land_salesIn 0 [some (.inr (.inr (.inl (some a0)))), u1, some (.inl x2), u3, u4] [] h Q := by
  refine Wb.call (fun _ _ _ _ => b_Land_salesIn_0 (A0.o)) (Q1 := Q1) ?_ ?_
  · (first | exact c | (simp only [Option.getD_some]; exact c))
  · (first | exact k | (simp only [Option.getD_some]; exact k))
theorem w_Land_salesIn_5 {rod : Nat → Nat × (Nat → Int32)} {d : Nat} {Q : Option MV → MH → Prop} {u0 : Option MV} {u1 : Option MV} {u2 : Option MV} {u3 : Option MV} {u4 : Option MV} {xs0 : Int32} {h : MH}   (k1 : ¬ xs0.toInt = 0 → Wb rod d B_Land_salesIn 10 [u0, u1, u2, u3, u4] [] h Q) (k2 : xs0.toInt = 0 → Wb rod d B_Land_salesIn 8 [u0, u1, u2, u3, u4] [] h Q) : Wb rod d B_Land_salesIn 5 [u0, u1, u2, u3, u4] [.inl xs0] h Q := by
  refine Wb.br (fun _ _ => b_Land_salesIn_5) (fun c => ?_) (fun c => ?_)
  · have c : (!(decide (xs0 = 0))) = true := by first | exact c | (simp only [Option.getD_some] at c; exact c)
    (first | exact (k1 (c_net c)) | (simp only [Option.getD_some]; exact (k1 (c_net c))))
  · have c : (!(decide (xs0 = 0))) = false := by first | exact c | (simp only [Option.getD_some] at c; exact c)
    (first | exact (k2 (c_nef c)) | (simp only [Option.getD_some]; exact (k2 (c_nef c))))
theorem w_Land_salesIn_8 {rod : Nat → Nat × (Nat → Int32)} {d : Nat} {Q : Option MV → MH → Prop} {u0 : Option MV} {u1 : Option MV} {u2 : Option MV} {u3 : Option MV} {u4 : Option MV} {h : MH}   (q : Q (some (.inl (0 : Int32))) h) : Wb rod d B_Land_salesIn 8 [u0, u1, u2, u3, u4] [] h Q := by
  refine Wb.ret (b_Land_salesIn_8) ?_
  (first | exact q | (simp only [Option.getD_some]; exact q))
theorem w_Land_salesIn_10 {rod : Nat → Nat × (Nat → Int32)} {d : Nat} {Q : Option MV → MH → Prop} {u0 : Option MV} {u1 : Option MV} {u2 : Option MV} {u3 : Option MV} {u4 : Option MV} {h : MH}  (g0 : okl [u0, u1, u2, u3, u4] 3 = true) (k : Wb rod d B_Land_salesIn 15 [u0, u1, u2, some (.inl (0 : Int32)), some (.inl (0 : Int32))] [] h Q) : Wb rod d B_Land_salesIn 10 [u0, u1, u2, u3, u4] [] h Q := by
  refine Wb.go (fun r hr q => b_Land_salesIn_10 g0 ?_) k
  (first | exact q | (simp only [Option.getD_some]; exact q))
theorem w_Land_salesIn_15 {rod : Nat → Nat × (Nat → Int32)} {d : Nat} {Q : Option MV → MH → Prop} {a0 : Nat} {u1 : Option MV} {u2 : Option MV} {u3 : Option MV} {x4 : Int32} {h : MH} (A0 : LandA h.2 a0)  (k1 : (h.1 a0 4).toInt ≤ x4.toInt → Wb rod d B_Land_salesIn 71 [some (.inr (.inr (.inl (some a0)))), u1, u2, u3, some (.inl x4)] [] h Q) (k2 : ¬ (h.1 a0 4).toInt ≤ x4.toInt → Wb rod d B_Land_salesIn 24 [some (.inr (.inr (.inl (some a0)))), u1, u2, u3, some (.inl x4)] [] h Q) : Wb rod d B_Land_salesIn 15 [some (.inr (.inr (.inl (some a0)))), u1, u2, u3, some (.inl x4)] [] h Q := by
  refine Wb.br (fun _ _ => b_Land_salesIn_15 (A0.o)) (fun c => ?_) (fun c => ?_)
  · have c : (decide ((h.1 a0 4) ≤ x4)) = true := by first | exact c | (simp only [Option.getD_some] at c; exact c)
    (first | exact (k1 (c_let c)) | (simp only [Option.getD_some]; exact (k1 (c_let c))))
  · have c : (decide ((h.1 a0 4) ≤ x4)) = false := by first | exact c | (simp only [Option.getD_some] at c; exact c)
    (first | exact (k2 (c_lef c)) | (simp only [Option.getD_some]; exact (k2 (c_lef c))))
theorem w_Land_salesIn_24 {rod : Nat → Nat × (Nat → Int32)} {d : Nat} {Q : Option MV → MH → Prop} {a0 : Nat} {x1 : Int32} {u2 : Option MV} {u3 : Option MV} {x4 : Int32} {h : MH} (A0 : LandA h.2 a0) (g0 : 0 ≤ x4.toInt ∧ x4.toInt < 8) (k1 : ¬ (h.1 (a0 + 2) x4.toNatClampNeg).toInt = x1.toInt → Wb rod d B_Land_salesIn 65 [some (.inr (.inr (.inl (some a0)))), some (.inl x1), u2, u3, some (.inl x4)] [] h Q) (k2 : (h.1 (a0 + 2) x4.toNatClampNeg).toInt = x1.toInt → Wb rod d B_Land_salesIn 35 [some (.inr (.inr (.inl (some a0)))), some (.inl x1), u2, u3, some (.inl x4)] [] h Q) : Wb rod d B_Land_salesIn 24 [some (.inr (.inr (.inl (some a0)))), some (.inl x1), u2, u3, some (.inl x4)] [] h Q := by
  refine Wb.br (fun _ _ => b_Land_salesIn_24 (A0.o) (A0.a7 g0)) (fun c => ?_) (fun c => ?_)
  · have c : (!(decide ((h.1 (a0 + 2) x4.toNatClampNeg) = x1))) = true := by first | exact c | (simp only [Option.getD_some, A0.r7] at c; exact c)
    (first | exact (k1 (c_net c)) | (simp only [Option.getD_some, A0.r7]; exact (k1 (c_net c))))
  · have c : (!(decide ((h.1 (a0 + 2) x4.toNatClampNeg) = x1))) = false := by first | exact c | (simp only [Option.getD_some, A0.r7] at c; exact c)
    (first | exact (k2 (c_nef c)) | (simp only [Option.getD_some, A0.r7]; exact (k2 (c_nef c))))
theorem w_Land_salesIn_35 {rod : Nat → Nat × (Nat → Int32)} {d : Nat} {Q : Option MV → MH → Prop} {a0 : Nat} {u1 : Option MV} {x2 : Int32} {u3 : Option MV} {x4 : Int32} {h : MH} (A0 : LandA h.2 a0) (g0 : 0 ≤ x2.toInt ∧ x2.toInt < 4) {Q1 : Option MV → MH → Prop} (c : Wc rod d 93 [.inr (.inr (.inl (some a0))), .inl x4, .inl (h.1 (a0 + 6) x2.toNatClampNeg), .inl (h.1 (a0 + 7) x2.toNatClampNeg)] h Q1) (k : ∀ r1 h2, Q1 r1 h2 → Wb rod d B_Land_salesIn 53 [some (.inr (.inr (.inl (some a0)))), u1, some (.inl x2), u3, some (.inl x4)] (r1.toList ++ []) h2 Q) : Wb rod d B_Land_salesIn 35 [some (.inr (.inr (.inl (some a0)))), u1, some (.inl x2), u3, some (.inl x4)] [] h Q := by
  refine Wb.call (fun _ _ _ _ => b_Land_salesIn_35 (A0.o) (A0.a11 g0) (A0.a12 g0)) (Q1 := Q1) ?_ ?_
  · (first | exact c | (simp only [Option.getD_some, A0.r11, A0.r12]; exact c))
  · (first | exact k | (simp only [Option.getD_some, A0.r11, A0.r12]; exact k))
theorem w_Land_salesIn_53 {rod : Nat → Nat × (Nat → Int32)} {d : Nat} {Q : Option MV → MH → Prop} {u0 : Option MV} {u1 : Option MV} {u2 : Option MV} {u3 : Option MV} {u4 : Option MV} {xs0 : Int32} {h : MH}   (k1 : xs0.toInt = 0 → Wb rod d B_Land_salesIn 65 [u0, u1, u2, u3, u4] [] h Q) (k2 : ¬ xs0.toInt = 0 → Wb rod d B_Land_salesIn 56 [u0, u1, u2, u3, u4] [] h Q) : Wb rod d B_Land_salesIn 53 [u0, u1, u2, u3, u4] [.inl xs0] h Q := by
  refine Wb.br (fun _ _ => b_Land_salesIn_53) (fun c => ?_) (fun c => ?_)
  · have c : (decide (xs0 = 0)) = true := by first | exact c | (simp only [Option.getD_some] at c; exact c)
    (first | exact (k1 (c_eqt c)) | (simp only [Option.getD_some]; exact (k1 (c_eqt c))))
  · have c : (decide (xs0 = 0)) = false := by first | exact c | (simp only [Option.getD_some] at c; exact c)
    (first | exact (k2 (c_eqf c)) | (simp only [Option.getD_some]; exact (k2 (c_eqf c))))
theorem w_Land_salesIn_56 {rod : Nat → Nat × (Nat → Int32)} {d : Nat} {Q : Option MV → MH → Prop} {a0 : Nat} {u1 : Option MV} {x2 : Int32} {x3 : Int32} {u4 : Option MV} {h : MH} (A0 : LandA h.2 a0) (g0 : 0 ≤ x2.toInt ∧ x2.toInt < 4) (k : Wb rod d B_Land_salesIn 65 [some (.inr (.inr (.inl (some a0)))), u1, some (.inl x2), some (.inl (x3 + (h.1 (a0 + 7) x2.toNatClampNeg))), u4] [] h Q) : Wb rod d B_Land_salesIn 56 [some (.inr (.inr (.inl (some a0)))), u1, some (.inl x2), some (.inl x3), u4] [] h Q := by
  refine Wb.go (fun r hr q => b_Land_salesIn_56 (A0.o) (A0.a12 g0) ?_) k
  (first | exact q | (simp only [Option.getD_some, A0.r12]; exact q))
theorem w_Land_salesIn_65 {rod : Nat → Nat × (Nat → Int32)} {d : Nat} {Q : Option MV → MH → Prop} {u0 : Option MV} {u1 : Option MV} {u2 : Option MV} {u3 : Option MV} {x4 : Int32} {h : MH}  (g0 : okl [u0, u1, u2, u3, some (.inl x4)] 4 = true) (k : Wb rod d B_Land_salesIn 15 [u0, u1, u2, u3, some (.inl (x4 + 1))] [] h Q) : Wb rod d B_Land_salesIn 65 [u0, u1, u2, u3, some (.inl x4)] [] h Q := by
  refine Wb.go (fun r hr q => b_Land_salesIn_65 g0 ?_) k
  (first | exact q | (simp only [Option.getD_some]; exact q))
theorem w_Land_salesIn_71 {rod : Nat → Nat × (Nat → Int32)} {d : Nat} {Q : Option MV → MH → Prop} {u0 : Option MV} {u1 : Option MV} {u2 : Option MV} {x3 : Int32} {u4 : Option MV} {h : MH}   (q : Q (some (.inl x3)) h) : Wb rod d B_Land_salesIn 71 [u0, u1, u2, some (.inl x3), u4] [] h Q := by
  refine Wb.ret (b_Land_salesIn_71) ?_
  (first | exact q | (simp only [Option.getD_some]; exact q))
theorem n_Ways_earnOn {rod : Nat → Nat × (Nat → Int32)} {d : Nat} {Q : Option MV → MH → Prop} {x1 : Int32} {x2 : Int32} {x3 : Int32} {x4 : Int32} {x5 : Int32} {h : MH} (k : Wb rod d B_Ways_earnOn 0 [some (.inr (.inr (.inl (some 70)))), some (.inl x1), some (.inl x2), some (.inl x3), some (.inl x4), some (.inl x5), none, none] [] h Q) : Wc rod (d + 1) 105 [.inr (.inr (.inl (some 70))), .inl x1, .inl x2, .inl x3, .inl x4, .inl x5] h Q := Wc.en (fun _ _ => e_Ways_earnOn) k
theorem w_Ways_earnOn_0 {rod : Nat → Nat × (Nat → Int32)} {d : Nat} {Q : Option MV → MH → Prop} {u1 : Option MV} {u2 : Option MV} {u3 : Option MV} {u4 : Option MV} {x5 : Int32} {u6 : Option MV} {u7 : Option MV} {h : MH} (L : Lay h.2)  (k1 : (h.1 70 6).toInt < x5.toInt → Wb rod d B_Ways_earnOn 26 [some (.inr (.inr (.inl (some 70)))), u1, u2, u3, u4, some (.inl x5), u6, u7] [] h Q) (k2 : ¬ (h.1 70 6).toInt < x5.toInt → Wb rod d B_Ways_earnOn 9 [some (.inr (.inr (.inl (some 70)))), u1, u2, u3, u4, some (.inl x5), u6, u7] [] h Q) : Wb rod d B_Ways_earnOn 0 [some (.inr (.inr (.inl (some 70)))), u1, u2, u3, u4, some (.inl x5), u6, u7] [] h Q := by
  refine Wb.br (fun _ _ => b_Ways_earnOn_0 (Lay.o70 L)) (fun c => ?_) (fun c => ?_)
  · have c : (decide ((h.1 70 6) < x5)) = true := by first | exact c | (simp only [Option.getD_some] at c; exact c)
    (first | exact (k1 (c_ltt c)) | (simp only [Option.getD_some]; exact (k1 (c_ltt c))))
  · have c : (decide ((h.1 70 6) < x5)) = false := by first | exact c | (simp only [Option.getD_some] at c; exact c)
    (first | exact (k2 (c_ltf c)) | (simp only [Option.getD_some]; exact (k2 (c_ltf c))))
theorem w_Ways_earnOn_9 {rod : Nat → Nat × (Nat → Int32)} {d : Nat} {Q : Option MV → MH → Prop} {u1 : Option MV} {u2 : Option MV} {u3 : Option MV} {u4 : Option MV} {x5 : Int32} {u6 : Option MV} {u7 : Option MV} {h : MH} (L : Lay h.2)  (k1 : ¬ x5.toInt = (h.1 70 6).toInt → Wb rod d B_Ways_earnOn 37 [some (.inr (.inr (.inl (some 70)))), u1, u2, u3, u4, some (.inl x5), u6, u7] [] h Q) (k2 : x5.toInt = (h.1 70 6).toInt → Wb rod d B_Ways_earnOn 18 [some (.inr (.inr (.inl (some 70)))), u1, u2, u3, u4, some (.inl x5), u6, u7] [] h Q) : Wb rod d B_Ways_earnOn 9 [some (.inr (.inr (.inl (some 70)))), u1, u2, u3, u4, some (.inl x5), u6, u7] [] h Q := by
  refine Wb.br (fun _ _ => b_Ways_earnOn_9 (Lay.o70 L)) (fun c => ?_) (fun c => ?_)
  · have c : (!(decide (x5 = (h.1 70 6)))) = true := by first | exact c | (simp only [Option.getD_some] at c; exact c)
    (first | exact (k1 (c_net c)) | (simp only [Option.getD_some]; exact (k1 (c_net c))))
  · have c : (!(decide (x5 = (h.1 70 6)))) = false := by first | exact c | (simp only [Option.getD_some] at c; exact c)
    (first | exact (k2 (c_nef c)) | (simp only [Option.getD_some]; exact (k2 (c_nef c))))
theorem w_Ways_earnOn_18 {rod : Nat → Nat × (Nat → Int32)} {d : Nat} {Q : Option MV → MH → Prop} {x1 : Int32} {u2 : Option MV} {u3 : Option MV} {u4 : Option MV} {u5 : Option MV} {u6 : Option MV} {u7 : Option MV} {h : MH} (L : Lay h.2)  (k1 : (h.1 70 7).toInt ≤ x1.toInt → Wb rod d B_Ways_earnOn 37 [some (.inr (.inr (.inl (some 70)))), some (.inl x1), u2, u3, u4, u5, u6, u7] [] h Q) (k2 : ¬ (h.1 70 7).toInt ≤ x1.toInt → Wb rod d B_Ways_earnOn 26 [some (.inr (.inr (.inl (some 70)))), some (.inl x1), u2, u3, u4, u5, u6, u7] [] h Q) : Wb rod d B_Ways_earnOn 18 [some (.inr (.inr (.inl (some 70)))), some (.inl x1), u2, u3, u4, u5, u6, u7] [] h Q := by
  refine Wb.br (fun _ _ => b_Ways_earnOn_18 (Lay.o70 L)) (fun c => ?_) (fun c => ?_)
  · have c : (decide ((h.1 70 7) ≤ x1)) = true := by first | exact c | (simp only [Option.getD_some] at c; exact c)
    (first | exact (k1 (c_let c)) | (simp only [Option.getD_some]; exact (k1 (c_let c))))
  · have c : (decide ((h.1 70 7) ≤ x1)) = false := by first | exact c | (simp only [Option.getD_some] at c; exact c)
    (first | exact (k2 (c_lef c)) | (simp only [Option.getD_some]; exact (k2 (c_lef c))))
theorem w_Ways_earnOn_26 {rod : Nat → Nat × (Nat → Int32)} {d : Nat} {Q : Option MV → MH → Prop} {u1 : Option MV} {u2 : Option MV} {u3 : Option MV} {u4 : Option MV} {x5 : Int32} {u6 : Option MV} {u7 : Option MV} {h : MH} (L : Lay h.2)  (k : Wb rod d B_Ways_earnOn 32 [some (.inr (.inr (.inl (some 70)))), u1, u2, u3, u4, some (.inl x5), u6, u7] [] (sI h 70 6 x5) Q) : Wb rod d B_Ways_earnOn 26 [some (.inr (.inr (.inl (some 70)))), u1, u2, u3, u4, some (.inl x5), u6, u7] [] h Q := by
  refine Wb.go (fun r hr q => b_Ways_earnOn_26 (Lay.o70 L) ?_) k
  (first | exact q | (simp only [Option.getD_some]; exact q))
theorem w_Ways_earnOn_32 {rod : Nat → Nat × (Nat → Int32)} {d : Nat} {Q : Option MV → MH → Prop} {x1 : Int32} {u2 : Option MV} {u3 : Option MV} {u4 : Option MV} {u5 : Option MV} {u6 : Option MV} {u7 : Option MV} {h : MH} (L : Lay h.2)  {Q1 : Option MV → MH → Prop} (c : Wc rod d 106 [.inr (.inr (.inl (some 70))), .inl x1] h Q1) (k : ∀ r1 h2, Q1 r1 h2 → Wb rod d B_Ways_earnOn 37 [some (.inr (.inr (.inl (some 70)))), some (.inl x1), u2, u3, u4, u5, u6, u7] (r1.toList ++ []) h2 Q) : Wb rod d B_Ways_earnOn 32 [some (.inr (.inr (.inl (some 70)))), some (.inl x1), u2, u3, u4, u5, u6, u7] [] h Q := by
  refine Wb.call (fun _ _ _ _ => b_Ways_earnOn_32 (Lay.o70 L)) (Q1 := Q1) ?_ ?_
  · (first | exact c | (simp only [Option.getD_some]; exact c))
  · (first | exact k | (simp only [Option.getD_some]; exact k))
theorem w_Ways_earnOn_37 {rod : Nat → Nat × (Nat → Int32)} {d : Nat} {Q : Option MV → MH → Prop} {u0 : Option MV} {x1 : Int32} {u2 : Option MV} {u3 : Option MV} {u4 : Option MV} {u5 : Option MV} {u6 : Option MV} {u7 : Option MV} {h : MH}   (k1 : x1.toInt < 5 → Wb rod d B_Ways_earnOn 43 [u0, some (.inl x1), u2, u3, u4, u5, u6, u7] [] h Q) (k2 : ¬ x1.toInt < 5 → Wb rod d B_Ways_earnOn 42 [u0, some (.inl x1), u2, u3, u4, u5, u6, u7] [] h Q) : Wb rod d B_Ways_earnOn 37 [u0, some (.inl x1), u2, u3, u4, u5, u6, u7] [] h Q := by
  refine Wb.br (fun _ _ => b_Ways_earnOn_37) (fun c => ?_) (fun c => ?_)
  · have c : (decide (x1 < (5 : Int32))) = true := by first | exact c | (simp only [Option.getD_some] at c; exact c)
    (first | exact (k1 (c_ltt c)) | (simp only [Option.getD_some]; exact (k1 (c_ltt c))))
  · have c : (decide (x1 < (5 : Int32))) = false := by first | exact c | (simp only [Option.getD_some] at c; exact c)
    (first | exact (k2 (c_ltf c)) | (simp only [Option.getD_some]; exact (k2 (c_ltf c))))
theorem w_Ways_earnOn_42 {rod : Nat → Nat × (Nat → Int32)} {d : Nat} {Q : Option MV → MH → Prop} {u0 : Option MV} {u1 : Option MV} {u2 : Option MV} {u3 : Option MV} {u4 : Option MV} {u5 : Option MV} {u6 : Option MV} {u7 : Option MV} {h : MH}   (q : Q (none) h) : Wb rod d B_Ways_earnOn 42 [u0, u1, u2, u3, u4, u5, u6, u7] [] h Q := by
  refine Wb.ret (b_Ways_earnOn_42) ?_
  (first | exact q | (simp only [Option.getD_some]; exact q))
theorem w_Ways_earnOn_43 {rod : Nat → Nat × (Nat → Int32)} {d : Nat} {Q : Option MV → MH → Prop} {u0 : Option MV} {u1 : Option MV} {u2 : Option MV} {u3 : Option MV} {u4 : Option MV} {u5 : Option MV} {u6 : Option MV} {u7 : Option MV} {h : MH}  (g0 : okl [u0, u1, u2, u3, u4, u5, u6, u7] 6 = true) (k : Wb rod d B_Ways_earnOn 46 [u0, u1, u2, u3, u4, u5, some (.inl (1 : Int32)), u7] [] h Q) : Wb rod d B_Ways_earnOn 43 [u0, u1, u2, u3, u4, u5, u6, u7] [] h Q := by
  refine Wb.go (fun r hr q => b_Ways_earnOn_43 g0 ?_) k
  (first | exact q | (simp only [Option.getD_some]; exact q))
theorem w_Ways_earnOn_46 {rod : Nat → Nat × (Nat → Int32)} {d : Nat} {Q : Option MV → MH → Prop} {u1 : Option MV} {u2 : Option MV} {u3 : Option MV} {u4 : Option MV} {u5 : Option MV} {x6 : Int32} {u7 : Option MV} {h : MH} (L : Lay h.2)  (k1 : (h.1 70 0).toInt ≤ x6.toInt → Wb rod d B_Ways_earnOn 124 [some (.inr (.inr (.inl (some 70)))), u1, u2, u3, u4, u5, some (.inl x6), u7] [] h Q) (k2 : ¬ (h.1 70 0).toInt ≤ x6.toInt → Wb rod d B_Ways_earnOn 55 [some (.inr (.inr (.inl (some 70)))), u1, u2, u3, u4, u5, some (.inl x6), u7] [] h Q) : Wb rod d B_Ways_earnOn 46 [some (.inr (.inr (.inl (some 70)))), u1, u2, u3, u4, u5, some (.inl x6), u7] [] h Q := by
  refine Wb.br (fun _ _ => b_Ways_earnOn_46 (Lay.o70 L)) (fun c => ?_) (fun c => ?_)
  · have c : (decide ((h.1 70 0) ≤ x6)) = true := by first | exact c | (simp only [Option.getD_some] at c; exact c)
    (first | exact (k1 (c_let c)) | (simp only [Option.getD_some]; exact (k1 (c_let c))))
  · have c : (decide ((h.1 70 0) ≤ x6)) = false := by first | exact c | (simp only [Option.getD_some] at c; exact c)
    (first | exact (k2 (c_lef c)) | (simp only [Option.getD_some]; exact (k2 (c_lef c))))
theorem w_Ways_earnOn_55 {rod : Nat → Nat × (Nat → Int32)} {d : Nat} {Q : Option MV → MH → Prop} {u1 : Option MV} {x2 : Int32} {u3 : Option MV} {u4 : Option MV} {u5 : Option MV} {x6 : Int32} {u7 : Option MV} {h : MH} (L : Lay h.2)  {Q1 : Option MV → MH → Prop} (c : Wc rod d 100 [.inr (.inr (.inl (some 70))), .inl x2, .inl x6] h Q1) (k : ∀ r1 h2, Q1 r1 h2 → Wb rod d B_Ways_earnOn 62 [some (.inr (.inr (.inl (some 70)))), u1, some (.inl x2), u3, u4, u5, some (.inl x6), u7] (r1.toList ++ []) h2 Q) : Wb rod d B_Ways_earnOn 55 [some (.inr (.inr (.inl (some 70)))), u1, some (.inl x2), u3, u4, u5, some (.inl x6), u7] [] h Q := by
  refine Wb.call (fun _ _ _ _ => b_Ways_earnOn_55 (Lay.o70 L)) (Q1 := Q1) ?_ ?_
  · (first | exact c | (simp only [Option.getD_some]; exact c))
  · (first | exact k | (simp only [Option.getD_some]; exact k))
theorem w_Ways_earnOn_62 {rod : Nat → Nat × (Nat → Int32)} {d : Nat} {Q : Option MV → MH → Prop} {u0 : Option MV} {u1 : Option MV} {u2 : Option MV} {x3 : Int32} {u4 : Option MV} {u5 : Option MV} {x6 : Int32} {u7 : Option MV} {xs0 : Int32} {h : MH}   (k1 : ¬ ((x3 >>> (x6 &&& 31)) &&& (1 : Int32)).toInt = 0 → Wb rod d B_Ways_earnOn 118 [u0, u1, u2, some (.inl x3), u4, u5, some (.inl x6), some (.inl xs0)] [] h Q) (k2 : ((x3 >>> (x6 &&& 31)) &&& (1 : Int32)).toInt = 0 → Wb rod d B_Ways_earnOn 73 [u0, u1, u2, some (.inl x3), u4, u5, some (.inl x6), some (.inl xs0)] [] h Q) : Wb rod d B_Ways_earnOn 62 [u0, u1, u2, some (.inl x3), u4, u5, some (.inl x6), u7] [.inl xs0] h Q := by
  refine Wb.br (fun _ _ => b_Ways_earnOn_62) (fun c => ?_) (fun c => ?_)
  · have c : (!(decide (((x3 >>> (x6 &&& 31)) &&& (1 : Int32)) = 0))) = true := by first | exact c | (simp only [Option.getD_some] at c; exact c)
    (first | exact (k1 (c_net c)) | (simp only [Option.getD_some]; exact (k1 (c_net c))))
  · have c : (!(decide (((x3 >>> (x6 &&& 31)) &&& (1 : Int32)) = 0))) = false := by first | exact c | (simp only [Option.getD_some] at c; exact c)
    (first | exact (k2 (c_nef c)) | (simp only [Option.getD_some]; exact (k2 (c_nef c))))
theorem w_Ways_earnOn_73 {rod : Nat → Nat × (Nat → Int32)} {d : Nat} {Q : Option MV → MH → Prop} {u0 : Option MV} {u1 : Option MV} {u2 : Option MV} {u3 : Option MV} {x4 : Int32} {u5 : Option MV} {u6 : Option MV} {x7 : Int32} {h : MH}   (k1 : x4.toInt < x7.toInt → Wb rod d B_Ways_earnOn 118 [u0, u1, u2, u3, some (.inl x4), u5, u6, some (.inl x7)] [] h Q) (k2 : ¬ x4.toInt < x7.toInt → Wb rod d B_Ways_earnOn 80 [u0, u1, u2, u3, some (.inl x4), u5, u6, some (.inl x7)] [] h Q) : Wb rod d B_Ways_earnOn 73 [u0, u1, u2, u3, some (.inl x4), u5, u6, some (.inl x7)] [] h Q := by
  refine Wb.br (fun _ _ => b_Ways_earnOn_73) (fun c => ?_) (fun c => ?_)
  · have c : (decide (x4 < x7)) = true := by first | exact c | (simp only [Option.getD_some] at c; exact c)
    (first | exact (k1 (c_ltt c)) | (simp only [Option.getD_some]; exact (k1 (c_ltt c))))
  · have c : (decide (x4 < x7)) = false := by first | exact c | (simp only [Option.getD_some] at c; exact c)
    (first | exact (k2 (c_ltf c)) | (simp only [Option.getD_some]; exact (k2 (c_ltf c))))
theorem w_Ways_earnOn_80 {rod : Nat → Nat × (Nat → Int32)} {d : Nat} {Q : Option MV → MH → Prop} {x1 : Int32} {u2 : Option MV} {u3 : Option MV} {u4 : Option MV} {u5 : Option MV} {x6 : Int32} {u7 : Option MV} {h : MH} (L : Lay h.2) (g0 : 0 ≤ x1.toInt ∧ x1.toInt < 6) (k : Wb rod d B_Ways_earnOn 88 [some (.inr (.inr (.inl (some 70)))), some (.inl x1), u2, u3, u4, u5, some (.inl x6), u7] [] (sI h 73 x1.toNatClampNeg x6) Q) : Wb rod d B_Ways_earnOn 80 [some (.inr (.inr (.inl (some 70)))), some (.inl x1), u2, u3, u4, u5, some (.inl x6), u7] [] h Q := by
  refine Wb.go (fun r hr q => b_Ways_earnOn_80 (Lay.o70 L) (Lay.a70_3 L g0) ?_) k
  (first | exact q | (simp only [Option.getD_some, (Lay.r70_3 L)]; exact q))
theorem w_Ways_earnOn_88 {rod : Nat → Nat × (Nat → Int32)} {d : Nat} {Q : Option MV → MH → Prop} {x1 : Int32} {u2 : Option MV} {x3 : Int32} {x4 : Int32} {x5 : Int32} {x6 : Int32} {x7 : Int32} {h : MH} (L : Lay h.2) (g0 : 0 ≤ x6.toInt ∧ x6.toInt < 6) {Q1 : Option MV → MH → Prop} (c : Wc rod d 105 [.inr (.inr (.inl (some 70))), .inl (x1 + (1 : Int32)), .inl x6, .inl (x3 ||| ((1 : Int32) <<< (x6 &&& 31))), .inl (x4 - x7), .inl (x5 + (h.1 72 x6.toNatClampNeg))] h Q1) (k : ∀ r1 h2, Q1 r1 h2 → Wb rod d B_Ways_earnOn 118 [some (.inr (.inr (.inl (some 70)))), some (.inl x1), u2, some (.inl x3), some (.inl x4), some (.inl x5), some (.inl x6), some (.inl x7)] (r1.toList ++ []) h2 Q) : Wb rod d B_Ways_earnOn 88 [some (.inr (.inr (.inl (some 70)))), some (.inl x1), u2, some (.inl x3), some (.inl x4), some (.inl x5), some (.inl x6), some (.inl x7)] [] h Q := by
  refine Wb.call (fun _ _ _ _ => b_Ways_earnOn_88 (Lay.o70 L) (Lay.a70_2 L g0)) (Q1 := Q1) ?_ ?_
  · (first | exact c | (simp only [Option.getD_some, (Lay.r70_2 L)]; exact c))
  · (first | exact k | (simp only [Option.getD_some, (Lay.r70_2 L)]; exact k))
theorem w_Ways_earnOn_118 {rod : Nat → Nat × (Nat → Int32)} {d : Nat} {Q : Option MV → MH → Prop} {u0 : Option MV} {u1 : Option MV} {u2 : Option MV} {u3 : Option MV} {u4 : Option MV} {u5 : Option MV} {x6 : Int32} {u7 : Option MV} {h : MH}  (g0 : okl [u0, u1, u2, u3, u4, u5, some (.inl x6), u7] 6 = true) (k : Wb rod d B_Ways_earnOn 46 [u0, u1, u2, u3, u4, u5, some (.inl (x6 + 1)), u7] [] h Q) : Wb rod d B_Ways_earnOn 118 [u0, u1, u2, u3, u4, u5, some (.inl x6), u7] [] h Q := by
  refine Wb.go (fun r hr q => b_Ways_earnOn_118 g0 ?_) k
  (first | exact q | (simp only [Option.getD_some]; exact q))
theorem w_Ways_earnOn_124 {rod : Nat → Nat × (Nat → Int32)} {d : Nat} {Q : Option MV → MH → Prop} {u0 : Option MV} {u1 : Option MV} {u2 : Option MV} {u3 : Option MV} {u4 : Option MV} {u5 : Option MV} {u6 : Option MV} {u7 : Option MV} {h : MH}   (q : Q (none) h) : Wb rod d B_Ways_earnOn 124 [u0, u1, u2, u3, u4, u5, u6, u7] [] h Q := by
  refine Wb.ret (b_Ways_earnOn_124) ?_
  (first | exact q | (simp only [Option.getD_some]; exact q))
theorem n_Ways_keepRow {rod : Nat → Nat × (Nat → Int32)} {d : Nat} {Q : Option MV → MH → Prop} {x1 : Int32} {h : MH} (k : Wb rod d B_Ways_keepRow 0 [some (.inr (.inr (.inl (some 70)))), some (.inl x1)] [] h Q) : Wc rod (d + 1) 106 [.inr (.inr (.inl (some 70))), .inl x1] h Q := Wc.en (fun _ _ => e_Ways_keepRow) k
theorem w_Ways_keepRow_0 {rod : Nat → Nat × (Nat → Int32)} {d : Nat} {Q : Option MV → MH → Prop} {x1 : Int32} {h : MH} (L : Lay h.2)  (k : Wb rod d B_Ways_keepRow 10 [some (.inr (.inr (.inl (some 70)))), some (.inl x1)] [] (sI h 70 7 (if (6 : Int32) < x1 then (6 : Int32) else x1)) Q) : Wb rod d B_Ways_keepRow 0 [some (.inr (.inr (.inl (some 70)))), some (.inl x1)] [] h Q := by
  refine Wb.go (fun r hr q => b_Ways_keepRow_0 (Lay.o70 L) ?_) k
  (first | exact q | (simp only [Option.getD_some]; exact q))
theorem w_Ways_keepRow_10 {rod : Nat → Nat × (Nat → Int32)} {d : Nat} {Q : Option MV → MH → Prop} {u1 : Option MV} {h : MH} (L : Lay h.2) (g0 : 0 ≤ (h.1 70 7).toInt ∧ (h.1 70 7).toInt ≤ 6) (k : Wb rod d B_Ways_keepRow 27 [some (.inr (.inr (.inl (some 70)))), u1] [] (sC h 73 74 (0 : Int32).toNatClampNeg (0 : Int32).toNatClampNeg (h.1 70 7).toNatClampNeg) Q) : Wb rod d B_Ways_keepRow 10 [some (.inr (.inr (.inl (some 70)))), u1] [] h Q := by
  refine Wb.go (fun r hr q => b_Ways_keepRow_10 (Lay.o70 L) (cp_ok (N1 := 6) (N2 := 6) (N := 6) (Lay.k70_3 L) (Lay.k70_4 L) (by decide) (Lay.n70_3 L) (Lay.n70_4 L) g0 (by decide) (by decide)) ?_) k
  (first | exact q | (simp only [Option.getD_some, (Lay.r70_3 L), (Lay.r70_4 L)]; exact q))
theorem w_Ways_keepRow_27 {rod : Nat → Nat × (Nat → Int32)} {d : Nat} {Q : Option MV → MH → Prop} {u0 : Option MV} {u1 : Option MV} {h : MH}   (q : Q (none) h) : Wb rod d B_Ways_keepRow 27 [u0, u1] [] h Q := by
  refine Wb.ret (b_Ways_keepRow_27) ?_
  (first | exact q | (simp only [Option.getD_some]; exact q))
theorem n_Ways_townOfRow {rod : Nat → Nat × (Nat → Int32)} {d : Nat} {Q : Option MV → MH → Prop} {x1 : Int32} {h : MH} (k : Wb rod d B_Ways_townOfRow 0 [some (.inr (.inr (.inl (some 70)))), some (.inl x1)] [] h Q) : Wc rod (d + 1) 107 [.inr (.inr (.inl (some 70))), .inl x1] h Q := Wc.en (fun _ _ => e_Ways_townOfRow) k
theorem w_Ways_townOfRow_0 {rod : Nat → Nat × (Nat → Int32)} {d : Nat} {Q : Option MV → MH → Prop} {u0 : Option MV} {x1 : Int32} {h : MH}   (k1 : x1.toInt < 0 → Wb rod d B_Ways_townOfRow 27 [u0, some (.inl x1)] [] h Q) (k2 : ¬ x1.toInt < 0 → Wb rod d B_Ways_townOfRow 4 [u0, some (.inl x1)] [] h Q) : Wb rod d B_Ways_townOfRow 0 [u0, some (.inl x1)] [] h Q := by
  refine Wb.br (fun _ _ => b_Ways_townOfRow_0) (fun c => ?_) (fun c => ?_)
  · have c : (decide (x1 < 0)) = true := by first | exact c | (simp only [Option.getD_some] at c; exact c)
    (first | exact (k1 (c_ltt c)) | (simp only [Option.getD_some]; exact (k1 (c_ltt c))))
  · have c : (decide (x1 < 0)) = false := by first | exact c | (simp only [Option.getD_some] at c; exact c)
    (first | exact (k2 (c_ltf c)) | (simp only [Option.getD_some]; exact (k2 (c_ltf c))))
theorem w_Ways_townOfRow_4 {rod : Nat → Nat × (Nat → Int32)} {d : Nat} {Q : Option MV → MH → Prop} {x1 : Int32} {h : MH} (L : Lay h.2)  (k1 : (h.1 70 7).toInt ≤ x1.toInt → Wb rod d B_Ways_townOfRow 27 [some (.inr (.inr (.inl (some 70)))), some (.inl x1)] [] h Q) (k2 : ¬ (h.1 70 7).toInt ≤ x1.toInt → Wb rod d B_Ways_townOfRow 12 [some (.inr (.inr (.inl (some 70)))), some (.inl x1)] [] h Q) : Wb rod d B_Ways_townOfRow 4 [some (.inr (.inr (.inl (some 70)))), some (.inl x1)] [] h Q := by
  refine Wb.br (fun _ _ => b_Ways_townOfRow_4 (Lay.o70 L)) (fun c => ?_) (fun c => ?_)
  · have c : (decide ((h.1 70 7) ≤ x1)) = true := by first | exact c | (simp only [Option.getD_some] at c; exact c)
    (first | exact (k1 (c_let c)) | (simp only [Option.getD_some]; exact (k1 (c_let c))))
  · have c : (decide ((h.1 70 7) ≤ x1)) = false := by first | exact c | (simp only [Option.getD_some] at c; exact c)
    (first | exact (k2 (c_lef c)) | (simp only [Option.getD_some]; exact (k2 (c_lef c))))
theorem w_Ways_townOfRow_12 {rod : Nat → Nat × (Nat → Int32)} {d : Nat} {Q : Option MV → MH → Prop} {u0 : Option MV} {x1 : Int32} {h : MH}   (k1 : 6 ≤ x1.toInt → Wb rod d B_Ways_townOfRow 27 [u0, some (.inl x1)] [] h Q) (k2 : ¬ 6 ≤ x1.toInt → Wb rod d B_Ways_townOfRow 18 [u0, some (.inl x1)] [] h Q) : Wb rod d B_Ways_townOfRow 12 [u0, some (.inl x1)] [] h Q := by
  refine Wb.br (fun _ _ => b_Ways_townOfRow_12) (fun c => ?_) (fun c => ?_)
  · have c : (decide ((6 : Int32) ≤ x1)) = true := by first | exact c | (simp only [Option.getD_some] at c; exact c)
    (first | exact (k1 (c_let c)) | (simp only [Option.getD_some]; exact (k1 (c_let c))))
  · have c : (decide ((6 : Int32) ≤ x1)) = false := by first | exact c | (simp only [Option.getD_some] at c; exact c)
    (first | exact (k2 (c_lef c)) | (simp only [Option.getD_some]; exact (k2 (c_lef c))))
theorem w_Ways_townOfRow_18 {rod : Nat → Nat × (Nat → Int32)} {d : Nat} {Q : Option MV → MH → Prop} {x1 : Int32} {h : MH} (L : Lay h.2) (g0 : 0 ≤ x1.toInt ∧ x1.toInt < 6) (k : Wb rod d B_Ways_townOfRow 28 [some (.inr (.inr (.inl (some 70)))), some (.inl x1)] [.inl (h.1 74 x1.toNatClampNeg)] h Q) : Wb rod d B_Ways_townOfRow 18 [some (.inr (.inr (.inl (some 70)))), some (.inl x1)] [] h Q := by
  refine Wb.go (fun r hr q => b_Ways_townOfRow_18 (Lay.o70 L) (Lay.a70_4 L g0) ?_) k
  (first | exact q | (simp only [Option.getD_some, (Lay.r70_4 L)]; exact q))
theorem w_Ways_townOfRow_27 {rod : Nat → Nat × (Nat → Int32)} {d : Nat} {Q : Option MV → MH → Prop} {u0 : Option MV} {u1 : Option MV} {h : MH}   (k : Wb rod d B_Ways_townOfRow 28 [u0, u1] [.inl (-1 : Int32)] h Q) : Wb rod d B_Ways_townOfRow 27 [u0, u1] [] h Q := by
  refine Wb.go (fun r hr q => b_Ways_townOfRow_27 ?_) k
  (first | exact q | (simp only [Option.getD_some]; exact q))
theorem w_Ways_townOfRow_28 {rod : Nat → Nat × (Nat → Int32)} {d : Nat} {Q : Option MV → MH → Prop} {u0 : Option MV} {u1 : Option MV} {xs0 : Int32} {h : MH}   (q : Q (some (.inl xs0)) h) : Wb rod d B_Ways_townOfRow 28 [u0, u1] [.inl xs0] h Q := by
  refine Wb.ret (b_Ways_townOfRow_28) ?_
  (first | exact q | (simp only [Option.getD_some]; exact q))
theorem n_Main_hold {rod : Nat → Nat × (Nat → Int32)} {d : Nat} {Q : Option MV → MH → Prop} {x1 : Int32} {x2 : Int32} {x3 : Int32} {h : MH} (k : Wb rod d B_Main_hold 0 [some (.inr (.inr (.inl (some 0)))), some (.inl x1), some (.inl x2), some (.inl x3), none] [] h Q) : Wc rod (d + 1) 108 [.inr (.inr (.inl (some 0))), .inl x1, .inl x2, .inl x3] h Q := Wc.en (fun _ _ => e_Main_hold) k
theorem w_Main_hold_0 {rod : Nat → Nat × (Nat → Int32)} {d : Nat} {Q : Option MV → MH → Prop} {x1 : Int32} {u2 : Option MV} {u3 : Option MV} {u4 : Option MV} {h : MH} (L : Lay h.2)  {Q1 : Option MV → MH → Prop} (c : Wc rod d 61 [.inr (.inr (.inl (some 1))), .inl x1] h Q1) (k : ∀ r1 h2, Q1 r1 h2 → Wb rod d B_Main_hold 8 [some (.inr (.inr (.inl (some 0)))), some (.inl x1), u2, u3, u4] (r1.toList ++ []) h2 Q) : Wb rod d B_Main_hold 0 [some (.inr (.inr (.inl (some 0)))), some (.inl x1), u2, u3, u4] [] h Q := by
  refine Wb.call (fun _ _ _ _ => b_Main_hold_0 (Lay.o0 L) (Lay.k0_0 L)) (Q1 := Q1) ?_ ?_
  · (first | exact c | (simp only [Option.getD_some, (Lay.r0_0 L)]; exact c))
  · (first | exact k | (simp only [Option.getD_some, (Lay.r0_0 L)]; exact k))
theorem w_Main_hold_8 {rod : Nat → Nat × (Nat → Int32)} {d : Nat} {Q : Option MV → MH → Prop} {u0 : Option MV} {u1 : Option MV} {u2 : Option MV} {u3 : Option MV} {u4 : Option MV} {os0 : Option Nat} {h : MH}  (g0 : okl [u0, u1, u2, u3, u4] 4 = true) (k1 : os0 = none → Wb rod d B_Main_hold 24 [u0, u1, u2, u3, some (.inr (.inr (.inl os0)))] [] h Q) (k2 : ∀ v, os0 = some v → Wb rod d B_Main_hold 15 [u0, u1, u2, u3, some (.inr (.inr (.inl os0)))] [] h Q) : Wb rod d B_Main_hold 8 [u0, u1, u2, u3, u4] [.inr (.inr (.inl os0))] h Q := by
  cases os0 with
  | none =>
    refine Wb.br (fun _ _ => b_Main_hold_8 g0) (fun c => ?_) (fun c => ?_)
    · exact k1 rfl
    · simp at c
  | some v =>
    refine Wb.br (fun _ _ => b_Main_hold_8 g0) (fun c => ?_) (fun c => ?_)
    · simp at c
    · exact k2 v rfl
theorem w_Main_hold_15 {rod : Nat → Nat × (Nat → Int32)} {d : Nat} {Q : Option MV → MH → Prop} {u0 : Option MV} {u1 : Option MV} {x2 : Int32} {u3 : Option MV} {a4 : Nat} {h : MH} (A4 : LandA h.2 a4)  {Q1 : Option MV → MH → Prop} (c : Wc rod d 70 [.inr (.inr (.inl (some a4))), .inl x2] h Q1) (k : ∀ r1 h2, Q1 r1 h2 → Wb rod d B_Main_hold 21 [u0, u1, some (.inl x2), u3, some (.inr (.inr (.inl (some a4))))] (r1.toList ++ []) h2 Q) : Wb rod d B_Main_hold 15 [u0, u1, some (.inl x2), u3, some (.inr (.inr (.inl (some a4))))] [] h Q := by
  refine Wb.call (fun _ _ _ _ => b_Main_hold_15 (A4.o)) (Q1 := Q1) ?_ ?_
  · (first | exact c | (simp only [Option.getD_some]; exact c))
  · (first | exact k | (simp only [Option.getD_some]; exact k))
theorem w_Main_hold_21 {rod : Nat → Nat × (Nat → Int32)} {d : Nat} {Q : Option MV → MH → Prop} {u0 : Option MV} {u1 : Option MV} {u2 : Option MV} {u3 : Option MV} {u4 : Option MV} {xs0 : Int32} {h : MH}   (k1 : ¬ xs0.toInt = 0 → Wb rod d B_Main_hold 26 [u0, u1, u2, u3, u4] [] h Q) (k2 : xs0.toInt = 0 → Wb rod d B_Main_hold 24 [u0, u1, u2, u3, u4] [] h Q) : Wb rod d B_Main_hold 21 [u0, u1, u2, u3, u4] [.inl xs0] h Q := by
  refine Wb.br (fun _ _ => b_Main_hold_21) (fun c => ?_) (fun c => ?_)
  · have c : (!(decide (xs0 = 0))) = true := by first | exact c | (simp only [Option.getD_some] at c; exact c)
    (first | exact (k1 (c_net c)) | (simp only [Option.getD_some]; exact (k1 (c_net c))))
  · have c : (!(decide (xs0 = 0))) = false := by first | exact c | (simp only [Option.getD_some] at c; exact c)
    (first | exact (k2 (c_nef c)) | (simp only [Option.getD_some]; exact (k2 (c_nef c))))
theorem w_Main_hold_24 {rod : Nat → Nat × (Nat → Int32)} {d : Nat} {Q : Option MV → MH → Prop} {u0 : Option MV} {u1 : Option MV} {u2 : Option MV} {u3 : Option MV} {u4 : Option MV} {h : MH}   (q : Q (some (.inl (-1 : Int32))) h) : Wb rod d B_Main_hold 24 [u0, u1, u2, u3, u4] [] h Q := by
  refine Wb.ret (b_Main_hold_24) ?_
  (first | exact q | (simp only [Option.getD_some]; exact q))
theorem w_Main_hold_26 {rod : Nat → Nat × (Nat → Int32)} {d : Nat} {Q : Option MV → MH → Prop} {u1 : Option MV} {x2 : Int32} {u3 : Option MV} {a4 : Nat} {h : MH} (L : Lay h.2) (A4 : LandA h.2 a4) (g0 : 0 ≤ x2.toInt ∧ x2.toInt < 8) {Q1 : Option MV → MH → Prop} (c : Wc rod d 109 [.inr (.inr (.inl (some 75))), .inr (.inr (.inl (some a4))), .inl (h.1 (a4 + 3) x2.toNatClampNeg), .inl (h.1 (a4 + 4) x2.toNatClampNeg)] h Q1) (k : ∀ r1 h2, Q1 r1 h2 → Wb rod d B_Main_hold 49 [some (.inr (.inr (.inl (some 0)))), u1, some (.inl x2), u3, some (.inr (.inr (.inl (some a4))))] (r1.toList ++ []) h2 Q) : Wb rod d B_Main_hold 26 [some (.inr (.inr (.inl (some 0)))), u1, some (.inl x2), u3, some (.inr (.inr (.inl (some a4))))] [] h Q := by
  refine Wb.call (fun _ _ _ _ => b_Main_hold_26 (Lay.o0 L) (A4.o) (A4.a8 g0) (A4.a9 g0) (Lay.k0_5 L)) (Q1 := Q1) ?_ ?_
  · (first | exact c | (simp only [Option.getD_some, (Lay.r0_5 L), A4.r8, A4.r9]; exact c))
  · (first | exact k | (simp only [Option.getD_some, (Lay.r0_5 L), A4.r8, A4.r9]; exact k))
theorem w_Main_hold_49 {rod : Nat → Nat × (Nat → Int32)} {d : Nat} {Q : Option MV → MH → Prop} {u0 : Option MV} {u1 : Option MV} {u2 : Option MV} {x3 : Int32} {u4 : Option MV} {h : MH}   (k1 : ¬ x3.toInt = (-1) → Wb rod d B_Main_hold 62 [u0, u1, u2, some (.inl x3), u4] [] h Q) (k2 : x3.toInt = (-1) → Wb rod d B_Main_hold 54 [u0, u1, u2, some (.inl x3), u4] [] h Q) : Wb rod d B_Main_hold 49 [u0, u1, u2, some (.inl x3), u4] [] h Q := by
  refine Wb.br (fun _ _ => b_Main_hold_49) (fun c => ?_) (fun c => ?_)
  · have c : (!(decide (x3 = (-1 : Int32)))) = true := by first | exact c | (simp only [Option.getD_some] at c; exact c)
    (first | exact (k1 (c_net c)) | (simp only [Option.getD_some]; exact (k1 (c_net c))))
  · have c : (!(decide (x3 = (-1 : Int32)))) = false := by first | exact c | (simp only [Option.getD_some] at c; exact c)
    (first | exact (k2 (c_nef c)) | (simp only [Option.getD_some]; exact (k2 (c_nef c))))
theorem w_Main_hold_54 {rod : Nat → Nat × (Nat → Int32)} {d : Nat} {Q : Option MV → MH → Prop} {u1 : Option MV} {u2 : Option MV} {u3 : Option MV} {u4 : Option MV} {h : MH} (L : Lay h.2)  (q : Q (some (.inl (h.1 75 2))) h) : Wb rod d B_Main_hold 54 [some (.inr (.inr (.inl (some 0)))), u1, u2, u3, u4] [] h Q := by
  refine Wb.ret (b_Main_hold_54 (Lay.o0 L) (Lay.k0_5 L)) ?_
  (first | exact q | (simp only [Option.getD_some, (Lay.r0_5 L)]; exact q))
theorem w_Main_hold_62 {rod : Nat → Nat × (Nat → Int32)} {d : Nat} {Q : Option MV → MH → Prop} {u0 : Option MV} {u1 : Option MV} {u2 : Option MV} {x3 : Int32} {u4 : Option MV} {h : MH}   (k1 : ¬ x3.toInt = (-2) → Wb rod d B_Main_hold 76 [u0, u1, u2, some (.inl x3), u4] [] h Q) (k2 : x3.toInt = (-2) → Wb rod d B_Main_hold 68 [u0, u1, u2, some (.inl x3), u4] [] h Q) : Wb rod d B_Main_hold 62 [u0, u1, u2, some (.inl x3), u4] [] h Q := by
  refine Wb.br (fun _ _ => b_Main_hold_62) (fun c => ?_) (fun c => ?_)
  · have c : (!(decide (x3 = (-2 : Int32)))) = true := by first | exact c | (simp only [Option.getD_some] at c; exact c)
    (first | exact (k1 (c_net c)) | (simp only [Option.getD_some]; exact (k1 (c_net c))))
  · have c : (!(decide (x3 = (-2 : Int32)))) = false := by first | exact c | (simp only [Option.getD_some] at c; exact c)
    (first | exact (k2 (c_nef c)) | (simp only [Option.getD_some]; exact (k2 (c_nef c))))
theorem w_Main_hold_68 {rod : Nat → Nat × (Nat → Int32)} {d : Nat} {Q : Option MV → MH → Prop} {u1 : Option MV} {u2 : Option MV} {u3 : Option MV} {u4 : Option MV} {h : MH} (L : Lay h.2)  (q : Q (some (.inl (h.1 75 3))) h) : Wb rod d B_Main_hold 68 [some (.inr (.inr (.inl (some 0)))), u1, u2, u3, u4] [] h Q := by
  refine Wb.ret (b_Main_hold_68 (Lay.o0 L) (Lay.k0_5 L)) ?_
  (first | exact q | (simp only [Option.getD_some, (Lay.r0_5 L)]; exact q))
theorem w_Main_hold_76 {rod : Nat → Nat × (Nat → Int32)} {d : Nat} {Q : Option MV → MH → Prop} {u0 : Option MV} {u1 : Option MV} {u2 : Option MV} {x3 : Int32} {a4 : Nat} {h : MH} (A4 : LandA h.2 a4)  {Q1 : Option MV → MH → Prop} (c : Wc rod d 68 [.inr (.inr (.inl (some a4))), .inl x3] h Q1) (k : ∀ r1 h2, Q1 r1 h2 → Wb rod d B_Main_hold 82 [u0, u1, u2, some (.inl x3), some (.inr (.inr (.inl (some a4))))] (r1.toList ++ []) h2 Q) : Wb rod d B_Main_hold 76 [u0, u1, u2, some (.inl x3), some (.inr (.inr (.inl (some a4))))] [] h Q := by
  refine Wb.call (fun _ _ _ _ => b_Main_hold_76 (A4.o)) (Q1 := Q1) ?_ ?_
  · (first | exact c | (simp only [Option.getD_some]; exact c))
  · (first | exact k | (simp only [Option.getD_some]; exact k))
theorem w_Main_hold_82 {rod : Nat → Nat × (Nat → Int32)} {d : Nat} {Q : Option MV → MH → Prop} {u0 : Option MV} {u1 : Option MV} {u2 : Option MV} {u3 : Option MV} {u4 : Option MV} {xs0 : Int32} {h : MH}   (k1 : xs0.toInt = 0 → Wb rod d B_Main_hold 97 [u0, u1, u2, u3, u4] [] h Q) (k2 : ¬ xs0.toInt = 0 → Wb rod d B_Main_hold 85 [u0, u1, u2, u3, u4] [] h Q) : Wb rod d B_Main_hold 82 [u0, u1, u2, u3, u4] [.inl xs0] h Q := by
  refine Wb.br (fun _ _ => b_Main_hold_82) (fun c => ?_) (fun c => ?_)
  · have c : (decide (xs0 = 0)) = true := by first | exact c | (simp only [Option.getD_some] at c; exact c)
    (first | exact (k1 (c_eqt c)) | (simp only [Option.getD_some]; exact (k1 (c_eqt c))))
  · have c : (decide (xs0 = 0)) = false := by first | exact c | (simp only [Option.getD_some] at c; exact c)
    (first | exact (k2 (c_eqf c)) | (simp only [Option.getD_some]; exact (k2 (c_eqf c))))
theorem w_Main_hold_85 {rod : Nat → Nat × (Nat → Int32)} {d : Nat} {Q : Option MV → MH → Prop} {u1 : Option MV} {u2 : Option MV} {x3 : Int32} {u4 : Option MV} {h : MH} (L : Lay h.2) (g0 : 0 ≤ x3.toInt ∧ x3.toInt < 4) (k : Wb rod d B_Main_hold 98 [some (.inr (.inr (.inl (some 0)))), u1, u2, some (.inl x3), u4] [.inl (h.1 77 x3.toNatClampNeg)] h Q) : Wb rod d B_Main_hold 85 [some (.inr (.inr (.inl (some 0)))), u1, u2, some (.inl x3), u4] [] h Q := by
  refine Wb.go (fun r hr q => b_Main_hold_85 (Lay.o0 L) (Lay.k0_5 L) (by simp only [Option.getD_some, (Lay.r0_5 L), (Lay.r75_1 L)]; exact gA_of (L.1 77 _ rfl) (inB_of (And.left g0) (by have q := And.right g0; omega))) ?_) k
  (first | exact q | (simp only [Option.getD_some, (Lay.r0_5 L), (Lay.r75_1 L)]; exact q))
theorem w_Main_hold_97 {rod : Nat → Nat × (Nat → Int32)} {d : Nat} {Q : Option MV → MH → Prop} {u0 : Option MV} {u1 : Option MV} {u2 : Option MV} {u3 : Option MV} {u4 : Option MV} {h : MH}   (k : Wb rod d B_Main_hold 98 [u0, u1, u2, u3, u4] [.inl (-1 : Int32)] h Q) : Wb rod d B_Main_hold 97 [u0, u1, u2, u3, u4] [] h Q := by
  refine Wb.go (fun r hr q => b_Main_hold_97 ?_) k
  (first | exact q | (simp only [Option.getD_some]; exact q))
theorem w_Main_hold_98 {rod : Nat → Nat × (Nat → Int32)} {d : Nat} {Q : Option MV → MH → Prop} {u0 : Option MV} {u1 : Option MV} {u2 : Option MV} {u3 : Option MV} {u4 : Option MV} {xs0 : Int32} {h : MH}   (q : Q (some (.inl xs0)) h) : Wb rod d B_Main_hold 98 [u0, u1, u2, u3, u4] [.inl xs0] h Q := by
  refine Wb.ret (b_Main_hold_98) ?_
  (first | exact q | (simp only [Option.getD_some]; exact q))
theorem n_Purse_choose {rod : Nat → Nat × (Nat → Int32)} {d : Nat} {Q : Option MV → MH → Prop} {a1 : Nat} {x2 : Int32} {x3 : Int32} {h : MH} (k : Wb rod d B_Purse_choose 0 [some (.inr (.inr (.inl (some 75)))), some (.inr (.inr (.inl (some a1)))), some (.inl x2), some (.inl x3)] [] h Q) : Wc rod (d + 1) 109 [.inr (.inr (.inl (some 75))), .inr (.inr (.inl (some a1))), .inl x2, .inl x3] h Q := Wc.en (fun _ _ => e_Purse_choose) k
theorem w_Purse_choose_0 {rod : Nat → Nat × (Nat → Int32)} {d : Nat} {Q : Option MV → MH → Prop} {u1 : Option MV} {u2 : Option MV} {u3 : Option MV} {h : MH} (L : Lay h.2)  (k : Wb rod d B_Purse_choose 5 [some (.inr (.inr (.inl (some 75)))), u1, u2, u3] [] (sI h 75 2 (-1 : Int32)) Q) : Wb rod d B_Purse_choose 0 [some (.inr (.inr (.inl (some 75)))), u1, u2, u3] [] h Q := by
  refine Wb.go (fun r hr q => b_Purse_choose_0 (Lay.o75 L) ?_) k
  (first | exact q | (simp only [Option.getD_some]; exact q))
theorem w_Purse_choose_5 {rod : Nat → Nat × (Nat → Int32)} {d : Nat} {Q : Option MV → MH → Prop} {u1 : Option MV} {u2 : Option MV} {u3 : Option MV} {h : MH} (L : Lay h.2)  (k : Wb rod d B_Purse_choose 10 [some (.inr (.inr (.inl (some 75)))), u1, u2, u3] [] (sI h 75 3 (0 : Int32)) Q) : Wb rod d B_Purse_choose 5 [some (.inr (.inr (.inl (some 75)))), u1, u2, u3] [] h Q := by
  refine Wb.go (fun r hr q => b_Purse_choose_5 (Lay.o75 L) ?_) k
  (first | exact q | (simp only [Option.getD_some]; exact q))
theorem w_Purse_choose_10 {rod : Nat → Nat × (Nat → Int32)} {d : Nat} {Q : Option MV → MH → Prop} {u1 : Option MV} {u2 : Option MV} {u3 : Option MV} {h : MH} (L : Lay h.2)  {Q1 : Option MV → MH → Prop} (c : Wc rod d 24 [.inr (.inr (.inl (some 76))), .inl (0 : Int32)] h Q1) (k : ∀ r1 h2, Q1 r1 h2 → Wb rod d B_Purse_choose 18 [some (.inr (.inr (.inl (some 75)))), u1, u2, u3] (r1.toList ++ []) h2 Q) : Wb rod d B_Purse_choose 10 [some (.inr (.inr (.inl (some 75)))), u1, u2, u3] [] h Q := by
  refine Wb.call (fun _ _ _ _ => b_Purse_choose_10 (Lay.o75 L)) (Q1 := Q1) ?_ ?_
  · (first | exact c | (simp only [Option.getD_some, (Lay.r75_0 L)]; exact c))
  · (first | exact k | (simp only [Option.getD_some, (Lay.r75_0 L)]; exact k))
theorem w_Purse_choose_18 {rod : Nat → Nat × (Nat → Int32)} {d : Nat} {Q : Option MV → MH → Prop} {a1 : Nat} {x2 : Int32} {x3 : Int32} {h : MH} (L : Lay h.2)  {Q1 : Option MV → MH → Prop} (c : Wc rod d 110 [.inr (.inr (.inl (some 75))), .inr (.inr (.inl (some a1))), .inl (0 : Int32), .inl x2, .inl x3, .inl (0 : Int32), .inl (0 : Int32)] h Q1) (k : ∀ r1 h2, Q1 r1 h2 → Wb rod d B_Purse_choose 28 [some (.inr (.inr (.inl (some 75)))), some (.inr (.inr (.inl (some a1)))), some (.inl x2), some (.inl x3)] (r1.toList ++ []) h2 Q) : Wb rod d B_Purse_choose 18 [some (.inr (.inr (.inl (some 75)))), some (.inr (.inr (.inl (some a1)))), some (.inl x2), some (.inl x3)] [] h Q := by
  refine Wb.call (fun _ _ _ _ => b_Purse_choose_18 (Lay.o75 L)) (Q1 := Q1) ?_ ?_
  · (first | exact c | (simp only [Option.getD_some]; exact c))
  · (first | exact k | (simp only [Option.getD_some]; exact k))
theorem w_Purse_choose_28 {rod : Nat → Nat × (Nat → Int32)} {d : Nat} {Q : Option MV → MH → Prop} {u0 : Option MV} {u1 : Option MV} {u2 : Option MV} {u3 : Option MV} {h : MH}   (q : Q (none) h) : Wb rod d B_Purse_choose 28 [u0, u1, u2, u3] [] h Q := by
  refine Wb.ret (b_Purse_choose_28) ?_
  (first | exact q | (simp only [Option.getD_some]; exact q))
theorem n_Purse_chooseOn {rod : Nat → Nat × (Nat → Int32)} {d : Nat} {Q : Option MV → MH → Prop} {a1 : Nat} {x2 : Int32} {x3 : Int32} {x4 : Int32} {x5 : Int32} {x6 : Int32} {h : MH} (k : Wb rod d B_Purse_chooseOn 0 [some (.inr (.inr (.inl (some 75)))), some (.inr (.inr (.inl (some a1)))), some (.inl x2), some (.inl x3), some (.inl x4), some (.inl x5), some (.inl x6), none, none, none] [] h Q) : Wc rod (d + 1) 110 [.inr (.inr (.inl (some 75))), .inr (.inr (.inl (some a1))), .inl x2, .inl x3, .inl x4, .inl x5, .inl x6] h Q := Wc.en (fun _ _ => e_Purse_chooseOn) k
theorem w_Purse_chooseOn_0 {rod : Nat → Nat × (Nat → Int32)} {d : Nat} {Q : Option MV → MH → Prop} {u1 : Option MV} {u2 : Option MV} {x3 : Int32} {u4 : Option MV} {u5 : Option MV} {u6 : Option MV} {u7 : Option MV} {u8 : Option MV} {u9 : Option MV} {h : MH} (L : Lay h.2)  (k1 : ¬ (h.1 75 2).toInt = x3.toInt → Wb rod d B_Purse_chooseOn 18 [some (.inr (.inr (.inl (some 75)))), u1, u2, some (.inl x3), u4, u5, u6, u7, u8, u9] [] h Q) (k2 : (h.1 75 2).toInt = x3.toInt → Wb rod d B_Purse_chooseOn 8 [some (.inr (.inr (.inl (some 75)))), u1, u2, some (.inl x3), u4, u5, u6, u7, u8, u9] [] h Q) : Wb rod d B_Purse_chooseOn 0 [some (.inr (.inr (.inl (some 75)))), u1, u2, some (.inl x3), u4, u5, u6, u7, u8, u9] [] h Q := by
  refine Wb.br (fun _ _ => b_Purse_chooseOn_0 (Lay.o75 L)) (fun c => ?_) (fun c => ?_)
  · have c : (!(decide ((h.1 75 2) = x3))) = true := by first | exact c | (simp only [Option.getD_some] at c; exact c)
    (first | exact (k1 (c_net c)) | (simp only [Option.getD_some]; exact (k1 (c_net c))))
  · have c : (!(decide ((h.1 75 2) = x3))) = false := by first | exact c | (simp only [Option.getD_some] at c; exact c)
    (first | exact (k2 (c_nef c)) | (simp only [Option.getD_some]; exact (k2 (c_nef c))))
theorem w_Purse_chooseOn_8 {rod : Nat → Nat × (Nat → Int32)} {d : Nat} {Q : Option MV → MH → Prop} {u1 : Option MV} {u2 : Option MV} {u3 : Option MV} {u4 : Option MV} {u5 : Option MV} {x6 : Int32} {u7 : Option MV} {u8 : Option MV} {u9 : Option MV} {h : MH} (L : Lay h.2)  (k1 : x6.toInt < (h.1 75 3).toInt → Wb rod d B_Purse_chooseOn 18 [some (.inr (.inr (.inl (some 75)))), u1, u2, u3, u4, u5, some (.inl x6), u7, u8, u9] [] h Q) (k2 : ¬ x6.toInt < (h.1 75 3).toInt → Wb rod d B_Purse_chooseOn 17 [some (.inr (.inr (.inl (some 75)))), u1, u2, u3, u4, u5, some (.inl x6), u7, u8, u9] [] h Q) : Wb rod d B_Purse_chooseOn 8 [some (.inr (.inr (.inl (some 75)))), u1, u2, u3, u4, u5, some (.inl x6), u7, u8, u9] [] h Q := by
  refine Wb.br (fun _ _ => b_Purse_chooseOn_8 (Lay.o75 L)) (fun c => ?_) (fun c => ?_)
  · have c : (decide (x6 < (h.1 75 3))) = true := by first | exact c | (simp only [Option.getD_some] at c; exact c)
    (first | exact (k1 (c_ltt c)) | (simp only [Option.getD_some]; exact (k1 (c_ltt c))))
  · have c : (decide (x6 < (h.1 75 3))) = false := by first | exact c | (simp only [Option.getD_some] at c; exact c)
    (first | exact (k2 (c_ltf c)) | (simp only [Option.getD_some]; exact (k2 (c_ltf c))))
theorem w_Purse_chooseOn_17 {rod : Nat → Nat × (Nat → Int32)} {d : Nat} {Q : Option MV → MH → Prop} {u0 : Option MV} {u1 : Option MV} {u2 : Option MV} {u3 : Option MV} {u4 : Option MV} {u5 : Option MV} {u6 : Option MV} {u7 : Option MV} {u8 : Option MV} {u9 : Option MV} {h : MH}   (q : Q (none) h) : Wb rod d B_Purse_chooseOn 17 [u0, u1, u2, u3, u4, u5, u6, u7, u8, u9] [] h Q := by
  refine Wb.ret (b_Purse_chooseOn_17) ?_
  (first | exact q | (simp only [Option.getD_some]; exact q))
theorem w_Purse_chooseOn_18 {rod : Nat → Nat × (Nat → Int32)} {d : Nat} {Q : Option MV → MH → Prop} {u0 : Option MV} {u1 : Option MV} {u2 : Option MV} {x3 : Int32} {u4 : Option MV} {x5 : Int32} {u6 : Option MV} {u7 : Option MV} {u8 : Option MV} {u9 : Option MV} {h : MH}   (k1 : x3.toInt ≤ x5.toInt → Wb rod d B_Purse_chooseOn 32 [u0, u1, u2, some (.inl x3), u4, some (.inl x5), u6, u7, u8, u9] [] h Q) (k2 : ¬ x3.toInt ≤ x5.toInt → Wb rod d B_Purse_chooseOn 24 [u0, u1, u2, some (.inl x3), u4, some (.inl x5), u6, u7, u8, u9] [] h Q) : Wb rod d B_Purse_chooseOn 18 [u0, u1, u2, some (.inl x3), u4, some (.inl x5), u6, u7, u8, u9] [] h Q := by
  refine Wb.br (fun _ _ => b_Purse_chooseOn_18) (fun c => ?_) (fun c => ?_)
  · have c : (decide (x3 ≤ x5)) = true := by first | exact c | (simp only [Option.getD_some] at c; exact c)
    (first | exact (k1 (c_let c)) | (simp only [Option.getD_some]; exact (k1 (c_let c))))
  · have c : (decide (x3 ≤ x5)) = false := by first | exact c | (simp only [Option.getD_some] at c; exact c)
    (first | exact (k2 (c_lef c)) | (simp only [Option.getD_some]; exact (k2 (c_lef c))))
theorem w_Purse_chooseOn_24 {rod : Nat → Nat × (Nat → Int32)} {d : Nat} {Q : Option MV → MH → Prop} {u0 : Option MV} {a1 : Nat} {x2 : Int32} {u3 : Option MV} {u4 : Option MV} {u5 : Option MV} {u6 : Option MV} {u7 : Option MV} {u8 : Option MV} {u9 : Option MV} {h : MH} (A1 : LandA h.2 a1)  {Q1 : Option MV → MH → Prop} (c : Wc rod d 68 [.inr (.inr (.inl (some a1))), .inl x2] h Q1) (k : ∀ r1 h2, Q1 r1 h2 → Wb rod d B_Purse_chooseOn 29 [u0, some (.inr (.inr (.inl (some a1)))), some (.inl x2), u3, u4, u5, u6, u7, u8, u9] (r1.toList ++ []) h2 Q) : Wb rod d B_Purse_chooseOn 24 [u0, some (.inr (.inr (.inl (some a1)))), some (.inl x2), u3, u4, u5, u6, u7, u8, u9] [] h Q := by
  refine Wb.call (fun _ _ _ _ => b_Purse_chooseOn_24 (A1.o)) (Q1 := Q1) ?_ ?_
  · (first | exact c | (simp only [Option.getD_some]; exact c))
  · (first | exact k | (simp only [Option.getD_some]; exact k))
theorem w_Purse_chooseOn_29 {rod : Nat → Nat × (Nat → Int32)} {d : Nat} {Q : Option MV → MH → Prop} {u0 : Option MV} {u1 : Option MV} {u2 : Option MV} {u3 : Option MV} {u4 : Option MV} {u5 : Option MV} {u6 : Option MV} {u7 : Option MV} {u8 : Option MV} {u9 : Option MV} {xs0 : Int32} {h : MH}   (k1 : ¬ xs0.toInt = 0 → Wb rod d B_Purse_chooseOn 45 [u0, u1, u2, u3, u4, u5, u6, u7, u8, u9] [] h Q) (k2 : xs0.toInt = 0 → Wb rod d B_Purse_chooseOn 32 [u0, u1, u2, u3, u4, u5, u6, u7, u8, u9] [] h Q) : Wb rod d B_Purse_chooseOn 29 [u0, u1, u2, u3, u4, u5, u6, u7, u8, u9] [.inl xs0] h Q := by
  refine Wb.br (fun _ _ => b_Purse_chooseOn_29) (fun c => ?_) (fun c => ?_)
  · have c : (!(decide (xs0 = 0))) = true := by first | exact c | (simp only [Option.getD_some] at c; exact c)
    (first | exact (k1 (c_net c)) | (simp only [Option.getD_some]; exact (k1 (c_net c))))
  · have c : (!(decide (xs0 = 0))) = false := by first | exact c | (simp only [Option.getD_some] at c; exact c)
    (first | exact (k2 (c_nef c)) | (simp only [Option.getD_some]; exact (k2 (c_nef c))))
theorem w_Purse_chooseOn_32 {rod : Nat → Nat × (Nat → Int32)} {d : Nat} {Q : Option MV → MH → Prop} {u1 : Option MV} {u2 : Option MV} {x3 : Int32} {u4 : Option MV} {x5 : Int32} {x6 : Int32} {u7 : Option MV} {u8 : Option MV} {u9 : Option MV} {h : MH} (L : Lay h.2)  {Q1 : Option MV → MH → Prop} (c : Wc rod d 111 [.inr (.inr (.inl (some 75))), .inl (if x3 < x5 then x3 else x5), .inl x6] h Q1) (k : ∀ r1 h2, Q1 r1 h2 → Wb rod d B_Purse_chooseOn 44 [some (.inr (.inr (.inl (some 75)))), u1, u2, some (.inl x3), u4, some (.inl x5), some (.inl x6), u7, u8, u9] (r1.toList ++ []) h2 Q) : Wb rod d B_Purse_chooseOn 32 [some (.inr (.inr (.inl (some 75)))), u1, u2, some (.inl x3), u4, some (.inl x5), some (.inl x6), u7, u8, u9] [] h Q := by
  refine Wb.call (fun _ _ _ _ => b_Purse_chooseOn_32 (Lay.o75 L)) (Q1 := Q1) ?_ ?_
  · (first | exact c | (simp only [Option.getD_some]; exact c))
  · (first | exact k | (simp only [Option.getD_some]; exact k))
theorem w_Purse_chooseOn_44 {rod : Nat → Nat × (Nat → Int32)} {d : Nat} {Q : Option MV → MH → Prop} {u0 : Option MV} {u1 : Option MV} {u2 : Option MV} {u3 : Option MV} {u4 : Option MV} {u5 : Option MV} {u6 : Option MV} {u7 : Option MV} {u8 : Option MV} {u9 : Option MV} {h : MH}   (q : Q (none) h) : Wb rod d B_Purse_chooseOn 44 [u0, u1, u2, u3, u4, u5, u6, u7, u8, u9] [] h Q := by
  refine Wb.ret (b_Purse_chooseOn_44) ?_
  (first | exact q | (simp only [Option.getD_some]; exact q))
theorem w_Purse_chooseOn_45 {rod : Nat → Nat × (Nat → Int32)} {d : Nat} {Q : Option MV → MH → Prop} {u0 : Option MV} {u1 : Option MV} {u2 : Option MV} {u3 : Option MV} {u4 : Option MV} {u5 : Option MV} {u6 : Option MV} {u7 : Option MV} {u8 : Option MV} {u9 : Option MV} {h : MH}  (g0 : okl [u0, u1, u2, u3, u4, u5, u6, u7, u8, u9] 7 = true) (k : Wb rod d B_Purse_chooseOn 48 [u0, u1, u2, u3, u4, u5, u6, some (.inl (0 : Int32)), u8, u9] [] h Q) : Wb rod d B_Purse_chooseOn 45 [u0, u1, u2, u3, u4, u5, u6, u7, u8, u9] [] h Q := by
  refine Wb.go (fun r hr q => b_Purse_chooseOn_45 g0 ?_) k
  (first | exact q | (simp only [Option.getD_some]; exact q))
theorem w_Purse_chooseOn_48 {rod : Nat → Nat × (Nat → Int32)} {d : Nat} {Q : Option MV → MH → Prop} {u0 : Option MV} {u1 : Option MV} {u2 : Option MV} {u3 : Option MV} {u4 : Option MV} {u5 : Option MV} {u6 : Option MV} {x7 : Int32} {u8 : Option MV} {u9 : Option MV} {h : MH}   (k1 : 9 < x7.toInt → Wb rod d B_Purse_chooseOn 131 [u0, u1, u2, u3, u4, u5, u6, some (.inl x7), u8, u9] [] h Q) (k2 : ¬ 9 < x7.toInt → Wb rod d B_Purse_chooseOn 55 [u0, u1, u2, u3, u4, u5, u6, some (.inl x7), u8, u9] [] h Q) : Wb rod d B_Purse_chooseOn 48 [u0, u1, u2, u3, u4, u5, u6, some (.inl x7), u8, u9] [] h Q := by
  refine Wb.br (fun _ _ => b_Purse_chooseOn_48) (fun c => ?_) (fun c => ?_)
  · have c : (decide ((9 : Int32) < x7)) = true := by first | exact c | (simp only [Option.getD_some] at c; exact c)
    (first | exact (k1 (c_ltt c)) | (simp only [Option.getD_some]; exact (k1 (c_ltt c))))
  · have c : (decide ((9 : Int32) < x7)) = false := by first | exact c | (simp only [Option.getD_some] at c; exact c)
    (first | exact (k2 (c_ltf c)) | (simp only [Option.getD_some]; exact (k2 (c_ltf c))))
theorem w_Purse_chooseOn_55 {rod : Nat → Nat × (Nat → Int32)} {d : Nat} {Q : Option MV → MH → Prop} {u0 : Option MV} {a1 : Nat} {x2 : Int32} {u3 : Option MV} {x4 : Int32} {x5 : Int32} {x6 : Int32} {x7 : Int32} {u8 : Option MV} {u9 : Option MV} {h : MH} (A1 : LandA h.2 a1) (g0 : 0 ≤ x2.toInt ∧ x2.toInt < 4) (k1 : (x6 + (x7 * (h.1 (a1 + 7) x2.toNatClampNeg))).toInt ≤ x4.toInt → Wb rod d B_Purse_chooseOn 93 [u0, some (.inr (.inr (.inl (some a1)))), some (.inl x2), u3, some (.inl x4), some (.inl x5), some (.inl x6), some (.inl x7), some (.inl (x5 + (x7 * (h.1 (a1 + 6) x2.toNatClampNeg)))), some (.inl (x6 + (x7 * (h.1 (a1 + 7) x2.toNatClampNeg))))] [] h Q) (k2 : ¬ (x6 + (x7 * (h.1 (a1 + 7) x2.toNatClampNeg))).toInt ≤ x4.toInt → Wb rod d B_Purse_chooseOn 90 [u0, some (.inr (.inr (.inl (some a1)))), some (.inl x2), u3, some (.inl x4), some (.inl x5), some (.inl x6), some (.inl x7), some (.inl (x5 + (x7 * (h.1 (a1 + 6) x2.toNatClampNeg)))), some (.inl (x6 + (x7 * (h.1 (a1 + 7) x2.toNatClampNeg))))] [] h Q) : Wb rod d B_Purse_chooseOn 55 [u0, some (.inr (.inr (.inl (some a1)))), some (.inl x2), u3, some (.inl x4), some (.inl x5), some (.inl x6), some (.inl x7), u8, u9] [] h Q := by
  refine Wb.br (fun _ _ => b_Purse_chooseOn_55 (A1.o) (A1.a11 g0) (A1.a12 g0)) (fun c => ?_) (fun c => ?_)
  · have c : (decide ((x6 + (x7 * (h.1 (a1 + 7) x2.toNatClampNeg))) ≤ x4)) = true := by first | exact c | (simp only [Option.getD_some, A1.r11, A1.r12] at c; exact c)
    (first | exact (k1 (c_let c)) | (simp only [Option.getD_some, A1.r11, A1.r12]; exact (k1 (c_let c))))
  · have c : (decide ((x6 + (x7 * (h.1 (a1 + 7) x2.toNatClampNeg))) ≤ x4)) = false := by first | exact c | (simp only [Option.getD_some, A1.r11, A1.r12] at c; exact c)
    (first | exact (k2 (c_lef c)) | (simp only [Option.getD_some, A1.r11, A1.r12]; exact (k2 (c_lef c))))
theorem w_Purse_chooseOn_90 {rod : Nat → Nat × (Nat → Int32)} {d : Nat} {Q : Option MV → MH → Prop} {u0 : Option MV} {u1 : Option MV} {u2 : Option MV} {u3 : Option MV} {u4 : Option MV} {u5 : Option MV} {u6 : Option MV} {u7 : Option MV} {u8 : Option MV} {u9 : Option MV} {h : MH}   (k : Wb rod d B_Purse_chooseOn 131 [u0, u1, u2, u3, u4, u5, u6, u7, u8, u9] [] h Q) : Wb rod d B_Purse_chooseOn 90 [u0, u1, u2, u3, u4, u5, u6, u7, u8, u9] [] h Q := by
  refine Wb.go (fun r hr q => b_Purse_chooseOn_90 ?_) k
  (first | exact q | (simp only [Option.getD_some]; exact q))
theorem w_Purse_chooseOn_93 {rod : Nat → Nat × (Nat → Int32)} {d : Nat} {Q : Option MV → MH → Prop} {u1 : Option MV} {x2 : Int32} {u3 : Option MV} {u4 : Option MV} {u5 : Option MV} {u6 : Option MV} {x7 : Int32} {u8 : Option MV} {u9 : Option MV} {h : MH} (L : Lay h.2) (g0 : 0 ≤ x2.toInt ∧ x2.toInt < 4) (k : Wb rod d B_Purse_chooseOn 101 [some (.inr (.inr (.inl (some 75)))), u1, some (.inl x2), u3, u4, u5, u6, some (.inl x7), u8, u9] [] (sI h 76 x2.toNatClampNeg x7) Q) : Wb rod d B_Purse_chooseOn 93 [some (.inr (.inr (.inl (some 75)))), u1, some (.inl x2), u3, u4, u5, u6, some (.inl x7), u8, u9] [] h Q := by
  refine Wb.go (fun r hr q => b_Purse_chooseOn_93 (Lay.o75 L) (Lay.a75_0 L g0) ?_) k
  (first | exact q | (simp only [Option.getD_some, (Lay.r75_0 L)]; exact q))
theorem w_Purse_chooseOn_101 {rod : Nat → Nat × (Nat → Int32)} {d : Nat} {Q : Option MV → MH → Prop} {a1 : Nat} {x2 : Int32} {x3 : Int32} {x4 : Int32} {u5 : Option MV} {u6 : Option MV} {u7 : Option MV} {x8 : Int32} {x9 : Int32} {h : MH} (L : Lay h.2)  {Q1 : Option MV → MH → Prop} (c : Wc rod d 110 [.inr (.inr (.inl (some 75))), .inr (.inr (.inl (some a1))), .inl (x2 + (1 : Int32)), .inl x3, .inl x4, .inl x8, .inl x9] h Q1) (k : ∀ r1 h2, Q1 r1 h2 → Wb rod d B_Purse_chooseOn 116 [some (.inr (.inr (.inl (some 75)))), some (.inr (.inr (.inl (some a1)))), some (.inl x2), some (.inl x3), some (.inl x4), u5, u6, u7, some (.inl x8), some (.inl x9)] (r1.toList ++ []) h2 Q) : Wb rod d B_Purse_chooseOn 101 [some (.inr (.inr (.inl (some 75)))), some (.inr (.inr (.inl (some a1)))), some (.inl x2), some (.inl x3), some (.inl x4), u5, u6, u7, some (.inl x8), some (.inl x9)] [] h Q := by
  refine Wb.call (fun _ _ _ _ => b_Purse_chooseOn_101 (Lay.o75 L)) (Q1 := Q1) ?_ ?_
  · (first | exact c | (simp only [Option.getD_some]; exact c))
  · (first | exact k | (simp only [Option.getD_some]; exact k))
theorem w_Purse_chooseOn_116 {rod : Nat → Nat × (Nat → Int32)} {d : Nat} {Q : Option MV → MH → Prop} {u0 : Option MV} {u1 : Option MV} {u2 : Option MV} {x3 : Int32} {u4 : Option MV} {u5 : Option MV} {u6 : Option MV} {u7 : Option MV} {x8 : Int32} {u9 : Option MV} {h : MH}   (k1 : x8.toInt < x3.toInt → Wb rod d B_Purse_chooseOn 125 [u0, u1, u2, some (.inl x3), u4, u5, u6, u7, some (.inl x8), u9] [] h Q) (k2 : ¬ x8.toInt < x3.toInt → Wb rod d B_Purse_chooseOn 122 [u0, u1, u2, some (.inl x3), u4, u5, u6, u7, some (.inl x8), u9] [] h Q) : Wb rod d B_Purse_chooseOn 116 [u0, u1, u2, some (.inl x3), u4, u5, u6, u7, some (.inl x8), u9] [] h Q := by
  refine Wb.br (fun _ _ => b_Purse_chooseOn_116) (fun c => ?_) (fun c => ?_)
  · have c : (decide (x8 < x3)) = true := by first | exact c | (simp only [Option.getD_some] at c; exact c)
    (first | exact (k1 (c_ltt c)) | (simp only [Option.getD_some]; exact (k1 (c_ltt c))))
  · have c : (decide (x8 < x3)) = false := by first | exact c | (simp only [Option.getD_some] at c; exact c)
    (first | exact (k2 (c_ltf c)) | (simp only [Option.getD_some]; exact (k2 (c_ltf c))))
theorem w_Purse_chooseOn_122 {rod : Nat → Nat × (Nat → Int32)} {d : Nat} {Q : Option MV → MH → Prop} {u0 : Option MV} {u1 : Option MV} {u2 : Option MV} {u3 : Option MV} {u4 : Option MV} {u5 : Option MV} {u6 : Option MV} {u7 : Option MV} {u8 : Option MV} {u9 : Option MV} {h : MH}   (k : Wb rod d B_Purse_chooseOn 131 [u0, u1, u2, u3, u4, u5, u6, u7, u8, u9] [] h Q) : Wb rod d B_Purse_chooseOn 122 [u0, u1, u2, u3, u4, u5, u6, u7, u8, u9] [] h Q := by
  refine Wb.go (fun r hr q => b_Purse_chooseOn_122 ?_) k
  (first | exact q | (simp only [Option.getD_some]; exact q))
theorem w_Purse_chooseOn_125 {rod : Nat → Nat × (Nat → Int32)} {d : Nat} {Q : Option MV → MH → Prop} {u0 : Option MV} {u1 : Option MV} {u2 : Option MV} {u3 : Option MV} {u4 : Option MV} {u5 : Option MV} {u6 : Option MV} {x7 : Int32} {u8 : Option MV} {u9 : Option MV} {h : MH}  (g0 : okl [u0, u1, u2, u3, u4, u5, u6, some (.inl x7), u8, u9] 7 = true) (k : Wb rod d B_Purse_chooseOn 48 [u0, u1, u2, u3, u4, u5, u6, some (.inl (x7 + 1)), u8, u9] [] h Q) : Wb rod d B_Purse_chooseOn 125 [u0, u1, u2, u3, u4, u5, u6, some (.inl x7), u8, u9] [] h Q := by
  refine Wb.go (fun r hr q => b_Purse_chooseOn_125 g0 ?_) k
  (first | exact q | (simp only [Option.getD_some]; exact q))
theorem w_Purse_chooseOn_131 {rod : Nat → Nat × (Nat → Int32)} {d : Nat} {Q : Option MV → MH → Prop} {u1 : Option MV} {x2 : Int32} {u3 : Option MV} {u4 : Option MV} {u5 : Option MV} {u6 : Option MV} {u7 : Option MV} {u8 : Option MV} {u9 : Option MV} {h : MH} (L : Lay h.2) (g0 : 0 ≤ x2.toInt ∧ x2.toInt < 4) (k : Wb rod d B_Purse_chooseOn 138 [some (.inr (.inr (.inl (some 75)))), u1, some (.inl x2), u3, u4, u5, u6, u7, u8, u9] [] (sI h 76 x2.toNatClampNeg (0 : Int32)) Q) : Wb rod d B_Purse_chooseOn 131 [some (.inr (.inr (.inl (some 75)))), u1, some (.inl x2), u3, u4, u5, u6, u7, u8, u9] [] h Q := by
  refine Wb.go (fun r hr q => b_Purse_chooseOn_131 (Lay.o75 L) (Lay.a75_0 L g0) ?_) k
  (first | exact q | (simp only [Option.getD_some, (Lay.r75_0 L)]; exact q))
theorem w_Purse_chooseOn_138 {rod : Nat → Nat × (Nat → Int32)} {d : Nat} {Q : Option MV → MH → Prop} {u0 : Option MV} {u1 : Option MV} {u2 : Option MV} {u3 : Option MV} {u4 : Option MV} {u5 : Option MV} {u6 : Option MV} {u7 : Option MV} {u8 : Option MV} {u9 : Option MV} {h : MH}   (q : Q (none) h) : Wb rod d B_Purse_chooseOn 138 [u0, u1, u2, u3, u4, u5, u6, u7, u8, u9] [] h Q := by
  refine Wb.ret (b_Purse_chooseOn_138) ?_
  (first | exact q | (simp only [Option.getD_some]; exact q))
theorem n_Purse_keepIfBetter {rod : Nat → Nat × (Nat → Int32)} {d : Nat} {Q : Option MV → MH → Prop} {x1 : Int32} {x2 : Int32} {h : MH} (k : Wb rod d B_Purse_keepIfBetter 0 [some (.inr (.inr (.inl (some 75)))), some (.inl x1), some (.inl x2)] [] h Q) : Wc rod (d + 1) 111 [.inr (.inr (.inl (some 75))), .inl x1, .inl x2] h Q := Wc.en (fun _ _ => e_Purse_keepIfBetter) k
theorem w_Purse_keepIfBetter_0 {rod : Nat → Nat × (Nat → Int32)} {d : Nat} {Q : Option MV → MH → Prop} {x1 : Int32} {u2 : Option MV} {h : MH} (L : Lay h.2)  (k1 : (h.1 75 2).toInt < x1.toInt → Wb rod d B_Purse_keepIfBetter 24 [some (.inr (.inr (.inl (some 75)))), some (.inl x1), u2] [] h Q) (k2 : ¬ (h.1 75 2).toInt < x1.toInt → Wb rod d B_Purse_keepIfBetter 8 [some (.inr (.inr (.inl (some 75)))), some (.inl x1), u2] [] h Q) : Wb rod d B_Purse_keepIfBetter 0 [some (.inr (.inr (.inl (some 75)))), some (.inl x1), u2] [] h Q := by
  refine Wb.br (fun _ _ => b_Purse_keepIfBetter_0 (Lay.o75 L)) (fun c => ?_) (fun c => ?_)
  · have c : (decide ((h.1 75 2) < x1)) = true := by first | exact c | (simp only [Option.getD_some] at c; exact c)
    (first | exact (k1 (c_ltt c)) | (simp only [Option.getD_some]; exact (k1 (c_ltt c))))
  · have c : (decide ((h.1 75 2) < x1)) = false := by first | exact c | (simp only [Option.getD_some] at c; exact c)
    (first | exact (k2 (c_ltf c)) | (simp only [Option.getD_some]; exact (k2 (c_ltf c))))
theorem w_Purse_keepIfBetter_8 {rod : Nat → Nat × (Nat → Int32)} {d : Nat} {Q : Option MV → MH → Prop} {x1 : Int32} {u2 : Option MV} {h : MH} (L : Lay h.2)  (k1 : ¬ x1.toInt = (h.1 75 2).toInt → Wb rod d B_Purse_keepIfBetter 48 [some (.inr (.inr (.inl (some 75)))), some (.inl x1), u2] [] h Q) (k2 : x1.toInt = (h.1 75 2).toInt → Wb rod d B_Purse_keepIfBetter 16 [some (.inr (.inr (.inl (some 75)))), some (.inl x1), u2] [] h Q) : Wb rod d B_Purse_keepIfBetter 8 [some (.inr (.inr (.inl (some 75)))), some (.inl x1), u2] [] h Q := by
  refine Wb.br (fun _ _ => b_Purse_keepIfBetter_8 (Lay.o75 L)) (fun c => ?_) (fun c => ?_)
  · have c : (!(decide (x1 = (h.1 75 2)))) = true := by first | exact c | (simp only [Option.getD_some] at c; exact c)
    (first | exact (k1 (c_net c)) | (simp only [Option.getD_some]; exact (k1 (c_net c))))
  · have c : (!(decide (x1 = (h.1 75 2)))) = false := by first | exact c | (simp only [Option.getD_some] at c; exact c)
    (first | exact (k2 (c_nef c)) | (simp only [Option.getD_some]; exact (k2 (c_nef c))))
theorem w_Purse_keepIfBetter_16 {rod : Nat → Nat × (Nat → Int32)} {d : Nat} {Q : Option MV → MH → Prop} {u1 : Option MV} {x2 : Int32} {h : MH} (L : Lay h.2)  (k1 : (h.1 75 3).toInt ≤ x2.toInt → Wb rod d B_Purse_keepIfBetter 48 [some (.inr (.inr (.inl (some 75)))), u1, some (.inl x2)] [] h Q) (k2 : ¬ (h.1 75 3).toInt ≤ x2.toInt → Wb rod d B_Purse_keepIfBetter 24 [some (.inr (.inr (.inl (some 75)))), u1, some (.inl x2)] [] h Q) : Wb rod d B_Purse_keepIfBetter 16 [some (.inr (.inr (.inl (some 75)))), u1, some (.inl x2)] [] h Q := by
  refine Wb.br (fun _ _ => b_Purse_keepIfBetter_16 (Lay.o75 L)) (fun c => ?_) (fun c => ?_)
  · have c : (decide ((h.1 75 3) ≤ x2)) = true := by first | exact c | (simp only [Option.getD_some] at c; exact c)
    (first | exact (k1 (c_let c)) | (simp only [Option.getD_some]; exact (k1 (c_let c))))
  · have c : (decide ((h.1 75 3) ≤ x2)) = false := by first | exact c | (simp only [Option.getD_some] at c; exact c)
    (first | exact (k2 (c_lef c)) | (simp only [Option.getD_some]; exact (k2 (c_lef c))))
theorem w_Purse_keepIfBetter_24 {rod : Nat → Nat × (Nat → Int32)} {d : Nat} {Q : Option MV → MH → Prop} {x1 : Int32} {u2 : Option MV} {h : MH} (L : Lay h.2)  (k : Wb rod d B_Purse_keepIfBetter 29 [some (.inr (.inr (.inl (some 75)))), some (.inl x1), u2] [] (sI h 75 2 x1) Q) : Wb rod d B_Purse_keepIfBetter 24 [some (.inr (.inr (.inl (some 75)))), some (.inl x1), u2] [] h Q := by
  refine Wb.go (fun r hr q => b_Purse_keepIfBetter_24 (Lay.o75 L) ?_) k
  (first | exact q | (simp only [Option.getD_some]; exact q))
theorem w_Purse_keepIfBetter_29 {rod : Nat → Nat × (Nat → Int32)} {d : Nat} {Q : Option MV → MH → Prop} {u1 : Option MV} {x2 : Int32} {h : MH} (L : Lay h.2)  (k : Wb rod d B_Purse_keepIfBetter 34 [some (.inr (.inr (.inl (some 75)))), u1, some (.inl x2)] [] (sI h 75 3 x2) Q) : Wb rod d B_Purse_keepIfBetter 29 [some (.inr (.inr (.inl (some 75)))), u1, some (.inl x2)] [] h Q := by
  refine Wb.go (fun r hr q => b_Purse_keepIfBetter_29 (Lay.o75 L) ?_) k
  (first | exact q | (simp only [Option.getD_some]; exact q))
theorem w_Purse_keepIfBetter_34 {rod : Nat → Nat × (Nat → Int32)} {d : Nat} {Q : Option MV → MH → Prop} {u1 : Option MV} {u2 : Option MV} {h : MH} (L : Lay h.2)  (k : Wb rod d B_Purse_keepIfBetter 48 [some (.inr (.inr (.inl (some 75)))), u1, u2] [] (sC h 76 77 (0 : Int32).toNatClampNeg (0 : Int32).toNatClampNeg (4 : Int32).toNatClampNeg) Q) : Wb rod d B_Purse_keepIfBetter 34 [some (.inr (.inr (.inl (some 75)))), u1, u2] [] h Q := by
  refine Wb.go (fun r hr q => b_Purse_keepIfBetter_34 (Lay.o75 L) (cp_ok (N1 := 4) (N2 := 4) (N := 4) (Lay.k75_0 L) (Lay.k75_1 L) (by decide) (Lay.n75_0 L) (Lay.n75_1 L) ⟨by decide, by decide⟩ (by decide) (by decide)) ?_) k
  (first | exact q | (simp only [Option.getD_some, (Lay.r75_0 L), (Lay.r75_1 L)]; exact q))
theorem w_Purse_keepIfBetter_48 {rod : Nat → Nat × (Nat → Int32)} {d : Nat} {Q : Option MV → MH → Prop} {u0 : Option MV} {u1 : Option MV} {u2 : Option MV} {h : MH}   (q : Q (none) h) : Wb rod d B_Purse_keepIfBetter 48 [u0, u1, u2] [] h Q := by
  refine Wb.ret (b_Purse_keepIfBetter_48) ?_
  (first | exact q | (simp only [Option.getD_some]; exact q))
theorem n_Main_plan {rod : Nat → Nat × (Nat → Int32)} {d : Nat} {Q : Option MV → MH → Prop} {x1 : Int32} {x2 : Int32} {x3 : Int32} {h : MH} (k : Wb rod d B_Main_plan 0 [some (.inr (.inr (.inl (some 0)))), some (.inl x1), some (.inl x2), some (.inl x3)] [] h Q) : Wc rod (d + 1) 112 [.inr (.inr (.inl (some 0))), .inl x1, .inl x2, .inl x3] h Q := Wc.en (fun _ _ => e_Main_plan) k
theorem w_Main_plan_0 {rod : Nat → Nat × (Nat → Int32)} {d : Nat} {Q : Option MV → MH → Prop} {u0 : Option MV} {x1 : Int32} {u2 : Option MV} {u3 : Option MV} {h : MH}   {Q1 : Option MV → MH → Prop} (c : Wc rod d 15 [.inl x1] h Q1) (k : ∀ r1 h2, Q1 r1 h2 → Wb rod d B_Main_plan 4 [u0, some (.inl x1), u2, u3] (r1.toList ++ []) h2 Q) : Wb rod d B_Main_plan 0 [u0, some (.inl x1), u2, u3] [] h Q := by
  refine Wb.call (fun _ _ _ _ => b_Main_plan_0) (Q1 := Q1) ?_ ?_
  · (first | exact c | (simp only [Option.getD_some]; exact c))
  · (first | exact k | (simp only [Option.getD_some]; exact k))
theorem w_Main_plan_4 {rod : Nat → Nat × (Nat → Int32)} {d : Nat} {Q : Option MV → MH → Prop} {u0 : Option MV} {u1 : Option MV} {u2 : Option MV} {u3 : Option MV} {xs0 : Int32} {h : MH}   (k1 : xs0.toInt = 0 → Wb rod d B_Main_plan 17 [u0, u1, u2, u3] [] h Q) (k2 : ¬ xs0.toInt = 0 → Wb rod d B_Main_plan 7 [u0, u1, u2, u3] [] h Q) : Wb rod d B_Main_plan 4 [u0, u1, u2, u3] [.inl xs0] h Q := by
  refine Wb.br (fun _ _ => b_Main_plan_4) (fun c => ?_) (fun c => ?_)
  · have c : (decide (xs0 = 0)) = true := by first | exact c | (simp only [Option.getD_some] at c; exact c)
    (first | exact (k1 (c_eqt c)) | (simp only [Option.getD_some]; exact (k1 (c_eqt c))))
  · have c : (decide (xs0 = 0)) = false := by first | exact c | (simp only [Option.getD_some] at c; exact c)
    (first | exact (k2 (c_eqf c)) | (simp only [Option.getD_some]; exact (k2 (c_eqf c))))
theorem w_Main_plan_7 {rod : Nat → Nat × (Nat → Int32)} {d : Nat} {Q : Option MV → MH → Prop} {u0 : Option MV} {u1 : Option MV} {x2 : Int32} {u3 : Option MV} {h : MH}   (k1 : x2.toInt < 0 → Wb rod d B_Main_plan 17 [u0, u1, some (.inl x2), u3] [] h Q) (k2 : ¬ x2.toInt < 0 → Wb rod d B_Main_plan 11 [u0, u1, some (.inl x2), u3] [] h Q) : Wb rod d B_Main_plan 7 [u0, u1, some (.inl x2), u3] [] h Q := by
  refine Wb.br (fun _ _ => b_Main_plan_7) (fun c => ?_) (fun c => ?_)
  · have c : (decide (x2 < 0)) = true := by first | exact c | (simp only [Option.getD_some] at c; exact c)
    (first | exact (k1 (c_ltt c)) | (simp only [Option.getD_some]; exact (k1 (c_ltt c))))
  · have c : (decide (x2 < 0)) = false := by first | exact c | (simp only [Option.getD_some] at c; exact c)
    (first | exact (k2 (c_ltf c)) | (simp only [Option.getD_some]; exact (k2 (c_ltf c))))
theorem w_Main_plan_11 {rod : Nat → Nat × (Nat → Int32)} {d : Nat} {Q : Option MV → MH → Prop} {u0 : Option MV} {u1 : Option MV} {x2 : Int32} {u3 : Option MV} {h : MH}   (k1 : x2.toInt ≤ 20 → Wb rod d B_Main_plan 19 [u0, u1, some (.inl x2), u3] [] h Q) (k2 : ¬ x2.toInt ≤ 20 → Wb rod d B_Main_plan 17 [u0, u1, some (.inl x2), u3] [] h Q) : Wb rod d B_Main_plan 11 [u0, u1, some (.inl x2), u3] [] h Q := by
  refine Wb.br (fun _ _ => b_Main_plan_11) (fun c => ?_) (fun c => ?_)
  · have c : (decide (x2 ≤ (20 : Int32))) = true := by first | exact c | (simp only [Option.getD_some] at c; exact c)
    (first | exact (k1 (c_let c)) | (simp only [Option.getD_some]; exact (k1 (c_let c))))
  · have c : (decide (x2 ≤ (20 : Int32))) = false := by first | exact c | (simp only [Option.getD_some] at c; exact c)
    (first | exact (k2 (c_lef c)) | (simp only [Option.getD_some]; exact (k2 (c_lef c))))
theorem w_Main_plan_17 {rod : Nat → Nat × (Nat → Int32)} {d : Nat} {Q : Option MV → MH → Prop} {u0 : Option MV} {u1 : Option MV} {u2 : Option MV} {u3 : Option MV} {h : MH}   (q : Q (some (.inl (-1 : Int32))) h) : Wb rod d B_Main_plan 17 [u0, u1, u2, u3] [] h Q := by
  refine Wb.ret (b_Main_plan_17) ?_
  (first | exact q | (simp only [Option.getD_some]; exact q))
theorem w_Main_plan_19 {rod : Nat → Nat × (Nat → Int32)} {d : Nat} {Q : Option MV → MH → Prop} {u0 : Option MV} {u1 : Option MV} {u2 : Option MV} {x3 : Int32} {h : MH}   (k1 : ¬ x3.toInt = (-1) → Wb rod d B_Main_plan 36 [u0, u1, u2, some (.inl x3)] [] h Q) (k2 : x3.toInt = (-1) → Wb rod d B_Main_plan 24 [u0, u1, u2, some (.inl x3)] [] h Q) : Wb rod d B_Main_plan 19 [u0, u1, u2, some (.inl x3)] [] h Q := by
  refine Wb.br (fun _ _ => b_Main_plan_19) (fun c => ?_) (fun c => ?_)
  · have c : (!(decide (x3 = (-1 : Int32)))) = true := by first | exact c | (simp only [Option.getD_some] at c; exact c)
    (first | exact (k1 (c_net c)) | (simp only [Option.getD_some]; exact (k1 (c_net c))))
  · have c : (!(decide (x3 = (-1 : Int32)))) = false := by first | exact c | (simp only [Option.getD_some] at c; exact c)
    (first | exact (k2 (c_nef c)) | (simp only [Option.getD_some]; exact (k2 (c_nef c))))
theorem w_Main_plan_24 {rod : Nat → Nat × (Nat → Int32)} {d : Nat} {Q : Option MV → MH → Prop} {x1 : Int32} {x2 : Int32} {u3 : Option MV} {h : MH} (L : Lay h.2)  {Q1 : Option MV → MH → Prop} (c : Wc rod d 14 [.inr (.inr (.inl (some 82))), .inl x2, .inl x1] h Q1) (k : ∀ r1 h2, Q1 r1 h2 → Wb rod d B_Main_plan 33 [some (.inr (.inr (.inl (some 0)))), some (.inl x1), some (.inl x2), u3] (r1.toList ++ []) h2 Q) : Wb rod d B_Main_plan 24 [some (.inr (.inr (.inl (some 0)))), some (.inl x1), some (.inl x2), u3] [] h Q := by
  refine Wb.call (fun _ _ _ _ => b_Main_plan_24 (Lay.o0 L) (Lay.k0_7 L)) (Q1 := Q1) ?_ ?_
  · (first | exact c | (simp only [Option.getD_some, (Lay.r0_7 L)]; exact c))
  · (first | exact k | (simp only [Option.getD_some, (Lay.r0_7 L)]; exact k))
theorem w_Main_plan_33 {rod : Nat → Nat × (Nat → Int32)} {d : Nat} {Q : Option MV → MH → Prop} {u0 : Option MV} {u1 : Option MV} {u2 : Option MV} {u3 : Option MV} {xs0 : Int32} {h : MH}   (k : Wb rod d B_Main_plan 46 [u0, u1, u2, u3] [.inl xs0] h Q) : Wb rod d B_Main_plan 33 [u0, u1, u2, u3] [.inl xs0] h Q := by
  refine Wb.go (fun r hr q => b_Main_plan_33 ?_) k
  (first | exact q | (simp only [Option.getD_some]; exact q))
theorem w_Main_plan_36 {rod : Nat → Nat × (Nat → Int32)} {d : Nat} {Q : Option MV → MH → Prop} {x1 : Int32} {x2 : Int32} {x3 : Int32} {h : MH} (L : Lay h.2)  {Q1 : Option MV → MH → Prop} (c : Wc rod d 113 [.inr (.inr (.inl (some 82))), .inl x1, .inl x2, .inl x3] h Q1) (k : ∀ r1 h2, Q1 r1 h2 → Wb rod d B_Main_plan 46 [some (.inr (.inr (.inl (some 0)))), some (.inl x1), some (.inl x2), some (.inl x3)] (r1.toList ++ []) h2 Q) : Wb rod d B_Main_plan 36 [some (.inr (.inr (.inl (some 0)))), some (.inl x1), some (.inl x2), some (.inl x3)] [] h Q := by
  refine Wb.call (fun _ _ _ _ => b_Main_plan_36 (Lay.o0 L) (Lay.k0_7 L)) (Q1 := Q1) ?_ ?_
  · (first | exact c | (simp only [Option.getD_some, (Lay.r0_7 L)]; exact c))
  · (first | exact k | (simp only [Option.getD_some, (Lay.r0_7 L)]; exact k))
theorem w_Main_plan_46 {rod : Nat → Nat × (Nat → Int32)} {d : Nat} {Q : Option MV → MH → Prop} {u0 : Option MV} {u1 : Option MV} {u2 : Option MV} {u3 : Option MV} {xs0 : Int32} {h : MH}   (q : Q (some (.inl xs0)) h) : Wb rod d B_Main_plan 46 [u0, u1, u2, u3] [.inl xs0] h Q := by
  refine Wb.ret (b_Main_plan_46) ?_
  (first | exact q | (simp only [Option.getD_some]; exact q))
theorem n_Months_deedOf {rod : Nat → Nat × (Nat → Int32)} {d : Nat} {Q : Option MV → MH → Prop} {x1 : Int32} {x2 : Int32} {x3 : Int32} {h : MH} (k : Wb rod d B_Months_deedOf 0 [some (.inr (.inr (.inl (some 82)))), some (.inl x1), some (.inl x2), some (.inl x3), none, none, none] [] h Q) : Wc rod (d + 1) 113 [.inr (.inr (.inl (some 82))), .inl x1, .inl x2, .inl x3] h Q := Wc.en (fun _ _ => e_Months_deedOf) k
theorem w_Months_deedOf_0 {rod : Nat → Nat × (Nat → Int32)} {d : Nat} {Q : Option MV → MH → Prop} {u0 : Option MV} {u1 : Option MV} {u2 : Option MV} {x3 : Int32} {u4 : Option MV} {u5 : Option MV} {u6 : Option MV} {h : MH}   (k1 : x3.toInt < 0 → Wb rod d B_Months_deedOf 9 [u0, u1, u2, some (.inl x3), u4, u5, u6] [] h Q) (k2 : ¬ x3.toInt < 0 → Wb rod d B_Months_deedOf 4 [u0, u1, u2, some (.inl x3), u4, u5, u6] [] h Q) : Wb rod d B_Months_deedOf 0 [u0, u1, u2, some (.inl x3), u4, u5, u6] [] h Q := by
  refine Wb.br (fun _ _ => b_Months_deedOf_0) (fun c => ?_) (fun c => ?_)
  · have c : (decide (x3 < 0)) = true := by first | exact c | (simp only [Option.getD_some] at c; exact c)
    (first | exact (k1 (c_ltt c)) | (simp only [Option.getD_some]; exact (k1 (c_ltt c))))
  · have c : (decide (x3 < 0)) = false := by first | exact c | (simp only [Option.getD_some] at c; exact c)
    (first | exact (k2 (c_ltf c)) | (simp only [Option.getD_some]; exact (k2 (c_ltf c))))
theorem w_Months_deedOf_4 {rod : Nat → Nat × (Nat → Int32)} {d : Nat} {Q : Option MV → MH → Prop} {u0 : Option MV} {u1 : Option MV} {x2 : Int32} {x3 : Int32} {u4 : Option MV} {u5 : Option MV} {u6 : Option MV} {h : MH}   (k1 : x3.toInt < x2.toInt → Wb rod d B_Months_deedOf 11 [u0, u1, some (.inl x2), some (.inl x3), u4, u5, u6] [] h Q) (k2 : ¬ x3.toInt < x2.toInt → Wb rod d B_Months_deedOf 9 [u0, u1, some (.inl x2), some (.inl x3), u4, u5, u6] [] h Q) : Wb rod d B_Months_deedOf 4 [u0, u1, some (.inl x2), some (.inl x3), u4, u5, u6] [] h Q := by
  refine Wb.br (fun _ _ => b_Months_deedOf_4) (fun c => ?_) (fun c => ?_)
  · have c : (decide (x3 < x2)) = true := by first | exact c | (simp only [Option.getD_some] at c; exact c)
    (first | exact (k1 (c_ltt c)) | (simp only [Option.getD_some]; exact (k1 (c_ltt c))))
  · have c : (decide (x3 < x2)) = false := by first | exact c | (simp only [Option.getD_some] at c; exact c)
    (first | exact (k2 (c_ltf c)) | (simp only [Option.getD_some]; exact (k2 (c_ltf c))))
theorem w_Months_deedOf_9 {rod : Nat → Nat × (Nat → Int32)} {d : Nat} {Q : Option MV → MH → Prop} {u0 : Option MV} {u1 : Option MV} {u2 : Option MV} {u3 : Option MV} {u4 : Option MV} {u5 : Option MV} {u6 : Option MV} {h : MH}   (q : Q (some (.inl (-1 : Int32))) h) : Wb rod d B_Months_deedOf 9 [u0, u1, u2, u3, u4, u5, u6] [] h Q := by
  refine Wb.ret (b_Months_deedOf_9) ?_
  (first | exact q | (simp only [Option.getD_some]; exact q))
theorem w_Months_deedOf_11 {rod : Nat → Nat × (Nat → Int32)} {d : Nat} {Q : Option MV → MH → Prop} {u0 : Option MV} {x1 : Int32} {u2 : Option MV} {u3 : Option MV} {u4 : Option MV} {u5 : Option MV} {u6 : Option MV} {h : MH}  (g0 : okl [u0, some (.inl x1), u2, u3, u4, u5, u6] 4 = true) (k : Wb rod d B_Months_deedOf 20 [u0, some (.inl x1), u2, u3, some (.inl x1), some (.inl (-1 : Int32)), some (.inl (0 : Int32))] [] h Q) : Wb rod d B_Months_deedOf 11 [u0, some (.inl x1), u2, u3, u4, u5, u6] [] h Q := by
  refine Wb.go (fun r hr q => b_Months_deedOf_11 g0 ?_) k
  (first | exact q | (simp only [Option.getD_some]; exact q))
theorem w_Months_deedOf_20 {rod : Nat → Nat × (Nat → Int32)} {d : Nat} {Q : Option MV → MH → Prop} {u0 : Option MV} {u1 : Option MV} {u2 : Option MV} {x3 : Int32} {u4 : Option MV} {u5 : Option MV} {x6 : Int32} {h : MH}   (k1 : x3.toInt < x6.toInt → Wb rod d B_Months_deedOf 53 [u0, u1, u2, some (.inl x3), u4, u5, some (.inl x6)] [] h Q) (k2 : ¬ x3.toInt < x6.toInt → Wb rod d B_Months_deedOf 26 [u0, u1, u2, some (.inl x3), u4, u5, some (.inl x6)] [] h Q) : Wb rod d B_Months_deedOf 20 [u0, u1, u2, some (.inl x3), u4, u5, some (.inl x6)] [] h Q := by
  refine Wb.br (fun _ _ => b_Months_deedOf_20) (fun c => ?_) (fun c => ?_)
  · have c : (decide (x3 < x6)) = true := by first | exact c | (simp only [Option.getD_some] at c; exact c)
    (first | exact (k1 (c_ltt c)) | (simp only [Option.getD_some]; exact (k1 (c_ltt c))))
  · have c : (decide (x3 < x6)) = false := by first | exact c | (simp only [Option.getD_some] at c; exact c)
    (first | exact (k2 (c_ltf c)) | (simp only [Option.getD_some]; exact (k2 (c_ltf c))))
theorem w_Months_deedOf_26 {rod : Nat → Nat × (Nat → Int32)} {d : Nat} {Q : Option MV → MH → Prop} {u1 : Option MV} {x2 : Int32} {u3 : Option MV} {x4 : Int32} {u5 : Option MV} {x6 : Int32} {h : MH} (L : Lay h.2)  {Q1 : Option MV → MH → Prop} (c : Wc rod d 114 [.inr (.inr (.inl (some 82))), .inl (x2 - x6), .inl x4] h Q1) (k : ∀ r1 h2, Q1 r1 h2 → Wb rod d B_Months_deedOf 36 [some (.inr (.inr (.inl (some 82)))), u1, some (.inl x2), u3, some (.inl x4), u5, some (.inl x6)] (r1.toList ++ []) h2 Q) : Wb rod d B_Months_deedOf 26 [some (.inr (.inr (.inl (some 82)))), u1, some (.inl x2), u3, some (.inl x4), u5, some (.inl x6)] [] h Q := by
  refine Wb.call (fun _ _ _ _ => b_Months_deedOf_26 (Lay.o82 L)) (Q1 := Q1) ?_ ?_
  · (first | exact c | (simp only [Option.getD_some]; exact c))
  · (first | exact k | (simp only [Option.getD_some]; exact k))
theorem w_Months_deedOf_36 {rod : Nat → Nat × (Nat → Int32)} {d : Nat} {Q : Option MV → MH → Prop} {u0 : Option MV} {u1 : Option MV} {u2 : Option MV} {u3 : Option MV} {x4 : Int32} {u5 : Option MV} {u6 : Option MV} {xs0 : Int32} {h : MH}   {Q1 : Option MV → MH → Prop} (c : Wc rod d 13 [.inl xs0, .inl x4] h Q1) (k : ∀ r1 h2, Q1 r1 h2 → Wb rod d B_Months_deedOf 45 [u0, u1, u2, u3, some (.inl x4), some (.inl xs0), u6] (r1.toList ++ []) h2 Q) : Wb rod d B_Months_deedOf 36 [u0, u1, u2, u3, some (.inl x4), u5, u6] [.inl xs0] h Q := by
  refine Wb.call (fun _ _ _ _ => b_Months_deedOf_36) (Q1 := Q1) ?_ ?_
  · (first | exact c | (simp only [Option.getD_some]; exact c))
  · (first | exact k | (simp only [Option.getD_some]; exact k))
theorem w_Months_deedOf_45 {rod : Nat → Nat × (Nat → Int32)} {d : Nat} {Q : Option MV → MH → Prop} {u0 : Option MV} {u1 : Option MV} {u2 : Option MV} {u3 : Option MV} {u4 : Option MV} {u5 : Option MV} {x6 : Int32} {xs0 : Int32} {h : MH}  (g0 : okl [u0, u1, u2, u3, u4, u5, some (.inl x6)] 4 = true) (g1 : okl [u0, u1, u2, u3, some (.inl xs0), u5, some (.inl x6)] 6 = true) (k : Wb rod d B_Months_deedOf 20 [u0, u1, u2, u3, some (.inl xs0), u5, some (.inl (x6 + 1))] [] h Q) : Wb rod d B_Months_deedOf 45 [u0, u1, u2, u3, u4, u5, some (.inl x6)] [.inl xs0] h Q := by
  refine Wb.go (fun r hr q => b_Months_deedOf_45 g0 g1 ?_) k
  (first | exact q | (simp only [Option.getD_some]; exact q))
theorem w_Months_deedOf_53 {rod : Nat → Nat × (Nat → Int32)} {d : Nat} {Q : Option MV → MH → Prop} {u0 : Option MV} {u1 : Option MV} {u2 : Option MV} {u3 : Option MV} {u4 : Option MV} {x5 : Int32} {u6 : Option MV} {h : MH}   (q : Q (some (.inl x5)) h) : Wb rod d B_Months_deedOf 53 [u0, u1, u2, u3, u4, some (.inl x5), u6] [] h Q := by
  refine Wb.ret (b_Months_deedOf_53) ?_
  (first | exact q | (simp only [Option.getD_some]; exact q))
theorem n_Months_firstBest {rod : Nat → Nat × (Nat → Int32)} {d : Nat} {Q : Option MV → MH → Prop} {x1 : Int32} {x2 : Int32} {h : MH} (k : Wb rod d B_Months_firstBest 0 [some (.inr (.inr (.inl (some 82)))), some (.inl x1), some (.inl x2), none] [] h Q) : Wc rod (d + 1) 114 [.inr (.inr (.inl (some 82))), .inl x1, .inl x2] h Q := Wc.en (fun _ _ => e_Months_firstBest) k
theorem w_Months_firstBest_0 {rod : Nat → Nat × (Nat → Int32)} {d : Nat} {Q : Option MV → MH → Prop} {u0 : Option MV} {u1 : Option MV} {u2 : Option MV} {u3 : Option MV} {h : MH}  (g0 : okl [u0, u1, u2, u3] 3 = true) (k : Wb rod d B_Months_firstBest 2 [u0, u1, u2, some (.inl (0 : Int32))] [] h Q) : Wb rod d B_Months_firstBest 0 [u0, u1, u2, u3] [] h Q := by
  refine Wb.go (fun r hr q => b_Months_firstBest_0 g0 ?_) k
  (first | exact q | (simp only [Option.getD_some]; exact q))
theorem w_Months_firstBest_2 {rod : Nat → Nat × (Nat → Int32)} {d : Nat} {Q : Option MV → MH → Prop} {u0 : Option MV} {u1 : Option MV} {u2 : Option MV} {x3 : Int32} {h : MH}   (k1 : 2 ≤ x3.toInt → Wb rod d B_Months_firstBest 31 [u0, u1, u2, some (.inl x3)] [] h Q) (k2 : ¬ 2 ≤ x3.toInt → Wb rod d B_Months_firstBest 7 [u0, u1, u2, some (.inl x3)] [] h Q) : Wb rod d B_Months_firstBest 2 [u0, u1, u2, some (.inl x3)] [] h Q := by
  refine Wb.br (fun _ _ => b_Months_firstBest_2) (fun c => ?_) (fun c => ?_)
  · have c : (decide ((2 : Int32) ≤ x3)) = true := by first | exact c | (simp only [Option.getD_some] at c; exact c)
    (first | exact (k1 (c_let c)) | (simp only [Option.getD_some]; exact (k1 (c_let c))))
  · have c : (decide ((2 : Int32) ≤ x3)) = false := by first | exact c | (simp only [Option.getD_some] at c; exact c)
    (first | exact (k2 (c_lef c)) | (simp only [Option.getD_some]; exact (k2 (c_lef c))))
theorem w_Months_firstBest_7 {rod : Nat → Nat × (Nat → Int32)} {d : Nat} {Q : Option MV → MH → Prop} {x1 : Int32} {x2 : Int32} {x3 : Int32} {h : MH} (L : Lay h.2)  {Q1 : Option MV → MH → Prop} (c : Wc rod d 12 [.inr (.inr (.inl (some 82))), .inl x3, .inl x1, .inl x2] h Q1) (k : ∀ r1 h2, Q1 r1 h2 → Wb rod d B_Months_firstBest 14 [some (.inr (.inr (.inl (some 82)))), some (.inl x1), some (.inl x2), some (.inl x3)] (r1.toList ++ []) h2 Q) : Wb rod d B_Months_firstBest 7 [some (.inr (.inr (.inl (some 82)))), some (.inl x1), some (.inl x2), some (.inl x3)] [] h Q := by
  refine Wb.call (fun _ _ _ _ => b_Months_firstBest_7 (Lay.o82 L)) (Q1 := Q1) ?_ ?_
  · (first | exact c | (simp only [Option.getD_some]; exact c))
  · (first | exact k | (simp only [Option.getD_some]; exact k))
theorem w_Months_firstBest_14 {rod : Nat → Nat × (Nat → Int32)} {d : Nat} {Q : Option MV → MH → Prop} {x1 : Int32} {x2 : Int32} {u3 : Option MV} {xs0 : Int32} {h : MH} (L : Lay h.2)  {Q1 : Option MV → MH → Prop} (c : Wc rod d 14 [.inr (.inr (.inl (some 82))), .inl x1, .inl x2] h Q1) (k : ∀ r1 h2, Q1 r1 h2 → Wb rod d B_Months_firstBest 20 [some (.inr (.inr (.inl (some 82)))), some (.inl x1), some (.inl x2), u3] (r1.toList ++ [.inl xs0]) h2 Q) : Wb rod d B_Months_firstBest 14 [some (.inr (.inr (.inl (some 82)))), some (.inl x1), some (.inl x2), u3] [.inl xs0] h Q := by
  refine Wb.call (fun _ _ _ _ => b_Months_firstBest_14 (Lay.o82 L)) (Q1 := Q1) ?_ ?_
  · (first | exact c | (simp only [Option.getD_some]; exact c))
  · (first | exact k | (simp only [Option.getD_some]; exact k))
theorem w_Months_firstBest_20 {rod : Nat → Nat × (Nat → Int32)} {d : Nat} {Q : Option MV → MH → Prop} {u0 : Option MV} {u1 : Option MV} {u2 : Option MV} {u3 : Option MV} {xs0 : Int32} {xs1 : Int32} {h : MH}   (k1 : ¬ xs0.toInt = xs1.toInt → Wb rod d B_Months_firstBest 25 [u0, u1, u2, u3] [] h Q) (k2 : xs0.toInt = xs1.toInt → Wb rod d B_Months_firstBest 23 [u0, u1, u2, u3] [] h Q) : Wb rod d B_Months_firstBest 20 [u0, u1, u2, u3] [.inl xs1, .inl xs0] h Q := by
  refine Wb.br (fun _ _ => b_Months_firstBest_20) (fun c => ?_) (fun c => ?_)
  · have c : (!(decide (xs0 = xs1))) = true := by first | exact c | (simp only [Option.getD_some] at c; exact c)
    (first | exact (k1 (c_net c)) | (simp only [Option.getD_some]; exact (k1 (c_net c))))
  · have c : (!(decide (xs0 = xs1))) = false := by first | exact c | (simp only [Option.getD_some] at c; exact c)
    (first | exact (k2 (c_nef c)) | (simp only [Option.getD_some]; exact (k2 (c_nef c))))
theorem w_Months_firstBest_23 {rod : Nat → Nat × (Nat → Int32)} {d : Nat} {Q : Option MV → MH → Prop} {u0 : Option MV} {u1 : Option MV} {u2 : Option MV} {x3 : Int32} {h : MH}   (q : Q (some (.inl x3)) h) : Wb rod d B_Months_firstBest 23 [u0, u1, u2, some (.inl x3)] [] h Q := by
  refine Wb.ret (b_Months_firstBest_23) ?_
  (first | exact q | (simp only [Option.getD_some]; exact q))
theorem w_Months_firstBest_25 {rod : Nat → Nat × (Nat → Int32)} {d : Nat} {Q : Option MV → MH → Prop} {u0 : Option MV} {u1 : Option MV} {u2 : Option MV} {x3 : Int32} {h : MH}  (g0 : okl [u0, u1, u2, some (.inl x3)] 3 = true) (k : Wb rod d B_Months_firstBest 2 [u0, u1, u2, some (.inl (x3 + 1))] [] h Q) : Wb rod d B_Months_firstBest 25 [u0, u1, u2, some (.inl x3)] [] h Q := by
  refine Wb.go (fun r hr q => b_Months_firstBest_25 g0 ?_) k
  (first | exact q | (simp only [Option.getD_some]; exact q))
theorem w_Months_firstBest_31 {rod : Nat → Nat × (Nat → Int32)} {d : Nat} {Q : Option MV → MH → Prop} {u0 : Option MV} {u1 : Option MV} {u2 : Option MV} {u3 : Option MV} {h : MH}   (q : Q (some (.inl (2 : Int32))) h) : Wb rod d B_Months_firstBest 31 [u0, u1, u2, u3] [] h Q := by
  refine Wb.ret (b_Months_firstBest_31) ?_
  (first | exact q | (simp only [Option.getD_some]; exact q))
theorem n_Main_entry {rod : Nat → Nat × (Nat → Int32)} {d : Nat} {Q : Option MV → MH → Prop} {x1 : Int32} {x2 : Int32} {x3 : Int32} {h : MH} (k : Wb rod d B_Main_entry 0 [some (.inr (.inr (.inl (some 0)))), some (.inl x1), some (.inl x2), some (.inl x3), none] [] h Q) : Wc rod (d + 1) 115 [.inr (.inr (.inl (some 0))), .inl x1, .inl x2, .inl x3] h Q := Wc.en (fun _ _ => e_Main_entry) k
theorem w_Main_entry_0 {rod : Nat → Nat × (Nat → Int32)} {d : Nat} {Q : Option MV → MH → Prop} {x1 : Int32} {u2 : Option MV} {u3 : Option MV} {u4 : Option MV} {h : MH} (L : Lay h.2)  {Q1 : Option MV → MH → Prop} (c : Wc rod d 116 [.inr (.inr (.inl (some 1))), .inl x1] h Q1) (k : ∀ r1 h2, Q1 r1 h2 → Wb rod d B_Main_entry 8 [some (.inr (.inr (.inl (some 0)))), some (.inl x1), u2, u3, u4] (r1.toList ++ []) h2 Q) : Wb rod d B_Main_entry 0 [some (.inr (.inr (.inl (some 0)))), some (.inl x1), u2, u3, u4] [] h Q := by
  refine Wb.call (fun _ _ _ _ => b_Main_entry_0 (Lay.o0 L) (Lay.k0_0 L)) (Q1 := Q1) ?_ ?_
  · (first | exact c | (simp only [Option.getD_some, (Lay.r0_0 L)]; exact c))
  · (first | exact k | (simp only [Option.getD_some, (Lay.r0_0 L)]; exact k))
theorem w_Main_entry_8 {rod : Nat → Nat × (Nat → Int32)} {d : Nat} {Q : Option MV → MH → Prop} {u0 : Option MV} {u1 : Option MV} {u2 : Option MV} {u3 : Option MV} {u4 : Option MV} {os0 : Option Nat} {h : MH}  (g0 : okl [u0, u1, u2, u3, u4] 4 = true) (k1 : os0 = none → Wb rod d B_Main_entry 15 [u0, u1, u2, u3, some (.inr (.inr (.inl os0)))] [] h Q) (k2 : ∀ v, os0 = some v → Wb rod d B_Main_entry 18 [u0, u1, u2, u3, some (.inr (.inr (.inl os0)))] [] h Q) : Wb rod d B_Main_entry 8 [u0, u1, u2, u3, u4] [.inr (.inr (.inl os0))] h Q := by
  cases os0 with
  | none =>
    refine Wb.br (fun _ _ => b_Main_entry_8 g0) (fun c => ?_) (fun c => ?_)
    · simp at c
    · exact k1 rfl
  | some v =>
    refine Wb.br (fun _ _ => b_Main_entry_8 g0) (fun c => ?_) (fun c => ?_)
    · exact k2 v rfl
    · simp at c
theorem w_Main_entry_15 {rod : Nat → Nat × (Nat → Int32)} {d : Nat} {Q : Option MV → MH → Prop} {u0 : Option MV} {u1 : Option MV} {u2 : Option MV} {u3 : Option MV} {u4 : Option MV} {h : MH}   (q : Q (some (.inl (-2 : Int32))) h) : Wb rod d B_Main_entry 15 [u0, u1, u2, u3, u4] [] h Q := by
  refine Wb.ret (b_Main_entry_15) ?_
  (first | exact q | (simp only [Option.getD_some]; exact q))
theorem w_Main_entry_18 {rod : Nat → Nat × (Nat → Int32)} {d : Nat} {Q : Option MV → MH → Prop} {u0 : Option MV} {u1 : Option MV} {x2 : Int32} {u3 : Option MV} {u4 : Option MV} {h : MH}   (k1 : ¬ x2.toInt = (-1) → Wb rod d B_Main_entry 38 [u0, u1, some (.inl x2), u3, u4] [] h Q) (k2 : x2.toInt = (-1) → Wb rod d B_Main_entry 23 [u0, u1, some (.inl x2), u3, u4] [] h Q) : Wb rod d B_Main_entry 18 [u0, u1, some (.inl x2), u3, u4] [] h Q := by
  refine Wb.br (fun _ _ => b_Main_entry_18) (fun c => ?_) (fun c => ?_)
  · have c : (!(decide (x2 = (-1 : Int32)))) = true := by first | exact c | (simp only [Option.getD_some] at c; exact c)
    (first | exact (k1 (c_net c)) | (simp only [Option.getD_some]; exact (k1 (c_net c))))
  · have c : (!(decide (x2 = (-1 : Int32)))) = false := by first | exact c | (simp only [Option.getD_some] at c; exact c)
    (first | exact (k2 (c_nef c)) | (simp only [Option.getD_some]; exact (k2 (c_nef c))))
theorem w_Main_entry_23 {rod : Nat → Nat × (Nat → Int32)} {d : Nat} {Q : Option MV → MH → Prop} {u0 : Option MV} {u1 : Option MV} {u2 : Option MV} {x3 : Int32} {u4 : Option MV} {h : MH}   (k1 : ¬ x3.toInt = 0 → Wb rod d B_Main_entry 35 [u0, u1, u2, some (.inl x3), u4] [] h Q) (k2 : x3.toInt = 0 → Wb rod d B_Main_entry 27 [u0, u1, u2, some (.inl x3), u4] [] h Q) : Wb rod d B_Main_entry 23 [u0, u1, u2, some (.inl x3), u4] [] h Q := by
  refine Wb.br (fun _ _ => b_Main_entry_23) (fun c => ?_) (fun c => ?_)
  · have c : (!(decide (x3 = 0))) = true := by first | exact c | (simp only [Option.getD_some] at c; exact c)
    (first | exact (k1 (c_net c)) | (simp only [Option.getD_some]; exact (k1 (c_net c))))
  · have c : (!(decide (x3 = 0))) = false := by first | exact c | (simp only [Option.getD_some] at c; exact c)
    (first | exact (k2 (c_nef c)) | (simp only [Option.getD_some]; exact (k2 (c_nef c))))
theorem w_Main_entry_27 {rod : Nat → Nat × (Nat → Int32)} {d : Nat} {Q : Option MV → MH → Prop} {u0 : Option MV} {u1 : Option MV} {u2 : Option MV} {u3 : Option MV} {a4 : Nat} {h : MH} (A4 : LedgerA h.2 a4)  (k : Wb rod d B_Main_entry 37 [u0, u1, u2, u3, some (.inr (.inr (.inl (some a4))))] [.inl (h.1 a4 0)] h Q) : Wb rod d B_Main_entry 27 [u0, u1, u2, u3, some (.inr (.inr (.inl (some a4))))] [] h Q := by
  refine Wb.go (fun r hr q => b_Main_entry_27 (A4.o) ?_) k
  (first | exact q | (simp only [Option.getD_some]; exact q))
theorem w_Main_entry_35 {rod : Nat → Nat × (Nat → Int32)} {d : Nat} {Q : Option MV → MH → Prop} {u0 : Option MV} {u1 : Option MV} {u2 : Option MV} {u3 : Option MV} {u4 : Option MV} {h : MH}   (k : Wb rod d B_Main_entry 37 [u0, u1, u2, u3, u4] [.inl (-2 : Int32)] h Q) : Wb rod d B_Main_entry 35 [u0, u1, u2, u3, u4] [] h Q := by
  refine Wb.go (fun r hr q => b_Main_entry_35 ?_) k
  (first | exact q | (simp only [Option.getD_some]; exact q))
theorem w_Main_entry_37 {rod : Nat → Nat × (Nat → Int32)} {d : Nat} {Q : Option MV → MH → Prop} {u0 : Option MV} {u1 : Option MV} {u2 : Option MV} {u3 : Option MV} {u4 : Option MV} {xs0 : Int32} {h : MH}   (q : Q (some (.inl xs0)) h) : Wb rod d B_Main_entry 37 [u0, u1, u2, u3, u4] [.inl xs0] h Q := by
  refine Wb.ret (b_Main_entry_37) ?_
  (first | exact q | (simp only [Option.getD_some]; exact q))
theorem w_Main_entry_38 {rod : Nat → Nat × (Nat → Int32)} {d : Nat} {Q : Option MV → MH → Prop} {u0 : Option MV} {u1 : Option MV} {x2 : Int32} {u3 : Option MV} {a4 : Nat} {h : MH} (A4 : LedgerA h.2 a4)  {Q1 : Option MV → MH → Prop} (c : Wc rod d 117 [.inr (.inr (.inl (some a4))), .inl x2] h Q1) (k : ∀ r1 h2, Q1 r1 h2 → Wb rod d B_Main_entry 44 [u0, u1, some (.inl x2), u3, some (.inr (.inr (.inl (some a4))))] (r1.toList ++ []) h2 Q) : Wb rod d B_Main_entry 38 [u0, u1, some (.inl x2), u3, some (.inr (.inr (.inl (some a4))))] [] h Q := by
  refine Wb.call (fun _ _ _ _ => b_Main_entry_38 (A4.o)) (Q1 := Q1) ?_ ?_
  · (first | exact c | (simp only [Option.getD_some]; exact c))
  · (first | exact k | (simp only [Option.getD_some]; exact k))
theorem w_Main_entry_44 {rod : Nat → Nat × (Nat → Int32)} {d : Nat} {Q : Option MV → MH → Prop} {u0 : Option MV} {u1 : Option MV} {u2 : Option MV} {u3 : Option MV} {u4 : Option MV} {xs0 : Int32} {h : MH}   (k1 : xs0.toInt = 0 → Wb rod d B_Main_entry 57 [u0, u1, u2, u3, u4] [] h Q) (k2 : ¬ xs0.toInt = 0 → Wb rod d B_Main_entry 47 [u0, u1, u2, u3, u4] [] h Q) : Wb rod d B_Main_entry 44 [u0, u1, u2, u3, u4] [.inl xs0] h Q := by
  refine Wb.br (fun _ _ => b_Main_entry_44) (fun c => ?_) (fun c => ?_)
  · have c : (decide (xs0 = 0)) = true := by first | exact c | (simp only [Option.getD_some] at c; exact c)
    (first | exact (k1 (c_eqt c)) | (simp only [Option.getD_some]; exact (k1 (c_eqt c))))
  · have c : (decide (xs0 = 0)) = false := by first | exact c | (simp only [Option.getD_some] at c; exact c)
    (first | exact (k2 (c_eqf c)) | (simp only [Option.getD_some]; exact (k2 (c_eqf c))))
theorem w_Main_entry_47 {rod : Nat → Nat × (Nat → Int32)} {d : Nat} {Q : Option MV → MH → Prop} {u0 : Option MV} {u1 : Option MV} {x2 : Int32} {x3 : Int32} {a4 : Nat} {h : MH} (A4 : LedgerA h.2 a4)  {Q1 : Option MV → MH → Prop} (c : Wc rod d 118 [.inr (.inr (.inl (some a4))), .inl x2, .inl x3] h Q1) (k : ∀ r1 h2, Q1 r1 h2 → Wb rod d B_Main_entry 54 [u0, u1, some (.inl x2), some (.inl x3), some (.inr (.inr (.inl (some a4))))] (r1.toList ++ []) h2 Q) : Wb rod d B_Main_entry 47 [u0, u1, some (.inl x2), some (.inl x3), some (.inr (.inr (.inl (some a4))))] [] h Q := by
  refine Wb.call (fun _ _ _ _ => b_Main_entry_47 (A4.o)) (Q1 := Q1) ?_ ?_
  · (first | exact c | (simp only [Option.getD_some]; exact c))
  · (first | exact k | (simp only [Option.getD_some]; exact k))
theorem w_Main_entry_54 {rod : Nat → Nat × (Nat → Int32)} {d : Nat} {Q : Option MV → MH → Prop} {u0 : Option MV} {u1 : Option MV} {u2 : Option MV} {u3 : Option MV} {u4 : Option MV} {xs0 : Int32} {h : MH}   (k : Wb rod d B_Main_entry 59 [u0, u1, u2, u3, u4] [.inl xs0] h Q) : Wb rod d B_Main_entry 54 [u0, u1, u2, u3, u4] [.inl xs0] h Q := by
  refine Wb.go (fun r hr q => b_Main_entry_54 ?_) k
  (first | exact q | (simp only [Option.getD_some]; exact q))
theorem w_Main_entry_57 {rod : Nat → Nat × (Nat → Int32)} {d : Nat} {Q : Option MV → MH → Prop} {u0 : Option MV} {u1 : Option MV} {u2 : Option MV} {u3 : Option MV} {u4 : Option MV} {h : MH}   (k : Wb rod d B_Main_entry 59 [u0, u1, u2, u3, u4] [.inl (-2 : Int32)] h Q) : Wb rod d B_Main_entry 57 [u0, u1, u2, u3, u4] [] h Q := by
  refine Wb.go (fun r hr q => b_Main_entry_57 ?_) k
  (first | exact q | (simp only [Option.getD_some]; exact q))
theorem w_Main_entry_59 {rod : Nat → Nat × (Nat → Int32)} {d : Nat} {Q : Option MV → MH → Prop} {u0 : Option MV} {u1 : Option MV} {u2 : Option MV} {u3 : Option MV} {u4 : Option MV} {xs0 : Int32} {h : MH}   (q : Q (some (.inl xs0)) h) : Wb rod d B_Main_entry 59 [u0, u1, u2, u3, u4] [.inl xs0] h Q := by
  refine Wb.ret (b_Main_entry_59) ?_
  (first | exact q | (simp only [Option.getD_some]; exact q))
theorem n_Ledger_hasEntry {rod : Nat → Nat × (Nat → Int32)} {d : Nat} {Q : Option MV → MH → Prop} {a0 : Nat} {x1 : Int32} {h : MH} (k : Wb rod d B_Ledger_hasEntry 0 [some (.inr (.inr (.inl (some a0)))), some (.inl x1)] [] h Q) : Wc rod (d + 1) 117 [.inr (.inr (.inl (some a0))), .inl x1] h Q := Wc.en (fun _ _ => e_Ledger_hasEntry) k
theorem w_Ledger_hasEntry_0 {rod : Nat → Nat × (Nat → Int32)} {d : Nat} {Q : Option MV → MH → Prop} {u0 : Option MV} {x1 : Int32} {h : MH}   (k1 : x1.toInt < 0 → Wb rod d B_Ledger_hasEntry 16 [u0, some (.inl x1)] [] h Q) (k2 : ¬ x1.toInt < 0 → Wb rod d B_Ledger_hasEntry 4 [u0, some (.inl x1)] [] h Q) : Wb rod d B_Ledger_hasEntry 0 [u0, some (.inl x1)] [] h Q := by
  refine Wb.br (fun _ _ => b_Ledger_hasEntry_0) (fun c => ?_) (fun c => ?_)
  · have c : (decide (x1 < 0)) = true := by first | exact c | (simp only [Option.getD_some] at c; exact c)
    (first | exact (k1 (c_ltt c)) | (simp only [Option.getD_some]; exact (k1 (c_ltt c))))
  · have c : (decide (x1 < 0)) = false := by first | exact c | (simp only [Option.getD_some] at c; exact c)
    (first | exact (k2 (c_ltf c)) | (simp only [Option.getD_some]; exact (k2 (c_ltf c))))
theorem w_Ledger_hasEntry_4 {rod : Nat → Nat × (Nat → Int32)} {d : Nat} {Q : Option MV → MH → Prop} {a0 : Nat} {x1 : Int32} {h : MH} (A0 : LedgerA h.2 a0)  (k1 : (h.1 a0 0).toInt ≤ x1.toInt → Wb rod d B_Ledger_hasEntry 16 [some (.inr (.inr (.inl (some a0)))), some (.inl x1)] [] h Q) (k2 : ¬ (h.1 a0 0).toInt ≤ x1.toInt → Wb rod d B_Ledger_hasEntry 12 [some (.inr (.inr (.inl (some a0)))), some (.inl x1)] [] h Q) : Wb rod d B_Ledger_hasEntry 4 [some (.inr (.inr (.inl (some a0)))), some (.inl x1)] [] h Q := by
  refine Wb.br (fun _ _ => b_Ledger_hasEntry_4 (A0.o)) (fun c => ?_) (fun c => ?_)
  · have c : (decide ((h.1 a0 0) ≤ x1)) = true := by first | exact c | (simp only [Option.getD_some] at c; exact c)
    (first | exact (k1 (c_let c)) | (simp only [Option.getD_some]; exact (k1 (c_let c))))
  · have c : (decide ((h.1 a0 0) ≤ x1)) = false := by first | exact c | (simp only [Option.getD_some] at c; exact c)
    (first | exact (k2 (c_lef c)) | (simp only [Option.getD_some]; exact (k2 (c_lef c))))
theorem w_Ledger_hasEntry_12 {rod : Nat → Nat × (Nat → Int32)} {d : Nat} {Q : Option MV → MH → Prop} {u0 : Option MV} {u1 : Option MV} {h : MH}   (k : Wb rod d B_Ledger_hasEntry 17 [u0, u1] [.inl (1 : Int32)] h Q) : Wb rod d B_Ledger_hasEntry 12 [u0, u1] [] h Q := by
  refine Wb.go (fun r hr q => b_Ledger_hasEntry_12 ?_) k
  (first | exact q | (simp only [Option.getD_some]; exact q))
theorem w_Ledger_hasEntry_16 {rod : Nat → Nat × (Nat → Int32)} {d : Nat} {Q : Option MV → MH → Prop} {u0 : Option MV} {u1 : Option MV} {h : MH}   (k : Wb rod d B_Ledger_hasEntry 17 [u0, u1] [.inl (0 : Int32)] h Q) : Wb rod d B_Ledger_hasEntry 16 [u0, u1] [] h Q := by
  refine Wb.go (fun r hr q => b_Ledger_hasEntry_16 ?_) k
  (first | exact q | (simp only [Option.getD_some]; exact q))
theorem w_Ledger_hasEntry_17 {rod : Nat → Nat × (Nat → Int32)} {d : Nat} {Q : Option MV → MH → Prop} {u0 : Option MV} {u1 : Option MV} {xs0 : Int32} {h : MH}  (g0 : xs0 = 0 ∨ xs0 = 1) (q : Q (some (.inl xs0)) h) : Wb rod d B_Ledger_hasEntry 17 [u0, u1] [.inl xs0] h Q := by
  refine Wb.ret (b_Ledger_hasEntry_17 (d01 g0)) ?_
  (first | exact q | (simp only [Option.getD_some]; exact q))
theorem n_Ledger_toldOf {rod : Nat → Nat × (Nat → Int32)} {d : Nat} {Q : Option MV → MH → Prop} {a0 : Nat} {x1 : Int32} {x2 : Int32} {h : MH} (k : Wb rod d B_Ledger_toldOf 0 [some (.inr (.inr (.inl (some a0)))), some (.inl x1), some (.inl x2), none] [] h Q) : Wc rod (d + 1) 118 [.inr (.inr (.inl (some a0))), .inl x1, .inl x2] h Q := Wc.en (fun _ _ => e_Ledger_toldOf) k
theorem w_Ledger_toldOf_0 {rod : Nat → Nat × (Nat → Int32)} {d : Nat} {Q : Option MV → MH → Prop} {a0 : Nat} {x1 : Int32} {u2 : Option MV} {u3 : Option MV} {h : MH} (A0 : LedgerA h.2 a0)  {Q1 : Option MV → MH → Prop} (c : Wc rod d 117 [.inr (.inr (.inl (some a0))), .inl x1] h Q1) (k : ∀ r1 h2, Q1 r1 h2 → Wb rod d B_Ledger_toldOf 5 [some (.inr (.inr (.inl (some a0)))), some (.inl x1), u2, u3] (r1.toList ++ []) h2 Q) : Wb rod d B_Ledger_toldOf 0 [some (.inr (.inr (.inl (some a0)))), some (.inl x1), u2, u3] [] h Q := by
  refine Wb.call (fun _ _ _ _ => b_Ledger_toldOf_0 (A0.o)) (Q1 := Q1) ?_ ?_
  · (first | exact c | (simp only [Option.getD_some]; exact c))
  · (first | exact k | (simp only [Option.getD_some]; exact k))
theorem w_Ledger_toldOf_5 {rod : Nat → Nat × (Nat → Int32)} {d : Nat} {Q : Option MV → MH → Prop} {u0 : Option MV} {u1 : Option MV} {u2 : Option MV} {u3 : Option MV} {xs0 : Int32} {h : MH}   (k1 : xs0.toInt = 0 → Wb rod d B_Ledger_toldOf 17 [u0, u1, u2, u3] [] h Q) (k2 : ¬ xs0.toInt = 0 → Wb rod d B_Ledger_toldOf 8 [u0, u1, u2, u3] [] h Q) : Wb rod d B_Ledger_toldOf 5 [u0, u1, u2, u3] [.inl xs0] h Q := by
  refine Wb.br (fun _ _ => b_Ledger_toldOf_5) (fun c => ?_) (fun c => ?_)
  · have c : (decide (xs0 = 0)) = true := by first | exact c | (simp only [Option.getD_some] at c; exact c)
    (first | exact (k1 (c_eqt c)) | (simp only [Option.getD_some]; exact (k1 (c_eqt c))))
  · have c : (decide (xs0 = 0)) = false := by first | exact c | (simp only [Option.getD_some] at c; exact c)
    (first | exact (k2 (c_eqf c)) | (simp only [Option.getD_some]; exact (k2 (c_eqf c))))
theorem w_Ledger_toldOf_8 {rod : Nat → Nat × (Nat → Int32)} {d : Nat} {Q : Option MV → MH → Prop} {u0 : Option MV} {u1 : Option MV} {x2 : Int32} {u3 : Option MV} {h : MH}   (k1 : x2.toInt < 0 → Wb rod d B_Ledger_toldOf 17 [u0, u1, some (.inl x2), u3] [] h Q) (k2 : ¬ x2.toInt < 0 → Wb rod d B_Ledger_toldOf 12 [u0, u1, some (.inl x2), u3] [] h Q) : Wb rod d B_Ledger_toldOf 8 [u0, u1, some (.inl x2), u3] [] h Q := by
  refine Wb.br (fun _ _ => b_Ledger_toldOf_8) (fun c => ?_) (fun c => ?_)
  · have c : (decide (x2 < 0)) = true := by first | exact c | (simp only [Option.getD_some] at c; exact c)
    (first | exact (k1 (c_ltt c)) | (simp only [Option.getD_some]; exact (k1 (c_ltt c))))
  · have c : (decide (x2 < 0)) = false := by first | exact c | (simp only [Option.getD_some] at c; exact c)
    (first | exact (k2 (c_ltf c)) | (simp only [Option.getD_some]; exact (k2 (c_ltf c))))
theorem w_Ledger_toldOf_12 {rod : Nat → Nat × (Nat → Int32)} {d : Nat} {Q : Option MV → MH → Prop} {u0 : Option MV} {u1 : Option MV} {x2 : Int32} {u3 : Option MV} {h : MH}   (k1 : x2.toInt ≤ 3 → Wb rod d B_Ledger_toldOf 20 [u0, u1, some (.inl x2), u3] [] h Q) (k2 : ¬ x2.toInt ≤ 3 → Wb rod d B_Ledger_toldOf 17 [u0, u1, some (.inl x2), u3] [] h Q) : Wb rod d B_Ledger_toldOf 12 [u0, u1, some (.inl x2), u3] [] h Q := by
  refine Wb.br (fun _ _ => b_Ledger_toldOf_12) (fun c => ?_) (fun c => ?_)
  · have c : (decide (x2 ≤ (3 : Int32))) = true := by first | exact c | (simp only [Option.getD_some] at c; exact c)
    (first | exact (k1 (c_let c)) | (simp only [Option.getD_some]; exact (k1 (c_let c))))
  · have c : (decide (x2 ≤ (3 : Int32))) = false := by first | exact c | (simp only [Option.getD_some] at c; exact c)
    (first | exact (k2 (c_lef c)) | (simp only [Option.getD_some]; exact (k2 (c_lef c))))
theorem w_Ledger_toldOf_17 {rod : Nat → Nat × (Nat → Int32)} {d : Nat} {Q : Option MV → MH → Prop} {u0 : Option MV} {u1 : Option MV} {u2 : Option MV} {u3 : Option MV} {h : MH}   (q : Q (some (.inl (-2 : Int32))) h) : Wb rod d B_Ledger_toldOf 17 [u0, u1, u2, u3] [] h Q := by
  refine Wb.ret (b_Ledger_toldOf_17) ?_
  (first | exact q | (simp only [Option.getD_some]; exact q))
theorem w_Ledger_toldOf_20 {rod : Nat → Nat × (Nat → Int32)} {d : Nat} {Q : Option MV → MH → Prop} {u0 : Option MV} {u1 : Option MV} {x2 : Int32} {u3 : Option MV} {h : MH}   (k1 : ¬ x2.toInt = 0 → Wb rod d B_Ledger_toldOf 31 [u0, u1, some (.inl x2), u3] [] h Q) (k2 : x2.toInt = 0 → Wb rod d B_Ledger_toldOf 24 [u0, u1, some (.inl x2), u3] [] h Q) : Wb rod d B_Ledger_toldOf 20 [u0, u1, some (.inl x2), u3] [] h Q := by
  refine Wb.br (fun _ _ => b_Ledger_toldOf_20) (fun c => ?_) (fun c => ?_)
  · have c : (!(decide (x2 = 0))) = true := by first | exact c | (simp only [Option.getD_some] at c; exact c)
    (first | exact (k1 (c_net c)) | (simp only [Option.getD_some]; exact (k1 (c_net c))))
  · have c : (!(decide (x2 = 0))) = false := by first | exact c | (simp only [Option.getD_some] at c; exact c)
    (first | exact (k2 (c_nef c)) | (simp only [Option.getD_some]; exact (k2 (c_nef c))))
theorem w_Ledger_toldOf_24 {rod : Nat → Nat × (Nat → Int32)} {d : Nat} {Q : Option MV → MH → Prop} {a0 : Nat} {x1 : Int32} {u2 : Option MV} {u3 : Option MV} {h : MH} (A0 : LedgerA h.2 a0) (g0 : 0 ≤ x1.toInt ∧ x1.toInt < 20) (q : Q (some (.inl (h.1 (a0 + 1) x1.toNatClampNeg))) h) : Wb rod d B_Ledger_toldOf 24 [some (.inr (.inr (.inl (some a0)))), some (.inl x1), u2, u3] [] h Q := by
  refine Wb.ret (b_Ledger_toldOf_24 (A0.o) (A0.a1 g0)) ?_
  (first | exact q | (simp only [Option.getD_some, A0.r1]; exact q))
theorem w_Ledger_toldOf_31 {rod : Nat → Nat × (Nat → Int32)} {d : Nat} {Q : Option MV → MH → Prop} {u0 : Option MV} {u1 : Option MV} {x2 : Int32} {u3 : Option MV} {h : MH}   (k1 : ¬ x2.toInt = 1 → Wb rod d B_Ledger_toldOf 43 [u0, u1, some (.inl x2), u3] [] h Q) (k2 : x2.toInt = 1 → Wb rod d B_Ledger_toldOf 36 [u0, u1, some (.inl x2), u3] [] h Q) : Wb rod d B_Ledger_toldOf 31 [u0, u1, some (.inl x2), u3] [] h Q := by
  refine Wb.br (fun _ _ => b_Ledger_toldOf_31) (fun c => ?_) (fun c => ?_)
  · have c : (!(decide (x2 = (1 : Int32)))) = true := by first | exact c | (simp only [Option.getD_some] at c; exact c)
    (first | exact (k1 (c_net c)) | (simp only [Option.getD_some]; exact (k1 (c_net c))))
  · have c : (!(decide (x2 = (1 : Int32)))) = false := by first | exact c | (simp only [Option.getD_some] at c; exact c)
    (first | exact (k2 (c_nef c)) | (simp only [Option.getD_some]; exact (k2 (c_nef c))))
theorem w_Ledger_toldOf_36 {rod : Nat → Nat × (Nat → Int32)} {d : Nat} {Q : Option MV → MH → Prop} {a0 : Nat} {x1 : Int32} {u2 : Option MV} {u3 : Option MV} {h : MH} (A0 : LedgerA h.2 a0) (g0 : 0 ≤ x1.toInt ∧ x1.toInt < 20) (q : Q (some (.inl (h.1 (a0 + 2) x1.toNatClampNeg))) h) : Wb rod d B_Ledger_toldOf 36 [some (.inr (.inr (.inl (some a0)))), some (.inl x1), u2, u3] [] h Q := by
  refine Wb.ret (b_Ledger_toldOf_36 (A0.o) (A0.a2 g0)) ?_
  (first | exact q | (simp only [Option.getD_some, A0.r2]; exact q))
theorem w_Ledger_toldOf_43 {rod : Nat → Nat × (Nat → Int32)} {d : Nat} {Q : Option MV → MH → Prop} {a0 : Nat} {x1 : Int32} {u2 : Option MV} {u3 : Option MV} {h : MH} (A0 : LedgerA h.2 a0) (g0 : 0 ≤ x1.toInt ∧ x1.toInt < 20) (k1 : (h.1 (a0 + 1) x1.toNatClampNeg).toInt = 2 → Wb rod d B_Ledger_toldOf 55 [some (.inr (.inr (.inl (some a0)))), some (.inl x1), u2, u3] [] h Q) (k2 : ¬ (h.1 (a0 + 1) x1.toNatClampNeg).toInt = 2 → Wb rod d B_Ledger_toldOf 53 [some (.inr (.inr (.inl (some a0)))), some (.inl x1), u2, u3] [] h Q) : Wb rod d B_Ledger_toldOf 43 [some (.inr (.inr (.inl (some a0)))), some (.inl x1), u2, u3] [] h Q := by
  refine Wb.br (fun _ _ => b_Ledger_toldOf_43 (A0.o) (A0.a1 g0)) (fun c => ?_) (fun c => ?_)
  · have c : (decide ((h.1 (a0 + 1) x1.toNatClampNeg) = (2 : Int32))) = true := by first | exact c | (simp only [Option.getD_some, A0.r1] at c; exact c)
    (first | exact (k1 (c_eqt c)) | (simp only [Option.getD_some, A0.r1]; exact (k1 (c_eqt c))))
  · have c : (decide ((h.1 (a0 + 1) x1.toNatClampNeg) = (2 : Int32))) = false := by first | exact c | (simp only [Option.getD_some, A0.r1] at c; exact c)
    (first | exact (k2 (c_eqf c)) | (simp only [Option.getD_some, A0.r1]; exact (k2 (c_eqf c))))
theorem w_Ledger_toldOf_53 {rod : Nat → Nat × (Nat → Int32)} {d : Nat} {Q : Option MV → MH → Prop} {u0 : Option MV} {u1 : Option MV} {u2 : Option MV} {u3 : Option MV} {h : MH}   (q : Q (some (.inl (-1 : Int32))) h) : Wb rod d B_Ledger_toldOf 53 [u0, u1, u2, u3] [] h Q := by
  refine Wb.ret (b_Ledger_toldOf_53) ?_
  (first | exact q | (simp only [Option.getD_some]; exact q))
theorem w_Ledger_toldOf_55 {rod : Nat → Nat × (Nat → Int32)} {d : Nat} {Q : Option MV → MH → Prop} {a0 : Nat} {x1 : Int32} {u2 : Option MV} {u3 : Option MV} {h : MH} (A0 : LedgerA h.2 a0)  {Q1 : Option MV → MH → Prop} (c : Wc rod d 119 [.inr (.inr (.inl (some a0))), .inl x1] h Q1) (k : ∀ r1 h2, Q1 r1 h2 → Wb rod d B_Ledger_toldOf 60 [some (.inr (.inr (.inl (some a0)))), some (.inl x1), u2, u3] (r1.toList ++ []) h2 Q) : Wb rod d B_Ledger_toldOf 55 [some (.inr (.inr (.inl (some a0)))), some (.inl x1), u2, u3] [] h Q := by
  refine Wb.call (fun _ _ _ _ => b_Ledger_toldOf_55 (A0.o)) (Q1 := Q1) ?_ ?_
  · (first | exact c | (simp only [Option.getD_some]; exact c))
  · (first | exact k | (simp only [Option.getD_some]; exact k))
theorem w_Ledger_toldOf_60 {rod : Nat → Nat × (Nat → Int32)} {d : Nat} {Q : Option MV → MH → Prop} {u0 : Option MV} {u1 : Option MV} {x2 : Int32} {u3 : Option MV} {xs0 : Int32} {h : MH}   (k1 : ¬ x2.toInt = 2 → Wb rod d B_Ledger_toldOf 71 [u0, u1, some (.inl x2), some (.inl xs0)] [.inl (0 : Int32)] h Q) (k2 : x2.toInt = 2 → Wb rod d B_Ledger_toldOf 67 [u0, u1, some (.inl x2), some (.inl xs0)] [.inl (0 : Int32)] h Q) : Wb rod d B_Ledger_toldOf 60 [u0, u1, some (.inl x2), u3] [.inl xs0] h Q := by
  refine Wb.br (fun _ _ => b_Ledger_toldOf_60) (fun c => ?_) (fun c => ?_)
  · have c : (!(decide (x2 = (2 : Int32)))) = true := by first | exact c | (simp only [Option.getD_some] at c; exact c)
    (first | exact (k1 (c_net c)) | (simp only [Option.getD_some]; exact (k1 (c_net c))))
  · have c : (!(decide (x2 = (2 : Int32)))) = false := by first | exact c | (simp only [Option.getD_some] at c; exact c)
    (first | exact (k2 (c_nef c)) | (simp only [Option.getD_some]; exact (k2 (c_nef c))))
theorem w_Ledger_toldOf_67 {rod : Nat → Nat × (Nat → Int32)} {d : Nat} {Q : Option MV → MH → Prop} {u0 : Option MV} {u1 : Option MV} {u2 : Option MV} {x3 : Int32} {xs0 : Int32} {h : MH}   (k : Wb rod d B_Ledger_toldOf 73 [u0, u1, u2, some (.inl x3)] [.inl x3, .inl xs0] h Q) : Wb rod d B_Ledger_toldOf 67 [u0, u1, u2, some (.inl x3)] [.inl xs0] h Q := by
  refine Wb.go (fun r hr q => b_Ledger_toldOf_67 ?_) k
  (first | exact q | (simp only [Option.getD_some]; exact q))
theorem w_Ledger_toldOf_71 {rod : Nat → Nat × (Nat → Int32)} {d : Nat} {Q : Option MV → MH → Prop} {u0 : Option MV} {u1 : Option MV} {u2 : Option MV} {x3 : Int32} {xs0 : Int32} {h : MH}   (k : Wb rod d B_Ledger_toldOf 73 [u0, u1, u2, some (.inl x3)] [.inl (-x3), .inl xs0] h Q) : Wb rod d B_Ledger_toldOf 71 [u0, u1, u2, some (.inl x3)] [.inl xs0] h Q := by
  refine Wb.go (fun r hr q => b_Ledger_toldOf_71 ?_) k
  (first | exact q | (simp only [Option.getD_some]; exact q))
theorem w_Ledger_toldOf_73 {rod : Nat → Nat × (Nat → Int32)} {d : Nat} {Q : Option MV → MH → Prop} {u0 : Option MV} {u1 : Option MV} {u2 : Option MV} {u3 : Option MV} {xs0 : Int32} {xs1 : Int32} {h : MH}   (q : Q (some (.inl (if xs0 < xs1 then xs1 else xs0))) h) : Wb rod d B_Ledger_toldOf 73 [u0, u1, u2, u3] [.inl xs1, .inl xs0] h Q := by
  refine Wb.ret (b_Ledger_toldOf_73) ?_
  (first | exact q | (simp only [Option.getD_some]; exact q))
theorem n_Ledger_missingAt {rod : Nat → Nat × (Nat → Int32)} {d : Nat} {Q : Option MV → MH → Prop} {a0 : Nat} {x1 : Int32} {h : MH} (k : Wb rod d B_Ledger_missingAt 0 [some (.inr (.inr (.inl (some a0)))), some (.inl x1), none, none] [] h Q) : Wc rod (d + 1) 119 [.inr (.inr (.inl (some a0))), .inl x1] h Q := Wc.en (fun _ _ => e_Ledger_missingAt) k
theorem w_Ledger_missingAt_0 {rod : Nat → Nat × (Nat → Int32)} {d : Nat} {Q : Option MV → MH → Prop} {u0 : Option MV} {u1 : Option MV} {u2 : Option MV} {u3 : Option MV} {h : MH}  (g0 : okl [u0, u1, u2, u3] 2 = true) (k : Wb rod d B_Ledger_missingAt 4 [u0, u1, some (.inl (0 : Int32)), some (.inl (0 : Int32))] [] h Q) : Wb rod d B_Ledger_missingAt 0 [u0, u1, u2, u3] [] h Q := by
  refine Wb.go (fun r hr q => b_Ledger_missingAt_0 g0 ?_) k
  (first | exact q | (simp only [Option.getD_some]; exact q))
theorem w_Ledger_missingAt_4 {rod : Nat → Nat × (Nat → Int32)} {d : Nat} {Q : Option MV → MH → Prop} {u0 : Option MV} {x1 : Int32} {u2 : Option MV} {x3 : Int32} {h : MH}   (k1 : x1.toInt ≤ x3.toInt → Wb rod d B_Ledger_missingAt 88 [u0, some (.inl x1), u2, some (.inl x3)] [] h Q) (k2 : ¬ x1.toInt ≤ x3.toInt → Wb rod d B_Ledger_missingAt 9 [u0, some (.inl x1), u2, some (.inl x3)] [] h Q) : Wb rod d B_Ledger_missingAt 4 [u0, some (.inl x1), u2, some (.inl x3)] [] h Q := by
  refine Wb.br (fun _ _ => b_Ledger_missingAt_4) (fun c => ?_) (fun c => ?_)
  · have c : (decide (x1 ≤ x3)) = true := by first | exact c | (simp only [Option.getD_some] at c; exact c)
    (first | exact (k1 (c_let c)) | (simp only [Option.getD_some]; exact (k1 (c_let c))))
  · have c : (decide (x1 ≤ x3)) = false := by first | exact c | (simp only [Option.getD_some] at c; exact c)
    (first | exact (k2 (c_lef c)) | (simp only [Option.getD_some]; exact (k2 (c_lef c))))
theorem w_Ledger_missingAt_9 {rod : Nat → Nat × (Nat → Int32)} {d : Nat} {Q : Option MV → MH → Prop} {a0 : Nat} {u1 : Option MV} {u2 : Option MV} {x3 : Int32} {h : MH} (A0 : LedgerA h.2 a0)  (k1 : (h.1 a0 0).toInt ≤ x3.toInt → Wb rod d B_Ledger_missingAt 88 [some (.inr (.inr (.inl (some a0)))), u1, u2, some (.inl x3)] [] h Q) (k2 : ¬ (h.1 a0 0).toInt ≤ x3.toInt → Wb rod d B_Ledger_missingAt 17 [some (.inr (.inr (.inl (some a0)))), u1, u2, some (.inl x3)] [] h Q) : Wb rod d B_Ledger_missingAt 9 [some (.inr (.inr (.inl (some a0)))), u1, u2, some (.inl x3)] [] h Q := by
  refine Wb.br (fun _ _ => b_Ledger_missingAt_9 (A0.o)) (fun c => ?_) (fun c => ?_)
  · have c : (decide ((h.1 a0 0) ≤ x3)) = true := by first | exact c | (simp only [Option.getD_some] at c; exact c)
    (first | exact (k1 (c_let c)) | (simp only [Option.getD_some]; exact (k1 (c_let c))))
  · have c : (decide ((h.1 a0 0) ≤ x3)) = false := by first | exact c | (simp only [Option.getD_some] at c; exact c)
    (first | exact (k2 (c_lef c)) | (simp only [Option.getD_some]; exact (k2 (c_lef c))))
theorem w_Ledger_missingAt_17 {rod : Nat → Nat × (Nat → Int32)} {d : Nat} {Q : Option MV → MH → Prop} {a0 : Nat} {u1 : Option MV} {u2 : Option MV} {x3 : Int32} {h : MH} (A0 : LedgerA h.2 a0) (g0 : 0 ≤ x3.toInt ∧ x3.toInt < 20) (k0 : (h.1 (a0 + 1) x3.toNatClampNeg).toInt = 0 → Wb rod d B_Ledger_missingAt 48 [some (.inr (.inr (.inl (some a0)))), u1, u2, some (.inl x3)] [] h Q) (k1 : (h.1 (a0 + 1) x3.toNatClampNeg).toInt = 1 → Wb rod d B_Ledger_missingAt 60 [some (.inr (.inr (.inl (some a0)))), u1, u2, some (.inl x3)] [] h Q) (k2 : (h.1 (a0 + 1) x3.toNatClampNeg).toInt = 2 → Wb rod d B_Ledger_missingAt 72 [some (.inr (.inr (.inl (some a0)))), u1, u2, some (.inl x3)] [] h Q) (kd : (h.1 (a0 + 1) x3.toNatClampNeg).toInt ≠ 0 → (h.1 (a0 + 1) x3.toNatClampNeg).toInt ≠ 1 → (h.1 (a0 + 1) x3.toNatClampNeg).toInt ≠ 2 → Wb rod d B_Ledger_missingAt 82 [some (.inr (.inr (.inl (some a0)))), u1, u2, some (.inl x3)] [] h Q) : Wb rod d B_Ledger_missingAt 17 [some (.inr (.inr (.inl (some a0)))), u1, u2, some (.inl x3)] [] h Q := by
  have key : Wb rod d B_Ledger_missingAt (tabT [25, 37, 49] 0 (h.1 (a0 + 1) x3.toNatClampNeg) 23 82) [some (.inr (.inr (.inl (some a0)))), u1, u2, some (.inl x3)] [] h Q := by
    by_cases e0 : (h.1 (a0 + 1) x3.toNatClampNeg) = Int32.ofInt 0
    · rw [show tabT [25, 37, 49] 0 (h.1 (a0 + 1) x3.toNatClampNeg) 23 82 = 48 from by rw [e0]; rfl]
      exact k0 (by rw [e0]; rfl)
    by_cases e1 : (h.1 (a0 + 1) x3.toNatClampNeg) = Int32.ofInt 1
    · rw [show tabT [25, 37, 49] 0 (h.1 (a0 + 1) x3.toNatClampNeg) 23 82 = 60 from by rw [e1]; rfl]
      exact k1 (by rw [e1]; rfl)
    by_cases e2 : (h.1 (a0 + 1) x3.toNatClampNeg) = Int32.ofInt 2
    · rw [show tabT [25, 37, 49] 0 (h.1 (a0 + 1) x3.toNatClampNeg) 23 82 = 72 from by rw [e2]; rfl]
      exact k2 (by rw [e2]; rfl)
    rw [show tabT [25, 37, 49] 0 (h.1 (a0 + 1) x3.toNatClampNeg) 23 82 = 82 from (if_neg e0).trans ((if_neg e1).trans ((if_neg e2).trans (rfl)))]
    exact kd (fun q => e0 (Int32.toInt_inj.mp q)) (fun q => e1 (Int32.toInt_inj.mp q)) (fun q => e2 (Int32.toInt_inj.mp q))
  refine Wb.go (fun r hr q => b_Ledger_missingAt_17 (A0.o) (A0.a1 g0) ?_) key
  (first | exact q | (simp only [Option.getD_some, A0.r1]; exact q))
theorem w_Ledger_missingAt_48 {rod : Nat → Nat × (Nat → Int32)} {d : Nat} {Q : Option MV → MH → Prop} {a0 : Nat} {u1 : Option MV} {x2 : Int32} {x3 : Int32} {h : MH} (A0 : LedgerA h.2 a0) (g0 : 0 ≤ x3.toInt ∧ x3.toInt < 20) (g1 : okl [some (.inr (.inr (.inl (some a0)))), u1, some (.inl x2), some (.inl x3)] 2 = true) (k : Wb rod d B_Ledger_missingAt 82 [some (.inr (.inr (.inl (some a0)))), u1, some (.inl (x2 + (h.1 (a0 + 2) x3.toNatClampNeg))), some (.inl x3)] [] h Q) : Wb rod d B_Ledger_missingAt 48 [some (.inr (.inr (.inl (some a0)))), u1, some (.inl x2), some (.inl x3)] [] h Q := by
  refine Wb.go (fun r hr q => b_Ledger_missingAt_48 (A0.o) (A0.a2 g0) g1 ?_) k
  (first | exact q | (simp only [Option.getD_some, A0.r2]; exact q))
theorem w_Ledger_missingAt_60 {rod : Nat → Nat × (Nat → Int32)} {d : Nat} {Q : Option MV → MH → Prop} {a0 : Nat} {u1 : Option MV} {x2 : Int32} {x3 : Int32} {h : MH} (A0 : LedgerA h.2 a0) (g0 : 0 ≤ x3.toInt ∧ x3.toInt < 20) (g1 : okl [some (.inr (.inr (.inl (some a0)))), u1, some (.inl x2), some (.inl x3)] 2 = true) (k : Wb rod d B_Ledger_missingAt 82 [some (.inr (.inr (.inl (some a0)))), u1, some (.inl (x2 - (h.1 (a0 + 2) x3.toNatClampNeg))), some (.inl x3)] [] h Q) : Wb rod d B_Ledger_missingAt 60 [some (.inr (.inr (.inl (some a0)))), u1, some (.inl x2), some (.inl x3)] [] h Q := by
  refine Wb.go (fun r hr q => b_Ledger_missingAt_60 (A0.o) (A0.a2 g0) g1 ?_) k
  (first | exact q | (simp only [Option.getD_some, A0.r2]; exact q))
theorem w_Ledger_missingAt_72 {rod : Nat → Nat × (Nat → Int32)} {d : Nat} {Q : Option MV → MH → Prop} {a0 : Nat} {u1 : Option MV} {u2 : Option MV} {x3 : Int32} {h : MH} (A0 : LedgerA h.2 a0) (g0 : 0 ≤ x3.toInt ∧ x3.toInt < 20) (g1 : okl [some (.inr (.inr (.inl (some a0)))), u1, u2, some (.inl x3)] 2 = true) (k : Wb rod d B_Ledger_missingAt 82 [some (.inr (.inr (.inl (some a0)))), u1, some (.inl (h.1 (a0 + 2) x3.toNatClampNeg)), some (.inl x3)] [] h Q) : Wb rod d B_Ledger_missingAt 72 [some (.inr (.inr (.inl (some a0)))), u1, u2, some (.inl x3)] [] h Q := by
  refine Wb.go (fun r hr q => b_Ledger_missingAt_72 (A0.o) (A0.a2 g0) g1 ?_) k
  (first | exact q | (simp only [Option.getD_some, A0.r2]; exact q))
theorem w_Ledger_missingAt_82 {rod : Nat → Nat × (Nat → Int32)} {d : Nat} {Q : Option MV → MH → Prop} {u0 : Option MV} {u1 : Option MV} {u2 : Option MV} {x3 : Int32} {h : MH}  (g0 : okl [u0, u1, u2, some (.inl x3)] 3 = true) (k : Wb rod d B_Ledger_missingAt 4 [u0, u1, u2, some (.inl (x3 + 1))] [] h Q) : Wb rod d B_Ledger_missingAt 82 [u0, u1, u2, some (.inl x3)] [] h Q := by
  refine Wb.go (fun r hr q => b_Ledger_missingAt_82 g0 ?_) k
  (first | exact q | (simp only [Option.getD_some]; exact q))
theorem w_Ledger_missingAt_88 {rod : Nat → Nat × (Nat → Int32)} {d : Nat} {Q : Option MV → MH → Prop} {a0 : Nat} {x1 : Int32} {u2 : Option MV} {u3 : Option MV} {h : MH} (A0 : LedgerA h.2 a0)  {Q1 : Option MV → MH → Prop} (c : Wc rod d 117 [.inr (.inr (.inl (some a0))), .inl x1] h Q1) (k : ∀ r1 h2, Q1 r1 h2 → Wb rod d B_Ledger_missingAt 93 [some (.inr (.inr (.inl (some a0)))), some (.inl x1), u2, u3] (r1.toList ++ []) h2 Q) : Wb rod d B_Ledger_missingAt 88 [some (.inr (.inr (.inl (some a0)))), some (.inl x1), u2, u3] [] h Q := by
  refine Wb.call (fun _ _ _ _ => b_Ledger_missingAt_88 (A0.o)) (Q1 := Q1) ?_ ?_
  · (first | exact c | (simp only [Option.getD_some]; exact c))
  · (first | exact k | (simp only [Option.getD_some]; exact k))
theorem w_Ledger_missingAt_93 {rod : Nat → Nat × (Nat → Int32)} {d : Nat} {Q : Option MV → MH → Prop} {u0 : Option MV} {u1 : Option MV} {u2 : Option MV} {u3 : Option MV} {xs0 : Int32} {h : MH}   (k1 : xs0.toInt = 0 → Wb rod d B_Ledger_missingAt 107 [u0, u1, u2, u3] [] h Q) (k2 : ¬ xs0.toInt = 0 → Wb rod d B_Ledger_missingAt 96 [u0, u1, u2, u3] [] h Q) : Wb rod d B_Ledger_missingAt 93 [u0, u1, u2, u3] [.inl xs0] h Q := by
  refine Wb.br (fun _ _ => b_Ledger_missingAt_93) (fun c => ?_) (fun c => ?_)
  · have c : (decide (xs0 = 0)) = true := by first | exact c | (simp only [Option.getD_some] at c; exact c)
    (first | exact (k1 (c_eqt c)) | (simp only [Option.getD_some]; exact (k1 (c_eqt c))))
  · have c : (decide (xs0 = 0)) = false := by first | exact c | (simp only [Option.getD_some] at c; exact c)
    (first | exact (k2 (c_eqf c)) | (simp only [Option.getD_some]; exact (k2 (c_eqf c))))
theorem w_Ledger_missingAt_96 {rod : Nat → Nat × (Nat → Int32)} {d : Nat} {Q : Option MV → MH → Prop} {a0 : Nat} {x1 : Int32} {x2 : Int32} {u3 : Option MV} {h : MH} (A0 : LedgerA h.2 a0) (g0 : 0 ≤ x1.toInt ∧ x1.toInt < 20) (k : Wb rod d B_Ledger_missingAt 108 [some (.inr (.inr (.inl (some a0)))), some (.inl x1), some (.inl x2), u3] [.inl (x2 - (h.1 (a0 + 2) x1.toNatClampNeg))] h Q) : Wb rod d B_Ledger_missingAt 96 [some (.inr (.inr (.inl (some a0)))), some (.inl x1), some (.inl x2), u3] [] h Q := by
  refine Wb.go (fun r hr q => b_Ledger_missingAt_96 (A0.o) (A0.a2 g0) ?_) k
  (first | exact q | (simp only [Option.getD_some, A0.r2]; exact q))
theorem w_Ledger_missingAt_107 {rod : Nat → Nat × (Nat → Int32)} {d : Nat} {Q : Option MV → MH → Prop} {u0 : Option MV} {u1 : Option MV} {u2 : Option MV} {u3 : Option MV} {h : MH}   (k : Wb rod d B_Ledger_missingAt 108 [u0, u1, u2, u3] [.inl (0 : Int32)] h Q) : Wb rod d B_Ledger_missingAt 107 [u0, u1, u2, u3] [] h Q := by
  refine Wb.go (fun r hr q => b_Ledger_missingAt_107 ?_) k
  (first | exact q | (simp only [Option.getD_some]; exact q))
theorem w_Ledger_missingAt_108 {rod : Nat → Nat × (Nat → Int32)} {d : Nat} {Q : Option MV → MH → Prop} {u0 : Option MV} {u1 : Option MV} {u2 : Option MV} {u3 : Option MV} {xs0 : Int32} {h : MH}   (q : Q (some (.inl xs0)) h) : Wb rod d B_Ledger_missingAt 108 [u0, u1, u2, u3] [.inl xs0] h Q := by
  refine Wb.ret (b_Ledger_missingAt_108) ?_
  (first | exact q | (simp only [Option.getD_some]; exact q))
