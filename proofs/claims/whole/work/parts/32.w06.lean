/-! RULES OF BLOCKS over postconditions, references resolved (6) -/
theorem n_Walk_drawSin {rod : Nat → Nat × (Nat → Int32)} {d : Nat} {Q : Option MV → MH → Prop} {a1 : Nat} {h : MH} (k : Wb rod d B_Walk_drawSin 0 [some (.inr (.inr (.inl (some 65)))), some (.inr (.inr (.inl (some a1)))), none] [] h Q) : Wc rod (d + 1) 149 [.inr (.inr (.inl (some 65))), .inr (.inr (.inl (some a1)))] h Q := Wc.en (fun _ _ => e_Walk_drawSin) k
theorem w_Walk_drawSin_0 {rod : Nat → Nat × (Nat → Int32)} {d : Nat} {Q : Option MV → MH → Prop} {u0 : Option MV} {a1 : Nat} {u2 : Option MV} {h : MH} (A1 : LandA h.2 a1)  (k1 : ¬ (h.1 a1 4).toInt = 0 → Wb rod d B_Walk_drawSin 8 [u0, some (.inr (.inr (.inl (some a1)))), u2] [] h Q) (k2 : (h.1 a1 4).toInt = 0 → Wb rod d B_Walk_drawSin 7 [u0, some (.inr (.inr (.inl (some a1)))), u2] [] h Q) : Wb rod d B_Walk_drawSin 0 [u0, some (.inr (.inr (.inl (some a1)))), u2] [] h Q := by
  refine Wb.br (fun _ _ => b_Walk_drawSin_0 (A1.o)) (fun c => ?_) (fun c => ?_)
  · have c : (!(decide ((h.1 a1 4) = 0))) = true := by first | exact c | (simp only [Option.getD_some] at c; exact c)
    (first | exact (k1 (c_net c)) | (simp only [Option.getD_some]; exact (k1 (c_net c))))
  · have c : (!(decide ((h.1 a1 4) = 0))) = false := by first | exact c | (simp only [Option.getD_some] at c; exact c)
    (first | exact (k2 (c_nef c)) | (simp only [Option.getD_some]; exact (k2 (c_nef c))))
theorem w_Walk_drawSin_7 {rod : Nat → Nat × (Nat → Int32)} {d : Nat} {Q : Option MV → MH → Prop} {u0 : Option MV} {u1 : Option MV} {u2 : Option MV} {h : MH}   (q : Q (none) h) : Wb rod d B_Walk_drawSin 7 [u0, u1, u2] [] h Q := by
  refine Wb.ret (b_Walk_drawSin_7) ?_
  (first | exact q | (simp only [Option.getD_some]; exact q))
theorem w_Walk_drawSin_8 {rod : Nat → Nat × (Nat → Int32)} {d : Nat} {Q : Option MV → MH → Prop} {a1 : Nat} {u2 : Option MV} {h : MH} (A1 : LandA h.2 a1) (L : Lay h.2)  {Q1 : Option MV → MH → Prop} (c : Wc rod d 148 [.inr (.inr (.inl (some 65))), .inl (h.1 a1 4)] h Q1) (k : ∀ r1 h2, Q1 r1 h2 → Wb rod d B_Walk_drawSin 16 [some (.inr (.inr (.inl (some 65)))), some (.inr (.inr (.inl (some a1)))), u2] (r1.toList ++ []) h2 Q) : Wb rod d B_Walk_drawSin 8 [some (.inr (.inr (.inl (some 65)))), some (.inr (.inr (.inl (some a1)))), u2] [] h Q := by
  refine Wb.call (fun _ _ _ _ => b_Walk_drawSin_8 (A1.o) (Lay.o65 L)) (Q1 := Q1) ?_ ?_
  · (first | exact c | (simp only [Option.getD_some]; exact c))
  · (first | exact k | (simp only [Option.getD_some]; exact k))
theorem w_Walk_drawSin_16 {rod : Nat → Nat × (Nat → Int32)} {d : Nat} {Q : Option MV → MH → Prop} {a1 : Nat} {u2 : Option MV} {xs0 : Int32} {h : MH} (L : Lay h.2)  {Q1 : Option MV → MH → Prop} (c : Wc rod d 148 [.inr (.inr (.inl (some 65))), .inl (9 : Int32)] h Q1) (k : ∀ r1 h2, Q1 r1 h2 → Wb rod d B_Walk_drawSin 27 [some (.inr (.inr (.inl (some 65)))), some (.inr (.inr (.inl (some a1)))), some (.inl xs0)] (r1.toList ++ [.inl (1 : Int32), .inl xs0, .inr (.inr (.inl (some a1))), .inr (.inr (.inl (some 65)))]) h2 Q) : Wb rod d B_Walk_drawSin 16 [some (.inr (.inr (.inl (some 65)))), some (.inr (.inr (.inl (some a1)))), u2] [.inl xs0] h Q := by
  refine Wb.call (fun _ _ _ _ => b_Walk_drawSin_16 (Lay.o65 L)) (Q1 := Q1) ?_ ?_
  · (first | exact c | (simp only [Option.getD_some]; exact c))
  · (first | exact k | (simp only [Option.getD_some]; exact k))
theorem w_Walk_drawSin_27 {rod : Nat → Nat × (Nat → Int32)} {d : Nat} {Q : Option MV → MH → Prop} {u0 : Option MV} {u1 : Option MV} {u2 : Option MV} {as1 : Nat} {xs2 : Int32} {xs3 : Int32} {xs4 : Int32} {h : MH} (L : Lay h.2)  {Q1 : Option MV → MH → Prop} (c : Wc rod d 83 [.inr (.inr (.inl (some 65))), .inr (.inr (.inl (some as1))), .inl xs2, .inl (xs3 + xs4)] h Q1) (k : ∀ r1 h2, Q1 r1 h2 → Wb rod d B_Walk_drawSin 31 [u0, u1, u2] (r1.toList ++ []) h2 Q) : Wb rod d B_Walk_drawSin 27 [u0, u1, u2] [.inl xs4, .inl xs3, .inl xs2, .inr (.inr (.inl (some as1))), .inr (.inr (.inl (some 65)))] h Q := by
  refine Wb.call (fun _ _ _ _ => b_Walk_drawSin_27 (Lay.o65 L)) (Q1 := Q1) ?_ ?_
  · (first | exact c | (simp only [Option.getD_some]; exact c))
  · (first | exact k | (simp only [Option.getD_some]; exact k))
theorem w_Walk_drawSin_31 {rod : Nat → Nat × (Nat → Int32)} {d : Nat} {Q : Option MV → MH → Prop} {u0 : Option MV} {u1 : Option MV} {u2 : Option MV} {xs0 : Int32} {h : MH}   (q : Q (none) h) : Wb rod d B_Walk_drawSin 31 [u0, u1, u2] [.inl xs0] h Q := by
  refine Wb.ret (b_Walk_drawSin_31) ?_
  (first | exact q | (simp only [Option.getD_some]; exact q))
theorem n_Walk_drawSale {rod : Nat → Nat × (Nat → Int32)} {d : Nat} {Q : Option MV → MH → Prop} {a1 : Nat} {h : MH} (k : Wb rod d B_Walk_drawSale 0 [some (.inr (.inr (.inl (some 65)))), some (.inr (.inr (.inl (some a1)))), none] [] h Q) : Wc rod (d + 1) 150 [.inr (.inr (.inl (some 65))), .inr (.inr (.inl (some a1)))] h Q := Wc.en (fun _ _ => e_Walk_drawSale) k
theorem w_Walk_drawSale_0 {rod : Nat → Nat × (Nat → Int32)} {d : Nat} {Q : Option MV → MH → Prop} {u0 : Option MV} {a1 : Nat} {u2 : Option MV} {h : MH} (A1 : LandA h.2 a1)  (k1 : ¬ (h.1 a1 4).toInt = 0 → Wb rod d B_Walk_drawSale 8 [u0, some (.inr (.inr (.inl (some a1)))), u2] [] h Q) (k2 : (h.1 a1 4).toInt = 0 → Wb rod d B_Walk_drawSale 7 [u0, some (.inr (.inr (.inl (some a1)))), u2] [] h Q) : Wb rod d B_Walk_drawSale 0 [u0, some (.inr (.inr (.inl (some a1)))), u2] [] h Q := by
  refine Wb.br (fun _ _ => b_Walk_drawSale_0 (A1.o)) (fun c => ?_) (fun c => ?_)
  · have c : (!(decide ((h.1 a1 4) = 0))) = true := by first | exact c | (simp only [Option.getD_some] at c; exact c)
    (first | exact (k1 (c_net c)) | (simp only [Option.getD_some]; exact (k1 (c_net c))))
  · have c : (!(decide ((h.1 a1 4) = 0))) = false := by first | exact c | (simp only [Option.getD_some] at c; exact c)
    (first | exact (k2 (c_nef c)) | (simp only [Option.getD_some]; exact (k2 (c_nef c))))
theorem w_Walk_drawSale_7 {rod : Nat → Nat × (Nat → Int32)} {d : Nat} {Q : Option MV → MH → Prop} {u0 : Option MV} {u1 : Option MV} {u2 : Option MV} {h : MH}   (q : Q (none) h) : Wb rod d B_Walk_drawSale 7 [u0, u1, u2] [] h Q := by
  refine Wb.ret (b_Walk_drawSale_7) ?_
  (first | exact q | (simp only [Option.getD_some]; exact q))
theorem w_Walk_drawSale_8 {rod : Nat → Nat × (Nat → Int32)} {d : Nat} {Q : Option MV → MH → Prop} {a1 : Nat} {u2 : Option MV} {h : MH} (A1 : LandA h.2 a1) (L : Lay h.2)  {Q1 : Option MV → MH → Prop} (c : Wc rod d 148 [.inr (.inr (.inl (some 65))), .inl (h.1 a1 4)] h Q1) (k : ∀ r1 h2, Q1 r1 h2 → Wb rod d B_Walk_drawSale 16 [some (.inr (.inr (.inl (some 65)))), some (.inr (.inr (.inl (some a1)))), u2] (r1.toList ++ []) h2 Q) : Wb rod d B_Walk_drawSale 8 [some (.inr (.inr (.inl (some 65)))), some (.inr (.inr (.inl (some a1)))), u2] [] h Q := by
  refine Wb.call (fun _ _ _ _ => b_Walk_drawSale_8 (A1.o) (Lay.o65 L)) (Q1 := Q1) ?_ ?_
  · (first | exact c | (simp only [Option.getD_some]; exact c))
  · (first | exact k | (simp only [Option.getD_some]; exact k))
theorem w_Walk_drawSale_16 {rod : Nat → Nat × (Nat → Int32)} {d : Nat} {Q : Option MV → MH → Prop} {u0 : Option MV} {a1 : Nat} {u2 : Option MV} {xs0 : Int32} {h : MH} (A1 : LandA h.2 a1)  (k1 : ¬ (h.1 a1 5).toInt = 0 → Wb rod d B_Walk_drawSale 25 [u0, some (.inr (.inr (.inl (some a1)))), some (.inl xs0)] [] h Q) (k2 : (h.1 a1 5).toInt = 0 → Wb rod d B_Walk_drawSale 24 [u0, some (.inr (.inr (.inl (some a1)))), some (.inl xs0)] [] h Q) : Wb rod d B_Walk_drawSale 16 [u0, some (.inr (.inr (.inl (some a1)))), u2] [.inl xs0] h Q := by
  refine Wb.br (fun _ _ => b_Walk_drawSale_16 (A1.o)) (fun c => ?_) (fun c => ?_)
  · have c : (!(decide ((h.1 a1 5) = 0))) = true := by first | exact c | (simp only [Option.getD_some] at c; exact c)
    (first | exact (k1 (c_net c)) | (simp only [Option.getD_some]; exact (k1 (c_net c))))
  · have c : (!(decide ((h.1 a1 5) = 0))) = false := by first | exact c | (simp only [Option.getD_some] at c; exact c)
    (first | exact (k2 (c_nef c)) | (simp only [Option.getD_some]; exact (k2 (c_nef c))))
theorem w_Walk_drawSale_24 {rod : Nat → Nat × (Nat → Int32)} {d : Nat} {Q : Option MV → MH → Prop} {u0 : Option MV} {u1 : Option MV} {u2 : Option MV} {h : MH}   (q : Q (none) h) : Wb rod d B_Walk_drawSale 24 [u0, u1, u2] [] h Q := by
  refine Wb.ret (b_Walk_drawSale_24) ?_
  (first | exact q | (simp only [Option.getD_some]; exact q))
theorem w_Walk_drawSale_25 {rod : Nat → Nat × (Nat → Int32)} {d : Nat} {Q : Option MV → MH → Prop} {a1 : Nat} {x2 : Int32} {h : MH} (A1 : LandA h.2 a1) (L : Lay h.2)  {Q1 : Option MV → MH → Prop} (c : Wc rod d 148 [.inr (.inr (.inl (some 65))), .inl (h.1 a1 5)] h Q1) (k : ∀ r1 h2, Q1 r1 h2 → Wb rod d B_Walk_drawSale 36 [some (.inr (.inr (.inl (some 65)))), some (.inr (.inr (.inl (some a1)))), some (.inl x2)] (r1.toList ++ [.inl x2, .inr (.inr (.inl (some a1))), .inr (.inr (.inl (some 65)))]) h2 Q) : Wb rod d B_Walk_drawSale 25 [some (.inr (.inr (.inl (some 65)))), some (.inr (.inr (.inl (some a1)))), some (.inl x2)] [] h Q := by
  refine Wb.call (fun _ _ _ _ => b_Walk_drawSale_25 (A1.o) (Lay.o65 L)) (Q1 := Q1) ?_ ?_
  · (first | exact c | (simp only [Option.getD_some]; exact c))
  · (first | exact k | (simp only [Option.getD_some]; exact k))
theorem w_Walk_drawSale_36 {rod : Nat → Nat × (Nat → Int32)} {d : Nat} {Q : Option MV → MH → Prop} {u0 : Option MV} {u1 : Option MV} {u2 : Option MV} {as1 : Nat} {xs2 : Int32} {xs3 : Int32} {h : MH} (L : Lay h.2)  {Q1 : Option MV → MH → Prop} (c : Wc rod d 80 [.inr (.inr (.inl (some 65))), .inr (.inr (.inl (some as1))), .inl xs2, .inl xs3] h Q1) (k : ∀ r1 h2, Q1 r1 h2 → Wb rod d B_Walk_drawSale 39 [u0, u1, u2] (r1.toList ++ []) h2 Q) : Wb rod d B_Walk_drawSale 36 [u0, u1, u2] [.inl xs3, .inl xs2, .inr (.inr (.inl (some as1))), .inr (.inr (.inl (some 65)))] h Q := by
  refine Wb.call (fun _ _ _ _ => b_Walk_drawSale_36 (Lay.o65 L)) (Q1 := Q1) ?_ ?_
  · (first | exact c | (simp only [Option.getD_some]; exact c))
  · (first | exact k | (simp only [Option.getD_some]; exact k))
theorem w_Walk_drawSale_39 {rod : Nat → Nat × (Nat → Int32)} {d : Nat} {Q : Option MV → MH → Prop} {u0 : Option MV} {u1 : Option MV} {u2 : Option MV} {xs0 : Int32} {h : MH}   (q : Q (none) h) : Wb rod d B_Walk_drawSale 39 [u0, u1, u2] [.inl xs0] h Q := by
  refine Wb.ret (b_Walk_drawSale_39) ?_
  (first | exact q | (simp only [Option.getD_some]; exact q))
theorem n_Main_border {rod : Nat → Nat × (Nat → Int32)} {d : Nat} {Q : Option MV → MH → Prop} {x1 : Int32} {x2 : Int32} {x3 : Int32} {x4 : Int32} {h : MH} (k : Wb rod d B_Main_border 0 [some (.inr (.inr (.inl (some 0)))), some (.inl x1), some (.inl x2), some (.inl x3), some (.inl x4), none, none, none, none, none, none] [] h Q) : Wc rod (d + 1) 151 [.inr (.inr (.inl (some 0))), .inl x1, .inl x2, .inl x3, .inl x4] h Q := Wc.en (fun _ _ => e_Main_border) k
theorem w_Main_border_0 {rod : Nat → Nat × (Nat → Int32)} {d : Nat} {Q : Option MV → MH → Prop} {x1 : Int32} {u2 : Option MV} {u3 : Option MV} {u4 : Option MV} {u5 : Option MV} {u6 : Option MV} {u7 : Option MV} {u8 : Option MV} {u9 : Option MV} {u10 : Option MV} {h : MH} (L : Lay h.2)  {Q1 : Option MV → MH → Prop} (c : Wc rod d 61 [.inr (.inr (.inl (some 1))), .inl x1] h Q1) (k : ∀ r1 h2, Q1 r1 h2 → Wb rod d B_Main_border 8 [some (.inr (.inr (.inl (some 0)))), some (.inl x1), u2, u3, u4, u5, u6, u7, u8, u9, u10] (r1.toList ++ []) h2 Q) : Wb rod d B_Main_border 0 [some (.inr (.inr (.inl (some 0)))), some (.inl x1), u2, u3, u4, u5, u6, u7, u8, u9, u10] [] h Q := by
  refine Wb.call (fun _ _ _ _ => b_Main_border_0 (Lay.o0 L) (Lay.k0_0 L)) (Q1 := Q1) ?_ ?_
  · (first | exact c | (simp only [Option.getD_some, (Lay.r0_0 L)]; exact c))
  · (first | exact k | (simp only [Option.getD_some, (Lay.r0_0 L)]; exact k))
theorem w_Main_border_8 {rod : Nat → Nat × (Nat → Int32)} {d : Nat} {Q : Option MV → MH → Prop} {u0 : Option MV} {u1 : Option MV} {u2 : Option MV} {u3 : Option MV} {u4 : Option MV} {u5 : Option MV} {u6 : Option MV} {u7 : Option MV} {u8 : Option MV} {u9 : Option MV} {u10 : Option MV} {os0 : Option Nat} {h : MH}  (g0 : okl [u0, u1, u2, u3, u4, u5, u6, u7, u8, u9, u10] 5 = true) (k1 : os0 = none → Wb rod d B_Main_border 34 [u0, u1, u2, u3, u4, some (.inr (.inr (.inl os0))), u6, u7, u8, u9, u10] [] h Q) (k2 : ∀ v, os0 = some v → Wb rod d B_Main_border 15 [u0, u1, u2, u3, u4, some (.inr (.inr (.inl os0))), u6, u7, u8, u9, u10] [] h Q) : Wb rod d B_Main_border 8 [u0, u1, u2, u3, u4, u5, u6, u7, u8, u9, u10] [.inr (.inr (.inl os0))] h Q := by
  cases os0 with
  | none =>
    refine Wb.br (fun _ _ => b_Main_border_8 g0) (fun c => ?_) (fun c => ?_)
    · exact k1 rfl
    · simp at c
  | some v =>
    refine Wb.br (fun _ _ => b_Main_border_8 g0) (fun c => ?_) (fun c => ?_)
    · simp at c
    · exact k2 v rfl
theorem w_Main_border_15 {rod : Nat → Nat × (Nat → Int32)} {d : Nat} {Q : Option MV → MH → Prop} {u0 : Option MV} {u1 : Option MV} {x2 : Int32} {x3 : Int32} {u4 : Option MV} {a5 : Nat} {u6 : Option MV} {u7 : Option MV} {u8 : Option MV} {u9 : Option MV} {u10 : Option MV} {h : MH}   {Q1 : Option MV → MH → Prop} (c : Wc rod d 102 [.inr (.inr (.inl (some a5))), .inl x2, .inl x3] h Q1) (k : ∀ r1 h2, Q1 r1 h2 → Wb rod d B_Main_border 22 [u0, u1, some (.inl x2), some (.inl x3), u4, some (.inr (.inr (.inl (some a5)))), u6, u7, u8, u9, u10] (r1.toList ++ []) h2 Q) : Wb rod d B_Main_border 15 [u0, u1, some (.inl x2), some (.inl x3), u4, some (.inr (.inr (.inl (some a5)))), u6, u7, u8, u9, u10] [] h Q := by
  refine Wb.call (fun _ _ _ _ => b_Main_border_15) (Q1 := Q1) ?_ ?_
  · (first | exact c | (simp only [Option.getD_some]; exact c))
  · (first | exact k | (simp only [Option.getD_some]; exact k))
theorem w_Main_border_22 {rod : Nat → Nat × (Nat → Int32)} {d : Nat} {Q : Option MV → MH → Prop} {u0 : Option MV} {u1 : Option MV} {u2 : Option MV} {u3 : Option MV} {u4 : Option MV} {u5 : Option MV} {u6 : Option MV} {u7 : Option MV} {u8 : Option MV} {u9 : Option MV} {u10 : Option MV} {xs0 : Int32} {h : MH}   (k1 : xs0.toInt = 0 → Wb rod d B_Main_border 34 [u0, u1, u2, u3, u4, u5, u6, u7, u8, u9, u10] [] h Q) (k2 : ¬ xs0.toInt = 0 → Wb rod d B_Main_border 25 [u0, u1, u2, u3, u4, u5, u6, u7, u8, u9, u10] [] h Q) : Wb rod d B_Main_border 22 [u0, u1, u2, u3, u4, u5, u6, u7, u8, u9, u10] [.inl xs0] h Q := by
  refine Wb.br (fun _ _ => b_Main_border_22) (fun c => ?_) (fun c => ?_)
  · have c : (decide (xs0 = 0)) = true := by first | exact c | (simp only [Option.getD_some] at c; exact c)
    (first | exact (k1 (c_eqt c)) | (simp only [Option.getD_some]; exact (k1 (c_eqt c))))
  · have c : (decide (xs0 = 0)) = false := by first | exact c | (simp only [Option.getD_some] at c; exact c)
    (first | exact (k2 (c_eqf c)) | (simp only [Option.getD_some]; exact (k2 (c_eqf c))))
theorem w_Main_border_25 {rod : Nat → Nat × (Nat → Int32)} {d : Nat} {Q : Option MV → MH → Prop} {u0 : Option MV} {u1 : Option MV} {u2 : Option MV} {u3 : Option MV} {u4 : Option MV} {a5 : Nat} {u6 : Option MV} {u7 : Option MV} {u8 : Option MV} {u9 : Option MV} {u10 : Option MV} {h : MH} (A5 : LandA h.2 a5)  (k1 : 2 ≤ (h.1 a5 0).toInt → Wb rod d B_Main_border 36 [u0, u1, u2, u3, u4, some (.inr (.inr (.inl (some a5)))), u6, u7, u8, u9, u10] [] h Q) (k2 : ¬ 2 ≤ (h.1 a5 0).toInt → Wb rod d B_Main_border 34 [u0, u1, u2, u3, u4, some (.inr (.inr (.inl (some a5)))), u6, u7, u8, u9, u10] [] h Q) : Wb rod d B_Main_border 25 [u0, u1, u2, u3, u4, some (.inr (.inr (.inl (some a5)))), u6, u7, u8, u9, u10] [] h Q := by
  refine Wb.br (fun _ _ => b_Main_border_25 (A5.o)) (fun c => ?_) (fun c => ?_)
  · have c : (decide ((2 : Int32) ≤ (h.1 a5 0))) = true := by first | exact c | (simp only [Option.getD_some] at c; exact c)
    (first | exact (k1 (c_let c)) | (simp only [Option.getD_some]; exact (k1 (c_let c))))
  · have c : (decide ((2 : Int32) ≤ (h.1 a5 0))) = false := by first | exact c | (simp only [Option.getD_some] at c; exact c)
    (first | exact (k2 (c_lef c)) | (simp only [Option.getD_some]; exact (k2 (c_lef c))))
theorem w_Main_border_34 {rod : Nat → Nat × (Nat → Int32)} {d : Nat} {Q : Option MV → MH → Prop} {u0 : Option MV} {u1 : Option MV} {u2 : Option MV} {u3 : Option MV} {u4 : Option MV} {u5 : Option MV} {u6 : Option MV} {u7 : Option MV} {u8 : Option MV} {u9 : Option MV} {u10 : Option MV} {h : MH}   (q : Q (some (.inl (-1 : Int32))) h) : Wb rod d B_Main_border 34 [u0, u1, u2, u3, u4, u5, u6, u7, u8, u9, u10] [] h Q := by
  refine Wb.ret (b_Main_border_34) ?_
  (first | exact q | (simp only [Option.getD_some]; exact q))
theorem w_Main_border_36 {rod : Nat → Nat × (Nat → Int32)} {d : Nat} {Q : Option MV → MH → Prop} {u1 : Option MV} {x2 : Int32} {x3 : Int32} {u4 : Option MV} {a5 : Nat} {u6 : Option MV} {u7 : Option MV} {u8 : Option MV} {u9 : Option MV} {u10 : Option MV} {h : MH} (L : Lay h.2) (A5 : LandA h.2 a5)  {Q1 : Option MV → MH → Prop} (c : Wc rod d 103 [.inr (.inr (.inl (some 70))), .inr (.inr (.inl (some a5))), .inl (h.1 a5 3), .inl x2, .inl x3] h Q1) (k : ∀ r1 h2, Q1 r1 h2 → Wb rod d B_Main_border 52 [some (.inr (.inr (.inl (some 0)))), u1, some (.inl x2), some (.inl x3), u4, some (.inr (.inr (.inl (some a5)))), u6, u7, u8, u9, u10] (r1.toList ++ []) h2 Q) : Wb rod d B_Main_border 36 [some (.inr (.inr (.inl (some 0)))), u1, some (.inl x2), some (.inl x3), u4, some (.inr (.inr (.inl (some a5)))), u6, u7, u8, u9, u10] [] h Q := by
  refine Wb.call (fun _ _ _ _ => b_Main_border_36 (Lay.o0 L) (A5.o) (Lay.k0_4 L)) (Q1 := Q1) ?_ ?_
  · (first | exact c | (simp only [Option.getD_some, (Lay.r0_4 L)]; exact c))
  · (first | exact k | (simp only [Option.getD_some, (Lay.r0_4 L)]; exact k))
theorem w_Main_border_52 {rod : Nat → Nat × (Nat → Int32)} {d : Nat} {Q : Option MV → MH → Prop} {u0 : Option MV} {u1 : Option MV} {u2 : Option MV} {u3 : Option MV} {u4 : Option MV} {u5 : Option MV} {u6 : Option MV} {u7 : Option MV} {u8 : Option MV} {u9 : Option MV} {u10 : Option MV} {xs0 : Int32} {h : MH}  (g0 : okl [u0, u1, u2, u3, u4, u5, u6, u7, u8, u9, u10] 6 = true) (k : Wb rod d B_Main_border 66 [u0, u1, u2, u3, u4, u5, some (.inl xs0), some (.inl (xs0 + (1 : Int32))), some (.inl (-1 : Int32)), some (.inl (1 : Int32)), u10] [] h Q) : Wb rod d B_Main_border 52 [u0, u1, u2, u3, u4, u5, u6, u7, u8, u9, u10] [.inl xs0] h Q := by
  refine Wb.go (fun r hr q => b_Main_border_52 g0 ?_) k
  (first | exact q | (simp only [Option.getD_some]; exact q))
theorem w_Main_border_66 {rod : Nat → Nat × (Nat → Int32)} {d : Nat} {Q : Option MV → MH → Prop} {u0 : Option MV} {u1 : Option MV} {u2 : Option MV} {u3 : Option MV} {u4 : Option MV} {a5 : Nat} {u6 : Option MV} {u7 : Option MV} {u8 : Option MV} {x9 : Int32} {u10 : Option MV} {h : MH} (A5 : LandA h.2 a5)  (k1 : (h.1 a5 0).toInt ≤ x9.toInt → Wb rod d B_Main_border 120 [u0, u1, u2, u3, u4, some (.inr (.inr (.inl (some a5)))), u6, u7, u8, some (.inl x9), u10] [] h Q) (k2 : ¬ (h.1 a5 0).toInt ≤ x9.toInt → Wb rod d B_Main_border 76 [u0, u1, u2, u3, u4, some (.inr (.inr (.inl (some a5)))), u6, u7, u8, some (.inl x9), u10] [] h Q) : Wb rod d B_Main_border 66 [u0, u1, u2, u3, u4, some (.inr (.inr (.inl (some a5)))), u6, u7, u8, some (.inl x9), u10] [] h Q := by
  refine Wb.br (fun _ _ => b_Main_border_66 (A5.o)) (fun c => ?_) (fun c => ?_)
  · have c : (decide ((h.1 a5 0) ≤ x9)) = true := by first | exact c | (simp only [Option.getD_some] at c; exact c)
    (first | exact (k1 (c_let c)) | (simp only [Option.getD_some]; exact (k1 (c_let c))))
  · have c : (decide ((h.1 a5 0) ≤ x9)) = false := by first | exact c | (simp only [Option.getD_some] at c; exact c)
    (first | exact (k2 (c_lef c)) | (simp only [Option.getD_some]; exact (k2 (c_lef c))))
theorem w_Main_border_76 {rod : Nat → Nat × (Nat → Int32)} {d : Nat} {Q : Option MV → MH → Prop} {u1 : Option MV} {x2 : Int32} {x3 : Int32} {u4 : Option MV} {a5 : Nat} {u6 : Option MV} {u7 : Option MV} {u8 : Option MV} {x9 : Int32} {u10 : Option MV} {h : MH} (L : Lay h.2) (A5 : LandA h.2 a5)  {Q1 : Option MV → MH → Prop} (c : Wc rod d 103 [.inr (.inr (.inl (some 70))), .inr (.inr (.inl (some a5))), .inl ((h.1 a5 3) ||| ((1 : Int32) <<< (x9 &&& 31))), .inl x2, .inl x3] h Q1) (k : ∀ r1 h2, Q1 r1 h2 → Wb rod d B_Main_border 97 [some (.inr (.inr (.inl (some 0)))), u1, some (.inl x2), some (.inl x3), u4, some (.inr (.inr (.inl (some a5)))), u6, u7, u8, some (.inl x9), u10] (r1.toList ++ []) h2 Q) : Wb rod d B_Main_border 76 [some (.inr (.inr (.inl (some 0)))), u1, some (.inl x2), some (.inl x3), u4, some (.inr (.inr (.inl (some a5)))), u6, u7, u8, some (.inl x9), u10] [] h Q := by
  refine Wb.call (fun _ _ _ _ => b_Main_border_76 (Lay.o0 L) (A5.o) (Lay.k0_4 L)) (Q1 := Q1) ?_ ?_
  · (first | exact c | (simp only [Option.getD_some, (Lay.r0_4 L)]; exact c))
  · (first | exact k | (simp only [Option.getD_some, (Lay.r0_4 L)]; exact k))
theorem w_Main_border_97 {rod : Nat → Nat × (Nat → Int32)} {d : Nat} {Q : Option MV → MH → Prop} {u0 : Option MV} {u1 : Option MV} {u2 : Option MV} {u3 : Option MV} {u4 : Option MV} {u5 : Option MV} {u6 : Option MV} {x7 : Int32} {u8 : Option MV} {u9 : Option MV} {u10 : Option MV} {xs0 : Int32} {h : MH}  (g0 : okl [u0, u1, u2, u3, u4, u5, u6, some (.inl x7), u8, u9, u10] 10 = true) (k1 : x7.toInt ≤ xs0.toInt → Wb rod d B_Main_border 114 [u0, u1, u2, u3, u4, u5, u6, some (.inl x7), u8, u9, some (.inl xs0)] [] h Q) (k2 : ¬ x7.toInt ≤ xs0.toInt → Wb rod d B_Main_border 106 [u0, u1, u2, u3, u4, u5, u6, some (.inl x7), u8, u9, some (.inl xs0)] [] h Q) : Wb rod d B_Main_border 97 [u0, u1, u2, u3, u4, u5, u6, some (.inl x7), u8, u9, u10] [.inl xs0] h Q := by
  refine Wb.br (fun _ _ => b_Main_border_97 g0) (fun c => ?_) (fun c => ?_)
  · have c : (decide (x7 ≤ xs0)) = true := by first | exact c | (simp only [Option.getD_some] at c; exact c)
    (first | exact (k1 (c_let c)) | (simp only [Option.getD_some]; exact (k1 (c_let c))))
  · have c : (decide (x7 ≤ xs0)) = false := by first | exact c | (simp only [Option.getD_some] at c; exact c)
    (first | exact (k2 (c_lef c)) | (simp only [Option.getD_some]; exact (k2 (c_lef c))))
theorem w_Main_border_106 {rod : Nat → Nat × (Nat → Int32)} {d : Nat} {Q : Option MV → MH → Prop} {u0 : Option MV} {u1 : Option MV} {u2 : Option MV} {u3 : Option MV} {u4 : Option MV} {u5 : Option MV} {u6 : Option MV} {u7 : Option MV} {u8 : Option MV} {x9 : Int32} {x10 : Int32} {h : MH}  (g0 : okl [u0, u1, u2, u3, u4, u5, u6, u7, u8, some (.inl x9), some (.inl x10)] 7 = true) (k : Wb rod d B_Main_border 114 [u0, u1, u2, u3, u4, u5, u6, some (.inl x10), some (.inl x9), some (.inl x9), some (.inl x10)] [] h Q) : Wb rod d B_Main_border 106 [u0, u1, u2, u3, u4, u5, u6, u7, u8, some (.inl x9), some (.inl x10)] [] h Q := by
  refine Wb.go (fun r hr q => b_Main_border_106 g0 ?_) k
  (first | exact q | (simp only [Option.getD_some]; exact q))
theorem w_Main_border_114 {rod : Nat → Nat × (Nat → Int32)} {d : Nat} {Q : Option MV → MH → Prop} {u0 : Option MV} {u1 : Option MV} {u2 : Option MV} {u3 : Option MV} {u4 : Option MV} {u5 : Option MV} {u6 : Option MV} {u7 : Option MV} {u8 : Option MV} {x9 : Int32} {u10 : Option MV} {h : MH}  (g0 : okl [u0, u1, u2, u3, u4, u5, u6, u7, u8, some (.inl x9), u10] 9 = true) (k : Wb rod d B_Main_border 66 [u0, u1, u2, u3, u4, u5, u6, u7, u8, some (.inl (x9 + 1)), u10] [] h Q) : Wb rod d B_Main_border 114 [u0, u1, u2, u3, u4, u5, u6, u7, u8, some (.inl x9), u10] [] h Q := by
  refine Wb.go (fun r hr q => b_Main_border_114 g0 ?_) k
  (first | exact q | (simp only [Option.getD_some]; exact q))
theorem w_Main_border_120 {rod : Nat → Nat × (Nat → Int32)} {d : Nat} {Q : Option MV → MH → Prop} {u0 : Option MV} {u1 : Option MV} {u2 : Option MV} {u3 : Option MV} {x4 : Int32} {u5 : Option MV} {u6 : Option MV} {u7 : Option MV} {u8 : Option MV} {u9 : Option MV} {u10 : Option MV} {h : MH}   (k1 : x4.toInt = 0 → Wb rod d B_Main_border 133 [u0, u1, u2, u3, some (.inl x4), u5, u6, u7, u8, u9, u10] [] h Q) (k2 : ¬ x4.toInt = 0 → Wb rod d B_Main_border 125 [u0, u1, u2, u3, some (.inl x4), u5, u6, u7, u8, u9, u10] [] h Q) : Wb rod d B_Main_border 120 [u0, u1, u2, u3, some (.inl x4), u5, u6, u7, u8, u9, u10] [] h Q := by
  refine Wb.br (fun _ _ => b_Main_border_120) (fun c => ?_) (fun c => ?_)
  · have c : (decide (x4 = 0)) = true := by first | exact c | (simp only [Option.getD_some] at c; exact c)
    (first | exact (k1 (c_eqt c)) | (simp only [Option.getD_some]; exact (k1 (c_eqt c))))
  · have c : (decide (x4 = 0)) = false := by first | exact c | (simp only [Option.getD_some] at c; exact c)
    (first | exact (k2 (c_eqf c)) | (simp only [Option.getD_some]; exact (k2 (c_eqf c))))
theorem w_Main_border_125 {rod : Nat → Nat × (Nat → Int32)} {d : Nat} {Q : Option MV → MH → Prop} {u0 : Option MV} {u1 : Option MV} {u2 : Option MV} {u3 : Option MV} {u4 : Option MV} {u5 : Option MV} {x6 : Int32} {x7 : Int32} {u8 : Option MV} {u9 : Option MV} {u10 : Option MV} {h : MH}   (k : Wb rod d B_Main_border 135 [u0, u1, u2, u3, u4, u5, some (.inl x6), some (.inl x7), u8, u9, u10] [.inl (x6 - x7)] h Q) : Wb rod d B_Main_border 125 [u0, u1, u2, u3, u4, u5, some (.inl x6), some (.inl x7), u8, u9, u10] [] h Q := by
  refine Wb.go (fun r hr q => b_Main_border_125 ?_) k
  (first | exact q | (simp only [Option.getD_some]; exact q))
theorem w_Main_border_133 {rod : Nat → Nat × (Nat → Int32)} {d : Nat} {Q : Option MV → MH → Prop} {u0 : Option MV} {u1 : Option MV} {u2 : Option MV} {u3 : Option MV} {u4 : Option MV} {u5 : Option MV} {u6 : Option MV} {u7 : Option MV} {x8 : Int32} {u9 : Option MV} {u10 : Option MV} {h : MH}   (k : Wb rod d B_Main_border 135 [u0, u1, u2, u3, u4, u5, u6, u7, some (.inl x8), u9, u10] [.inl x8] h Q) : Wb rod d B_Main_border 133 [u0, u1, u2, u3, u4, u5, u6, u7, some (.inl x8), u9, u10] [] h Q := by
  refine Wb.go (fun r hr q => b_Main_border_133 ?_) k
  (first | exact q | (simp only [Option.getD_some]; exact q))
theorem w_Main_border_135 {rod : Nat → Nat × (Nat → Int32)} {d : Nat} {Q : Option MV → MH → Prop} {u0 : Option MV} {u1 : Option MV} {u2 : Option MV} {u3 : Option MV} {u4 : Option MV} {u5 : Option MV} {u6 : Option MV} {u7 : Option MV} {u8 : Option MV} {u9 : Option MV} {u10 : Option MV} {xs0 : Int32} {h : MH}   (q : Q (some (.inl xs0)) h) : Wb rod d B_Main_border 135 [u0, u1, u2, u3, u4, u5, u6, u7, u8, u9, u10] [.inl xs0] h Q := by
  refine Wb.ret (b_Main_border_135) ?_
  (first | exact q | (simp only [Option.getD_some]; exact q))
theorem n_Main_ranked {rod : Nat → Nat × (Nat → Int32)} {d : Nat} {Q : Option MV → MH → Prop} {x1 : Int32} {x2 : Int32} {h : MH} (k : Wb rod d B_Main_ranked 0 [some (.inr (.inr (.inl (some 0)))), some (.inl x1), some (.inl x2), none, none, none] [] h Q) : Wc rod (d + 1) 152 [.inr (.inr (.inl (some 0))), .inl x1, .inl x2] h Q := Wc.en (fun _ _ => e_Main_ranked) k
theorem w_Main_ranked_0 {rod : Nat → Nat × (Nat → Int32)} {d : Nat} {Q : Option MV → MH → Prop} {x1 : Int32} {u2 : Option MV} {u3 : Option MV} {u4 : Option MV} {u5 : Option MV} {h : MH} (L : Lay h.2)  {Q1 : Option MV → MH → Prop} (c : Wc rod d 61 [.inr (.inr (.inl (some 1))), .inl x1] h Q1) (k : ∀ r1 h2, Q1 r1 h2 → Wb rod d B_Main_ranked 8 [some (.inr (.inr (.inl (some 0)))), some (.inl x1), u2, u3, u4, u5] (r1.toList ++ []) h2 Q) : Wb rod d B_Main_ranked 0 [some (.inr (.inr (.inl (some 0)))), some (.inl x1), u2, u3, u4, u5] [] h Q := by
  refine Wb.call (fun _ _ _ _ => b_Main_ranked_0 (Lay.o0 L) (Lay.k0_0 L)) (Q1 := Q1) ?_ ?_
  · (first | exact c | (simp only [Option.getD_some, (Lay.r0_0 L)]; exact c))
  · (first | exact k | (simp only [Option.getD_some, (Lay.r0_0 L)]; exact k))
theorem w_Main_ranked_8 {rod : Nat → Nat × (Nat → Int32)} {d : Nat} {Q : Option MV → MH → Prop} {u0 : Option MV} {u1 : Option MV} {u2 : Option MV} {u3 : Option MV} {u4 : Option MV} {u5 : Option MV} {os0 : Option Nat} {h : MH}  (g0 : okl [u0, u1, u2, u3, u4, u5] 3 = true) (k1 : os0 = none → Wb rod d B_Main_ranked 21 [u0, u1, u2, some (.inr (.inr (.inl os0))), u4, u5] [] h Q) (k2 : ∀ v, os0 = some v → Wb rod d B_Main_ranked 13 [u0, u1, u2, some (.inr (.inr (.inl os0))), u4, u5] [] h Q) : Wb rod d B_Main_ranked 8 [u0, u1, u2, u3, u4, u5] [.inr (.inr (.inl os0))] h Q := by
  cases os0 with
  | none =>
    refine Wb.br (fun _ _ => b_Main_ranked_8 g0) (fun c => ?_) (fun c => ?_)
    · exact k1 rfl
    · simp at c
  | some v =>
    refine Wb.br (fun _ _ => b_Main_ranked_8 g0) (fun c => ?_) (fun c => ?_)
    · simp at c
    · exact k2 v rfl
theorem w_Main_ranked_13 {rod : Nat → Nat × (Nat → Int32)} {d : Nat} {Q : Option MV → MH → Prop} {u0 : Option MV} {u1 : Option MV} {x2 : Int32} {u3 : Option MV} {u4 : Option MV} {u5 : Option MV} {h : MH}   {Q1 : Option MV → MH → Prop} (c : Wc rod d 92 [.inl x2, .inl (0 : Int32)] h Q1) (k : ∀ r1 h2, Q1 r1 h2 → Wb rod d B_Main_ranked 18 [u0, u1, some (.inl x2), u3, u4, u5] (r1.toList ++ []) h2 Q) : Wb rod d B_Main_ranked 13 [u0, u1, some (.inl x2), u3, u4, u5] [] h Q := by
  refine Wb.call (fun _ _ _ _ => b_Main_ranked_13) (Q1 := Q1) ?_ ?_
  · (first | exact c | (simp only [Option.getD_some]; exact c))
  · (first | exact k | (simp only [Option.getD_some]; exact k))
theorem w_Main_ranked_18 {rod : Nat → Nat × (Nat → Int32)} {d : Nat} {Q : Option MV → MH → Prop} {u0 : Option MV} {u1 : Option MV} {u2 : Option MV} {u3 : Option MV} {u4 : Option MV} {u5 : Option MV} {xs0 : Int32} {h : MH}   (k1 : ¬ xs0.toInt = 0 → Wb rod d B_Main_ranked 23 [u0, u1, u2, u3, u4, u5] [] h Q) (k2 : xs0.toInt = 0 → Wb rod d B_Main_ranked 21 [u0, u1, u2, u3, u4, u5] [] h Q) : Wb rod d B_Main_ranked 18 [u0, u1, u2, u3, u4, u5] [.inl xs0] h Q := by
  refine Wb.br (fun _ _ => b_Main_ranked_18) (fun c => ?_) (fun c => ?_)
  · have c : (!(decide (xs0 = 0))) = true := by first | exact c | (simp only [Option.getD_some] at c; exact c)
    (first | exact (k1 (c_net c)) | (simp only [Option.getD_some]; exact (k1 (c_net c))))
  · have c : (!(decide (xs0 = 0))) = false := by first | exact c | (simp only [Option.getD_some] at c; exact c)
    (first | exact (k2 (c_nef c)) | (simp only [Option.getD_some]; exact (k2 (c_nef c))))
theorem w_Main_ranked_21 {rod : Nat → Nat × (Nat → Int32)} {d : Nat} {Q : Option MV → MH → Prop} {u0 : Option MV} {u1 : Option MV} {u2 : Option MV} {u3 : Option MV} {u4 : Option MV} {u5 : Option MV} {h : MH}   (q : Q (some (.inl (-1 : Int32))) h) : Wb rod d B_Main_ranked 21 [u0, u1, u2, u3, u4, u5] [] h Q := by
  refine Wb.ret (b_Main_ranked_21) ?_
  (first | exact q | (simp only [Option.getD_some]; exact q))
theorem w_Main_ranked_23 {rod : Nat → Nat × (Nat → Int32)} {d : Nat} {Q : Option MV → MH → Prop} {u0 : Option MV} {u1 : Option MV} {u2 : Option MV} {u3 : Option MV} {u4 : Option MV} {u5 : Option MV} {h : MH}  (g0 : okl [u0, u1, u2, u3, u4, u5] 4 = true) (k : Wb rod d B_Main_ranked 29 [u0, u1, u2, u3, some (.inl (0 : Int32)), some (.inl (0 : Int32))] [] h Q) : Wb rod d B_Main_ranked 23 [u0, u1, u2, u3, u4, u5] [] h Q := by
  refine Wb.go (fun r hr q => b_Main_ranked_23 g0 ?_) k
  (first | exact q | (simp only [Option.getD_some]; exact q))
theorem w_Main_ranked_29 {rod : Nat → Nat × (Nat → Int32)} {d : Nat} {Q : Option MV → MH → Prop} {u0 : Option MV} {u1 : Option MV} {u2 : Option MV} {u3 : Option MV} {u4 : Option MV} {x5 : Int32} {h : MH}   (k1 : 4 ≤ x5.toInt → Wb rod d B_Main_ranked 60 [u0, u1, u2, u3, u4, some (.inl x5)] [] h Q) (k2 : ¬ 4 ≤ x5.toInt → Wb rod d B_Main_ranked 35 [u0, u1, u2, u3, u4, some (.inl x5)] [] h Q) : Wb rod d B_Main_ranked 29 [u0, u1, u2, u3, u4, some (.inl x5)] [] h Q := by
  refine Wb.br (fun _ _ => b_Main_ranked_29) (fun c => ?_) (fun c => ?_)
  · have c : (decide ((4 : Int32) ≤ x5)) = true := by first | exact c | (simp only [Option.getD_some] at c; exact c)
    (first | exact (k1 (c_let c)) | (simp only [Option.getD_some]; exact (k1 (c_let c))))
  · have c : (decide ((4 : Int32) ≤ x5)) = false := by first | exact c | (simp only [Option.getD_some] at c; exact c)
    (first | exact (k2 (c_lef c)) | (simp only [Option.getD_some]; exact (k2 (c_lef c))))
theorem w_Main_ranked_35 {rod : Nat → Nat × (Nat → Int32)} {d : Nat} {Q : Option MV → MH → Prop} {u0 : Option MV} {u1 : Option MV} {x2 : Int32} {a3 : Nat} {x4 : Int32} {x5 : Int32} {h : MH} (A3 : LandA h.2 a3)  {Q1 : Option MV → MH → Prop} (c : Wc rod d 95 [.inr (.inr (.inl (some a3))), .inl x2, .inl x5] h Q1) (k : ∀ r1 h2, Q1 r1 h2 → Wb rod d B_Main_ranked 48 [u0, u1, some (.inl x2), some (.inr (.inr (.inl (some a3)))), some (.inl x4), some (.inl x5)] (r1.toList ++ [.inl x5, .inl x2, .inr (.inr (.inl (some a3))), .inl x4]) h2 Q) : Wb rod d B_Main_ranked 35 [u0, u1, some (.inl x2), some (.inr (.inr (.inl (some a3)))), some (.inl x4), some (.inl x5)] [] h Q := by
  refine Wb.call (fun _ _ _ _ => b_Main_ranked_35 (A3.o)) (Q1 := Q1) ?_ ?_
  · (first | exact c | (simp only [Option.getD_some]; exact c))
  · (first | exact k | (simp only [Option.getD_some]; exact k))
theorem w_Main_ranked_48 {rod : Nat → Nat × (Nat → Int32)} {d : Nat} {Q : Option MV → MH → Prop} {u0 : Option MV} {u1 : Option MV} {u2 : Option MV} {u3 : Option MV} {u4 : Option MV} {u5 : Option MV} {xs0 : Int32} {as1 : Nat} {xs2 : Int32} {xs3 : Int32} {xs4 : Int32} {h : MH} (As1 : LandA h.2 as1)  {Q1 : Option MV → MH → Prop} (c : Wc rod d 96 [.inr (.inr (.inl (some as1))), .inl xs2, .inl xs3, .inl xs4] h Q1) (k : ∀ r1 h2, Q1 r1 h2 → Wb rod d B_Main_ranked 51 [u0, u1, u2, u3, u4, u5] (r1.toList ++ [.inl xs0]) h2 Q) : Wb rod d B_Main_ranked 48 [u0, u1, u2, u3, u4, u5] [.inl xs4, .inl xs3, .inl xs2, .inr (.inr (.inl (some as1))), .inl xs0] h Q := by
  refine Wb.call (fun _ _ _ _ => b_Main_ranked_48 (As1.o)) (Q1 := Q1) ?_ ?_
  · (first | exact c | (simp only [Option.getD_some]; exact c))
  · (first | exact k | (simp only [Option.getD_some]; exact k))
theorem w_Main_ranked_51 {rod : Nat → Nat × (Nat → Int32)} {d : Nat} {Q : Option MV → MH → Prop} {u0 : Option MV} {u1 : Option MV} {u2 : Option MV} {u3 : Option MV} {u4 : Option MV} {x5 : Int32} {xs0 : Int32} {xs1 : Int32} {h : MH}  (g0 : okl [u0, u1, u2, u3, u4, some (.inl x5)] 4 = true) (k : Wb rod d B_Main_ranked 29 [u0, u1, u2, u3, some (.inl (xs0 + xs1)), some (.inl (x5 + 1))] [] h Q) : Wb rod d B_Main_ranked 51 [u0, u1, u2, u3, u4, some (.inl x5)] [.inl xs1, .inl xs0] h Q := by
  refine Wb.go (fun r hr q => b_Main_ranked_51 g0 ?_) k
  (first | exact q | (simp only [Option.getD_some]; exact q))
theorem w_Main_ranked_60 {rod : Nat → Nat × (Nat → Int32)} {d : Nat} {Q : Option MV → MH → Prop} {u0 : Option MV} {u1 : Option MV} {u2 : Option MV} {u3 : Option MV} {x4 : Int32} {u5 : Option MV} {h : MH}   (q : Q (some (.inl x4)) h) : Wb rod d B_Main_ranked 60 [u0, u1, u2, u3, some (.inl x4), u5] [] h Q := by
  refine Wb.ret (b_Main_ranked_60) ?_
  (first | exact q | (simp only [Option.getD_some]; exact q))
theorem n_Main_sold {rod : Nat → Nat × (Nat → Int32)} {d : Nat} {Q : Option MV → MH → Prop} {x1 : Int32} {x2 : Int32} {x3 : Int32} {h : MH} (k : Wb rod d B_Main_sold 0 [some (.inr (.inr (.inl (some 0)))), some (.inl x1), some (.inl x2), some (.inl x3), none] [] h Q) : Wc rod (d + 1) 153 [.inr (.inr (.inl (some 0))), .inl x1, .inl x2, .inl x3] h Q := Wc.en (fun _ _ => e_Main_sold) k
theorem w_Main_sold_0 {rod : Nat → Nat × (Nat → Int32)} {d : Nat} {Q : Option MV → MH → Prop} {x1 : Int32} {u2 : Option MV} {u3 : Option MV} {u4 : Option MV} {h : MH} (L : Lay h.2)  {Q1 : Option MV → MH → Prop} (c : Wc rod d 61 [.inr (.inr (.inl (some 1))), .inl x1] h Q1) (k : ∀ r1 h2, Q1 r1 h2 → Wb rod d B_Main_sold 8 [some (.inr (.inr (.inl (some 0)))), some (.inl x1), u2, u3, u4] (r1.toList ++ []) h2 Q) : Wb rod d B_Main_sold 0 [some (.inr (.inr (.inl (some 0)))), some (.inl x1), u2, u3, u4] [] h Q := by
  refine Wb.call (fun _ _ _ _ => b_Main_sold_0 (Lay.o0 L) (Lay.k0_0 L)) (Q1 := Q1) ?_ ?_
  · (first | exact c | (simp only [Option.getD_some, (Lay.r0_0 L)]; exact c))
  · (first | exact k | (simp only [Option.getD_some, (Lay.r0_0 L)]; exact k))
theorem w_Main_sold_8 {rod : Nat → Nat × (Nat → Int32)} {d : Nat} {Q : Option MV → MH → Prop} {u0 : Option MV} {u1 : Option MV} {u2 : Option MV} {u3 : Option MV} {u4 : Option MV} {os0 : Option Nat} {h : MH}  (g0 : okl [u0, u1, u2, u3, u4] 4 = true) (k1 : os0 = none → Wb rod d B_Main_sold 23 [u0, u1, u2, u3, some (.inr (.inr (.inl os0)))] [] h Q) (k2 : ∀ v, os0 = some v → Wb rod d B_Main_sold 15 [u0, u1, u2, u3, some (.inr (.inr (.inl os0)))] [] h Q) : Wb rod d B_Main_sold 8 [u0, u1, u2, u3, u4] [.inr (.inr (.inl os0))] h Q := by
  cases os0 with
  | none =>
    refine Wb.br (fun _ _ => b_Main_sold_8 g0) (fun c => ?_) (fun c => ?_)
    · exact k1 rfl
    · simp at c
  | some v =>
    refine Wb.br (fun _ _ => b_Main_sold_8 g0) (fun c => ?_) (fun c => ?_)
    · simp at c
    · exact k2 v rfl
theorem w_Main_sold_15 {rod : Nat → Nat × (Nat → Int32)} {d : Nat} {Q : Option MV → MH → Prop} {u0 : Option MV} {u1 : Option MV} {x2 : Int32} {x3 : Int32} {u4 : Option MV} {h : MH}   {Q1 : Option MV → MH → Prop} (c : Wc rod d 92 [.inl x2, .inl x3] h Q1) (k : ∀ r1 h2, Q1 r1 h2 → Wb rod d B_Main_sold 20 [u0, u1, some (.inl x2), some (.inl x3), u4] (r1.toList ++ []) h2 Q) : Wb rod d B_Main_sold 15 [u0, u1, some (.inl x2), some (.inl x3), u4] [] h Q := by
  refine Wb.call (fun _ _ _ _ => b_Main_sold_15) (Q1 := Q1) ?_ ?_
  · (first | exact c | (simp only [Option.getD_some]; exact c))
  · (first | exact k | (simp only [Option.getD_some]; exact k))
theorem w_Main_sold_20 {rod : Nat → Nat × (Nat → Int32)} {d : Nat} {Q : Option MV → MH → Prop} {u0 : Option MV} {u1 : Option MV} {u2 : Option MV} {u3 : Option MV} {u4 : Option MV} {xs0 : Int32} {h : MH}   (k1 : ¬ xs0.toInt = 0 → Wb rod d B_Main_sold 27 [u0, u1, u2, u3, u4] [] h Q) (k2 : xs0.toInt = 0 → Wb rod d B_Main_sold 23 [u0, u1, u2, u3, u4] [] h Q) : Wb rod d B_Main_sold 20 [u0, u1, u2, u3, u4] [.inl xs0] h Q := by
  refine Wb.br (fun _ _ => b_Main_sold_20) (fun c => ?_) (fun c => ?_)
  · have c : (!(decide (xs0 = 0))) = true := by first | exact c | (simp only [Option.getD_some] at c; exact c)
    (first | exact (k1 (c_net c)) | (simp only [Option.getD_some]; exact (k1 (c_net c))))
  · have c : (!(decide (xs0 = 0))) = false := by first | exact c | (simp only [Option.getD_some] at c; exact c)
    (first | exact (k2 (c_nef c)) | (simp only [Option.getD_some]; exact (k2 (c_nef c))))
theorem w_Main_sold_23 {rod : Nat → Nat × (Nat → Int32)} {d : Nat} {Q : Option MV → MH → Prop} {u0 : Option MV} {u1 : Option MV} {u2 : Option MV} {u3 : Option MV} {u4 : Option MV} {h : MH}   (k : Wb rod d B_Main_sold 35 [u0, u1, u2, u3, u4] [.inl (-1 : Int32)] h Q) : Wb rod d B_Main_sold 23 [u0, u1, u2, u3, u4] [] h Q := by
  refine Wb.go (fun r hr q => b_Main_sold_23 ?_) k
  (first | exact q | (simp only [Option.getD_some]; exact q))
theorem w_Main_sold_27 {rod : Nat → Nat × (Nat → Int32)} {d : Nat} {Q : Option MV → MH → Prop} {u0 : Option MV} {u1 : Option MV} {x2 : Int32} {x3 : Int32} {a4 : Nat} {h : MH} (A4 : LandA h.2 a4)  {Q1 : Option MV → MH → Prop} (c : Wc rod d 97 [.inr (.inr (.inl (some a4))), .inl x2, .inl (-1 : Int32), .inl x3] h Q1) (k : ∀ r1 h2, Q1 r1 h2 → Wb rod d B_Main_sold 35 [u0, u1, some (.inl x2), some (.inl x3), some (.inr (.inr (.inl (some a4))))] (r1.toList ++ []) h2 Q) : Wb rod d B_Main_sold 27 [u0, u1, some (.inl x2), some (.inl x3), some (.inr (.inr (.inl (some a4))))] [] h Q := by
  refine Wb.call (fun _ _ _ _ => b_Main_sold_27 (A4.o)) (Q1 := Q1) ?_ ?_
  · (first | exact c | (simp only [Option.getD_some]; exact c))
  · (first | exact k | (simp only [Option.getD_some]; exact k))
theorem w_Main_sold_35 {rod : Nat → Nat × (Nat → Int32)} {d : Nat} {Q : Option MV → MH → Prop} {u0 : Option MV} {u1 : Option MV} {u2 : Option MV} {u3 : Option MV} {u4 : Option MV} {xs0 : Int32} {h : MH}   (q : Q (some (.inl xs0)) h) : Wb rod d B_Main_sold 35 [u0, u1, u2, u3, u4] [.inl xs0] h Q := by
  refine Wb.ret (b_Main_sold_35) ?_
  (first | exact q | (simp only [Option.getD_some]; exact q))
theorem n_Main_round {rod : Nat → Nat × (Nat → Int32)} {d : Nat} {Q : Option MV → MH → Prop} {x1 : Int32} {x2 : Int32} {h : MH} (k : Wb rod d B_Main_round 0 [some (.inr (.inr (.inl (some 0)))), some (.inl x1), some (.inl x2), none, none] [] h Q) : Wc rod (d + 1) 154 [.inr (.inr (.inl (some 0))), .inl x1, .inl x2] h Q := Wc.en (fun _ _ => e_Main_round) k
theorem w_Main_round_0 {rod : Nat → Nat × (Nat → Int32)} {d : Nat} {Q : Option MV → MH → Prop} {x1 : Int32} {u2 : Option MV} {u3 : Option MV} {u4 : Option MV} {h : MH} (L : Lay h.2)  {Q1 : Option MV → MH → Prop} (c : Wc rod d 61 [.inr (.inr (.inl (some 1))), .inl x1] h Q1) (k : ∀ r1 h2, Q1 r1 h2 → Wb rod d B_Main_round 8 [some (.inr (.inr (.inl (some 0)))), some (.inl x1), u2, u3, u4] (r1.toList ++ []) h2 Q) : Wb rod d B_Main_round 0 [some (.inr (.inr (.inl (some 0)))), some (.inl x1), u2, u3, u4] [] h Q := by
  refine Wb.call (fun _ _ _ _ => b_Main_round_0 (Lay.o0 L) (Lay.k0_0 L)) (Q1 := Q1) ?_ ?_
  · (first | exact c | (simp only [Option.getD_some, (Lay.r0_0 L)]; exact c))
  · (first | exact k | (simp only [Option.getD_some, (Lay.r0_0 L)]; exact k))
theorem w_Main_round_8 {rod : Nat → Nat × (Nat → Int32)} {d : Nat} {Q : Option MV → MH → Prop} {u0 : Option MV} {u1 : Option MV} {u2 : Option MV} {u3 : Option MV} {u4 : Option MV} {os0 : Option Nat} {h : MH}  (g0 : okl [u0, u1, u2, u3, u4] 3 = true) (k1 : os0 = none → Wb rod d B_Main_round 13 [u0, u1, u2, some (.inr (.inr (.inl os0))), u4] [] h Q) (k2 : ∀ v, os0 = some v → Wb rod d B_Main_round 15 [u0, u1, u2, some (.inr (.inr (.inl os0))), u4] [] h Q) : Wb rod d B_Main_round 8 [u0, u1, u2, u3, u4] [.inr (.inr (.inl os0))] h Q := by
  cases os0 with
  | none =>
    refine Wb.br (fun _ _ => b_Main_round_8 g0) (fun c => ?_) (fun c => ?_)
    · simp at c
    · exact k1 rfl
  | some v =>
    refine Wb.br (fun _ _ => b_Main_round_8 g0) (fun c => ?_) (fun c => ?_)
    · exact k2 v rfl
    · simp at c
theorem w_Main_round_13 {rod : Nat → Nat × (Nat → Int32)} {d : Nat} {Q : Option MV → MH → Prop} {u0 : Option MV} {u1 : Option MV} {u2 : Option MV} {u3 : Option MV} {u4 : Option MV} {h : MH}   (q : Q (some (.inl (-1 : Int32))) h) : Wb rod d B_Main_round 13 [u0, u1, u2, u3, u4] [] h Q := by
  refine Wb.ret (b_Main_round_13) ?_
  (first | exact q | (simp only [Option.getD_some]; exact q))
theorem w_Main_round_15 {rod : Nat → Nat × (Nat → Int32)} {d : Nat} {Q : Option MV → MH → Prop} {u1 : Option MV} {u2 : Option MV} {a3 : Nat} {u4 : Option MV} {h : MH} (L : Lay h.2)  {Q1 : Option MV → MH → Prop} (c : Wc rod d 155 [.inr (.inr (.inl (some 70))), .inr (.inr (.inl (some a3)))] h Q1) (k : ∀ r1 h2, Q1 r1 h2 → Wb rod d B_Main_round 23 [some (.inr (.inr (.inl (some 0)))), u1, u2, some (.inr (.inr (.inl (some a3)))), u4] (r1.toList ++ []) h2 Q) : Wb rod d B_Main_round 15 [some (.inr (.inr (.inl (some 0)))), u1, u2, some (.inr (.inr (.inl (some a3)))), u4] [] h Q := by
  refine Wb.call (fun _ _ _ _ => b_Main_round_15 (Lay.o0 L) (Lay.k0_4 L)) (Q1 := Q1) ?_ ?_
  · (first | exact c | (simp only [Option.getD_some, (Lay.r0_4 L)]; exact c))
  · (first | exact k | (simp only [Option.getD_some, (Lay.r0_4 L)]; exact k))
theorem w_Main_round_23 {rod : Nat → Nat × (Nat → Int32)} {d : Nat} {Q : Option MV → MH → Prop} {u0 : Option MV} {u1 : Option MV} {u2 : Option MV} {u3 : Option MV} {u4 : Option MV} {xs0 : Int32} {h : MH}  (g0 : okl [u0, u1, u2, u3, u4] 4 = true) (k1 : xs0.toInt < 1000 → Wb rod d B_Main_round 35 [u0, u1, u2, u3, some (.inl xs0)] [] h Q) (k2 : ¬ xs0.toInt < 1000 → Wb rod d B_Main_round 33 [u0, u1, u2, u3, some (.inl xs0)] [] h Q) : Wb rod d B_Main_round 23 [u0, u1, u2, u3, u4] [.inl xs0] h Q := by
  refine Wb.br (fun _ _ => b_Main_round_23 g0) (fun c => ?_) (fun c => ?_)
  · have c : (decide (xs0 < (1000 : Int32))) = true := by first | exact c | (simp only [Option.getD_some] at c; exact c)
    (first | exact (k1 (c_ltt c)) | (simp only [Option.getD_some]; exact (k1 (c_ltt c))))
  · have c : (decide (xs0 < (1000 : Int32))) = false := by first | exact c | (simp only [Option.getD_some] at c; exact c)
    (first | exact (k2 (c_ltf c)) | (simp only [Option.getD_some]; exact (k2 (c_ltf c))))
theorem w_Main_round_33 {rod : Nat → Nat × (Nat → Int32)} {d : Nat} {Q : Option MV → MH → Prop} {u0 : Option MV} {u1 : Option MV} {u2 : Option MV} {u3 : Option MV} {u4 : Option MV} {h : MH}   (q : Q (some (.inl (-1 : Int32))) h) : Wb rod d B_Main_round 33 [u0, u1, u2, u3, u4] [] h Q := by
  refine Wb.ret (b_Main_round_33) ?_
  (first | exact q | (simp only [Option.getD_some]; exact q))
theorem w_Main_round_35 {rod : Nat → Nat × (Nat → Int32)} {d : Nat} {Q : Option MV → MH → Prop} {u0 : Option MV} {u1 : Option MV} {x2 : Int32} {u3 : Option MV} {u4 : Option MV} {h : MH}   (k1 : ¬ x2.toInt = (-1) → Wb rod d B_Main_round 45 [u0, u1, some (.inl x2), u3, u4] [] h Q) (k2 : x2.toInt = (-1) → Wb rod d B_Main_round 40 [u0, u1, some (.inl x2), u3, u4] [] h Q) : Wb rod d B_Main_round 35 [u0, u1, some (.inl x2), u3, u4] [] h Q := by
  refine Wb.br (fun _ _ => b_Main_round_35) (fun c => ?_) (fun c => ?_)
  · have c : (!(decide (x2 = (-1 : Int32)))) = true := by first | exact c | (simp only [Option.getD_some] at c; exact c)
    (first | exact (k1 (c_net c)) | (simp only [Option.getD_some]; exact (k1 (c_net c))))
  · have c : (!(decide (x2 = (-1 : Int32)))) = false := by first | exact c | (simp only [Option.getD_some] at c; exact c)
    (first | exact (k2 (c_nef c)) | (simp only [Option.getD_some]; exact (k2 (c_nef c))))
theorem w_Main_round_40 {rod : Nat → Nat × (Nat → Int32)} {d : Nat} {Q : Option MV → MH → Prop} {u0 : Option MV} {u1 : Option MV} {u2 : Option MV} {u3 : Option MV} {x4 : Int32} {h : MH}   (k : Wb rod d B_Main_round 53 [u0, u1, u2, u3, some (.inl x4)] [.inl x4] h Q) : Wb rod d B_Main_round 40 [u0, u1, u2, u3, some (.inl x4)] [] h Q := by
  refine Wb.go (fun r hr q => b_Main_round_40 ?_) k
  (first | exact q | (simp only [Option.getD_some]; exact q))
theorem w_Main_round_45 {rod : Nat → Nat × (Nat → Int32)} {d : Nat} {Q : Option MV → MH → Prop} {u1 : Option MV} {x2 : Int32} {u3 : Option MV} {u4 : Option MV} {h : MH} (L : Lay h.2)  {Q1 : Option MV → MH → Prop} (c : Wc rod d 107 [.inr (.inr (.inl (some 70))), .inl x2] h Q1) (k : ∀ r1 h2, Q1 r1 h2 → Wb rod d B_Main_round 53 [some (.inr (.inr (.inl (some 0)))), u1, some (.inl x2), u3, u4] (r1.toList ++ []) h2 Q) : Wb rod d B_Main_round 45 [some (.inr (.inr (.inl (some 0)))), u1, some (.inl x2), u3, u4] [] h Q := by
  refine Wb.call (fun _ _ _ _ => b_Main_round_45 (Lay.o0 L) (Lay.k0_4 L)) (Q1 := Q1) ?_ ?_
  · (first | exact c | (simp only [Option.getD_some, (Lay.r0_4 L)]; exact c))
  · (first | exact k | (simp only [Option.getD_some, (Lay.r0_4 L)]; exact k))
theorem w_Main_round_53 {rod : Nat → Nat × (Nat → Int32)} {d : Nat} {Q : Option MV → MH → Prop} {u0 : Option MV} {u1 : Option MV} {u2 : Option MV} {u3 : Option MV} {u4 : Option MV} {xs0 : Int32} {h : MH}   (q : Q (some (.inl xs0)) h) : Wb rod d B_Main_round 53 [u0, u1, u2, u3, u4] [.inl xs0] h Q := by
  refine Wb.ret (b_Main_round_53) ?_
  (first | exact q | (simp only [Option.getD_some]; exact q))
theorem n_Ways_goRound {rod : Nat → Nat × (Nat → Int32)} {d : Nat} {Q : Option MV → MH → Prop} {a1 : Nat} {h : MH} (k : Wb rod d B_Ways_goRound 0 [some (.inr (.inr (.inl (some 70)))), some (.inr (.inr (.inl (some a1)))), none, none] [] h Q) : Wc rod (d + 1) 155 [.inr (.inr (.inl (some 70))), .inr (.inr (.inl (some a1)))] h Q := Wc.en (fun _ _ => e_Ways_goRound) k
theorem w_Ways_goRound_0 {rod : Nat → Nat × (Nat → Int32)} {d : Nat} {Q : Option MV → MH → Prop} {a1 : Nat} {u2 : Option MV} {u3 : Option MV} {h : MH} (A1 : LandA h.2 a1) (L : Lay h.2)  {Q1 : Option MV → MH → Prop} (c : Wc rod d 99 [.inr (.inr (.inl (some 70))), .inr (.inr (.inl (some a1))), .inl (h.1 a1 3)] h Q1) (k : ∀ r1 h2, Q1 r1 h2 → Wb rod d B_Ways_goRound 9 [some (.inr (.inr (.inl (some 70)))), some (.inr (.inr (.inl (some a1)))), u2, u3] (r1.toList ++ []) h2 Q) : Wb rod d B_Ways_goRound 0 [some (.inr (.inr (.inl (some 70)))), some (.inr (.inr (.inl (some a1)))), u2, u3] [] h Q := by
  refine Wb.call (fun _ _ _ _ => b_Ways_goRound_0 (A1.o) (Lay.o70 L)) (Q1 := Q1) ?_ ?_
  · (first | exact c | (simp only [Option.getD_some]; exact c))
  · (first | exact k | (simp only [Option.getD_some]; exact k))
theorem w_Ways_goRound_9 {rod : Nat → Nat × (Nat → Int32)} {d : Nat} {Q : Option MV → MH → Prop} {u0 : Option MV} {u1 : Option MV} {u2 : Option MV} {u3 : Option MV} {h : MH}  (g0 : okl [u0, u1, u2, u3] 2 = true) (k : Wb rod d B_Ways_goRound 13 [u0, u1, some (.inl (0 : Int32)), some (.inl (1 : Int32))] [] h Q) : Wb rod d B_Ways_goRound 9 [u0, u1, u2, u3] [] h Q := by
  refine Wb.go (fun r hr q => b_Ways_goRound_9 g0 ?_) k
  (first | exact q | (simp only [Option.getD_some]; exact q))
theorem w_Ways_goRound_13 {rod : Nat → Nat × (Nat → Int32)} {d : Nat} {Q : Option MV → MH → Prop} {u1 : Option MV} {u2 : Option MV} {x3 : Int32} {h : MH} (L : Lay h.2)  (k1 : (h.1 70 0).toInt ≤ x3.toInt → Wb rod d B_Ways_goRound 45 [some (.inr (.inr (.inl (some 70)))), u1, u2, some (.inl x3)] [] h Q) (k2 : ¬ (h.1 70 0).toInt ≤ x3.toInt → Wb rod d B_Ways_goRound 21 [some (.inr (.inr (.inl (some 70)))), u1, u2, some (.inl x3)] [] h Q) : Wb rod d B_Ways_goRound 13 [some (.inr (.inr (.inl (some 70)))), u1, u2, some (.inl x3)] [] h Q := by
  refine Wb.br (fun _ _ => b_Ways_goRound_13 (Lay.o70 L)) (fun c => ?_) (fun c => ?_)
  · have c : (decide ((h.1 70 0) ≤ x3)) = true := by first | exact c | (simp only [Option.getD_some] at c; exact c)
    (first | exact (k1 (c_let c)) | (simp only [Option.getD_some]; exact (k1 (c_let c))))
  · have c : (decide ((h.1 70 0) ≤ x3)) = false := by first | exact c | (simp only [Option.getD_some] at c; exact c)
    (first | exact (k2 (c_lef c)) | (simp only [Option.getD_some]; exact (k2 (c_lef c))))
theorem w_Ways_goRound_21 {rod : Nat → Nat × (Nat → Int32)} {d : Nat} {Q : Option MV → MH → Prop} {u1 : Option MV} {u2 : Option MV} {x3 : Int32} {h : MH} (L : Lay h.2)  {Q1 : Option MV → MH → Prop} (c : Wc rod d 100 [.inr (.inr (.inl (some 70))), .inl (0 : Int32), .inl x3] h Q1) (k : ∀ r1 h2, Q1 r1 h2 → Wb rod d B_Ways_goRound 27 [some (.inr (.inr (.inl (some 70)))), u1, u2, some (.inl x3)] (r1.toList ++ []) h2 Q) : Wb rod d B_Ways_goRound 21 [some (.inr (.inr (.inl (some 70)))), u1, u2, some (.inl x3)] [] h Q := by
  refine Wb.call (fun _ _ _ _ => b_Ways_goRound_21 (Lay.o70 L)) (Q1 := Q1) ?_ ?_
  · (first | exact c | (simp only [Option.getD_some]; exact c))
  · (first | exact k | (simp only [Option.getD_some]; exact k))
theorem w_Ways_goRound_27 {rod : Nat → Nat × (Nat → Int32)} {d : Nat} {Q : Option MV → MH → Prop} {u0 : Option MV} {u1 : Option MV} {u2 : Option MV} {u3 : Option MV} {xs0 : Int32} {h : MH}   (k1 : 1000 ≤ xs0.toInt → Wb rod d B_Ways_goRound 39 [u0, u1, u2, u3] [] h Q) (k2 : ¬ 1000 ≤ xs0.toInt → Wb rod d B_Ways_goRound 33 [u0, u1, u2, u3] [] h Q) : Wb rod d B_Ways_goRound 27 [u0, u1, u2, u3] [.inl xs0] h Q := by
  refine Wb.br (fun _ _ => b_Ways_goRound_27) (fun c => ?_) (fun c => ?_)
  · have c : (decide ((1000 : Int32) ≤ xs0)) = true := by first | exact c | (simp only [Option.getD_some] at c; exact c)
    (first | exact (k1 (c_let c)) | (simp only [Option.getD_some]; exact (k1 (c_let c))))
  · have c : (decide ((1000 : Int32) ≤ xs0)) = false := by first | exact c | (simp only [Option.getD_some] at c; exact c)
    (first | exact (k2 (c_lef c)) | (simp only [Option.getD_some]; exact (k2 (c_lef c))))
theorem w_Ways_goRound_33 {rod : Nat → Nat × (Nat → Int32)} {d : Nat} {Q : Option MV → MH → Prop} {u0 : Option MV} {u1 : Option MV} {x2 : Int32} {x3 : Int32} {h : MH}  (g0 : okl [u0, u1, some (.inl x2), some (.inl x3)] 2 = true) (k : Wb rod d B_Ways_goRound 39 [u0, u1, some (.inl (x2 ||| ((1 : Int32) <<< (x3 &&& 31)))), some (.inl x3)] [] h Q) : Wb rod d B_Ways_goRound 33 [u0, u1, some (.inl x2), some (.inl x3)] [] h Q := by
  refine Wb.go (fun r hr q => b_Ways_goRound_33 g0 ?_) k
  (first | exact q | (simp only [Option.getD_some]; exact q))
theorem w_Ways_goRound_39 {rod : Nat → Nat × (Nat → Int32)} {d : Nat} {Q : Option MV → MH → Prop} {u0 : Option MV} {u1 : Option MV} {u2 : Option MV} {x3 : Int32} {h : MH}  (g0 : okl [u0, u1, u2, some (.inl x3)] 3 = true) (k : Wb rod d B_Ways_goRound 13 [u0, u1, u2, some (.inl (x3 + 1))] [] h Q) : Wb rod d B_Ways_goRound 39 [u0, u1, u2, some (.inl x3)] [] h Q := by
  refine Wb.go (fun r hr q => b_Ways_goRound_39 g0 ?_) k
  (first | exact q | (simp only [Option.getD_some]; exact q))
theorem w_Ways_goRound_45 {rod : Nat → Nat × (Nat → Int32)} {d : Nat} {Q : Option MV → MH → Prop} {u1 : Option MV} {u2 : Option MV} {u3 : Option MV} {h : MH} (L : Lay h.2)  (k : Wb rod d B_Ways_goRound 52 [some (.inr (.inr (.inl (some 70)))), u1, u2, u3] [] (sI h 70 5 (1000 : Int32)) Q) : Wb rod d B_Ways_goRound 45 [some (.inr (.inr (.inl (some 70)))), u1, u2, u3] [] h Q := by
  refine Wb.go (fun r hr q => b_Ways_goRound_45 (Lay.o70 L) ?_) k
  (first | exact q | (simp only [Option.getD_some]; exact q))
theorem w_Ways_goRound_52 {rod : Nat → Nat × (Nat → Int32)} {d : Nat} {Q : Option MV → MH → Prop} {u1 : Option MV} {u2 : Option MV} {u3 : Option MV} {h : MH} (L : Lay h.2)  (k : Wb rod d B_Ways_goRound 57 [some (.inr (.inr (.inl (some 70)))), u1, u2, u3] [] (sI h 70 7 (0 : Int32)) Q) : Wb rod d B_Ways_goRound 52 [some (.inr (.inr (.inl (some 70)))), u1, u2, u3] [] h Q := by
  refine Wb.go (fun r hr q => b_Ways_goRound_52 (Lay.o70 L) ?_) k
  (first | exact q | (simp only [Option.getD_some]; exact q))
theorem w_Ways_goRound_57 {rod : Nat → Nat × (Nat → Int32)} {d : Nat} {Q : Option MV → MH → Prop} {u1 : Option MV} {x2 : Int32} {u3 : Option MV} {h : MH} (L : Lay h.2)  {Q1 : Option MV → MH → Prop} (c : Wc rod d 156 [.inr (.inr (.inl (some 70))), .inl (0 : Int32), .inl (0 : Int32), .inl x2, .inl (0 : Int32)] h Q1) (k : ∀ r1 h2, Q1 r1 h2 → Wb rod d B_Ways_goRound 65 [some (.inr (.inr (.inl (some 70)))), u1, some (.inl x2), u3] (r1.toList ++ []) h2 Q) : Wb rod d B_Ways_goRound 57 [some (.inr (.inr (.inl (some 70)))), u1, some (.inl x2), u3] [] h Q := by
  refine Wb.call (fun _ _ _ _ => b_Ways_goRound_57 (Lay.o70 L)) (Q1 := Q1) ?_ ?_
  · (first | exact c | (simp only [Option.getD_some]; exact c))
  · (first | exact k | (simp only [Option.getD_some]; exact k))
theorem w_Ways_goRound_65 {rod : Nat → Nat × (Nat → Int32)} {d : Nat} {Q : Option MV → MH → Prop} {u1 : Option MV} {u2 : Option MV} {u3 : Option MV} {h : MH} (L : Lay h.2)  (q : Q (some (.inl (h.1 70 5))) h) : Wb rod d B_Ways_goRound 65 [some (.inr (.inr (.inl (some 70)))), u1, u2, u3] [] h Q := by
  refine Wb.ret (b_Ways_goRound_65 (Lay.o70 L)) ?_
  (first | exact q | (simp only [Option.getD_some]; exact q))
theorem n_Ways_goRoundOn {rod : Nat → Nat × (Nat → Int32)} {d : Nat} {Q : Option MV → MH → Prop} {x1 : Int32} {x2 : Int32} {x3 : Int32} {x4 : Int32} {h : MH} (k : Wb rod d B_Ways_goRoundOn 0 [some (.inr (.inr (.inl (some 70)))), some (.inl x1), some (.inl x2), some (.inl x3), some (.inl x4), none] [] h Q) : Wc rod (d + 1) 156 [.inr (.inr (.inl (some 70))), .inl x1, .inl x2, .inl x3, .inl x4] h Q := Wc.en (fun _ _ => e_Ways_goRoundOn) k
theorem w_Ways_goRoundOn_0 {rod : Nat → Nat × (Nat → Int32)} {d : Nat} {Q : Option MV → MH → Prop} {u1 : Option MV} {u2 : Option MV} {u3 : Option MV} {x4 : Int32} {u5 : Option MV} {h : MH} (L : Lay h.2)  (k1 : x4.toInt < (h.1 70 5).toInt → Wb rod d B_Ways_goRoundOn 10 [some (.inr (.inr (.inl (some 70)))), u1, u2, u3, some (.inl x4), u5] [] h Q) (k2 : ¬ x4.toInt < (h.1 70 5).toInt → Wb rod d B_Ways_goRoundOn 9 [some (.inr (.inr (.inl (some 70)))), u1, u2, u3, some (.inl x4), u5] [] h Q) : Wb rod d B_Ways_goRoundOn 0 [some (.inr (.inr (.inl (some 70)))), u1, u2, u3, some (.inl x4), u5] [] h Q := by
  refine Wb.br (fun _ _ => b_Ways_goRoundOn_0 (Lay.o70 L)) (fun c => ?_) (fun c => ?_)
  · have c : (decide (x4 < (h.1 70 5))) = true := by first | exact c | (simp only [Option.getD_some] at c; exact c)
    (first | exact (k1 (c_ltt c)) | (simp only [Option.getD_some]; exact (k1 (c_ltt c))))
  · have c : (decide (x4 < (h.1 70 5))) = false := by first | exact c | (simp only [Option.getD_some] at c; exact c)
    (first | exact (k2 (c_ltf c)) | (simp only [Option.getD_some]; exact (k2 (c_ltf c))))
theorem w_Ways_goRoundOn_9 {rod : Nat → Nat × (Nat → Int32)} {d : Nat} {Q : Option MV → MH → Prop} {u0 : Option MV} {u1 : Option MV} {u2 : Option MV} {u3 : Option MV} {u4 : Option MV} {u5 : Option MV} {h : MH}   (q : Q (none) h) : Wb rod d B_Ways_goRoundOn 9 [u0, u1, u2, u3, u4, u5] [] h Q := by
  refine Wb.ret (b_Ways_goRoundOn_9) ?_
  (first | exact q | (simp only [Option.getD_some]; exact q))
theorem w_Ways_goRoundOn_10 {rod : Nat → Nat × (Nat → Int32)} {d : Nat} {Q : Option MV → MH → Prop} {u0 : Option MV} {u1 : Option MV} {u2 : Option MV} {x3 : Int32} {u4 : Option MV} {u5 : Option MV} {h : MH}   (k1 : ¬ x3.toInt = 0 → Wb rod d B_Ways_goRoundOn 25 [u0, u1, u2, some (.inl x3), u4, u5] [] h Q) (k2 : x3.toInt = 0 → Wb rod d B_Ways_goRoundOn 14 [u0, u1, u2, some (.inl x3), u4, u5] [] h Q) : Wb rod d B_Ways_goRoundOn 10 [u0, u1, u2, some (.inl x3), u4, u5] [] h Q := by
  refine Wb.br (fun _ _ => b_Ways_goRoundOn_10) (fun c => ?_) (fun c => ?_)
  · have c : (!(decide (x3 = 0))) = true := by first | exact c | (simp only [Option.getD_some] at c; exact c)
    (first | exact (k1 (c_net c)) | (simp only [Option.getD_some]; exact (k1 (c_net c))))
  · have c : (!(decide (x3 = 0))) = false := by first | exact c | (simp only [Option.getD_some] at c; exact c)
    (first | exact (k2 (c_nef c)) | (simp only [Option.getD_some]; exact (k2 (c_nef c))))
theorem w_Ways_goRoundOn_14 {rod : Nat → Nat × (Nat → Int32)} {d : Nat} {Q : Option MV → MH → Prop} {u1 : Option MV} {u2 : Option MV} {u3 : Option MV} {x4 : Int32} {u5 : Option MV} {h : MH} (L : Lay h.2)  (k : Wb rod d B_Ways_goRoundOn 20 [some (.inr (.inr (.inl (some 70)))), u1, u2, u3, some (.inl x4), u5] [] (sI h 70 5 x4) Q) : Wb rod d B_Ways_goRoundOn 14 [some (.inr (.inr (.inl (some 70)))), u1, u2, u3, some (.inl x4), u5] [] h Q := by
  refine Wb.go (fun r hr q => b_Ways_goRoundOn_14 (Lay.o70 L) ?_) k
  (first | exact q | (simp only [Option.getD_some]; exact q))
theorem w_Ways_goRoundOn_20 {rod : Nat → Nat × (Nat → Int32)} {d : Nat} {Q : Option MV → MH → Prop} {x1 : Int32} {u2 : Option MV} {u3 : Option MV} {u4 : Option MV} {u5 : Option MV} {h : MH} (L : Lay h.2)  {Q1 : Option MV → MH → Prop} (c : Wc rod d 106 [.inr (.inr (.inl (some 70))), .inl x1] h Q1) (k : ∀ r1 h2, Q1 r1 h2 → Wb rod d B_Ways_goRoundOn 25 [some (.inr (.inr (.inl (some 70)))), some (.inl x1), u2, u3, u4, u5] (r1.toList ++ []) h2 Q) : Wb rod d B_Ways_goRoundOn 20 [some (.inr (.inr (.inl (some 70)))), some (.inl x1), u2, u3, u4, u5] [] h Q := by
  refine Wb.call (fun _ _ _ _ => b_Ways_goRoundOn_20 (Lay.o70 L)) (Q1 := Q1) ?_ ?_
  · (first | exact c | (simp only [Option.getD_some]; exact c))
  · (first | exact k | (simp only [Option.getD_some]; exact k))
theorem w_Ways_goRoundOn_25 {rod : Nat → Nat × (Nat → Int32)} {d : Nat} {Q : Option MV → MH → Prop} {u0 : Option MV} {x1 : Int32} {u2 : Option MV} {u3 : Option MV} {u4 : Option MV} {u5 : Option MV} {h : MH}   (k1 : x1.toInt < 5 → Wb rod d B_Ways_goRoundOn 31 [u0, some (.inl x1), u2, u3, u4, u5] [] h Q) (k2 : ¬ x1.toInt < 5 → Wb rod d B_Ways_goRoundOn 30 [u0, some (.inl x1), u2, u3, u4, u5] [] h Q) : Wb rod d B_Ways_goRoundOn 25 [u0, some (.inl x1), u2, u3, u4, u5] [] h Q := by
  refine Wb.br (fun _ _ => b_Ways_goRoundOn_25) (fun c => ?_) (fun c => ?_)
  · have c : (decide (x1 < (5 : Int32))) = true := by first | exact c | (simp only [Option.getD_some] at c; exact c)
    (first | exact (k1 (c_ltt c)) | (simp only [Option.getD_some]; exact (k1 (c_ltt c))))
  · have c : (decide (x1 < (5 : Int32))) = false := by first | exact c | (simp only [Option.getD_some] at c; exact c)
    (first | exact (k2 (c_ltf c)) | (simp only [Option.getD_some]; exact (k2 (c_ltf c))))
theorem w_Ways_goRoundOn_30 {rod : Nat → Nat × (Nat → Int32)} {d : Nat} {Q : Option MV → MH → Prop} {u0 : Option MV} {u1 : Option MV} {u2 : Option MV} {u3 : Option MV} {u4 : Option MV} {u5 : Option MV} {h : MH}   (q : Q (none) h) : Wb rod d B_Ways_goRoundOn 30 [u0, u1, u2, u3, u4, u5] [] h Q := by
  refine Wb.ret (b_Ways_goRoundOn_30) ?_
  (first | exact q | (simp only [Option.getD_some]; exact q))
theorem w_Ways_goRoundOn_31 {rod : Nat → Nat × (Nat → Int32)} {d : Nat} {Q : Option MV → MH → Prop} {u0 : Option MV} {u1 : Option MV} {u2 : Option MV} {u3 : Option MV} {u4 : Option MV} {u5 : Option MV} {h : MH}  (g0 : okl [u0, u1, u2, u3, u4, u5] 5 = true) (k : Wb rod d B_Ways_goRoundOn 34 [u0, u1, u2, u3, u4, some (.inl (1 : Int32))] [] h Q) : Wb rod d B_Ways_goRoundOn 31 [u0, u1, u2, u3, u4, u5] [] h Q := by
  refine Wb.go (fun r hr q => b_Ways_goRoundOn_31 g0 ?_) k
  (first | exact q | (simp only [Option.getD_some]; exact q))
theorem w_Ways_goRoundOn_34 {rod : Nat → Nat × (Nat → Int32)} {d : Nat} {Q : Option MV → MH → Prop} {u1 : Option MV} {u2 : Option MV} {u3 : Option MV} {u4 : Option MV} {x5 : Int32} {h : MH} (L : Lay h.2)  (k1 : (h.1 70 0).toInt ≤ x5.toInt → Wb rod d B_Ways_goRoundOn 93 [some (.inr (.inr (.inl (some 70)))), u1, u2, u3, u4, some (.inl x5)] [] h Q) (k2 : ¬ (h.1 70 0).toInt ≤ x5.toInt → Wb rod d B_Ways_goRoundOn 43 [some (.inr (.inr (.inl (some 70)))), u1, u2, u3, u4, some (.inl x5)] [] h Q) : Wb rod d B_Ways_goRoundOn 34 [some (.inr (.inr (.inl (some 70)))), u1, u2, u3, u4, some (.inl x5)] [] h Q := by
  refine Wb.br (fun _ _ => b_Ways_goRoundOn_34 (Lay.o70 L)) (fun c => ?_) (fun c => ?_)
  · have c : (decide ((h.1 70 0) ≤ x5)) = true := by first | exact c | (simp only [Option.getD_some] at c; exact c)
    (first | exact (k1 (c_let c)) | (simp only [Option.getD_some]; exact (k1 (c_let c))))
  · have c : (decide ((h.1 70 0) ≤ x5)) = false := by first | exact c | (simp only [Option.getD_some] at c; exact c)
    (first | exact (k2 (c_lef c)) | (simp only [Option.getD_some]; exact (k2 (c_lef c))))
theorem w_Ways_goRoundOn_43 {rod : Nat → Nat × (Nat → Int32)} {d : Nat} {Q : Option MV → MH → Prop} {u0 : Option MV} {u1 : Option MV} {u2 : Option MV} {x3 : Int32} {u4 : Option MV} {x5 : Int32} {h : MH}   (k1 : ((x3 >>> (x5 &&& 31)) &&& (1 : Int32)).toInt = 0 → Wb rod d B_Ways_goRoundOn 87 [u0, u1, u2, some (.inl x3), u4, some (.inl x5)] [] h Q) (k2 : ¬ ((x3 >>> (x5 &&& 31)) &&& (1 : Int32)).toInt = 0 → Wb rod d B_Ways_goRoundOn 52 [u0, u1, u2, some (.inl x3), u4, some (.inl x5)] [] h Q) : Wb rod d B_Ways_goRoundOn 43 [u0, u1, u2, some (.inl x3), u4, some (.inl x5)] [] h Q := by
  refine Wb.br (fun _ _ => b_Ways_goRoundOn_43) (fun c => ?_) (fun c => ?_)
  · have c : (decide (((x3 >>> (x5 &&& 31)) &&& (1 : Int32)) = 0)) = true := by first | exact c | (simp only [Option.getD_some] at c; exact c)
    (first | exact (k1 (c_eqt c)) | (simp only [Option.getD_some]; exact (k1 (c_eqt c))))
  · have c : (decide (((x3 >>> (x5 &&& 31)) &&& (1 : Int32)) = 0)) = false := by first | exact c | (simp only [Option.getD_some] at c; exact c)
    (first | exact (k2 (c_eqf c)) | (simp only [Option.getD_some]; exact (k2 (c_eqf c))))
theorem w_Ways_goRoundOn_52 {rod : Nat → Nat × (Nat → Int32)} {d : Nat} {Q : Option MV → MH → Prop} {x1 : Int32} {u2 : Option MV} {u3 : Option MV} {u4 : Option MV} {x5 : Int32} {h : MH} (L : Lay h.2) (g0 : 0 ≤ x1.toInt ∧ x1.toInt < 6) (k : Wb rod d B_Ways_goRoundOn 60 [some (.inr (.inr (.inl (some 70)))), some (.inl x1), u2, u3, u4, some (.inl x5)] [] (sI h 73 x1.toNatClampNeg x5) Q) : Wb rod d B_Ways_goRoundOn 52 [some (.inr (.inr (.inl (some 70)))), some (.inl x1), u2, u3, u4, some (.inl x5)] [] h Q := by
  refine Wb.go (fun r hr q => b_Ways_goRoundOn_52 (Lay.o70 L) (Lay.a70_3 L g0) ?_) k
  (first | exact q | (simp only [Option.getD_some, (Lay.r70_3 L)]; exact q))
theorem w_Ways_goRoundOn_60 {rod : Nat → Nat × (Nat → Int32)} {d : Nat} {Q : Option MV → MH → Prop} {x1 : Int32} {x2 : Int32} {x3 : Int32} {x4 : Int32} {x5 : Int32} {h : MH} (L : Lay h.2)  {Q1 : Option MV → MH → Prop} (c : Wc rod d 100 [.inr (.inr (.inl (some 70))), .inl x2, .inl x5] h Q1) (k : ∀ r1 h2, Q1 r1 h2 → Wb rod d B_Ways_goRoundOn 83 [some (.inr (.inr (.inl (some 70)))), some (.inl x1), some (.inl x2), some (.inl x3), some (.inl x4), some (.inl x5)] (r1.toList ++ [.inl x4, .inl (x3 &&& (((1 : Int32) <<< (x5 &&& 31)) ^^^ (-1 : Int32))), .inl x5, .inl (x1 + (1 : Int32)), .inr (.inr (.inl (some 70)))]) h2 Q) : Wb rod d B_Ways_goRoundOn 60 [some (.inr (.inr (.inl (some 70)))), some (.inl x1), some (.inl x2), some (.inl x3), some (.inl x4), some (.inl x5)] [] h Q := by
  refine Wb.call (fun _ _ _ _ => b_Ways_goRoundOn_60 (Lay.o70 L)) (Q1 := Q1) ?_ ?_
  · (first | exact c | (simp only [Option.getD_some]; exact c))
  · (first | exact k | (simp only [Option.getD_some]; exact k))
theorem w_Ways_goRoundOn_83 {rod : Nat → Nat × (Nat → Int32)} {d : Nat} {Q : Option MV → MH → Prop} {u0 : Option MV} {u1 : Option MV} {u2 : Option MV} {u3 : Option MV} {u4 : Option MV} {u5 : Option MV} {xs1 : Int32} {xs2 : Int32} {xs3 : Int32} {xs4 : Int32} {xs5 : Int32} {h : MH} (L : Lay h.2)  {Q1 : Option MV → MH → Prop} (c : Wc rod d 156 [.inr (.inr (.inl (some 70))), .inl xs1, .inl xs2, .inl xs3, .inl (xs4 + xs5)] h Q1) (k : ∀ r1 h2, Q1 r1 h2 → Wb rod d B_Ways_goRoundOn 87 [u0, u1, u2, u3, u4, u5] (r1.toList ++ []) h2 Q) : Wb rod d B_Ways_goRoundOn 83 [u0, u1, u2, u3, u4, u5] [.inl xs5, .inl xs4, .inl xs3, .inl xs2, .inl xs1, .inr (.inr (.inl (some 70)))] h Q := by
  refine Wb.call (fun _ _ _ _ => b_Ways_goRoundOn_83 (Lay.o70 L)) (Q1 := Q1) ?_ ?_
  · (first | exact c | (simp only [Option.getD_some]; exact c))
  · (first | exact k | (simp only [Option.getD_some]; exact k))
theorem w_Ways_goRoundOn_87 {rod : Nat → Nat × (Nat → Int32)} {d : Nat} {Q : Option MV → MH → Prop} {u0 : Option MV} {u1 : Option MV} {u2 : Option MV} {u3 : Option MV} {u4 : Option MV} {x5 : Int32} {h : MH}  (g0 : okl [u0, u1, u2, u3, u4, some (.inl x5)] 5 = true) (k : Wb rod d B_Ways_goRoundOn 34 [u0, u1, u2, u3, u4, some (.inl (x5 + 1))] [] h Q) : Wb rod d B_Ways_goRoundOn 87 [u0, u1, u2, u3, u4, some (.inl x5)] [] h Q := by
  refine Wb.go (fun r hr q => b_Ways_goRoundOn_87 g0 ?_) k
  (first | exact q | (simp only [Option.getD_some]; exact q))
theorem w_Ways_goRoundOn_93 {rod : Nat → Nat × (Nat → Int32)} {d : Nat} {Q : Option MV → MH → Prop} {u0 : Option MV} {u1 : Option MV} {u2 : Option MV} {u3 : Option MV} {u4 : Option MV} {u5 : Option MV} {h : MH}   (q : Q (none) h) : Wb rod d B_Ways_goRoundOn 93 [u0, u1, u2, u3, u4, u5] [] h Q := by
  refine Wb.ret (b_Ways_goRoundOn_93) ?_
  (first | exact q | (simp only [Option.getD_some]; exact q))
theorem n_Main_reach {rod : Nat → Nat × (Nat → Int32)} {d : Nat} {Q : Option MV → MH → Prop} {x1 : Int32} {x2 : Int32} {h : MH} (k : Wb rod d B_Main_reach 0 [some (.inr (.inr (.inl (some 0)))), some (.inl x1), some (.inl x2), none] [] h Q) : Wc rod (d + 1) 157 [.inr (.inr (.inl (some 0))), .inl x1, .inl x2] h Q := Wc.en (fun _ _ => e_Main_reach) k
theorem w_Main_reach_0 {rod : Nat → Nat × (Nat → Int32)} {d : Nat} {Q : Option MV → MH → Prop} {x1 : Int32} {u2 : Option MV} {u3 : Option MV} {h : MH} (L : Lay h.2)  {Q1 : Option MV → MH → Prop} (c : Wc rod d 61 [.inr (.inr (.inl (some 1))), .inl x1] h Q1) (k : ∀ r1 h2, Q1 r1 h2 → Wb rod d B_Main_reach 8 [some (.inr (.inr (.inl (some 0)))), some (.inl x1), u2, u3] (r1.toList ++ []) h2 Q) : Wb rod d B_Main_reach 0 [some (.inr (.inr (.inl (some 0)))), some (.inl x1), u2, u3] [] h Q := by
  refine Wb.call (fun _ _ _ _ => b_Main_reach_0 (Lay.o0 L) (Lay.k0_0 L)) (Q1 := Q1) ?_ ?_
  · (first | exact c | (simp only [Option.getD_some, (Lay.r0_0 L)]; exact c))
  · (first | exact k | (simp only [Option.getD_some, (Lay.r0_0 L)]; exact k))
theorem w_Main_reach_8 {rod : Nat → Nat × (Nat → Int32)} {d : Nat} {Q : Option MV → MH → Prop} {u0 : Option MV} {u1 : Option MV} {u2 : Option MV} {u3 : Option MV} {os0 : Option Nat} {h : MH}  (g0 : okl [u0, u1, u2, u3] 3 = true) (k1 : os0 = none → Wb rod d B_Main_reach 23 [u0, u1, u2, some (.inr (.inr (.inl os0)))] [] h Q) (k2 : ∀ v, os0 = some v → Wb rod d B_Main_reach 13 [u0, u1, u2, some (.inr (.inr (.inl os0)))] [] h Q) : Wb rod d B_Main_reach 8 [u0, u1, u2, u3] [.inr (.inr (.inl os0))] h Q := by
  cases os0 with
  | none =>
    refine Wb.br (fun _ _ => b_Main_reach_8 g0) (fun c => ?_) (fun c => ?_)
    · exact k1 rfl
    · simp at c
  | some v =>
    refine Wb.br (fun _ _ => b_Main_reach_8 g0) (fun c => ?_) (fun c => ?_)
    · simp at c
    · exact k2 v rfl
theorem w_Main_reach_13 {rod : Nat → Nat × (Nat → Int32)} {d : Nat} {Q : Option MV → MH → Prop} {u0 : Option MV} {u1 : Option MV} {x2 : Int32} {u3 : Option MV} {h : MH}   (k1 : x2.toInt < 0 → Wb rod d B_Main_reach 23 [u0, u1, some (.inl x2), u3] [] h Q) (k2 : ¬ x2.toInt < 0 → Wb rod d B_Main_reach 17 [u0, u1, some (.inl x2), u3] [] h Q) : Wb rod d B_Main_reach 13 [u0, u1, some (.inl x2), u3] [] h Q := by
  refine Wb.br (fun _ _ => b_Main_reach_13) (fun c => ?_) (fun c => ?_)
  · have c : (decide (x2 < 0)) = true := by first | exact c | (simp only [Option.getD_some] at c; exact c)
    (first | exact (k1 (c_ltt c)) | (simp only [Option.getD_some]; exact (k1 (c_ltt c))))
  · have c : (decide (x2 < 0)) = false := by first | exact c | (simp only [Option.getD_some] at c; exact c)
    (first | exact (k2 (c_ltf c)) | (simp only [Option.getD_some]; exact (k2 (c_ltf c))))
theorem w_Main_reach_17 {rod : Nat → Nat × (Nat → Int32)} {d : Nat} {Q : Option MV → MH → Prop} {u0 : Option MV} {u1 : Option MV} {x2 : Int32} {u3 : Option MV} {h : MH}   (k1 : x2.toInt ≤ 99 → Wb rod d B_Main_reach 25 [u0, u1, some (.inl x2), u3] [] h Q) (k2 : ¬ x2.toInt ≤ 99 → Wb rod d B_Main_reach 23 [u0, u1, some (.inl x2), u3] [] h Q) : Wb rod d B_Main_reach 17 [u0, u1, some (.inl x2), u3] [] h Q := by
  refine Wb.br (fun _ _ => b_Main_reach_17) (fun c => ?_) (fun c => ?_)
  · have c : (decide (x2 ≤ (99 : Int32))) = true := by first | exact c | (simp only [Option.getD_some] at c; exact c)
    (first | exact (k1 (c_let c)) | (simp only [Option.getD_some]; exact (k1 (c_let c))))
  · have c : (decide (x2 ≤ (99 : Int32))) = false := by first | exact c | (simp only [Option.getD_some] at c; exact c)
    (first | exact (k2 (c_lef c)) | (simp only [Option.getD_some]; exact (k2 (c_lef c))))
theorem w_Main_reach_23 {rod : Nat → Nat × (Nat → Int32)} {d : Nat} {Q : Option MV → MH → Prop} {u0 : Option MV} {u1 : Option MV} {u2 : Option MV} {u3 : Option MV} {h : MH}   (q : Q (some (.inl (-1 : Int32))) h) : Wb rod d B_Main_reach 23 [u0, u1, u2, u3] [] h Q := by
  refine Wb.ret (b_Main_reach_23) ?_
  (first | exact q | (simp only [Option.getD_some]; exact q))
theorem w_Main_reach_25 {rod : Nat → Nat × (Nat → Int32)} {d : Nat} {Q : Option MV → MH → Prop} {u1 : Option MV} {u2 : Option MV} {a3 : Nat} {h : MH} (L : Lay h.2) (A3 : LandA h.2 a3)  {Q1 : Option MV → MH → Prop} (c : Wc rod d 99 [.inr (.inr (.inl (some 70))), .inr (.inr (.inl (some a3))), .inl (h.1 a3 3)] h Q1) (k : ∀ r1 h2, Q1 r1 h2 → Wb rod d B_Main_reach 37 [some (.inr (.inr (.inl (some 0)))), u1, u2, some (.inr (.inr (.inl (some a3))))] (r1.toList ++ []) h2 Q) : Wb rod d B_Main_reach 25 [some (.inr (.inr (.inl (some 0)))), u1, u2, some (.inr (.inr (.inl (some a3))))] [] h Q := by
  refine Wb.call (fun _ _ _ _ => b_Main_reach_25 (Lay.o0 L) (A3.o) (Lay.k0_4 L)) (Q1 := Q1) ?_ ?_
  · (first | exact c | (simp only [Option.getD_some, (Lay.r0_4 L)]; exact c))
  · (first | exact k | (simp only [Option.getD_some, (Lay.r0_4 L)]; exact k))
theorem w_Main_reach_37 {rod : Nat → Nat × (Nat → Int32)} {d : Nat} {Q : Option MV → MH → Prop} {u1 : Option MV} {x2 : Int32} {u3 : Option MV} {h : MH} (L : Lay h.2)  {Q1 : Option MV → MH → Prop} (c : Wc rod d 158 [.inr (.inr (.inl (some 70))), .inl x2] h Q1) (k : ∀ r1 h2, Q1 r1 h2 → Wb rod d B_Main_reach 45 [some (.inr (.inr (.inl (some 0)))), u1, some (.inl x2), u3] (r1.toList ++ []) h2 Q) : Wb rod d B_Main_reach 37 [some (.inr (.inr (.inl (some 0)))), u1, some (.inl x2), u3] [] h Q := by
  refine Wb.call (fun _ _ _ _ => b_Main_reach_37 (Lay.o0 L) (Lay.k0_4 L)) (Q1 := Q1) ?_ ?_
  · (first | exact c | (simp only [Option.getD_some, (Lay.r0_4 L)]; exact c))
  · (first | exact k | (simp only [Option.getD_some, (Lay.r0_4 L)]; exact k))
theorem w_Main_reach_45 {rod : Nat → Nat × (Nat → Int32)} {d : Nat} {Q : Option MV → MH → Prop} {u0 : Option MV} {u1 : Option MV} {u2 : Option MV} {u3 : Option MV} {xs0 : Int32} {h : MH}   (q : Q (some (.inl xs0)) h) : Wb rod d B_Main_reach 45 [u0, u1, u2, u3] [.inl xs0] h Q := by
  refine Wb.ret (b_Main_reach_45) ?_
  (first | exact q | (simp only [Option.getD_some]; exact q))
theorem n_Ways_townsWithin {rod : Nat → Nat × (Nat → Int32)} {d : Nat} {Q : Option MV → MH → Prop} {x1 : Int32} {h : MH} (k : Wb rod d B_Ways_townsWithin 0 [some (.inr (.inr (.inl (some 70)))), some (.inl x1), none, none] [] h Q) : Wc rod (d + 1) 158 [.inr (.inr (.inl (some 70))), .inl x1] h Q := Wc.en (fun _ _ => e_Ways_townsWithin) k
theorem w_Ways_townsWithin_0 {rod : Nat → Nat × (Nat → Int32)} {d : Nat} {Q : Option MV → MH → Prop} {u0 : Option MV} {u1 : Option MV} {u2 : Option MV} {u3 : Option MV} {h : MH}  (g0 : okl [u0, u1, u2, u3] 2 = true) (k : Wb rod d B_Ways_townsWithin 4 [u0, u1, some (.inl (0 : Int32)), some (.inl (0 : Int32))] [] h Q) : Wb rod d B_Ways_townsWithin 0 [u0, u1, u2, u3] [] h Q := by
  refine Wb.go (fun r hr q => b_Ways_townsWithin_0 g0 ?_) k
  (first | exact q | (simp only [Option.getD_some]; exact q))
theorem w_Ways_townsWithin_4 {rod : Nat → Nat × (Nat → Int32)} {d : Nat} {Q : Option MV → MH → Prop} {u1 : Option MV} {u2 : Option MV} {x3 : Int32} {h : MH} (L : Lay h.2)  (k1 : (h.1 70 0).toInt ≤ x3.toInt → Wb rod d B_Ways_townsWithin 34 [some (.inr (.inr (.inl (some 70)))), u1, u2, some (.inl x3)] [] h Q) (k2 : ¬ (h.1 70 0).toInt ≤ x3.toInt → Wb rod d B_Ways_townsWithin 12 [some (.inr (.inr (.inl (some 70)))), u1, u2, some (.inl x3)] [] h Q) : Wb rod d B_Ways_townsWithin 4 [some (.inr (.inr (.inl (some 70)))), u1, u2, some (.inl x3)] [] h Q := by
  refine Wb.br (fun _ _ => b_Ways_townsWithin_4 (Lay.o70 L)) (fun c => ?_) (fun c => ?_)
  · have c : (decide ((h.1 70 0) ≤ x3)) = true := by first | exact c | (simp only [Option.getD_some] at c; exact c)
    (first | exact (k1 (c_let c)) | (simp only [Option.getD_some]; exact (k1 (c_let c))))
  · have c : (decide ((h.1 70 0) ≤ x3)) = false := by first | exact c | (simp only [Option.getD_some] at c; exact c)
    (first | exact (k2 (c_lef c)) | (simp only [Option.getD_some]; exact (k2 (c_lef c))))
theorem w_Ways_townsWithin_12 {rod : Nat → Nat × (Nat → Int32)} {d : Nat} {Q : Option MV → MH → Prop} {u1 : Option MV} {u2 : Option MV} {x3 : Int32} {h : MH} (L : Lay h.2)  {Q1 : Option MV → MH → Prop} (c : Wc rod d 100 [.inr (.inr (.inl (some 70))), .inl (0 : Int32), .inl x3] h Q1) (k : ∀ r1 h2, Q1 r1 h2 → Wb rod d B_Ways_townsWithin 18 [some (.inr (.inr (.inl (some 70)))), u1, u2, some (.inl x3)] (r1.toList ++ []) h2 Q) : Wb rod d B_Ways_townsWithin 12 [some (.inr (.inr (.inl (some 70)))), u1, u2, some (.inl x3)] [] h Q := by
  refine Wb.call (fun _ _ _ _ => b_Ways_townsWithin_12 (Lay.o70 L)) (Q1 := Q1) ?_ ?_
  · (first | exact c | (simp only [Option.getD_some]; exact c))
  · (first | exact k | (simp only [Option.getD_some]; exact k))
theorem w_Ways_townsWithin_18 {rod : Nat → Nat × (Nat → Int32)} {d : Nat} {Q : Option MV → MH → Prop} {u0 : Option MV} {x1 : Int32} {u2 : Option MV} {u3 : Option MV} {xs0 : Int32} {h : MH}   (k1 : x1.toInt < xs0.toInt → Wb rod d B_Ways_townsWithin 28 [u0, some (.inl x1), u2, u3] [] h Q) (k2 : ¬ x1.toInt < xs0.toInt → Wb rod d B_Ways_townsWithin 22 [u0, some (.inl x1), u2, u3] [] h Q) : Wb rod d B_Ways_townsWithin 18 [u0, some (.inl x1), u2, u3] [.inl xs0] h Q := by
  refine Wb.br (fun _ _ => b_Ways_townsWithin_18) (fun c => ?_) (fun c => ?_)
  · have c : (decide (x1 < xs0)) = true := by first | exact c | (simp only [Option.getD_some] at c; exact c)
    (first | exact (k1 (c_ltt c)) | (simp only [Option.getD_some]; exact (k1 (c_ltt c))))
  · have c : (decide (x1 < xs0)) = false := by first | exact c | (simp only [Option.getD_some] at c; exact c)
    (first | exact (k2 (c_ltf c)) | (simp only [Option.getD_some]; exact (k2 (c_ltf c))))
theorem w_Ways_townsWithin_22 {rod : Nat → Nat × (Nat → Int32)} {d : Nat} {Q : Option MV → MH → Prop} {u0 : Option MV} {u1 : Option MV} {x2 : Int32} {x3 : Int32} {h : MH}  (g0 : okl [u0, u1, some (.inl x2), some (.inl x3)] 2 = true) (k : Wb rod d B_Ways_townsWithin 28 [u0, u1, some (.inl (x2 ||| ((1 : Int32) <<< (x3 &&& 31)))), some (.inl x3)] [] h Q) : Wb rod d B_Ways_townsWithin 22 [u0, u1, some (.inl x2), some (.inl x3)] [] h Q := by
  refine Wb.go (fun r hr q => b_Ways_townsWithin_22 g0 ?_) k
  (first | exact q | (simp only [Option.getD_some]; exact q))
theorem w_Ways_townsWithin_28 {rod : Nat → Nat × (Nat → Int32)} {d : Nat} {Q : Option MV → MH → Prop} {u0 : Option MV} {u1 : Option MV} {u2 : Option MV} {x3 : Int32} {h : MH}  (g0 : okl [u0, u1, u2, some (.inl x3)] 3 = true) (k : Wb rod d B_Ways_townsWithin 4 [u0, u1, u2, some (.inl (x3 + 1))] [] h Q) : Wb rod d B_Ways_townsWithin 28 [u0, u1, u2, some (.inl x3)] [] h Q := by
  refine Wb.go (fun r hr q => b_Ways_townsWithin_28 g0 ?_) k
  (first | exact q | (simp only [Option.getD_some]; exact q))
theorem w_Ways_townsWithin_34 {rod : Nat → Nat × (Nat → Int32)} {d : Nat} {Q : Option MV → MH → Prop} {u0 : Option MV} {u1 : Option MV} {x2 : Int32} {u3 : Option MV} {h : MH}   (q : Q (some (.inl x2)) h) : Wb rod d B_Ways_townsWithin 34 [u0, u1, some (.inl x2), u3] [] h Q := by
  refine Wb.ret (b_Ways_townsWithin_34) ?_
  (first | exact q | (simp only [Option.getD_some]; exact q))
theorem n_Main_centre {rod : Nat → Nat × (Nat → Int32)} {d : Nat} {Q : Option MV → MH → Prop} {x1 : Int32} {x2 : Int32} {h : MH} (k : Wb rod d B_Main_centre 0 [some (.inr (.inr (.inl (some 0)))), some (.inl x1), some (.inl x2), none, none] [] h Q) : Wc rod (d + 1) 159 [.inr (.inr (.inl (some 0))), .inl x1, .inl x2] h Q := Wc.en (fun _ _ => e_Main_centre) k
theorem w_Main_centre_0 {rod : Nat → Nat × (Nat → Int32)} {d : Nat} {Q : Option MV → MH → Prop} {x1 : Int32} {u2 : Option MV} {u3 : Option MV} {u4 : Option MV} {h : MH} (L : Lay h.2)  {Q1 : Option MV → MH → Prop} (c : Wc rod d 61 [.inr (.inr (.inl (some 1))), .inl x1] h Q1) (k : ∀ r1 h2, Q1 r1 h2 → Wb rod d B_Main_centre 8 [some (.inr (.inr (.inl (some 0)))), some (.inl x1), u2, u3, u4] (r1.toList ++ []) h2 Q) : Wb rod d B_Main_centre 0 [some (.inr (.inr (.inl (some 0)))), some (.inl x1), u2, u3, u4] [] h Q := by
  refine Wb.call (fun _ _ _ _ => b_Main_centre_0 (Lay.o0 L) (Lay.k0_0 L)) (Q1 := Q1) ?_ ?_
  · (first | exact c | (simp only [Option.getD_some, (Lay.r0_0 L)]; exact c))
  · (first | exact k | (simp only [Option.getD_some, (Lay.r0_0 L)]; exact k))
theorem w_Main_centre_8 {rod : Nat → Nat × (Nat → Int32)} {d : Nat} {Q : Option MV → MH → Prop} {u0 : Option MV} {u1 : Option MV} {u2 : Option MV} {u3 : Option MV} {u4 : Option MV} {os0 : Option Nat} {h : MH}  (g0 : okl [u0, u1, u2, u3, u4] 3 = true) (k1 : os0 = none → Wb rod d B_Main_centre 13 [u0, u1, u2, some (.inr (.inr (.inl os0))), u4] [] h Q) (k2 : ∀ v, os0 = some v → Wb rod d B_Main_centre 15 [u0, u1, u2, some (.inr (.inr (.inl os0))), u4] [] h Q) : Wb rod d B_Main_centre 8 [u0, u1, u2, u3, u4] [.inr (.inr (.inl os0))] h Q := by
  cases os0 with
  | none =>
    refine Wb.br (fun _ _ => b_Main_centre_8 g0) (fun c => ?_) (fun c => ?_)
    · simp at c
    · exact k1 rfl
  | some v =>
    refine Wb.br (fun _ _ => b_Main_centre_8 g0) (fun c => ?_) (fun c => ?_)
    · exact k2 v rfl
    · simp at c
theorem w_Main_centre_13 {rod : Nat → Nat × (Nat → Int32)} {d : Nat} {Q : Option MV → MH → Prop} {u0 : Option MV} {u1 : Option MV} {u2 : Option MV} {u3 : Option MV} {u4 : Option MV} {h : MH}   (q : Q (some (.inl (-1 : Int32))) h) : Wb rod d B_Main_centre 13 [u0, u1, u2, u3, u4] [] h Q := by
  refine Wb.ret (b_Main_centre_13) ?_
  (first | exact q | (simp only [Option.getD_some]; exact q))
theorem w_Main_centre_15 {rod : Nat → Nat × (Nat → Int32)} {d : Nat} {Q : Option MV → MH → Prop} {u1 : Option MV} {u2 : Option MV} {a3 : Nat} {u4 : Option MV} {h : MH} (L : Lay h.2) (A3 : LandA h.2 a3)  {Q1 : Option MV → MH → Prop} (c : Wc rod d 99 [.inr (.inr (.inl (some 70))), .inr (.inr (.inl (some a3))), .inl (h.1 a3 3)] h Q1) (k : ∀ r1 h2, Q1 r1 h2 → Wb rod d B_Main_centre 27 [some (.inr (.inr (.inl (some 0)))), u1, u2, some (.inr (.inr (.inl (some a3)))), u4] (r1.toList ++ []) h2 Q) : Wb rod d B_Main_centre 15 [some (.inr (.inr (.inl (some 0)))), u1, u2, some (.inr (.inr (.inl (some a3)))), u4] [] h Q := by
  refine Wb.call (fun _ _ _ _ => b_Main_centre_15 (Lay.o0 L) (A3.o) (Lay.k0_4 L)) (Q1 := Q1) ?_ ?_
  · (first | exact c | (simp only [Option.getD_some, (Lay.r0_4 L)]; exact c))
  · (first | exact k | (simp only [Option.getD_some, (Lay.r0_4 L)]; exact k))
theorem w_Main_centre_27 {rod : Nat → Nat × (Nat → Int32)} {d : Nat} {Q : Option MV → MH → Prop} {u1 : Option MV} {u2 : Option MV} {a3 : Nat} {u4 : Option MV} {h : MH} (L : Lay h.2)  {Q1 : Option MV → MH → Prop} (c : Wc rod d 160 [.inr (.inr (.inl (some 70))), .inr (.inr (.inl (some a3)))] h Q1) (k : ∀ r1 h2, Q1 r1 h2 → Wb rod d B_Main_centre 35 [some (.inr (.inr (.inl (some 0)))), u1, u2, some (.inr (.inr (.inl (some a3)))), u4] (r1.toList ++ []) h2 Q) : Wb rod d B_Main_centre 27 [some (.inr (.inr (.inl (some 0)))), u1, u2, some (.inr (.inr (.inl (some a3)))), u4] [] h Q := by
  refine Wb.call (fun _ _ _ _ => b_Main_centre_27 (Lay.o0 L) (Lay.k0_4 L)) (Q1 := Q1) ?_ ?_
  · (first | exact c | (simp only [Option.getD_some, (Lay.r0_4 L)]; exact c))
  · (first | exact k | (simp only [Option.getD_some, (Lay.r0_4 L)]; exact k))
theorem w_Main_centre_35 {rod : Nat → Nat × (Nat → Int32)} {d : Nat} {Q : Option MV → MH → Prop} {u0 : Option MV} {u1 : Option MV} {x2 : Int32} {u3 : Option MV} {u4 : Option MV} {xs0 : Int32} {h : MH}  (g0 : okl [u0, u1, some (.inl x2), u3, u4] 4 = true) (k1 : x2.toInt = 0 → Wb rod d B_Main_centre 60 [u0, u1, some (.inl x2), u3, some (.inl xs0)] [] h Q) (k2 : ¬ x2.toInt = 0 → Wb rod d B_Main_centre 41 [u0, u1, some (.inl x2), u3, some (.inl xs0)] [] h Q) : Wb rod d B_Main_centre 35 [u0, u1, some (.inl x2), u3, u4] [.inl xs0] h Q := by
  refine Wb.br (fun _ _ => b_Main_centre_35 g0) (fun c => ?_) (fun c => ?_)
  · have c : (decide (x2 = 0)) = true := by first | exact c | (simp only [Option.getD_some] at c; exact c)
    (first | exact (k1 (c_eqt c)) | (simp only [Option.getD_some]; exact (k1 (c_eqt c))))
  · have c : (decide (x2 = 0)) = false := by first | exact c | (simp only [Option.getD_some] at c; exact c)
    (first | exact (k2 (c_eqf c)) | (simp only [Option.getD_some]; exact (k2 (c_eqf c))))
theorem w_Main_centre_41 {rod : Nat → Nat × (Nat → Int32)} {d : Nat} {Q : Option MV → MH → Prop} {u0 : Option MV} {u1 : Option MV} {u2 : Option MV} {u3 : Option MV} {x4 : Int32} {h : MH}   (k1 : x4.toInt = (-1) → Wb rod d B_Main_centre 60 [u0, u1, u2, u3, some (.inl x4)] [] h Q) (k2 : ¬ x4.toInt = (-1) → Wb rod d B_Main_centre 47 [u0, u1, u2, u3, some (.inl x4)] [] h Q) : Wb rod d B_Main_centre 41 [u0, u1, u2, u3, some (.inl x4)] [] h Q := by
  refine Wb.br (fun _ _ => b_Main_centre_41) (fun c => ?_) (fun c => ?_)
  · have c : (decide (x4 = (-1 : Int32))) = true := by first | exact c | (simp only [Option.getD_some] at c; exact c)
    (first | exact (k1 (c_eqt c)) | (simp only [Option.getD_some]; exact (k1 (c_eqt c))))
  · have c : (decide (x4 = (-1 : Int32))) = false := by first | exact c | (simp only [Option.getD_some] at c; exact c)
    (first | exact (k2 (c_eqf c)) | (simp only [Option.getD_some]; exact (k2 (c_eqf c))))
theorem w_Main_centre_47 {rod : Nat → Nat × (Nat → Int32)} {d : Nat} {Q : Option MV → MH → Prop} {u1 : Option MV} {u2 : Option MV} {a3 : Nat} {x4 : Int32} {h : MH} (L : Lay h.2)  {Q1 : Option MV → MH → Prop} (c : Wc rod d 161 [.inr (.inr (.inl (some 70))), .inr (.inr (.inl (some a3))), .inl x4] h Q1) (k : ∀ r1 h2, Q1 r1 h2 → Wb rod d B_Main_centre 57 [some (.inr (.inr (.inl (some 0)))), u1, u2, some (.inr (.inr (.inl (some a3)))), some (.inl x4)] (r1.toList ++ []) h2 Q) : Wb rod d B_Main_centre 47 [some (.inr (.inr (.inl (some 0)))), u1, u2, some (.inr (.inr (.inl (some a3)))), some (.inl x4)] [] h Q := by
  refine Wb.call (fun _ _ _ _ => b_Main_centre_47 (Lay.o0 L) (Lay.k0_4 L)) (Q1 := Q1) ?_ ?_
  · (first | exact c | (simp only [Option.getD_some, (Lay.r0_4 L)]; exact c))
  · (first | exact k | (simp only [Option.getD_some, (Lay.r0_4 L)]; exact k))
theorem w_Main_centre_57 {rod : Nat → Nat × (Nat → Int32)} {d : Nat} {Q : Option MV → MH → Prop} {u0 : Option MV} {u1 : Option MV} {u2 : Option MV} {u3 : Option MV} {u4 : Option MV} {xs0 : Int32} {h : MH}   (k : Wb rod d B_Main_centre 62 [u0, u1, u2, u3, u4] [.inl xs0] h Q) : Wb rod d B_Main_centre 57 [u0, u1, u2, u3, u4] [.inl xs0] h Q := by
  refine Wb.go (fun r hr q => b_Main_centre_57 ?_) k
  (first | exact q | (simp only [Option.getD_some]; exact q))
theorem w_Main_centre_60 {rod : Nat → Nat × (Nat → Int32)} {d : Nat} {Q : Option MV → MH → Prop} {u0 : Option MV} {u1 : Option MV} {u2 : Option MV} {u3 : Option MV} {x4 : Int32} {h : MH}   (k : Wb rod d B_Main_centre 62 [u0, u1, u2, u3, some (.inl x4)] [.inl x4] h Q) : Wb rod d B_Main_centre 60 [u0, u1, u2, u3, some (.inl x4)] [] h Q := by
  refine Wb.go (fun r hr q => b_Main_centre_60 ?_) k
  (first | exact q | (simp only [Option.getD_some]; exact q))
theorem w_Main_centre_62 {rod : Nat → Nat × (Nat → Int32)} {d : Nat} {Q : Option MV → MH → Prop} {u0 : Option MV} {u1 : Option MV} {u2 : Option MV} {u3 : Option MV} {u4 : Option MV} {xs0 : Int32} {h : MH}   (q : Q (some (.inl xs0)) h) : Wb rod d B_Main_centre 62 [u0, u1, u2, u3, u4] [.inl xs0] h Q := by
  refine Wb.ret (b_Main_centre_62) ?_
  (first | exact q | (simp only [Option.getD_some]; exact q))
theorem n_Ways_middle {rod : Nat → Nat × (Nat → Int32)} {d : Nat} {Q : Option MV → MH → Prop} {a1 : Nat} {h : MH} (k : Wb rod d B_Ways_middle 0 [some (.inr (.inr (.inl (some 70)))), some (.inr (.inr (.inl (some a1)))), none, none, none, none] [] h Q) : Wc rod (d + 1) 160 [.inr (.inr (.inl (some 70))), .inr (.inr (.inl (some a1)))] h Q := Wc.en (fun _ _ => e_Ways_middle) k
theorem w_Ways_middle_0 {rod : Nat → Nat × (Nat → Int32)} {d : Nat} {Q : Option MV → MH → Prop} {u0 : Option MV} {u1 : Option MV} {u2 : Option MV} {u3 : Option MV} {u4 : Option MV} {u5 : Option MV} {h : MH}  (g0 : okl [u0, u1, u2, u3, u4, u5] 2 = true) (k : Wb rod d B_Ways_middle 9 [u0, u1, some (.inl (-1 : Int32)), some (.inl (1000 : Int32)), some (.inl (0 : Int32)), u5] [] h Q) : Wb rod d B_Ways_middle 0 [u0, u1, u2, u3, u4, u5] [] h Q := by
  refine Wb.go (fun r hr q => b_Ways_middle_0 g0 ?_) k
  (first | exact q | (simp only [Option.getD_some]; exact q))
theorem w_Ways_middle_9 {rod : Nat → Nat × (Nat → Int32)} {d : Nat} {Q : Option MV → MH → Prop} {u1 : Option MV} {u2 : Option MV} {u3 : Option MV} {x4 : Int32} {u5 : Option MV} {h : MH} (L : Lay h.2)  (k1 : (h.1 70 0).toInt ≤ x4.toInt → Wb rod d B_Ways_middle 57 [some (.inr (.inr (.inl (some 70)))), u1, u2, u3, some (.inl x4), u5] [] h Q) (k2 : ¬ (h.1 70 0).toInt ≤ x4.toInt → Wb rod d B_Ways_middle 18 [some (.inr (.inr (.inl (some 70)))), u1, u2, u3, some (.inl x4), u5] [] h Q) : Wb rod d B_Ways_middle 9 [some (.inr (.inr (.inl (some 70)))), u1, u2, u3, some (.inl x4), u5] [] h Q := by
  refine Wb.br (fun _ _ => b_Ways_middle_9 (Lay.o70 L)) (fun c => ?_) (fun c => ?_)
  · have c : (decide ((h.1 70 0) ≤ x4)) = true := by first | exact c | (simp only [Option.getD_some] at c; exact c)
    (first | exact (k1 (c_let c)) | (simp only [Option.getD_some]; exact (k1 (c_let c))))
  · have c : (decide ((h.1 70 0) ≤ x4)) = false := by first | exact c | (simp only [Option.getD_some] at c; exact c)
    (first | exact (k2 (c_lef c)) | (simp only [Option.getD_some]; exact (k2 (c_lef c))))
theorem w_Ways_middle_18 {rod : Nat → Nat × (Nat → Int32)} {d : Nat} {Q : Option MV → MH → Prop} {a1 : Nat} {u2 : Option MV} {u3 : Option MV} {x4 : Int32} {u5 : Option MV} {h : MH} (L : Lay h.2)  {Q1 : Option MV → MH → Prop} (c : Wc rod d 161 [.inr (.inr (.inl (some 70))), .inr (.inr (.inl (some a1))), .inl x4] h Q1) (k : ∀ r1 h2, Q1 r1 h2 → Wb rod d B_Ways_middle 25 [some (.inr (.inr (.inl (some 70)))), some (.inr (.inr (.inl (some a1)))), u2, u3, some (.inl x4), u5] (r1.toList ++ []) h2 Q) : Wb rod d B_Ways_middle 18 [some (.inr (.inr (.inl (some 70)))), some (.inr (.inr (.inl (some a1)))), u2, u3, some (.inl x4), u5] [] h Q := by
  refine Wb.call (fun _ _ _ _ => b_Ways_middle_18 (Lay.o70 L)) (Q1 := Q1) ?_ ?_
  · (first | exact c | (simp only [Option.getD_some]; exact c))
  · (first | exact k | (simp only [Option.getD_some]; exact k))
theorem w_Ways_middle_25 {rod : Nat → Nat × (Nat → Int32)} {d : Nat} {Q : Option MV → MH → Prop} {u0 : Option MV} {a1 : Nat} {u2 : Option MV} {u3 : Option MV} {x4 : Int32} {u5 : Option MV} {xs0 : Int32} {h : MH} (A1 : LandA h.2 a1)  (k1 : ¬ (((h.1 a1 3) >>> (x4 &&& 31)) &&& (1 : Int32)).toInt = 0 → Wb rod d B_Ways_middle 51 [u0, some (.inr (.inr (.inl (some a1)))), u2, u3, some (.inl x4), some (.inl xs0)] [] h Q) (k2 : (((h.1 a1 3) >>> (x4 &&& 31)) &&& (1 : Int32)).toInt = 0 → Wb rod d B_Ways_middle 39 [u0, some (.inr (.inr (.inl (some a1)))), u2, u3, some (.inl x4), some (.inl xs0)] [] h Q) : Wb rod d B_Ways_middle 25 [u0, some (.inr (.inr (.inl (some a1)))), u2, u3, some (.inl x4), u5] [.inl xs0] h Q := by
  refine Wb.br (fun _ _ => b_Ways_middle_25 (A1.o)) (fun c => ?_) (fun c => ?_)
  · have c : (!(decide ((((h.1 a1 3) >>> (x4 &&& 31)) &&& (1 : Int32)) = 0))) = true := by first | exact c | (simp only [Option.getD_some] at c; exact c)
    (first | exact (k1 (c_net c)) | (simp only [Option.getD_some]; exact (k1 (c_net c))))
  · have c : (!(decide ((((h.1 a1 3) >>> (x4 &&& 31)) &&& (1 : Int32)) = 0))) = false := by first | exact c | (simp only [Option.getD_some] at c; exact c)
    (first | exact (k2 (c_nef c)) | (simp only [Option.getD_some]; exact (k2 (c_nef c))))
theorem w_Ways_middle_39 {rod : Nat → Nat × (Nat → Int32)} {d : Nat} {Q : Option MV → MH → Prop} {u0 : Option MV} {u1 : Option MV} {u2 : Option MV} {x3 : Int32} {u4 : Option MV} {x5 : Int32} {h : MH}   (k1 : x3.toInt ≤ x5.toInt → Wb rod d B_Ways_middle 51 [u0, u1, u2, some (.inl x3), u4, some (.inl x5)] [] h Q) (k2 : ¬ x3.toInt ≤ x5.toInt → Wb rod d B_Ways_middle 45 [u0, u1, u2, some (.inl x3), u4, some (.inl x5)] [] h Q) : Wb rod d B_Ways_middle 39 [u0, u1, u2, some (.inl x3), u4, some (.inl x5)] [] h Q := by
  refine Wb.br (fun _ _ => b_Ways_middle_39) (fun c => ?_) (fun c => ?_)
  · have c : (decide (x3 ≤ x5)) = true := by first | exact c | (simp only [Option.getD_some] at c; exact c)
    (first | exact (k1 (c_let c)) | (simp only [Option.getD_some]; exact (k1 (c_let c))))
  · have c : (decide (x3 ≤ x5)) = false := by first | exact c | (simp only [Option.getD_some] at c; exact c)
    (first | exact (k2 (c_lef c)) | (simp only [Option.getD_some]; exact (k2 (c_lef c))))
theorem w_Ways_middle_45 {rod : Nat → Nat × (Nat → Int32)} {d : Nat} {Q : Option MV → MH → Prop} {u0 : Option MV} {u1 : Option MV} {u2 : Option MV} {u3 : Option MV} {x4 : Int32} {x5 : Int32} {h : MH}  (g0 : okl [u0, u1, u2, u3, some (.inl x4), some (.inl x5)] 3 = true) (g1 : okl [u0, u1, u2, some (.inl x5), some (.inl x4), some (.inl x5)] 2 = true) (k : Wb rod d B_Ways_middle 51 [u0, u1, some (.inl x4), some (.inl x5), some (.inl x4), some (.inl x5)] [] h Q) : Wb rod d B_Ways_middle 45 [u0, u1, u2, u3, some (.inl x4), some (.inl x5)] [] h Q := by
  refine Wb.go (fun r hr q => b_Ways_middle_45 g0 g1 ?_) k
  (first | exact q | (simp only [Option.getD_some]; exact q))
theorem w_Ways_middle_51 {rod : Nat → Nat × (Nat → Int32)} {d : Nat} {Q : Option MV → MH → Prop} {u0 : Option MV} {u1 : Option MV} {u2 : Option MV} {u3 : Option MV} {x4 : Int32} {u5 : Option MV} {h : MH}  (g0 : okl [u0, u1, u2, u3, some (.inl x4), u5] 4 = true) (k : Wb rod d B_Ways_middle 9 [u0, u1, u2, u3, some (.inl (x4 + 1)), u5] [] h Q) : Wb rod d B_Ways_middle 51 [u0, u1, u2, u3, some (.inl x4), u5] [] h Q := by
  refine Wb.go (fun r hr q => b_Ways_middle_51 g0 ?_) k
  (first | exact q | (simp only [Option.getD_some]; exact q))
theorem w_Ways_middle_57 {rod : Nat → Nat × (Nat → Int32)} {d : Nat} {Q : Option MV → MH → Prop} {u0 : Option MV} {u1 : Option MV} {x2 : Int32} {u3 : Option MV} {u4 : Option MV} {u5 : Option MV} {h : MH}   (q : Q (some (.inl x2)) h) : Wb rod d B_Ways_middle 57 [u0, u1, some (.inl x2), u3, u4, u5] [] h Q := by
  refine Wb.ret (b_Ways_middle_57) ?_
  (first | exact q | (simp only [Option.getD_some]; exact q))
theorem n_Ways_furthestFrom {rod : Nat → Nat × (Nat → Int32)} {d : Nat} {Q : Option MV → MH → Prop} {a1 : Nat} {x2 : Int32} {h : MH} (k : Wb rod d B_Ways_furthestFrom 0 [some (.inr (.inr (.inl (some 70)))), some (.inr (.inr (.inl (some a1)))), some (.inl x2), none, none] [] h Q) : Wc rod (d + 1) 161 [.inr (.inr (.inl (some 70))), .inr (.inr (.inl (some a1))), .inl x2] h Q := Wc.en (fun _ _ => e_Ways_furthestFrom) k
theorem w_Ways_furthestFrom_0 {rod : Nat → Nat × (Nat → Int32)} {d : Nat} {Q : Option MV → MH → Prop} {u0 : Option MV} {u1 : Option MV} {u2 : Option MV} {u3 : Option MV} {u4 : Option MV} {h : MH}  (g0 : okl [u0, u1, u2, u3, u4] 3 = true) (k : Wb rod d B_Ways_furthestFrom 5 [u0, u1, u2, some (.inl (0 : Int32)), some (.inl (0 : Int32))] [] h Q) : Wb rod d B_Ways_furthestFrom 0 [u0, u1, u2, u3, u4] [] h Q := by
  refine Wb.go (fun r hr q => b_Ways_furthestFrom_0 g0 ?_) k
  (first | exact q | (simp only [Option.getD_some]; exact q))
theorem w_Ways_furthestFrom_5 {rod : Nat → Nat × (Nat → Int32)} {d : Nat} {Q : Option MV → MH → Prop} {u1 : Option MV} {u2 : Option MV} {u3 : Option MV} {x4 : Int32} {h : MH} (L : Lay h.2)  (k1 : (h.1 70 0).toInt ≤ x4.toInt → Wb rod d B_Ways_furthestFrom 44 [some (.inr (.inr (.inl (some 70)))), u1, u2, u3, some (.inl x4)] [] h Q) (k2 : ¬ (h.1 70 0).toInt ≤ x4.toInt → Wb rod d B_Ways_furthestFrom 14 [some (.inr (.inr (.inl (some 70)))), u1, u2, u3, some (.inl x4)] [] h Q) : Wb rod d B_Ways_furthestFrom 5 [some (.inr (.inr (.inl (some 70)))), u1, u2, u3, some (.inl x4)] [] h Q := by
  refine Wb.br (fun _ _ => b_Ways_furthestFrom_5 (Lay.o70 L)) (fun c => ?_) (fun c => ?_)
  · have c : (decide ((h.1 70 0) ≤ x4)) = true := by first | exact c | (simp only [Option.getD_some] at c; exact c)
    (first | exact (k1 (c_let c)) | (simp only [Option.getD_some]; exact (k1 (c_let c))))
  · have c : (decide ((h.1 70 0) ≤ x4)) = false := by first | exact c | (simp only [Option.getD_some] at c; exact c)
    (first | exact (k2 (c_lef c)) | (simp only [Option.getD_some]; exact (k2 (c_lef c))))
theorem w_Ways_furthestFrom_14 {rod : Nat → Nat × (Nat → Int32)} {d : Nat} {Q : Option MV → MH → Prop} {u0 : Option MV} {a1 : Nat} {u2 : Option MV} {u3 : Option MV} {x4 : Int32} {h : MH} (A1 : LandA h.2 a1)  (k1 : ¬ (((h.1 a1 3) >>> (x4 &&& 31)) &&& (1 : Int32)).toInt = 0 → Wb rod d B_Ways_furthestFrom 38 [u0, some (.inr (.inr (.inl (some a1)))), u2, u3, some (.inl x4)] [] h Q) (k2 : (((h.1 a1 3) >>> (x4 &&& 31)) &&& (1 : Int32)).toInt = 0 → Wb rod d B_Ways_furthestFrom 26 [u0, some (.inr (.inr (.inl (some a1)))), u2, u3, some (.inl x4)] [] h Q) : Wb rod d B_Ways_furthestFrom 14 [u0, some (.inr (.inr (.inl (some a1)))), u2, u3, some (.inl x4)] [] h Q := by
  refine Wb.br (fun _ _ => b_Ways_furthestFrom_14 (A1.o)) (fun c => ?_) (fun c => ?_)
  · have c : (!(decide ((((h.1 a1 3) >>> (x4 &&& 31)) &&& (1 : Int32)) = 0))) = true := by first | exact c | (simp only [Option.getD_some] at c; exact c)
    (first | exact (k1 (c_net c)) | (simp only [Option.getD_some]; exact (k1 (c_net c))))
  · have c : (!(decide ((((h.1 a1 3) >>> (x4 &&& 31)) &&& (1 : Int32)) = 0))) = false := by first | exact c | (simp only [Option.getD_some] at c; exact c)
    (first | exact (k2 (c_nef c)) | (simp only [Option.getD_some]; exact (k2 (c_nef c))))
theorem w_Ways_furthestFrom_26 {rod : Nat → Nat × (Nat → Int32)} {d : Nat} {Q : Option MV → MH → Prop} {u1 : Option MV} {x2 : Int32} {x3 : Int32} {x4 : Int32} {h : MH} (L : Lay h.2)  {Q1 : Option MV → MH → Prop} (c : Wc rod d 100 [.inr (.inr (.inl (some 70))), .inl x2, .inl x4] h Q1) (k : ∀ r1 h2, Q1 r1 h2 → Wb rod d B_Ways_furthestFrom 34 [some (.inr (.inr (.inl (some 70)))), u1, some (.inl x2), some (.inl x3), some (.inl x4)] (r1.toList ++ [.inl x3]) h2 Q) : Wb rod d B_Ways_furthestFrom 26 [some (.inr (.inr (.inl (some 70)))), u1, some (.inl x2), some (.inl x3), some (.inl x4)] [] h Q := by
  refine Wb.call (fun _ _ _ _ => b_Ways_furthestFrom_26 (Lay.o70 L)) (Q1 := Q1) ?_ ?_
  · (first | exact c | (simp only [Option.getD_some]; exact c))
  · (first | exact k | (simp only [Option.getD_some]; exact k))
theorem w_Ways_furthestFrom_34 {rod : Nat → Nat × (Nat → Int32)} {d : Nat} {Q : Option MV → MH → Prop} {u0 : Option MV} {u1 : Option MV} {u2 : Option MV} {u3 : Option MV} {u4 : Option MV} {xs0 : Int32} {xs1 : Int32} {h : MH}  (g0 : okl [u0, u1, u2, u3, u4] 3 = true) (k : Wb rod d B_Ways_furthestFrom 38 [u0, u1, u2, some (.inl (if xs0 < xs1 then xs1 else xs0)), u4] [] h Q) : Wb rod d B_Ways_furthestFrom 34 [u0, u1, u2, u3, u4] [.inl xs1, .inl xs0] h Q := by
  refine Wb.go (fun r hr q => b_Ways_furthestFrom_34 g0 ?_) k
  (first | exact q | (simp only [Option.getD_some]; exact q))
theorem w_Ways_furthestFrom_38 {rod : Nat → Nat × (Nat → Int32)} {d : Nat} {Q : Option MV → MH → Prop} {u0 : Option MV} {u1 : Option MV} {u2 : Option MV} {u3 : Option MV} {x4 : Int32} {h : MH}  (g0 : okl [u0, u1, u2, u3, some (.inl x4)] 4 = true) (k : Wb rod d B_Ways_furthestFrom 5 [u0, u1, u2, u3, some (.inl (x4 + 1))] [] h Q) : Wb rod d B_Ways_furthestFrom 38 [u0, u1, u2, u3, some (.inl x4)] [] h Q := by
  refine Wb.go (fun r hr q => b_Ways_furthestFrom_38 g0 ?_) k
  (first | exact q | (simp only [Option.getD_some]; exact q))
theorem w_Ways_furthestFrom_44 {rod : Nat → Nat × (Nat → Int32)} {d : Nat} {Q : Option MV → MH → Prop} {u0 : Option MV} {u1 : Option MV} {u2 : Option MV} {x3 : Int32} {u4 : Option MV} {h : MH}   (q : Q (some (.inl x3)) h) : Wb rod d B_Ways_furthestFrom 44 [u0, u1, u2, some (.inl x3), u4] [] h Q := by
  refine Wb.ret (b_Ways_furthestFrom_44) ?_
  (first | exact q | (simp only [Option.getD_some]; exact q))
theorem n_Main_until {rod : Nat → Nat × (Nat → Int32)} {d : Nat} {Q : Option MV → MH → Prop} {x1 : Int32} {x2 : Int32} {x3 : Int32} {h : MH} (k : Wb rod d B_Main_until 0 [some (.inr (.inr (.inl (some 0)))), some (.inl x1), some (.inl x2), some (.inl x3), none] [] h Q) : Wc rod (d + 1) 162 [.inr (.inr (.inl (some 0))), .inl x1, .inl x2, .inl x3] h Q := Wc.en (fun _ _ => e_Main_until) k
theorem w_Main_until_0 {rod : Nat → Nat × (Nat → Int32)} {d : Nat} {Q : Option MV → MH → Prop} {x1 : Int32} {u2 : Option MV} {u3 : Option MV} {u4 : Option MV} {h : MH} (L : Lay h.2)  {Q1 : Option MV → MH → Prop} (c : Wc rod d 61 [.inr (.inr (.inl (some 1))), .inl x1] h Q1) (k : ∀ r1 h2, Q1 r1 h2 → Wb rod d B_Main_until 8 [some (.inr (.inr (.inl (some 0)))), some (.inl x1), u2, u3, u4] (r1.toList ++ []) h2 Q) : Wb rod d B_Main_until 0 [some (.inr (.inr (.inl (some 0)))), some (.inl x1), u2, u3, u4] [] h Q := by
  refine Wb.call (fun _ _ _ _ => b_Main_until_0 (Lay.o0 L) (Lay.k0_0 L)) (Q1 := Q1) ?_ ?_
  · (first | exact c | (simp only [Option.getD_some, (Lay.r0_0 L)]; exact c))
  · (first | exact k | (simp only [Option.getD_some, (Lay.r0_0 L)]; exact k))
theorem w_Main_until_8 {rod : Nat → Nat × (Nat → Int32)} {d : Nat} {Q : Option MV → MH → Prop} {u0 : Option MV} {u1 : Option MV} {u2 : Option MV} {u3 : Option MV} {u4 : Option MV} {os0 : Option Nat} {h : MH}  (g0 : okl [u0, u1, u2, u3, u4] 4 = true) (k1 : os0 = none → Wb rod d B_Main_until 33 [u0, u1, u2, u3, some (.inr (.inr (.inl os0)))] [] h Q) (k2 : ∀ v, os0 = some v → Wb rod d B_Main_until 15 [u0, u1, u2, u3, some (.inr (.inr (.inl os0)))] [] h Q) : Wb rod d B_Main_until 8 [u0, u1, u2, u3, u4] [.inr (.inr (.inl os0))] h Q := by
  cases os0 with
  | none =>
    refine Wb.br (fun _ _ => b_Main_until_8 g0) (fun c => ?_) (fun c => ?_)
    · exact k1 rfl
    · simp at c
  | some v =>
    refine Wb.br (fun _ _ => b_Main_until_8 g0) (fun c => ?_) (fun c => ?_)
    · simp at c
    · exact k2 v rfl
theorem w_Main_until_15 {rod : Nat → Nat × (Nat → Int32)} {d : Nat} {Q : Option MV → MH → Prop} {u0 : Option MV} {u1 : Option MV} {x2 : Int32} {u3 : Option MV} {a4 : Nat} {h : MH} (A4 : LandA h.2 a4)  {Q1 : Option MV → MH → Prop} (c : Wc rod d 70 [.inr (.inr (.inl (some a4))), .inl x2] h Q1) (k : ∀ r1 h2, Q1 r1 h2 → Wb rod d B_Main_until 21 [u0, u1, some (.inl x2), u3, some (.inr (.inr (.inl (some a4))))] (r1.toList ++ []) h2 Q) : Wb rod d B_Main_until 15 [u0, u1, some (.inl x2), u3, some (.inr (.inr (.inl (some a4))))] [] h Q := by
  refine Wb.call (fun _ _ _ _ => b_Main_until_15 (A4.o)) (Q1 := Q1) ?_ ?_
  · (first | exact c | (simp only [Option.getD_some]; exact c))
  · (first | exact k | (simp only [Option.getD_some]; exact k))
theorem w_Main_until_21 {rod : Nat → Nat × (Nat → Int32)} {d : Nat} {Q : Option MV → MH → Prop} {u0 : Option MV} {u1 : Option MV} {u2 : Option MV} {u3 : Option MV} {u4 : Option MV} {xs0 : Int32} {h : MH}   (k1 : xs0.toInt = 0 → Wb rod d B_Main_until 33 [u0, u1, u2, u3, u4] [] h Q) (k2 : ¬ xs0.toInt = 0 → Wb rod d B_Main_until 24 [u0, u1, u2, u3, u4] [] h Q) : Wb rod d B_Main_until 21 [u0, u1, u2, u3, u4] [.inl xs0] h Q := by
  refine Wb.br (fun _ _ => b_Main_until_21) (fun c => ?_) (fun c => ?_)
  · have c : (decide (xs0 = 0)) = true := by first | exact c | (simp only [Option.getD_some] at c; exact c)
    (first | exact (k1 (c_eqt c)) | (simp only [Option.getD_some]; exact (k1 (c_eqt c))))
  · have c : (decide (xs0 = 0)) = false := by first | exact c | (simp only [Option.getD_some] at c; exact c)
    (first | exact (k2 (c_eqf c)) | (simp only [Option.getD_some]; exact (k2 (c_eqf c))))
theorem w_Main_until_24 {rod : Nat → Nat × (Nat → Int32)} {d : Nat} {Q : Option MV → MH → Prop} {u0 : Option MV} {u1 : Option MV} {u2 : Option MV} {x3 : Int32} {a4 : Nat} {h : MH} (A4 : LandA h.2 a4)  {Q1 : Option MV → MH → Prop} (c : Wc rod d 68 [.inr (.inr (.inl (some a4))), .inl x3] h Q1) (k : ∀ r1 h2, Q1 r1 h2 → Wb rod d B_Main_until 30 [u0, u1, u2, some (.inl x3), some (.inr (.inr (.inl (some a4))))] (r1.toList ++ []) h2 Q) : Wb rod d B_Main_until 24 [u0, u1, u2, some (.inl x3), some (.inr (.inr (.inl (some a4))))] [] h Q := by
  refine Wb.call (fun _ _ _ _ => b_Main_until_24 (A4.o)) (Q1 := Q1) ?_ ?_
  · (first | exact c | (simp only [Option.getD_some]; exact c))
  · (first | exact k | (simp only [Option.getD_some]; exact k))
theorem w_Main_until_30 {rod : Nat → Nat × (Nat → Int32)} {d : Nat} {Q : Option MV → MH → Prop} {u0 : Option MV} {u1 : Option MV} {u2 : Option MV} {u3 : Option MV} {u4 : Option MV} {xs0 : Int32} {h : MH}   (k1 : ¬ xs0.toInt = 0 → Wb rod d B_Main_until 35 [u0, u1, u2, u3, u4] [] h Q) (k2 : xs0.toInt = 0 → Wb rod d B_Main_until 33 [u0, u1, u2, u3, u4] [] h Q) : Wb rod d B_Main_until 30 [u0, u1, u2, u3, u4] [.inl xs0] h Q := by
  refine Wb.br (fun _ _ => b_Main_until_30) (fun c => ?_) (fun c => ?_)
  · have c : (!(decide (xs0 = 0))) = true := by first | exact c | (simp only [Option.getD_some] at c; exact c)
    (first | exact (k1 (c_net c)) | (simp only [Option.getD_some]; exact (k1 (c_net c))))
  · have c : (!(decide (xs0 = 0))) = false := by first | exact c | (simp only [Option.getD_some] at c; exact c)
    (first | exact (k2 (c_nef c)) | (simp only [Option.getD_some]; exact (k2 (c_nef c))))
theorem w_Main_until_33 {rod : Nat → Nat × (Nat → Int32)} {d : Nat} {Q : Option MV → MH → Prop} {u0 : Option MV} {u1 : Option MV} {u2 : Option MV} {u3 : Option MV} {u4 : Option MV} {h : MH}   (q : Q (some (.inl (-1 : Int32))) h) : Wb rod d B_Main_until 33 [u0, u1, u2, u3, u4] [] h Q := by
  refine Wb.ret (b_Main_until_33) ?_
  (first | exact q | (simp only [Option.getD_some]; exact q))
theorem w_Main_until_35 {rod : Nat → Nat × (Nat → Int32)} {d : Nat} {Q : Option MV → MH → Prop} {u0 : Option MV} {u1 : Option MV} {x2 : Int32} {x3 : Int32} {a4 : Nat} {h : MH} (A4 : LandA h.2 a4)  {Q1 : Option MV → MH → Prop} (c : Wc rod d 163 [.inr (.inr (.inl (some a4))), .inl x2, .inl x3] h Q1) (k : ∀ r1 h2, Q1 r1 h2 → Wb rod d B_Main_until 42 [u0, u1, some (.inl x2), some (.inl x3), some (.inr (.inr (.inl (some a4))))] (r1.toList ++ []) h2 Q) : Wb rod d B_Main_until 35 [u0, u1, some (.inl x2), some (.inl x3), some (.inr (.inr (.inl (some a4))))] [] h Q := by
  refine Wb.call (fun _ _ _ _ => b_Main_until_35 (A4.o)) (Q1 := Q1) ?_ ?_
  · (first | exact c | (simp only [Option.getD_some]; exact c))
  · (first | exact k | (simp only [Option.getD_some]; exact k))
theorem w_Main_until_42 {rod : Nat → Nat × (Nat → Int32)} {d : Nat} {Q : Option MV → MH → Prop} {u0 : Option MV} {u1 : Option MV} {u2 : Option MV} {u3 : Option MV} {u4 : Option MV} {xs0 : Int32} {h : MH}   (q : Q (some (.inl xs0)) h) : Wb rod d B_Main_until 42 [u0, u1, u2, u3, u4] [.inl xs0] h Q := by
  refine Wb.ret (b_Main_until_42) ?_
  (first | exact q | (simp only [Option.getD_some]; exact q))
theorem n_Land_doubtsUntil {rod : Nat → Nat × (Nat → Int32)} {d : Nat} {Q : Option MV → MH → Prop} {a0 : Nat} {x1 : Int32} {x2 : Int32} {h : MH} (k : Wb rod d B_Land_doubtsUntil 0 [some (.inr (.inr (.inl (some a0)))), some (.inl x1), some (.inl x2), none, none] [] h Q) : Wc rod (d + 1) 163 [.inr (.inr (.inl (some a0))), .inl x1, .inl x2] h Q := Wc.en (fun _ _ => e_Land_doubtsUntil) k
theorem w_Land_doubtsUntil_0 {rod : Nat → Nat × (Nat → Int32)} {d : Nat} {Q : Option MV → MH → Prop} {a0 : Nat} {x1 : Int32} {u2 : Option MV} {u3 : Option MV} {u4 : Option MV} {h : MH} (A0 : LandA h.2 a0)  {Q1 : Option MV → MH → Prop} (c : Wc rod d 70 [.inr (.inr (.inl (some a0))), .inl x1] h Q1) (k : ∀ r1 h2, Q1 r1 h2 → Wb rod d B_Land_doubtsUntil 5 [some (.inr (.inr (.inl (some a0)))), some (.inl x1), u2, u3, u4] (r1.toList ++ []) h2 Q) : Wb rod d B_Land_doubtsUntil 0 [some (.inr (.inr (.inl (some a0)))), some (.inl x1), u2, u3, u4] [] h Q := by
  refine Wb.call (fun _ _ _ _ => b_Land_doubtsUntil_0 (A0.o)) (Q1 := Q1) ?_ ?_
  · (first | exact c | (simp only [Option.getD_some]; exact c))
  · (first | exact k | (simp only [Option.getD_some]; exact k))
theorem w_Land_doubtsUntil_5 {rod : Nat → Nat × (Nat → Int32)} {d : Nat} {Q : Option MV → MH → Prop} {u0 : Option MV} {u1 : Option MV} {u2 : Option MV} {u3 : Option MV} {u4 : Option MV} {xs0 : Int32} {h : MH}   (k1 : xs0.toInt = 0 → Wb rod d B_Land_doubtsUntil 16 [u0, u1, u2, u3, u4] [] h Q) (k2 : ¬ xs0.toInt = 0 → Wb rod d B_Land_doubtsUntil 8 [u0, u1, u2, u3, u4] [] h Q) : Wb rod d B_Land_doubtsUntil 5 [u0, u1, u2, u3, u4] [.inl xs0] h Q := by
  refine Wb.br (fun _ _ => b_Land_doubtsUntil_5) (fun c => ?_) (fun c => ?_)
  · have c : (decide (xs0 = 0)) = true := by first | exact c | (simp only [Option.getD_some] at c; exact c)
    (first | exact (k1 (c_eqt c)) | (simp only [Option.getD_some]; exact (k1 (c_eqt c))))
  · have c : (decide (xs0 = 0)) = false := by first | exact c | (simp only [Option.getD_some] at c; exact c)
    (first | exact (k2 (c_eqf c)) | (simp only [Option.getD_some]; exact (k2 (c_eqf c))))
theorem w_Land_doubtsUntil_8 {rod : Nat → Nat × (Nat → Int32)} {d : Nat} {Q : Option MV → MH → Prop} {a0 : Nat} {u1 : Option MV} {x2 : Int32} {u3 : Option MV} {u4 : Option MV} {h : MH} (A0 : LandA h.2 a0)  {Q1 : Option MV → MH → Prop} (c : Wc rod d 68 [.inr (.inr (.inl (some a0))), .inl x2] h Q1) (k : ∀ r1 h2, Q1 r1 h2 → Wb rod d B_Land_doubtsUntil 13 [some (.inr (.inr (.inl (some a0)))), u1, some (.inl x2), u3, u4] (r1.toList ++ []) h2 Q) : Wb rod d B_Land_doubtsUntil 8 [some (.inr (.inr (.inl (some a0)))), u1, some (.inl x2), u3, u4] [] h Q := by
  refine Wb.call (fun _ _ _ _ => b_Land_doubtsUntil_8 (A0.o)) (Q1 := Q1) ?_ ?_
  · (first | exact c | (simp only [Option.getD_some]; exact c))
  · (first | exact k | (simp only [Option.getD_some]; exact k))
theorem w_Land_doubtsUntil_13 {rod : Nat → Nat × (Nat → Int32)} {d : Nat} {Q : Option MV → MH → Prop} {u0 : Option MV} {u1 : Option MV} {u2 : Option MV} {u3 : Option MV} {u4 : Option MV} {xs0 : Int32} {h : MH}   (k1 : ¬ xs0.toInt = 0 → Wb rod d B_Land_doubtsUntil 18 [u0, u1, u2, u3, u4] [] h Q) (k2 : xs0.toInt = 0 → Wb rod d B_Land_doubtsUntil 16 [u0, u1, u2, u3, u4] [] h Q) : Wb rod d B_Land_doubtsUntil 13 [u0, u1, u2, u3, u4] [.inl xs0] h Q := by
  refine Wb.br (fun _ _ => b_Land_doubtsUntil_13) (fun c => ?_) (fun c => ?_)
  · have c : (!(decide (xs0 = 0))) = true := by first | exact c | (simp only [Option.getD_some] at c; exact c)
    (first | exact (k1 (c_net c)) | (simp only [Option.getD_some]; exact (k1 (c_net c))))
  · have c : (!(decide (xs0 = 0))) = false := by first | exact c | (simp only [Option.getD_some] at c; exact c)
    (first | exact (k2 (c_nef c)) | (simp only [Option.getD_some]; exact (k2 (c_nef c))))
theorem w_Land_doubtsUntil_16 {rod : Nat → Nat × (Nat → Int32)} {d : Nat} {Q : Option MV → MH → Prop} {u0 : Option MV} {u1 : Option MV} {u2 : Option MV} {u3 : Option MV} {u4 : Option MV} {h : MH}   (q : Q (some (.inl (-1 : Int32))) h) : Wb rod d B_Land_doubtsUntil 16 [u0, u1, u2, u3, u4] [] h Q := by
  refine Wb.ret (b_Land_doubtsUntil_16) ?_
  (first | exact q | (simp only [Option.getD_some]; exact q))
theorem w_Land_doubtsUntil_18 {rod : Nat → Nat × (Nat → Int32)} {d : Nat} {Q : Option MV → MH → Prop} {u0 : Option MV} {u1 : Option MV} {u2 : Option MV} {u3 : Option MV} {u4 : Option MV} {h : MH}  (g0 : okl [u0, u1, u2, u3, u4] 3 = true) (k : Wb rod d B_Land_doubtsUntil 20 [u0, u1, u2, some (.inl (0 : Int32)), u4] [] h Q) : Wb rod d B_Land_doubtsUntil 18 [u0, u1, u2, u3, u4] [] h Q := by
  refine Wb.go (fun r hr q => b_Land_doubtsUntil_18 g0 ?_) k
  (first | exact q | (simp only [Option.getD_some]; exact q))
theorem w_Land_doubtsUntil_20 {rod : Nat → Nat × (Nat → Int32)} {d : Nat} {Q : Option MV → MH → Prop} {u0 : Option MV} {u1 : Option MV} {u2 : Option MV} {x3 : Int32} {u4 : Option MV} {h : MH}   (k1 : 9 < x3.toInt → Wb rod d B_Land_doubtsUntil 95 [u0, u1, u2, some (.inl x3), u4] [] h Q) (k2 : ¬ 9 < x3.toInt → Wb rod d B_Land_doubtsUntil 26 [u0, u1, u2, some (.inl x3), u4] [] h Q) : Wb rod d B_Land_doubtsUntil 20 [u0, u1, u2, some (.inl x3), u4] [] h Q := by
  refine Wb.br (fun _ _ => b_Land_doubtsUntil_20) (fun c => ?_) (fun c => ?_)
  · have c : (decide ((9 : Int32) < x3)) = true := by first | exact c | (simp only [Option.getD_some] at c; exact c)
    (first | exact (k1 (c_ltt c)) | (simp only [Option.getD_some]; exact (k1 (c_ltt c))))
  · have c : (decide ((9 : Int32) < x3)) = false := by first | exact c | (simp only [Option.getD_some] at c; exact c)
    (first | exact (k2 (c_ltf c)) | (simp only [Option.getD_some]; exact (k2 (c_ltf c))))
theorem w_Land_doubtsUntil_26 {rod : Nat → Nat × (Nat → Int32)} {d : Nat} {Q : Option MV → MH → Prop} {a0 : Nat} {x1 : Int32} {x2 : Int32} {x3 : Int32} {u4 : Option MV} {h : MH} (A0 : LandA h.2 a0) (g0 : 0 ≤ x1.toInt ∧ x1.toInt < 8) (g1 : 0 ≤ x2.toInt ∧ x2.toInt < 4) (k1 : (h.1 (a0 + 4) x1.toNatClampNeg).toInt < (h.1 (a0 + 7) x2.toNatClampNeg).toInt → Wb rod d B_Land_doubtsUntil 87 [some (.inr (.inr (.inl (some a0)))), some (.inl x1), some (.inl x2), some (.inl x3), some (.inl (if (0 : Int32) < ((h.1 (a0 + 5) x1.toNatClampNeg) - x3) then ((h.1 (a0 + 5) x1.toNatClampNeg) - x3) else (0 : Int32)))] [] h Q) (k2 : ¬ (h.1 (a0 + 4) x1.toNatClampNeg).toInt < (h.1 (a0 + 7) x2.toNatClampNeg).toInt → Wb rod d B_Land_doubtsUntil 55 [some (.inr (.inr (.inl (some a0)))), some (.inl x1), some (.inl x2), some (.inl x3), some (.inl (if (0 : Int32) < ((h.1 (a0 + 5) x1.toNatClampNeg) - x3) then ((h.1 (a0 + 5) x1.toNatClampNeg) - x3) else (0 : Int32)))] [] h Q) : Wb rod d B_Land_doubtsUntil 26 [some (.inr (.inr (.inl (some a0)))), some (.inl x1), some (.inl x2), some (.inl x3), u4] [] h Q := by
  refine Wb.br (fun _ _ => b_Land_doubtsUntil_26 (A0.o) (A0.a10 g0) (A0.a12 g1) (A0.a9 g0)) (fun c => ?_) (fun c => ?_)
  · have c : (decide ((h.1 (a0 + 4) x1.toNatClampNeg) < (h.1 (a0 + 7) x2.toNatClampNeg))) = true := by first | exact c | (simp only [Option.getD_some, A0.r10, A0.r12, A0.r9] at c; exact c)
    (first | exact (k1 (c_ltt c)) | (simp only [Option.getD_some, A0.r10, A0.r12, A0.r9]; exact (k1 (c_ltt c))))
  · have c : (decide ((h.1 (a0 + 4) x1.toNatClampNeg) < (h.1 (a0 + 7) x2.toNatClampNeg))) = false := by first | exact c | (simp only [Option.getD_some, A0.r10, A0.r12, A0.r9] at c; exact c)
    (first | exact (k2 (c_ltf c)) | (simp only [Option.getD_some, A0.r10, A0.r12, A0.r9]; exact (k2 (c_ltf c))))
theorem w_Land_doubtsUntil_55 {rod : Nat → Nat × (Nat → Int32)} {d : Nat} {Q : Option MV → MH → Prop} {a0 : Nat} {x1 : Int32} {x2 : Int32} {u3 : Option MV} {x4 : Int32} {h : MH} (A0 : LandA h.2 a0) (g0 : 0 ≤ x1.toInt ∧ x1.toInt < 8) (g1 : 0 ≤ x2.toInt ∧ x2.toInt < 4) {Q1 : Option MV → MH → Prop} (c : Wc rod d 82 [.inl (h.1 (a0 + 1) x1.toNatClampNeg), .inl (h.1 (a0 + 3) x1.toNatClampNeg), .inl x4, .inl (h.1 (a0 + 6) x2.toNatClampNeg), .inl (h.1 (a0 + 7) x2.toNatClampNeg)] h Q1) (k : ∀ r1 h2, Q1 r1 h2 → Wb rod d B_Land_doubtsUntil 84 [some (.inr (.inr (.inl (some a0)))), some (.inl x1), some (.inl x2), u3, some (.inl x4)] (r1.toList ++ []) h2 Q) : Wb rod d B_Land_doubtsUntil 55 [some (.inr (.inr (.inl (some a0)))), some (.inl x1), some (.inl x2), u3, some (.inl x4)] [] h Q := by
  refine Wb.call (fun _ _ _ _ => b_Land_doubtsUntil_55 (A0.o) (A0.a6 g0) (A0.a8 g0) (A0.a11 g1) (A0.a12 g1)) (Q1 := Q1) ?_ ?_
  · (first | exact c | (simp only [Option.getD_some, A0.r6, A0.r8, A0.r11, A0.r12]; exact c))
  · (first | exact k | (simp only [Option.getD_some, A0.r6, A0.r8, A0.r11, A0.r12]; exact k))
theorem w_Land_doubtsUntil_84 {rod : Nat → Nat × (Nat → Int32)} {d : Nat} {Q : Option MV → MH → Prop} {u0 : Option MV} {u1 : Option MV} {u2 : Option MV} {u3 : Option MV} {u4 : Option MV} {xs0 : Int32} {h : MH}   (k1 : ¬ xs0.toInt = 0 → Wb rod d B_Land_doubtsUntil 89 [u0, u1, u2, u3, u4] [] h Q) (k2 : xs0.toInt = 0 → Wb rod d B_Land_doubtsUntil 87 [u0, u1, u2, u3, u4] [] h Q) : Wb rod d B_Land_doubtsUntil 84 [u0, u1, u2, u3, u4] [.inl xs0] h Q := by
  refine Wb.br (fun _ _ => b_Land_doubtsUntil_84) (fun c => ?_) (fun c => ?_)
  · have c : (!(decide (xs0 = 0))) = true := by first | exact c | (simp only [Option.getD_some] at c; exact c)
    (first | exact (k1 (c_net c)) | (simp only [Option.getD_some]; exact (k1 (c_net c))))
  · have c : (!(decide (xs0 = 0))) = false := by first | exact c | (simp only [Option.getD_some] at c; exact c)
    (first | exact (k2 (c_nef c)) | (simp only [Option.getD_some]; exact (k2 (c_nef c))))
theorem w_Land_doubtsUntil_87 {rod : Nat → Nat × (Nat → Int32)} {d : Nat} {Q : Option MV → MH → Prop} {u0 : Option MV} {u1 : Option MV} {u2 : Option MV} {x3 : Int32} {u4 : Option MV} {h : MH}   (q : Q (some (.inl x3)) h) : Wb rod d B_Land_doubtsUntil 87 [u0, u1, u2, some (.inl x3), u4] [] h Q := by
  refine Wb.ret (b_Land_doubtsUntil_87) ?_
  (first | exact q | (simp only [Option.getD_some]; exact q))
theorem w_Land_doubtsUntil_89 {rod : Nat → Nat × (Nat → Int32)} {d : Nat} {Q : Option MV → MH → Prop} {u0 : Option MV} {u1 : Option MV} {u2 : Option MV} {x3 : Int32} {u4 : Option MV} {h : MH}  (g0 : okl [u0, u1, u2, some (.inl x3), u4] 3 = true) (k : Wb rod d B_Land_doubtsUntil 20 [u0, u1, u2, some (.inl (x3 + 1)), u4] [] h Q) : Wb rod d B_Land_doubtsUntil 89 [u0, u1, u2, some (.inl x3), u4] [] h Q := by
  refine Wb.go (fun r hr q => b_Land_doubtsUntil_89 g0 ?_) k
  (first | exact q | (simp only [Option.getD_some]; exact q))
theorem w_Land_doubtsUntil_95 {rod : Nat → Nat × (Nat → Int32)} {d : Nat} {Q : Option MV → MH → Prop} {u0 : Option MV} {u1 : Option MV} {u2 : Option MV} {u3 : Option MV} {u4 : Option MV} {h : MH}   (q : Q (some (.inl (-1 : Int32))) h) : Wb rod d B_Land_doubtsUntil 95 [u0, u1, u2, u3, u4] [] h Q := by
  refine Wb.ret (b_Land_doubtsUntil_95) ?_
  (first | exact q | (simp only [Option.getD_some]; exact q))
theorem n_Main_enough {rod : Nat → Nat × (Nat → Int32)} {d : Nat} {Q : Option MV → MH → Prop} {x1 : Int32} {x2 : Int32} {h : MH} (k : Wb rod d B_Main_enough 0 [some (.inr (.inr (.inl (some 0)))), some (.inl x1), some (.inl x2), none] [] h Q) : Wc rod (d + 1) 164 [.inr (.inr (.inl (some 0))), .inl x1, .inl x2] h Q := Wc.en (fun _ _ => e_Main_enough) k
theorem w_Main_enough_0 {rod : Nat → Nat × (Nat → Int32)} {d : Nat} {Q : Option MV → MH → Prop} {x1 : Int32} {u2 : Option MV} {u3 : Option MV} {h : MH} (L : Lay h.2)  {Q1 : Option MV → MH → Prop} (c : Wc rod d 61 [.inr (.inr (.inl (some 1))), .inl x1] h Q1) (k : ∀ r1 h2, Q1 r1 h2 → Wb rod d B_Main_enough 8 [some (.inr (.inr (.inl (some 0)))), some (.inl x1), u2, u3] (r1.toList ++ []) h2 Q) : Wb rod d B_Main_enough 0 [some (.inr (.inr (.inl (some 0)))), some (.inl x1), u2, u3] [] h Q := by
  refine Wb.call (fun _ _ _ _ => b_Main_enough_0 (Lay.o0 L) (Lay.k0_0 L)) (Q1 := Q1) ?_ ?_
  · (first | exact c | (simp only [Option.getD_some, (Lay.r0_0 L)]; exact c))
  · (first | exact k | (simp only [Option.getD_some, (Lay.r0_0 L)]; exact k))
theorem w_Main_enough_8 {rod : Nat → Nat × (Nat → Int32)} {d : Nat} {Q : Option MV → MH → Prop} {u0 : Option MV} {u1 : Option MV} {u2 : Option MV} {u3 : Option MV} {os0 : Option Nat} {h : MH}  (g0 : okl [u0, u1, u2, u3] 3 = true) (k1 : os0 = none → Wb rod d B_Main_enough 21 [u0, u1, u2, some (.inr (.inr (.inl os0)))] [] h Q) (k2 : ∀ v, os0 = some v → Wb rod d B_Main_enough 13 [u0, u1, u2, some (.inr (.inr (.inl os0)))] [] h Q) : Wb rod d B_Main_enough 8 [u0, u1, u2, u3] [.inr (.inr (.inl os0))] h Q := by
  cases os0 with
  | none =>
    refine Wb.br (fun _ _ => b_Main_enough_8 g0) (fun c => ?_) (fun c => ?_)
    · exact k1 rfl
    · simp at c
  | some v =>
    refine Wb.br (fun _ _ => b_Main_enough_8 g0) (fun c => ?_) (fun c => ?_)
    · simp at c
    · exact k2 v rfl
theorem w_Main_enough_13 {rod : Nat → Nat × (Nat → Int32)} {d : Nat} {Q : Option MV → MH → Prop} {u0 : Option MV} {u1 : Option MV} {x2 : Int32} {a3 : Nat} {h : MH} (A3 : LandA h.2 a3)  {Q1 : Option MV → MH → Prop} (c : Wc rod d 70 [.inr (.inr (.inl (some a3))), .inl x2] h Q1) (k : ∀ r1 h2, Q1 r1 h2 → Wb rod d B_Main_enough 18 [u0, u1, some (.inl x2), some (.inr (.inr (.inl (some a3))))] (r1.toList ++ []) h2 Q) : Wb rod d B_Main_enough 13 [u0, u1, some (.inl x2), some (.inr (.inr (.inl (some a3))))] [] h Q := by
  refine Wb.call (fun _ _ _ _ => b_Main_enough_13 (A3.o)) (Q1 := Q1) ?_ ?_
  · (first | exact c | (simp only [Option.getD_some]; exact c))
  · (first | exact k | (simp only [Option.getD_some]; exact k))
theorem w_Main_enough_18 {rod : Nat → Nat × (Nat → Int32)} {d : Nat} {Q : Option MV → MH → Prop} {u0 : Option MV} {u1 : Option MV} {u2 : Option MV} {u3 : Option MV} {xs0 : Int32} {h : MH}   (k1 : ¬ xs0.toInt = 0 → Wb rod d B_Main_enough 23 [u0, u1, u2, u3] [] h Q) (k2 : xs0.toInt = 0 → Wb rod d B_Main_enough 21 [u0, u1, u2, u3] [] h Q) : Wb rod d B_Main_enough 18 [u0, u1, u2, u3] [.inl xs0] h Q := by
  refine Wb.br (fun _ _ => b_Main_enough_18) (fun c => ?_) (fun c => ?_)
  · have c : (!(decide (xs0 = 0))) = true := by first | exact c | (simp only [Option.getD_some] at c; exact c)
    (first | exact (k1 (c_net c)) | (simp only [Option.getD_some]; exact (k1 (c_net c))))
  · have c : (!(decide (xs0 = 0))) = false := by first | exact c | (simp only [Option.getD_some] at c; exact c)
    (first | exact (k2 (c_nef c)) | (simp only [Option.getD_some]; exact (k2 (c_nef c))))
theorem w_Main_enough_21 {rod : Nat → Nat × (Nat → Int32)} {d : Nat} {Q : Option MV → MH → Prop} {u0 : Option MV} {u1 : Option MV} {u2 : Option MV} {u3 : Option MV} {h : MH}   (q : Q (some (.inl (-1 : Int32))) h) : Wb rod d B_Main_enough 21 [u0, u1, u2, u3] [] h Q := by
  refine Wb.ret (b_Main_enough_21) ?_
  (first | exact q | (simp only [Option.getD_some]; exact q))
theorem w_Main_enough_23 {rod : Nat → Nat × (Nat → Int32)} {d : Nat} {Q : Option MV → MH → Prop} {u1 : Option MV} {x2 : Int32} {a3 : Nat} {h : MH} (L : Lay h.2) (A3 : LandA h.2 a3) (g0 : 0 ≤ x2.toInt ∧ x2.toInt < 8) {Q1 : Option MV → MH → Prop} (c : Wc rod d 109 [.inr (.inr (.inl (some 75))), .inr (.inr (.inl (some a3))), .inl (h.1 (a3 + 3) x2.toNatClampNeg), .inl (1000000 : Int32)] h Q1) (k : ∀ r1 h2, Q1 r1 h2 → Wb rod d B_Main_enough 40 [some (.inr (.inr (.inl (some 0)))), u1, some (.inl x2), some (.inr (.inr (.inl (some a3))))] (r1.toList ++ []) h2 Q) : Wb rod d B_Main_enough 23 [some (.inr (.inr (.inl (some 0)))), u1, some (.inl x2), some (.inr (.inr (.inl (some a3))))] [] h Q := by
  refine Wb.call (fun _ _ _ _ => b_Main_enough_23 (Lay.o0 L) (A3.o) (A3.a8 g0) (Lay.k0_5 L)) (Q1 := Q1) ?_ ?_
  · (first | exact c | (simp only [Option.getD_some, (Lay.r0_5 L), A3.r8]; exact c))
  · (first | exact k | (simp only [Option.getD_some, (Lay.r0_5 L), A3.r8]; exact k))
theorem w_Main_enough_40 {rod : Nat → Nat × (Nat → Int32)} {d : Nat} {Q : Option MV → MH → Prop} {u1 : Option MV} {x2 : Int32} {a3 : Nat} {h : MH} (L : Lay h.2) (A3 : LandA h.2 a3) (g0 : 0 ≤ x2.toInt ∧ x2.toInt < 8) (k1 : (h.1 (a3 + 3) x2.toNatClampNeg).toInt ≤ (h.1 75 2).toInt → Wb rod d B_Main_enough 60 [some (.inr (.inr (.inl (some 0)))), u1, some (.inl x2), some (.inr (.inr (.inl (some a3))))] [] h Q) (k2 : ¬ (h.1 (a3 + 3) x2.toNatClampNeg).toInt ≤ (h.1 75 2).toInt → Wb rod d B_Main_enough 56 [some (.inr (.inr (.inl (some 0)))), u1, some (.inl x2), some (.inr (.inr (.inl (some a3))))] [] h Q) : Wb rod d B_Main_enough 40 [some (.inr (.inr (.inl (some 0)))), u1, some (.inl x2), some (.inr (.inr (.inl (some a3))))] [] h Q := by
  refine Wb.br (fun _ _ => b_Main_enough_40 (Lay.o0 L) (Lay.k0_5 L) (A3.o) (A3.a8 g0)) (fun c => ?_) (fun c => ?_)
  · have c : (decide ((h.1 (a3 + 3) x2.toNatClampNeg) ≤ (h.1 75 2))) = true := by first | exact c | (simp only [Option.getD_some, (Lay.r0_5 L), A3.r8] at c; exact c)
    (first | exact (k1 (c_let c)) | (simp only [Option.getD_some, (Lay.r0_5 L), A3.r8]; exact (k1 (c_let c))))
  · have c : (decide ((h.1 (a3 + 3) x2.toNatClampNeg) ≤ (h.1 75 2))) = false := by first | exact c | (simp only [Option.getD_some, (Lay.r0_5 L), A3.r8] at c; exact c)
    (first | exact (k2 (c_lef c)) | (simp only [Option.getD_some, (Lay.r0_5 L), A3.r8]; exact (k2 (c_lef c))))
theorem w_Main_enough_56 {rod : Nat → Nat × (Nat → Int32)} {d : Nat} {Q : Option MV → MH → Prop} {u0 : Option MV} {u1 : Option MV} {u2 : Option MV} {u3 : Option MV} {h : MH}   (k : Wb rod d B_Main_enough 67 [u0, u1, u2, u3] [.inl (-1 : Int32)] h Q) : Wb rod d B_Main_enough 56 [u0, u1, u2, u3] [] h Q := by
  refine Wb.go (fun r hr q => b_Main_enough_56 ?_) k
  (first | exact q | (simp only [Option.getD_some]; exact q))
theorem w_Main_enough_60 {rod : Nat → Nat × (Nat → Int32)} {d : Nat} {Q : Option MV → MH → Prop} {u1 : Option MV} {u2 : Option MV} {u3 : Option MV} {h : MH} (L : Lay h.2)  (k : Wb rod d B_Main_enough 67 [some (.inr (.inr (.inl (some 0)))), u1, u2, u3] [.inl (h.1 75 3)] h Q) : Wb rod d B_Main_enough 60 [some (.inr (.inr (.inl (some 0)))), u1, u2, u3] [] h Q := by
  refine Wb.go (fun r hr q => b_Main_enough_60 (Lay.o0 L) (Lay.k0_5 L) ?_) k
  (first | exact q | (simp only [Option.getD_some, (Lay.r0_5 L)]; exact q))
theorem w_Main_enough_67 {rod : Nat → Nat × (Nat → Int32)} {d : Nat} {Q : Option MV → MH → Prop} {u0 : Option MV} {u1 : Option MV} {u2 : Option MV} {u3 : Option MV} {xs0 : Int32} {h : MH}   (q : Q (some (.inl xs0)) h) : Wb rod d B_Main_enough 67 [u0, u1, u2, u3] [.inl xs0] h Q := by
  refine Wb.ret (b_Main_enough_67) ?_
  (first | exact q | (simp only [Option.getD_some]; exact q))
theorem n_Main_power {rod : Nat → Nat × (Nat → Int32)} {d : Nat} {Q : Option MV → MH → Prop} {x1 : Int32} {x2 : Int32} {h : MH} (k : Wb rod d B_Main_power 0 [some (.inr (.inr (.inl (some 0)))), some (.inl x1), some (.inl x2), none] [] h Q) : Wc rod (d + 1) 166 [.inr (.inr (.inl (some 0))), .inl x1, .inl x2] h Q := Wc.en (fun _ _ => e_Main_power) k
theorem w_Main_power_0 {rod : Nat → Nat × (Nat → Int32)} {d : Nat} {Q : Option MV → MH → Prop} {x1 : Int32} {u2 : Option MV} {u3 : Option MV} {h : MH} (L : Lay h.2)  {Q1 : Option MV → MH → Prop} (c : Wc rod d 127 [.inr (.inr (.inl (some 1))), .inl x1] h Q1) (k : ∀ r1 h2, Q1 r1 h2 → Wb rod d B_Main_power 8 [some (.inr (.inr (.inl (some 0)))), some (.inl x1), u2, u3] (r1.toList ++ []) h2 Q) : Wb rod d B_Main_power 0 [some (.inr (.inr (.inl (some 0)))), some (.inl x1), u2, u3] [] h Q := by
  refine Wb.call (fun _ _ _ _ => b_Main_power_0 (Lay.o0 L) (Lay.k0_0 L)) (Q1 := Q1) ?_ ?_
  · (first | exact c | (simp only [Option.getD_some, (Lay.r0_0 L)]; exact c))
  · (first | exact k | (simp only [Option.getD_some, (Lay.r0_0 L)]; exact k))
theorem w_Main_power_8 {rod : Nat → Nat × (Nat → Int32)} {d : Nat} {Q : Option MV → MH → Prop} {u0 : Option MV} {u1 : Option MV} {u2 : Option MV} {u3 : Option MV} {os0 : Option Nat} {h : MH}  (g0 : okl [u0, u1, u2, u3] 3 = true) (k1 : os0 = none → Wb rod d B_Main_power 13 [u0, u1, u2, some (.inr (.inr (.inl os0)))] [] h Q) (k2 : ∀ v, os0 = some v → Wb rod d B_Main_power 15 [u0, u1, u2, some (.inr (.inr (.inl os0)))] [] h Q) : Wb rod d B_Main_power 8 [u0, u1, u2, u3] [.inr (.inr (.inl os0))] h Q := by
  cases os0 with
  | none =>
    refine Wb.br (fun _ _ => b_Main_power_8 g0) (fun c => ?_) (fun c => ?_)
    · simp at c
    · exact k1 rfl
  | some v =>
    refine Wb.br (fun _ _ => b_Main_power_8 g0) (fun c => ?_) (fun c => ?_)
    · exact k2 v rfl
    · simp at c
theorem w_Main_power_13 {rod : Nat → Nat × (Nat → Int32)} {d : Nat} {Q : Option MV → MH → Prop} {u0 : Option MV} {u1 : Option MV} {u2 : Option MV} {u3 : Option MV} {h : MH}   (q : Q (some (.inl (-1 : Int32))) h) : Wb rod d B_Main_power 13 [u0, u1, u2, u3] [] h Q := by
  refine Wb.ret (b_Main_power_13) ?_
  (first | exact q | (simp only [Option.getD_some]; exact q))
theorem w_Main_power_15 {rod : Nat → Nat × (Nat → Int32)} {d : Nat} {Q : Option MV → MH → Prop} {u0 : Option MV} {u1 : Option MV} {x2 : Int32} {u3 : Option MV} {h : MH}   (k0 : x2.toInt = 0 → Wb rod d B_Main_power 44 [u0, u1, some (.inl x2), u3] [] h Q) (k1 : x2.toInt = 1 → Wb rod d B_Main_power 53 [u0, u1, some (.inl x2), u3] [] h Q) (kd : x2.toInt ≠ 0 → x2.toInt ≠ 1 → Wb rod d B_Main_power 62 [u0, u1, some (.inl x2), u3] [] h Q) : Wb rod d B_Main_power 15 [u0, u1, some (.inl x2), u3] [] h Q := by
  have key : Wb rod d B_Main_power (lookT [(0, 28), (1, 37)] x2 16 62) [u0, u1, some (.inl x2), u3] [] h Q := by
    by_cases e0 : x2 = Int32.ofInt 0
    · rw [show lookT [(0, 28), (1, 37)] x2 16 62 = 44 from by rw [e0]; rfl]
      exact k0 (by rw [e0]; rfl)
    by_cases e1 : x2 = Int32.ofInt 1
    · rw [show lookT [(0, 28), (1, 37)] x2 16 62 = 53 from by rw [e1]; rfl]
      exact k1 (by rw [e1]; rfl)
    rw [show lookT [(0, 28), (1, 37)] x2 16 62 = 62 from (if_neg e0).trans ((if_neg e1).trans (rfl))]
    exact kd (fun q => e0 (Int32.toInt_inj.mp q)) (fun q => e1 (Int32.toInt_inj.mp q))
  refine Wb.go (fun r hr q => b_Main_power_15 ?_) key
  (first | exact q | (simp only [Option.getD_some]; exact q))
theorem w_Main_power_44 {rod : Nat → Nat × (Nat → Int32)} {d : Nat} {Q : Option MV → MH → Prop} {u1 : Option MV} {u2 : Option MV} {a3 : Nat} {h : MH} (L : Lay h.2)  {Q1 : Option MV → MH → Prop} (c : Wc rod d 167 [.inr (.inr (.inl (some 78))), .inr (.inr (.inl (some a3)))] h Q1) (k : ∀ r1 h2, Q1 r1 h2 → Wb rod d B_Main_power 52 [some (.inr (.inr (.inl (some 0)))), u1, u2, some (.inr (.inr (.inl (some a3))))] (r1.toList ++ []) h2 Q) : Wb rod d B_Main_power 44 [some (.inr (.inr (.inl (some 0)))), u1, u2, some (.inr (.inr (.inl (some a3))))] [] h Q := by
  refine Wb.call (fun _ _ _ _ => b_Main_power_44 (Lay.o0 L) (Lay.k0_6 L)) (Q1 := Q1) ?_ ?_
  · (first | exact c | (simp only [Option.getD_some, (Lay.r0_6 L)]; exact c))
  · (first | exact k | (simp only [Option.getD_some, (Lay.r0_6 L)]; exact k))
theorem w_Main_power_52 {rod : Nat → Nat × (Nat → Int32)} {d : Nat} {Q : Option MV → MH → Prop} {u0 : Option MV} {u1 : Option MV} {u2 : Option MV} {u3 : Option MV} {xs0 : Int32} {h : MH}   (q : Q (some (.inl xs0)) h) : Wb rod d B_Main_power 52 [u0, u1, u2, u3] [.inl xs0] h Q := by
  refine Wb.ret (b_Main_power_52) ?_
  (first | exact q | (simp only [Option.getD_some]; exact q))
theorem w_Main_power_53 {rod : Nat → Nat × (Nat → Int32)} {d : Nat} {Q : Option MV → MH → Prop} {u1 : Option MV} {u2 : Option MV} {a3 : Nat} {h : MH} (L : Lay h.2)  {Q1 : Option MV → MH → Prop} (c : Wc rod d 169 [.inr (.inr (.inl (some 78))), .inr (.inr (.inl (some a3)))] h Q1) (k : ∀ r1 h2, Q1 r1 h2 → Wb rod d B_Main_power 61 [some (.inr (.inr (.inl (some 0)))), u1, u2, some (.inr (.inr (.inl (some a3))))] (r1.toList ++ []) h2 Q) : Wb rod d B_Main_power 53 [some (.inr (.inr (.inl (some 0)))), u1, u2, some (.inr (.inr (.inl (some a3))))] [] h Q := by
  refine Wb.call (fun _ _ _ _ => b_Main_power_53 (Lay.o0 L) (Lay.k0_6 L)) (Q1 := Q1) ?_ ?_
  · (first | exact c | (simp only [Option.getD_some, (Lay.r0_6 L)]; exact c))
  · (first | exact k | (simp only [Option.getD_some, (Lay.r0_6 L)]; exact k))
theorem w_Main_power_61 {rod : Nat → Nat × (Nat → Int32)} {d : Nat} {Q : Option MV → MH → Prop} {u0 : Option MV} {u1 : Option MV} {u2 : Option MV} {u3 : Option MV} {xs0 : Int32} {h : MH}   (q : Q (some (.inl xs0)) h) : Wb rod d B_Main_power 61 [u0, u1, u2, u3] [.inl xs0] h Q := by
  refine Wb.ret (b_Main_power_61) ?_
  (first | exact q | (simp only [Option.getD_some]; exact q))
theorem w_Main_power_62 {rod : Nat → Nat × (Nat → Int32)} {d : Nat} {Q : Option MV → MH → Prop} {u0 : Option MV} {u1 : Option MV} {x2 : Int32} {u3 : Option MV} {h : MH}   (k1 : x2.toInt < 10 → Wb rod d B_Main_power 94 [u0, u1, some (.inl x2), u3] [] h Q) (k2 : ¬ x2.toInt < 10 → Wb rod d B_Main_power 68 [u0, u1, some (.inl x2), u3] [] h Q) : Wb rod d B_Main_power 62 [u0, u1, some (.inl x2), u3] [] h Q := by
  refine Wb.br (fun _ _ => b_Main_power_62) (fun c => ?_) (fun c => ?_)
  · have c : (decide (x2 < (10 : Int32))) = true := by first | exact c | (simp only [Option.getD_some] at c; exact c)
    (first | exact (k1 (c_ltt c)) | (simp only [Option.getD_some]; exact (k1 (c_ltt c))))
  · have c : (decide (x2 < (10 : Int32))) = false := by first | exact c | (simp only [Option.getD_some] at c; exact c)
    (first | exact (k2 (c_ltf c)) | (simp only [Option.getD_some]; exact (k2 (c_ltf c))))
theorem w_Main_power_68 {rod : Nat → Nat × (Nat → Int32)} {d : Nat} {Q : Option MV → MH → Prop} {u0 : Option MV} {u1 : Option MV} {x2 : Int32} {a3 : Nat} {h : MH} (A3 : BargA h.2 a3)  {Q1 : Option MV → MH → Prop} (c : Wc rod d 134 [.inr (.inr (.inl (some a3))), .inl (x2 - (10 : Int32))] h Q1) (k : ∀ r1 h2, Q1 r1 h2 → Wb rod d B_Main_power 76 [u0, u1, some (.inl x2), some (.inr (.inr (.inl (some a3))))] (r1.toList ++ []) h2 Q) : Wb rod d B_Main_power 68 [u0, u1, some (.inl x2), some (.inr (.inr (.inl (some a3))))] [] h Q := by
  refine Wb.call (fun _ _ _ _ => b_Main_power_68 (A3.o)) (Q1 := Q1) ?_ ?_
  · (first | exact c | (simp only [Option.getD_some]; exact c))
  · (first | exact k | (simp only [Option.getD_some]; exact k))
theorem w_Main_power_76 {rod : Nat → Nat × (Nat → Int32)} {d : Nat} {Q : Option MV → MH → Prop} {u0 : Option MV} {u1 : Option MV} {u2 : Option MV} {u3 : Option MV} {xs0 : Int32} {h : MH}   (k1 : xs0.toInt = 0 → Wb rod d B_Main_power 94 [u0, u1, u2, u3] [] h Q) (k2 : ¬ xs0.toInt = 0 → Wb rod d B_Main_power 79 [u0, u1, u2, u3] [] h Q) : Wb rod d B_Main_power 76 [u0, u1, u2, u3] [.inl xs0] h Q := by
  refine Wb.br (fun _ _ => b_Main_power_76) (fun c => ?_) (fun c => ?_)
  · have c : (decide (xs0 = 0)) = true := by first | exact c | (simp only [Option.getD_some] at c; exact c)
    (first | exact (k1 (c_eqt c)) | (simp only [Option.getD_some]; exact (k1 (c_eqt c))))
  · have c : (decide (xs0 = 0)) = false := by first | exact c | (simp only [Option.getD_some] at c; exact c)
    (first | exact (k2 (c_eqf c)) | (simp only [Option.getD_some]; exact (k2 (c_eqf c))))
theorem w_Main_power_79 {rod : Nat → Nat × (Nat → Int32)} {d : Nat} {Q : Option MV → MH → Prop} {u1 : Option MV} {x2 : Int32} {a3 : Nat} {h : MH} (L : Lay h.2)  {Q1 : Option MV → MH → Prop} (c : Wc rod d 171 [.inr (.inr (.inl (some 78))), .inr (.inr (.inl (some a3))), .inl (x2 - (10 : Int32))] h Q1) (k : ∀ r1 h2, Q1 r1 h2 → Wb rod d B_Main_power 91 [some (.inr (.inr (.inl (some 0)))), u1, some (.inl x2), some (.inr (.inr (.inl (some a3))))] (r1.toList ++ []) h2 Q) : Wb rod d B_Main_power 79 [some (.inr (.inr (.inl (some 0)))), u1, some (.inl x2), some (.inr (.inr (.inl (some a3))))] [] h Q := by
  refine Wb.call (fun _ _ _ _ => b_Main_power_79 (Lay.o0 L) (Lay.k0_6 L)) (Q1 := Q1) ?_ ?_
  · (first | exact c | (simp only [Option.getD_some, (Lay.r0_6 L)]; exact c))
  · (first | exact k | (simp only [Option.getD_some, (Lay.r0_6 L)]; exact k))
theorem w_Main_power_91 {rod : Nat → Nat × (Nat → Int32)} {d : Nat} {Q : Option MV → MH → Prop} {u0 : Option MV} {u1 : Option MV} {u2 : Option MV} {u3 : Option MV} {xs0 : Int32} {h : MH}   (k : Wb rod d B_Main_power 95 [u0, u1, u2, u3] [.inl xs0] h Q) : Wb rod d B_Main_power 91 [u0, u1, u2, u3] [.inl xs0] h Q := by
  refine Wb.go (fun r hr q => b_Main_power_91 ?_) k
  (first | exact q | (simp only [Option.getD_some]; exact q))
theorem w_Main_power_94 {rod : Nat → Nat × (Nat → Int32)} {d : Nat} {Q : Option MV → MH → Prop} {u0 : Option MV} {u1 : Option MV} {u2 : Option MV} {u3 : Option MV} {h : MH}   (k : Wb rod d B_Main_power 95 [u0, u1, u2, u3] [.inl (-1 : Int32)] h Q) : Wb rod d B_Main_power 94 [u0, u1, u2, u3] [] h Q := by
  refine Wb.go (fun r hr q => b_Main_power_94 ?_) k
  (first | exact q | (simp only [Option.getD_some]; exact q))
theorem w_Main_power_95 {rod : Nat → Nat × (Nat → Int32)} {d : Nat} {Q : Option MV → MH → Prop} {u0 : Option MV} {u1 : Option MV} {u2 : Option MV} {u3 : Option MV} {xs0 : Int32} {h : MH}   (q : Q (some (.inl xs0)) h) : Wb rod d B_Main_power 95 [u0, u1, u2, u3] [.inl xs0] h Q := by
  refine Wb.ret (b_Main_power_95) ?_
  (first | exact q | (simp only [Option.getD_some]; exact q))
theorem n_Sharing_needed {rod : Nat → Nat × (Nat → Int32)} {d : Nat} {Q : Option MV → MH → Prop} {a1 : Nat} {h : MH} (k : Wb rod d B_Sharing_needed 0 [some (.inr (.inr (.inl (some 78)))), some (.inr (.inr (.inl (some a1)))), none, none] [] h Q) : Wc rod (d + 1) 167 [.inr (.inr (.inl (some 78))), .inr (.inr (.inl (some a1)))] h Q := Wc.en (fun _ _ => e_Sharing_needed) k
theorem w_Sharing_needed_0 {rod : Nat → Nat × (Nat → Int32)} {d : Nat} {Q : Option MV → MH → Prop} {u0 : Option MV} {u1 : Option MV} {u2 : Option MV} {u3 : Option MV} {h : MH}  (g0 : okl [u0, u1, u2, u3] 2 = true) (k : Wb rod d B_Sharing_needed 4 [u0, u1, some (.inl (0 : Int32)), some (.inl (0 : Int32))] [] h Q) : Wb rod d B_Sharing_needed 0 [u0, u1, u2, u3] [] h Q := by
  refine Wb.go (fun r hr q => b_Sharing_needed_0 g0 ?_) k
  (first | exact q | (simp only [Option.getD_some]; exact q))
theorem w_Sharing_needed_4 {rod : Nat → Nat × (Nat → Int32)} {d : Nat} {Q : Option MV → MH → Prop} {u0 : Option MV} {a1 : Nat} {u2 : Option MV} {x3 : Int32} {h : MH} (A1 : BargA h.2 a1)  (k1 : (h.1 a1 0).toInt ≤ x3.toInt → Wb rod d B_Sharing_needed 32 [u0, some (.inr (.inr (.inl (some a1)))), u2, some (.inl x3)] [] h Q) (k2 : ¬ (h.1 a1 0).toInt ≤ x3.toInt → Wb rod d B_Sharing_needed 12 [u0, some (.inr (.inr (.inl (some a1)))), u2, some (.inl x3)] [] h Q) : Wb rod d B_Sharing_needed 4 [u0, some (.inr (.inr (.inl (some a1)))), u2, some (.inl x3)] [] h Q := by
  refine Wb.br (fun _ _ => b_Sharing_needed_4 (A1.o)) (fun c => ?_) (fun c => ?_)
  · have c : (decide ((h.1 a1 0) ≤ x3)) = true := by first | exact c | (simp only [Option.getD_some] at c; exact c)
    (first | exact (k1 (c_let c)) | (simp only [Option.getD_some]; exact (k1 (c_let c))))
  · have c : (decide ((h.1 a1 0) ≤ x3)) = false := by first | exact c | (simp only [Option.getD_some] at c; exact c)
    (first | exact (k2 (c_lef c)) | (simp only [Option.getD_some]; exact (k2 (c_lef c))))
theorem w_Sharing_needed_12 {rod : Nat → Nat × (Nat → Int32)} {d : Nat} {Q : Option MV → MH → Prop} {u0 : Option MV} {a1 : Nat} {u2 : Option MV} {x3 : Int32} {h : MH}   {Q1 : Option MV → MH → Prop} (c : Wc rod d 168 [.inr (.inr (.inl (some a1))), .inl x3] h Q1) (k : ∀ r1 h2, Q1 r1 h2 → Wb rod d B_Sharing_needed 17 [u0, some (.inr (.inr (.inl (some a1)))), u2, some (.inl x3)] (r1.toList ++ []) h2 Q) : Wb rod d B_Sharing_needed 12 [u0, some (.inr (.inr (.inl (some a1)))), u2, some (.inl x3)] [] h Q := by
  refine Wb.call (fun _ _ _ _ => b_Sharing_needed_12) (Q1 := Q1) ?_ ?_
  · (first | exact c | (simp only [Option.getD_some]; exact c))
  · (first | exact k | (simp only [Option.getD_some]; exact k))
theorem w_Sharing_needed_17 {rod : Nat → Nat × (Nat → Int32)} {d : Nat} {Q : Option MV → MH → Prop} {u0 : Option MV} {u1 : Option MV} {u2 : Option MV} {u3 : Option MV} {xs0 : Int32} {h : MH}   (k1 : xs0.toInt = 0 → Wb rod d B_Sharing_needed 26 [u0, u1, u2, u3] [] h Q) (k2 : ¬ xs0.toInt = 0 → Wb rod d B_Sharing_needed 20 [u0, u1, u2, u3] [] h Q) : Wb rod d B_Sharing_needed 17 [u0, u1, u2, u3] [.inl xs0] h Q := by
  refine Wb.br (fun _ _ => b_Sharing_needed_17) (fun c => ?_) (fun c => ?_)
  · have c : (decide (xs0 = 0)) = true := by first | exact c | (simp only [Option.getD_some] at c; exact c)
    (first | exact (k1 (c_eqt c)) | (simp only [Option.getD_some]; exact (k1 (c_eqt c))))
  · have c : (decide (xs0 = 0)) = false := by first | exact c | (simp only [Option.getD_some] at c; exact c)
    (first | exact (k2 (c_eqf c)) | (simp only [Option.getD_some]; exact (k2 (c_eqf c))))
theorem w_Sharing_needed_20 {rod : Nat → Nat × (Nat → Int32)} {d : Nat} {Q : Option MV → MH → Prop} {u0 : Option MV} {u1 : Option MV} {x2 : Int32} {x3 : Int32} {h : MH}  (g0 : okl [u0, u1, some (.inl x2), some (.inl x3)] 2 = true) (k : Wb rod d B_Sharing_needed 26 [u0, u1, some (.inl (x2 ||| ((1 : Int32) <<< (x3 &&& 31)))), some (.inl x3)] [] h Q) : Wb rod d B_Sharing_needed 20 [u0, u1, some (.inl x2), some (.inl x3)] [] h Q := by
  refine Wb.go (fun r hr q => b_Sharing_needed_20 g0 ?_) k
  (first | exact q | (simp only [Option.getD_some]; exact q))
theorem w_Sharing_needed_26 {rod : Nat → Nat × (Nat → Int32)} {d : Nat} {Q : Option MV → MH → Prop} {u0 : Option MV} {u1 : Option MV} {u2 : Option MV} {x3 : Int32} {h : MH}  (g0 : okl [u0, u1, u2, some (.inl x3)] 3 = true) (k : Wb rod d B_Sharing_needed 4 [u0, u1, u2, some (.inl (x3 + 1))] [] h Q) : Wb rod d B_Sharing_needed 26 [u0, u1, u2, some (.inl x3)] [] h Q := by
  refine Wb.go (fun r hr q => b_Sharing_needed_26 g0 ?_) k
  (first | exact q | (simp only [Option.getD_some]; exact q))
theorem w_Sharing_needed_32 {rod : Nat → Nat × (Nat → Int32)} {d : Nat} {Q : Option MV → MH → Prop} {u0 : Option MV} {u1 : Option MV} {x2 : Int32} {u3 : Option MV} {h : MH}   (q : Q (some (.inl x2)) h) : Wb rod d B_Sharing_needed 32 [u0, u1, some (.inl x2), u3] [] h Q := by
  refine Wb.ret (b_Sharing_needed_32) ?_
  (first | exact q | (simp only [Option.getD_some]; exact q))
theorem n_Sharing_isNeeded {rod : Nat → Nat × (Nat → Int32)} {d : Nat} {Q : Option MV → MH → Prop} {a0 : Nat} {x1 : Int32} {h : MH} (k : Wb rod d B_Sharing_isNeeded 0 [some (.inr (.inr (.inl (some a0)))), some (.inl x1), none] [] h Q) : Wc rod (d + 1) 168 [.inr (.inr (.inl (some a0))), .inl x1] h Q := Wc.en (fun _ _ => e_Sharing_isNeeded) k
theorem w_Sharing_isNeeded_0 {rod : Nat → Nat × (Nat → Int32)} {d : Nat} {Q : Option MV → MH → Prop} {u0 : Option MV} {u1 : Option MV} {u2 : Option MV} {h : MH}  (g0 : okl [u0, u1, u2] 2 = true) (k : Wb rod d B_Sharing_isNeeded 2 [u0, u1, some (.inl (1 : Int32))] [] h Q) : Wb rod d B_Sharing_isNeeded 0 [u0, u1, u2] [] h Q := by
  refine Wb.go (fun r hr q => b_Sharing_isNeeded_0 g0 ?_) k
  (first | exact q | (simp only [Option.getD_some]; exact q))
theorem w_Sharing_isNeeded_2 {rod : Nat → Nat × (Nat → Int32)} {d : Nat} {Q : Option MV → MH → Prop} {a0 : Nat} {u1 : Option MV} {x2 : Int32} {h : MH} (A0 : BargA h.2 a0)  {Q1 : Option MV → MH → Prop} (c : Wc rod d 128 [.inr (.inr (.inl (some a0)))] h Q1) (k : ∀ r1 h2, Q1 r1 h2 → Wb rod d B_Sharing_isNeeded 7 [some (.inr (.inr (.inl (some a0)))), u1, some (.inl x2)] (r1.toList ++ [.inl x2]) h2 Q) : Wb rod d B_Sharing_isNeeded 2 [some (.inr (.inr (.inl (some a0)))), u1, some (.inl x2)] [] h Q := by
  refine Wb.call (fun _ _ _ _ => b_Sharing_isNeeded_2 (A0.o)) (Q1 := Q1) ?_ ?_
  · (first | exact c | (simp only [Option.getD_some]; exact c))
  · (first | exact k | (simp only [Option.getD_some]; exact k))
theorem w_Sharing_isNeeded_7 {rod : Nat → Nat × (Nat → Int32)} {d : Nat} {Q : Option MV → MH → Prop} {u0 : Option MV} {u1 : Option MV} {u2 : Option MV} {xs0 : Int32} {xs1 : Int32} {h : MH}   (k1 : xs1.toInt < xs0.toInt → Wb rod d B_Sharing_isNeeded 34 [u0, u1, u2] [] h Q) (k2 : ¬ xs1.toInt < xs0.toInt → Wb rod d B_Sharing_isNeeded 10 [u0, u1, u2] [] h Q) : Wb rod d B_Sharing_isNeeded 7 [u0, u1, u2] [.inl xs1, .inl xs0] h Q := by
  refine Wb.br (fun _ _ => b_Sharing_isNeeded_7) (fun c => ?_) (fun c => ?_)
  · have c : (decide (xs1 < xs0)) = true := by first | exact c | (simp only [Option.getD_some] at c; exact c)
    (first | exact (k1 (c_ltt c)) | (simp only [Option.getD_some]; exact (k1 (c_ltt c))))
  · have c : (decide (xs1 < xs0)) = false := by first | exact c | (simp only [Option.getD_some] at c; exact c)
    (first | exact (k2 (c_ltf c)) | (simp only [Option.getD_some]; exact (k2 (c_ltf c))))
theorem w_Sharing_isNeeded_10 {rod : Nat → Nat × (Nat → Int32)} {d : Nat} {Q : Option MV → MH → Prop} {u0 : Option MV} {x1 : Int32} {x2 : Int32} {h : MH}   (k1 : ¬ ((x2 >>> (x1 &&& 31)) &&& (1 : Int32)).toInt = 0 → Wb rod d B_Sharing_isNeeded 28 [u0, some (.inl x1), some (.inl x2)] [] h Q) (k2 : ((x2 >>> (x1 &&& 31)) &&& (1 : Int32)).toInt = 0 → Wb rod d B_Sharing_isNeeded 18 [u0, some (.inl x1), some (.inl x2)] [] h Q) : Wb rod d B_Sharing_isNeeded 10 [u0, some (.inl x1), some (.inl x2)] [] h Q := by
  refine Wb.br (fun _ _ => b_Sharing_isNeeded_10) (fun c => ?_) (fun c => ?_)
  · have c : (!(decide (((x2 >>> (x1 &&& 31)) &&& (1 : Int32)) = 0))) = true := by first | exact c | (simp only [Option.getD_some] at c; exact c)
    (first | exact (k1 (c_net c)) | (simp only [Option.getD_some]; exact (k1 (c_net c))))
  · have c : (!(decide (((x2 >>> (x1 &&& 31)) &&& (1 : Int32)) = 0))) = false := by first | exact c | (simp only [Option.getD_some] at c; exact c)
    (first | exact (k2 (c_nef c)) | (simp only [Option.getD_some]; exact (k2 (c_nef c))))
theorem w_Sharing_isNeeded_18 {rod : Nat → Nat × (Nat → Int32)} {d : Nat} {Q : Option MV → MH → Prop} {a0 : Nat} {u1 : Option MV} {x2 : Int32} {h : MH} (A0 : BargA h.2 a0)  {Q1 : Option MV → MH → Prop} (c : Wc rod d 129 [.inr (.inr (.inl (some a0))), .inl x2] h Q1) (k : ∀ r1 h2, Q1 r1 h2 → Wb rod d B_Sharing_isNeeded 23 [some (.inr (.inr (.inl (some a0)))), u1, some (.inl x2)] (r1.toList ++ []) h2 Q) : Wb rod d B_Sharing_isNeeded 18 [some (.inr (.inr (.inl (some a0)))), u1, some (.inl x2)] [] h Q := by
  refine Wb.call (fun _ _ _ _ => b_Sharing_isNeeded_18 (A0.o)) (Q1 := Q1) ?_ ?_
  · (first | exact c | (simp only [Option.getD_some]; exact c))
  · (first | exact k | (simp only [Option.getD_some]; exact k))
theorem w_Sharing_isNeeded_23 {rod : Nat → Nat × (Nat → Int32)} {d : Nat} {Q : Option MV → MH → Prop} {u0 : Option MV} {u1 : Option MV} {u2 : Option MV} {xs0 : Int32} {h : MH}   (k1 : xs0.toInt = 0 → Wb rod d B_Sharing_isNeeded 28 [u0, u1, u2] [] h Q) (k2 : ¬ xs0.toInt = 0 → Wb rod d B_Sharing_isNeeded 26 [u0, u1, u2] [] h Q) : Wb rod d B_Sharing_isNeeded 23 [u0, u1, u2] [.inl xs0] h Q := by
  refine Wb.br (fun _ _ => b_Sharing_isNeeded_23) (fun c => ?_) (fun c => ?_)
  · have c : (decide (xs0 = 0)) = true := by first | exact c | (simp only [Option.getD_some] at c; exact c)
    (first | exact (k1 (c_eqt c)) | (simp only [Option.getD_some]; exact (k1 (c_eqt c))))
  · have c : (decide (xs0 = 0)) = false := by first | exact c | (simp only [Option.getD_some] at c; exact c)
    (first | exact (k2 (c_eqf c)) | (simp only [Option.getD_some]; exact (k2 (c_eqf c))))
theorem w_Sharing_isNeeded_26 {rod : Nat → Nat × (Nat → Int32)} {d : Nat} {Q : Option MV → MH → Prop} {u0 : Option MV} {u1 : Option MV} {u2 : Option MV} {h : MH}   (q : Q (some (.inl (0 : Int32))) h) : Wb rod d B_Sharing_isNeeded 26 [u0, u1, u2] [] h Q := by
  refine Wb.ret (b_Sharing_isNeeded_26) ?_
  (first | exact q | (simp only [Option.getD_some]; exact q))
theorem w_Sharing_isNeeded_28 {rod : Nat → Nat × (Nat → Int32)} {d : Nat} {Q : Option MV → MH → Prop} {u0 : Option MV} {u1 : Option MV} {x2 : Int32} {h : MH}  (g0 : okl [u0, u1, some (.inl x2)] 2 = true) (k : Wb rod d B_Sharing_isNeeded 2 [u0, u1, some (.inl (x2 + 1))] [] h Q) : Wb rod d B_Sharing_isNeeded 28 [u0, u1, some (.inl x2)] [] h Q := by
  refine Wb.go (fun r hr q => b_Sharing_isNeeded_28 g0 ?_) k
  (first | exact q | (simp only [Option.getD_some]; exact q))
theorem w_Sharing_isNeeded_34 {rod : Nat → Nat × (Nat → Int32)} {d : Nat} {Q : Option MV → MH → Prop} {u0 : Option MV} {u1 : Option MV} {u2 : Option MV} {h : MH}   (q : Q (some (.inl (1 : Int32))) h) : Wb rod d B_Sharing_isNeeded 34 [u0, u1, u2] [] h Q := by
  refine Wb.ret (b_Sharing_isNeeded_34) ?_
  (first | exact q | (simp only [Option.getD_some]; exact q))
theorem n_Sharing_idle {rod : Nat → Nat × (Nat → Int32)} {d : Nat} {Q : Option MV → MH → Prop} {a1 : Nat} {h : MH} (k : Wb rod d B_Sharing_idle 0 [some (.inr (.inr (.inl (some 78)))), some (.inr (.inr (.inl (some a1)))), none, none] [] h Q) : Wc rod (d + 1) 169 [.inr (.inr (.inl (some 78))), .inr (.inr (.inl (some a1)))] h Q := Wc.en (fun _ _ => e_Sharing_idle) k
theorem w_Sharing_idle_0 {rod : Nat → Nat × (Nat → Int32)} {d : Nat} {Q : Option MV → MH → Prop} {u0 : Option MV} {u1 : Option MV} {u2 : Option MV} {u3 : Option MV} {h : MH}  (g0 : okl [u0, u1, u2, u3] 2 = true) (k : Wb rod d B_Sharing_idle 4 [u0, u1, some (.inl (0 : Int32)), some (.inl (0 : Int32))] [] h Q) : Wb rod d B_Sharing_idle 0 [u0, u1, u2, u3] [] h Q := by
  refine Wb.go (fun r hr q => b_Sharing_idle_0 g0 ?_) k
  (first | exact q | (simp only [Option.getD_some]; exact q))
theorem w_Sharing_idle_4 {rod : Nat → Nat × (Nat → Int32)} {d : Nat} {Q : Option MV → MH → Prop} {u0 : Option MV} {a1 : Nat} {u2 : Option MV} {x3 : Int32} {h : MH} (A1 : BargA h.2 a1)  (k1 : (h.1 a1 0).toInt ≤ x3.toInt → Wb rod d B_Sharing_idle 32 [u0, some (.inr (.inr (.inl (some a1)))), u2, some (.inl x3)] [] h Q) (k2 : ¬ (h.1 a1 0).toInt ≤ x3.toInt → Wb rod d B_Sharing_idle 12 [u0, some (.inr (.inr (.inl (some a1)))), u2, some (.inl x3)] [] h Q) : Wb rod d B_Sharing_idle 4 [u0, some (.inr (.inr (.inl (some a1)))), u2, some (.inl x3)] [] h Q := by
  refine Wb.br (fun _ _ => b_Sharing_idle_4 (A1.o)) (fun c => ?_) (fun c => ?_)
  · have c : (decide ((h.1 a1 0) ≤ x3)) = true := by first | exact c | (simp only [Option.getD_some] at c; exact c)
    (first | exact (k1 (c_let c)) | (simp only [Option.getD_some]; exact (k1 (c_let c))))
  · have c : (decide ((h.1 a1 0) ≤ x3)) = false := by first | exact c | (simp only [Option.getD_some] at c; exact c)
    (first | exact (k2 (c_lef c)) | (simp only [Option.getD_some]; exact (k2 (c_lef c))))
theorem w_Sharing_idle_12 {rod : Nat → Nat × (Nat → Int32)} {d : Nat} {Q : Option MV → MH → Prop} {u0 : Option MV} {a1 : Nat} {u2 : Option MV} {x3 : Int32} {h : MH}   {Q1 : Option MV → MH → Prop} (c : Wc rod d 170 [.inr (.inr (.inl (some a1))), .inl x3] h Q1) (k : ∀ r1 h2, Q1 r1 h2 → Wb rod d B_Sharing_idle 17 [u0, some (.inr (.inr (.inl (some a1)))), u2, some (.inl x3)] (r1.toList ++ []) h2 Q) : Wb rod d B_Sharing_idle 12 [u0, some (.inr (.inr (.inl (some a1)))), u2, some (.inl x3)] [] h Q := by
  refine Wb.call (fun _ _ _ _ => b_Sharing_idle_12) (Q1 := Q1) ?_ ?_
  · (first | exact c | (simp only [Option.getD_some]; exact c))
  · (first | exact k | (simp only [Option.getD_some]; exact k))
theorem w_Sharing_idle_17 {rod : Nat → Nat × (Nat → Int32)} {d : Nat} {Q : Option MV → MH → Prop} {u0 : Option MV} {u1 : Option MV} {u2 : Option MV} {u3 : Option MV} {xs0 : Int32} {h : MH}   (k1 : xs0.toInt = 0 → Wb rod d B_Sharing_idle 26 [u0, u1, u2, u3] [] h Q) (k2 : ¬ xs0.toInt = 0 → Wb rod d B_Sharing_idle 20 [u0, u1, u2, u3] [] h Q) : Wb rod d B_Sharing_idle 17 [u0, u1, u2, u3] [.inl xs0] h Q := by
  refine Wb.br (fun _ _ => b_Sharing_idle_17) (fun c => ?_) (fun c => ?_)
  · have c : (decide (xs0 = 0)) = true := by first | exact c | (simp only [Option.getD_some] at c; exact c)
    (first | exact (k1 (c_eqt c)) | (simp only [Option.getD_some]; exact (k1 (c_eqt c))))
  · have c : (decide (xs0 = 0)) = false := by first | exact c | (simp only [Option.getD_some] at c; exact c)
    (first | exact (k2 (c_eqf c)) | (simp only [Option.getD_some]; exact (k2 (c_eqf c))))
theorem w_Sharing_idle_20 {rod : Nat → Nat × (Nat → Int32)} {d : Nat} {Q : Option MV → MH → Prop} {u0 : Option MV} {u1 : Option MV} {x2 : Int32} {x3 : Int32} {h : MH}  (g0 : okl [u0, u1, some (.inl x2), some (.inl x3)] 2 = true) (k : Wb rod d B_Sharing_idle 26 [u0, u1, some (.inl (x2 ||| ((1 : Int32) <<< (x3 &&& 31)))), some (.inl x3)] [] h Q) : Wb rod d B_Sharing_idle 20 [u0, u1, some (.inl x2), some (.inl x3)] [] h Q := by
  refine Wb.go (fun r hr q => b_Sharing_idle_20 g0 ?_) k
  (first | exact q | (simp only [Option.getD_some]; exact q))
theorem w_Sharing_idle_26 {rod : Nat → Nat × (Nat → Int32)} {d : Nat} {Q : Option MV → MH → Prop} {u0 : Option MV} {u1 : Option MV} {u2 : Option MV} {x3 : Int32} {h : MH}  (g0 : okl [u0, u1, u2, some (.inl x3)] 3 = true) (k : Wb rod d B_Sharing_idle 4 [u0, u1, u2, some (.inl (x3 + 1))] [] h Q) : Wb rod d B_Sharing_idle 26 [u0, u1, u2, some (.inl x3)] [] h Q := by
  refine Wb.go (fun r hr q => b_Sharing_idle_26 g0 ?_) k
  (first | exact q | (simp only [Option.getD_some]; exact q))
theorem w_Sharing_idle_32 {rod : Nat → Nat × (Nat → Int32)} {d : Nat} {Q : Option MV → MH → Prop} {u0 : Option MV} {u1 : Option MV} {x2 : Int32} {u3 : Option MV} {h : MH}   (q : Q (some (.inl x2)) h) : Wb rod d B_Sharing_idle 32 [u0, u1, some (.inl x2), u3] [] h Q := by
  refine Wb.ret (b_Sharing_idle_32) ?_
  (first | exact q | (simp only [Option.getD_some]; exact q))
theorem n_Sharing_isIdle {rod : Nat → Nat × (Nat → Int32)} {d : Nat} {Q : Option MV → MH → Prop} {a0 : Nat} {x1 : Int32} {h : MH} (k : Wb rod d B_Sharing_isIdle 0 [some (.inr (.inr (.inl (some a0)))), some (.inl x1), none] [] h Q) : Wc rod (d + 1) 170 [.inr (.inr (.inl (some a0))), .inl x1] h Q := Wc.en (fun _ _ => e_Sharing_isIdle) k
theorem w_Sharing_isIdle_0 {rod : Nat → Nat × (Nat → Int32)} {d : Nat} {Q : Option MV → MH → Prop} {u0 : Option MV} {u1 : Option MV} {u2 : Option MV} {h : MH}  (g0 : okl [u0, u1, u2] 2 = true) (k : Wb rod d B_Sharing_isIdle 2 [u0, u1, some (.inl (0 : Int32))] [] h Q) : Wb rod d B_Sharing_isIdle 0 [u0, u1, u2] [] h Q := by
  refine Wb.go (fun r hr q => b_Sharing_isIdle_0 g0 ?_) k
  (first | exact q | (simp only [Option.getD_some]; exact q))
theorem w_Sharing_isIdle_2 {rod : Nat → Nat × (Nat → Int32)} {d : Nat} {Q : Option MV → MH → Prop} {a0 : Nat} {u1 : Option MV} {x2 : Int32} {h : MH} (A0 : BargA h.2 a0)  {Q1 : Option MV → MH → Prop} (c : Wc rod d 128 [.inr (.inr (.inl (some a0)))] h Q1) (k : ∀ r1 h2, Q1 r1 h2 → Wb rod d B_Sharing_isIdle 7 [some (.inr (.inr (.inl (some a0)))), u1, some (.inl x2)] (r1.toList ++ [.inl x2]) h2 Q) : Wb rod d B_Sharing_isIdle 2 [some (.inr (.inr (.inl (some a0)))), u1, some (.inl x2)] [] h Q := by
  refine Wb.call (fun _ _ _ _ => b_Sharing_isIdle_2 (A0.o)) (Q1 := Q1) ?_ ?_
  · (first | exact c | (simp only [Option.getD_some]; exact c))
  · (first | exact k | (simp only [Option.getD_some]; exact k))
theorem w_Sharing_isIdle_7 {rod : Nat → Nat × (Nat → Int32)} {d : Nat} {Q : Option MV → MH → Prop} {u0 : Option MV} {u1 : Option MV} {u2 : Option MV} {xs0 : Int32} {xs1 : Int32} {h : MH}   (k1 : xs1.toInt < xs0.toInt → Wb rod d B_Sharing_isIdle 27 [u0, u1, u2] [] h Q) (k2 : ¬ xs1.toInt < xs0.toInt → Wb rod d B_Sharing_isIdle 10 [u0, u1, u2] [] h Q) : Wb rod d B_Sharing_isIdle 7 [u0, u1, u2] [.inl xs1, .inl xs0] h Q := by
  refine Wb.br (fun _ _ => b_Sharing_isIdle_7) (fun c => ?_) (fun c => ?_)
  · have c : (decide (xs1 < xs0)) = true := by first | exact c | (simp only [Option.getD_some] at c; exact c)
    (first | exact (k1 (c_ltt c)) | (simp only [Option.getD_some]; exact (k1 (c_ltt c))))
  · have c : (decide (xs1 < xs0)) = false := by first | exact c | (simp only [Option.getD_some] at c; exact c)
    (first | exact (k2 (c_ltf c)) | (simp only [Option.getD_some]; exact (k2 (c_ltf c))))
theorem w_Sharing_isIdle_10 {rod : Nat → Nat × (Nat → Int32)} {d : Nat} {Q : Option MV → MH → Prop} {a0 : Nat} {x1 : Int32} {x2 : Int32} {h : MH} (A0 : BargA h.2 a0)  {Q1 : Option MV → MH → Prop} (c : Wc rod d 142 [.inr (.inr (.inl (some a0))), .inl x2, .inl x1] h Q1) (k : ∀ r1 h2, Q1 r1 h2 → Wb rod d B_Sharing_isIdle 16 [some (.inr (.inr (.inl (some a0)))), some (.inl x1), some (.inl x2)] (r1.toList ++ []) h2 Q) : Wb rod d B_Sharing_isIdle 10 [some (.inr (.inr (.inl (some a0)))), some (.inl x1), some (.inl x2)] [] h Q := by
  refine Wb.call (fun _ _ _ _ => b_Sharing_isIdle_10 (A0.o)) (Q1 := Q1) ?_ ?_
  · (first | exact c | (simp only [Option.getD_some]; exact c))
  · (first | exact k | (simp only [Option.getD_some]; exact k))
theorem w_Sharing_isIdle_16 {rod : Nat → Nat × (Nat → Int32)} {d : Nat} {Q : Option MV → MH → Prop} {u0 : Option MV} {u1 : Option MV} {u2 : Option MV} {xs0 : Int32} {h : MH}   (k1 : xs0.toInt = 0 → Wb rod d B_Sharing_isIdle 21 [u0, u1, u2] [] h Q) (k2 : ¬ xs0.toInt = 0 → Wb rod d B_Sharing_isIdle 19 [u0, u1, u2] [] h Q) : Wb rod d B_Sharing_isIdle 16 [u0, u1, u2] [.inl xs0] h Q := by
  refine Wb.br (fun _ _ => b_Sharing_isIdle_16) (fun c => ?_) (fun c => ?_)
  · have c : (decide (xs0 = 0)) = true := by first | exact c | (simp only [Option.getD_some] at c; exact c)
    (first | exact (k1 (c_eqt c)) | (simp only [Option.getD_some]; exact (k1 (c_eqt c))))
  · have c : (decide (xs0 = 0)) = false := by first | exact c | (simp only [Option.getD_some] at c; exact c)
    (first | exact (k2 (c_eqf c)) | (simp only [Option.getD_some]; exact (k2 (c_eqf c))))
theorem w_Sharing_isIdle_19 {rod : Nat → Nat × (Nat → Int32)} {d : Nat} {Q : Option MV → MH → Prop} {u0 : Option MV} {u1 : Option MV} {u2 : Option MV} {h : MH}   (q : Q (some (.inl (0 : Int32))) h) : Wb rod d B_Sharing_isIdle 19 [u0, u1, u2] [] h Q := by
  refine Wb.ret (b_Sharing_isIdle_19) ?_
  (first | exact q | (simp only [Option.getD_some]; exact q))
theorem w_Sharing_isIdle_21 {rod : Nat → Nat × (Nat → Int32)} {d : Nat} {Q : Option MV → MH → Prop} {u0 : Option MV} {u1 : Option MV} {x2 : Int32} {h : MH}  (g0 : okl [u0, u1, some (.inl x2)] 2 = true) (k : Wb rod d B_Sharing_isIdle 2 [u0, u1, some (.inl (x2 + 1))] [] h Q) : Wb rod d B_Sharing_isIdle 21 [u0, u1, some (.inl x2)] [] h Q := by
  refine Wb.go (fun r hr q => b_Sharing_isIdle_21 g0 ?_) k
  (first | exact q | (simp only [Option.getD_some]; exact q))
theorem w_Sharing_isIdle_27 {rod : Nat → Nat × (Nat → Int32)} {d : Nat} {Q : Option MV → MH → Prop} {u0 : Option MV} {u1 : Option MV} {u2 : Option MV} {h : MH}   (q : Q (some (.inl (1 : Int32))) h) : Wb rod d B_Sharing_isIdle 27 [u0, u1, u2] [] h Q := by
  refine Wb.ret (b_Sharing_isIdle_27) ?_
  (first | exact q | (simp only [Option.getD_some]; exact q))
theorem n_Sharing_swings {rod : Nat → Nat × (Nat → Int32)} {d : Nat} {Q : Option MV → MH → Prop} {a1 : Nat} {x2 : Int32} {h : MH} (k : Wb rod d B_Sharing_swings 0 [some (.inr (.inr (.inl (some 78)))), some (.inr (.inr (.inl (some a1)))), some (.inl x2), none, none] [] h Q) : Wc rod (d + 1) 171 [.inr (.inr (.inl (some 78))), .inr (.inr (.inl (some a1))), .inl x2] h Q := Wc.en (fun _ _ => e_Sharing_swings) k
theorem w_Sharing_swings_0 {rod : Nat → Nat × (Nat → Int32)} {d : Nat} {Q : Option MV → MH → Prop} {u0 : Option MV} {u1 : Option MV} {u2 : Option MV} {u3 : Option MV} {u4 : Option MV} {h : MH}  (g0 : okl [u0, u1, u2, u3, u4] 3 = true) (k : Wb rod d B_Sharing_swings 5 [u0, u1, u2, some (.inl (0 : Int32)), some (.inl (0 : Int32))] [] h Q) : Wb rod d B_Sharing_swings 0 [u0, u1, u2, u3, u4] [] h Q := by
  refine Wb.go (fun r hr q => b_Sharing_swings_0 g0 ?_) k
  (first | exact q | (simp only [Option.getD_some]; exact q))
theorem w_Sharing_swings_5 {rod : Nat → Nat × (Nat → Int32)} {d : Nat} {Q : Option MV → MH → Prop} {u0 : Option MV} {a1 : Nat} {u2 : Option MV} {u3 : Option MV} {x4 : Int32} {h : MH} (A1 : BargA h.2 a1)  {Q1 : Option MV → MH → Prop} (c : Wc rod d 128 [.inr (.inr (.inl (some a1)))] h Q1) (k : ∀ r1 h2, Q1 r1 h2 → Wb rod d B_Sharing_swings 11 [u0, some (.inr (.inr (.inl (some a1)))), u2, u3, some (.inl x4)] (r1.toList ++ [.inl x4]) h2 Q) : Wb rod d B_Sharing_swings 5 [u0, some (.inr (.inr (.inl (some a1)))), u2, u3, some (.inl x4)] [] h Q := by
  refine Wb.call (fun _ _ _ _ => b_Sharing_swings_5 (A1.o)) (Q1 := Q1) ?_ ?_
  · (first | exact c | (simp only [Option.getD_some]; exact c))
  · (first | exact k | (simp only [Option.getD_some]; exact k))
theorem w_Sharing_swings_11 {rod : Nat → Nat × (Nat → Int32)} {d : Nat} {Q : Option MV → MH → Prop} {u0 : Option MV} {u1 : Option MV} {u2 : Option MV} {u3 : Option MV} {u4 : Option MV} {xs0 : Int32} {xs1 : Int32} {h : MH}   (k1 : xs1.toInt < xs0.toInt → Wb rod d B_Sharing_swings 33 [u0, u1, u2, u3, u4] [] h Q) (k2 : ¬ xs1.toInt < xs0.toInt → Wb rod d B_Sharing_swings 14 [u0, u1, u2, u3, u4] [] h Q) : Wb rod d B_Sharing_swings 11 [u0, u1, u2, u3, u4] [.inl xs1, .inl xs0] h Q := by
  refine Wb.br (fun _ _ => b_Sharing_swings_11) (fun c => ?_) (fun c => ?_)
  · have c : (decide (xs1 < xs0)) = true := by first | exact c | (simp only [Option.getD_some] at c; exact c)
    (first | exact (k1 (c_ltt c)) | (simp only [Option.getD_some]; exact (k1 (c_ltt c))))
  · have c : (decide (xs1 < xs0)) = false := by first | exact c | (simp only [Option.getD_some] at c; exact c)
    (first | exact (k2 (c_ltf c)) | (simp only [Option.getD_some]; exact (k2 (c_ltf c))))
theorem w_Sharing_swings_14 {rod : Nat → Nat × (Nat → Int32)} {d : Nat} {Q : Option MV → MH → Prop} {u0 : Option MV} {a1 : Nat} {x2 : Int32} {u3 : Option MV} {x4 : Int32} {h : MH} (A1 : BargA h.2 a1)  {Q1 : Option MV → MH → Prop} (c : Wc rod d 142 [.inr (.inr (.inl (some a1))), .inl x4, .inl x2] h Q1) (k : ∀ r1 h2, Q1 r1 h2 → Wb rod d B_Sharing_swings 21 [u0, some (.inr (.inr (.inl (some a1)))), some (.inl x2), u3, some (.inl x4)] (r1.toList ++ []) h2 Q) : Wb rod d B_Sharing_swings 14 [u0, some (.inr (.inr (.inl (some a1)))), some (.inl x2), u3, some (.inl x4)] [] h Q := by
  refine Wb.call (fun _ _ _ _ => b_Sharing_swings_14 (A1.o)) (Q1 := Q1) ?_ ?_
  · (first | exact c | (simp only [Option.getD_some]; exact c))
  · (first | exact k | (simp only [Option.getD_some]; exact k))
theorem w_Sharing_swings_21 {rod : Nat → Nat × (Nat → Int32)} {d : Nat} {Q : Option MV → MH → Prop} {u0 : Option MV} {u1 : Option MV} {u2 : Option MV} {u3 : Option MV} {u4 : Option MV} {xs0 : Int32} {h : MH}   (k1 : xs0.toInt ≤ 0 → Wb rod d B_Sharing_swings 27 [u0, u1, u2, u3, u4] [] h Q) (k2 : ¬ xs0.toInt ≤ 0 → Wb rod d B_Sharing_swings 24 [u0, u1, u2, u3, u4] [] h Q) : Wb rod d B_Sharing_swings 21 [u0, u1, u2, u3, u4] [.inl xs0] h Q := by
  refine Wb.br (fun _ _ => b_Sharing_swings_21) (fun c => ?_) (fun c => ?_)
  · have c : (decide (xs0 ≤ 0)) = true := by first | exact c | (simp only [Option.getD_some] at c; exact c)
    (first | exact (k1 (c_let c)) | (simp only [Option.getD_some]; exact (k1 (c_let c))))
  · have c : (decide (xs0 ≤ 0)) = false := by first | exact c | (simp only [Option.getD_some] at c; exact c)
    (first | exact (k2 (c_lef c)) | (simp only [Option.getD_some]; exact (k2 (c_lef c))))
theorem w_Sharing_swings_24 {rod : Nat → Nat × (Nat → Int32)} {d : Nat} {Q : Option MV → MH → Prop} {u0 : Option MV} {u1 : Option MV} {u2 : Option MV} {x3 : Int32} {u4 : Option MV} {h : MH}  (g0 : okl [u0, u1, u2, some (.inl x3), u4] 3 = true) (k : Wb rod d B_Sharing_swings 27 [u0, u1, u2, some (.inl (x3 + 1)), u4] [] h Q) : Wb rod d B_Sharing_swings 24 [u0, u1, u2, some (.inl x3), u4] [] h Q := by
  refine Wb.go (fun r hr q => b_Sharing_swings_24 g0 ?_) k
  (first | exact q | (simp only [Option.getD_some]; exact q))
theorem w_Sharing_swings_27 {rod : Nat → Nat × (Nat → Int32)} {d : Nat} {Q : Option MV → MH → Prop} {u0 : Option MV} {u1 : Option MV} {u2 : Option MV} {u3 : Option MV} {x4 : Int32} {h : MH}  (g0 : okl [u0, u1, u2, u3, some (.inl x4)] 4 = true) (k : Wb rod d B_Sharing_swings 5 [u0, u1, u2, u3, some (.inl (x4 + 1))] [] h Q) : Wb rod d B_Sharing_swings 27 [u0, u1, u2, u3, some (.inl x4)] [] h Q := by
  refine Wb.go (fun r hr q => b_Sharing_swings_27 g0 ?_) k
  (first | exact q | (simp only [Option.getD_some]; exact q))
theorem w_Sharing_swings_33 {rod : Nat → Nat × (Nat → Int32)} {d : Nat} {Q : Option MV → MH → Prop} {u0 : Option MV} {u1 : Option MV} {u2 : Option MV} {x3 : Int32} {u4 : Option MV} {h : MH}   (q : Q (some (.inl x3)) h) : Wb rod d B_Sharing_swings 33 [u0, u1, u2, some (.inl x3), u4] [] h Q := by
  refine Wb.ret (b_Sharing_swings_33) ?_
  (first | exact q | (simp only [Option.getD_some]; exact q))
theorem n_Main_after {rod : Nat → Nat × (Nat → Int32)} {d : Nat} {Q : Option MV → MH → Prop} {x1 : Int32} {x2 : Int32} {x3 : Int32} {h : MH} (k : Wb rod d B_Main_after 0 [some (.inr (.inr (.inl (some 0)))), some (.inl x1), some (.inl x2), some (.inl x3), none, none, none] [] h Q) : Wc rod (d + 1) 172 [.inr (.inr (.inl (some 0))), .inl x1, .inl x2, .inl x3] h Q := Wc.en (fun _ _ => e_Main_after) k
theorem w_Main_after_0 {rod : Nat → Nat × (Nat → Int32)} {d : Nat} {Q : Option MV → MH → Prop} {x1 : Int32} {u2 : Option MV} {u3 : Option MV} {u4 : Option MV} {u5 : Option MV} {u6 : Option MV} {h : MH} (L : Lay h.2)  {Q1 : Option MV → MH → Prop} (c : Wc rod d 61 [.inr (.inr (.inl (some 1))), .inl x1] h Q1) (k : ∀ r1 h2, Q1 r1 h2 → Wb rod d B_Main_after 8 [some (.inr (.inr (.inl (some 0)))), some (.inl x1), u2, u3, u4, u5, u6] (r1.toList ++ []) h2 Q) : Wb rod d B_Main_after 0 [some (.inr (.inr (.inl (some 0)))), some (.inl x1), u2, u3, u4, u5, u6] [] h Q := by
  refine Wb.call (fun _ _ _ _ => b_Main_after_0 (Lay.o0 L) (Lay.k0_0 L)) (Q1 := Q1) ?_ ?_
  · (first | exact c | (simp only [Option.getD_some, (Lay.r0_0 L)]; exact c))
  · (first | exact k | (simp only [Option.getD_some, (Lay.r0_0 L)]; exact k))
theorem w_Main_after_8 {rod : Nat → Nat × (Nat → Int32)} {d : Nat} {Q : Option MV → MH → Prop} {u1 : Option MV} {x2 : Int32} {u3 : Option MV} {u4 : Option MV} {u5 : Option MV} {u6 : Option MV} {as0 : Nat} {h : MH} (L : Lay h.2) (g0 : okl [some (.inr (.inr (.inl (some 0)))), u1, some (.inl x2), u3, u4, u5, u6] 4 = true) {Q1 : Option MV → MH → Prop} (c : Wc rod d 72 [.inr (.inr (.inl (some 1))), .inl x2] h Q1) (k : ∀ r1 h2, Q1 r1 h2 → Wb rod d B_Main_after 18 [some (.inr (.inr (.inl (some 0)))), u1, some (.inl x2), u3, some (.inr (.inr (.inl (some as0)))), u5, u6] (r1.toList ++ []) h2 Q) : Wb rod d B_Main_after 8 [some (.inr (.inr (.inl (some 0)))), u1, some (.inl x2), u3, u4, u5, u6] [.inr (.inr (.inl (some as0)))] h Q := by
  refine Wb.call (fun _ _ _ _ => b_Main_after_8 g0 (Lay.o0 L) (Lay.k0_0 L)) (Q1 := Q1) ?_ ?_
  · (first | exact c | (simp only [Option.getD_some, (Lay.r0_0 L)]; exact c))
  · (first | exact k | (simp only [Option.getD_some, (Lay.r0_0 L)]; exact k))
theorem w_Main_after_18 {rod : Nat → Nat × (Nat → Int32)} {d : Nat} {Q : Option MV → MH → Prop} {u0 : Option MV} {u1 : Option MV} {u2 : Option MV} {u3 : Option MV} {o4 : Option Nat} {u5 : Option MV} {u6 : Option MV} {as0 : Nat} {h : MH}   (k1 : o4 = none → Wb rod d B_Main_after 30 [u0, u1, u2, u3, some (.inr (.inr (.inl o4))), some (.inr (.inr (.inl (some as0)))), u6] [] h Q) (k2 : ∀ v, o4 = some v → Wb rod d B_Main_after 25 [u0, u1, u2, u3, some (.inr (.inr (.inl o4))), some (.inr (.inr (.inl (some as0)))), u6] [] h Q) : Wb rod d B_Main_after 18 [u0, u1, u2, u3, some (.inr (.inr (.inl o4))), u5, u6] [.inr (.inr (.inl (some as0)))] h Q := by
  cases o4 with
  | none =>
    refine Wb.br (fun _ _ => b_Main_after_18) (fun c => ?_) (fun c => ?_)
    · exact k1 rfl
    · simp at c
  | some v =>
    refine Wb.br (fun _ _ => b_Main_after_18) (fun c => ?_) (fun c => ?_)
    · simp at c
    · exact k2 v rfl
theorem w_Main_after_25 {rod : Nat → Nat × (Nat → Int32)} {d : Nat} {Q : Option MV → MH → Prop} {u0 : Option MV} {u1 : Option MV} {u2 : Option MV} {u3 : Option MV} {u4 : Option MV} {o5 : Option Nat} {u6 : Option MV} {h : MH}   (k1 : o5 = none → Wb rod d B_Main_after 30 [u0, u1, u2, u3, u4, some (.inr (.inr (.inl o5))), u6] [] h Q) (k2 : ∀ v, o5 = some v → Wb rod d B_Main_after 33 [u0, u1, u2, u3, u4, some (.inr (.inr (.inl o5))), u6] [] h Q) : Wb rod d B_Main_after 25 [u0, u1, u2, u3, u4, some (.inr (.inr (.inl o5))), u6] [] h Q := by
  cases o5 with
  | none =>
    refine Wb.br (fun _ _ => b_Main_after_25) (fun c => ?_) (fun c => ?_)
    · simp at c
    · exact k1 rfl
  | some v =>
    refine Wb.br (fun _ _ => b_Main_after_25) (fun c => ?_) (fun c => ?_)
    · exact k2 v rfl
    · simp at c
theorem w_Main_after_30 {rod : Nat → Nat × (Nat → Int32)} {d : Nat} {Q : Option MV → MH → Prop} {u0 : Option MV} {u1 : Option MV} {u2 : Option MV} {u3 : Option MV} {u4 : Option MV} {u5 : Option MV} {u6 : Option MV} {h : MH}   (q : Q (some (.inl (-2 : Int32))) h) : Wb rod d B_Main_after 30 [u0, u1, u2, u3, u4, u5, u6] [] h Q := by
  refine Wb.ret (b_Main_after_30) ?_
  (first | exact q | (simp only [Option.getD_some]; exact q))
theorem w_Main_after_33 {rod : Nat → Nat × (Nat → Int32)} {d : Nat} {Q : Option MV → MH → Prop} {u1 : Option MV} {u2 : Option MV} {u3 : Option MV} {a4 : Nat} {a5 : Nat} {u6 : Option MV} {h : MH} (L : Lay h.2)  {Q1 : Option MV → MH → Prop} (c : Wc rod d 76 [.inr (.inr (.inl (some 65))), .inr (.inr (.inl (some a4))), .inr (.inr (.inl (some a5))), .inl (40 : Int32)] h Q1) (k : ∀ r1 h2, Q1 r1 h2 → Wb rod d B_Main_after 46 [some (.inr (.inr (.inl (some 0)))), u1, u2, u3, some (.inr (.inr (.inl (some a4)))), some (.inr (.inr (.inl (some a5)))), u6] (r1.toList ++ []) h2 Q) : Wb rod d B_Main_after 33 [some (.inr (.inr (.inl (some 0)))), u1, u2, u3, some (.inr (.inr (.inl (some a4)))), some (.inr (.inr (.inl (some a5)))), u6] [] h Q := by
  refine Wb.call (fun _ _ _ _ => b_Main_after_33 (Lay.o0 L) (Lay.k0_3 L)) (Q1 := Q1) ?_ ?_
  · (first | exact c | (simp only [Option.getD_some, (Lay.r0_3 L)]; exact c))
  · (first | exact k | (simp only [Option.getD_some, (Lay.r0_3 L)]; exact k))
theorem w_Main_after_46 {rod : Nat → Nat × (Nat → Int32)} {d : Nat} {Q : Option MV → MH → Prop} {u0 : Option MV} {u1 : Option MV} {u2 : Option MV} {x3 : Int32} {u4 : Option MV} {u5 : Option MV} {u6 : Option MV} {xs0 : Int32} {h : MH}  (g0 : okl [u0, u1, u2, some (.inl x3), u4, u5, u6] 6 = true) (k0 : x3.toInt = 0 → Wb rod d B_Main_after 76 [u0, u1, u2, some (.inl x3), u4, u5, some (.inl xs0)] [] h Q) (k1 : x3.toInt = 1 → Wb rod d B_Main_after 86 [u0, u1, u2, some (.inl x3), u4, u5, some (.inl xs0)] [] h Q) (k2 : x3.toInt = 2 → Wb rod d B_Main_after 100 [u0, u1, u2, some (.inl x3), u4, u5, some (.inl xs0)] [] h Q) (kd : x3.toInt ≠ 0 → x3.toInt ≠ 1 → x3.toInt ≠ 2 → Wb rod d B_Main_after 110 [u0, u1, u2, some (.inl x3), u4, u5, some (.inl xs0)] [] h Q) : Wb rod d B_Main_after 46 [u0, u1, u2, some (.inl x3), u4, u5, u6] [.inl xs0] h Q := by
  have key : Wb rod d B_Main_after (tabT [27, 37, 51] 0 x3 49 110) [u0, u1, u2, some (.inl x3), u4, u5, some (.inl xs0)] [] h Q := by
    by_cases e0 : x3 = Int32.ofInt 0
    · rw [show tabT [27, 37, 51] 0 x3 49 110 = 76 from by rw [e0]; rfl]
      exact k0 (by rw [e0]; rfl)
    by_cases e1 : x3 = Int32.ofInt 1
    · rw [show tabT [27, 37, 51] 0 x3 49 110 = 86 from by rw [e1]; rfl]
      exact k1 (by rw [e1]; rfl)
    by_cases e2 : x3 = Int32.ofInt 2
    · rw [show tabT [27, 37, 51] 0 x3 49 110 = 100 from by rw [e2]; rfl]
      exact k2 (by rw [e2]; rfl)
    rw [show tabT [27, 37, 51] 0 x3 49 110 = 110 from (if_neg e0).trans ((if_neg e1).trans ((if_neg e2).trans (rfl)))]
    exact kd (fun q => e0 (Int32.toInt_inj.mp q)) (fun q => e1 (Int32.toInt_inj.mp q)) (fun q => e2 (Int32.toInt_inj.mp q))
  refine Wb.go (fun r hr q => b_Main_after_46 g0 ?_) key
  (first | exact q | (simp only [Option.getD_some]; exact q))
theorem w_Main_after_76 {rod : Nat → Nat × (Nat → Int32)} {d : Nat} {Q : Option MV → MH → Prop} {u1 : Option MV} {u2 : Option MV} {u3 : Option MV} {a4 : Nat} {u5 : Option MV} {u6 : Option MV} {h : MH} (L : Lay h.2)  {Q1 : Option MV → MH → Prop} (c : Wc rod d 173 [.inr (.inr (.inl (some 65))), .inr (.inr (.inl (some a4)))] h Q1) (k : ∀ r1 h2, Q1 r1 h2 → Wb rod d B_Main_after 85 [some (.inr (.inr (.inl (some 0)))), u1, u2, u3, some (.inr (.inr (.inl (some a4)))), u5, u6] (r1.toList ++ []) h2 Q) : Wb rod d B_Main_after 76 [some (.inr (.inr (.inl (some 0)))), u1, u2, u3, some (.inr (.inr (.inl (some a4)))), u5, u6] [] h Q := by
  refine Wb.call (fun _ _ _ _ => b_Main_after_76 (Lay.o0 L) (Lay.k0_3 L)) (Q1 := Q1) ?_ ?_
  · (first | exact c | (simp only [Option.getD_some, (Lay.r0_3 L)]; exact c))
  · (first | exact k | (simp only [Option.getD_some, (Lay.r0_3 L)]; exact k))
theorem w_Main_after_85 {rod : Nat → Nat × (Nat → Int32)} {d : Nat} {Q : Option MV → MH → Prop} {u0 : Option MV} {u1 : Option MV} {u2 : Option MV} {u3 : Option MV} {u4 : Option MV} {u5 : Option MV} {u6 : Option MV} {xs0 : Int32} {h : MH}   (q : Q (some (.inl xs0)) h) : Wb rod d B_Main_after 85 [u0, u1, u2, u3, u4, u5, u6] [.inl xs0] h Q := by
  refine Wb.ret (b_Main_after_85) ?_
  (first | exact q | (simp only [Option.getD_some]; exact q))
theorem w_Main_after_86 {rod : Nat → Nat × (Nat → Int32)} {d : Nat} {Q : Option MV → MH → Prop} {u1 : Option MV} {u2 : Option MV} {u3 : Option MV} {a4 : Nat} {a5 : Nat} {x6 : Int32} {h : MH} (L : Lay h.2)  {Q1 : Option MV → MH → Prop} (c : Wc rod d 174 [.inr (.inr (.inl (some 65))), .inr (.inr (.inl (some a4))), .inr (.inr (.inl (some a5))), .inl x6] h Q1) (k : ∀ r1 h2, Q1 r1 h2 → Wb rod d B_Main_after 99 [some (.inr (.inr (.inl (some 0)))), u1, u2, u3, some (.inr (.inr (.inl (some a4)))), some (.inr (.inr (.inl (some a5)))), some (.inl x6)] (r1.toList ++ []) h2 Q) : Wb rod d B_Main_after 86 [some (.inr (.inr (.inl (some 0)))), u1, u2, u3, some (.inr (.inr (.inl (some a4)))), some (.inr (.inr (.inl (some a5)))), some (.inl x6)] [] h Q := by
  refine Wb.call (fun _ _ _ _ => b_Main_after_86 (Lay.o0 L) (Lay.k0_3 L)) (Q1 := Q1) ?_ ?_
  · (first | exact c | (simp only [Option.getD_some, (Lay.r0_3 L)]; exact c))
  · (first | exact k | (simp only [Option.getD_some, (Lay.r0_3 L)]; exact k))
theorem w_Main_after_99 {rod : Nat → Nat × (Nat → Int32)} {d : Nat} {Q : Option MV → MH → Prop} {u0 : Option MV} {u1 : Option MV} {u2 : Option MV} {u3 : Option MV} {u4 : Option MV} {u5 : Option MV} {u6 : Option MV} {xs0 : Int32} {h : MH}   (q : Q (some (.inl xs0)) h) : Wb rod d B_Main_after 99 [u0, u1, u2, u3, u4, u5, u6] [.inl xs0] h Q := by
  refine Wb.ret (b_Main_after_99) ?_
  (first | exact q | (simp only [Option.getD_some]; exact q))
theorem w_Main_after_100 {rod : Nat → Nat × (Nat → Int32)} {d : Nat} {Q : Option MV → MH → Prop} {u1 : Option MV} {u2 : Option MV} {u3 : Option MV} {a4 : Nat} {u5 : Option MV} {u6 : Option MV} {h : MH} (L : Lay h.2)  {Q1 : Option MV → MH → Prop} (c : Wc rod d 175 [.inr (.inr (.inl (some 65))), .inr (.inr (.inl (some a4)))] h Q1) (k : ∀ r1 h2, Q1 r1 h2 → Wb rod d B_Main_after 109 [some (.inr (.inr (.inl (some 0)))), u1, u2, u3, some (.inr (.inr (.inl (some a4)))), u5, u6] (r1.toList ++ []) h2 Q) : Wb rod d B_Main_after 100 [some (.inr (.inr (.inl (some 0)))), u1, u2, u3, some (.inr (.inr (.inl (some a4)))), u5, u6] [] h Q := by
  refine Wb.call (fun _ _ _ _ => b_Main_after_100 (Lay.o0 L) (Lay.k0_3 L)) (Q1 := Q1) ?_ ?_
  · (first | exact c | (simp only [Option.getD_some, (Lay.r0_3 L)]; exact c))
  · (first | exact k | (simp only [Option.getD_some, (Lay.r0_3 L)]; exact k))
theorem w_Main_after_109 {rod : Nat → Nat × (Nat → Int32)} {d : Nat} {Q : Option MV → MH → Prop} {u0 : Option MV} {u1 : Option MV} {u2 : Option MV} {u3 : Option MV} {u4 : Option MV} {u5 : Option MV} {u6 : Option MV} {xs0 : Int32} {h : MH}   (q : Q (some (.inl xs0)) h) : Wb rod d B_Main_after 109 [u0, u1, u2, u3, u4, u5, u6] [.inl xs0] h Q := by
  refine Wb.ret (b_Main_after_109) ?_
  (first | exact q | (simp only [Option.getD_some]; exact q))
theorem w_Main_after_110 {rod : Nat → Nat × (Nat → Int32)} {d : Nat} {Q : Option MV → MH → Prop} {u0 : Option MV} {u1 : Option MV} {u2 : Option MV} {u3 : Option MV} {u4 : Option MV} {u5 : Option MV} {u6 : Option MV} {h : MH}   (q : Q (some (.inl (-2 : Int32))) h) : Wb rod d B_Main_after 110 [u0, u1, u2, u3, u4, u5, u6] [] h Q := by
  refine Wb.ret (b_Main_after_110) ?_
  (first | exact q | (simp only [Option.getD_some]; exact q))
