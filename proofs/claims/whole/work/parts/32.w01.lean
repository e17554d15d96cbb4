/-! RULES OF BLOCKS over postconditions, references resolved (1) -/
theorem n_Months_mostBy {rod : Nat → Nat × (Nat → Int32)} {d : Nat} {Q : Option MV → MH → Prop} {x1 : Int32} {x2 : Int32} {x3 : Int32} {h : MH} (k : Wb rod d B_Months_mostBy 0 [some (.inr (.inr (.inl (some 82)))), some (.inl x1), some (.inl x2), some (.inl x3), none] [] h Q) : Wc rod (d + 1) 12 [.inr (.inr (.inl (some 82))), .inl x1, .inl x2, .inl x3] h Q := Wc.en (fun _ _ => e_Months_mostBy) k
theorem w_Months_mostBy_0 {rod : Nat → Nat × (Nat → Int32)} {d : Nat} {Q : Option MV → MH → Prop} {u0 : Option MV} {x1 : Int32} {u2 : Option MV} {u3 : Option MV} {u4 : Option MV} {h : MH}   (k1 : ¬ x1.toInt = 0 → Wb rod d B_Months_mostBy 8 [u0, some (.inl x1), u2, u3, u4] [] h Q) (k2 : x1.toInt = 0 → Wb rod d B_Months_mostBy 4 [u0, some (.inl x1), u2, u3, u4] [] h Q) : Wb rod d B_Months_mostBy 0 [u0, some (.inl x1), u2, u3, u4] [] h Q := by
  refine Wb.br (fun _ _ => b_Months_mostBy_0) (fun c => ?_) (fun c => ?_)
  · have c : (!(decide (x1 = 0))) = true := by first | exact c | (simp only [Option.getD_some] at c; exact c)
    (first | exact (k1 (c_net c)) | (simp only [Option.getD_some]; exact (k1 (c_net c))))
  · have c : (!(decide (x1 = 0))) = false := by first | exact c | (simp only [Option.getD_some] at c; exact c)
    (first | exact (k2 (c_nef c)) | (simp only [Option.getD_some]; exact (k2 (c_nef c))))
theorem w_Months_mostBy_4 {rod : Nat → Nat × (Nat → Int32)} {d : Nat} {Q : Option MV → MH → Prop} {u0 : Option MV} {u1 : Option MV} {u2 : Option MV} {x3 : Int32} {u4 : Option MV} {h : MH}   (k : Wb rod d B_Months_mostBy 20 [u0, u1, u2, some (.inl x3), u4] [.inl x3] h Q) : Wb rod d B_Months_mostBy 4 [u0, u1, u2, some (.inl x3), u4] [] h Q := by
  refine Wb.go (fun r hr q => b_Months_mostBy_4 ?_) k
  (first | exact q | (simp only [Option.getD_some]; exact q))
theorem w_Months_mostBy_8 {rod : Nat → Nat × (Nat → Int32)} {d : Nat} {Q : Option MV → MH → Prop} {u0 : Option MV} {x1 : Int32} {u2 : Option MV} {u3 : Option MV} {u4 : Option MV} {h : MH}   (k1 : ¬ x1.toInt = 2 → Wb rod d B_Months_mostBy 19 [u0, some (.inl x1), u2, u3, u4] [] h Q) (k2 : x1.toInt = 2 → Wb rod d B_Months_mostBy 13 [u0, some (.inl x1), u2, u3, u4] [] h Q) : Wb rod d B_Months_mostBy 8 [u0, some (.inl x1), u2, u3, u4] [] h Q := by
  refine Wb.br (fun _ _ => b_Months_mostBy_8) (fun c => ?_) (fun c => ?_)
  · have c : (!(decide (x1 = (2 : Int32)))) = true := by first | exact c | (simp only [Option.getD_some] at c; exact c)
    (first | exact (k1 (c_net c)) | (simp only [Option.getD_some]; exact (k1 (c_net c))))
  · have c : (!(decide (x1 = (2 : Int32)))) = false := by first | exact c | (simp only [Option.getD_some] at c; exact c)
    (first | exact (k2 (c_nef c)) | (simp only [Option.getD_some]; exact (k2 (c_nef c))))
theorem w_Months_mostBy_13 {rod : Nat → Nat × (Nat → Int32)} {d : Nat} {Q : Option MV → MH → Prop} {u0 : Option MV} {u1 : Option MV} {u2 : Option MV} {x3 : Int32} {u4 : Option MV} {h : MH}   (k : Wb rod d B_Months_mostBy 20 [u0, u1, u2, some (.inl x3), u4] [.inl ((3 : Int32) * x3)] h Q) : Wb rod d B_Months_mostBy 13 [u0, u1, u2, some (.inl x3), u4] [] h Q := by
  refine Wb.go (fun r hr q => b_Months_mostBy_13 ?_) k
  (first | exact q | (simp only [Option.getD_some]; exact q))
theorem w_Months_mostBy_19 {rod : Nat → Nat × (Nat → Int32)} {d : Nat} {Q : Option MV → MH → Prop} {u0 : Option MV} {u1 : Option MV} {u2 : Option MV} {u3 : Option MV} {u4 : Option MV} {h : MH}   (k : Wb rod d B_Months_mostBy 20 [u0, u1, u2, u3, u4] [.inl (0 : Int32)] h Q) : Wb rod d B_Months_mostBy 19 [u0, u1, u2, u3, u4] [] h Q := by
  refine Wb.go (fun r hr q => b_Months_mostBy_19 ?_) k
  (first | exact q | (simp only [Option.getD_some]; exact q))
theorem w_Months_mostBy_20 {rod : Nat → Nat × (Nat → Int32)} {d : Nat} {Q : Option MV → MH → Prop} {x1 : Int32} {x2 : Int32} {x3 : Int32} {u4 : Option MV} {xs0 : Int32} {h : MH}   {Q1 : Option MV → MH → Prop} (c : Wc rod d 13 [.inl x1, .inl x3] h Q1) (k : ∀ r1 h2, Q1 r1 h2 → Wb rod d B_Months_mostBy 33 [some (.inr (.inr (.inl (some 82)))), some (.inl x1), some (.inl x2), some (.inl x3), some (.inl xs0)] (r1.toList ++ [.inl (x2 - (1 : Int32)), .inr (.inr (.inl (some 82))), .inl xs0]) h2 Q) : Wb rod d B_Months_mostBy 20 [some (.inr (.inr (.inl (some 82)))), some (.inl x1), some (.inl x2), some (.inl x3), u4] [.inl xs0] h Q := by
  refine Wb.call (fun _ _ _ _ => b_Months_mostBy_20) (Q1 := Q1) ?_ ?_
  · (first | exact c | (simp only [Option.getD_some]; exact c))
  · (first | exact k | (simp only [Option.getD_some]; exact k))
theorem w_Months_mostBy_33 {rod : Nat → Nat × (Nat → Int32)} {d : Nat} {Q : Option MV → MH → Prop} {u0 : Option MV} {u1 : Option MV} {u2 : Option MV} {u3 : Option MV} {u4 : Option MV} {xs0 : Int32} {xs2 : Int32} {xs3 : Int32} {h : MH} (L : Lay h.2)  {Q1 : Option MV → MH → Prop} (c : Wc rod d 14 [.inr (.inr (.inl (some 82))), .inl xs2, .inl xs3] h Q1) (k : ∀ r1 h2, Q1 r1 h2 → Wb rod d B_Months_mostBy 36 [u0, u1, u2, u3, u4] (r1.toList ++ [.inl xs0]) h2 Q) : Wb rod d B_Months_mostBy 33 [u0, u1, u2, u3, u4] [.inl xs3, .inl xs2, .inr (.inr (.inl (some 82))), .inl xs0] h Q := by
  refine Wb.call (fun _ _ _ _ => b_Months_mostBy_33 (Lay.o82 L)) (Q1 := Q1) ?_ ?_
  · (first | exact c | (simp only [Option.getD_some]; exact c))
  · (first | exact k | (simp only [Option.getD_some]; exact k))
theorem w_Months_mostBy_36 {rod : Nat → Nat × (Nat → Int32)} {d : Nat} {Q : Option MV → MH → Prop} {u0 : Option MV} {u1 : Option MV} {u2 : Option MV} {u3 : Option MV} {u4 : Option MV} {xs0 : Int32} {xs1 : Int32} {h : MH}   (q : Q (some (.inl (xs0 + xs1))) h) : Wb rod d B_Months_mostBy 36 [u0, u1, u2, u3, u4] [.inl xs1, .inl xs0] h Q := by
  refine Wb.ret (b_Months_mostBy_36) ?_
  (first | exact q | (simp only [Option.getD_some]; exact q))
theorem n_Months_trustAfter {rod : Nat → Nat × (Nat → Int32)} {d : Nat} {Q : Option MV → MH → Prop} {x0 : Int32} {x1 : Int32} {h : MH} (k : Wb rod d B_Months_trustAfter 0 [some (.inl x0), some (.inl x1)] [] h Q) : Wc rod (d + 1) 13 [.inl x0, .inl x1] h Q := Wc.en (fun _ _ => e_Months_trustAfter) k
theorem w_Months_trustAfter_0 {rod : Nat → Nat × (Nat → Int32)} {d : Nat} {Q : Option MV → MH → Prop} {x0 : Int32} {u1 : Option MV} {h : MH}   (k0 : x0.toInt = 0 → Wb rod d B_Months_trustAfter 28 [some (.inl x0), u1] [] h Q) (k1 : x0.toInt = 1 → Wb rod d B_Months_trustAfter 36 [some (.inl x0), u1] [] h Q) (kd : x0.toInt ≠ 0 → x0.toInt ≠ 1 → Wb rod d B_Months_trustAfter 45 [some (.inl x0), u1] [] h Q) : Wb rod d B_Months_trustAfter 0 [some (.inl x0), u1] [] h Q := by
  have key : Wb rod d B_Months_trustAfter (lookT [(0, 27), (1, 35)] x0 1 45) [some (.inl x0), u1] [] h Q := by
    by_cases e0 : x0 = Int32.ofInt 0
    · rw [show lookT [(0, 27), (1, 35)] x0 1 45 = 28 from by rw [e0]; rfl]
      exact k0 (by rw [e0]; rfl)
    by_cases e1 : x0 = Int32.ofInt 1
    · rw [show lookT [(0, 27), (1, 35)] x0 1 45 = 36 from by rw [e1]; rfl]
      exact k1 (by rw [e1]; rfl)
    rw [show lookT [(0, 27), (1, 35)] x0 1 45 = 45 from (if_neg e0).trans ((if_neg e1).trans (rfl))]
    exact kd (fun q => e0 (Int32.toInt_inj.mp q)) (fun q => e1 (Int32.toInt_inj.mp q))
  refine Wb.go (fun r hr q => b_Months_trustAfter_0 ?_) key
  (first | exact q | (simp only [Option.getD_some]; exact q))
theorem w_Months_trustAfter_28 {rod : Nat → Nat × (Nat → Int32)} {d : Nat} {Q : Option MV → MH → Prop} {u0 : Option MV} {x1 : Int32} {h : MH}   (q : Q (some (.inl (if (0 : Int32) < (x1 - (1 : Int32)) then (x1 - (1 : Int32)) else (0 : Int32)))) h) : Wb rod d B_Months_trustAfter 28 [u0, some (.inl x1)] [] h Q := by
  refine Wb.ret (b_Months_trustAfter_28) ?_
  (first | exact q | (simp only [Option.getD_some]; exact q))
theorem w_Months_trustAfter_36 {rod : Nat → Nat × (Nat → Int32)} {d : Nat} {Q : Option MV → MH → Prop} {u0 : Option MV} {x1 : Int32} {h : MH}   (q : Q (some (.inl (if (x1 + (1 : Int32)) < (9 : Int32) then (x1 + (1 : Int32)) else (9 : Int32)))) h) : Wb rod d B_Months_trustAfter 36 [u0, some (.inl x1)] [] h Q := by
  refine Wb.ret (b_Months_trustAfter_36) ?_
  (first | exact q | (simp only [Option.getD_some]; exact q))
theorem w_Months_trustAfter_45 {rod : Nat → Nat × (Nat → Int32)} {d : Nat} {Q : Option MV → MH → Prop} {u0 : Option MV} {x1 : Int32} {h : MH}   (q : Q (some (.inl (x1 / (2 : Int32)))) h) : Wb rod d B_Months_trustAfter 45 [u0, some (.inl x1)] [] h Q := by
  refine Wb.ret (b_Months_trustAfter_45 (by decide)) ?_
  (first | exact q | (simp only [Option.getD_some]; exact q))
theorem n_Months_most {rod : Nat → Nat × (Nat → Int32)} {d : Nat} {Q : Option MV → MH → Prop} {x1 : Int32} {x2 : Int32} {h : MH} (k : Wb rod d B_Months_most 0 [some (.inr (.inr (.inl (some 82)))), some (.inl x1), some (.inl x2), none] [] h Q) : Wc rod (d + 1) 14 [.inr (.inr (.inl (some 82))), .inl x1, .inl x2] h Q := Wc.en (fun _ _ => e_Months_most) k
theorem w_Months_most_0 {rod : Nat → Nat × (Nat → Int32)} {d : Nat} {Q : Option MV → MH → Prop} {u0 : Option MV} {x1 : Int32} {u2 : Option MV} {u3 : Option MV} {h : MH}   (k1 : x1.toInt < 0 → Wb rod d B_Months_most 21 [u0, some (.inl x1), u2, u3] [] h Q) (k2 : ¬ x1.toInt < 0 → Wb rod d B_Months_most 4 [u0, some (.inl x1), u2, u3] [] h Q) : Wb rod d B_Months_most 0 [u0, some (.inl x1), u2, u3] [] h Q := by
  refine Wb.br (fun _ _ => b_Months_most_0) (fun c => ?_) (fun c => ?_)
  · have c : (decide (x1 < 0)) = true := by first | exact c | (simp only [Option.getD_some] at c; exact c)
    (first | exact (k1 (c_ltt c)) | (simp only [Option.getD_some]; exact (k1 (c_ltt c))))
  · have c : (decide (x1 < 0)) = false := by first | exact c | (simp only [Option.getD_some] at c; exact c)
    (first | exact (k2 (c_ltf c)) | (simp only [Option.getD_some]; exact (k2 (c_ltf c))))
theorem w_Months_most_4 {rod : Nat → Nat × (Nat → Int32)} {d : Nat} {Q : Option MV → MH → Prop} {u0 : Option MV} {x1 : Int32} {u2 : Option MV} {u3 : Option MV} {h : MH}   (k1 : 20 < x1.toInt → Wb rod d B_Months_most 21 [u0, some (.inl x1), u2, u3] [] h Q) (k2 : ¬ 20 < x1.toInt → Wb rod d B_Months_most 10 [u0, some (.inl x1), u2, u3] [] h Q) : Wb rod d B_Months_most 4 [u0, some (.inl x1), u2, u3] [] h Q := by
  refine Wb.br (fun _ _ => b_Months_most_4) (fun c => ?_) (fun c => ?_)
  · have c : (decide ((20 : Int32) < x1)) = true := by first | exact c | (simp only [Option.getD_some] at c; exact c)
    (first | exact (k1 (c_ltt c)) | (simp only [Option.getD_some]; exact (k1 (c_ltt c))))
  · have c : (decide ((20 : Int32) < x1)) = false := by first | exact c | (simp only [Option.getD_some] at c; exact c)
    (first | exact (k2 (c_ltf c)) | (simp only [Option.getD_some]; exact (k2 (c_ltf c))))
theorem w_Months_most_10 {rod : Nat → Nat × (Nat → Int32)} {d : Nat} {Q : Option MV → MH → Prop} {u0 : Option MV} {u1 : Option MV} {x2 : Int32} {u3 : Option MV} {h : MH}   {Q1 : Option MV → MH → Prop} (c : Wc rod d 15 [.inl x2] h Q1) (k : ∀ r1 h2, Q1 r1 h2 → Wb rod d B_Months_most 14 [u0, u1, some (.inl x2), u3] (r1.toList ++ []) h2 Q) : Wb rod d B_Months_most 10 [u0, u1, some (.inl x2), u3] [] h Q := by
  refine Wb.call (fun _ _ _ _ => b_Months_most_10) (Q1 := Q1) ?_ ?_
  · (first | exact c | (simp only [Option.getD_some]; exact c))
  · (first | exact k | (simp only [Option.getD_some]; exact k))
theorem w_Months_most_14 {rod : Nat → Nat × (Nat → Int32)} {d : Nat} {Q : Option MV → MH → Prop} {u0 : Option MV} {u1 : Option MV} {u2 : Option MV} {u3 : Option MV} {xs0 : Int32} {h : MH}   (k1 : xs0.toInt = 0 → Wb rod d B_Months_most 21 [u0, u1, u2, u3] [] h Q) (k2 : ¬ xs0.toInt = 0 → Wb rod d B_Months_most 17 [u0, u1, u2, u3] [] h Q) : Wb rod d B_Months_most 14 [u0, u1, u2, u3] [.inl xs0] h Q := by
  refine Wb.br (fun _ _ => b_Months_most_14) (fun c => ?_) (fun c => ?_)
  · have c : (decide (xs0 = 0)) = true := by first | exact c | (simp only [Option.getD_some] at c; exact c)
    (first | exact (k1 (c_eqt c)) | (simp only [Option.getD_some]; exact (k1 (c_eqt c))))
  · have c : (decide (xs0 = 0)) = false := by first | exact c | (simp only [Option.getD_some] at c; exact c)
    (first | exact (k2 (c_eqf c)) | (simp only [Option.getD_some]; exact (k2 (c_eqf c))))
theorem w_Months_most_17 {rod : Nat → Nat × (Nat → Int32)} {d : Nat} {Q : Option MV → MH → Prop} {u0 : Option MV} {u1 : Option MV} {u2 : Option MV} {u3 : Option MV} {h : MH}   (k : Wb rod d B_Months_most 22 [u0, u1, u2, u3] [.inl (1 : Int32)] h Q) : Wb rod d B_Months_most 17 [u0, u1, u2, u3] [] h Q := by
  refine Wb.go (fun r hr q => b_Months_most_17 ?_) k
  (first | exact q | (simp only [Option.getD_some]; exact q))
theorem w_Months_most_21 {rod : Nat → Nat × (Nat → Int32)} {d : Nat} {Q : Option MV → MH → Prop} {u0 : Option MV} {u1 : Option MV} {u2 : Option MV} {u3 : Option MV} {h : MH}   (k : Wb rod d B_Months_most 22 [u0, u1, u2, u3] [.inl (0 : Int32)] h Q) : Wb rod d B_Months_most 21 [u0, u1, u2, u3] [] h Q := by
  refine Wb.go (fun r hr q => b_Months_most_21 ?_) k
  (first | exact q | (simp only [Option.getD_some]; exact q))
theorem w_Months_most_22 {rod : Nat → Nat × (Nat → Int32)} {d : Nat} {Q : Option MV → MH → Prop} {u0 : Option MV} {u1 : Option MV} {u2 : Option MV} {u3 : Option MV} {xs0 : Int32} {h : MH}  (g0 : okl [u0, u1, u2, u3] 3 = true) (k1 : xs0.toInt = 0 → Wb rod d B_Months_most 41 [u0, u1, u2, some (.inl xs0)] [] h Q) (k2 : ¬ xs0.toInt = 0 → Wb rod d B_Months_most 27 [u0, u1, u2, some (.inl xs0)] [] h Q) : Wb rod d B_Months_most 22 [u0, u1, u2, u3] [.inl xs0] h Q := by
  refine Wb.br (fun _ _ => b_Months_most_22 g0) (fun c => ?_) (fun c => ?_)
  · have c : (decide (xs0 = 0)) = true := by first | exact c | (simp only [Option.getD_some] at c; exact c)
    (first | exact (k1 (c_eqt c)) | (simp only [Option.getD_some]; exact (k1 (c_eqt c))))
  · have c : (decide (xs0 = 0)) = false := by first | exact c | (simp only [Option.getD_some] at c; exact c)
    (first | exact (k2 (c_eqf c)) | (simp only [Option.getD_some]; exact (k2 (c_eqf c))))
theorem w_Months_most_27 {rod : Nat → Nat × (Nat → Int32)} {d : Nat} {Q : Option MV → MH → Prop} {x1 : Int32} {x2 : Int32} {u3 : Option MV} {h : MH} (L : Lay h.2) (g0 : 0 ≤ ((x1 * (10 : Int32)) + x2).toInt ∧ ((x1 * (10 : Int32)) + x2).toInt < 210) (k : Wb rod d B_Months_most 42 [some (.inr (.inr (.inl (some 82)))), some (.inl x1), some (.inl x2), u3] [.inl (h.1 83 ((x1 * (10 : Int32)) + x2).toNatClampNeg)] h Q) : Wb rod d B_Months_most 27 [some (.inr (.inr (.inl (some 82)))), some (.inl x1), some (.inl x2), u3] [] h Q := by
  refine Wb.go (fun r hr q => b_Months_most_27 (Lay.o82 L) (Lay.a82_0 L g0) ?_) k
  (first | exact q | (simp only [Option.getD_some, (Lay.r82_0 L)]; exact q))
theorem w_Months_most_41 {rod : Nat → Nat × (Nat → Int32)} {d : Nat} {Q : Option MV → MH → Prop} {u0 : Option MV} {u1 : Option MV} {u2 : Option MV} {u3 : Option MV} {h : MH}   (k : Wb rod d B_Months_most 42 [u0, u1, u2, u3] [.inl (0 : Int32)] h Q) : Wb rod d B_Months_most 41 [u0, u1, u2, u3] [] h Q := by
  refine Wb.go (fun r hr q => b_Months_most_41 ?_) k
  (first | exact q | (simp only [Option.getD_some]; exact q))
theorem w_Months_most_42 {rod : Nat → Nat × (Nat → Int32)} {d : Nat} {Q : Option MV → MH → Prop} {u0 : Option MV} {u1 : Option MV} {u2 : Option MV} {u3 : Option MV} {xs0 : Int32} {h : MH}   (q : Q (some (.inl xs0)) h) : Wb rod d B_Months_most 42 [u0, u1, u2, u3] [.inl xs0] h Q := by
  refine Wb.ret (b_Months_most_42) ?_
  (first | exact q | (simp only [Option.getD_some]; exact q))
theorem n_Main_isTrust {rod : Nat → Nat × (Nat → Int32)} {d : Nat} {Q : Option MV → MH → Prop} {x0 : Int32} {h : MH} (k : Wb rod d B_Main_isTrust 0 [some (.inl x0)] [] h Q) : Wc rod (d + 1) 15 [.inl x0] h Q := Wc.en (fun _ _ => e_Main_isTrust) k
theorem w_Main_isTrust_0 {rod : Nat → Nat × (Nat → Int32)} {d : Nat} {Q : Option MV → MH → Prop} {x0 : Int32} {h : MH}   (k1 : x0.toInt < 0 → Wb rod d B_Main_isTrust 14 [some (.inl x0)] [] h Q) (k2 : ¬ x0.toInt < 0 → Wb rod d B_Main_isTrust 4 [some (.inl x0)] [] h Q) : Wb rod d B_Main_isTrust 0 [some (.inl x0)] [] h Q := by
  refine Wb.br (fun _ _ => b_Main_isTrust_0) (fun c => ?_) (fun c => ?_)
  · have c : (decide (x0 < 0)) = true := by first | exact c | (simp only [Option.getD_some] at c; exact c)
    (first | exact (k1 (c_ltt c)) | (simp only [Option.getD_some]; exact (k1 (c_ltt c))))
  · have c : (decide (x0 < 0)) = false := by first | exact c | (simp only [Option.getD_some] at c; exact c)
    (first | exact (k2 (c_ltf c)) | (simp only [Option.getD_some]; exact (k2 (c_ltf c))))
theorem w_Main_isTrust_4 {rod : Nat → Nat × (Nat → Int32)} {d : Nat} {Q : Option MV → MH → Prop} {x0 : Int32} {h : MH}   (k1 : 9 < x0.toInt → Wb rod d B_Main_isTrust 14 [some (.inl x0)] [] h Q) (k2 : ¬ 9 < x0.toInt → Wb rod d B_Main_isTrust 10 [some (.inl x0)] [] h Q) : Wb rod d B_Main_isTrust 4 [some (.inl x0)] [] h Q := by
  refine Wb.br (fun _ _ => b_Main_isTrust_4) (fun c => ?_) (fun c => ?_)
  · have c : (decide ((9 : Int32) < x0)) = true := by first | exact c | (simp only [Option.getD_some] at c; exact c)
    (first | exact (k1 (c_ltt c)) | (simp only [Option.getD_some]; exact (k1 (c_ltt c))))
  · have c : (decide ((9 : Int32) < x0)) = false := by first | exact c | (simp only [Option.getD_some] at c; exact c)
    (first | exact (k2 (c_ltf c)) | (simp only [Option.getD_some]; exact (k2 (c_ltf c))))
theorem w_Main_isTrust_10 {rod : Nat → Nat × (Nat → Int32)} {d : Nat} {Q : Option MV → MH → Prop} {u0 : Option MV} {h : MH}   (k : Wb rod d B_Main_isTrust 15 [u0] [.inl (1 : Int32)] h Q) : Wb rod d B_Main_isTrust 10 [u0] [] h Q := by
  refine Wb.go (fun r hr q => b_Main_isTrust_10 ?_) k
  (first | exact q | (simp only [Option.getD_some]; exact q))
theorem w_Main_isTrust_14 {rod : Nat → Nat × (Nat → Int32)} {d : Nat} {Q : Option MV → MH → Prop} {u0 : Option MV} {h : MH}   (k : Wb rod d B_Main_isTrust 15 [u0] [.inl (0 : Int32)] h Q) : Wb rod d B_Main_isTrust 14 [u0] [] h Q := by
  refine Wb.go (fun r hr q => b_Main_isTrust_14 ?_) k
  (first | exact q | (simp only [Option.getD_some]; exact q))
theorem w_Main_isTrust_15 {rod : Nat → Nat × (Nat → Int32)} {d : Nat} {Q : Option MV → MH → Prop} {u0 : Option MV} {xs0 : Int32} {h : MH}  (g0 : xs0 = 0 ∨ xs0 = 1) (q : Q (some (.inl xs0)) h) : Wb rod d B_Main_isTrust 15 [u0] [.inl xs0] h Q := by
  refine Wb.ret (b_Main_isTrust_15 (d01 g0)) ?_
  (first | exact q | (simp only [Option.getD_some]; exact q))
theorem n_Main_feed {rod : Nat → Nat × (Nat → Int32)} {d : Nat} {Q : Option MV → MH → Prop} {x1 : Int32} {x2 : Int32} {x3 : Int32} {x4 : Int32} {x5 : Int32} {h : MH} (k : Wb rod d B_Main_feed 0 [some (.inr (.inr (.inl (some 0)))), some (.inl x1), some (.inl x2), some (.inl x3), some (.inl x4), some (.inl x5)] [] h Q) : Wc rod (d + 1) 16 [.inr (.inr (.inl (some 0))), .inl x1, .inl x2, .inl x3, .inl x4, .inl x5] h Q := Wc.en (fun _ _ => e_Main_feed) k
theorem w_Main_feed_0 {rod : Nat → Nat × (Nat → Int32)} {d : Nat} {Q : Option MV → MH → Prop} {u1 : Option MV} {u2 : Option MV} {u3 : Option MV} {u4 : Option MV} {u5 : Option MV} {h : MH} (L : Lay h.2)  (k1 : ((h.1 1 1) + (20 : Int32)).toInt ≤ 600 → Wb rod d B_Main_feed 18 [some (.inr (.inr (.inl (some 0)))), u1, u2, u3, u4, u5] [] h Q) (k2 : ¬ ((h.1 1 1) + (20 : Int32)).toInt ≤ 600 → Wb rod d B_Main_feed 16 [some (.inr (.inr (.inl (some 0)))), u1, u2, u3, u4, u5] [] h Q) : Wb rod d B_Main_feed 0 [some (.inr (.inr (.inl (some 0)))), u1, u2, u3, u4, u5] [] h Q := by
  refine Wb.br (fun _ _ => b_Main_feed_0 (Lay.o0 L) (Lay.k0_0 L)) (fun c => ?_) (fun c => ?_)
  · have c : (decide (((h.1 1 1) + (20 : Int32)) ≤ (600 : Int32))) = true := by first | exact c | (simp only [Option.getD_some, (Lay.r0_0 L)] at c; exact c)
    (first | exact (k1 (c_let c)) | (simp only [Option.getD_some, (Lay.r0_0 L)]; exact (k1 (c_let c))))
  · have c : (decide (((h.1 1 1) + (20 : Int32)) ≤ (600 : Int32))) = false := by first | exact c | (simp only [Option.getD_some, (Lay.r0_0 L)] at c; exact c)
    (first | exact (k2 (c_lef c)) | (simp only [Option.getD_some, (Lay.r0_0 L)]; exact (k2 (c_lef c))))
theorem w_Main_feed_16 {rod : Nat → Nat × (Nat → Int32)} {d : Nat} {Q : Option MV → MH → Prop} {u0 : Option MV} {u1 : Option MV} {u2 : Option MV} {u3 : Option MV} {u4 : Option MV} {u5 : Option MV} {h : MH}   (q : Q (some (.inl (-1 : Int32))) h) : Wb rod d B_Main_feed 16 [u0, u1, u2, u3, u4, u5] [] h Q := by
  refine Wb.ret (b_Main_feed_16) ?_
  (first | exact q | (simp only [Option.getD_some]; exact q))
theorem w_Main_feed_18 {rod : Nat → Nat × (Nat → Int32)} {d : Nat} {Q : Option MV → MH → Prop} {x1 : Int32} {u2 : Option MV} {u3 : Option MV} {u4 : Option MV} {u5 : Option MV} {h : MH} (L : Lay h.2)  {Q1 : Option MV → MH → Prop} (c : Wc rod d 17 [.inr (.inr (.inl (some 1))), .inl x1] h Q1) (k : ∀ r1 h2, Q1 r1 h2 → Wb rod d B_Main_feed 26 [some (.inr (.inr (.inl (some 0)))), some (.inl x1), u2, u3, u4, u5] (r1.toList ++ []) h2 Q) : Wb rod d B_Main_feed 18 [some (.inr (.inr (.inl (some 0)))), some (.inl x1), u2, u3, u4, u5] [] h Q := by
  refine Wb.call (fun _ _ _ _ => b_Main_feed_18 (Lay.o0 L) (Lay.k0_0 L)) (Q1 := Q1) ?_ ?_
  · (first | exact c | (simp only [Option.getD_some, (Lay.r0_0 L)]; exact c))
  · (first | exact k | (simp only [Option.getD_some, (Lay.r0_0 L)]; exact k))
theorem w_Main_feed_26 {rod : Nat → Nat × (Nat → Int32)} {d : Nat} {Q : Option MV → MH → Prop} {u1 : Option MV} {x2 : Int32} {u3 : Option MV} {u4 : Option MV} {u5 : Option MV} {h : MH} (L : Lay h.2)  {Q1 : Option MV → MH → Prop} (c : Wc rod d 17 [.inr (.inr (.inl (some 1))), .inl x2] h Q1) (k : ∀ r1 h2, Q1 r1 h2 → Wb rod d B_Main_feed 34 [some (.inr (.inr (.inl (some 0)))), u1, some (.inl x2), u3, u4, u5] (r1.toList ++ []) h2 Q) : Wb rod d B_Main_feed 26 [some (.inr (.inr (.inl (some 0)))), u1, some (.inl x2), u3, u4, u5] [] h Q := by
  refine Wb.call (fun _ _ _ _ => b_Main_feed_26 (Lay.o0 L) (Lay.k0_0 L)) (Q1 := Q1) ?_ ?_
  · (first | exact c | (simp only [Option.getD_some, (Lay.r0_0 L)]; exact c))
  · (first | exact k | (simp only [Option.getD_some, (Lay.r0_0 L)]; exact k))
theorem w_Main_feed_34 {rod : Nat → Nat × (Nat → Int32)} {d : Nat} {Q : Option MV → MH → Prop} {u1 : Option MV} {u2 : Option MV} {x3 : Int32} {u4 : Option MV} {u5 : Option MV} {h : MH} (L : Lay h.2)  {Q1 : Option MV → MH → Prop} (c : Wc rod d 17 [.inr (.inr (.inl (some 1))), .inl x3] h Q1) (k : ∀ r1 h2, Q1 r1 h2 → Wb rod d B_Main_feed 42 [some (.inr (.inr (.inl (some 0)))), u1, u2, some (.inl x3), u4, u5] (r1.toList ++ []) h2 Q) : Wb rod d B_Main_feed 34 [some (.inr (.inr (.inl (some 0)))), u1, u2, some (.inl x3), u4, u5] [] h Q := by
  refine Wb.call (fun _ _ _ _ => b_Main_feed_34 (Lay.o0 L) (Lay.k0_0 L)) (Q1 := Q1) ?_ ?_
  · (first | exact c | (simp only [Option.getD_some, (Lay.r0_0 L)]; exact c))
  · (first | exact k | (simp only [Option.getD_some, (Lay.r0_0 L)]; exact k))
theorem w_Main_feed_42 {rod : Nat → Nat × (Nat → Int32)} {d : Nat} {Q : Option MV → MH → Prop} {u1 : Option MV} {u2 : Option MV} {u3 : Option MV} {x4 : Int32} {u5 : Option MV} {h : MH} (L : Lay h.2)  {Q1 : Option MV → MH → Prop} (c : Wc rod d 17 [.inr (.inr (.inl (some 1))), .inl x4] h Q1) (k : ∀ r1 h2, Q1 r1 h2 → Wb rod d B_Main_feed 51 [some (.inr (.inr (.inl (some 0)))), u1, u2, u3, some (.inl x4), u5] (r1.toList ++ []) h2 Q) : Wb rod d B_Main_feed 42 [some (.inr (.inr (.inl (some 0)))), u1, u2, u3, some (.inl x4), u5] [] h Q := by
  refine Wb.call (fun _ _ _ _ => b_Main_feed_42 (Lay.o0 L) (Lay.k0_0 L)) (Q1 := Q1) ?_ ?_
  · (first | exact c | (simp only [Option.getD_some, (Lay.r0_0 L)]; exact c))
  · (first | exact k | (simp only [Option.getD_some, (Lay.r0_0 L)]; exact k))
theorem w_Main_feed_51 {rod : Nat → Nat × (Nat → Int32)} {d : Nat} {Q : Option MV → MH → Prop} {u1 : Option MV} {u2 : Option MV} {u3 : Option MV} {u4 : Option MV} {x5 : Int32} {h : MH} (L : Lay h.2)  {Q1 : Option MV → MH → Prop} (c : Wc rod d 17 [.inr (.inr (.inl (some 1))), .inl x5] h Q1) (k : ∀ r1 h2, Q1 r1 h2 → Wb rod d B_Main_feed 60 [some (.inr (.inr (.inl (some 0)))), u1, u2, u3, u4, some (.inl x5)] (r1.toList ++ []) h2 Q) : Wb rod d B_Main_feed 51 [some (.inr (.inr (.inl (some 0)))), u1, u2, u3, u4, some (.inl x5)] [] h Q := by
  refine Wb.call (fun _ _ _ _ => b_Main_feed_51 (Lay.o0 L) (Lay.k0_0 L)) (Q1 := Q1) ?_ ?_
  · (first | exact c | (simp only [Option.getD_some, (Lay.r0_0 L)]; exact c))
  · (first | exact k | (simp only [Option.getD_some, (Lay.r0_0 L)]; exact k))
theorem w_Main_feed_60 {rod : Nat → Nat × (Nat → Int32)} {d : Nat} {Q : Option MV → MH → Prop} {u1 : Option MV} {u2 : Option MV} {u3 : Option MV} {u4 : Option MV} {u5 : Option MV} {h : MH} (L : Lay h.2)  (q : Q (some (.inl (h.1 1 1))) h) : Wb rod d B_Main_feed 60 [some (.inr (.inr (.inl (some 0)))), u1, u2, u3, u4, u5] [] h Q := by
  refine Wb.ret (b_Main_feed_60 (Lay.o0 L) (Lay.k0_0 L)) ?_
  (first | exact q | (simp only [Option.getD_some, (Lay.r0_0 L)]; exact q))
theorem n_Told_append {rod : Nat → Nat × (Nat → Int32)} {d : Nat} {Q : Option MV → MH → Prop} {x1 : Int32} {h : MH} (k : Wb rod d B_Told_append 0 [some (.inr (.inr (.inl (some 1)))), some (.inl x1), none] [] h Q) : Wc rod (d + 1) 17 [.inr (.inr (.inl (some 1))), .inl x1] h Q := Wc.en (fun _ _ => e_Told_append) k
theorem w_Told_append_0 {rod : Nat → Nat × (Nat → Int32)} {d : Nat} {Q : Option MV → MH → Prop} {u0 : Option MV} {u1 : Option MV} {u2 : Option MV} {h : MH}  (g0 : okl [u0, u1, u2] 2 = true) (k : Wb rod d B_Told_append 3 [u0, u1, some (.inl (24 : Int32))] [] h Q) : Wb rod d B_Told_append 0 [u0, u1, u2] [] h Q := by
  refine Wb.go (fun r hr q => b_Told_append_0 g0 ?_) k
  (first | exact q | (simp only [Option.getD_some]; exact q))
theorem w_Told_append_3 {rod : Nat → Nat × (Nat → Int32)} {d : Nat} {Q : Option MV → MH → Prop} {u0 : Option MV} {u1 : Option MV} {x2 : Int32} {h : MH}   (k1 : x2.toInt < 0 → Wb rod d B_Told_append 46 [u0, u1, some (.inl x2)] [] h Q) (k2 : ¬ x2.toInt < 0 → Wb rod d B_Told_append 7 [u0, u1, some (.inl x2)] [] h Q) : Wb rod d B_Told_append 3 [u0, u1, some (.inl x2)] [] h Q := by
  refine Wb.br (fun _ _ => b_Told_append_3) (fun c => ?_) (fun c => ?_)
  · have c : (decide (x2 < 0)) = true := by first | exact c | (simp only [Option.getD_some] at c; exact c)
    (first | exact (k1 (c_ltt c)) | (simp only [Option.getD_some]; exact (k1 (c_ltt c))))
  · have c : (decide (x2 < 0)) = false := by first | exact c | (simp only [Option.getD_some] at c; exact c)
    (first | exact (k2 (c_ltf c)) | (simp only [Option.getD_some]; exact (k2 (c_ltf c))))
theorem w_Told_append_7 {rod : Nat → Nat × (Nat → Int32)} {d : Nat} {Q : Option MV → MH → Prop} {u1 : Option MV} {u2 : Option MV} {h : MH} (L : Lay h.2)  (k1 : 600 ≤ (h.1 1 1).toInt → Wb rod d B_Told_append 46 [some (.inr (.inr (.inl (some 1)))), u1, u2] [] h Q) (k2 : ¬ 600 ≤ (h.1 1 1).toInt → Wb rod d B_Told_append 17 [some (.inr (.inr (.inl (some 1)))), u1, u2] [] h Q) : Wb rod d B_Told_append 7 [some (.inr (.inr (.inl (some 1)))), u1, u2] [] h Q := by
  refine Wb.br (fun _ _ => b_Told_append_7 (Lay.o1 L)) (fun c => ?_) (fun c => ?_)
  · have c : (decide ((600 : Int32) ≤ (h.1 1 1))) = true := by first | exact c | (simp only [Option.getD_some] at c; exact c)
    (first | exact (k1 (c_let c)) | (simp only [Option.getD_some]; exact (k1 (c_let c))))
  · have c : (decide ((600 : Int32) ≤ (h.1 1 1))) = false := by first | exact c | (simp only [Option.getD_some] at c; exact c)
    (first | exact (k2 (c_lef c)) | (simp only [Option.getD_some]; exact (k2 (c_lef c))))
theorem w_Told_append_17 {rod : Nat → Nat × (Nat → Int32)} {d : Nat} {Q : Option MV → MH → Prop} {x1 : Int32} {x2 : Int32} {h : MH} (L : Lay h.2) (g0 : 0 ≤ (h.1 1 1).toInt ∧ (h.1 1 1).toInt < 600) (k : Wb rod d B_Told_append 30 [some (.inr (.inr (.inl (some 1)))), some (.inl x1), some (.inl x2)] [] (sI h 2 (h.1 1 1).toNatClampNeg ((x1 >>> (x2 &&& 31)).toInt8.toInt32)) Q) : Wb rod d B_Told_append 17 [some (.inr (.inr (.inl (some 1)))), some (.inl x1), some (.inl x2)] [] h Q := by
  refine Wb.go (fun r hr q => b_Told_append_17 (Lay.o1 L) (Lay.a1_0 L (by first | exact g0 | (simp only [Option.getD_some, (Lay.r1_0 L)]; exact g0))) ?_) k
  (first | exact q | (simp only [Option.getD_some, (Lay.r1_0 L)]; exact q))
theorem w_Told_append_30 {rod : Nat → Nat × (Nat → Int32)} {d : Nat} {Q : Option MV → MH → Prop} {u1 : Option MV} {u2 : Option MV} {h : MH} (L : Lay h.2)  (k : Wb rod d B_Told_append 40 [some (.inr (.inr (.inl (some 1)))), u1, u2] [] (sI h 1 1 ((h.1 1 1) + (1 : Int32))) Q) : Wb rod d B_Told_append 30 [some (.inr (.inr (.inl (some 1)))), u1, u2] [] h Q := by
  refine Wb.go (fun r hr q => b_Told_append_30 (Lay.o1 L) ?_) k
  (first | exact q | (simp only [Option.getD_some]; exact q))
theorem w_Told_append_40 {rod : Nat → Nat × (Nat → Int32)} {d : Nat} {Q : Option MV → MH → Prop} {u0 : Option MV} {u1 : Option MV} {x2 : Int32} {h : MH}  (g0 : okl [u0, u1, some (.inl x2)] 2 = true) (k : Wb rod d B_Told_append 3 [u0, u1, some (.inl (x2 + (-8)))] [] h Q) : Wb rod d B_Told_append 40 [u0, u1, some (.inl x2)] [] h Q := by
  refine Wb.go (fun r hr q => b_Told_append_40 g0 ?_) k
  (first | exact q | (simp only [Option.getD_some]; exact q))
theorem w_Told_append_46 {rod : Nat → Nat × (Nat → Int32)} {d : Nat} {Q : Option MV → MH → Prop} {u0 : Option MV} {u1 : Option MV} {u2 : Option MV} {h : MH}   (q : Q (none) h) : Wb rod d B_Told_append 46 [u0, u1, u2] [] h Q := by
  refine Wb.ret (b_Told_append_46) ?_
  (first | exact q | (simp only [Option.getD_some]; exact q))
theorem n_Main_end {rod : Nat → Nat × (Nat → Int32)} {d : Nat} {Q : Option MV → MH → Prop} {x1 : Int32} {h : MH} (k : Wb rod d B_Main_end 0 [some (.inr (.inr (.inl (some 0)))), some (.inl x1)] [] h Q) : Wc rod (d + 1) 18 [.inr (.inr (.inl (some 0))), .inl x1] h Q := Wc.en (fun _ _ => e_Main_end) k
theorem w_Main_end_0 {rod : Nat → Nat × (Nat → Int32)} {d : Nat} {Q : Option MV → MH → Prop} {u0 : Option MV} {x1 : Int32} {h : MH}   (k1 : x1.toInt < 0 → Wb rod d B_Main_end 15 [u0, some (.inl x1)] [] h Q) (k2 : ¬ x1.toInt < 0 → Wb rod d B_Main_end 4 [u0, some (.inl x1)] [] h Q) : Wb rod d B_Main_end 0 [u0, some (.inl x1)] [] h Q := by
  refine Wb.br (fun _ _ => b_Main_end_0) (fun c => ?_) (fun c => ?_)
  · have c : (decide (x1 < 0)) = true := by first | exact c | (simp only [Option.getD_some] at c; exact c)
    (first | exact (k1 (c_ltt c)) | (simp only [Option.getD_some]; exact (k1 (c_ltt c))))
  · have c : (decide (x1 < 0)) = false := by first | exact c | (simp only [Option.getD_some] at c; exact c)
    (first | exact (k2 (c_ltf c)) | (simp only [Option.getD_some]; exact (k2 (c_ltf c))))
theorem w_Main_end_4 {rod : Nat → Nat × (Nat → Int32)} {d : Nat} {Q : Option MV → MH → Prop} {x1 : Int32} {h : MH} (L : Lay h.2)  (k1 : x1.toInt ≤ (h.1 1 1).toInt → Wb rod d B_Main_end 17 [some (.inr (.inr (.inl (some 0)))), some (.inl x1)] [] h Q) (k2 : ¬ x1.toInt ≤ (h.1 1 1).toInt → Wb rod d B_Main_end 15 [some (.inr (.inr (.inl (some 0)))), some (.inl x1)] [] h Q) : Wb rod d B_Main_end 4 [some (.inr (.inr (.inl (some 0)))), some (.inl x1)] [] h Q := by
  refine Wb.br (fun _ _ => b_Main_end_4 (Lay.o0 L) (Lay.k0_0 L)) (fun c => ?_) (fun c => ?_)
  · have c : (decide (x1 ≤ (h.1 1 1))) = true := by first | exact c | (simp only [Option.getD_some, (Lay.r0_0 L)] at c; exact c)
    (first | exact (k1 (c_let c)) | (simp only [Option.getD_some, (Lay.r0_0 L)]; exact (k1 (c_let c))))
  · have c : (decide (x1 ≤ (h.1 1 1))) = false := by first | exact c | (simp only [Option.getD_some, (Lay.r0_0 L)] at c; exact c)
    (first | exact (k2 (c_lef c)) | (simp only [Option.getD_some, (Lay.r0_0 L)]; exact (k2 (c_lef c))))
theorem w_Main_end_15 {rod : Nat → Nat × (Nat → Int32)} {d : Nat} {Q : Option MV → MH → Prop} {u0 : Option MV} {u1 : Option MV} {h : MH}   (q : Q (some (.inl (-1 : Int32))) h) : Wb rod d B_Main_end 15 [u0, u1] [] h Q := by
  refine Wb.ret (b_Main_end_15) ?_
  (first | exact q | (simp only [Option.getD_some]; exact q))
theorem w_Main_end_17 {rod : Nat → Nat × (Nat → Int32)} {d : Nat} {Q : Option MV → MH → Prop} {x1 : Int32} {h : MH} (L : Lay h.2)  (k : Wb rod d B_Main_end 25 [some (.inr (.inr (.inl (some 0)))), some (.inl x1)] [] (sI h 1 1 x1) Q) : Wb rod d B_Main_end 17 [some (.inr (.inr (.inl (some 0)))), some (.inl x1)] [] h Q := by
  refine Wb.go (fun r hr q => b_Main_end_17 (Lay.o0 L) (Lay.k0_0 L) ?_) k
  (first | exact q | (simp only [Option.getD_some, (Lay.r0_0 L)]; exact q))
theorem w_Main_end_25 {rod : Nat → Nat × (Nat → Int32)} {d : Nat} {Q : Option MV → MH → Prop} {u0 : Option MV} {x1 : Int32} {h : MH}   (q : Q (some (.inl x1)) h) : Wb rod d B_Main_end 25 [u0, some (.inl x1)] [] h Q := by
  refine Wb.ret (b_Main_end_25) ?_
  (first | exact q | (simp only [Option.getD_some]; exact q))
theorem n_Main_text {rod : Nat → Nat × (Nat → Int32)} {d : Nat} {Q : Option MV → MH → Prop} {x1 : Int32} {x2 : Int32} {h : MH} (k : Wb rod d B_Main_text 0 [some (.inr (.inr (.inl (some 0)))), some (.inl x1), some (.inl x2), none] [] h Q) : Wc rod (d + 1) 19 [.inr (.inr (.inl (some 0))), .inl x1, .inl x2] h Q := Wc.en (fun _ _ => e_Main_text) k
theorem w_Main_text_0 {rod : Nat → Nat × (Nat → Int32)} {d : Nat} {Q : Option MV → MH → Prop} {x1 : Int32} {x2 : Int32} {u3 : Option MV} {h : MH} (L : Lay h.2)  {Q1 : Option MV → MH → Prop} (c : Wc rod d 20 [.inr (.inr (.inl (some 1))), .inl x1, .inl x2] h Q1) (k : ∀ r1 h2, Q1 r1 h2 → Wb rod d B_Main_text 9 [some (.inr (.inr (.inl (some 0)))), some (.inl x1), some (.inl x2), u3] (r1.toList ++ []) h2 Q) : Wb rod d B_Main_text 0 [some (.inr (.inr (.inl (some 0)))), some (.inl x1), some (.inl x2), u3] [] h Q := by
  refine Wb.call (fun _ _ _ _ => b_Main_text_0 (Lay.o0 L) (Lay.k0_0 L)) (Q1 := Q1) ?_ ?_
  · (first | exact c | (simp only [Option.getD_some, (Lay.r0_0 L)]; exact c))
  · (first | exact k | (simp only [Option.getD_some, (Lay.r0_0 L)]; exact k))
theorem w_Main_text_9 {rod : Nat → Nat × (Nat → Int32)} {d : Nat} {Q : Option MV → MH → Prop} {u0 : Option MV} {u1 : Option MV} {u2 : Option MV} {u3 : Option MV} {xs0 : Int32} {h : MH}  (g0 : okl [u0, u1, u2, u3] 3 = true) (k1 : ¬ xs0.toInt = (-2) → Wb rod d B_Main_text 28 [u0, u1, u2, some (.inl xs0)] [] h Q) (k2 : xs0.toInt = (-2) → Wb rod d B_Main_text 16 [u0, u1, u2, some (.inl xs0)] [] h Q) : Wb rod d B_Main_text 9 [u0, u1, u2, u3] [.inl xs0] h Q := by
  refine Wb.br (fun _ _ => b_Main_text_9 g0) (fun c => ?_) (fun c => ?_)
  · have c : (!(decide (xs0 = (-2 : Int32)))) = true := by first | exact c | (simp only [Option.getD_some] at c; exact c)
    (first | exact (k1 (c_net c)) | (simp only [Option.getD_some]; exact (k1 (c_net c))))
  · have c : (!(decide (xs0 = (-2 : Int32)))) = false := by first | exact c | (simp only [Option.getD_some] at c; exact c)
    (first | exact (k2 (c_nef c)) | (simp only [Option.getD_some]; exact (k2 (c_nef c))))
theorem w_Main_text_16 {rod : Nat → Nat × (Nat → Int32)} {d : Nat} {Q : Option MV → MH → Prop} {u1 : Option MV} {u2 : Option MV} {u3 : Option MV} {h : MH} (L : Lay h.2)  {Q1 : Option MV → MH → Prop} (c : Wc rod d 21 [.inr (.inr (.inl (some 1))), .inl (0 : Int32), .inl (-1 : Int32)] h Q1) (k : ∀ r1 h2, Q1 r1 h2 → Wb rod d B_Main_text 25 [some (.inr (.inr (.inl (some 0)))), u1, u2, u3] (r1.toList ++ []) h2 Q) : Wb rod d B_Main_text 16 [some (.inr (.inr (.inl (some 0)))), u1, u2, u3] [] h Q := by
  refine Wb.call (fun _ _ _ _ => b_Main_text_16 (Lay.o0 L) (Lay.k0_0 L)) (Q1 := Q1) ?_ ?_
  · (first | exact c | (simp only [Option.getD_some, (Lay.r0_0 L)]; exact c))
  · (first | exact k | (simp only [Option.getD_some, (Lay.r0_0 L)]; exact k))
theorem w_Main_text_25 {rod : Nat → Nat × (Nat → Int32)} {d : Nat} {Q : Option MV → MH → Prop} {u0 : Option MV} {u1 : Option MV} {u2 : Option MV} {u3 : Option MV} {h : MH}   (q : Q (some (.inl (-2 : Int32))) h) : Wb rod d B_Main_text 25 [u0, u1, u2, u3] [] h Q := by
  refine Wb.ret (b_Main_text_25) ?_
  (first | exact q | (simp only [Option.getD_some]; exact q))
theorem w_Main_text_28 {rod : Nat → Nat × (Nat → Int32)} {d : Nat} {Q : Option MV → MH → Prop} {x1 : Int32} {u2 : Option MV} {u3 : Option MV} {h : MH} (L : Lay h.2)  {Q1 : Option MV → MH → Prop} (c : Wc rod d 22 [.inr (.inr (.inl (some 45))), .inl x1] h Q1) (k : ∀ r1 h2, Q1 r1 h2 → Wb rod d B_Main_text 36 [some (.inr (.inr (.inl (some 0)))), some (.inl x1), u2, u3] (r1.toList ++ []) h2 Q) : Wb rod d B_Main_text 28 [some (.inr (.inr (.inl (some 0)))), some (.inl x1), u2, u3] [] h Q := by
  refine Wb.call (fun _ _ _ _ => b_Main_text_28 (Lay.o0 L) (Lay.k0_2 L)) (Q1 := Q1) ?_ ?_
  · (first | exact c | (simp only [Option.getD_some, (Lay.r0_2 L)]; exact c))
  · (first | exact k | (simp only [Option.getD_some, (Lay.r0_2 L)]; exact k))
theorem w_Main_text_36 {rod : Nat → Nat × (Nat → Int32)} {d : Nat} {Q : Option MV → MH → Prop} {u1 : Option MV} {u2 : Option MV} {u3 : Option MV} {h : MH} (L : Lay h.2)  {Q1 : Option MV → MH → Prop} (c : Wc rod d 21 [.inr (.inr (.inl (some 1))), .inl (h.1 45 11), .inl (h.1 45 12)] h Q1) (k : ∀ r1 h2, Q1 r1 h2 → Wb rod d B_Main_text 57 [some (.inr (.inr (.inl (some 0)))), u1, u2, u3] (r1.toList ++ []) h2 Q) : Wb rod d B_Main_text 36 [some (.inr (.inr (.inl (some 0)))), u1, u2, u3] [] h Q := by
  refine Wb.call (fun _ _ _ _ => b_Main_text_36 (Lay.o0 L) (Lay.k0_2 L) (Lay.k0_0 L)) (Q1 := Q1) ?_ ?_
  · (first | exact c | (simp only [Option.getD_some, (Lay.r0_0 L), (Lay.r0_2 L)]; exact c))
  · (first | exact k | (simp only [Option.getD_some, (Lay.r0_0 L), (Lay.r0_2 L)]; exact k))
theorem w_Main_text_57 {rod : Nat → Nat × (Nat → Int32)} {d : Nat} {Q : Option MV → MH → Prop} {u1 : Option MV} {u2 : Option MV} {u3 : Option MV} {h : MH} (L : Lay h.2)  (k1 : (h.1 45 11).toInt = 0 → Wb rod d B_Main_text 69 [some (.inr (.inr (.inl (some 0)))), u1, u2, u3] [] h Q) (k2 : ¬ (h.1 45 11).toInt = 0 → Wb rod d B_Main_text 67 [some (.inr (.inr (.inl (some 0)))), u1, u2, u3] [] h Q) : Wb rod d B_Main_text 57 [some (.inr (.inr (.inl (some 0)))), u1, u2, u3] [] h Q := by
  refine Wb.br (fun _ _ => b_Main_text_57 (Lay.o0 L) (Lay.k0_2 L)) (fun c => ?_) (fun c => ?_)
  · have c : (decide ((h.1 45 11) = 0)) = true := by first | exact c | (simp only [Option.getD_some, (Lay.r0_2 L)] at c; exact c)
    (first | exact (k1 (c_eqt c)) | (simp only [Option.getD_some, (Lay.r0_2 L)]; exact (k1 (c_eqt c))))
  · have c : (decide ((h.1 45 11) = 0)) = false := by first | exact c | (simp only [Option.getD_some, (Lay.r0_2 L)] at c; exact c)
    (first | exact (k2 (c_eqf c)) | (simp only [Option.getD_some, (Lay.r0_2 L)]; exact (k2 (c_eqf c))))
theorem w_Main_text_67 {rod : Nat → Nat × (Nat → Int32)} {d : Nat} {Q : Option MV → MH → Prop} {u0 : Option MV} {u1 : Option MV} {u2 : Option MV} {u3 : Option MV} {h : MH}   (q : Q (some (.inl (-1 : Int32))) h) : Wb rod d B_Main_text 67 [u0, u1, u2, u3] [] h Q := by
  refine Wb.ret (b_Main_text_67) ?_
  (first | exact q | (simp only [Option.getD_some]; exact q))
theorem w_Main_text_69 {rod : Nat → Nat × (Nat → Int32)} {d : Nat} {Q : Option MV → MH → Prop} {x1 : Int32} {u2 : Option MV} {x3 : Int32} {h : MH} (L : Lay h.2)  {Q1 : Option MV → MH → Prop} (c : Wc rod d 54 [.inr (.inr (.inl (some 45))), .inl x1, .inl x3] h Q1) (k : ∀ r1 h2, Q1 r1 h2 → Wb rod d B_Main_text 78 [some (.inr (.inr (.inl (some 0)))), some (.inl x1), u2, some (.inl x3)] (r1.toList ++ []) h2 Q) : Wb rod d B_Main_text 69 [some (.inr (.inr (.inl (some 0)))), some (.inl x1), u2, some (.inl x3)] [] h Q := by
  refine Wb.call (fun _ _ _ _ => b_Main_text_69 (Lay.o0 L) (Lay.k0_2 L)) (Q1 := Q1) ?_ ?_
  · (first | exact c | (simp only [Option.getD_some, (Lay.r0_2 L)]; exact c))
  · (first | exact k | (simp only [Option.getD_some, (Lay.r0_2 L)]; exact k))
theorem w_Main_text_78 {rod : Nat → Nat × (Nat → Int32)} {d : Nat} {Q : Option MV → MH → Prop} {x1 : Int32} {u2 : Option MV} {x3 : Int32} {h : MH} (L : Lay h.2) (g0 : 0 ≤ x1.toInt ∧ x1.toInt < 4) (k : Wb rod d B_Main_text 102 [some (.inr (.inr (.inl (some 0)))), some (.inl x1), u2, some (.inl x3)] [] (sI h 3 x1.toNatClampNeg (if (h.1 3 x1.toNatClampNeg) < (x3 + (1 : Int32)) then (x3 + (1 : Int32)) else (h.1 3 x1.toNatClampNeg))) Q) : Wb rod d B_Main_text 78 [some (.inr (.inr (.inl (some 0)))), some (.inl x1), u2, some (.inl x3)] [] h Q := by
  refine Wb.go (fun r hr q => b_Main_text_78 (Lay.o0 L) (Lay.k0_0 L) (by simp only [Option.getD_some, (Lay.r0_0 L), (Lay.r1_4 L)]; exact gA_of (L.1 3 _ rfl) (inB_of (And.left g0) (by have q := And.right g0; omega))) ?_) k
  (first | exact q | (simp only [Option.getD_some, (Lay.r0_0 L), (Lay.r1_4 L)]; exact q))
theorem w_Main_text_102 {rod : Nat → Nat × (Nat → Int32)} {d : Nat} {Q : Option MV → MH → Prop} {u0 : Option MV} {u1 : Option MV} {u2 : Option MV} {x3 : Int32} {h : MH}   (q : Q (some (.inl x3)) h) : Wb rod d B_Main_text 102 [u0, u1, u2, some (.inl x3)] [] h Q := by
  refine Wb.ret (b_Main_text_102) ?_
  (first | exact q | (simp only [Option.getD_some]; exact q))
theorem n_Told_placeFor {rod : Nat → Nat × (Nat → Int32)} {d : Nat} {Q : Option MV → MH → Prop} {x1 : Int32} {x2 : Int32} {h : MH} (k : Wb rod d B_Told_placeFor 0 [some (.inr (.inr (.inl (some 1)))), some (.inl x1), some (.inl x2), none, none] [] h Q) : Wc rod (d + 1) 20 [.inr (.inr (.inl (some 1))), .inl x1, .inl x2] h Q := Wc.en (fun _ _ => e_Told_placeFor) k
theorem w_Told_placeFor_0 {rod : Nat → Nat × (Nat → Int32)} {d : Nat} {Q : Option MV → MH → Prop} {u0 : Option MV} {x1 : Int32} {u2 : Option MV} {u3 : Option MV} {u4 : Option MV} {h : MH}   (k1 : x1.toInt < 0 → Wb rod d B_Told_placeFor 9 [u0, some (.inl x1), u2, u3, u4] [] h Q) (k2 : ¬ x1.toInt < 0 → Wb rod d B_Told_placeFor 4 [u0, some (.inl x1), u2, u3, u4] [] h Q) : Wb rod d B_Told_placeFor 0 [u0, some (.inl x1), u2, u3, u4] [] h Q := by
  refine Wb.br (fun _ _ => b_Told_placeFor_0) (fun c => ?_) (fun c => ?_)
  · have c : (decide (x1 < 0)) = true := by first | exact c | (simp only [Option.getD_some] at c; exact c)
    (first | exact (k1 (c_ltt c)) | (simp only [Option.getD_some]; exact (k1 (c_ltt c))))
  · have c : (decide (x1 < 0)) = false := by first | exact c | (simp only [Option.getD_some] at c; exact c)
    (first | exact (k2 (c_ltf c)) | (simp only [Option.getD_some]; exact (k2 (c_ltf c))))
theorem w_Told_placeFor_4 {rod : Nat → Nat × (Nat → Int32)} {d : Nat} {Q : Option MV → MH → Prop} {u0 : Option MV} {x1 : Int32} {u2 : Option MV} {u3 : Option MV} {u4 : Option MV} {h : MH}   (k1 : x1.toInt < 4 → Wb rod d B_Told_placeFor 12 [u0, some (.inl x1), u2, u3, u4] [] h Q) (k2 : ¬ x1.toInt < 4 → Wb rod d B_Told_placeFor 9 [u0, some (.inl x1), u2, u3, u4] [] h Q) : Wb rod d B_Told_placeFor 4 [u0, some (.inl x1), u2, u3, u4] [] h Q := by
  refine Wb.br (fun _ _ => b_Told_placeFor_4) (fun c => ?_) (fun c => ?_)
  · have c : (decide (x1 < (4 : Int32))) = true := by first | exact c | (simp only [Option.getD_some] at c; exact c)
    (first | exact (k1 (c_ltt c)) | (simp only [Option.getD_some]; exact (k1 (c_ltt c))))
  · have c : (decide (x1 < (4 : Int32))) = false := by first | exact c | (simp only [Option.getD_some] at c; exact c)
    (first | exact (k2 (c_ltf c)) | (simp only [Option.getD_some]; exact (k2 (c_ltf c))))
theorem w_Told_placeFor_9 {rod : Nat → Nat × (Nat → Int32)} {d : Nat} {Q : Option MV → MH → Prop} {u0 : Option MV} {u1 : Option MV} {u2 : Option MV} {u3 : Option MV} {u4 : Option MV} {h : MH}   (q : Q (some (.inl (-2 : Int32))) h) : Wb rod d B_Told_placeFor 9 [u0, u1, u2, u3, u4] [] h Q := by
  refine Wb.ret (b_Told_placeFor_9) ?_
  (first | exact q | (simp only [Option.getD_some]; exact q))
theorem w_Told_placeFor_12 {rod : Nat → Nat × (Nat → Int32)} {d : Nat} {Q : Option MV → MH → Prop} {u0 : Option MV} {u1 : Option MV} {x2 : Int32} {u3 : Option MV} {u4 : Option MV} {h : MH}   (k1 : ¬ x2.toInt = (-1) → Wb rod d B_Told_placeFor 26 [u0, u1, some (.inl x2), u3, u4] [] h Q) (k2 : x2.toInt = (-1) → Wb rod d B_Told_placeFor 17 [u0, u1, some (.inl x2), u3, u4] [] h Q) : Wb rod d B_Told_placeFor 12 [u0, u1, some (.inl x2), u3, u4] [] h Q := by
  refine Wb.br (fun _ _ => b_Told_placeFor_12) (fun c => ?_) (fun c => ?_)
  · have c : (!(decide (x2 = (-1 : Int32)))) = true := by first | exact c | (simp only [Option.getD_some] at c; exact c)
    (first | exact (k1 (c_net c)) | (simp only [Option.getD_some]; exact (k1 (c_net c))))
  · have c : (!(decide (x2 = (-1 : Int32)))) = false := by first | exact c | (simp only [Option.getD_some] at c; exact c)
    (first | exact (k2 (c_nef c)) | (simp only [Option.getD_some]; exact (k2 (c_nef c))))
theorem w_Told_placeFor_17 {rod : Nat → Nat × (Nat → Int32)} {d : Nat} {Q : Option MV → MH → Prop} {x1 : Int32} {u2 : Option MV} {u3 : Option MV} {u4 : Option MV} {h : MH} (L : Lay h.2) (g0 : 0 ≤ x1.toInt ∧ x1.toInt < 4) (k : Wb rod d B_Told_placeFor 27 [some (.inr (.inr (.inl (some 1)))), some (.inl x1), u2, u3, u4] [.inl (h.1 3 x1.toNatClampNeg)] h Q) : Wb rod d B_Told_placeFor 17 [some (.inr (.inr (.inl (some 1)))), some (.inl x1), u2, u3, u4] [] h Q := by
  refine Wb.go (fun r hr q => b_Told_placeFor_17 (Lay.o1 L) (Lay.a1_4 L g0) ?_) k
  (first | exact q | (simp only [Option.getD_some, (Lay.r1_4 L)]; exact q))
theorem w_Told_placeFor_26 {rod : Nat → Nat × (Nat → Int32)} {d : Nat} {Q : Option MV → MH → Prop} {u0 : Option MV} {u1 : Option MV} {x2 : Int32} {u3 : Option MV} {u4 : Option MV} {h : MH}   (k : Wb rod d B_Told_placeFor 27 [u0, u1, some (.inl x2), u3, u4] [.inl x2] h Q) : Wb rod d B_Told_placeFor 26 [u0, u1, some (.inl x2), u3, u4] [] h Q := by
  refine Wb.go (fun r hr q => b_Told_placeFor_26 ?_) k
  (first | exact q | (simp only [Option.getD_some]; exact q))
theorem w_Told_placeFor_27 {rod : Nat → Nat × (Nat → Int32)} {d : Nat} {Q : Option MV → MH → Prop} {u0 : Option MV} {u1 : Option MV} {x2 : Int32} {u3 : Option MV} {u4 : Option MV} {xs0 : Int32} {h : MH}   (k1 : ¬ x2.toInt = (-1) → Wb rod d B_Told_placeFor 37 [u0, u1, some (.inl x2), some (.inl xs0), u4] [] h Q) (k2 : x2.toInt = (-1) → Wb rod d B_Told_placeFor 33 [u0, u1, some (.inl x2), some (.inl xs0), u4] [] h Q) : Wb rod d B_Told_placeFor 27 [u0, u1, some (.inl x2), u3, u4] [.inl xs0] h Q := by
  refine Wb.br (fun _ _ => b_Told_placeFor_27) (fun c => ?_) (fun c => ?_)
  · have c : (!(decide (x2 = (-1 : Int32)))) = true := by first | exact c | (simp only [Option.getD_some] at c; exact c)
    (first | exact (k1 (c_net c)) | (simp only [Option.getD_some]; exact (k1 (c_net c))))
  · have c : (!(decide (x2 = (-1 : Int32)))) = false := by first | exact c | (simp only [Option.getD_some] at c; exact c)
    (first | exact (k2 (c_nef c)) | (simp only [Option.getD_some]; exact (k2 (c_nef c))))
theorem w_Told_placeFor_33 {rod : Nat → Nat × (Nat → Int32)} {d : Nat} {Q : Option MV → MH → Prop} {u0 : Option MV} {u1 : Option MV} {u2 : Option MV} {u3 : Option MV} {u4 : Option MV} {h : MH}   (k : Wb rod d B_Told_placeFor 43 [u0, u1, u2, u3, u4] [.inl (2 : Int32)] h Q) : Wb rod d B_Told_placeFor 33 [u0, u1, u2, u3, u4] [] h Q := by
  refine Wb.go (fun r hr q => b_Told_placeFor_33 ?_) k
  (first | exact q | (simp only [Option.getD_some]; exact q))
theorem w_Told_placeFor_37 {rod : Nat → Nat × (Nat → Int32)} {d : Nat} {Q : Option MV → MH → Prop} {x1 : Int32} {u2 : Option MV} {u3 : Option MV} {u4 : Option MV} {h : MH} (L : Lay h.2) (g0 : 0 ≤ x1.toInt ∧ x1.toInt < 4) (k : Wb rod d B_Told_placeFor 43 [some (.inr (.inr (.inl (some 1)))), some (.inl x1), u2, u3, u4] [.inl (h.1 3 x1.toNatClampNeg)] h Q) : Wb rod d B_Told_placeFor 37 [some (.inr (.inr (.inl (some 1)))), some (.inl x1), u2, u3, u4] [] h Q := by
  refine Wb.go (fun r hr q => b_Told_placeFor_37 (Lay.o1 L) (Lay.a1_4 L g0) ?_) k
  (first | exact q | (simp only [Option.getD_some, (Lay.r1_4 L)]; exact q))
theorem w_Told_placeFor_43 {rod : Nat → Nat × (Nat → Int32)} {d : Nat} {Q : Option MV → MH → Prop} {u0 : Option MV} {u1 : Option MV} {u2 : Option MV} {x3 : Int32} {u4 : Option MV} {xs0 : Int32} {h : MH}   (k1 : x3.toInt < 0 → Wb rod d B_Told_placeFor 59 [u0, u1, u2, some (.inl x3), some (.inl xs0)] [] h Q) (k2 : ¬ x3.toInt < 0 → Wb rod d B_Told_placeFor 49 [u0, u1, u2, some (.inl x3), some (.inl xs0)] [] h Q) : Wb rod d B_Told_placeFor 43 [u0, u1, u2, some (.inl x3), u4] [.inl xs0] h Q := by
  refine Wb.br (fun _ _ => b_Told_placeFor_43) (fun c => ?_) (fun c => ?_)
  · have c : (decide (x3 < 0)) = true := by first | exact c | (simp only [Option.getD_some] at c; exact c)
    (first | exact (k1 (c_ltt c)) | (simp only [Option.getD_some]; exact (k1 (c_ltt c))))
  · have c : (decide (x3 < 0)) = false := by first | exact c | (simp only [Option.getD_some] at c; exact c)
    (first | exact (k2 (c_ltf c)) | (simp only [Option.getD_some]; exact (k2 (c_ltf c))))
theorem w_Told_placeFor_49 {rod : Nat → Nat × (Nat → Int32)} {d : Nat} {Q : Option MV → MH → Prop} {u0 : Option MV} {u1 : Option MV} {u2 : Option MV} {x3 : Int32} {x4 : Int32} {h : MH}   (k1 : x4.toInt ≤ x3.toInt → Wb rod d B_Told_placeFor 59 [u0, u1, u2, some (.inl x3), some (.inl x4)] [] h Q) (k2 : ¬ x4.toInt ≤ x3.toInt → Wb rod d B_Told_placeFor 55 [u0, u1, u2, some (.inl x3), some (.inl x4)] [] h Q) : Wb rod d B_Told_placeFor 49 [u0, u1, u2, some (.inl x3), some (.inl x4)] [] h Q := by
  refine Wb.br (fun _ _ => b_Told_placeFor_49) (fun c => ?_) (fun c => ?_)
  · have c : (decide (x4 ≤ x3)) = true := by first | exact c | (simp only [Option.getD_some] at c; exact c)
    (first | exact (k1 (c_let c)) | (simp only [Option.getD_some]; exact (k1 (c_let c))))
  · have c : (decide (x4 ≤ x3)) = false := by first | exact c | (simp only [Option.getD_some] at c; exact c)
    (first | exact (k2 (c_lef c)) | (simp only [Option.getD_some]; exact (k2 (c_lef c))))
theorem w_Told_placeFor_55 {rod : Nat → Nat × (Nat → Int32)} {d : Nat} {Q : Option MV → MH → Prop} {u0 : Option MV} {u1 : Option MV} {u2 : Option MV} {x3 : Int32} {u4 : Option MV} {h : MH}   (k : Wb rod d B_Told_placeFor 61 [u0, u1, u2, some (.inl x3), u4] [.inl x3] h Q) : Wb rod d B_Told_placeFor 55 [u0, u1, u2, some (.inl x3), u4] [] h Q := by
  refine Wb.go (fun r hr q => b_Told_placeFor_55 ?_) k
  (first | exact q | (simp only [Option.getD_some]; exact q))
theorem w_Told_placeFor_59 {rod : Nat → Nat × (Nat → Int32)} {d : Nat} {Q : Option MV → MH → Prop} {u0 : Option MV} {u1 : Option MV} {u2 : Option MV} {u3 : Option MV} {u4 : Option MV} {h : MH}   (k : Wb rod d B_Told_placeFor 61 [u0, u1, u2, u3, u4] [.inl (-2 : Int32)] h Q) : Wb rod d B_Told_placeFor 59 [u0, u1, u2, u3, u4] [] h Q := by
  refine Wb.go (fun r hr q => b_Told_placeFor_59 ?_) k
  (first | exact q | (simp only [Option.getD_some]; exact q))
theorem w_Told_placeFor_61 {rod : Nat → Nat × (Nat → Int32)} {d : Nat} {Q : Option MV → MH → Prop} {u0 : Option MV} {u1 : Option MV} {u2 : Option MV} {u3 : Option MV} {u4 : Option MV} {xs0 : Int32} {h : MH}   (q : Q (some (.inl xs0)) h) : Wb rod d B_Told_placeFor 61 [u0, u1, u2, u3, u4] [.inl xs0] h Q := by
  refine Wb.ret (b_Told_placeFor_61) ?_
  (first | exact q | (simp only [Option.getD_some]; exact q))
theorem n_Told_takeTape {rod : Nat → Nat × (Nat → Int32)} {d : Nat} {Q : Option MV → MH → Prop} {x1 : Int32} {x2 : Int32} {h : MH} (k : Wb rod d B_Told_takeTape 0 [some (.inr (.inr (.inl (some 1)))), some (.inl x1), some (.inl x2)] [] h Q) : Wc rod (d + 1) 21 [.inr (.inr (.inl (some 1))), .inl x1, .inl x2] h Q := Wc.en (fun _ _ => e_Told_takeTape) k
theorem w_Told_takeTape_0 {rod : Nat → Nat × (Nat → Int32)} {d : Nat} {Q : Option MV → MH → Prop} {u1 : Option MV} {u2 : Option MV} {h : MH} (L : Lay h.2)  (k : Wb rod d B_Told_takeTape 5 [some (.inr (.inr (.inl (some 1)))), u1, u2] [] (sI h 1 1 (0 : Int32)) Q) : Wb rod d B_Told_takeTape 0 [some (.inr (.inr (.inl (some 1)))), u1, u2] [] h Q := by
  refine Wb.go (fun r hr q => b_Told_takeTape_0 (Lay.o1 L) ?_) k
  (first | exact q | (simp only [Option.getD_some]; exact q))
theorem w_Told_takeTape_5 {rod : Nat → Nat × (Nat → Int32)} {d : Nat} {Q : Option MV → MH → Prop} {x1 : Int32} {u2 : Option MV} {h : MH} (L : Lay h.2)  (k : Wb rod d B_Told_takeTape 10 [some (.inr (.inr (.inl (some 1)))), some (.inl x1), u2] [] (sI h 1 2 x1) Q) : Wb rod d B_Told_takeTape 5 [some (.inr (.inr (.inl (some 1)))), some (.inl x1), u2] [] h Q := by
  refine Wb.go (fun r hr q => b_Told_takeTape_5 (Lay.o1 L) ?_) k
  (first | exact q | (simp only [Option.getD_some]; exact q))
theorem w_Told_takeTape_10 {rod : Nat → Nat × (Nat → Int32)} {d : Nat} {Q : Option MV → MH → Prop} {u1 : Option MV} {x2 : Int32} {h : MH} (L : Lay h.2)  (k : Wb rod d B_Told_takeTape 15 [some (.inr (.inr (.inl (some 1)))), u1, some (.inl x2)] [] (sI h 1 3 x2) Q) : Wb rod d B_Told_takeTape 10 [some (.inr (.inr (.inl (some 1)))), u1, some (.inl x2)] [] h Q := by
  refine Wb.go (fun r hr q => b_Told_takeTape_10 (Lay.o1 L) ?_) k
  (first | exact q | (simp only [Option.getD_some]; exact q))
theorem w_Told_takeTape_15 {rod : Nat → Nat × (Nat → Int32)} {d : Nat} {Q : Option MV → MH → Prop} {u0 : Option MV} {u1 : Option MV} {u2 : Option MV} {h : MH}   (q : Q (none) h) : Wb rod d B_Told_takeTape 15 [u0, u1, u2] [] h Q := by
  refine Wb.ret (b_Told_takeTape_15) ?_
  (first | exact q | (simp only [Option.getD_some]; exact q))
theorem n_Reader_readTape {rod : Nat → Nat × (Nat → Int32)} {d : Nat} {Q : Option MV → MH → Prop} {x1 : Int32} {h : MH} (k : Wb rod d B_Reader_readTape 0 [some (.inr (.inr (.inl (some 45)))), some (.inl x1), none] [] h Q) : Wc rod (d + 1) 22 [.inr (.inr (.inl (some 45))), .inl x1] h Q := Wc.en (fun _ _ => e_Reader_readTape) k
theorem w_Reader_readTape_0 {rod : Nat → Nat × (Nat → Int32)} {d : Nat} {Q : Option MV → MH → Prop} {u1 : Option MV} {u2 : Option MV} {h : MH} (L : Lay h.2)  {Q1 : Option MV → MH → Prop} (c : Wc rod d 23 [.inr (.inr (.inl (some 46)))] h Q1) (k : ∀ r1 h2, Q1 r1 h2 → Wb rod d B_Reader_readTape 7 [some (.inr (.inr (.inl (some 45)))), u1, u2] (r1.toList ++ []) h2 Q) : Wb rod d B_Reader_readTape 0 [some (.inr (.inr (.inl (some 45)))), u1, u2] [] h Q := by
  refine Wb.call (fun _ _ _ _ => b_Reader_readTape_0 (Lay.o45 L) (Lay.k45_1 L)) (Q1 := Q1) ?_ ?_
  · (first | exact c | (simp only [Option.getD_some, (Lay.r45_1 L)]; exact c))
  · (first | exact k | (simp only [Option.getD_some, (Lay.r45_1 L)]; exact k))
theorem w_Reader_readTape_7 {rod : Nat → Nat × (Nat → Int32)} {d : Nat} {Q : Option MV → MH → Prop} {u1 : Option MV} {u2 : Option MV} {h : MH} (L : Lay h.2)  (k : Wb rod d B_Reader_readTape 15 [some (.inr (.inr (.inl (some 45)))), u1, u2] [] (sI h 55 0 (0 : Int32)) Q) : Wb rod d B_Reader_readTape 7 [some (.inr (.inr (.inl (some 45)))), u1, u2] [] h Q := by
  refine Wb.go (fun r hr q => b_Reader_readTape_7 (Lay.o45 L) (Lay.k45_2 L) ?_) k
  (first | exact q | (simp only [Option.getD_some, (Lay.r45_2 L)]; exact q))
theorem w_Reader_readTape_15 {rod : Nat → Nat × (Nat → Int32)} {d : Nat} {Q : Option MV → MH → Prop} {u1 : Option MV} {u2 : Option MV} {h : MH} (L : Lay h.2)  (k : Wb rod d B_Reader_readTape 23 [some (.inr (.inr (.inl (some 45)))), u1, u2] [] (sI h 59 0 (0 : Int32)) Q) : Wb rod d B_Reader_readTape 15 [some (.inr (.inr (.inl (some 45)))), u1, u2] [] h Q := by
  refine Wb.go (fun r hr q => b_Reader_readTape_15 (Lay.o45 L) (Lay.k45_3 L) ?_) k
  (first | exact q | (simp only [Option.getD_some, (Lay.r45_3 L)]; exact q))
theorem w_Reader_readTape_23 {rod : Nat → Nat × (Nat → Int32)} {d : Nat} {Q : Option MV → MH → Prop} {u1 : Option MV} {u2 : Option MV} {h : MH} (L : Lay h.2)  {Q1 : Option MV → MH → Prop} (c : Wc rod d 25 [.inr (.inr (.inl (some 62)))] h Q1) (k : ∀ r1 h2, Q1 r1 h2 → Wb rod d B_Reader_readTape 30 [some (.inr (.inr (.inl (some 45)))), u1, u2] (r1.toList ++ []) h2 Q) : Wb rod d B_Reader_readTape 23 [some (.inr (.inr (.inl (some 45)))), u1, u2] [] h Q := by
  refine Wb.call (fun _ _ _ _ => b_Reader_readTape_23 (Lay.o45 L) (Lay.k45_4 L)) (Q1 := Q1) ?_ ?_
  · (first | exact c | (simp only [Option.getD_some, (Lay.r45_4 L)]; exact c))
  · (first | exact k | (simp only [Option.getD_some, (Lay.r45_4 L)]; exact k))
theorem w_Reader_readTape_30 {rod : Nat → Nat × (Nat → Int32)} {d : Nat} {Q : Option MV → MH → Prop} {u1 : Option MV} {u2 : Option MV} {h : MH} (L : Lay h.2)  (k : Wb rod d B_Reader_readTape 35 [some (.inr (.inr (.inl (some 45)))), u1, u2] [] (sI h 45 10 (0 : Int32)) Q) : Wb rod d B_Reader_readTape 30 [some (.inr (.inr (.inl (some 45)))), u1, u2] [] h Q := by
  refine Wb.go (fun r hr q => b_Reader_readTape_30 (Lay.o45 L) ?_) k
  (first | exact q | (simp only [Option.getD_some]; exact q))
theorem w_Reader_readTape_35 {rod : Nat → Nat × (Nat → Int32)} {d : Nat} {Q : Option MV → MH → Prop} {u1 : Option MV} {u2 : Option MV} {h : MH} (L : Lay h.2)  (k : Wb rod d B_Reader_readTape 40 [some (.inr (.inr (.inl (some 45)))), u1, u2] [] (sI h 45 11 (0 : Int32)) Q) : Wb rod d B_Reader_readTape 35 [some (.inr (.inr (.inl (some 45)))), u1, u2] [] h Q := by
  refine Wb.go (fun r hr q => b_Reader_readTape_35 (Lay.o45 L) ?_) k
  (first | exact q | (simp only [Option.getD_some]; exact q))
theorem w_Reader_readTape_40 {rod : Nat → Nat × (Nat → Int32)} {d : Nat} {Q : Option MV → MH → Prop} {u1 : Option MV} {u2 : Option MV} {h : MH} (L : Lay h.2)  (k : Wb rod d B_Reader_readTape 45 [some (.inr (.inr (.inl (some 45)))), u1, u2] [] (sI h 45 12 (-1 : Int32)) Q) : Wb rod d B_Reader_readTape 40 [some (.inr (.inr (.inl (some 45)))), u1, u2] [] h Q := by
  refine Wb.go (fun r hr q => b_Reader_readTape_40 (Lay.o45 L) ?_) k
  (first | exact q | (simp only [Option.getD_some]; exact q))
theorem w_Reader_readTape_45 {rod : Nat → Nat × (Nat → Int32)} {d : Nat} {Q : Option MV → MH → Prop} {u1 : Option MV} {u2 : Option MV} {h : MH} (L : Lay h.2)  (k : Wb rod d B_Reader_readTape 50 [some (.inr (.inr (.inl (some 45)))), u1, u2] [] (sI h 45 6 (0 : Int32)) Q) : Wb rod d B_Reader_readTape 45 [some (.inr (.inr (.inl (some 45)))), u1, u2] [] h Q := by
  refine Wb.go (fun r hr q => b_Reader_readTape_45 (Lay.o45 L) ?_) k
  (first | exact q | (simp only [Option.getD_some]; exact q))
theorem w_Reader_readTape_50 {rod : Nat → Nat × (Nat → Int32)} {d : Nat} {Q : Option MV → MH → Prop} {u1 : Option MV} {u2 : Option MV} {h : MH} (L : Lay h.2)  {Q1 : Option MV → MH → Prop} (c : Wc rod d 26 [.inr (.inr (.inl (some 45)))] h Q1) (k : ∀ r1 h2, Q1 r1 h2 → Wb rod d B_Reader_readTape 54 [some (.inr (.inr (.inl (some 45)))), u1, u2] (r1.toList ++ []) h2 Q) : Wb rod d B_Reader_readTape 50 [some (.inr (.inr (.inl (some 45)))), u1, u2] [] h Q := by
  refine Wb.call (fun _ _ _ _ => b_Reader_readTape_50 (Lay.o45 L)) (Q1 := Q1) ?_ ?_
  · (first | exact c | (simp only [Option.getD_some]; exact c))
  · (first | exact k | (simp only [Option.getD_some]; exact k))
theorem w_Reader_readTape_54 {rod : Nat → Nat × (Nat → Int32)} {d : Nat} {Q : Option MV → MH → Prop} {u0 : Option MV} {u1 : Option MV} {u2 : Option MV} {h : MH}  (g0 : okl [u0, u1, u2] 2 = true) (k : Wb rod d B_Reader_readTape 56 [u0, u1, some (.inl (0 : Int32))] [] h Q) : Wb rod d B_Reader_readTape 54 [u0, u1, u2] [] h Q := by
  refine Wb.go (fun r hr q => b_Reader_readTape_54 g0 ?_) k
  (first | exact q | (simp only [Option.getD_some]; exact q))
theorem w_Reader_readTape_56 {rod : Nat → Nat × (Nat → Int32)} {d : Nat} {Q : Option MV → MH → Prop} {u0 : Option MV} {u1 : Option MV} {x2 : Int32} {h : MH}   (k1 : 600 < x2.toInt → Wb rod d B_Reader_readTape 89 [u0, u1, some (.inl x2)] [] h Q) (k2 : ¬ 600 < x2.toInt → Wb rod d B_Reader_readTape 63 [u0, u1, some (.inl x2)] [] h Q) : Wb rod d B_Reader_readTape 56 [u0, u1, some (.inl x2)] [] h Q := by
  refine Wb.br (fun _ _ => b_Reader_readTape_56) (fun c => ?_) (fun c => ?_)
  · have c : (decide ((600 : Int32) < x2)) = true := by first | exact c | (simp only [Option.getD_some] at c; exact c)
    (first | exact (k1 (c_ltt c)) | (simp only [Option.getD_some]; exact (k1 (c_ltt c))))
  · have c : (decide ((600 : Int32) < x2)) = false := by first | exact c | (simp only [Option.getD_some] at c; exact c)
    (first | exact (k2 (c_ltf c)) | (simp only [Option.getD_some]; exact (k2 (c_ltf c))))
theorem w_Reader_readTape_63 {rod : Nat → Nat × (Nat → Int32)} {d : Nat} {Q : Option MV → MH → Prop} {u1 : Option MV} {u2 : Option MV} {h : MH} (L : Lay h.2)  (k1 : (h.1 45 7).toInt = 0 → Wb rod d B_Reader_readTape 89 [some (.inr (.inr (.inl (some 45)))), u1, u2] [] h Q) (k2 : ¬ (h.1 45 7).toInt = 0 → Wb rod d B_Reader_readTape 70 [some (.inr (.inr (.inl (some 45)))), u1, u2] [] h Q) : Wb rod d B_Reader_readTape 63 [some (.inr (.inr (.inl (some 45)))), u1, u2] [] h Q := by
  refine Wb.br (fun _ _ => b_Reader_readTape_63 (Lay.o45 L)) (fun c => ?_) (fun c => ?_)
  · have c : (decide ((h.1 45 7) = 0)) = true := by first | exact c | (simp only [Option.getD_some] at c; exact c)
    (first | exact (k1 (c_eqt c)) | (simp only [Option.getD_some]; exact (k1 (c_eqt c))))
  · have c : (decide ((h.1 45 7) = 0)) = false := by first | exact c | (simp only [Option.getD_some] at c; exact c)
    (first | exact (k2 (c_eqf c)) | (simp only [Option.getD_some]; exact (k2 (c_eqf c))))
theorem w_Reader_readTape_70 {rod : Nat → Nat × (Nat → Int32)} {d : Nat} {Q : Option MV → MH → Prop} {u1 : Option MV} {u2 : Option MV} {h : MH} (L : Lay h.2)  (k1 : (h.1 45 11).toInt = 1 → Wb rod d B_Reader_readTape 89 [some (.inr (.inr (.inl (some 45)))), u1, u2] [] h Q) (k2 : ¬ (h.1 45 11).toInt = 1 → Wb rod d B_Reader_readTape 78 [some (.inr (.inr (.inl (some 45)))), u1, u2] [] h Q) : Wb rod d B_Reader_readTape 70 [some (.inr (.inr (.inl (some 45)))), u1, u2] [] h Q := by
  refine Wb.br (fun _ _ => b_Reader_readTape_70 (Lay.o45 L)) (fun c => ?_) (fun c => ?_)
  · have c : (decide ((h.1 45 11) = (1 : Int32))) = true := by first | exact c | (simp only [Option.getD_some] at c; exact c)
    (first | exact (k1 (c_eqt c)) | (simp only [Option.getD_some]; exact (k1 (c_eqt c))))
  · have c : (decide ((h.1 45 11) = (1 : Int32))) = false := by first | exact c | (simp only [Option.getD_some] at c; exact c)
    (first | exact (k2 (c_eqf c)) | (simp only [Option.getD_some]; exact (k2 (c_eqf c))))
theorem w_Reader_readTape_78 {rod : Nat → Nat × (Nat → Int32)} {d : Nat} {Q : Option MV → MH → Prop} {x1 : Int32} {u2 : Option MV} {h : MH} (L : Lay h.2)  {Q1 : Option MV → MH → Prop} (c : Wc rod d 30 [.inr (.inr (.inl (some 45))), .inl x1] h Q1) (k : ∀ r1 h2, Q1 r1 h2 → Wb rod d B_Reader_readTape 83 [some (.inr (.inr (.inl (some 45)))), some (.inl x1), u2] (r1.toList ++ []) h2 Q) : Wb rod d B_Reader_readTape 78 [some (.inr (.inr (.inl (some 45)))), some (.inl x1), u2] [] h Q := by
  refine Wb.call (fun _ _ _ _ => b_Reader_readTape_78 (Lay.o45 L)) (Q1 := Q1) ?_ ?_
  · (first | exact c | (simp only [Option.getD_some]; exact c))
  · (first | exact k | (simp only [Option.getD_some]; exact k))
theorem w_Reader_readTape_83 {rod : Nat → Nat × (Nat → Int32)} {d : Nat} {Q : Option MV → MH → Prop} {u0 : Option MV} {u1 : Option MV} {x2 : Int32} {h : MH}  (g0 : okl [u0, u1, some (.inl x2)] 2 = true) (k : Wb rod d B_Reader_readTape 56 [u0, u1, some (.inl (x2 + 1))] [] h Q) : Wb rod d B_Reader_readTape 83 [u0, u1, some (.inl x2)] [] h Q := by
  refine Wb.go (fun r hr q => b_Reader_readTape_83 g0 ?_) k
  (first | exact q | (simp only [Option.getD_some]; exact q))
theorem w_Reader_readTape_89 {rod : Nat → Nat × (Nat → Int32)} {d : Nat} {Q : Option MV → MH → Prop} {x1 : Int32} {u2 : Option MV} {h : MH} (L : Lay h.2)  (k1 : ¬ x1.toInt = 0 → Wb rod d B_Reader_readTape 107 [some (.inr (.inr (.inl (some 45)))), some (.inl x1), u2] [.inl (h.1 45 10)] h Q) (k2 : x1.toInt = 0 → Wb rod d B_Reader_readTape 97 [some (.inr (.inr (.inl (some 45)))), some (.inl x1), u2] [.inl (h.1 45 10)] h Q) : Wb rod d B_Reader_readTape 89 [some (.inr (.inr (.inl (some 45)))), some (.inl x1), u2] [] h Q := by
  refine Wb.br (fun _ _ => b_Reader_readTape_89 (Lay.o45 L)) (fun c => ?_) (fun c => ?_)
  · have c : (!(decide (x1 = 0))) = true := by first | exact c | (simp only [Option.getD_some] at c; exact c)
    (first | exact (k1 (c_net c)) | (simp only [Option.getD_some]; exact (k1 (c_net c))))
  · have c : (!(decide (x1 = 0))) = false := by first | exact c | (simp only [Option.getD_some] at c; exact c)
    (first | exact (k2 (c_nef c)) | (simp only [Option.getD_some]; exact (k2 (c_nef c))))
theorem w_Reader_readTape_97 {rod : Nat → Nat × (Nat → Int32)} {d : Nat} {Q : Option MV → MH → Prop} {u1 : Option MV} {u2 : Option MV} {xs0 : Int32} {h : MH} (L : Lay h.2)  (k : Wb rod d B_Reader_readTape 114 [some (.inr (.inr (.inl (some 45)))), u1, u2] [.inl (h.1 46 0), .inl xs0] h Q) : Wb rod d B_Reader_readTape 97 [some (.inr (.inr (.inl (some 45)))), u1, u2] [.inl xs0] h Q := by
  refine Wb.go (fun r hr q => b_Reader_readTape_97 (Lay.o45 L) (Lay.k45_1 L) ?_) k
  (first | exact q | (simp only [Option.getD_some, (Lay.r45_1 L)]; exact q))
theorem w_Reader_readTape_107 {rod : Nat → Nat × (Nat → Int32)} {d : Nat} {Q : Option MV → MH → Prop} {u1 : Option MV} {u2 : Option MV} {xs0 : Int32} {h : MH} (L : Lay h.2)  (k : Wb rod d B_Reader_readTape 114 [some (.inr (.inr (.inl (some 45)))), u1, u2] [.inl (h.1 62 0), .inl xs0] h Q) : Wb rod d B_Reader_readTape 107 [some (.inr (.inr (.inl (some 45)))), u1, u2] [.inl xs0] h Q := by
  refine Wb.go (fun r hr q => b_Reader_readTape_107 (Lay.o45 L) (Lay.k45_4 L) ?_) k
  (first | exact q | (simp only [Option.getD_some, (Lay.r45_4 L)]; exact q))
theorem w_Reader_readTape_114 {rod : Nat → Nat × (Nat → Int32)} {d : Nat} {Q : Option MV → MH → Prop} {u0 : Option MV} {u1 : Option MV} {u2 : Option MV} {xs0 : Int32} {xs1 : Int32} {h : MH}   (k1 : (xs0 >>> (xs1 &&& 31)).toInt = 0 → Wb rod d B_Reader_readTape 130 [u0, u1, u2] [] h Q) (k2 : ¬ (xs0 >>> (xs1 &&& 31)).toInt = 0 → Wb rod d B_Reader_readTape 118 [u0, u1, u2] [] h Q) : Wb rod d B_Reader_readTape 114 [u0, u1, u2] [.inl xs1, .inl xs0] h Q := by
  refine Wb.br (fun _ _ => b_Reader_readTape_114) (fun c => ?_) (fun c => ?_)
  · have c : (decide ((xs0 >>> (xs1 &&& 31)) = 0)) = true := by first | exact c | (simp only [Option.getD_some] at c; exact c)
    (first | exact (k1 (c_eqt c)) | (simp only [Option.getD_some]; exact (k1 (c_eqt c))))
  · have c : (decide ((xs0 >>> (xs1 &&& 31)) = 0)) = false := by first | exact c | (simp only [Option.getD_some] at c; exact c)
    (first | exact (k2 (c_eqf c)) | (simp only [Option.getD_some]; exact (k2 (c_eqf c))))
theorem w_Reader_readTape_118 {rod : Nat → Nat × (Nat → Int32)} {d : Nat} {Q : Option MV → MH → Prop} {u1 : Option MV} {u2 : Option MV} {h : MH} (L : Lay h.2)  {Q1 : Option MV → MH → Prop} (c : Wc rod d 43 [.inr (.inr (.inl (some 45))), .inl (4 : Int32), .inl (h.1 1 1)] h Q1) (k : ∀ r1 h2, Q1 r1 h2 → Wb rod d B_Reader_readTape 130 [some (.inr (.inr (.inl (some 45)))), u1, u2] (r1.toList ++ []) h2 Q) : Wb rod d B_Reader_readTape 118 [some (.inr (.inr (.inl (some 45)))), u1, u2] [] h Q := by
  refine Wb.call (fun _ _ _ _ => b_Reader_readTape_118 (Lay.o45 L) (Lay.k45_0 L)) (Q1 := Q1) ?_ ?_
  · (first | exact c | (simp only [Option.getD_some, (Lay.r45_0 L)]; exact c))
  · (first | exact k | (simp only [Option.getD_some, (Lay.r45_0 L)]; exact k))
theorem w_Reader_readTape_130 {rod : Nat → Nat × (Nat → Int32)} {d : Nat} {Q : Option MV → MH → Prop} {u0 : Option MV} {u1 : Option MV} {u2 : Option MV} {h : MH}   (q : Q (none) h) : Wb rod d B_Reader_readTape 130 [u0, u1, u2] [] h Q := by
  refine Wb.ret (b_Reader_readTape_130) ?_
  (first | exact q | (simp only [Option.getD_some]; exact q))
theorem n_Land_forget {rod : Nat → Nat × (Nat → Int32)} {d : Nat} {Q : Option MV → MH → Prop} {a0 : Nat} {h : MH} (k : Wb rod d B_Land_forget 0 [some (.inr (.inr (.inl (some a0))))] [] h Q) : Wc rod (d + 1) 23 [.inr (.inr (.inl (some a0)))] h Q := Wc.en (fun _ _ => e_Land_forget) k
theorem w_Land_forget_0 {rod : Nat → Nat × (Nat → Int32)} {d : Nat} {Q : Option MV → MH → Prop} {a0 : Nat} {h : MH} (A0 : LandA h.2 a0)  (k : Wb rod d B_Land_forget 5 [some (.inr (.inr (.inl (some a0))))] [] (sI h a0 0 (3 : Int32)) Q) : Wb rod d B_Land_forget 0 [some (.inr (.inr (.inl (some a0))))] [] h Q := by
  refine Wb.go (fun r hr q => b_Land_forget_0 (A0.o) ?_) k
  (first | exact q | (simp only [Option.getD_some]; exact q))
theorem w_Land_forget_5 {rod : Nat → Nat × (Nat → Int32)} {d : Nat} {Q : Option MV → MH → Prop} {a0 : Nat} {h : MH} (A0 : LandA h.2 a0)  (k : Wb rod d B_Land_forget 10 [some (.inr (.inr (.inl (some a0))))] [] (sI h a0 1 (0 : Int32)) Q) : Wb rod d B_Land_forget 5 [some (.inr (.inr (.inl (some a0))))] [] h Q := by
  refine Wb.go (fun r hr q => b_Land_forget_5 (A0.o) ?_) k
  (first | exact q | (simp only [Option.getD_some]; exact q))
theorem w_Land_forget_10 {rod : Nat → Nat × (Nat → Int32)} {d : Nat} {Q : Option MV → MH → Prop} {a0 : Nat} {h : MH} (A0 : LandA h.2 a0)  (k : Wb rod d B_Land_forget 15 [some (.inr (.inr (.inl (some a0))))] [] (sI h a0 2 (0 : Int32)) Q) : Wb rod d B_Land_forget 10 [some (.inr (.inr (.inl (some a0))))] [] h Q := by
  refine Wb.go (fun r hr q => b_Land_forget_10 (A0.o) ?_) k
  (first | exact q | (simp only [Option.getD_some]; exact q))
theorem w_Land_forget_15 {rod : Nat → Nat × (Nat → Int32)} {d : Nat} {Q : Option MV → MH → Prop} {a0 : Nat} {h : MH} (A0 : LandA h.2 a0)  (k : Wb rod d B_Land_forget 20 [some (.inr (.inr (.inl (some a0))))] [] (sI h a0 3 (0 : Int32)) Q) : Wb rod d B_Land_forget 15 [some (.inr (.inr (.inl (some a0))))] [] h Q := by
  refine Wb.go (fun r hr q => b_Land_forget_15 (A0.o) ?_) k
  (first | exact q | (simp only [Option.getD_some]; exact q))
theorem w_Land_forget_20 {rod : Nat → Nat × (Nat → Int32)} {d : Nat} {Q : Option MV → MH → Prop} {a0 : Nat} {h : MH} (A0 : LandA h.2 a0)  (k : Wb rod d B_Land_forget 25 [some (.inr (.inr (.inl (some a0))))] [] (sI h a0 4 (0 : Int32)) Q) : Wb rod d B_Land_forget 20 [some (.inr (.inr (.inl (some a0))))] [] h Q := by
  refine Wb.go (fun r hr q => b_Land_forget_20 (A0.o) ?_) k
  (first | exact q | (simp only [Option.getD_some]; exact q))
theorem w_Land_forget_25 {rod : Nat → Nat × (Nat → Int32)} {d : Nat} {Q : Option MV → MH → Prop} {a0 : Nat} {h : MH} (A0 : LandA h.2 a0)  (k : Wb rod d B_Land_forget 30 [some (.inr (.inr (.inl (some a0))))] [] (sI h a0 5 (0 : Int32)) Q) : Wb rod d B_Land_forget 25 [some (.inr (.inr (.inl (some a0))))] [] h Q := by
  refine Wb.go (fun r hr q => b_Land_forget_25 (A0.o) ?_) k
  (first | exact q | (simp only [Option.getD_some]; exact q))
theorem w_Land_forget_30 {rod : Nat → Nat × (Nat → Int32)} {d : Nat} {Q : Option MV → MH → Prop} {a0 : Nat} {h : MH} (A0 : LandA h.2 a0)  {Q1 : Option MV → MH → Prop} (c : Wc rod d 24 [.inr (.inr (.inl (some (a0 + 8)))), .inl (0 : Int32)] h Q1) (k : ∀ r1 h2, Q1 r1 h2 → Wb rod d B_Land_forget 38 [some (.inr (.inr (.inl (some a0))))] (r1.toList ++ []) h2 Q) : Wb rod d B_Land_forget 30 [some (.inr (.inr (.inl (some a0))))] [] h Q := by
  refine Wb.call (fun _ _ _ _ => b_Land_forget_30 (A0.o)) (Q1 := Q1) ?_ ?_
  · (first | exact c | (simp only [Option.getD_some, A0.r13]; exact c))
  · (first | exact k | (simp only [Option.getD_some, A0.r13]; exact k))
theorem w_Land_forget_38 {rod : Nat → Nat × (Nat → Int32)} {d : Nat} {Q : Option MV → MH → Prop} {u0 : Option MV} {h : MH}   (q : Q (none) h) : Wb rod d B_Land_forget 38 [u0] [] h Q := by
  refine Wb.ret (b_Land_forget_38) ?_
  (first | exact q | (simp only [Option.getD_some]; exact q))
theorem n_Arrays_fill {rod : Nat → Nat × (Nat → Int32)} {d : Nat} {Q : Option MV → MH → Prop} {c0 : Nat} {x1 : Int32} {h : MH} (k : Wb rod d B_Arrays_fill 0 [some (.inr (.inr (.inl (some c0)))), some (.inl x1), none, none] [] h Q) : Wc rod (d + 1) 24 [.inr (.inr (.inl (some c0))), .inl x1] h Q := Wc.en (fun _ _ => e_Arrays_fill) k
theorem w_Arrays_fill_0 {rod : Nat → Nat × (Nat → Int32)} {d : Nat} {Q : Option MV → MH → Prop} {c0 : Nat} {nc0 : Nat} {u1 : Option MV} {u2 : Option MV} {u3 : Option MV} {h : MH} (Sc0 : h.2.2[c0]? = some (0, nc0)) (g0 : okl [some (.inr (.inr (.inl (some c0)))), u1, u2, u3] 2 = true) (k : Wb rod d B_Arrays_fill 5 [some (.inr (.inr (.inl (some c0)))), u1, some (.inl (0 : Int32)), some (.inl (Int32.ofNat nc0))] [] h Q) : Wb rod d B_Arrays_fill 0 [some (.inr (.inr (.inl (some c0)))), u1, u2, u3] [] h Q := by
  refine Wb.go (fun r hr q => b_Arrays_fill_0 g0 (gO_of Sc0) ?_) k
  (first | exact q | (simp only [Option.getD_some, (shN_of Sc0)]; exact q))
theorem w_Arrays_fill_5 {rod : Nat → Nat × (Nat → Int32)} {d : Nat} {Q : Option MV → MH → Prop} {u0 : Option MV} {u1 : Option MV} {x2 : Int32} {x3 : Int32} {h : MH}   (k1 : x3.toInt ≤ x2.toInt → Wb rod d B_Arrays_fill 20 [u0, u1, some (.inl x2), some (.inl x3)] [] h Q) (k2 : ¬ x3.toInt ≤ x2.toInt → Wb rod d B_Arrays_fill 10 [u0, u1, some (.inl x2), some (.inl x3)] [] h Q) : Wb rod d B_Arrays_fill 5 [u0, u1, some (.inl x2), some (.inl x3)] [] h Q := by
  refine Wb.br (fun _ _ => b_Arrays_fill_5) (fun c => ?_) (fun c => ?_)
  · have c : (decide (x3 ≤ x2)) = true := by first | exact c | (simp only [Option.getD_some] at c; exact c)
    (first | exact (k1 (c_let c)) | (simp only [Option.getD_some]; exact (k1 (c_let c))))
  · have c : (decide (x3 ≤ x2)) = false := by first | exact c | (simp only [Option.getD_some] at c; exact c)
    (first | exact (k2 (c_lef c)) | (simp only [Option.getD_some]; exact (k2 (c_lef c))))
theorem w_Arrays_fill_10 {rod : Nat → Nat × (Nat → Int32)} {d : Nat} {Q : Option MV → MH → Prop} {c0 : Nat} {nc0 : Nat} {x1 : Int32} {x2 : Int32} {u3 : Option MV} {h : MH} (Sc0 : h.2.2[c0]? = some (0, nc0)) (g0 : 0 ≤ x2.toInt ∧ x2.toInt < nc0) (k : Wb rod d B_Arrays_fill 14 [some (.inr (.inr (.inl (some c0)))), some (.inl x1), some (.inl x2), u3] [] (sI h c0 x2.toNatClampNeg x1) Q) : Wb rod d B_Arrays_fill 10 [some (.inr (.inr (.inl (some c0)))), some (.inl x1), some (.inl x2), u3] [] h Q := by
  refine Wb.go (fun r hr q => b_Arrays_fill_10 (gA_of Sc0 (inB_of g0.1 g0.2)) ?_) k
  (first | exact q | (simp only [Option.getD_some]; exact q))
theorem w_Arrays_fill_14 {rod : Nat → Nat × (Nat → Int32)} {d : Nat} {Q : Option MV → MH → Prop} {u0 : Option MV} {u1 : Option MV} {x2 : Int32} {u3 : Option MV} {h : MH}  (g0 : okl [u0, u1, some (.inl x2), u3] 2 = true) (k : Wb rod d B_Arrays_fill 5 [u0, u1, some (.inl (x2 + 1)), u3] [] h Q) : Wb rod d B_Arrays_fill 14 [u0, u1, some (.inl x2), u3] [] h Q := by
  refine Wb.go (fun r hr q => b_Arrays_fill_14 g0 ?_) k
  (first | exact q | (simp only [Option.getD_some]; exact q))
theorem w_Arrays_fill_20 {rod : Nat → Nat × (Nat → Int32)} {d : Nat} {Q : Option MV → MH → Prop} {u0 : Option MV} {u1 : Option MV} {u2 : Option MV} {u3 : Option MV} {h : MH}   (q : Q (none) h) : Wb rod d B_Arrays_fill 20 [u0, u1, u2, u3] [] h Q := by
  refine Wb.ret (b_Arrays_fill_20) ?_
  (first | exact q | (simp only [Option.getD_some]; exact q))
theorem n_Bargain_forget {rod : Nat → Nat × (Nat → Int32)} {d : Nat} {Q : Option MV → MH → Prop} {a0 : Nat} {h : MH} (k : Wb rod d B_Bargain_forget 0 [some (.inr (.inr (.inl (some a0))))] [] h Q) : Wc rod (d + 1) 25 [.inr (.inr (.inl (some a0)))] h Q := Wc.en (fun _ _ => e_Bargain_forget) k
theorem w_Bargain_forget_0 {rod : Nat → Nat × (Nat → Int32)} {d : Nat} {Q : Option MV → MH → Prop} {a0 : Nat} {h : MH} (A0 : BargA h.2 a0)  (k : Wb rod d B_Bargain_forget 5 [some (.inr (.inr (.inl (some a0))))] [] (sI h a0 0 (2 : Int32)) Q) : Wb rod d B_Bargain_forget 0 [some (.inr (.inr (.inl (some a0))))] [] h Q := by
  refine Wb.go (fun r hr q => b_Bargain_forget_0 (A0.o) ?_) k
  (first | exact q | (simp only [Option.getD_some]; exact q))
theorem w_Bargain_forget_5 {rod : Nat → Nat × (Nat → Int32)} {d : Nat} {Q : Option MV → MH → Prop} {a0 : Nat} {h : MH} (A0 : BargA h.2 a0)  {Q1 : Option MV → MH → Prop} (c : Wc rod d 24 [.inr (.inr (.inl (some (a0 + 1)))), .inl (0 : Int32)] h Q1) (k : ∀ r1 h2, Q1 r1 h2 → Wb rod d B_Bargain_forget 13 [some (.inr (.inr (.inl (some a0))))] (r1.toList ++ []) h2 Q) : Wb rod d B_Bargain_forget 5 [some (.inr (.inr (.inl (some a0))))] [] h Q := by
  refine Wb.call (fun _ _ _ _ => b_Bargain_forget_5 (A0.o)) (Q1 := Q1) ?_ ?_
  · (first | exact c | (simp only [Option.getD_some, A0.r1]; exact c))
  · (first | exact k | (simp only [Option.getD_some, A0.r1]; exact k))
theorem w_Bargain_forget_13 {rod : Nat → Nat × (Nat → Int32)} {d : Nat} {Q : Option MV → MH → Prop} {u0 : Option MV} {h : MH}   (q : Q (none) h) : Wb rod d B_Bargain_forget 13 [u0] [] h Q := by
  refine Wb.ret (b_Bargain_forget_13) ?_
  (first | exact q | (simp only [Option.getD_some]; exact q))
theorem n_Reader_goOn {rod : Nat → Nat × (Nat → Int32)} {d : Nat} {Q : Option MV → MH → Prop}  {h : MH} (k : Wb rod d B_Reader_goOn 0 [some (.inr (.inr (.inl (some 45)))), none] [] h Q) : Wc rod (d + 1) 26 [.inr (.inr (.inl (some 45)))] h Q := Wc.en (fun _ _ => e_Reader_goOn) k
theorem w_Reader_goOn_0 {rod : Nat → Nat × (Nat → Int32)} {d : Nat} {Q : Option MV → MH → Prop} {u1 : Option MV} {h : MH} (L : Lay h.2)  (k1 : (h.1 1 1).toInt ≤ (h.1 45 6).toInt → Wb rod d B_Reader_goOn 53 [some (.inr (.inr (.inl (some 45)))), u1] [] h Q) (k2 : ¬ (h.1 1 1).toInt ≤ (h.1 45 6).toInt → Wb rod d B_Reader_goOn 14 [some (.inr (.inr (.inl (some 45)))), u1] [] h Q) : Wb rod d B_Reader_goOn 0 [some (.inr (.inr (.inl (some 45)))), u1] [] h Q := by
  refine Wb.br (fun _ _ => b_Reader_goOn_0 (Lay.o45 L) (Lay.k45_0 L)) (fun c => ?_) (fun c => ?_)
  · have c : (decide ((h.1 1 1) ≤ (h.1 45 6))) = true := by first | exact c | (simp only [Option.getD_some, (Lay.r45_0 L)] at c; exact c)
    (first | exact (k1 (c_let c)) | (simp only [Option.getD_some, (Lay.r45_0 L)]; exact (k1 (c_let c))))
  · have c : (decide ((h.1 1 1) ≤ (h.1 45 6))) = false := by first | exact c | (simp only [Option.getD_some, (Lay.r45_0 L)] at c; exact c)
    (first | exact (k2 (c_lef c)) | (simp only [Option.getD_some, (Lay.r45_0 L)]; exact (k2 (c_lef c))))
theorem w_Reader_goOn_14 {rod : Nat → Nat × (Nat → Int32)} {d : Nat} {Q : Option MV → MH → Prop} {u1 : Option MV} {h : MH} (L : Lay h.2)  {Q1 : Option MV → MH → Prop} (c : Wc rod d 27 [.inr (.inr (.inl (some 45))), .inl (h.1 45 6)] h Q1) (k : ∀ r1 h2, Q1 r1 h2 → Wb rod d B_Reader_goOn 22 [some (.inr (.inr (.inl (some 45)))), u1] (r1.toList ++ []) h2 Q) : Wb rod d B_Reader_goOn 14 [some (.inr (.inr (.inl (some 45)))), u1] [] h Q := by
  refine Wb.call (fun _ _ _ _ => b_Reader_goOn_14 (Lay.o45 L)) (Q1 := Q1) ?_ ?_
  · (first | exact c | (simp only [Option.getD_some]; exact c))
  · (first | exact k | (simp only [Option.getD_some]; exact k))
theorem w_Reader_goOn_22 {rod : Nat → Nat × (Nat → Int32)} {d : Nat} {Q : Option MV → MH → Prop} {u0 : Option MV} {u1 : Option MV} {xs0 : Int32} {h : MH}   (k1 : xs0.toInt = 32 → Wb rod d B_Reader_goOn 40 [u0, u1] [] h Q) (k2 : ¬ xs0.toInt = 32 → Wb rod d B_Reader_goOn 27 [u0, u1] [] h Q) : Wb rod d B_Reader_goOn 22 [u0, u1] [.inl xs0] h Q := by
  refine Wb.br (fun _ _ => b_Reader_goOn_22) (fun c => ?_) (fun c => ?_)
  · have c : (decide (xs0 = (32 : Int32))) = true := by first | exact c | (simp only [Option.getD_some] at c; exact c)
    (first | exact (k1 (c_eqt c)) | (simp only [Option.getD_some]; exact (k1 (c_eqt c))))
  · have c : (decide (xs0 = (32 : Int32))) = false := by first | exact c | (simp only [Option.getD_some] at c; exact c)
    (first | exact (k2 (c_eqf c)) | (simp only [Option.getD_some]; exact (k2 (c_eqf c))))
theorem w_Reader_goOn_27 {rod : Nat → Nat × (Nat → Int32)} {d : Nat} {Q : Option MV → MH → Prop} {u1 : Option MV} {h : MH} (L : Lay h.2)  {Q1 : Option MV → MH → Prop} (c : Wc rod d 27 [.inr (.inr (.inl (some 45))), .inl (h.1 45 6)] h Q1) (k : ∀ r1 h2, Q1 r1 h2 → Wb rod d B_Reader_goOn 35 [some (.inr (.inr (.inl (some 45)))), u1] (r1.toList ++ []) h2 Q) : Wb rod d B_Reader_goOn 27 [some (.inr (.inr (.inl (some 45)))), u1] [] h Q := by
  refine Wb.call (fun _ _ _ _ => b_Reader_goOn_27 (Lay.o45 L)) (Q1 := Q1) ?_ ?_
  · (first | exact c | (simp only [Option.getD_some]; exact c))
  · (first | exact k | (simp only [Option.getD_some]; exact k))
theorem w_Reader_goOn_35 {rod : Nat → Nat × (Nat → Int32)} {d : Nat} {Q : Option MV → MH → Prop} {u0 : Option MV} {u1 : Option MV} {xs0 : Int32} {h : MH}   (k1 : ¬ xs0.toInt = 10 → Wb rod d B_Reader_goOn 53 [u0, u1] [] h Q) (k2 : xs0.toInt = 10 → Wb rod d B_Reader_goOn 40 [u0, u1] [] h Q) : Wb rod d B_Reader_goOn 35 [u0, u1] [.inl xs0] h Q := by
  refine Wb.br (fun _ _ => b_Reader_goOn_35) (fun c => ?_) (fun c => ?_)
  · have c : (!(decide (xs0 = (10 : Int32)))) = true := by first | exact c | (simp only [Option.getD_some] at c; exact c)
    (first | exact (k1 (c_net c)) | (simp only [Option.getD_some]; exact (k1 (c_net c))))
  · have c : (!(decide (xs0 = (10 : Int32)))) = false := by first | exact c | (simp only [Option.getD_some] at c; exact c)
    (first | exact (k2 (c_nef c)) | (simp only [Option.getD_some]; exact (k2 (c_nef c))))
theorem w_Reader_goOn_40 {rod : Nat → Nat × (Nat → Int32)} {d : Nat} {Q : Option MV → MH → Prop} {u1 : Option MV} {h : MH} (L : Lay h.2)  (k : Wb rod d B_Reader_goOn 50 [some (.inr (.inr (.inl (some 45)))), u1] [] (sI h 45 6 ((h.1 45 6) + (1 : Int32))) Q) : Wb rod d B_Reader_goOn 40 [some (.inr (.inr (.inl (some 45)))), u1] [] h Q := by
  refine Wb.go (fun r hr q => b_Reader_goOn_40 (Lay.o45 L) ?_) k
  (first | exact q | (simp only [Option.getD_some]; exact q))
theorem w_Reader_goOn_50 {rod : Nat → Nat × (Nat → Int32)} {d : Nat} {Q : Option MV → MH → Prop} {u0 : Option MV} {u1 : Option MV} {h : MH}   (k : Wb rod d B_Reader_goOn 0 [u0, u1] [] h Q) : Wb rod d B_Reader_goOn 50 [u0, u1] [] h Q := by
  refine Wb.go (fun r hr q => b_Reader_goOn_50 ?_) k
  (first | exact q | (simp only [Option.getD_some]; exact q))
theorem w_Reader_goOn_53 {rod : Nat → Nat × (Nat → Int32)} {d : Nat} {Q : Option MV → MH → Prop} {u1 : Option MV} {h : MH} (L : Lay h.2)  (k : Wb rod d B_Reader_goOn 61 [some (.inr (.inr (.inl (some 45)))), u1] [] (sI h 45 8 (h.1 45 6)) Q) : Wb rod d B_Reader_goOn 53 [some (.inr (.inr (.inl (some 45)))), u1] [] h Q := by
  refine Wb.go (fun r hr q => b_Reader_goOn_53 (Lay.o45 L) ?_) k
  (first | exact q | (simp only [Option.getD_some]; exact q))
theorem w_Reader_goOn_61 {rod : Nat → Nat × (Nat → Int32)} {d : Nat} {Q : Option MV → MH → Prop} {u1 : Option MV} {h : MH} (L : Lay h.2)  (k : Wb rod d B_Reader_goOn 66 [some (.inr (.inr (.inl (some 45)))), u1] [] (sI h 45 9 (0 : Int32)) Q) : Wb rod d B_Reader_goOn 61 [some (.inr (.inr (.inl (some 45)))), u1] [] h Q := by
  refine Wb.go (fun r hr q => b_Reader_goOn_61 (Lay.o45 L) ?_) k
  (first | exact q | (simp only [Option.getD_some]; exact q))
theorem w_Reader_goOn_66 {rod : Nat → Nat × (Nat → Int32)} {d : Nat} {Q : Option MV → MH → Prop} {u1 : Option MV} {h : MH} (L : Lay h.2)  {Q1 : Option MV → MH → Prop} (c : Wc rod d 27 [.inr (.inr (.inl (some 45))), .inl (h.1 45 6)] h Q1) (k : ∀ r1 h2, Q1 r1 h2 → Wb rod d B_Reader_goOn 74 [some (.inr (.inr (.inl (some 45)))), u1] (r1.toList ++ []) h2 Q) : Wb rod d B_Reader_goOn 66 [some (.inr (.inr (.inl (some 45)))), u1] [] h Q := by
  refine Wb.call (fun _ _ _ _ => b_Reader_goOn_66 (Lay.o45 L)) (Q1 := Q1) ?_ ?_
  · (first | exact c | (simp only [Option.getD_some]; exact c))
  · (first | exact k | (simp only [Option.getD_some]; exact k))
theorem w_Reader_goOn_74 {rod : Nat → Nat × (Nat → Int32)} {d : Nat} {Q : Option MV → MH → Prop} {u1 : Option MV} {xs0 : Int32} {h : MH} (L : Lay h.2)  (k1 : (h.1 45 6).toInt < (h.1 1 1).toInt → Wb rod d B_Reader_goOn 97 [some (.inr (.inr (.inl (some 45)))), some (.inl xs0)] [] h Q) (k2 : ¬ (h.1 45 6).toInt < (h.1 1 1).toInt → Wb rod d B_Reader_goOn 89 [some (.inr (.inr (.inl (some 45)))), some (.inl xs0)] [] h Q) : Wb rod d B_Reader_goOn 74 [some (.inr (.inr (.inl (some 45)))), u1] [.inl xs0] h Q := by
  refine Wb.br (fun _ _ => b_Reader_goOn_74 (Lay.o45 L) (Lay.k45_0 L)) (fun c => ?_) (fun c => ?_)
  · have c : (decide ((h.1 45 6) < (h.1 1 1))) = true := by first | exact c | (simp only [Option.getD_some, (Lay.r45_0 L)] at c; exact c)
    (first | exact (k1 (c_ltt c)) | (simp only [Option.getD_some, (Lay.r45_0 L)]; exact (k1 (c_ltt c))))
  · have c : (decide ((h.1 45 6) < (h.1 1 1))) = false := by first | exact c | (simp only [Option.getD_some, (Lay.r45_0 L)] at c; exact c)
    (first | exact (k2 (c_ltf c)) | (simp only [Option.getD_some, (Lay.r45_0 L)]; exact (k2 (c_ltf c))))
theorem w_Reader_goOn_89 {rod : Nat → Nat × (Nat → Int32)} {d : Nat} {Q : Option MV → MH → Prop} {u1 : Option MV} {h : MH} (L : Lay h.2)  (k : Wb rod d B_Reader_goOn 94 [some (.inr (.inr (.inl (some 45)))), u1] [] (sI h 45 7 (0 : Int32)) Q) : Wb rod d B_Reader_goOn 89 [some (.inr (.inr (.inl (some 45)))), u1] [] h Q := by
  refine Wb.go (fun r hr q => b_Reader_goOn_89 (Lay.o45 L) ?_) k
  (first | exact q | (simp only [Option.getD_some]; exact q))
theorem w_Reader_goOn_94 {rod : Nat → Nat × (Nat → Int32)} {d : Nat} {Q : Option MV → MH → Prop} {u0 : Option MV} {u1 : Option MV} {h : MH}   (k : Wb rod d B_Reader_goOn 271 [u0, u1] [] h Q) : Wb rod d B_Reader_goOn 94 [u0, u1] [] h Q := by
  refine Wb.go (fun r hr q => b_Reader_goOn_94 ?_) k
  (first | exact q | (simp only [Option.getD_some]; exact q))
theorem w_Reader_goOn_97 {rod : Nat → Nat × (Nat → Int32)} {d : Nat} {Q : Option MV → MH → Prop} {u0 : Option MV} {x1 : Int32} {h : MH}   {Q1 : Option MV → MH → Prop} (c : Wc rod d 28 [.inl x1] h Q1) (k : ∀ r1 h2, Q1 r1 h2 → Wb rod d B_Reader_goOn 101 [u0, some (.inl x1)] (r1.toList ++ []) h2 Q) : Wb rod d B_Reader_goOn 97 [u0, some (.inl x1)] [] h Q := by
  refine Wb.call (fun _ _ _ _ => b_Reader_goOn_97) (Q1 := Q1) ?_ ?_
  · (first | exact c | (simp only [Option.getD_some]; exact c))
  · (first | exact k | (simp only [Option.getD_some]; exact k))
theorem w_Reader_goOn_101 {rod : Nat → Nat × (Nat → Int32)} {d : Nat} {Q : Option MV → MH → Prop} {u0 : Option MV} {u1 : Option MV} {xs0 : Int32} {h : MH}   (k1 : xs0.toInt = 0 → Wb rod d B_Reader_goOn 150 [u0, u1] [] h Q) (k2 : ¬ xs0.toInt = 0 → Wb rod d B_Reader_goOn 104 [u0, u1] [] h Q) : Wb rod d B_Reader_goOn 101 [u0, u1] [.inl xs0] h Q := by
  refine Wb.br (fun _ _ => b_Reader_goOn_101) (fun c => ?_) (fun c => ?_)
  · have c : (decide (xs0 = 0)) = true := by first | exact c | (simp only [Option.getD_some] at c; exact c)
    (first | exact (k1 (c_eqt c)) | (simp only [Option.getD_some]; exact (k1 (c_eqt c))))
  · have c : (decide (xs0 = 0)) = false := by first | exact c | (simp only [Option.getD_some] at c; exact c)
    (first | exact (k2 (c_eqf c)) | (simp only [Option.getD_some]; exact (k2 (c_eqf c))))
theorem w_Reader_goOn_104 {rod : Nat → Nat × (Nat → Int32)} {d : Nat} {Q : Option MV → MH → Prop} {u1 : Option MV} {h : MH} (L : Lay h.2)  (k : Wb rod d B_Reader_goOn 109 [some (.inr (.inr (.inl (some 45)))), u1] [] (sI h 45 7 (1 : Int32)) Q) : Wb rod d B_Reader_goOn 104 [some (.inr (.inr (.inl (some 45)))), u1] [] h Q := by
  refine Wb.go (fun r hr q => b_Reader_goOn_104 (Lay.o45 L) ?_) k
  (first | exact q | (simp only [Option.getD_some]; exact q))
theorem w_Reader_goOn_109 {rod : Nat → Nat × (Nat → Int32)} {d : Nat} {Q : Option MV → MH → Prop} {u1 : Option MV} {h : MH} (L : Lay h.2)  (k1 : (h.1 1 1).toInt ≤ (h.1 45 6).toInt → Wb rod d B_Reader_goOn 271 [some (.inr (.inr (.inl (some 45)))), u1] [] h Q) (k2 : ¬ (h.1 1 1).toInt ≤ (h.1 45 6).toInt → Wb rod d B_Reader_goOn 123 [some (.inr (.inr (.inl (some 45)))), u1] [] h Q) : Wb rod d B_Reader_goOn 109 [some (.inr (.inr (.inl (some 45)))), u1] [] h Q := by
  refine Wb.br (fun _ _ => b_Reader_goOn_109 (Lay.o45 L) (Lay.k45_0 L)) (fun c => ?_) (fun c => ?_)
  · have c : (decide ((h.1 1 1) ≤ (h.1 45 6))) = true := by first | exact c | (simp only [Option.getD_some, (Lay.r45_0 L)] at c; exact c)
    (first | exact (k1 (c_let c)) | (simp only [Option.getD_some, (Lay.r45_0 L)]; exact (k1 (c_let c))))
  · have c : (decide ((h.1 1 1) ≤ (h.1 45 6))) = false := by first | exact c | (simp only [Option.getD_some, (Lay.r45_0 L)] at c; exact c)
    (first | exact (k2 (c_lef c)) | (simp only [Option.getD_some, (Lay.r45_0 L)]; exact (k2 (c_lef c))))
theorem w_Reader_goOn_123 {rod : Nat → Nat × (Nat → Int32)} {d : Nat} {Q : Option MV → MH → Prop} {u1 : Option MV} {h : MH} (L : Lay h.2)  {Q1 : Option MV → MH → Prop} (c : Wc rod d 27 [.inr (.inr (.inl (some 45))), .inl (h.1 45 6)] h Q1) (k : ∀ r1 h2, Q1 r1 h2 → Wb rod d B_Reader_goOn 131 [some (.inr (.inr (.inl (some 45)))), u1] (r1.toList ++ []) h2 Q) : Wb rod d B_Reader_goOn 123 [some (.inr (.inr (.inl (some 45)))), u1] [] h Q := by
  refine Wb.call (fun _ _ _ _ => b_Reader_goOn_123 (Lay.o45 L)) (Q1 := Q1) ?_ ?_
  · (first | exact c | (simp only [Option.getD_some]; exact c))
  · (first | exact k | (simp only [Option.getD_some]; exact k))
theorem w_Reader_goOn_131 {rod : Nat → Nat × (Nat → Int32)} {d : Nat} {Q : Option MV → MH → Prop} {u0 : Option MV} {u1 : Option MV} {xs0 : Int32} {h : MH}   {Q1 : Option MV → MH → Prop} (c : Wc rod d 28 [.inl xs0] h Q1) (k : ∀ r1 h2, Q1 r1 h2 → Wb rod d B_Reader_goOn 134 [u0, u1] (r1.toList ++ []) h2 Q) : Wb rod d B_Reader_goOn 131 [u0, u1] [.inl xs0] h Q := by
  refine Wb.call (fun _ _ _ _ => b_Reader_goOn_131) (Q1 := Q1) ?_ ?_
  · (first | exact c | (simp only [Option.getD_some]; exact c))
  · (first | exact k | (simp only [Option.getD_some]; exact k))
theorem w_Reader_goOn_134 {rod : Nat → Nat × (Nat → Int32)} {d : Nat} {Q : Option MV → MH → Prop} {u0 : Option MV} {u1 : Option MV} {xs0 : Int32} {h : MH}   (k1 : xs0.toInt = 0 → Wb rod d B_Reader_goOn 271 [u0, u1] [] h Q) (k2 : ¬ xs0.toInt = 0 → Wb rod d B_Reader_goOn 137 [u0, u1] [] h Q) : Wb rod d B_Reader_goOn 134 [u0, u1] [.inl xs0] h Q := by
  refine Wb.br (fun _ _ => b_Reader_goOn_134) (fun c => ?_) (fun c => ?_)
  · have c : (decide (xs0 = 0)) = true := by first | exact c | (simp only [Option.getD_some] at c; exact c)
    (first | exact (k1 (c_eqt c)) | (simp only [Option.getD_some]; exact (k1 (c_eqt c))))
  · have c : (decide (xs0 = 0)) = false := by first | exact c | (simp only [Option.getD_some] at c; exact c)
    (first | exact (k2 (c_eqf c)) | (simp only [Option.getD_some]; exact (k2 (c_eqf c))))
theorem w_Reader_goOn_137 {rod : Nat → Nat × (Nat → Int32)} {d : Nat} {Q : Option MV → MH → Prop} {u1 : Option MV} {h : MH} (L : Lay h.2)  (k : Wb rod d B_Reader_goOn 147 [some (.inr (.inr (.inl (some 45)))), u1] [] (sI h 45 6 ((h.1 45 6) + (1 : Int32))) Q) : Wb rod d B_Reader_goOn 137 [some (.inr (.inr (.inl (some 45)))), u1] [] h Q := by
  refine Wb.go (fun r hr q => b_Reader_goOn_137 (Lay.o45 L) ?_) k
  (first | exact q | (simp only [Option.getD_some]; exact q))
theorem w_Reader_goOn_147 {rod : Nat → Nat × (Nat → Int32)} {d : Nat} {Q : Option MV → MH → Prop} {u0 : Option MV} {u1 : Option MV} {h : MH}   (k : Wb rod d B_Reader_goOn 109 [u0, u1] [] h Q) : Wb rod d B_Reader_goOn 147 [u0, u1] [] h Q := by
  refine Wb.go (fun r hr q => b_Reader_goOn_147 ?_) k
  (first | exact q | (simp only [Option.getD_some]; exact q))
theorem w_Reader_goOn_150 {rod : Nat → Nat × (Nat → Int32)} {d : Nat} {Q : Option MV → MH → Prop} {u0 : Option MV} {x1 : Int32} {h : MH}   {Q1 : Option MV → MH → Prop} (c : Wc rod d 29 [.inl x1] h Q1) (k : ∀ r1 h2, Q1 r1 h2 → Wb rod d B_Reader_goOn 154 [u0, some (.inl x1)] (r1.toList ++ []) h2 Q) : Wb rod d B_Reader_goOn 150 [u0, some (.inl x1)] [] h Q := by
  refine Wb.call (fun _ _ _ _ => b_Reader_goOn_150) (Q1 := Q1) ?_ ?_
  · (first | exact c | (simp only [Option.getD_some]; exact c))
  · (first | exact k | (simp only [Option.getD_some]; exact k))
theorem w_Reader_goOn_154 {rod : Nat → Nat × (Nat → Int32)} {d : Nat} {Q : Option MV → MH → Prop} {u0 : Option MV} {u1 : Option MV} {xs0 : Int32} {h : MH}   (k1 : xs0.toInt = 0 → Wb rod d B_Reader_goOn 246 [u0, u1] [] h Q) (k2 : ¬ xs0.toInt = 0 → Wb rod d B_Reader_goOn 157 [u0, u1] [] h Q) : Wb rod d B_Reader_goOn 154 [u0, u1] [.inl xs0] h Q := by
  refine Wb.br (fun _ _ => b_Reader_goOn_154) (fun c => ?_) (fun c => ?_)
  · have c : (decide (xs0 = 0)) = true := by first | exact c | (simp only [Option.getD_some] at c; exact c)
    (first | exact (k1 (c_eqt c)) | (simp only [Option.getD_some]; exact (k1 (c_eqt c))))
  · have c : (decide (xs0 = 0)) = false := by first | exact c | (simp only [Option.getD_some] at c; exact c)
    (first | exact (k2 (c_eqf c)) | (simp only [Option.getD_some]; exact (k2 (c_eqf c))))
theorem w_Reader_goOn_157 {rod : Nat → Nat × (Nat → Int32)} {d : Nat} {Q : Option MV → MH → Prop} {u1 : Option MV} {h : MH} (L : Lay h.2)  (k1 : (h.1 1 1).toInt ≤ (h.1 45 6).toInt → Wb rod d B_Reader_goOn 221 [some (.inr (.inr (.inl (some 45)))), u1] [] h Q) (k2 : ¬ (h.1 1 1).toInt ≤ (h.1 45 6).toInt → Wb rod d B_Reader_goOn 171 [some (.inr (.inr (.inl (some 45)))), u1] [] h Q) : Wb rod d B_Reader_goOn 157 [some (.inr (.inr (.inl (some 45)))), u1] [] h Q := by
  refine Wb.br (fun _ _ => b_Reader_goOn_157 (Lay.o45 L) (Lay.k45_0 L)) (fun c => ?_) (fun c => ?_)
  · have c : (decide ((h.1 1 1) ≤ (h.1 45 6))) = true := by first | exact c | (simp only [Option.getD_some, (Lay.r45_0 L)] at c; exact c)
    (first | exact (k1 (c_let c)) | (simp only [Option.getD_some, (Lay.r45_0 L)]; exact (k1 (c_let c))))
  · have c : (decide ((h.1 1 1) ≤ (h.1 45 6))) = false := by first | exact c | (simp only [Option.getD_some, (Lay.r45_0 L)] at c; exact c)
    (first | exact (k2 (c_lef c)) | (simp only [Option.getD_some, (Lay.r45_0 L)]; exact (k2 (c_lef c))))
theorem w_Reader_goOn_171 {rod : Nat → Nat × (Nat → Int32)} {d : Nat} {Q : Option MV → MH → Prop} {u1 : Option MV} {h : MH} (L : Lay h.2)  {Q1 : Option MV → MH → Prop} (c : Wc rod d 27 [.inr (.inr (.inl (some 45))), .inl (h.1 45 6)] h Q1) (k : ∀ r1 h2, Q1 r1 h2 → Wb rod d B_Reader_goOn 179 [some (.inr (.inr (.inl (some 45)))), u1] (r1.toList ++ []) h2 Q) : Wb rod d B_Reader_goOn 171 [some (.inr (.inr (.inl (some 45)))), u1] [] h Q := by
  refine Wb.call (fun _ _ _ _ => b_Reader_goOn_171 (Lay.o45 L)) (Q1 := Q1) ?_ ?_
  · (first | exact c | (simp only [Option.getD_some]; exact c))
  · (first | exact k | (simp only [Option.getD_some]; exact k))
theorem w_Reader_goOn_179 {rod : Nat → Nat × (Nat → Int32)} {d : Nat} {Q : Option MV → MH → Prop} {u0 : Option MV} {u1 : Option MV} {xs0 : Int32} {h : MH}   {Q1 : Option MV → MH → Prop} (c : Wc rod d 29 [.inl xs0] h Q1) (k : ∀ r1 h2, Q1 r1 h2 → Wb rod d B_Reader_goOn 182 [u0, u1] (r1.toList ++ []) h2 Q) : Wb rod d B_Reader_goOn 179 [u0, u1] [.inl xs0] h Q := by
  refine Wb.call (fun _ _ _ _ => b_Reader_goOn_179) (Q1 := Q1) ?_ ?_
  · (first | exact c | (simp only [Option.getD_some]; exact c))
  · (first | exact k | (simp only [Option.getD_some]; exact k))
theorem w_Reader_goOn_182 {rod : Nat → Nat × (Nat → Int32)} {d : Nat} {Q : Option MV → MH → Prop} {u0 : Option MV} {u1 : Option MV} {xs0 : Int32} {h : MH}   (k1 : xs0.toInt = 0 → Wb rod d B_Reader_goOn 221 [u0, u1] [] h Q) (k2 : ¬ xs0.toInt = 0 → Wb rod d B_Reader_goOn 185 [u0, u1] [] h Q) : Wb rod d B_Reader_goOn 182 [u0, u1] [.inl xs0] h Q := by
  refine Wb.br (fun _ _ => b_Reader_goOn_182) (fun c => ?_) (fun c => ?_)
  · have c : (decide (xs0 = 0)) = true := by first | exact c | (simp only [Option.getD_some] at c; exact c)
    (first | exact (k1 (c_eqt c)) | (simp only [Option.getD_some]; exact (k1 (c_eqt c))))
  · have c : (decide (xs0 = 0)) = false := by first | exact c | (simp only [Option.getD_some] at c; exact c)
    (first | exact (k2 (c_eqf c)) | (simp only [Option.getD_some]; exact (k2 (c_eqf c))))
theorem w_Reader_goOn_185 {rod : Nat → Nat × (Nat → Int32)} {d : Nat} {Q : Option MV → MH → Prop} {u1 : Option MV} {h : MH} (L : Lay h.2)  {Q1 : Option MV → MH → Prop} (c : Wc rod d 27 [.inr (.inr (.inl (some 45))), .inl (h.1 45 6)] h Q1) (k : ∀ r1 h2, Q1 r1 h2 → Wb rod d B_Reader_goOn 201 [some (.inr (.inr (.inl (some 45)))), u1] (r1.toList ++ [.inl ((h.1 45 9) * (10 : Int32)), .inr (.inr (.inl (some 45)))]) h2 Q) : Wb rod d B_Reader_goOn 185 [some (.inr (.inr (.inl (some 45)))), u1] [] h Q := by
  refine Wb.call (fun _ _ _ _ => b_Reader_goOn_185 (Lay.o45 L)) (Q1 := Q1) ?_ ?_
  · (first | exact c | (simp only [Option.getD_some]; exact c))
  · (first | exact k | (simp only [Option.getD_some]; exact k))
theorem w_Reader_goOn_201 {rod : Nat → Nat × (Nat → Int32)} {d : Nat} {Q : Option MV → MH → Prop} {u0 : Option MV} {u1 : Option MV} {xs1 : Int32} {xs2 : Int32} {h : MH} (L : Lay h.2)  (k : Wb rod d B_Reader_goOn 208 [u0, u1] [] (sI h 45 9 ((xs1 + xs2) - (48 : Int32))) Q) : Wb rod d B_Reader_goOn 201 [u0, u1] [.inl xs2, .inl xs1, .inr (.inr (.inl (some 45)))] h Q := by
  refine Wb.go (fun r hr q => b_Reader_goOn_201 (Lay.o45 L) ?_) k
  (first | exact q | (simp only [Option.getD_some]; exact q))
theorem w_Reader_goOn_208 {rod : Nat → Nat × (Nat → Int32)} {d : Nat} {Q : Option MV → MH → Prop} {u1 : Option MV} {h : MH} (L : Lay h.2)  (k : Wb rod d B_Reader_goOn 218 [some (.inr (.inr (.inl (some 45)))), u1] [] (sI h 45 6 ((h.1 45 6) + (1 : Int32))) Q) : Wb rod d B_Reader_goOn 208 [some (.inr (.inr (.inl (some 45)))), u1] [] h Q := by
  refine Wb.go (fun r hr q => b_Reader_goOn_208 (Lay.o45 L) ?_) k
  (first | exact q | (simp only [Option.getD_some]; exact q))
theorem w_Reader_goOn_218 {rod : Nat → Nat × (Nat → Int32)} {d : Nat} {Q : Option MV → MH → Prop} {u0 : Option MV} {u1 : Option MV} {h : MH}   (k : Wb rod d B_Reader_goOn 157 [u0, u1] [] h Q) : Wb rod d B_Reader_goOn 218 [u0, u1] [] h Q := by
  refine Wb.go (fun r hr q => b_Reader_goOn_218 ?_) k
  (first | exact q | (simp only [Option.getD_some]; exact q))
theorem w_Reader_goOn_221 {rod : Nat → Nat × (Nat → Int32)} {d : Nat} {Q : Option MV → MH → Prop} {u1 : Option MV} {h : MH} (L : Lay h.2)  (k1 : 2 < ((h.1 45 6) - (h.1 45 8)).toInt → Wb rod d B_Reader_goOn 239 [some (.inr (.inr (.inl (some 45)))), u1] [.inr (.inr (.inl (some 45)))] h Q) (k2 : ¬ 2 < ((h.1 45 6) - (h.1 45 8)).toInt → Wb rod d B_Reader_goOn 235 [some (.inr (.inr (.inl (some 45)))), u1] [.inr (.inr (.inl (some 45)))] h Q) : Wb rod d B_Reader_goOn 221 [some (.inr (.inr (.inl (some 45)))), u1] [] h Q := by
  refine Wb.br (fun _ _ => b_Reader_goOn_221 (Lay.o45 L)) (fun c => ?_) (fun c => ?_)
  · have c : (decide ((2 : Int32) < ((h.1 45 6) - (h.1 45 8)))) = true := by first | exact c | (simp only [Option.getD_some] at c; exact c)
    (first | exact (k1 (c_ltt c)) | (simp only [Option.getD_some]; exact (k1 (c_ltt c))))
  · have c : (decide ((2 : Int32) < ((h.1 45 6) - (h.1 45 8)))) = false := by first | exact c | (simp only [Option.getD_some] at c; exact c)
    (first | exact (k2 (c_ltf c)) | (simp only [Option.getD_some]; exact (k2 (c_ltf c))))
theorem w_Reader_goOn_235 {rod : Nat → Nat × (Nat → Int32)} {d : Nat} {Q : Option MV → MH → Prop} {u0 : Option MV} {u1 : Option MV} {h : MH}   (k : Wb rod d B_Reader_goOn 240 [u0, u1] [.inl (2 : Int32), .inr (.inr (.inl (some 45)))] h Q) : Wb rod d B_Reader_goOn 235 [u0, u1] [.inr (.inr (.inl (some 45)))] h Q := by
  refine Wb.go (fun r hr q => b_Reader_goOn_235 ?_) k
  (first | exact q | (simp only [Option.getD_some]; exact q))
theorem w_Reader_goOn_239 {rod : Nat → Nat × (Nat → Int32)} {d : Nat} {Q : Option MV → MH → Prop} {u0 : Option MV} {u1 : Option MV} {h : MH}   (k : Wb rod d B_Reader_goOn 240 [u0, u1] [.inl (4 : Int32), .inr (.inr (.inl (some 45)))] h Q) : Wb rod d B_Reader_goOn 239 [u0, u1] [.inr (.inr (.inl (some 45)))] h Q := by
  refine Wb.go (fun r hr q => b_Reader_goOn_239 ?_) k
  (first | exact q | (simp only [Option.getD_some]; exact q))
theorem w_Reader_goOn_240 {rod : Nat → Nat × (Nat → Int32)} {d : Nat} {Q : Option MV → MH → Prop} {u0 : Option MV} {u1 : Option MV} {xs1 : Int32} {h : MH} (L : Lay h.2)  (k : Wb rod d B_Reader_goOn 243 [u0, u1] [] (sI h 45 7 xs1) Q) : Wb rod d B_Reader_goOn 240 [u0, u1] [.inl xs1, .inr (.inr (.inl (some 45)))] h Q := by
  refine Wb.go (fun r hr q => b_Reader_goOn_240 (Lay.o45 L) ?_) k
  (first | exact q | (simp only [Option.getD_some]; exact q))
theorem w_Reader_goOn_243 {rod : Nat → Nat × (Nat → Int32)} {d : Nat} {Q : Option MV → MH → Prop} {u0 : Option MV} {u1 : Option MV} {h : MH}   (k : Wb rod d B_Reader_goOn 271 [u0, u1] [] h Q) : Wb rod d B_Reader_goOn 243 [u0, u1] [] h Q := by
  refine Wb.go (fun r hr q => b_Reader_goOn_243 ?_) k
  (first | exact q | (simp only [Option.getD_some]; exact q))
theorem w_Reader_goOn_246 {rod : Nat → Nat × (Nat → Int32)} {d : Nat} {Q : Option MV → MH → Prop} {x1 : Int32} {h : MH}   (k1 : ¬ x1.toInt = 59 → Wb rod d B_Reader_goOn 257 [some (.inr (.inr (.inl (some 45)))), some (.inl x1)] [.inr (.inr (.inl (some 45)))] h Q) (k2 : x1.toInt = 59 → Wb rod d B_Reader_goOn 253 [some (.inr (.inr (.inl (some 45)))), some (.inl x1)] [.inr (.inr (.inl (some 45)))] h Q) : Wb rod d B_Reader_goOn 246 [some (.inr (.inr (.inl (some 45)))), some (.inl x1)] [] h Q := by
  refine Wb.br (fun _ _ => b_Reader_goOn_246) (fun c => ?_) (fun c => ?_)
  · have c : (!(decide (x1 = (59 : Int32)))) = true := by first | exact c | (simp only [Option.getD_some] at c; exact c)
    (first | exact (k1 (c_net c)) | (simp only [Option.getD_some]; exact (k1 (c_net c))))
  · have c : (!(decide (x1 = (59 : Int32)))) = false := by first | exact c | (simp only [Option.getD_some] at c; exact c)
    (first | exact (k2 (c_nef c)) | (simp only [Option.getD_some]; exact (k2 (c_nef c))))
theorem w_Reader_goOn_253 {rod : Nat → Nat × (Nat → Int32)} {d : Nat} {Q : Option MV → MH → Prop} {u0 : Option MV} {u1 : Option MV} {h : MH}   (k : Wb rod d B_Reader_goOn 258 [u0, u1] [.inl (3 : Int32), .inr (.inr (.inl (some 45)))] h Q) : Wb rod d B_Reader_goOn 253 [u0, u1] [.inr (.inr (.inl (some 45)))] h Q := by
  refine Wb.go (fun r hr q => b_Reader_goOn_253 ?_) k
  (first | exact q | (simp only [Option.getD_some]; exact q))
theorem w_Reader_goOn_257 {rod : Nat → Nat × (Nat → Int32)} {d : Nat} {Q : Option MV → MH → Prop} {u0 : Option MV} {u1 : Option MV} {h : MH}   (k : Wb rod d B_Reader_goOn 258 [u0, u1] [.inl (4 : Int32), .inr (.inr (.inl (some 45)))] h Q) : Wb rod d B_Reader_goOn 257 [u0, u1] [.inr (.inr (.inl (some 45)))] h Q := by
  refine Wb.go (fun r hr q => b_Reader_goOn_257 ?_) k
  (first | exact q | (simp only [Option.getD_some]; exact q))
theorem w_Reader_goOn_258 {rod : Nat → Nat × (Nat → Int32)} {d : Nat} {Q : Option MV → MH → Prop} {u0 : Option MV} {u1 : Option MV} {xs1 : Int32} {h : MH} (L : Lay h.2)  (k : Wb rod d B_Reader_goOn 261 [u0, u1] [] (sI h 45 7 xs1) Q) : Wb rod d B_Reader_goOn 258 [u0, u1] [.inl xs1, .inr (.inr (.inl (some 45)))] h Q := by
  refine Wb.go (fun r hr q => b_Reader_goOn_258 (Lay.o45 L) ?_) k
  (first | exact q | (simp only [Option.getD_some]; exact q))
theorem w_Reader_goOn_261 {rod : Nat → Nat × (Nat → Int32)} {d : Nat} {Q : Option MV → MH → Prop} {u1 : Option MV} {h : MH} (L : Lay h.2)  (k : Wb rod d B_Reader_goOn 271 [some (.inr (.inr (.inl (some 45)))), u1] [] (sI h 45 6 ((h.1 45 6) + (1 : Int32))) Q) : Wb rod d B_Reader_goOn 261 [some (.inr (.inr (.inl (some 45)))), u1] [] h Q := by
  refine Wb.go (fun r hr q => b_Reader_goOn_261 (Lay.o45 L) ?_) k
  (first | exact q | (simp only [Option.getD_some]; exact q))
theorem w_Reader_goOn_271 {rod : Nat → Nat × (Nat → Int32)} {d : Nat} {Q : Option MV → MH → Prop} {u0 : Option MV} {u1 : Option MV} {h : MH}   (q : Q (none) h) : Wb rod d B_Reader_goOn 271 [u0, u1] [] h Q := by
  refine Wb.ret (b_Reader_goOn_271) ?_
  (first | exact q | (simp only [Option.getD_some]; exact q))
theorem n_Reader_byteAt {rod : Nat → Nat × (Nat → Int32)} {d : Nat} {Q : Option MV → MH → Prop} {x1 : Int32} {h : MH} (k : Wb rod d B_Reader_byteAt 0 [some (.inr (.inr (.inl (some 45)))), some (.inl x1)] [] h Q) : Wc rod (d + 1) 27 [.inr (.inr (.inl (some 45))), .inl x1] h Q := Wc.en (fun _ _ => e_Reader_byteAt) k
theorem w_Reader_byteAt_0 {rod : Nat → Nat × (Nat → Int32)} {d : Nat} {Q : Option MV → MH → Prop} {u0 : Option MV} {x1 : Int32} {h : MH}   (k1 : x1.toInt < 0 → Wb rod d B_Reader_byteAt 34 [u0, some (.inl x1)] [] h Q) (k2 : ¬ x1.toInt < 0 → Wb rod d B_Reader_byteAt 4 [u0, some (.inl x1)] [] h Q) : Wb rod d B_Reader_byteAt 0 [u0, some (.inl x1)] [] h Q := by
  refine Wb.br (fun _ _ => b_Reader_byteAt_0) (fun c => ?_) (fun c => ?_)
  · have c : (decide (x1 < 0)) = true := by first | exact c | (simp only [Option.getD_some] at c; exact c)
    (first | exact (k1 (c_ltt c)) | (simp only [Option.getD_some]; exact (k1 (c_ltt c))))
  · have c : (decide (x1 < 0)) = false := by first | exact c | (simp only [Option.getD_some] at c; exact c)
    (first | exact (k2 (c_ltf c)) | (simp only [Option.getD_some]; exact (k2 (c_ltf c))))
theorem w_Reader_byteAt_4 {rod : Nat → Nat × (Nat → Int32)} {d : Nat} {Q : Option MV → MH → Prop} {x1 : Int32} {h : MH} (L : Lay h.2)  (k1 : (h.1 1 1).toInt ≤ x1.toInt → Wb rod d B_Reader_byteAt 34 [some (.inr (.inr (.inl (some 45)))), some (.inl x1)] [] h Q) (k2 : ¬ (h.1 1 1).toInt ≤ x1.toInt → Wb rod d B_Reader_byteAt 15 [some (.inr (.inr (.inl (some 45)))), some (.inl x1)] [] h Q) : Wb rod d B_Reader_byteAt 4 [some (.inr (.inr (.inl (some 45)))), some (.inl x1)] [] h Q := by
  refine Wb.br (fun _ _ => b_Reader_byteAt_4 (Lay.o45 L) (Lay.k45_0 L)) (fun c => ?_) (fun c => ?_)
  · have c : (decide ((h.1 1 1) ≤ x1)) = true := by first | exact c | (simp only [Option.getD_some, (Lay.r45_0 L)] at c; exact c)
    (first | exact (k1 (c_let c)) | (simp only [Option.getD_some, (Lay.r45_0 L)]; exact (k1 (c_let c))))
  · have c : (decide ((h.1 1 1) ≤ x1)) = false := by first | exact c | (simp only [Option.getD_some, (Lay.r45_0 L)] at c; exact c)
    (first | exact (k2 (c_lef c)) | (simp only [Option.getD_some, (Lay.r45_0 L)]; exact (k2 (c_lef c))))
theorem w_Reader_byteAt_15 {rod : Nat → Nat × (Nat → Int32)} {d : Nat} {Q : Option MV → MH → Prop} {u0 : Option MV} {x1 : Int32} {h : MH}   (k1 : 600 ≤ x1.toInt → Wb rod d B_Reader_byteAt 34 [u0, some (.inl x1)] [] h Q) (k2 : ¬ 600 ≤ x1.toInt → Wb rod d B_Reader_byteAt 22 [u0, some (.inl x1)] [] h Q) : Wb rod d B_Reader_byteAt 15 [u0, some (.inl x1)] [] h Q := by
  refine Wb.br (fun _ _ => b_Reader_byteAt_15) (fun c => ?_) (fun c => ?_)
  · have c : (decide ((600 : Int32) ≤ x1)) = true := by first | exact c | (simp only [Option.getD_some] at c; exact c)
    (first | exact (k1 (c_let c)) | (simp only [Option.getD_some]; exact (k1 (c_let c))))
  · have c : (decide ((600 : Int32) ≤ x1)) = false := by first | exact c | (simp only [Option.getD_some] at c; exact c)
    (first | exact (k2 (c_lef c)) | (simp only [Option.getD_some]; exact (k2 (c_lef c))))
theorem w_Reader_byteAt_22 {rod : Nat → Nat × (Nat → Int32)} {d : Nat} {Q : Option MV → MH → Prop} {x1 : Int32} {h : MH} (L : Lay h.2) (g0 : 0 ≤ x1.toInt ∧ x1.toInt < 600) (k : Wb rod d B_Reader_byteAt 35 [some (.inr (.inr (.inl (some 45)))), some (.inl x1)] [.inl (mdef (h.1 2 x1.toNatClampNeg) 1)] h Q) : Wb rod d B_Reader_byteAt 22 [some (.inr (.inr (.inl (some 45)))), some (.inl x1)] [] h Q := by
  refine Wb.go (fun r hr q => b_Reader_byteAt_22 (Lay.o45 L) (Lay.k45_0 L) (by simp only [Option.getD_some, (Lay.r45_0 L), (Lay.r1_0 L)]; exact gA_of (L.1 2 _ rfl) (inB_of (And.left g0) (by have q := And.right g0; omega))) ?_) k
  (first | exact q | (simp only [Option.getD_some, (Lay.r45_0 L), (Lay.r1_0 L)]; exact q))
theorem w_Reader_byteAt_34 {rod : Nat → Nat × (Nat → Int32)} {d : Nat} {Q : Option MV → MH → Prop} {u0 : Option MV} {u1 : Option MV} {h : MH}   (k : Wb rod d B_Reader_byteAt 35 [u0, u1] [.inl (0 : Int32)] h Q) : Wb rod d B_Reader_byteAt 34 [u0, u1] [] h Q := by
  refine Wb.go (fun r hr q => b_Reader_byteAt_34 ?_) k
  (first | exact q | (simp only [Option.getD_some]; exact q))
theorem w_Reader_byteAt_35 {rod : Nat → Nat × (Nat → Int32)} {d : Nat} {Q : Option MV → MH → Prop} {u0 : Option MV} {u1 : Option MV} {xs0 : Int32} {h : MH}   (q : Q (some (.inl xs0)) h) : Wb rod d B_Reader_byteAt 35 [u0, u1] [.inl xs0] h Q := by
  refine Wb.ret (b_Reader_byteAt_35) ?_
  (first | exact q | (simp only [Option.getD_some]; exact q))
theorem n_Reader_isLetter {rod : Nat → Nat × (Nat → Int32)} {d : Nat} {Q : Option MV → MH → Prop} {x0 : Int32} {h : MH} (k : Wb rod d B_Reader_isLetter 0 [some (.inl x0)] [] h Q) : Wc rod (d + 1) 28 [.inl x0] h Q := Wc.en (fun _ _ => e_Reader_isLetter) k
theorem w_Reader_isLetter_0 {rod : Nat → Nat × (Nat → Int32)} {d : Nat} {Q : Option MV → MH → Prop} {x0 : Int32} {h : MH}   (k1 : x0.toInt < 97 → Wb rod d B_Reader_isLetter 16 [some (.inl x0)] [] h Q) (k2 : ¬ x0.toInt < 97 → Wb rod d B_Reader_isLetter 6 [some (.inl x0)] [] h Q) : Wb rod d B_Reader_isLetter 0 [some (.inl x0)] [] h Q := by
  refine Wb.br (fun _ _ => b_Reader_isLetter_0) (fun c => ?_) (fun c => ?_)
  · have c : (decide (x0 < (97 : Int32))) = true := by first | exact c | (simp only [Option.getD_some] at c; exact c)
    (first | exact (k1 (c_ltt c)) | (simp only [Option.getD_some]; exact (k1 (c_ltt c))))
  · have c : (decide (x0 < (97 : Int32))) = false := by first | exact c | (simp only [Option.getD_some] at c; exact c)
    (first | exact (k2 (c_ltf c)) | (simp only [Option.getD_some]; exact (k2 (c_ltf c))))
theorem w_Reader_isLetter_6 {rod : Nat → Nat × (Nat → Int32)} {d : Nat} {Q : Option MV → MH → Prop} {x0 : Int32} {h : MH}   (k1 : 122 < x0.toInt → Wb rod d B_Reader_isLetter 16 [some (.inl x0)] [] h Q) (k2 : ¬ 122 < x0.toInt → Wb rod d B_Reader_isLetter 12 [some (.inl x0)] [] h Q) : Wb rod d B_Reader_isLetter 6 [some (.inl x0)] [] h Q := by
  refine Wb.br (fun _ _ => b_Reader_isLetter_6) (fun c => ?_) (fun c => ?_)
  · have c : (decide ((122 : Int32) < x0)) = true := by first | exact c | (simp only [Option.getD_some] at c; exact c)
    (first | exact (k1 (c_ltt c)) | (simp only [Option.getD_some]; exact (k1 (c_ltt c))))
  · have c : (decide ((122 : Int32) < x0)) = false := by first | exact c | (simp only [Option.getD_some] at c; exact c)
    (first | exact (k2 (c_ltf c)) | (simp only [Option.getD_some]; exact (k2 (c_ltf c))))
theorem w_Reader_isLetter_12 {rod : Nat → Nat × (Nat → Int32)} {d : Nat} {Q : Option MV → MH → Prop} {u0 : Option MV} {h : MH}   (k : Wb rod d B_Reader_isLetter 17 [u0] [.inl (1 : Int32)] h Q) : Wb rod d B_Reader_isLetter 12 [u0] [] h Q := by
  refine Wb.go (fun r hr q => b_Reader_isLetter_12 ?_) k
  (first | exact q | (simp only [Option.getD_some]; exact q))
theorem w_Reader_isLetter_16 {rod : Nat → Nat × (Nat → Int32)} {d : Nat} {Q : Option MV → MH → Prop} {u0 : Option MV} {h : MH}   (k : Wb rod d B_Reader_isLetter 17 [u0] [.inl (0 : Int32)] h Q) : Wb rod d B_Reader_isLetter 16 [u0] [] h Q := by
  refine Wb.go (fun r hr q => b_Reader_isLetter_16 ?_) k
  (first | exact q | (simp only [Option.getD_some]; exact q))
theorem w_Reader_isLetter_17 {rod : Nat → Nat × (Nat → Int32)} {d : Nat} {Q : Option MV → MH → Prop} {u0 : Option MV} {xs0 : Int32} {h : MH}  (g0 : xs0 = 0 ∨ xs0 = 1) (q : Q (some (.inl xs0)) h) : Wb rod d B_Reader_isLetter 17 [u0] [.inl xs0] h Q := by
  refine Wb.ret (b_Reader_isLetter_17 (d01 g0)) ?_
  (first | exact q | (simp only [Option.getD_some]; exact q))
theorem n_Reader_isDigit {rod : Nat → Nat × (Nat → Int32)} {d : Nat} {Q : Option MV → MH → Prop} {x0 : Int32} {h : MH} (k : Wb rod d B_Reader_isDigit 0 [some (.inl x0)] [] h Q) : Wc rod (d + 1) 29 [.inl x0] h Q := Wc.en (fun _ _ => e_Reader_isDigit) k
theorem w_Reader_isDigit_0 {rod : Nat → Nat × (Nat → Int32)} {d : Nat} {Q : Option MV → MH → Prop} {x0 : Int32} {h : MH}   (k1 : x0.toInt < 48 → Wb rod d B_Reader_isDigit 16 [some (.inl x0)] [] h Q) (k2 : ¬ x0.toInt < 48 → Wb rod d B_Reader_isDigit 6 [some (.inl x0)] [] h Q) : Wb rod d B_Reader_isDigit 0 [some (.inl x0)] [] h Q := by
  refine Wb.br (fun _ _ => b_Reader_isDigit_0) (fun c => ?_) (fun c => ?_)
  · have c : (decide (x0 < (48 : Int32))) = true := by first | exact c | (simp only [Option.getD_some] at c; exact c)
    (first | exact (k1 (c_ltt c)) | (simp only [Option.getD_some]; exact (k1 (c_ltt c))))
  · have c : (decide (x0 < (48 : Int32))) = false := by first | exact c | (simp only [Option.getD_some] at c; exact c)
    (first | exact (k2 (c_ltf c)) | (simp only [Option.getD_some]; exact (k2 (c_ltf c))))
theorem w_Reader_isDigit_6 {rod : Nat → Nat × (Nat → Int32)} {d : Nat} {Q : Option MV → MH → Prop} {x0 : Int32} {h : MH}   (k1 : 57 < x0.toInt → Wb rod d B_Reader_isDigit 16 [some (.inl x0)] [] h Q) (k2 : ¬ 57 < x0.toInt → Wb rod d B_Reader_isDigit 12 [some (.inl x0)] [] h Q) : Wb rod d B_Reader_isDigit 6 [some (.inl x0)] [] h Q := by
  refine Wb.br (fun _ _ => b_Reader_isDigit_6) (fun c => ?_) (fun c => ?_)
  · have c : (decide ((57 : Int32) < x0)) = true := by first | exact c | (simp only [Option.getD_some] at c; exact c)
    (first | exact (k1 (c_ltt c)) | (simp only [Option.getD_some]; exact (k1 (c_ltt c))))
  · have c : (decide ((57 : Int32) < x0)) = false := by first | exact c | (simp only [Option.getD_some] at c; exact c)
    (first | exact (k2 (c_ltf c)) | (simp only [Option.getD_some]; exact (k2 (c_ltf c))))
theorem w_Reader_isDigit_12 {rod : Nat → Nat × (Nat → Int32)} {d : Nat} {Q : Option MV → MH → Prop} {u0 : Option MV} {h : MH}   (k : Wb rod d B_Reader_isDigit 17 [u0] [.inl (1 : Int32)] h Q) : Wb rod d B_Reader_isDigit 12 [u0] [] h Q := by
  refine Wb.go (fun r hr q => b_Reader_isDigit_12 ?_) k
  (first | exact q | (simp only [Option.getD_some]; exact q))
theorem w_Reader_isDigit_16 {rod : Nat → Nat × (Nat → Int32)} {d : Nat} {Q : Option MV → MH → Prop} {u0 : Option MV} {h : MH}   (k : Wb rod d B_Reader_isDigit 17 [u0] [.inl (0 : Int32)] h Q) : Wb rod d B_Reader_isDigit 16 [u0] [] h Q := by
  refine Wb.go (fun r hr q => b_Reader_isDigit_16 ?_) k
  (first | exact q | (simp only [Option.getD_some]; exact q))
theorem w_Reader_isDigit_17 {rod : Nat → Nat × (Nat → Int32)} {d : Nat} {Q : Option MV → MH → Prop} {u0 : Option MV} {xs0 : Int32} {h : MH}  (g0 : xs0 = 0 ∨ xs0 = 1) (q : Q (some (.inl xs0)) h) : Wb rod d B_Reader_isDigit 17 [u0] [.inl xs0] h Q := by
  refine Wb.ret (b_Reader_isDigit_17 (d01 g0)) ?_
  (first | exact q | (simp only [Option.getD_some]; exact q))
theorem n_Reader_readLine {rod : Nat → Nat × (Nat → Int32)} {d : Nat} {Q : Option MV → MH → Prop} {x1 : Int32} {h : MH} (k : Wb rod d B_Reader_readLine 0 [some (.inr (.inr (.inl (some 45)))), some (.inl x1), none, none] [] h Q) : Wc rod (d + 1) 30 [.inr (.inr (.inl (some 45))), .inl x1] h Q := Wc.en (fun _ _ => e_Reader_readLine) k
theorem w_Reader_readLine_0 {rod : Nat → Nat × (Nat → Int32)} {d : Nat} {Q : Option MV → MH → Prop} {u1 : Option MV} {u2 : Option MV} {u3 : Option MV} {h : MH} (L : Lay h.2)  (k1 : ¬ (h.1 45 7).toInt = 1 → Wb rod d B_Reader_readLine 16 [some (.inr (.inr (.inl (some 45)))), u1, u2, u3] [] h Q) (k2 : (h.1 45 7).toInt = 1 → Wb rod d B_Reader_readLine 8 [some (.inr (.inr (.inl (some 45)))), u1, u2, u3] [] h Q) : Wb rod d B_Reader_readLine 0 [some (.inr (.inr (.inl (some 45)))), u1, u2, u3] [] h Q := by
  refine Wb.br (fun _ _ => b_Reader_readLine_0 (Lay.o45 L)) (fun c => ?_) (fun c => ?_)
  · have c : (!(decide ((h.1 45 7) = (1 : Int32)))) = true := by first | exact c | (simp only [Option.getD_some] at c; exact c)
    (first | exact (k1 (c_net c)) | (simp only [Option.getD_some]; exact (k1 (c_net c))))
  · have c : (!(decide ((h.1 45 7) = (1 : Int32)))) = false := by first | exact c | (simp only [Option.getD_some] at c; exact c)
    (first | exact (k2 (c_nef c)) | (simp only [Option.getD_some]; exact (k2 (c_nef c))))
theorem w_Reader_readLine_8 {rod : Nat → Nat × (Nat → Int32)} {d : Nat} {Q : Option MV → MH → Prop} {x1 : Int32} {u2 : Option MV} {u3 : Option MV} {h : MH} (L : Lay h.2)  {Q1 : Option MV → MH → Prop} (c : Wc rod d 31 [.inr (.inr (.inl (some 45))), .inl x1] h Q1) (k : ∀ r1 h2, Q1 r1 h2 → Wb rod d B_Reader_readLine 13 [some (.inr (.inr (.inl (some 45)))), some (.inl x1), u2, u3] (r1.toList ++ []) h2 Q) : Wb rod d B_Reader_readLine 8 [some (.inr (.inr (.inl (some 45)))), some (.inl x1), u2, u3] [] h Q := by
  refine Wb.call (fun _ _ _ _ => b_Reader_readLine_8 (Lay.o45 L)) (Q1 := Q1) ?_ ?_
  · (first | exact c | (simp only [Option.getD_some]; exact c))
  · (first | exact k | (simp only [Option.getD_some]; exact k))
theorem w_Reader_readLine_13 {rod : Nat → Nat × (Nat → Int32)} {d : Nat} {Q : Option MV → MH → Prop} {u0 : Option MV} {u1 : Option MV} {u2 : Option MV} {u3 : Option MV} {xs0 : Int32} {h : MH}   (k : Wb rod d B_Reader_readLine 17 [u0, u1, u2, u3] [.inl xs0] h Q) : Wb rod d B_Reader_readLine 13 [u0, u1, u2, u3] [.inl xs0] h Q := by
  refine Wb.go (fun r hr q => b_Reader_readLine_13 ?_) k
  (first | exact q | (simp only [Option.getD_some]; exact q))
theorem w_Reader_readLine_16 {rod : Nat → Nat × (Nat → Int32)} {d : Nat} {Q : Option MV → MH → Prop} {u0 : Option MV} {u1 : Option MV} {u2 : Option MV} {u3 : Option MV} {h : MH}   (k : Wb rod d B_Reader_readLine 17 [u0, u1, u2, u3] [.inl (-1 : Int32)] h Q) : Wb rod d B_Reader_readLine 16 [u0, u1, u2, u3] [] h Q := by
  refine Wb.go (fun r hr q => b_Reader_readLine_16 ?_) k
  (first | exact q | (simp only [Option.getD_some]; exact q))
theorem w_Reader_readLine_17 {rod : Nat → Nat × (Nat → Int32)} {d : Nat} {Q : Option MV → MH → Prop} {u0 : Option MV} {u1 : Option MV} {u2 : Option MV} {u3 : Option MV} {xs0 : Int32} {h : MH}  (g0 : okl [u0, u1, u2, u3] 2 = true) (k1 : xs0.toInt < 0 → Wb rod d B_Reader_readLine 30 [u0, u1, some (.inl xs0), u3] [] h Q) (k2 : ¬ xs0.toInt < 0 → Wb rod d B_Reader_readLine 22 [u0, u1, some (.inl xs0), u3] [] h Q) : Wb rod d B_Reader_readLine 17 [u0, u1, u2, u3] [.inl xs0] h Q := by
  refine Wb.br (fun _ _ => b_Reader_readLine_17 g0) (fun c => ?_) (fun c => ?_)
  · have c : (decide (xs0 < 0)) = true := by first | exact c | (simp only [Option.getD_some] at c; exact c)
    (first | exact (k1 (c_ltt c)) | (simp only [Option.getD_some]; exact (k1 (c_ltt c))))
  · have c : (decide (xs0 < 0)) = false := by first | exact c | (simp only [Option.getD_some] at c; exact c)
    (first | exact (k2 (c_ltf c)) | (simp only [Option.getD_some]; exact (k2 (c_ltf c))))
theorem w_Reader_readLine_22 {rod : Nat → Nat × (Nat → Int32)} {d : Nat} {Q : Option MV → MH → Prop} {u0 : Option MV} {u1 : Option MV} {x2 : Int32} {u3 : Option MV} {h : MH}   (k1 : x2.toInt < (Int32.ofNat (rod 1).1).toInt → Wb rod d B_Reader_readLine 35 [u0, u1, some (.inl x2), u3] [] h Q) (k2 : ¬ x2.toInt < (Int32.ofNat (rod 1).1).toInt → Wb rod d B_Reader_readLine 30 [u0, u1, some (.inl x2), u3] [] h Q) : Wb rod d B_Reader_readLine 22 [u0, u1, some (.inl x2), u3] [] h Q := by
  refine Wb.br (fun _ _ => b_Reader_readLine_22) (fun c => ?_) (fun c => ?_)
  · have c : (decide (x2 < (Int32.ofNat (rod 1).1))) = true := by first | exact c | (simp only [Option.getD_some] at c; exact c)
    (first | exact (k1 (c_ltt c)) | (simp only [Option.getD_some]; exact (k1 (c_ltt c))))
  · have c : (decide (x2 < (Int32.ofNat (rod 1).1))) = false := by first | exact c | (simp only [Option.getD_some] at c; exact c)
    (first | exact (k2 (c_ltf c)) | (simp only [Option.getD_some]; exact (k2 (c_ltf c))))
theorem w_Reader_readLine_30 {rod : Nat → Nat × (Nat → Int32)} {d : Nat} {Q : Option MV → MH → Prop} {u1 : Option MV} {u2 : Option MV} {u3 : Option MV} {h : MH} (L : Lay h.2)  {Q1 : Option MV → MH → Prop} (c : Wc rod d 41 [.inr (.inr (.inl (some 45)))] h Q1) (k : ∀ r1 h2, Q1 r1 h2 → Wb rod d B_Reader_readLine 34 [some (.inr (.inr (.inl (some 45)))), u1, u2, u3] (r1.toList ++ []) h2 Q) : Wb rod d B_Reader_readLine 30 [some (.inr (.inr (.inl (some 45)))), u1, u2, u3] [] h Q := by
  refine Wb.call (fun _ _ _ _ => b_Reader_readLine_30 (Lay.o45 L)) (Q1 := Q1) ?_ ?_
  · (first | exact c | (simp only [Option.getD_some]; exact c))
  · (first | exact k | (simp only [Option.getD_some]; exact k))
theorem w_Reader_readLine_34 {rod : Nat → Nat × (Nat → Int32)} {d : Nat} {Q : Option MV → MH → Prop} {u0 : Option MV} {u1 : Option MV} {u2 : Option MV} {u3 : Option MV} {h : MH}   (q : Q (none) h) : Wb rod d B_Reader_readLine 34 [u0, u1, u2, u3] [] h Q := by
  refine Wb.ret (b_Reader_readLine_34) ?_
  (first | exact q | (simp only [Option.getD_some]; exact q))
theorem w_Reader_readLine_35 {rod : Nat → Nat × (Nat → Int32)} {d : Nat} {Q : Option MV → MH → Prop} {u1 : Option MV} {x2 : Int32} {u3 : Option MV} {h : MH} (L : Lay h.2)  {Q1 : Option MV → MH → Prop} (c : Wc rod d 42 [.inr (.inr (.inl (some 45))), .inl x2] h Q1) (k : ∀ r1 h2, Q1 r1 h2 → Wb rod d B_Reader_readLine 40 [some (.inr (.inr (.inl (some 45)))), u1, some (.inl x2), u3] (r1.toList ++ []) h2 Q) : Wb rod d B_Reader_readLine 35 [some (.inr (.inr (.inl (some 45)))), u1, some (.inl x2), u3] [] h Q := by
  refine Wb.call (fun _ _ _ _ => b_Reader_readLine_35 (Lay.o45 L)) (Q1 := Q1) ?_ ?_
  · (first | exact c | (simp only [Option.getD_some]; exact c))
  · (first | exact k | (simp only [Option.getD_some]; exact k))
theorem w_Reader_readLine_40 {rod : Nat → Nat × (Nat → Int32)} {d : Nat} {Q : Option MV → MH → Prop} {u0 : Option MV} {u1 : Option MV} {u2 : Option MV} {u3 : Option MV} {xs0 : Int32} {h : MH}   (k1 : xs0.toInt = 0 → Wb rod d B_Reader_readLine 52 [u0, u1, u2, u3] [] h Q) (k2 : ¬ xs0.toInt = 0 → Wb rod d B_Reader_readLine 43 [u0, u1, u2, u3] [] h Q) : Wb rod d B_Reader_readLine 40 [u0, u1, u2, u3] [.inl xs0] h Q := by
  refine Wb.br (fun _ _ => b_Reader_readLine_40) (fun c => ?_) (fun c => ?_)
  · have c : (decide (xs0 = 0)) = true := by first | exact c | (simp only [Option.getD_some] at c; exact c)
    (first | exact (k1 (c_eqt c)) | (simp only [Option.getD_some]; exact (k1 (c_eqt c))))
  · have c : (decide (xs0 = 0)) = false := by first | exact c | (simp only [Option.getD_some] at c; exact c)
    (first | exact (k2 (c_eqf c)) | (simp only [Option.getD_some]; exact (k2 (c_eqf c))))
theorem w_Reader_readLine_43 {rod : Nat → Nat × (Nat → Int32)} {d : Nat} {Q : Option MV → MH → Prop} {u1 : Option MV} {u2 : Option MV} {u3 : Option MV} {h : MH} (L : Lay h.2)  {Q1 : Option MV → MH → Prop} (c : Wc rod d 43 [.inr (.inr (.inl (some 45))), .inl (3 : Int32), .inl (h.1 45 8)] h Q1) (k : ∀ r1 h2, Q1 r1 h2 → Wb rod d B_Reader_readLine 52 [some (.inr (.inr (.inl (some 45)))), u1, u2, u3] (r1.toList ++ []) h2 Q) : Wb rod d B_Reader_readLine 43 [some (.inr (.inr (.inl (some 45)))), u1, u2, u3] [] h Q := by
  refine Wb.call (fun _ _ _ _ => b_Reader_readLine_43 (Lay.o45 L)) (Q1 := Q1) ?_ ?_
  · (first | exact c | (simp only [Option.getD_some]; exact c))
  · (first | exact k | (simp only [Option.getD_some]; exact k))
theorem w_Reader_readLine_52 {rod : Nat → Nat × (Nat → Int32)} {d : Nat} {Q : Option MV → MH → Prop} {u1 : Option MV} {u2 : Option MV} {u3 : Option MV} {h : MH} (L : Lay h.2)  {Q1 : Option MV → MH → Prop} (c : Wc rod d 26 [.inr (.inr (.inl (some 45)))] h Q1) (k : ∀ r1 h2, Q1 r1 h2 → Wb rod d B_Reader_readLine 56 [some (.inr (.inr (.inl (some 45)))), u1, u2, u3] (r1.toList ++ []) h2 Q) : Wb rod d B_Reader_readLine 52 [some (.inr (.inr (.inl (some 45)))), u1, u2, u3] [] h Q := by
  refine Wb.call (fun _ _ _ _ => b_Reader_readLine_52 (Lay.o45 L)) (Q1 := Q1) ?_ ?_
  · (first | exact c | (simp only [Option.getD_some]; exact c))
  · (first | exact k | (simp only [Option.getD_some]; exact k))
theorem w_Reader_readLine_56 {rod : Nat → Nat × (Nat → Int32)} {d : Nat} {Q : Option MV → MH → Prop} {u0 : Option MV} {u1 : Option MV} {u2 : Option MV} {u3 : Option MV} {h : MH}  (g0 : okl [u0, u1, u2, u3] 3 = true) (k : Wb rod d B_Reader_readLine 58 [u0, u1, u2, some (.inl (0 : Int32))] [] h Q) : Wb rod d B_Reader_readLine 56 [u0, u1, u2, u3] [] h Q := by
  refine Wb.go (fun r hr q => b_Reader_readLine_56 g0 ?_) k
  (first | exact q | (simp only [Option.getD_some]; exact q))
theorem w_Reader_readLine_58 {rod : Nat → Nat × (Nat → Int32)} {d : Nat} {Q : Option MV → MH → Prop} {u0 : Option MV} {u1 : Option MV} {x2 : Int32} {x3 : Int32} {h : MH}  (g0 : inB x2 (rod 1).1 = true) (k1 : ((rod 1).2 x2.toNatClampNeg).toInt ≤ x3.toInt → Wb rod d B_Reader_readLine 92 [u0, u1, some (.inl x2), some (.inl x3)] [] h Q) (k2 : ¬ ((rod 1).2 x2.toNatClampNeg).toInt ≤ x3.toInt → Wb rod d B_Reader_readLine 67 [u0, u1, some (.inl x2), some (.inl x3)] [] h Q) : Wb rod d B_Reader_readLine 58 [u0, u1, some (.inl x2), some (.inl x3)] [] h Q := by
  refine Wb.br (fun _ _ => b_Reader_readLine_58 g0) (fun c => ?_) (fun c => ?_)
  · have c : (decide (((rod 1).2 x2.toNatClampNeg) ≤ x3)) = true := by first | exact c | (simp only [Option.getD_some] at c; exact c)
    (first | exact (k1 (c_let c)) | (simp only [Option.getD_some]; exact (k1 (c_let c))))
  · have c : (decide (((rod 1).2 x2.toNatClampNeg) ≤ x3)) = false := by first | exact c | (simp only [Option.getD_some] at c; exact c)
    (first | exact (k2 (c_lef c)) | (simp only [Option.getD_some]; exact (k2 (c_lef c))))
theorem w_Reader_readLine_67 {rod : Nat → Nat × (Nat → Int32)} {d : Nat} {Q : Option MV → MH → Prop} {u1 : Option MV} {u2 : Option MV} {u3 : Option MV} {h : MH} (L : Lay h.2)  (k1 : (h.1 45 7).toInt = 2 → Wb rod d B_Reader_readLine 80 [some (.inr (.inr (.inl (some 45)))), u1, u2, u3] [] h Q) (k2 : ¬ (h.1 45 7).toInt = 2 → Wb rod d B_Reader_readLine 75 [some (.inr (.inr (.inl (some 45)))), u1, u2, u3] [] h Q) : Wb rod d B_Reader_readLine 67 [some (.inr (.inr (.inl (some 45)))), u1, u2, u3] [] h Q := by
  refine Wb.br (fun _ _ => b_Reader_readLine_67 (Lay.o45 L)) (fun c => ?_) (fun c => ?_)
  · have c : (decide ((h.1 45 7) = (2 : Int32))) = true := by first | exact c | (simp only [Option.getD_some] at c; exact c)
    (first | exact (k1 (c_eqt c)) | (simp only [Option.getD_some]; exact (k1 (c_eqt c))))
  · have c : (decide ((h.1 45 7) = (2 : Int32))) = false := by first | exact c | (simp only [Option.getD_some] at c; exact c)
    (first | exact (k2 (c_eqf c)) | (simp only [Option.getD_some]; exact (k2 (c_eqf c))))
theorem w_Reader_readLine_75 {rod : Nat → Nat × (Nat → Int32)} {d : Nat} {Q : Option MV → MH → Prop} {u1 : Option MV} {u2 : Option MV} {u3 : Option MV} {h : MH} (L : Lay h.2)  {Q1 : Option MV → MH → Prop} (c : Wc rod d 41 [.inr (.inr (.inl (some 45)))] h Q1) (k : ∀ r1 h2, Q1 r1 h2 → Wb rod d B_Reader_readLine 79 [some (.inr (.inr (.inl (some 45)))), u1, u2, u3] (r1.toList ++ []) h2 Q) : Wb rod d B_Reader_readLine 75 [some (.inr (.inr (.inl (some 45)))), u1, u2, u3] [] h Q := by
  refine Wb.call (fun _ _ _ _ => b_Reader_readLine_75 (Lay.o45 L)) (Q1 := Q1) ?_ ?_
  · (first | exact c | (simp only [Option.getD_some]; exact c))
  · (first | exact k | (simp only [Option.getD_some]; exact k))
theorem w_Reader_readLine_79 {rod : Nat → Nat × (Nat → Int32)} {d : Nat} {Q : Option MV → MH → Prop} {u0 : Option MV} {u1 : Option MV} {u2 : Option MV} {u3 : Option MV} {h : MH}   (q : Q (none) h) : Wb rod d B_Reader_readLine 79 [u0, u1, u2, u3] [] h Q := by
  refine Wb.ret (b_Reader_readLine_79) ?_
  (first | exact q | (simp only [Option.getD_some]; exact q))
theorem w_Reader_readLine_80 {rod : Nat → Nat × (Nat → Int32)} {d : Nat} {Q : Option MV → MH → Prop} {u1 : Option MV} {x2 : Int32} {x3 : Int32} {h : MH} (L : Lay h.2)  {Q1 : Option MV → MH → Prop} (c : Wc rod d 44 [.inr (.inr (.inl (some 45))), .inl x2, .inl x3] h Q1) (k : ∀ r1 h2, Q1 r1 h2 → Wb rod d B_Reader_readLine 86 [some (.inr (.inr (.inl (some 45)))), u1, some (.inl x2), some (.inl x3)] (r1.toList ++ []) h2 Q) : Wb rod d B_Reader_readLine 80 [some (.inr (.inr (.inl (some 45)))), u1, some (.inl x2), some (.inl x3)] [] h Q := by
  refine Wb.call (fun _ _ _ _ => b_Reader_readLine_80 (Lay.o45 L)) (Q1 := Q1) ?_ ?_
  · (first | exact c | (simp only [Option.getD_some]; exact c))
  · (first | exact k | (simp only [Option.getD_some]; exact k))
theorem w_Reader_readLine_86 {rod : Nat → Nat × (Nat → Int32)} {d : Nat} {Q : Option MV → MH → Prop} {u0 : Option MV} {u1 : Option MV} {u2 : Option MV} {x3 : Int32} {h : MH}  (g0 : okl [u0, u1, u2, some (.inl x3)] 3 = true) (k : Wb rod d B_Reader_readLine 58 [u0, u1, u2, some (.inl (x3 + 1))] [] h Q) : Wb rod d B_Reader_readLine 86 [u0, u1, u2, some (.inl x3)] [] h Q := by
  refine Wb.go (fun r hr q => b_Reader_readLine_86 g0 ?_) k
  (first | exact q | (simp only [Option.getD_some]; exact q))
theorem w_Reader_readLine_92 {rod : Nat → Nat × (Nat → Int32)} {d : Nat} {Q : Option MV → MH → Prop} {u1 : Option MV} {u2 : Option MV} {u3 : Option MV} {h : MH} (L : Lay h.2)  (k1 : (h.1 45 7).toInt = 3 → Wb rod d B_Reader_readLine 105 [some (.inr (.inr (.inl (some 45)))), u1, u2, u3] [] h Q) (k2 : ¬ (h.1 45 7).toInt = 3 → Wb rod d B_Reader_readLine 100 [some (.inr (.inr (.inl (some 45)))), u1, u2, u3] [] h Q) : Wb rod d B_Reader_readLine 92 [some (.inr (.inr (.inl (some 45)))), u1, u2, u3] [] h Q := by
  refine Wb.br (fun _ _ => b_Reader_readLine_92 (Lay.o45 L)) (fun c => ?_) (fun c => ?_)
  · have c : (decide ((h.1 45 7) = (3 : Int32))) = true := by first | exact c | (simp only [Option.getD_some] at c; exact c)
    (first | exact (k1 (c_eqt c)) | (simp only [Option.getD_some]; exact (k1 (c_eqt c))))
  · have c : (decide ((h.1 45 7) = (3 : Int32))) = false := by first | exact c | (simp only [Option.getD_some] at c; exact c)
    (first | exact (k2 (c_eqf c)) | (simp only [Option.getD_some]; exact (k2 (c_eqf c))))
theorem w_Reader_readLine_100 {rod : Nat → Nat × (Nat → Int32)} {d : Nat} {Q : Option MV → MH → Prop} {u1 : Option MV} {u2 : Option MV} {u3 : Option MV} {h : MH} (L : Lay h.2)  {Q1 : Option MV → MH → Prop} (c : Wc rod d 41 [.inr (.inr (.inl (some 45)))] h Q1) (k : ∀ r1 h2, Q1 r1 h2 → Wb rod d B_Reader_readLine 104 [some (.inr (.inr (.inl (some 45)))), u1, u2, u3] (r1.toList ++ []) h2 Q) : Wb rod d B_Reader_readLine 100 [some (.inr (.inr (.inl (some 45)))), u1, u2, u3] [] h Q := by
  refine Wb.call (fun _ _ _ _ => b_Reader_readLine_100 (Lay.o45 L)) (Q1 := Q1) ?_ ?_
  · (first | exact c | (simp only [Option.getD_some]; exact c))
  · (first | exact k | (simp only [Option.getD_some]; exact k))
theorem w_Reader_readLine_104 {rod : Nat → Nat × (Nat → Int32)} {d : Nat} {Q : Option MV → MH → Prop} {u0 : Option MV} {u1 : Option MV} {u2 : Option MV} {u3 : Option MV} {h : MH}   (q : Q (none) h) : Wb rod d B_Reader_readLine 104 [u0, u1, u2, u3] [] h Q := by
  refine Wb.ret (b_Reader_readLine_104) ?_
  (first | exact q | (simp only [Option.getD_some]; exact q))
theorem w_Reader_readLine_105 {rod : Nat → Nat × (Nat → Int32)} {d : Nat} {Q : Option MV → MH → Prop} {u1 : Option MV} {u2 : Option MV} {u3 : Option MV} {h : MH} (L : Lay h.2)  {Q1 : Option MV → MH → Prop} (c : Wc rod d 26 [.inr (.inr (.inl (some 45)))] h Q1) (k : ∀ r1 h2, Q1 r1 h2 → Wb rod d B_Reader_readLine 109 [some (.inr (.inr (.inl (some 45)))), u1, u2, u3] (r1.toList ++ []) h2 Q) : Wb rod d B_Reader_readLine 105 [some (.inr (.inr (.inl (some 45)))), u1, u2, u3] [] h Q := by
  refine Wb.call (fun _ _ _ _ => b_Reader_readLine_105 (Lay.o45 L)) (Q1 := Q1) ?_ ?_
  · (first | exact c | (simp only [Option.getD_some]; exact c))
  · (first | exact k | (simp only [Option.getD_some]; exact k))
theorem w_Reader_readLine_109 {rod : Nat → Nat × (Nat → Int32)} {d : Nat} {Q : Option MV → MH → Prop} {u1 : Option MV} {u2 : Option MV} {u3 : Option MV} {h : MH} (L : Lay h.2)  (k1 : ¬ (h.1 45 11).toInt = 0 → Wb rod d B_Reader_readLine 121 [some (.inr (.inr (.inl (some 45)))), u1, u2, u3] [] h Q) (k2 : (h.1 45 11).toInt = 0 → Wb rod d B_Reader_readLine 116 [some (.inr (.inr (.inl (some 45)))), u1, u2, u3] [] h Q) : Wb rod d B_Reader_readLine 109 [some (.inr (.inr (.inl (some 45)))), u1, u2, u3] [] h Q := by
  refine Wb.br (fun _ _ => b_Reader_readLine_109 (Lay.o45 L)) (fun c => ?_) (fun c => ?_)
  · have c : (!(decide ((h.1 45 11) = 0))) = true := by first | exact c | (simp only [Option.getD_some] at c; exact c)
    (first | exact (k1 (c_net c)) | (simp only [Option.getD_some]; exact (k1 (c_net c))))
  · have c : (!(decide ((h.1 45 11) = 0))) = false := by first | exact c | (simp only [Option.getD_some] at c; exact c)
    (first | exact (k2 (c_nef c)) | (simp only [Option.getD_some]; exact (k2 (c_nef c))))
theorem w_Reader_readLine_116 {rod : Nat → Nat × (Nat → Int32)} {d : Nat} {Q : Option MV → MH → Prop} {u1 : Option MV} {x2 : Int32} {u3 : Option MV} {h : MH} (L : Lay h.2)  {Q1 : Option MV → MH → Prop} (c : Wc rod d 45 [.inr (.inr (.inl (some 45))), .inl x2] h Q1) (k : ∀ r1 h2, Q1 r1 h2 → Wb rod d B_Reader_readLine 121 [some (.inr (.inr (.inl (some 45)))), u1, some (.inl x2), u3] (r1.toList ++ []) h2 Q) : Wb rod d B_Reader_readLine 116 [some (.inr (.inr (.inl (some 45)))), u1, some (.inl x2), u3] [] h Q := by
  refine Wb.call (fun _ _ _ _ => b_Reader_readLine_116 (Lay.o45 L)) (Q1 := Q1) ?_ ?_
  · (first | exact c | (simp only [Option.getD_some]; exact c))
  · (first | exact k | (simp only [Option.getD_some]; exact k))
theorem w_Reader_readLine_121 {rod : Nat → Nat × (Nat → Int32)} {d : Nat} {Q : Option MV → MH → Prop} {u0 : Option MV} {u1 : Option MV} {u2 : Option MV} {u3 : Option MV} {h : MH}   (q : Q (none) h) : Wb rod d B_Reader_readLine 121 [u0, u1, u2, u3] [] h Q := by
  refine Wb.ret (b_Reader_readLine_121) ?_
  (first | exact q | (simp only [Option.getD_some]; exact q))
theorem n_Reader_wordRead {rod : Nat → Nat × (Nat → Int32)} {d : Nat} {Q : Option MV → MH → Prop} {x1 : Int32} {h : MH} (k : Wb rod d B_Reader_wordRead 0 [some (.inr (.inr (.inl (some 45)))), some (.inl x1), none] [] h Q) : Wc rod (d + 1) 31 [.inr (.inr (.inl (some 45))), .inl x1] h Q := Wc.en (fun _ _ => e_Reader_wordRead) k
theorem w_Reader_wordRead_0 {rod : Nat → Nat × (Nat → Int32)} {d : Nat} {Q : Option MV → MH → Prop} {u0 : Option MV} {x1 : Int32} {u2 : Option MV} {h : MH}   (k1 : x1.toInt < 0 → Wb rod d B_Reader_wordRead 9 [u0, some (.inl x1), u2] [] h Q) (k2 : ¬ x1.toInt < 0 → Wb rod d B_Reader_wordRead 4 [u0, some (.inl x1), u2] [] h Q) : Wb rod d B_Reader_wordRead 0 [u0, some (.inl x1), u2] [] h Q := by
  refine Wb.br (fun _ _ => b_Reader_wordRead_0) (fun c => ?_) (fun c => ?_)
  · have c : (decide (x1 < 0)) = true := by first | exact c | (simp only [Option.getD_some] at c; exact c)
    (first | exact (k1 (c_ltt c)) | (simp only [Option.getD_some]; exact (k1 (c_ltt c))))
  · have c : (decide (x1 < 0)) = false := by first | exact c | (simp only [Option.getD_some] at c; exact c)
    (first | exact (k2 (c_ltf c)) | (simp only [Option.getD_some]; exact (k2 (c_ltf c))))
theorem w_Reader_wordRead_4 {rod : Nat → Nat × (Nat → Int32)} {d : Nat} {Q : Option MV → MH → Prop} {u0 : Option MV} {x1 : Int32} {u2 : Option MV} {h : MH}   (k1 : x1.toInt < 4 → Wb rod d B_Reader_wordRead 11 [u0, some (.inl x1), u2] [] h Q) (k2 : ¬ x1.toInt < 4 → Wb rod d B_Reader_wordRead 9 [u0, some (.inl x1), u2] [] h Q) : Wb rod d B_Reader_wordRead 4 [u0, some (.inl x1), u2] [] h Q := by
  refine Wb.br (fun _ _ => b_Reader_wordRead_4) (fun c => ?_) (fun c => ?_)
  · have c : (decide (x1 < (4 : Int32))) = true := by first | exact c | (simp only [Option.getD_some] at c; exact c)
    (first | exact (k1 (c_ltt c)) | (simp only [Option.getD_some]; exact (k1 (c_ltt c))))
  · have c : (decide (x1 < (4 : Int32))) = false := by first | exact c | (simp only [Option.getD_some] at c; exact c)
    (first | exact (k2 (c_ltf c)) | (simp only [Option.getD_some]; exact (k2 (c_ltf c))))
theorem w_Reader_wordRead_9 {rod : Nat → Nat × (Nat → Int32)} {d : Nat} {Q : Option MV → MH → Prop} {u0 : Option MV} {u1 : Option MV} {u2 : Option MV} {h : MH}   (q : Q (some (.inl (-1 : Int32))) h) : Wb rod d B_Reader_wordRead 9 [u0, u1, u2] [] h Q := by
  refine Wb.ret (b_Reader_wordRead_9) ?_
  (first | exact q | (simp only [Option.getD_some]; exact q))
theorem w_Reader_wordRead_11 {rod : Nat → Nat × (Nat → Int32)} {d : Nat} {Q : Option MV → MH → Prop} {u0 : Option MV} {x1 : Int32} {u2 : Option MV} {h : MH}  (g0 : inB x1 (rod 0).1 = true) (k : Wb rod d B_Reader_wordRead 17 [u0, some (.inl x1), some (.inl ((rod 0).2 x1.toNatClampNeg))] [] h Q) : Wb rod d B_Reader_wordRead 11 [u0, some (.inl x1), u2] [] h Q := by
  refine Wb.go (fun r hr q => b_Reader_wordRead_11 g0 ?_) k
  (first | exact q | (simp only [Option.getD_some]; exact q))
theorem w_Reader_wordRead_17 {rod : Nat → Nat × (Nat → Int32)} {d : Nat} {Q : Option MV → MH → Prop} {u0 : Option MV} {x1 : Int32} {x2 : Int32} {h : MH}  (g0 : inB (x1 + (1 : Int32)) (rod 0).1 = true) (k1 : ((rod 0).2 (x1 + (1 : Int32)).toNatClampNeg).toInt ≤ x2.toInt → Wb rod d B_Reader_wordRead 47 [u0, some (.inl x1), some (.inl x2)] [] h Q) (k2 : ¬ ((rod 0).2 (x1 + (1 : Int32)).toNatClampNeg).toInt ≤ x2.toInt → Wb rod d B_Reader_wordRead 28 [u0, some (.inl x1), some (.inl x2)] [] h Q) : Wb rod d B_Reader_wordRead 17 [u0, some (.inl x1), some (.inl x2)] [] h Q := by
  refine Wb.br (fun _ _ => b_Reader_wordRead_17 g0) (fun c => ?_) (fun c => ?_)
  · have c : (decide (((rod 0).2 (x1 + (1 : Int32)).toNatClampNeg) ≤ x2)) = true := by first | exact c | (simp only [Option.getD_some] at c; exact c)
    (first | exact (k1 (c_let c)) | (simp only [Option.getD_some]; exact (k1 (c_let c))))
  · have c : (decide (((rod 0).2 (x1 + (1 : Int32)).toNatClampNeg) ≤ x2)) = false := by first | exact c | (simp only [Option.getD_some] at c; exact c)
    (first | exact (k2 (c_lef c)) | (simp only [Option.getD_some]; exact (k2 (c_lef c))))
theorem w_Reader_wordRead_28 {rod : Nat → Nat × (Nat → Int32)} {d : Nat} {Q : Option MV → MH → Prop} {u1 : Option MV} {x2 : Int32} {h : MH}   {Q1 : Option MV → MH → Prop} (c : Wc rod d 32 [.inl x2] h Q1) (k : ∀ r1 h2, Q1 r1 h2 → Wb rod d B_Reader_wordRead 33 [some (.inr (.inr (.inl (some 45)))), u1, some (.inl x2)] (r1.toList ++ [.inr (.inr (.inl (some 45)))]) h2 Q) : Wb rod d B_Reader_wordRead 28 [some (.inr (.inr (.inl (some 45)))), u1, some (.inl x2)] [] h Q := by
  refine Wb.call (fun _ _ _ _ => b_Reader_wordRead_28) (Q1 := Q1) ?_ ?_
  · (first | exact c | (simp only [Option.getD_some]; exact c))
  · (first | exact k | (simp only [Option.getD_some]; exact k))
theorem w_Reader_wordRead_33 {rod : Nat → Nat × (Nat → Int32)} {d : Nat} {Q : Option MV → MH → Prop} {u0 : Option MV} {u1 : Option MV} {u2 : Option MV} {js1 : Nat} {h : MH} (L : Lay h.2)  {Q1 : Option MV → MH → Prop} (c : Wc rod d 33 [.inr (.inr (.inl (some 45))), .inr (.inr (.inr js1))] h Q1) (k : ∀ r1 h2, Q1 r1 h2 → Wb rod d B_Reader_wordRead 36 [u0, u1, u2] (r1.toList ++ []) h2 Q) : Wb rod d B_Reader_wordRead 33 [u0, u1, u2] [.inr (.inr (.inr js1)), .inr (.inr (.inl (some 45)))] h Q := by
  refine Wb.call (fun _ _ _ _ => b_Reader_wordRead_33 (Lay.o45 L)) (Q1 := Q1) ?_ ?_
  · (first | exact c | (simp only [Option.getD_some]; exact c))
  · (first | exact k | (simp only [Option.getD_some]; exact k))
theorem w_Reader_wordRead_36 {rod : Nat → Nat × (Nat → Int32)} {d : Nat} {Q : Option MV → MH → Prop} {u0 : Option MV} {u1 : Option MV} {u2 : Option MV} {xs0 : Int32} {h : MH}   (k1 : xs0.toInt = 0 → Wb rod d B_Reader_wordRead 41 [u0, u1, u2] [] h Q) (k2 : ¬ xs0.toInt = 0 → Wb rod d B_Reader_wordRead 39 [u0, u1, u2] [] h Q) : Wb rod d B_Reader_wordRead 36 [u0, u1, u2] [.inl xs0] h Q := by
  refine Wb.br (fun _ _ => b_Reader_wordRead_36) (fun c => ?_) (fun c => ?_)
  · have c : (decide (xs0 = 0)) = true := by first | exact c | (simp only [Option.getD_some] at c; exact c)
    (first | exact (k1 (c_eqt c)) | (simp only [Option.getD_some]; exact (k1 (c_eqt c))))
  · have c : (decide (xs0 = 0)) = false := by first | exact c | (simp only [Option.getD_some] at c; exact c)
    (first | exact (k2 (c_eqf c)) | (simp only [Option.getD_some]; exact (k2 (c_eqf c))))
theorem w_Reader_wordRead_39 {rod : Nat → Nat × (Nat → Int32)} {d : Nat} {Q : Option MV → MH → Prop} {u0 : Option MV} {u1 : Option MV} {x2 : Int32} {h : MH}   (q : Q (some (.inl x2)) h) : Wb rod d B_Reader_wordRead 39 [u0, u1, some (.inl x2)] [] h Q := by
  refine Wb.ret (b_Reader_wordRead_39) ?_
  (first | exact q | (simp only [Option.getD_some]; exact q))
theorem w_Reader_wordRead_41 {rod : Nat → Nat × (Nat → Int32)} {d : Nat} {Q : Option MV → MH → Prop} {u0 : Option MV} {u1 : Option MV} {x2 : Int32} {h : MH}  (g0 : okl [u0, u1, some (.inl x2)] 2 = true) (k : Wb rod d B_Reader_wordRead 17 [u0, u1, some (.inl (x2 + 1))] [] h Q) : Wb rod d B_Reader_wordRead 41 [u0, u1, some (.inl x2)] [] h Q := by
  refine Wb.go (fun r hr q => b_Reader_wordRead_41 g0 ?_) k
  (first | exact q | (simp only [Option.getD_some]; exact q))
theorem w_Reader_wordRead_47 {rod : Nat → Nat × (Nat → Int32)} {d : Nat} {Q : Option MV → MH → Prop} {u0 : Option MV} {u1 : Option MV} {u2 : Option MV} {h : MH}   (q : Q (some (.inl (-1 : Int32))) h) : Wb rod d B_Reader_wordRead 47 [u0, u1, u2] [] h Q := by
  refine Wb.ret (b_Reader_wordRead_47) ?_
  (first | exact q | (simp only [Option.getD_some]; exact q))
theorem n_Reader_wordOf {rod : Nat → Nat × (Nat → Int32)} {d : Nat} {Q : Option MV → MH → Prop} {x0 : Int32} {h : MH} (k : Wb rod d B_Reader_wordOf 0 [some (.inl x0)] [] h Q) : Wc rod (d + 1) 32 [.inl x0] h Q := Wc.en (fun _ _ => e_Reader_wordOf) k
theorem w_Reader_wordOf_0 {rod : Nat → Nat × (Nat → Int32)} {d : Nat} {Q : Option MV → MH → Prop} {x0 : Int32} {h : MH}   (k0 : x0.toInt = 0 → Wb rod d B_Reader_wordOf 104 [some (.inl x0)] [] h Q) (k1 : x0.toInt = 1 → Wb rod d B_Reader_wordOf 107 [some (.inl x0)] [] h Q) (k2 : x0.toInt = 2 → Wb rod d B_Reader_wordOf 110 [some (.inl x0)] [] h Q) (k3 : x0.toInt = 3 → Wb rod d B_Reader_wordOf 113 [some (.inl x0)] [] h Q) (k4 : x0.toInt = 4 → Wb rod d B_Reader_wordOf 116 [some (.inl x0)] [] h Q) (k5 : x0.toInt = 5 → Wb rod d B_Reader_wordOf 119 [some (.inl x0)] [] h Q) (k6 : x0.toInt = 6 → Wb rod d B_Reader_wordOf 122 [some (.inl x0)] [] h Q) (k7 : x0.toInt = 7 → Wb rod d B_Reader_wordOf 125 [some (.inl x0)] [] h Q) (k8 : x0.toInt = 8 → Wb rod d B_Reader_wordOf 128 [some (.inl x0)] [] h Q) (k9 : x0.toInt = 9 → Wb rod d B_Reader_wordOf 131 [some (.inl x0)] [] h Q) (k10 : x0.toInt = 10 → Wb rod d B_Reader_wordOf 134 [some (.inl x0)] [] h Q) (k11 : x0.toInt = 11 → Wb rod d B_Reader_wordOf 137 [some (.inl x0)] [] h Q) (k12 : x0.toInt = 12 → Wb rod d B_Reader_wordOf 140 [some (.inl x0)] [] h Q) (k13 : x0.toInt = 13 → Wb rod d B_Reader_wordOf 143 [some (.inl x0)] [] h Q) (k14 : x0.toInt = 14 → Wb rod d B_Reader_wordOf 146 [some (.inl x0)] [] h Q) (k15 : x0.toInt = 15 → Wb rod d B_Reader_wordOf 149 [some (.inl x0)] [] h Q) (k16 : x0.toInt = 16 → Wb rod d B_Reader_wordOf 152 [some (.inl x0)] [] h Q) (k17 : x0.toInt = 17 → Wb rod d B_Reader_wordOf 155 [some (.inl x0)] [] h Q) (k18 : x0.toInt = 18 → Wb rod d B_Reader_wordOf 158 [some (.inl x0)] [] h Q) (k19 : x0.toInt = 19 → Wb rod d B_Reader_wordOf 161 [some (.inl x0)] [] h Q) (k20 : x0.toInt = 20 → Wb rod d B_Reader_wordOf 164 [some (.inl x0)] [] h Q) (k21 : x0.toInt = 21 → Wb rod d B_Reader_wordOf 167 [some (.inl x0)] [] h Q) (kd : x0.toInt ≠ 0 → x0.toInt ≠ 1 → x0.toInt ≠ 2 → x0.toInt ≠ 3 → x0.toInt ≠ 4 → x0.toInt ≠ 5 → x0.toInt ≠ 6 → x0.toInt ≠ 7 → x0.toInt ≠ 8 → x0.toInt ≠ 9 → x0.toInt ≠ 10 → x0.toInt ≠ 11 → x0.toInt ≠ 12 → x0.toInt ≠ 13 → x0.toInt ≠ 14 → x0.toInt ≠ 15 → x0.toInt ≠ 16 → x0.toInt ≠ 17 → x0.toInt ≠ 18 → x0.toInt ≠ 19 → x0.toInt ≠ 20 → x0.toInt ≠ 21 → Wb rod d B_Reader_wordOf 171 [some (.inl x0)] [] h Q) : Wb rod d B_Reader_wordOf 0 [some (.inl x0)] [] h Q := by
  have key : Wb rod d B_Reader_wordOf (tabT [103, 106, 109, 112, 115, 118, 121, 124, 127, 130, 133, 136, 139, 142, 145, 148, 151, 154, 157, 160, 163, 166] 0 x0 1 171) [some (.inl x0)] [] h Q := by
    by_cases e0 : x0 = Int32.ofInt 0
    · rw [show tabT [103, 106, 109, 112, 115, 118, 121, 124, 127, 130, 133, 136, 139, 142, 145, 148, 151, 154, 157, 160, 163, 166] 0 x0 1 171 = 104 from by rw [e0]; rfl]
      exact k0 (by rw [e0]; rfl)
    by_cases e1 : x0 = Int32.ofInt 1
    · rw [show tabT [103, 106, 109, 112, 115, 118, 121, 124, 127, 130, 133, 136, 139, 142, 145, 148, 151, 154, 157, 160, 163, 166] 0 x0 1 171 = 107 from by rw [e1]; rfl]
      exact k1 (by rw [e1]; rfl)
    by_cases e2 : x0 = Int32.ofInt 2
    · rw [show tabT [103, 106, 109, 112, 115, 118, 121, 124, 127, 130, 133, 136, 139, 142, 145, 148, 151, 154, 157, 160, 163, 166] 0 x0 1 171 = 110 from by rw [e2]; rfl]
      exact k2 (by rw [e2]; rfl)
    by_cases e3 : x0 = Int32.ofInt 3
    · rw [show tabT [103, 106, 109, 112, 115, 118, 121, 124, 127, 130, 133, 136, 139, 142, 145, 148, 151, 154, 157, 160, 163, 166] 0 x0 1 171 = 113 from by rw [e3]; rfl]
      exact k3 (by rw [e3]; rfl)
    by_cases e4 : x0 = Int32.ofInt 4
    · rw [show tabT [103, 106, 109, 112, 115, 118, 121, 124, 127, 130, 133, 136, 139, 142, 145, 148, 151, 154, 157, 160, 163, 166] 0 x0 1 171 = 116 from by rw [e4]; rfl]
      exact k4 (by rw [e4]; rfl)
    by_cases e5 : x0 = Int32.ofInt 5
    · rw [show tabT [103, 106, 109, 112, 115, 118, 121, 124, 127, 130, 133, 136, 139, 142, 145, 148, 151, 154, 157, 160, 163, 166] 0 x0 1 171 = 119 from by rw [e5]; rfl]
      exact k5 (by rw [e5]; rfl)
    by_cases e6 : x0 = Int32.ofInt 6
    · rw [show tabT [103, 106, 109, 112, 115, 118, 121, 124, 127, 130, 133, 136, 139, 142, 145, 148, 151, 154, 157, 160, 163, 166] 0 x0 1 171 = 122 from by rw [e6]; rfl]
      exact k6 (by rw [e6]; rfl)
    by_cases e7 : x0 = Int32.ofInt 7
    · rw [show tabT [103, 106, 109, 112, 115, 118, 121, 124, 127, 130, 133, 136, 139, 142, 145, 148, 151, 154, 157, 160, 163, 166] 0 x0 1 171 = 125 from by rw [e7]; rfl]
      exact k7 (by rw [e7]; rfl)
    by_cases e8 : x0 = Int32.ofInt 8
    · rw [show tabT [103, 106, 109, 112, 115, 118, 121, 124, 127, 130, 133, 136, 139, 142, 145, 148, 151, 154, 157, 160, 163, 166] 0 x0 1 171 = 128 from by rw [e8]; rfl]
      exact k8 (by rw [e8]; rfl)
    by_cases e9 : x0 = Int32.ofInt 9
    · rw [show tabT [103, 106, 109, 112, 115, 118, 121, 124, 127, 130, 133, 136, 139, 142, 145, 148, 151, 154, 157, 160, 163, 166] 0 x0 1 171 = 131 from by rw [e9]; rfl]
      exact k9 (by rw [e9]; rfl)
    by_cases e10 : x0 = Int32.ofInt 10
    · rw [show tabT [103, 106, 109, 112, 115, 118, 121, 124, 127, 130, 133, 136, 139, 142, 145, 148, 151, 154, 157, 160, 163, 166] 0 x0 1 171 = 134 from by rw [e10]; rfl]
      exact k10 (by rw [e10]; rfl)
    by_cases e11 : x0 = Int32.ofInt 11
    · rw [show tabT [103, 106, 109, 112, 115, 118, 121, 124, 127, 130, 133, 136, 139, 142, 145, 148, 151, 154, 157, 160, 163, 166] 0 x0 1 171 = 137 from by rw [e11]; rfl]
      exact k11 (by rw [e11]; rfl)
    by_cases e12 : x0 = Int32.ofInt 12
    · rw [show tabT [103, 106, 109, 112, 115, 118, 121, 124, 127, 130, 133, 136, 139, 142, 145, 148, 151, 154, 157, 160, 163, 166] 0 x0 1 171 = 140 from by rw [e12]; rfl]
      exact k12 (by rw [e12]; rfl)
    by_cases e13 : x0 = Int32.ofInt 13
    · rw [show tabT [103, 106, 109, 112, 115, 118, 121, 124, 127, 130, 133, 136, 139, 142, 145, 148, 151, 154, 157, 160, 163, 166] 0 x0 1 171 = 143 from by rw [e13]; rfl]
      exact k13 (by rw [e13]; rfl)
    by_cases e14 : x0 = Int32.ofInt 14
    · rw [show tabT [103, 106, 109, 112, 115, 118, 121, 124, 127, 130, 133, 136, 139, 142, 145, 148, 151, 154, 157, 160, 163, 166] 0 x0 1 171 = 146 from by rw [e14]; rfl]
      exact k14 (by rw [e14]; rfl)
    by_cases e15 : x0 = Int32.ofInt 15
    · rw [show tabT [103, 106, 109, 112, 115, 118, 121, 124, 127, 130, 133, 136, 139, 142, 145, 148, 151, 154, 157, 160, 163, 166] 0 x0 1 171 = 149 from by rw [e15]; rfl]
      exact k15 (by rw [e15]; rfl)
    by_cases e16 : x0 = Int32.ofInt 16
    · rw [show tabT [103, 106, 109, 112, 115, 118, 121, 124, 127, 130, 133, 136, 139, 142, 145, 148, 151, 154, 157, 160, 163, 166] 0 x0 1 171 = 152 from by rw [e16]; rfl]
      exact k16 (by rw [e16]; rfl)
    by_cases e17 : x0 = Int32.ofInt 17
    · rw [show tabT [103, 106, 109, 112, 115, 118, 121, 124, 127, 130, 133, 136, 139, 142, 145, 148, 151, 154, 157, 160, 163, 166] 0 x0 1 171 = 155 from by rw [e17]; rfl]
      exact k17 (by rw [e17]; rfl)
    by_cases e18 : x0 = Int32.ofInt 18
    · rw [show tabT [103, 106, 109, 112, 115, 118, 121, 124, 127, 130, 133, 136, 139, 142, 145, 148, 151, 154, 157, 160, 163, 166] 0 x0 1 171 = 158 from by rw [e18]; rfl]
      exact k18 (by rw [e18]; rfl)
    by_cases e19 : x0 = Int32.ofInt 19
    · rw [show tabT [103, 106, 109, 112, 115, 118, 121, 124, 127, 130, 133, 136, 139, 142, 145, 148, 151, 154, 157, 160, 163, 166] 0 x0 1 171 = 161 from by rw [e19]; rfl]
      exact k19 (by rw [e19]; rfl)
    by_cases e20 : x0 = Int32.ofInt 20
    · rw [show tabT [103, 106, 109, 112, 115, 118, 121, 124, 127, 130, 133, 136, 139, 142, 145, 148, 151, 154, 157, 160, 163, 166] 0 x0 1 171 = 164 from by rw [e20]; rfl]
      exact k20 (by rw [e20]; rfl)
    by_cases e21 : x0 = Int32.ofInt 21
    · rw [show tabT [103, 106, 109, 112, 115, 118, 121, 124, 127, 130, 133, 136, 139, 142, 145, 148, 151, 154, 157, 160, 163, 166] 0 x0 1 171 = 167 from by rw [e21]; rfl]
      exact k21 (by rw [e21]; rfl)
    rw [show tabT [103, 106, 109, 112, 115, 118, 121, 124, 127, 130, 133, 136, 139, 142, 145, 148, 151, 154, 157, 160, 163, 166] 0 x0 1 171 = 171 from (if_neg e0).trans ((if_neg e1).trans ((if_neg e2).trans ((if_neg e3).trans ((if_neg e4).trans ((if_neg e5).trans ((if_neg e6).trans ((if_neg e7).trans ((if_neg e8).trans ((if_neg e9).trans ((if_neg e10).trans ((if_neg e11).trans ((if_neg e12).trans ((if_neg e13).trans ((if_neg e14).trans ((if_neg e15).trans ((if_neg e16).trans ((if_neg e17).trans ((if_neg e18).trans ((if_neg e19).trans ((if_neg e20).trans ((if_neg e21).trans (rfl))))))))))))))))))))))]
    exact kd (fun q => e0 (Int32.toInt_inj.mp q)) (fun q => e1 (Int32.toInt_inj.mp q)) (fun q => e2 (Int32.toInt_inj.mp q)) (fun q => e3 (Int32.toInt_inj.mp q)) (fun q => e4 (Int32.toInt_inj.mp q)) (fun q => e5 (Int32.toInt_inj.mp q)) (fun q => e6 (Int32.toInt_inj.mp q)) (fun q => e7 (Int32.toInt_inj.mp q)) (fun q => e8 (Int32.toInt_inj.mp q)) (fun q => e9 (Int32.toInt_inj.mp q)) (fun q => e10 (Int32.toInt_inj.mp q)) (fun q => e11 (Int32.toInt_inj.mp q)) (fun q => e12 (Int32.toInt_inj.mp q)) (fun q => e13 (Int32.toInt_inj.mp q)) (fun q => e14 (Int32.toInt_inj.mp q)) (fun q => e15 (Int32.toInt_inj.mp q)) (fun q => e16 (Int32.toInt_inj.mp q)) (fun q => e17 (Int32.toInt_inj.mp q)) (fun q => e18 (Int32.toInt_inj.mp q)) (fun q => e19 (Int32.toInt_inj.mp q)) (fun q => e20 (Int32.toInt_inj.mp q)) (fun q => e21 (Int32.toInt_inj.mp q))
  refine Wb.go (fun r hr q => b_Reader_wordOf_0 ?_) key
  (first | exact q | (simp only [Option.getD_some]; exact q))
theorem w_Reader_wordOf_104 {rod : Nat → Nat × (Nat → Int32)} {d : Nat} {Q : Option MV → MH → Prop} {u0 : Option MV} {h : MH}   (q : Q (some (.inr (.inr (.inr 10)))) h) : Wb rod d B_Reader_wordOf 104 [u0] [] h Q := by
  refine Wb.ret (b_Reader_wordOf_104) ?_
  (first | exact q | (simp only [Option.getD_some]; exact q))
theorem w_Reader_wordOf_107 {rod : Nat → Nat × (Nat → Int32)} {d : Nat} {Q : Option MV → MH → Prop} {u0 : Option MV} {h : MH}   (q : Q (some (.inr (.inr (.inr 11)))) h) : Wb rod d B_Reader_wordOf 107 [u0] [] h Q := by
  refine Wb.ret (b_Reader_wordOf_107) ?_
  (first | exact q | (simp only [Option.getD_some]; exact q))
theorem w_Reader_wordOf_110 {rod : Nat → Nat × (Nat → Int32)} {d : Nat} {Q : Option MV → MH → Prop} {u0 : Option MV} {h : MH}   (q : Q (some (.inr (.inr (.inr 12)))) h) : Wb rod d B_Reader_wordOf 110 [u0] [] h Q := by
  refine Wb.ret (b_Reader_wordOf_110) ?_
  (first | exact q | (simp only [Option.getD_some]; exact q))
theorem w_Reader_wordOf_113 {rod : Nat → Nat × (Nat → Int32)} {d : Nat} {Q : Option MV → MH → Prop} {u0 : Option MV} {h : MH}   (q : Q (some (.inr (.inr (.inr 13)))) h) : Wb rod d B_Reader_wordOf 113 [u0] [] h Q := by
  refine Wb.ret (b_Reader_wordOf_113) ?_
  (first | exact q | (simp only [Option.getD_some]; exact q))
theorem w_Reader_wordOf_116 {rod : Nat → Nat × (Nat → Int32)} {d : Nat} {Q : Option MV → MH → Prop} {u0 : Option MV} {h : MH}   (q : Q (some (.inr (.inr (.inr 14)))) h) : Wb rod d B_Reader_wordOf 116 [u0] [] h Q := by
  refine Wb.ret (b_Reader_wordOf_116) ?_
  (first | exact q | (simp only [Option.getD_some]; exact q))
theorem w_Reader_wordOf_119 {rod : Nat → Nat × (Nat → Int32)} {d : Nat} {Q : Option MV → MH → Prop} {u0 : Option MV} {h : MH}   (q : Q (some (.inr (.inr (.inr 15)))) h) : Wb rod d B_Reader_wordOf 119 [u0] [] h Q := by
  refine Wb.ret (b_Reader_wordOf_119) ?_
  (first | exact q | (simp only [Option.getD_some]; exact q))
theorem w_Reader_wordOf_122 {rod : Nat → Nat × (Nat → Int32)} {d : Nat} {Q : Option MV → MH → Prop} {u0 : Option MV} {h : MH}   (q : Q (some (.inr (.inr (.inr 16)))) h) : Wb rod d B_Reader_wordOf 122 [u0] [] h Q := by
  refine Wb.ret (b_Reader_wordOf_122) ?_
  (first | exact q | (simp only [Option.getD_some]; exact q))
theorem w_Reader_wordOf_125 {rod : Nat → Nat × (Nat → Int32)} {d : Nat} {Q : Option MV → MH → Prop} {u0 : Option MV} {h : MH}   (q : Q (some (.inr (.inr (.inr 17)))) h) : Wb rod d B_Reader_wordOf 125 [u0] [] h Q := by
  refine Wb.ret (b_Reader_wordOf_125) ?_
  (first | exact q | (simp only [Option.getD_some]; exact q))
theorem w_Reader_wordOf_128 {rod : Nat → Nat × (Nat → Int32)} {d : Nat} {Q : Option MV → MH → Prop} {u0 : Option MV} {h : MH}   (q : Q (some (.inr (.inr (.inr 18)))) h) : Wb rod d B_Reader_wordOf 128 [u0] [] h Q := by
  refine Wb.ret (b_Reader_wordOf_128) ?_
  (first | exact q | (simp only [Option.getD_some]; exact q))
theorem w_Reader_wordOf_131 {rod : Nat → Nat × (Nat → Int32)} {d : Nat} {Q : Option MV → MH → Prop} {u0 : Option MV} {h : MH}   (q : Q (some (.inr (.inr (.inr 19)))) h) : Wb rod d B_Reader_wordOf 131 [u0] [] h Q := by
  refine Wb.ret (b_Reader_wordOf_131) ?_
  (first | exact q | (simp only [Option.getD_some]; exact q))
theorem w_Reader_wordOf_134 {rod : Nat → Nat × (Nat → Int32)} {d : Nat} {Q : Option MV → MH → Prop} {u0 : Option MV} {h : MH}   (q : Q (some (.inr (.inr (.inr 20)))) h) : Wb rod d B_Reader_wordOf 134 [u0] [] h Q := by
  refine Wb.ret (b_Reader_wordOf_134) ?_
  (first | exact q | (simp only [Option.getD_some]; exact q))
theorem w_Reader_wordOf_137 {rod : Nat → Nat × (Nat → Int32)} {d : Nat} {Q : Option MV → MH → Prop} {u0 : Option MV} {h : MH}   (q : Q (some (.inr (.inr (.inr 21)))) h) : Wb rod d B_Reader_wordOf 137 [u0] [] h Q := by
  refine Wb.ret (b_Reader_wordOf_137) ?_
  (first | exact q | (simp only [Option.getD_some]; exact q))
theorem w_Reader_wordOf_140 {rod : Nat → Nat × (Nat → Int32)} {d : Nat} {Q : Option MV → MH → Prop} {u0 : Option MV} {h : MH}   (q : Q (some (.inr (.inr (.inr 22)))) h) : Wb rod d B_Reader_wordOf 140 [u0] [] h Q := by
  refine Wb.ret (b_Reader_wordOf_140) ?_
  (first | exact q | (simp only [Option.getD_some]; exact q))
theorem w_Reader_wordOf_143 {rod : Nat → Nat × (Nat → Int32)} {d : Nat} {Q : Option MV → MH → Prop} {u0 : Option MV} {h : MH}   (q : Q (some (.inr (.inr (.inr 17)))) h) : Wb rod d B_Reader_wordOf 143 [u0] [] h Q := by
  refine Wb.ret (b_Reader_wordOf_143) ?_
  (first | exact q | (simp only [Option.getD_some]; exact q))
theorem w_Reader_wordOf_146 {rod : Nat → Nat × (Nat → Int32)} {d : Nat} {Q : Option MV → MH → Prop} {u0 : Option MV} {h : MH}   (q : Q (some (.inr (.inr (.inr 23)))) h) : Wb rod d B_Reader_wordOf 146 [u0] [] h Q := by
  refine Wb.ret (b_Reader_wordOf_146) ?_
  (first | exact q | (simp only [Option.getD_some]; exact q))
theorem w_Reader_wordOf_149 {rod : Nat → Nat × (Nat → Int32)} {d : Nat} {Q : Option MV → MH → Prop} {u0 : Option MV} {h : MH}   (q : Q (some (.inr (.inr (.inr 24)))) h) : Wb rod d B_Reader_wordOf 149 [u0] [] h Q := by
  refine Wb.ret (b_Reader_wordOf_149) ?_
  (first | exact q | (simp only [Option.getD_some]; exact q))
theorem w_Reader_wordOf_152 {rod : Nat → Nat × (Nat → Int32)} {d : Nat} {Q : Option MV → MH → Prop} {u0 : Option MV} {h : MH}   (q : Q (some (.inr (.inr (.inr 25)))) h) : Wb rod d B_Reader_wordOf 152 [u0] [] h Q := by
  refine Wb.ret (b_Reader_wordOf_152) ?_
  (first | exact q | (simp only [Option.getD_some]; exact q))
theorem w_Reader_wordOf_155 {rod : Nat → Nat × (Nat → Int32)} {d : Nat} {Q : Option MV → MH → Prop} {u0 : Option MV} {h : MH}   (q : Q (some (.inr (.inr (.inr 26)))) h) : Wb rod d B_Reader_wordOf 155 [u0] [] h Q := by
  refine Wb.ret (b_Reader_wordOf_155) ?_
  (first | exact q | (simp only [Option.getD_some]; exact q))
theorem w_Reader_wordOf_158 {rod : Nat → Nat × (Nat → Int32)} {d : Nat} {Q : Option MV → MH → Prop} {u0 : Option MV} {h : MH}   (q : Q (some (.inr (.inr (.inr 27)))) h) : Wb rod d B_Reader_wordOf 158 [u0] [] h Q := by
  refine Wb.ret (b_Reader_wordOf_158) ?_
  (first | exact q | (simp only [Option.getD_some]; exact q))
theorem w_Reader_wordOf_161 {rod : Nat → Nat × (Nat → Int32)} {d : Nat} {Q : Option MV → MH → Prop} {u0 : Option MV} {h : MH}   (q : Q (some (.inr (.inr (.inr 28)))) h) : Wb rod d B_Reader_wordOf 161 [u0] [] h Q := by
  refine Wb.ret (b_Reader_wordOf_161) ?_
  (first | exact q | (simp only [Option.getD_some]; exact q))
theorem w_Reader_wordOf_164 {rod : Nat → Nat × (Nat → Int32)} {d : Nat} {Q : Option MV → MH → Prop} {u0 : Option MV} {h : MH}   (q : Q (some (.inr (.inr (.inr 29)))) h) : Wb rod d B_Reader_wordOf 164 [u0] [] h Q := by
  refine Wb.ret (b_Reader_wordOf_164) ?_
  (first | exact q | (simp only [Option.getD_some]; exact q))
theorem w_Reader_wordOf_167 {rod : Nat → Nat × (Nat → Int32)} {d : Nat} {Q : Option MV → MH → Prop} {u0 : Option MV} {h : MH}   (q : Q (some (.inr (.inr (.inr 30)))) h) : Wb rod d B_Reader_wordOf 167 [u0] [] h Q := by
  refine Wb.ret (b_Reader_wordOf_167) ?_
  (first | exact q | (simp only [Option.getD_some]; exact q))
theorem w_Reader_wordOf_171 {rod : Nat → Nat × (Nat → Int32)} {d : Nat} {Q : Option MV → MH → Prop} {u0 : Option MV} {h : MH}   (q : Q (some (.inr (.inr (.inr 31)))) h) : Wb rod d B_Reader_wordOf 171 [u0] [] h Q := by
  refine Wb.ret (b_Reader_wordOf_171) ?_
  (first | exact q | (simp only [Option.getD_some]; exact q))
theorem n_Reader_isOnTape {rod : Nat → Nat × (Nat → Int32)} {d : Nat} {Q : Option MV → MH → Prop} {j1 : Nat} {h : MH} (k : Wb rod d B_Reader_isOnTape 0 [some (.inr (.inr (.inl (some 45)))), some (.inr (.inr (.inr j1))), none] [] h Q) : Wc rod (d + 1) 33 [.inr (.inr (.inl (some 45))), .inr (.inr (.inr j1))] h Q := Wc.en (fun _ _ => e_Reader_isOnTape) k
theorem w_Reader_isOnTape_0 {rod : Nat → Nat × (Nat → Int32)} {d : Nat} {Q : Option MV → MH → Prop} {u0 : Option MV} {j1 : Nat} {u2 : Option MV} {h : MH}  (g0 : isSt j1 = true) {Q1 : Option MV → MH → Prop} (c : Wc rod d 34 [.inr (.inr (.inr j1))] h Q1) (k : ∀ r1 h2, Q1 r1 h2 → Wb rod d B_Reader_isOnTape 4 [u0, some (.inr (.inr (.inr j1))), u2] (r1.toList ++ []) h2 Q) : Wb rod d B_Reader_isOnTape 0 [u0, some (.inr (.inr (.inr j1))), u2] [] h Q := by
  refine Wb.call (fun _ _ _ _ => b_Reader_isOnTape_0 g0) (Q1 := Q1) ?_ ?_
  · (first | exact c | (simp only [Option.getD_some]; exact c))
  · (first | exact k | (simp only [Option.getD_some]; exact k))
theorem w_Reader_isOnTape_4 {rod : Nat → Nat × (Nat → Int32)} {d : Nat} {Q : Option MV → MH → Prop} {u1 : Option MV} {u2 : Option MV} {xs0 : Int32} {h : MH} (L : Lay h.2)  (k1 : xs0.toInt = ((h.1 45 6) - (h.1 45 8)).toInt → Wb rod d B_Reader_isOnTape 18 [some (.inr (.inr (.inl (some 45)))), u1, u2] [] h Q) (k2 : ¬ xs0.toInt = ((h.1 45 6) - (h.1 45 8)).toInt → Wb rod d B_Reader_isOnTape 16 [some (.inr (.inr (.inl (some 45)))), u1, u2] [] h Q) : Wb rod d B_Reader_isOnTape 4 [some (.inr (.inr (.inl (some 45)))), u1, u2] [.inl xs0] h Q := by
  refine Wb.br (fun _ _ => b_Reader_isOnTape_4 (Lay.o45 L)) (fun c => ?_) (fun c => ?_)
  · have c : (decide (xs0 = ((h.1 45 6) - (h.1 45 8)))) = true := by first | exact c | (simp only [Option.getD_some] at c; exact c)
    (first | exact (k1 (c_eqt c)) | (simp only [Option.getD_some]; exact (k1 (c_eqt c))))
  · have c : (decide (xs0 = ((h.1 45 6) - (h.1 45 8)))) = false := by first | exact c | (simp only [Option.getD_some] at c; exact c)
    (first | exact (k2 (c_eqf c)) | (simp only [Option.getD_some]; exact (k2 (c_eqf c))))
theorem w_Reader_isOnTape_16 {rod : Nat → Nat × (Nat → Int32)} {d : Nat} {Q : Option MV → MH → Prop} {u0 : Option MV} {u1 : Option MV} {u2 : Option MV} {h : MH}   (q : Q (some (.inl (0 : Int32))) h) : Wb rod d B_Reader_isOnTape 16 [u0, u1, u2] [] h Q := by
  refine Wb.ret (b_Reader_isOnTape_16) ?_
  (first | exact q | (simp only [Option.getD_some]; exact q))
theorem w_Reader_isOnTape_18 {rod : Nat → Nat × (Nat → Int32)} {d : Nat} {Q : Option MV → MH → Prop} {u0 : Option MV} {u1 : Option MV} {u2 : Option MV} {h : MH}  (g0 : okl [u0, u1, u2] 2 = true) (k : Wb rod d B_Reader_isOnTape 20 [u0, u1, some (.inl (0 : Int32))] [] h Q) : Wb rod d B_Reader_isOnTape 18 [u0, u1, u2] [] h Q := by
  refine Wb.go (fun r hr q => b_Reader_isOnTape_18 g0 ?_) k
  (first | exact q | (simp only [Option.getD_some]; exact q))
theorem w_Reader_isOnTape_20 {rod : Nat → Nat × (Nat → Int32)} {d : Nat} {Q : Option MV → MH → Prop} {u0 : Option MV} {j1 : Nat} {x2 : Int32} {h : MH}  (g0 : isSt j1 = true) {Q1 : Option MV → MH → Prop} (c : Wc rod d 34 [.inr (.inr (.inr j1))] h Q1) (k : ∀ r1 h2, Q1 r1 h2 → Wb rod d B_Reader_isOnTape 25 [u0, some (.inr (.inr (.inr j1))), some (.inl x2)] (r1.toList ++ [.inl x2]) h2 Q) : Wb rod d B_Reader_isOnTape 20 [u0, some (.inr (.inr (.inr j1))), some (.inl x2)] [] h Q := by
  refine Wb.call (fun _ _ _ _ => b_Reader_isOnTape_20 g0) (Q1 := Q1) ?_ ?_
  · (first | exact c | (simp only [Option.getD_some]; exact c))
  · (first | exact k | (simp only [Option.getD_some]; exact k))
theorem w_Reader_isOnTape_25 {rod : Nat → Nat × (Nat → Int32)} {d : Nat} {Q : Option MV → MH → Prop} {u0 : Option MV} {u1 : Option MV} {u2 : Option MV} {xs0 : Int32} {xs1 : Int32} {h : MH}   (k1 : xs1.toInt ≤ xs0.toInt → Wb rod d B_Reader_isOnTape 54 [u0, u1, u2] [] h Q) (k2 : ¬ xs1.toInt ≤ xs0.toInt → Wb rod d B_Reader_isOnTape 28 [u0, u1, u2] [] h Q) : Wb rod d B_Reader_isOnTape 25 [u0, u1, u2] [.inl xs1, .inl xs0] h Q := by
  refine Wb.br (fun _ _ => b_Reader_isOnTape_25) (fun c => ?_) (fun c => ?_)
  · have c : (decide (xs1 ≤ xs0)) = true := by first | exact c | (simp only [Option.getD_some] at c; exact c)
    (first | exact (k1 (c_let c)) | (simp only [Option.getD_some]; exact (k1 (c_let c))))
  · have c : (decide (xs1 ≤ xs0)) = false := by first | exact c | (simp only [Option.getD_some] at c; exact c)
    (first | exact (k2 (c_lef c)) | (simp only [Option.getD_some]; exact (k2 (c_lef c))))
theorem w_Reader_isOnTape_28 {rod : Nat → Nat × (Nat → Int32)} {d : Nat} {Q : Option MV → MH → Prop} {u0 : Option MV} {j1 : Nat} {x2 : Int32} {h : MH}  (g0 : isSt j1 = true) {Q1 : Option MV → MH → Prop} (c : Wc rod d 36 [.inr (.inr (.inr j1)), .inl x2] h Q1) (k : ∀ r1 h2, Q1 r1 h2 → Wb rod d B_Reader_isOnTape 33 [u0, some (.inr (.inr (.inr j1))), some (.inl x2)] (r1.toList ++ []) h2 Q) : Wb rod d B_Reader_isOnTape 28 [u0, some (.inr (.inr (.inr j1))), some (.inl x2)] [] h Q := by
  refine Wb.call (fun _ _ _ _ => b_Reader_isOnTape_28 g0) (Q1 := Q1) ?_ ?_
  · (first | exact c | (simp only [Option.getD_some]; exact c))
  · (first | exact k | (simp only [Option.getD_some]; exact k))
theorem w_Reader_isOnTape_33 {rod : Nat → Nat × (Nat → Int32)} {d : Nat} {Q : Option MV → MH → Prop} {u1 : Option MV} {x2 : Int32} {xs0 : Int32} {h : MH} (L : Lay h.2)  {Q1 : Option MV → MH → Prop} (c : Wc rod d 27 [.inr (.inr (.inl (some 45))), .inl ((h.1 45 8) + x2)] h Q1) (k : ∀ r1 h2, Q1 r1 h2 → Wb rod d B_Reader_isOnTape 43 [some (.inr (.inr (.inl (some 45)))), u1, some (.inl x2)] (r1.toList ++ [.inl xs0]) h2 Q) : Wb rod d B_Reader_isOnTape 33 [some (.inr (.inr (.inl (some 45)))), u1, some (.inl x2)] [.inl xs0] h Q := by
  refine Wb.call (fun _ _ _ _ => b_Reader_isOnTape_33 (Lay.o45 L)) (Q1 := Q1) ?_ ?_
  · (first | exact c | (simp only [Option.getD_some]; exact c))
  · (first | exact k | (simp only [Option.getD_some]; exact k))
theorem w_Reader_isOnTape_43 {rod : Nat → Nat × (Nat → Int32)} {d : Nat} {Q : Option MV → MH → Prop} {u0 : Option MV} {u1 : Option MV} {u2 : Option MV} {xs0 : Int32} {xs1 : Int32} {h : MH}   (k1 : xs0.toInt = xs1.toInt → Wb rod d B_Reader_isOnTape 48 [u0, u1, u2] [] h Q) (k2 : ¬ xs0.toInt = xs1.toInt → Wb rod d B_Reader_isOnTape 46 [u0, u1, u2] [] h Q) : Wb rod d B_Reader_isOnTape 43 [u0, u1, u2] [.inl xs1, .inl xs0] h Q := by
  refine Wb.br (fun _ _ => b_Reader_isOnTape_43) (fun c => ?_) (fun c => ?_)
  · have c : (decide (xs0 = xs1)) = true := by first | exact c | (simp only [Option.getD_some] at c; exact c)
    (first | exact (k1 (c_eqt c)) | (simp only [Option.getD_some]; exact (k1 (c_eqt c))))
  · have c : (decide (xs0 = xs1)) = false := by first | exact c | (simp only [Option.getD_some] at c; exact c)
    (first | exact (k2 (c_eqf c)) | (simp only [Option.getD_some]; exact (k2 (c_eqf c))))
theorem w_Reader_isOnTape_46 {rod : Nat → Nat × (Nat → Int32)} {d : Nat} {Q : Option MV → MH → Prop} {u0 : Option MV} {u1 : Option MV} {u2 : Option MV} {h : MH}   (q : Q (some (.inl (0 : Int32))) h) : Wb rod d B_Reader_isOnTape 46 [u0, u1, u2] [] h Q := by
  refine Wb.ret (b_Reader_isOnTape_46) ?_
  (first | exact q | (simp only [Option.getD_some]; exact q))
theorem w_Reader_isOnTape_48 {rod : Nat → Nat × (Nat → Int32)} {d : Nat} {Q : Option MV → MH → Prop} {u0 : Option MV} {u1 : Option MV} {x2 : Int32} {h : MH}  (g0 : okl [u0, u1, some (.inl x2)] 2 = true) (k : Wb rod d B_Reader_isOnTape 20 [u0, u1, some (.inl (x2 + 1))] [] h Q) : Wb rod d B_Reader_isOnTape 48 [u0, u1, some (.inl x2)] [] h Q := by
  refine Wb.go (fun r hr q => b_Reader_isOnTape_48 g0 ?_) k
  (first | exact q | (simp only [Option.getD_some]; exact q))
theorem w_Reader_isOnTape_54 {rod : Nat → Nat × (Nat → Int32)} {d : Nat} {Q : Option MV → MH → Prop} {u0 : Option MV} {u1 : Option MV} {u2 : Option MV} {h : MH}   (q : Q (some (.inl (1 : Int32))) h) : Wb rod d B_Reader_isOnTape 54 [u0, u1, u2] [] h Q := by
  refine Wb.ret (b_Reader_isOnTape_54) ?_
  (first | exact q | (simp only [Option.getD_some]; exact q))
theorem n_Reader_refuse {rod : Nat → Nat × (Nat → Int32)} {d : Nat} {Q : Option MV → MH → Prop}  {h : MH} (k : Wb rod d B_Reader_refuse 0 [some (.inr (.inr (.inl (some 45))))] [] h Q) : Wc rod (d + 1) 41 [.inr (.inr (.inl (some 45)))] h Q := Wc.en (fun _ _ => e_Reader_refuse) k
theorem w_Reader_refuse_0 {rod : Nat → Nat × (Nat → Int32)} {d : Nat} {Q : Option MV → MH → Prop}  {h : MH} (L : Lay h.2)  (k : Wb rod d B_Reader_refuse 5 [some (.inr (.inr (.inl (some 45))))] [] (sI h 45 11 (1 : Int32)) Q) : Wb rod d B_Reader_refuse 0 [some (.inr (.inr (.inl (some 45))))] [] h Q := by
  refine Wb.go (fun r hr q => b_Reader_refuse_0 (Lay.o45 L) ?_) k
  (first | exact q | (simp only [Option.getD_some]; exact q))
theorem w_Reader_refuse_5 {rod : Nat → Nat × (Nat → Int32)} {d : Nat} {Q : Option MV → MH → Prop}  {h : MH} (L : Lay h.2)  (k : Wb rod d B_Reader_refuse 13 [some (.inr (.inr (.inl (some 45))))] [] (sI h 45 12 (h.1 45 8)) Q) : Wb rod d B_Reader_refuse 5 [some (.inr (.inr (.inl (some 45))))] [] h Q := by
  refine Wb.go (fun r hr q => b_Reader_refuse_5 (Lay.o45 L) ?_) k
  (first | exact q | (simp only [Option.getD_some]; exact q))
theorem w_Reader_refuse_13 {rod : Nat → Nat × (Nat → Int32)} {d : Nat} {Q : Option MV → MH → Prop} {u0 : Option MV} {h : MH}   (q : Q (none) h) : Wb rod d B_Reader_refuse 13 [u0] [] h Q := by
  refine Wb.ret (b_Reader_refuse_13) ?_
  (first | exact q | (simp only [Option.getD_some]; exact q))
theorem n_Reader_isOneTooMany {rod : Nat → Nat × (Nat → Int32)} {d : Nat} {Q : Option MV → MH → Prop} {x1 : Int32} {h : MH} (k : Wb rod d B_Reader_isOneTooMany 0 [some (.inr (.inr (.inl (some 45)))), some (.inl x1)] [] h Q) : Wc rod (d + 1) 42 [.inr (.inr (.inl (some 45))), .inl x1] h Q := Wc.en (fun _ _ => e_Reader_isOneTooMany) k
theorem w_Reader_isOneTooMany_0 {rod : Nat → Nat × (Nat → Int32)} {d : Nat} {Q : Option MV → MH → Prop} {u0 : Option MV} {x1 : Int32} {h : MH}   (k1 : 4 ≤ x1.toInt → Wb rod d B_Reader_isOneTooMany 23 [u0, some (.inl x1)] [] h Q) (k2 : ¬ 4 ≤ x1.toInt → Wb rod d B_Reader_isOneTooMany 5 [u0, some (.inl x1)] [] h Q) : Wb rod d B_Reader_isOneTooMany 0 [u0, some (.inl x1)] [] h Q := by
  refine Wb.br (fun _ _ => b_Reader_isOneTooMany_0) (fun c => ?_) (fun c => ?_)
  · have c : (decide ((4 : Int32) ≤ x1)) = true := by first | exact c | (simp only [Option.getD_some] at c; exact c)
    (first | exact (k1 (c_let c)) | (simp only [Option.getD_some]; exact (k1 (c_let c))))
  · have c : (decide ((4 : Int32) ≤ x1)) = false := by first | exact c | (simp only [Option.getD_some] at c; exact c)
    (first | exact (k2 (c_lef c)) | (simp only [Option.getD_some]; exact (k2 (c_lef c))))
theorem w_Reader_isOneTooMany_5 {rod : Nat → Nat × (Nat → Int32)} {d : Nat} {Q : Option MV → MH → Prop} {u1 : Option MV} {h : MH} (L : Lay h.2)  (k1 : (h.1 46 4).toInt < 8 → Wb rod d B_Reader_isOneTooMany 21 [some (.inr (.inr (.inl (some 45)))), u1] [] h Q) (k2 : ¬ (h.1 46 4).toInt < 8 → Wb rod d B_Reader_isOneTooMany 17 [some (.inr (.inr (.inl (some 45)))), u1] [] h Q) : Wb rod d B_Reader_isOneTooMany 5 [some (.inr (.inr (.inl (some 45)))), u1] [] h Q := by
  refine Wb.br (fun _ _ => b_Reader_isOneTooMany_5 (Lay.o45 L) (Lay.k45_1 L)) (fun c => ?_) (fun c => ?_)
  · have c : (decide ((h.1 46 4) < (8 : Int32))) = true := by first | exact c | (simp only [Option.getD_some, (Lay.r45_1 L)] at c; exact c)
    (first | exact (k1 (c_ltt c)) | (simp only [Option.getD_some, (Lay.r45_1 L)]; exact (k1 (c_ltt c))))
  · have c : (decide ((h.1 46 4) < (8 : Int32))) = false := by first | exact c | (simp only [Option.getD_some, (Lay.r45_1 L)] at c; exact c)
    (first | exact (k2 (c_ltf c)) | (simp only [Option.getD_some, (Lay.r45_1 L)]; exact (k2 (c_ltf c))))
theorem w_Reader_isOneTooMany_17 {rod : Nat → Nat × (Nat → Int32)} {d : Nat} {Q : Option MV → MH → Prop} {u0 : Option MV} {u1 : Option MV} {h : MH}   (k : Wb rod d B_Reader_isOneTooMany 22 [u0, u1] [.inl (1 : Int32)] h Q) : Wb rod d B_Reader_isOneTooMany 17 [u0, u1] [] h Q := by
  refine Wb.go (fun r hr q => b_Reader_isOneTooMany_17 ?_) k
  (first | exact q | (simp only [Option.getD_some]; exact q))
theorem w_Reader_isOneTooMany_21 {rod : Nat → Nat × (Nat → Int32)} {d : Nat} {Q : Option MV → MH → Prop} {u0 : Option MV} {u1 : Option MV} {h : MH}   (k : Wb rod d B_Reader_isOneTooMany 22 [u0, u1] [.inl (0 : Int32)] h Q) : Wb rod d B_Reader_isOneTooMany 21 [u0, u1] [] h Q := by
  refine Wb.go (fun r hr q => b_Reader_isOneTooMany_21 ?_) k
  (first | exact q | (simp only [Option.getD_some]; exact q))
theorem w_Reader_isOneTooMany_22 {rod : Nat → Nat × (Nat → Int32)} {d : Nat} {Q : Option MV → MH → Prop} {u0 : Option MV} {u1 : Option MV} {xs0 : Int32} {h : MH}  (g0 : xs0 = 0 ∨ xs0 = 1) (q : Q (some (.inl xs0)) h) : Wb rod d B_Reader_isOneTooMany 22 [u0, u1] [.inl xs0] h Q := by
  refine Wb.ret (b_Reader_isOneTooMany_22 (d01 g0)) ?_
  (first | exact q | (simp only [Option.getD_some]; exact q))
theorem w_Reader_isOneTooMany_23 {rod : Nat → Nat × (Nat → Int32)} {d : Nat} {Q : Option MV → MH → Prop} {u0 : Option MV} {x1 : Int32} {h : MH}   (k1 : ¬ x1.toInt = 5 → Wb rod d B_Reader_isOneTooMany 45 [u0, some (.inl x1)] [] h Q) (k2 : x1.toInt = 5 → Wb rod d B_Reader_isOneTooMany 28 [u0, some (.inl x1)] [] h Q) : Wb rod d B_Reader_isOneTooMany 23 [u0, some (.inl x1)] [] h Q := by
  refine Wb.br (fun _ _ => b_Reader_isOneTooMany_23) (fun c => ?_) (fun c => ?_)
  · have c : (!(decide (x1 = (5 : Int32)))) = true := by first | exact c | (simp only [Option.getD_some] at c; exact c)
    (first | exact (k1 (c_net c)) | (simp only [Option.getD_some]; exact (k1 (c_net c))))
  · have c : (!(decide (x1 = (5 : Int32)))) = false := by first | exact c | (simp only [Option.getD_some] at c; exact c)
    (first | exact (k2 (c_nef c)) | (simp only [Option.getD_some]; exact (k2 (c_nef c))))
theorem w_Reader_isOneTooMany_28 {rod : Nat → Nat × (Nat → Int32)} {d : Nat} {Q : Option MV → MH → Prop} {u1 : Option MV} {h : MH} (L : Lay h.2)  (k1 : (h.1 46 5).toInt < 4 → Wb rod d B_Reader_isOneTooMany 43 [some (.inr (.inr (.inl (some 45)))), u1] [] h Q) (k2 : ¬ (h.1 46 5).toInt < 4 → Wb rod d B_Reader_isOneTooMany 39 [some (.inr (.inr (.inl (some 45)))), u1] [] h Q) : Wb rod d B_Reader_isOneTooMany 28 [some (.inr (.inr (.inl (some 45)))), u1] [] h Q := by
  refine Wb.br (fun _ _ => b_Reader_isOneTooMany_28 (Lay.o45 L) (Lay.k45_1 L)) (fun c => ?_) (fun c => ?_)
  · have c : (decide ((h.1 46 5) < (4 : Int32))) = true := by first | exact c | (simp only [Option.getD_some, (Lay.r45_1 L)] at c; exact c)
    (first | exact (k1 (c_ltt c)) | (simp only [Option.getD_some, (Lay.r45_1 L)]; exact (k1 (c_ltt c))))
  · have c : (decide ((h.1 46 5) < (4 : Int32))) = false := by first | exact c | (simp only [Option.getD_some, (Lay.r45_1 L)] at c; exact c)
    (first | exact (k2 (c_ltf c)) | (simp only [Option.getD_some, (Lay.r45_1 L)]; exact (k2 (c_ltf c))))
theorem w_Reader_isOneTooMany_39 {rod : Nat → Nat × (Nat → Int32)} {d : Nat} {Q : Option MV → MH → Prop} {u0 : Option MV} {u1 : Option MV} {h : MH}   (k : Wb rod d B_Reader_isOneTooMany 44 [u0, u1] [.inl (1 : Int32)] h Q) : Wb rod d B_Reader_isOneTooMany 39 [u0, u1] [] h Q := by
  refine Wb.go (fun r hr q => b_Reader_isOneTooMany_39 ?_) k
  (first | exact q | (simp only [Option.getD_some]; exact q))
theorem w_Reader_isOneTooMany_43 {rod : Nat → Nat × (Nat → Int32)} {d : Nat} {Q : Option MV → MH → Prop} {u0 : Option MV} {u1 : Option MV} {h : MH}   (k : Wb rod d B_Reader_isOneTooMany 44 [u0, u1] [.inl (0 : Int32)] h Q) : Wb rod d B_Reader_isOneTooMany 43 [u0, u1] [] h Q := by
  refine Wb.go (fun r hr q => b_Reader_isOneTooMany_43 ?_) k
  (first | exact q | (simp only [Option.getD_some]; exact q))
theorem w_Reader_isOneTooMany_44 {rod : Nat → Nat × (Nat → Int32)} {d : Nat} {Q : Option MV → MH → Prop} {u0 : Option MV} {u1 : Option MV} {xs0 : Int32} {h : MH}  (g0 : xs0 = 0 ∨ xs0 = 1) (q : Q (some (.inl xs0)) h) : Wb rod d B_Reader_isOneTooMany 44 [u0, u1] [.inl xs0] h Q := by
  refine Wb.ret (b_Reader_isOneTooMany_44 (d01 g0)) ?_
  (first | exact q | (simp only [Option.getD_some]; exact q))
theorem w_Reader_isOneTooMany_45 {rod : Nat → Nat × (Nat → Int32)} {d : Nat} {Q : Option MV → MH → Prop} {u0 : Option MV} {x1 : Int32} {h : MH}   (k1 : x1.toInt < 10 → Wb rod d B_Reader_isOneTooMany 75 [u0, some (.inl x1)] [] h Q) (k2 : ¬ x1.toInt < 10 → Wb rod d B_Reader_isOneTooMany 51 [u0, some (.inl x1)] [] h Q) : Wb rod d B_Reader_isOneTooMany 45 [u0, some (.inl x1)] [] h Q := by
  refine Wb.br (fun _ _ => b_Reader_isOneTooMany_45) (fun c => ?_) (fun c => ?_)
  · have c : (decide (x1 < (10 : Int32))) = true := by first | exact c | (simp only [Option.getD_some] at c; exact c)
    (first | exact (k1 (c_ltt c)) | (simp only [Option.getD_some]; exact (k1 (c_ltt c))))
  · have c : (decide (x1 < (10 : Int32))) = false := by first | exact c | (simp only [Option.getD_some] at c; exact c)
    (first | exact (k2 (c_ltf c)) | (simp only [Option.getD_some]; exact (k2 (c_ltf c))))
theorem w_Reader_isOneTooMany_51 {rod : Nat → Nat × (Nat → Int32)} {d : Nat} {Q : Option MV → MH → Prop} {u0 : Option MV} {x1 : Int32} {h : MH}   (k1 : 17 ≤ x1.toInt → Wb rod d B_Reader_isOneTooMany 75 [u0, some (.inl x1)] [] h Q) (k2 : ¬ 17 ≤ x1.toInt → Wb rod d B_Reader_isOneTooMany 57 [u0, some (.inl x1)] [] h Q) : Wb rod d B_Reader_isOneTooMany 51 [u0, some (.inl x1)] [] h Q := by
  refine Wb.br (fun _ _ => b_Reader_isOneTooMany_51) (fun c => ?_) (fun c => ?_)
  · have c : (decide ((17 : Int32) ≤ x1)) = true := by first | exact c | (simp only [Option.getD_some] at c; exact c)
    (first | exact (k1 (c_let c)) | (simp only [Option.getD_some]; exact (k1 (c_let c))))
  · have c : (decide ((17 : Int32) ≤ x1)) = false := by first | exact c | (simp only [Option.getD_some] at c; exact c)
    (first | exact (k2 (c_lef c)) | (simp only [Option.getD_some]; exact (k2 (c_lef c))))
theorem w_Reader_isOneTooMany_57 {rod : Nat → Nat × (Nat → Int32)} {d : Nat} {Q : Option MV → MH → Prop} {u1 : Option MV} {h : MH} (L : Lay h.2)  (k1 : (h.1 55 0).toInt < 40 → Wb rod d B_Reader_isOneTooMany 73 [some (.inr (.inr (.inl (some 45)))), u1] [] h Q) (k2 : ¬ (h.1 55 0).toInt < 40 → Wb rod d B_Reader_isOneTooMany 69 [some (.inr (.inr (.inl (some 45)))), u1] [] h Q) : Wb rod d B_Reader_isOneTooMany 57 [some (.inr (.inr (.inl (some 45)))), u1] [] h Q := by
  refine Wb.br (fun _ _ => b_Reader_isOneTooMany_57 (Lay.o45 L) (Lay.k45_2 L)) (fun c => ?_) (fun c => ?_)
  · have c : (decide ((h.1 55 0) < (40 : Int32))) = true := by first | exact c | (simp only [Option.getD_some, (Lay.r45_2 L)] at c; exact c)
    (first | exact (k1 (c_ltt c)) | (simp only [Option.getD_some, (Lay.r45_2 L)]; exact (k1 (c_ltt c))))
  · have c : (decide ((h.1 55 0) < (40 : Int32))) = false := by first | exact c | (simp only [Option.getD_some, (Lay.r45_2 L)] at c; exact c)
    (first | exact (k2 (c_ltf c)) | (simp only [Option.getD_some, (Lay.r45_2 L)]; exact (k2 (c_ltf c))))
theorem w_Reader_isOneTooMany_69 {rod : Nat → Nat × (Nat → Int32)} {d : Nat} {Q : Option MV → MH → Prop} {u0 : Option MV} {u1 : Option MV} {h : MH}   (k : Wb rod d B_Reader_isOneTooMany 74 [u0, u1] [.inl (1 : Int32)] h Q) : Wb rod d B_Reader_isOneTooMany 69 [u0, u1] [] h Q := by
  refine Wb.go (fun r hr q => b_Reader_isOneTooMany_69 ?_) k
  (first | exact q | (simp only [Option.getD_some]; exact q))
theorem w_Reader_isOneTooMany_73 {rod : Nat → Nat × (Nat → Int32)} {d : Nat} {Q : Option MV → MH → Prop} {u0 : Option MV} {u1 : Option MV} {h : MH}   (k : Wb rod d B_Reader_isOneTooMany 74 [u0, u1] [.inl (0 : Int32)] h Q) : Wb rod d B_Reader_isOneTooMany 73 [u0, u1] [] h Q := by
  refine Wb.go (fun r hr q => b_Reader_isOneTooMany_73 ?_) k
  (first | exact q | (simp only [Option.getD_some]; exact q))
theorem w_Reader_isOneTooMany_74 {rod : Nat → Nat × (Nat → Int32)} {d : Nat} {Q : Option MV → MH → Prop} {u0 : Option MV} {u1 : Option MV} {xs0 : Int32} {h : MH}  (g0 : xs0 = 0 ∨ xs0 = 1) (q : Q (some (.inl xs0)) h) : Wb rod d B_Reader_isOneTooMany 74 [u0, u1] [.inl xs0] h Q := by
  refine Wb.ret (b_Reader_isOneTooMany_74 (d01 g0)) ?_
  (first | exact q | (simp only [Option.getD_some]; exact q))
theorem w_Reader_isOneTooMany_75 {rod : Nat → Nat × (Nat → Int32)} {d : Nat} {Q : Option MV → MH → Prop} {u0 : Option MV} {x1 : Int32} {h : MH}   (k1 : x1.toInt < 17 → Wb rod d B_Reader_isOneTooMany 103 [u0, some (.inl x1)] [] h Q) (k2 : ¬ x1.toInt < 17 → Wb rod d B_Reader_isOneTooMany 81 [u0, some (.inl x1)] [] h Q) : Wb rod d B_Reader_isOneTooMany 75 [u0, some (.inl x1)] [] h Q := by
  refine Wb.br (fun _ _ => b_Reader_isOneTooMany_75) (fun c => ?_) (fun c => ?_)
  · have c : (decide (x1 < (17 : Int32))) = true := by first | exact c | (simp only [Option.getD_some] at c; exact c)
    (first | exact (k1 (c_ltt c)) | (simp only [Option.getD_some]; exact (k1 (c_ltt c))))
  · have c : (decide (x1 < (17 : Int32))) = false := by first | exact c | (simp only [Option.getD_some] at c; exact c)
    (first | exact (k2 (c_ltf c)) | (simp only [Option.getD_some]; exact (k2 (c_ltf c))))
theorem w_Reader_isOneTooMany_81 {rod : Nat → Nat × (Nat → Int32)} {d : Nat} {Q : Option MV → MH → Prop} {u0 : Option MV} {x1 : Int32} {h : MH}   (k1 : 21 ≤ x1.toInt → Wb rod d B_Reader_isOneTooMany 103 [u0, some (.inl x1)] [] h Q) (k2 : ¬ 21 ≤ x1.toInt → Wb rod d B_Reader_isOneTooMany 87 [u0, some (.inl x1)] [] h Q) : Wb rod d B_Reader_isOneTooMany 81 [u0, some (.inl x1)] [] h Q := by
  refine Wb.br (fun _ _ => b_Reader_isOneTooMany_81) (fun c => ?_) (fun c => ?_)
  · have c : (decide ((21 : Int32) ≤ x1)) = true := by first | exact c | (simp only [Option.getD_some] at c; exact c)
    (first | exact (k1 (c_let c)) | (simp only [Option.getD_some]; exact (k1 (c_let c))))
  · have c : (decide ((21 : Int32) ≤ x1)) = false := by first | exact c | (simp only [Option.getD_some] at c; exact c)
    (first | exact (k2 (c_lef c)) | (simp only [Option.getD_some]; exact (k2 (c_lef c))))
theorem w_Reader_isOneTooMany_87 {rod : Nat → Nat × (Nat → Int32)} {d : Nat} {Q : Option MV → MH → Prop} {u1 : Option MV} {h : MH} (L : Lay h.2)  (k1 : (h.1 59 0).toInt < 20 → Wb rod d B_Reader_isOneTooMany 103 [some (.inr (.inr (.inl (some 45)))), u1] [] h Q) (k2 : ¬ (h.1 59 0).toInt < 20 → Wb rod d B_Reader_isOneTooMany 99 [some (.inr (.inr (.inl (some 45)))), u1] [] h Q) : Wb rod d B_Reader_isOneTooMany 87 [some (.inr (.inr (.inl (some 45)))), u1] [] h Q := by
  refine Wb.br (fun _ _ => b_Reader_isOneTooMany_87 (Lay.o45 L) (Lay.k45_3 L)) (fun c => ?_) (fun c => ?_)
  · have c : (decide ((h.1 59 0) < (20 : Int32))) = true := by first | exact c | (simp only [Option.getD_some, (Lay.r45_3 L)] at c; exact c)
    (first | exact (k1 (c_ltt c)) | (simp only [Option.getD_some, (Lay.r45_3 L)]; exact (k1 (c_ltt c))))
  · have c : (decide ((h.1 59 0) < (20 : Int32))) = false := by first | exact c | (simp only [Option.getD_some, (Lay.r45_3 L)] at c; exact c)
    (first | exact (k2 (c_ltf c)) | (simp only [Option.getD_some, (Lay.r45_3 L)]; exact (k2 (c_ltf c))))
theorem w_Reader_isOneTooMany_99 {rod : Nat → Nat × (Nat → Int32)} {d : Nat} {Q : Option MV → MH → Prop} {u0 : Option MV} {u1 : Option MV} {h : MH}   (k : Wb rod d B_Reader_isOneTooMany 104 [u0, u1] [.inl (1 : Int32)] h Q) : Wb rod d B_Reader_isOneTooMany 99 [u0, u1] [] h Q := by
  refine Wb.go (fun r hr q => b_Reader_isOneTooMany_99 ?_) k
  (first | exact q | (simp only [Option.getD_some]; exact q))
theorem w_Reader_isOneTooMany_103 {rod : Nat → Nat × (Nat → Int32)} {d : Nat} {Q : Option MV → MH → Prop} {u0 : Option MV} {u1 : Option MV} {h : MH}   (k : Wb rod d B_Reader_isOneTooMany 104 [u0, u1] [.inl (0 : Int32)] h Q) : Wb rod d B_Reader_isOneTooMany 103 [u0, u1] [] h Q := by
  refine Wb.go (fun r hr q => b_Reader_isOneTooMany_103 ?_) k
  (first | exact q | (simp only [Option.getD_some]; exact q))
theorem w_Reader_isOneTooMany_104 {rod : Nat → Nat × (Nat → Int32)} {d : Nat} {Q : Option MV → MH → Prop} {u0 : Option MV} {u1 : Option MV} {xs0 : Int32} {h : MH}  (g0 : xs0 = 0 ∨ xs0 = 1) (q : Q (some (.inl xs0)) h) : Wb rod d B_Reader_isOneTooMany 104 [u0, u1] [.inl xs0] h Q := by
  refine Wb.ret (b_Reader_isOneTooMany_104 (d01 g0)) ?_
  (first | exact q | (simp only [Option.getD_some]; exact q))
