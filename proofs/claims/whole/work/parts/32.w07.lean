/-! RULES OF BLOCKS over postconditions, references resolved (7) -/
theorem n_Main_within {rod : Nat → Nat × (Nat → Int32)} {d : Nat} {Q : Option MV → MH → Prop} {x1 : Int32} {x2 : Int32} {h : MH} (k : Wb rod d B_Main_within 0 [some (.inr (.inr (.inl (some 0)))), some (.inl x1), some (.inl x2), none] [] h Q) : Wc rod (d + 1) 180 [.inr (.inr (.inl (some 0))), .inl x1, .inl x2] h Q := Wc.en (fun _ _ => e_Main_within) k
theorem w_Main_within_0 {rod : Nat → Nat × (Nat → Int32)} {d : Nat} {Q : Option MV → MH → Prop} {u0 : Option MV} {x1 : Int32} {u2 : Option MV} {u3 : Option MV} {h : MH}   {Q1 : Option MV → MH → Prop} (c : Wc rod d 15 [.inl x1] h Q1) (k : ∀ r1 h2, Q1 r1 h2 → Wb rod d B_Main_within 4 [u0, some (.inl x1), u2, u3] (r1.toList ++ []) h2 Q) : Wb rod d B_Main_within 0 [u0, some (.inl x1), u2, u3] [] h Q := by
  refine Wb.call (fun _ _ _ _ => b_Main_within_0) (Q1 := Q1) ?_ ?_
  · (first | exact c | (simp only [Option.getD_some]; exact c))
  · (first | exact k | (simp only [Option.getD_some]; exact k))
theorem w_Main_within_4 {rod : Nat → Nat × (Nat → Int32)} {d : Nat} {Q : Option MV → MH → Prop} {u0 : Option MV} {u1 : Option MV} {u2 : Option MV} {u3 : Option MV} {xs0 : Int32} {h : MH}   (k1 : xs0.toInt = 0 → Wb rod d B_Main_within 18 [u0, u1, u2, u3] [] h Q) (k2 : ¬ xs0.toInt = 0 → Wb rod d B_Main_within 7 [u0, u1, u2, u3] [] h Q) : Wb rod d B_Main_within 4 [u0, u1, u2, u3] [.inl xs0] h Q := by
  refine Wb.br (fun _ _ => b_Main_within_4) (fun c => ?_) (fun c => ?_)
  · have c : (decide (xs0 = 0)) = true := by first | exact c | (simp only [Option.getD_some] at c; exact c)
    (first | exact (k1 (c_eqt c)) | (simp only [Option.getD_some]; exact (k1 (c_eqt c))))
  · have c : (decide (xs0 = 0)) = false := by first | exact c | (simp only [Option.getD_some] at c; exact c)
    (first | exact (k2 (c_eqf c)) | (simp only [Option.getD_some]; exact (k2 (c_eqf c))))
theorem w_Main_within_7 {rod : Nat → Nat × (Nat → Int32)} {d : Nat} {Q : Option MV → MH → Prop} {u0 : Option MV} {u1 : Option MV} {x2 : Int32} {u3 : Option MV} {h : MH}   (k1 : x2.toInt < 0 → Wb rod d B_Main_within 18 [u0, u1, some (.inl x2), u3] [] h Q) (k2 : ¬ x2.toInt < 0 → Wb rod d B_Main_within 11 [u0, u1, some (.inl x2), u3] [] h Q) : Wb rod d B_Main_within 7 [u0, u1, some (.inl x2), u3] [] h Q := by
  refine Wb.br (fun _ _ => b_Main_within_7) (fun c => ?_) (fun c => ?_)
  · have c : (decide (x2 < 0)) = true := by first | exact c | (simp only [Option.getD_some] at c; exact c)
    (first | exact (k1 (c_ltt c)) | (simp only [Option.getD_some]; exact (k1 (c_ltt c))))
  · have c : (decide (x2 < 0)) = false := by first | exact c | (simp only [Option.getD_some] at c; exact c)
    (first | exact (k2 (c_ltf c)) | (simp only [Option.getD_some]; exact (k2 (c_ltf c))))
theorem w_Main_within_11 {rod : Nat → Nat × (Nat → Int32)} {d : Nat} {Q : Option MV → MH → Prop} {u0 : Option MV} {u1 : Option MV} {x2 : Int32} {u3 : Option MV} {h : MH}   (k1 : x2.toInt ≤ 999 → Wb rod d B_Main_within 20 [u0, u1, some (.inl x2), u3] [] h Q) (k2 : ¬ x2.toInt ≤ 999 → Wb rod d B_Main_within 18 [u0, u1, some (.inl x2), u3] [] h Q) : Wb rod d B_Main_within 11 [u0, u1, some (.inl x2), u3] [] h Q := by
  refine Wb.br (fun _ _ => b_Main_within_11) (fun c => ?_) (fun c => ?_)
  · have c : (decide (x2 ≤ (999 : Int32))) = true := by first | exact c | (simp only [Option.getD_some] at c; exact c)
    (first | exact (k1 (c_let c)) | (simp only [Option.getD_some]; exact (k1 (c_let c))))
  · have c : (decide (x2 ≤ (999 : Int32))) = false := by first | exact c | (simp only [Option.getD_some] at c; exact c)
    (first | exact (k2 (c_lef c)) | (simp only [Option.getD_some]; exact (k2 (c_lef c))))
theorem w_Main_within_18 {rod : Nat → Nat × (Nat → Int32)} {d : Nat} {Q : Option MV → MH → Prop} {u0 : Option MV} {u1 : Option MV} {u2 : Option MV} {u3 : Option MV} {h : MH}   (q : Q (some (.inl (-1 : Int32))) h) : Wb rod d B_Main_within 18 [u0, u1, u2, u3] [] h Q := by
  refine Wb.ret (b_Main_within_18) ?_
  (first | exact q | (simp only [Option.getD_some]; exact q))
theorem w_Main_within_20 {rod : Nat → Nat × (Nat → Int32)} {d : Nat} {Q : Option MV → MH → Prop} {u0 : Option MV} {u1 : Option MV} {u2 : Option MV} {u3 : Option MV} {h : MH}  (g0 : okl [u0, u1, u2, u3] 3 = true) (k : Wb rod d B_Main_within 22 [u0, u1, u2, some (.inl (0 : Int32))] [] h Q) : Wb rod d B_Main_within 20 [u0, u1, u2, u3] [] h Q := by
  refine Wb.go (fun r hr q => b_Main_within_20 g0 ?_) k
  (first | exact q | (simp only [Option.getD_some]; exact q))
theorem w_Main_within_22 {rod : Nat → Nat × (Nat → Int32)} {d : Nat} {Q : Option MV → MH → Prop} {u0 : Option MV} {u1 : Option MV} {u2 : Option MV} {x3 : Int32} {h : MH}   (k1 : 20 < x3.toInt → Wb rod d B_Main_within 49 [u0, u1, u2, some (.inl x3)] [] h Q) (k2 : ¬ 20 < x3.toInt → Wb rod d B_Main_within 28 [u0, u1, u2, some (.inl x3)] [] h Q) : Wb rod d B_Main_within 22 [u0, u1, u2, some (.inl x3)] [] h Q := by
  refine Wb.br (fun _ _ => b_Main_within_22) (fun c => ?_) (fun c => ?_)
  · have c : (decide ((20 : Int32) < x3)) = true := by first | exact c | (simp only [Option.getD_some] at c; exact c)
    (first | exact (k1 (c_ltt c)) | (simp only [Option.getD_some]; exact (k1 (c_ltt c))))
  · have c : (decide ((20 : Int32) < x3)) = false := by first | exact c | (simp only [Option.getD_some] at c; exact c)
    (first | exact (k2 (c_ltf c)) | (simp only [Option.getD_some]; exact (k2 (c_ltf c))))
theorem w_Main_within_28 {rod : Nat → Nat × (Nat → Int32)} {d : Nat} {Q : Option MV → MH → Prop} {x1 : Int32} {u2 : Option MV} {x3 : Int32} {h : MH} (L : Lay h.2)  {Q1 : Option MV → MH → Prop} (c : Wc rod d 14 [.inr (.inr (.inl (some 82))), .inl x3, .inl x1] h Q1) (k : ∀ r1 h2, Q1 r1 h2 → Wb rod d B_Main_within 37 [some (.inr (.inr (.inl (some 0)))), some (.inl x1), u2, some (.inl x3)] (r1.toList ++ []) h2 Q) : Wb rod d B_Main_within 28 [some (.inr (.inr (.inl (some 0)))), some (.inl x1), u2, some (.inl x3)] [] h Q := by
  refine Wb.call (fun _ _ _ _ => b_Main_within_28 (Lay.o0 L) (Lay.k0_7 L)) (Q1 := Q1) ?_ ?_
  · (first | exact c | (simp only [Option.getD_some, (Lay.r0_7 L)]; exact c))
  · (first | exact k | (simp only [Option.getD_some, (Lay.r0_7 L)]; exact k))
theorem w_Main_within_37 {rod : Nat → Nat × (Nat → Int32)} {d : Nat} {Q : Option MV → MH → Prop} {u0 : Option MV} {u1 : Option MV} {x2 : Int32} {u3 : Option MV} {xs0 : Int32} {h : MH}   (k1 : xs0.toInt < x2.toInt → Wb rod d B_Main_within 43 [u0, u1, some (.inl x2), u3] [] h Q) (k2 : ¬ xs0.toInt < x2.toInt → Wb rod d B_Main_within 41 [u0, u1, some (.inl x2), u3] [] h Q) : Wb rod d B_Main_within 37 [u0, u1, some (.inl x2), u3] [.inl xs0] h Q := by
  refine Wb.br (fun _ _ => b_Main_within_37) (fun c => ?_) (fun c => ?_)
  · have c : (decide (xs0 < x2)) = true := by first | exact c | (simp only [Option.getD_some] at c; exact c)
    (first | exact (k1 (c_ltt c)) | (simp only [Option.getD_some]; exact (k1 (c_ltt c))))
  · have c : (decide (xs0 < x2)) = false := by first | exact c | (simp only [Option.getD_some] at c; exact c)
    (first | exact (k2 (c_ltf c)) | (simp only [Option.getD_some]; exact (k2 (c_ltf c))))
theorem w_Main_within_41 {rod : Nat → Nat × (Nat → Int32)} {d : Nat} {Q : Option MV → MH → Prop} {u0 : Option MV} {u1 : Option MV} {u2 : Option MV} {x3 : Int32} {h : MH}   (q : Q (some (.inl x3)) h) : Wb rod d B_Main_within 41 [u0, u1, u2, some (.inl x3)] [] h Q := by
  refine Wb.ret (b_Main_within_41) ?_
  (first | exact q | (simp only [Option.getD_some]; exact q))
theorem w_Main_within_43 {rod : Nat → Nat × (Nat → Int32)} {d : Nat} {Q : Option MV → MH → Prop} {u0 : Option MV} {u1 : Option MV} {u2 : Option MV} {x3 : Int32} {h : MH}  (g0 : okl [u0, u1, u2, some (.inl x3)] 3 = true) (k : Wb rod d B_Main_within 22 [u0, u1, u2, some (.inl (x3 + 1))] [] h Q) : Wb rod d B_Main_within 43 [u0, u1, u2, some (.inl x3)] [] h Q := by
  refine Wb.go (fun r hr q => b_Main_within_43 g0 ?_) k
  (first | exact q | (simp only [Option.getD_some]; exact q))
theorem w_Main_within_49 {rod : Nat → Nat × (Nat → Int32)} {d : Nat} {Q : Option MV → MH → Prop} {u0 : Option MV} {u1 : Option MV} {u2 : Option MV} {u3 : Option MV} {h : MH}   (q : Q (some (.inl (-1 : Int32))) h) : Wb rod d B_Main_within 49 [u0, u1, u2, u3] [] h Q := by
  refine Wb.ret (b_Main_within_49) ?_
  (first | exact q | (simp only [Option.getD_some]; exact q))
theorem n_Main_even {rod : Nat → Nat × (Nat → Int32)} {d : Nat} {Q : Option MV → MH → Prop} {x1 : Int32} {x2 : Int32} {h : MH} (k : Wb rod d B_Main_even 0 [some (.inr (.inr (.inl (some 0)))), some (.inl x1), some (.inl x2), none] [] h Q) : Wc rod (d + 1) 181 [.inr (.inr (.inl (some 0))), .inl x1, .inl x2] h Q := Wc.en (fun _ _ => e_Main_even) k
theorem w_Main_even_0 {rod : Nat → Nat × (Nat → Int32)} {d : Nat} {Q : Option MV → MH → Prop} {x1 : Int32} {u2 : Option MV} {u3 : Option MV} {h : MH} (L : Lay h.2)  {Q1 : Option MV → MH → Prop} (c : Wc rod d 127 [.inr (.inr (.inl (some 1))), .inl x1] h Q1) (k : ∀ r1 h2, Q1 r1 h2 → Wb rod d B_Main_even 8 [some (.inr (.inr (.inl (some 0)))), some (.inl x1), u2, u3] (r1.toList ++ []) h2 Q) : Wb rod d B_Main_even 0 [some (.inr (.inr (.inl (some 0)))), some (.inl x1), u2, u3] [] h Q := by
  refine Wb.call (fun _ _ _ _ => b_Main_even_0 (Lay.o0 L) (Lay.k0_0 L)) (Q1 := Q1) ?_ ?_
  · (first | exact c | (simp only [Option.getD_some, (Lay.r0_0 L)]; exact c))
  · (first | exact k | (simp only [Option.getD_some, (Lay.r0_0 L)]; exact k))
theorem w_Main_even_8 {rod : Nat → Nat × (Nat → Int32)} {d : Nat} {Q : Option MV → MH → Prop} {u0 : Option MV} {u1 : Option MV} {u2 : Option MV} {u3 : Option MV} {os0 : Option Nat} {h : MH}  (g0 : okl [u0, u1, u2, u3] 3 = true) (k1 : os0 = none → Wb rod d B_Main_even 21 [u0, u1, u2, some (.inr (.inr (.inl os0)))] [] h Q) (k2 : ∀ v, os0 = some v → Wb rod d B_Main_even 13 [u0, u1, u2, some (.inr (.inr (.inl os0)))] [] h Q) : Wb rod d B_Main_even 8 [u0, u1, u2, u3] [.inr (.inr (.inl os0))] h Q := by
  cases os0 with
  | none =>
    refine Wb.br (fun _ _ => b_Main_even_8 g0) (fun c => ?_) (fun c => ?_)
    · exact k1 rfl
    · simp at c
  | some v =>
    refine Wb.br (fun _ _ => b_Main_even_8 g0) (fun c => ?_) (fun c => ?_)
    · simp at c
    · exact k2 v rfl
theorem w_Main_even_13 {rod : Nat → Nat × (Nat → Int32)} {d : Nat} {Q : Option MV → MH → Prop} {u0 : Option MV} {u1 : Option MV} {x2 : Int32} {a3 : Nat} {h : MH} (A3 : BargA h.2 a3)  {Q1 : Option MV → MH → Prop} (c : Wc rod d 134 [.inr (.inr (.inl (some a3))), .inl x2] h Q1) (k : ∀ r1 h2, Q1 r1 h2 → Wb rod d B_Main_even 18 [u0, u1, some (.inl x2), some (.inr (.inr (.inl (some a3))))] (r1.toList ++ []) h2 Q) : Wb rod d B_Main_even 13 [u0, u1, some (.inl x2), some (.inr (.inr (.inl (some a3))))] [] h Q := by
  refine Wb.call (fun _ _ _ _ => b_Main_even_13 (A3.o)) (Q1 := Q1) ?_ ?_
  · (first | exact c | (simp only [Option.getD_some]; exact c))
  · (first | exact k | (simp only [Option.getD_some]; exact k))
theorem w_Main_even_18 {rod : Nat → Nat × (Nat → Int32)} {d : Nat} {Q : Option MV → MH → Prop} {u0 : Option MV} {u1 : Option MV} {u2 : Option MV} {u3 : Option MV} {xs0 : Int32} {h : MH}   (k1 : ¬ xs0.toInt = 0 → Wb rod d B_Main_even 27 [u0, u1, u2, u3] [] h Q) (k2 : xs0.toInt = 0 → Wb rod d B_Main_even 21 [u0, u1, u2, u3] [] h Q) : Wb rod d B_Main_even 18 [u0, u1, u2, u3] [.inl xs0] h Q := by
  refine Wb.br (fun _ _ => b_Main_even_18) (fun c => ?_) (fun c => ?_)
  · have c : (!(decide (xs0 = 0))) = true := by first | exact c | (simp only [Option.getD_some] at c; exact c)
    (first | exact (k1 (c_net c)) | (simp only [Option.getD_some]; exact (k1 (c_net c))))
  · have c : (!(decide (xs0 = 0))) = false := by first | exact c | (simp only [Option.getD_some] at c; exact c)
    (first | exact (k2 (c_nef c)) | (simp only [Option.getD_some]; exact (k2 (c_nef c))))
theorem w_Main_even_21 {rod : Nat → Nat × (Nat → Int32)} {d : Nat} {Q : Option MV → MH → Prop} {u0 : Option MV} {u1 : Option MV} {u2 : Option MV} {u3 : Option MV} {h : MH}   (k : Wb rod d B_Main_even 36 [u0, u1, u2, u3] [.inl (-1000 : Int32)] h Q) : Wb rod d B_Main_even 21 [u0, u1, u2, u3] [] h Q := by
  refine Wb.go (fun r hr q => b_Main_even_21 ?_) k
  (first | exact q | (simp only [Option.getD_some]; exact q))
theorem w_Main_even_27 {rod : Nat → Nat × (Nat → Int32)} {d : Nat} {Q : Option MV → MH → Prop} {u1 : Option MV} {x2 : Int32} {a3 : Nat} {h : MH} (L : Lay h.2)  {Q1 : Option MV → MH → Prop} (c : Wc rod d 182 [.inr (.inr (.inl (some 78))), .inr (.inr (.inl (some a3))), .inl x2] h Q1) (k : ∀ r1 h2, Q1 r1 h2 → Wb rod d B_Main_even 36 [some (.inr (.inr (.inl (some 0)))), u1, some (.inl x2), some (.inr (.inr (.inl (some a3))))] (r1.toList ++ []) h2 Q) : Wb rod d B_Main_even 27 [some (.inr (.inr (.inl (some 0)))), u1, some (.inl x2), some (.inr (.inr (.inl (some a3))))] [] h Q := by
  refine Wb.call (fun _ _ _ _ => b_Main_even_27 (Lay.o0 L) (Lay.k0_6 L)) (Q1 := Q1) ?_ ?_
  · (first | exact c | (simp only [Option.getD_some, (Lay.r0_6 L)]; exact c))
  · (first | exact k | (simp only [Option.getD_some, (Lay.r0_6 L)]; exact k))
theorem w_Main_even_36 {rod : Nat → Nat × (Nat → Int32)} {d : Nat} {Q : Option MV → MH → Prop} {u0 : Option MV} {u1 : Option MV} {u2 : Option MV} {u3 : Option MV} {xs0 : Int32} {h : MH}   (q : Q (some (.inl xs0)) h) : Wb rod d B_Main_even 36 [u0, u1, u2, u3] [.inl xs0] h Q := by
  refine Wb.ret (b_Main_even_36) ?_
  (first | exact q | (simp only [Option.getD_some]; exact q))
theorem n_Sharing_evenShare {rod : Nat → Nat × (Nat → Int32)} {d : Nat} {Q : Option MV → MH → Prop} {a1 : Nat} {x2 : Int32} {h : MH} (k : Wb rod d B_Sharing_evenShare 0 [some (.inr (.inr (.inl (some 78)))), some (.inr (.inr (.inl (some a1)))), some (.inl x2), none, none, none, none, none, none, none] [] h Q) : Wc rod (d + 1) 182 [.inr (.inr (.inl (some 78))), .inr (.inr (.inl (some a1))), .inl x2] h Q := Wc.en (fun _ _ => e_Sharing_evenShare) k
theorem w_Sharing_evenShare_0 {rod : Nat → Nat × (Nat → Int32)} {d : Nat} {Q : Option MV → MH → Prop} {a1 : Nat} {u2 : Option MV} {u3 : Option MV} {u4 : Option MV} {u5 : Option MV} {u6 : Option MV} {u7 : Option MV} {u8 : Option MV} {u9 : Option MV} {h : MH} (L : Lay h.2)  {Q1 : Option MV → MH → Prop} (c : Wc rod d 143 [.inr (.inr (.inl (some 78))), .inr (.inr (.inl (some a1)))] h Q1) (k : ∀ r1 h2, Q1 r1 h2 → Wb rod d B_Sharing_evenShare 5 [some (.inr (.inr (.inl (some 78)))), some (.inr (.inr (.inl (some a1)))), u2, u3, u4, u5, u6, u7, u8, u9] (r1.toList ++ []) h2 Q) : Wb rod d B_Sharing_evenShare 0 [some (.inr (.inr (.inl (some 78)))), some (.inr (.inr (.inl (some a1)))), u2, u3, u4, u5, u6, u7, u8, u9] [] h Q := by
  refine Wb.call (fun _ _ _ _ => b_Sharing_evenShare_0 (Lay.o78 L)) (Q1 := Q1) ?_ ?_
  · (first | exact c | (simp only [Option.getD_some]; exact c))
  · (first | exact k | (simp only [Option.getD_some]; exact k))
theorem w_Sharing_evenShare_5 {rod : Nat → Nat × (Nat → Int32)} {d : Nat} {Q : Option MV → MH → Prop} {u0 : Option MV} {a1 : Nat} {u2 : Option MV} {u3 : Option MV} {u4 : Option MV} {u5 : Option MV} {u6 : Option MV} {u7 : Option MV} {u8 : Option MV} {u9 : Option MV} {xs0 : Int32} {h : MH} (A1 : BargA h.2 a1) (g0 : okl [u0, some (.inr (.inr (.inl (some a1)))), u2, u3, u4, u5, u6, u7, u8, u9] 3 = true) {Q1 : Option MV → MH → Prop} (c : Wc rod d 128 [.inr (.inr (.inl (some a1)))] h Q1) (k : ∀ r1 h2, Q1 r1 h2 → Wb rod d B_Sharing_evenShare 11 [u0, some (.inr (.inr (.inl (some a1)))), u2, some (.inl xs0), u4, u5, u6, u7, u8, u9] (r1.toList ++ [.inr (.inr (.inl (some a1)))]) h2 Q) : Wb rod d B_Sharing_evenShare 5 [u0, some (.inr (.inr (.inl (some a1)))), u2, u3, u4, u5, u6, u7, u8, u9] [.inl xs0] h Q := by
  refine Wb.call (fun _ _ _ _ => b_Sharing_evenShare_5 g0 (A1.o)) (Q1 := Q1) ?_ ?_
  · (first | exact c | (simp only [Option.getD_some]; exact c))
  · (first | exact k | (simp only [Option.getD_some]; exact k))
theorem w_Sharing_evenShare_11 {rod : Nat → Nat × (Nat → Int32)} {d : Nat} {Q : Option MV → MH → Prop} {u0 : Option MV} {u1 : Option MV} {u2 : Option MV} {u3 : Option MV} {u4 : Option MV} {u5 : Option MV} {u6 : Option MV} {u7 : Option MV} {u8 : Option MV} {u9 : Option MV} {as0 : Nat} {xs1 : Int32} {h : MH} (As0 : BargA h.2 as0)  {Q1 : Option MV → MH → Prop} (c : Wc rod d 129 [.inr (.inr (.inl (some as0))), .inl xs1] h Q1) (k : ∀ r1 h2, Q1 r1 h2 → Wb rod d B_Sharing_evenShare 14 [u0, u1, u2, u3, u4, u5, u6, u7, u8, u9] (r1.toList ++ []) h2 Q) : Wb rod d B_Sharing_evenShare 11 [u0, u1, u2, u3, u4, u5, u6, u7, u8, u9] [.inl xs1, .inr (.inr (.inl (some as0)))] h Q := by
  refine Wb.call (fun _ _ _ _ => b_Sharing_evenShare_11 (As0.o)) (Q1 := Q1) ?_ ?_
  · (first | exact c | (simp only [Option.getD_some]; exact c))
  · (first | exact k | (simp only [Option.getD_some]; exact k))
theorem w_Sharing_evenShare_14 {rod : Nat → Nat × (Nat → Int32)} {d : Nat} {Q : Option MV → MH → Prop} {a1 : Nat} {x2 : Int32} {u3 : Option MV} {u4 : Option MV} {u5 : Option MV} {u6 : Option MV} {u7 : Option MV} {u8 : Option MV} {u9 : Option MV} {xs0 : Int32} {h : MH} (L : Lay h.2) (g0 : okl [some (.inr (.inr (.inl (some 78)))), some (.inr (.inr (.inl (some a1)))), some (.inl x2), u3, u4, u5, u6, u7, u8, u9] 4 = true) {Q1 : Option MV → MH → Prop} (c : Wc rod d 139 [.inr (.inr (.inl (some 78))), .inr (.inr (.inl (some a1))), .inl x2] h Q1) (k : ∀ r1 h2, Q1 r1 h2 → Wb rod d B_Sharing_evenShare 25 [some (.inr (.inr (.inl (some 78)))), some (.inr (.inr (.inl (some a1)))), some (.inl x2), u3, some (.inl xs0), some (.inl (0 : Int32)), u6, u7, u8, u9] (r1.toList ++ []) h2 Q) : Wb rod d B_Sharing_evenShare 14 [some (.inr (.inr (.inl (some 78)))), some (.inr (.inr (.inl (some a1)))), some (.inl x2), u3, u4, u5, u6, u7, u8, u9] [.inl xs0] h Q := by
  refine Wb.call (fun _ _ _ _ => b_Sharing_evenShare_14 g0 (Lay.o78 L)) (Q1 := Q1) ?_ ?_
  · (first | exact c | (simp only [Option.getD_some]; exact c))
  · (first | exact k | (simp only [Option.getD_some]; exact k))
theorem w_Sharing_evenShare_25 {rod : Nat → Nat × (Nat → Int32)} {d : Nat} {Q : Option MV → MH → Prop} {u0 : Option MV} {u1 : Option MV} {u2 : Option MV} {x3 : Int32} {u4 : Option MV} {u5 : Option MV} {u6 : Option MV} {u7 : Option MV} {u8 : Option MV} {u9 : Option MV} {xs0 : Int32} {h : MH}   {Q1 : Option MV → MH → Prop} (c : Wc rod d 183 [.inl xs0, .inl x3] h Q1) (k : ∀ r1 h2, Q1 r1 h2 → Wb rod d B_Sharing_evenShare 29 [u0, u1, u2, some (.inl x3), u4, u5, u6, u7, u8, u9] (r1.toList ++ []) h2 Q) : Wb rod d B_Sharing_evenShare 25 [u0, u1, u2, some (.inl x3), u4, u5, u6, u7, u8, u9] [.inl xs0] h Q := by
  refine Wb.call (fun _ _ _ _ => b_Sharing_evenShare_25) (Q1 := Q1) ?_ ?_
  · (first | exact c | (simp only [Option.getD_some]; exact c))
  · (first | exact k | (simp only [Option.getD_some]; exact k))
theorem w_Sharing_evenShare_29 {rod : Nat → Nat × (Nat → Int32)} {d : Nat} {Q : Option MV → MH → Prop} {u0 : Option MV} {u1 : Option MV} {u2 : Option MV} {u3 : Option MV} {u4 : Option MV} {u5 : Option MV} {u6 : Option MV} {u7 : Option MV} {u8 : Option MV} {u9 : Option MV} {xs0 : Int32} {h : MH}  (g0 : okl [u0, u1, u2, u3, u4, u5, u6, u7, u8, u9] 6 = true) (k : Wb rod d B_Sharing_evenShare 34 [u0, u1, u2, u3, u4, u5, some (.inl xs0), some (.inl (0 : Int32)), u8, u9] [] h Q) : Wb rod d B_Sharing_evenShare 29 [u0, u1, u2, u3, u4, u5, u6, u7, u8, u9] [.inl xs0] h Q := by
  refine Wb.go (fun r hr q => b_Sharing_evenShare_29 g0 ?_) k
  (first | exact q | (simp only [Option.getD_some]; exact q))
theorem w_Sharing_evenShare_34 {rod : Nat → Nat × (Nat → Int32)} {d : Nat} {Q : Option MV → MH → Prop} {u0 : Option MV} {a1 : Nat} {u2 : Option MV} {u3 : Option MV} {u4 : Option MV} {u5 : Option MV} {u6 : Option MV} {x7 : Int32} {u8 : Option MV} {u9 : Option MV} {h : MH} (A1 : BargA h.2 a1)  (k1 : (h.1 a1 0).toInt ≤ x7.toInt → Wb rod d B_Sharing_evenShare 100 [u0, some (.inr (.inr (.inl (some a1)))), u2, u3, u4, u5, u6, some (.inl x7), u8, u9] [] h Q) (k2 : ¬ (h.1 a1 0).toInt ≤ x7.toInt → Wb rod d B_Sharing_evenShare 43 [u0, some (.inr (.inr (.inl (some a1)))), u2, u3, u4, u5, u6, some (.inl x7), u8, u9] [] h Q) : Wb rod d B_Sharing_evenShare 34 [u0, some (.inr (.inr (.inl (some a1)))), u2, u3, u4, u5, u6, some (.inl x7), u8, u9] [] h Q := by
  refine Wb.br (fun _ _ => b_Sharing_evenShare_34 (A1.o)) (fun c => ?_) (fun c => ?_)
  · have c : (decide ((h.1 a1 0) ≤ x7)) = true := by first | exact c | (simp only [Option.getD_some] at c; exact c)
    (first | exact (k1 (c_let c)) | (simp only [Option.getD_some]; exact (k1 (c_let c))))
  · have c : (decide ((h.1 a1 0) ≤ x7)) = false := by first | exact c | (simp only [Option.getD_some] at c; exact c)
    (first | exact (k2 (c_lef c)) | (simp only [Option.getD_some]; exact (k2 (c_lef c))))
theorem w_Sharing_evenShare_43 {rod : Nat → Nat × (Nat → Int32)} {d : Nat} {Q : Option MV → MH → Prop} {a1 : Nat} {u2 : Option MV} {u3 : Option MV} {u4 : Option MV} {u5 : Option MV} {u6 : Option MV} {x7 : Int32} {u8 : Option MV} {u9 : Option MV} {h : MH} (L : Lay h.2)  {Q1 : Option MV → MH → Prop} (c : Wc rod d 139 [.inr (.inr (.inl (some 78))), .inr (.inr (.inl (some a1))), .inl x7] h Q1) (k : ∀ r1 h2, Q1 r1 h2 → Wb rod d B_Sharing_evenShare 50 [some (.inr (.inr (.inl (some 78)))), some (.inr (.inr (.inl (some a1)))), u2, u3, u4, u5, u6, some (.inl x7), u8, u9] (r1.toList ++ []) h2 Q) : Wb rod d B_Sharing_evenShare 43 [some (.inr (.inr (.inl (some 78)))), some (.inr (.inr (.inl (some a1)))), u2, u3, u4, u5, u6, some (.inl x7), u8, u9] [] h Q := by
  refine Wb.call (fun _ _ _ _ => b_Sharing_evenShare_43 (Lay.o78 L)) (Q1 := Q1) ?_ ?_
  · (first | exact c | (simp only [Option.getD_some]; exact c))
  · (first | exact k | (simp only [Option.getD_some]; exact k))
theorem w_Sharing_evenShare_50 {rod : Nat → Nat × (Nat → Int32)} {d : Nat} {Q : Option MV → MH → Prop} {u0 : Option MV} {u1 : Option MV} {u2 : Option MV} {x3 : Int32} {u4 : Option MV} {u5 : Option MV} {u6 : Option MV} {u7 : Option MV} {u8 : Option MV} {u9 : Option MV} {xs0 : Int32} {h : MH}  (g0 : okl [u0, u1, u2, some (.inl x3), u4, u5, u6, u7, u8, u9] 8 = true) {Q1 : Option MV → MH → Prop} (c : Wc rod d 183 [.inl xs0, .inl x3] h Q1) (k : ∀ r1 h2, Q1 r1 h2 → Wb rod d B_Sharing_evenShare 58 [u0, u1, u2, some (.inl x3), u4, u5, u6, u7, some (.inl xs0), u9] (r1.toList ++ []) h2 Q) : Wb rod d B_Sharing_evenShare 50 [u0, u1, u2, some (.inl x3), u4, u5, u6, u7, u8, u9] [.inl xs0] h Q := by
  refine Wb.call (fun _ _ _ _ => b_Sharing_evenShare_50 g0) (Q1 := Q1) ?_ ?_
  · (first | exact c | (simp only [Option.getD_some]; exact c))
  · (first | exact k | (simp only [Option.getD_some]; exact k))
theorem w_Sharing_evenShare_58 {rod : Nat → Nat × (Nat → Int32)} {d : Nat} {Q : Option MV → MH → Prop} {u0 : Option MV} {u1 : Option MV} {u2 : Option MV} {x3 : Int32} {x4 : Int32} {u5 : Option MV} {u6 : Option MV} {u7 : Option MV} {x8 : Int32} {u9 : Option MV} {xs0 : Int32} {h : MH}   {Q1 : Option MV → MH → Prop} (c : Wc rod d 184 [.inl x8, .inl x3] h Q1) (k : ∀ r1 h2, Q1 r1 h2 → Wb rod d B_Sharing_evenShare 68 [u0, u1, u2, some (.inl x3), some (.inl x4), u5, u6, u7, some (.inl x8), some (.inl xs0)] (r1.toList ++ [.inl x4]) h2 Q) : Wb rod d B_Sharing_evenShare 58 [u0, u1, u2, some (.inl x3), some (.inl x4), u5, u6, u7, some (.inl x8), u9] [.inl xs0] h Q := by
  refine Wb.call (fun _ _ _ _ => b_Sharing_evenShare_58) (Q1 := Q1) ?_ ?_
  · (first | exact c | (simp only [Option.getD_some]; exact c))
  · (first | exact k | (simp only [Option.getD_some]; exact k))
theorem w_Sharing_evenShare_68 {rod : Nat → Nat × (Nat → Int32)} {d : Nat} {Q : Option MV → MH → Prop} {u0 : Option MV} {u1 : Option MV} {u2 : Option MV} {u3 : Option MV} {u4 : Option MV} {u5 : Option MV} {x6 : Int32} {u7 : Option MV} {u8 : Option MV} {x9 : Int32} {xs0 : Int32} {xs1 : Int32} {h : MH}  (g0 : okl [u0, u1, u2, u3, u4, u5, some (.inl x6), u7, u8, some (.inl x9)] 4 = true) (k1 : x6.toInt < x9.toInt → Wb rod d B_Sharing_evenShare 91 [u0, u1, u2, u3, some (.inl (xs0 - xs1)), u5, some (.inl x6), u7, u8, some (.inl x9)] [] h Q) (k2 : ¬ x6.toInt < x9.toInt → Wb rod d B_Sharing_evenShare 78 [u0, u1, u2, u3, some (.inl (xs0 - xs1)), u5, some (.inl x6), u7, u8, some (.inl x9)] [] h Q) : Wb rod d B_Sharing_evenShare 68 [u0, u1, u2, u3, u4, u5, some (.inl x6), u7, u8, some (.inl x9)] [.inl xs1, .inl xs0] h Q := by
  refine Wb.br (fun _ _ => b_Sharing_evenShare_68 g0) (fun c => ?_) (fun c => ?_)
  · have c : (decide (x6 < x9)) = true := by first | exact c | (simp only [Option.getD_some] at c; exact c)
    (first | exact (k1 (c_ltt c)) | (simp only [Option.getD_some]; exact (k1 (c_ltt c))))
  · have c : (decide (x6 < x9)) = false := by first | exact c | (simp only [Option.getD_some] at c; exact c)
    (first | exact (k2 (c_ltf c)) | (simp only [Option.getD_some]; exact (k2 (c_ltf c))))
theorem w_Sharing_evenShare_78 {rod : Nat → Nat × (Nat → Int32)} {d : Nat} {Q : Option MV → MH → Prop} {u0 : Option MV} {u1 : Option MV} {u2 : Option MV} {u3 : Option MV} {u4 : Option MV} {u5 : Option MV} {x6 : Int32} {u7 : Option MV} {u8 : Option MV} {x9 : Int32} {h : MH}   (k1 : ¬ x9.toInt = x6.toInt → Wb rod d B_Sharing_evenShare 94 [u0, u1, u2, u3, u4, u5, some (.inl x6), u7, u8, some (.inl x9)] [] h Q) (k2 : x9.toInt = x6.toInt → Wb rod d B_Sharing_evenShare 85 [u0, u1, u2, u3, u4, u5, some (.inl x6), u7, u8, some (.inl x9)] [] h Q) : Wb rod d B_Sharing_evenShare 78 [u0, u1, u2, u3, u4, u5, some (.inl x6), u7, u8, some (.inl x9)] [] h Q := by
  refine Wb.br (fun _ _ => b_Sharing_evenShare_78) (fun c => ?_) (fun c => ?_)
  · have c : (!(decide (x9 = x6))) = true := by first | exact c | (simp only [Option.getD_some] at c; exact c)
    (first | exact (k1 (c_net c)) | (simp only [Option.getD_some]; exact (k1 (c_net c))))
  · have c : (!(decide (x9 = x6))) = false := by first | exact c | (simp only [Option.getD_some] at c; exact c)
    (first | exact (k2 (c_nef c)) | (simp only [Option.getD_some]; exact (k2 (c_nef c))))
theorem w_Sharing_evenShare_85 {rod : Nat → Nat × (Nat → Int32)} {d : Nat} {Q : Option MV → MH → Prop} {u0 : Option MV} {u1 : Option MV} {x2 : Int32} {u3 : Option MV} {u4 : Option MV} {u5 : Option MV} {u6 : Option MV} {x7 : Int32} {u8 : Option MV} {u9 : Option MV} {h : MH}   (k1 : x2.toInt ≤ x7.toInt → Wb rod d B_Sharing_evenShare 94 [u0, u1, some (.inl x2), u3, u4, u5, u6, some (.inl x7), u8, u9] [] h Q) (k2 : ¬ x2.toInt ≤ x7.toInt → Wb rod d B_Sharing_evenShare 91 [u0, u1, some (.inl x2), u3, u4, u5, u6, some (.inl x7), u8, u9] [] h Q) : Wb rod d B_Sharing_evenShare 85 [u0, u1, some (.inl x2), u3, u4, u5, u6, some (.inl x7), u8, u9] [] h Q := by
  refine Wb.br (fun _ _ => b_Sharing_evenShare_85) (fun c => ?_) (fun c => ?_)
  · have c : (decide (x2 ≤ x7)) = true := by first | exact c | (simp only [Option.getD_some] at c; exact c)
    (first | exact (k1 (c_let c)) | (simp only [Option.getD_some]; exact (k1 (c_let c))))
  · have c : (decide (x2 ≤ x7)) = false := by first | exact c | (simp only [Option.getD_some] at c; exact c)
    (first | exact (k2 (c_lef c)) | (simp only [Option.getD_some]; exact (k2 (c_lef c))))
theorem w_Sharing_evenShare_91 {rod : Nat → Nat × (Nat → Int32)} {d : Nat} {Q : Option MV → MH → Prop} {u0 : Option MV} {u1 : Option MV} {u2 : Option MV} {u3 : Option MV} {u4 : Option MV} {x5 : Int32} {u6 : Option MV} {u7 : Option MV} {u8 : Option MV} {u9 : Option MV} {h : MH}  (g0 : okl [u0, u1, u2, u3, u4, some (.inl x5), u6, u7, u8, u9] 5 = true) (k : Wb rod d B_Sharing_evenShare 94 [u0, u1, u2, u3, u4, some (.inl (x5 + 1)), u6, u7, u8, u9] [] h Q) : Wb rod d B_Sharing_evenShare 91 [u0, u1, u2, u3, u4, some (.inl x5), u6, u7, u8, u9] [] h Q := by
  refine Wb.go (fun r hr q => b_Sharing_evenShare_91 g0 ?_) k
  (first | exact q | (simp only [Option.getD_some]; exact q))
theorem w_Sharing_evenShare_94 {rod : Nat → Nat × (Nat → Int32)} {d : Nat} {Q : Option MV → MH → Prop} {u0 : Option MV} {u1 : Option MV} {u2 : Option MV} {u3 : Option MV} {u4 : Option MV} {u5 : Option MV} {u6 : Option MV} {x7 : Int32} {u8 : Option MV} {u9 : Option MV} {h : MH}  (g0 : okl [u0, u1, u2, u3, u4, u5, u6, some (.inl x7), u8, u9] 7 = true) (k : Wb rod d B_Sharing_evenShare 34 [u0, u1, u2, u3, u4, u5, u6, some (.inl (x7 + 1)), u8, u9] [] h Q) : Wb rod d B_Sharing_evenShare 94 [u0, u1, u2, u3, u4, u5, u6, some (.inl x7), u8, u9] [] h Q := by
  refine Wb.go (fun r hr q => b_Sharing_evenShare_94 g0 ?_) k
  (first | exact q | (simp only [Option.getD_some]; exact q))
theorem w_Sharing_evenShare_100 {rod : Nat → Nat × (Nat → Int32)} {d : Nat} {Q : Option MV → MH → Prop} {a1 : Nat} {x2 : Int32} {u3 : Option MV} {u4 : Option MV} {u5 : Option MV} {u6 : Option MV} {u7 : Option MV} {u8 : Option MV} {u9 : Option MV} {h : MH} (L : Lay h.2)  {Q1 : Option MV → MH → Prop} (c : Wc rod d 139 [.inr (.inr (.inl (some 78))), .inr (.inr (.inl (some a1))), .inl x2] h Q1) (k : ∀ r1 h2, Q1 r1 h2 → Wb rod d B_Sharing_evenShare 106 [some (.inr (.inr (.inl (some 78)))), some (.inr (.inr (.inl (some a1)))), some (.inl x2), u3, u4, u5, u6, u7, u8, u9] (r1.toList ++ []) h2 Q) : Wb rod d B_Sharing_evenShare 100 [some (.inr (.inr (.inl (some 78)))), some (.inr (.inr (.inl (some a1)))), some (.inl x2), u3, u4, u5, u6, u7, u8, u9] [] h Q := by
  refine Wb.call (fun _ _ _ _ => b_Sharing_evenShare_100 (Lay.o78 L)) (Q1 := Q1) ?_ ?_
  · (first | exact c | (simp only [Option.getD_some]; exact c))
  · (first | exact k | (simp only [Option.getD_some]; exact k))
theorem w_Sharing_evenShare_106 {rod : Nat → Nat × (Nat → Int32)} {d : Nat} {Q : Option MV → MH → Prop} {u0 : Option MV} {u1 : Option MV} {u2 : Option MV} {x3 : Int32} {u4 : Option MV} {u5 : Option MV} {u6 : Option MV} {u7 : Option MV} {u8 : Option MV} {u9 : Option MV} {xs0 : Int32} {h : MH}   {Q1 : Option MV → MH → Prop} (c : Wc rod d 184 [.inl xs0, .inl x3] h Q1) (k : ∀ r1 h2, Q1 r1 h2 → Wb rod d B_Sharing_evenShare 110 [u0, u1, u2, some (.inl x3), u4, u5, u6, u7, u8, u9] (r1.toList ++ []) h2 Q) : Wb rod d B_Sharing_evenShare 106 [u0, u1, u2, some (.inl x3), u4, u5, u6, u7, u8, u9] [.inl xs0] h Q := by
  refine Wb.call (fun _ _ _ _ => b_Sharing_evenShare_106) (Q1 := Q1) ?_ ?_
  · (first | exact c | (simp only [Option.getD_some]; exact c))
  · (first | exact k | (simp only [Option.getD_some]; exact k))
theorem w_Sharing_evenShare_110 {rod : Nat → Nat × (Nat → Int32)} {d : Nat} {Q : Option MV → MH → Prop} {u0 : Option MV} {u1 : Option MV} {u2 : Option MV} {u3 : Option MV} {x4 : Int32} {x5 : Int32} {u6 : Option MV} {u7 : Option MV} {u8 : Option MV} {u9 : Option MV} {xs0 : Int32} {h : MH}   (k1 : x4.toInt ≤ x5.toInt → Wb rod d B_Sharing_evenShare 121 [u0, u1, u2, u3, some (.inl x4), some (.inl x5), u6, u7, u8, u9] [.inl xs0] h Q) (k2 : ¬ x4.toInt ≤ x5.toInt → Wb rod d B_Sharing_evenShare 117 [u0, u1, u2, u3, some (.inl x4), some (.inl x5), u6, u7, u8, u9] [.inl xs0] h Q) : Wb rod d B_Sharing_evenShare 110 [u0, u1, u2, u3, some (.inl x4), some (.inl x5), u6, u7, u8, u9] [.inl xs0] h Q := by
  refine Wb.br (fun _ _ => b_Sharing_evenShare_110) (fun c => ?_) (fun c => ?_)
  · have c : (decide (x4 ≤ x5)) = true := by first | exact c | (simp only [Option.getD_some] at c; exact c)
    (first | exact (k1 (c_let c)) | (simp only [Option.getD_some]; exact (k1 (c_let c))))
  · have c : (decide (x4 ≤ x5)) = false := by first | exact c | (simp only [Option.getD_some] at c; exact c)
    (first | exact (k2 (c_lef c)) | (simp only [Option.getD_some]; exact (k2 (c_lef c))))
theorem w_Sharing_evenShare_117 {rod : Nat → Nat × (Nat → Int32)} {d : Nat} {Q : Option MV → MH → Prop} {u0 : Option MV} {u1 : Option MV} {u2 : Option MV} {u3 : Option MV} {u4 : Option MV} {u5 : Option MV} {u6 : Option MV} {u7 : Option MV} {u8 : Option MV} {u9 : Option MV} {xs0 : Int32} {h : MH}   (k : Wb rod d B_Sharing_evenShare 122 [u0, u1, u2, u3, u4, u5, u6, u7, u8, u9] [.inl (1 : Int32), .inl xs0] h Q) : Wb rod d B_Sharing_evenShare 117 [u0, u1, u2, u3, u4, u5, u6, u7, u8, u9] [.inl xs0] h Q := by
  refine Wb.go (fun r hr q => b_Sharing_evenShare_117 ?_) k
  (first | exact q | (simp only [Option.getD_some]; exact q))
theorem w_Sharing_evenShare_121 {rod : Nat → Nat × (Nat → Int32)} {d : Nat} {Q : Option MV → MH → Prop} {u0 : Option MV} {u1 : Option MV} {u2 : Option MV} {u3 : Option MV} {u4 : Option MV} {u5 : Option MV} {u6 : Option MV} {u7 : Option MV} {u8 : Option MV} {u9 : Option MV} {xs0 : Int32} {h : MH}   (k : Wb rod d B_Sharing_evenShare 122 [u0, u1, u2, u3, u4, u5, u6, u7, u8, u9] [.inl (0 : Int32), .inl xs0] h Q) : Wb rod d B_Sharing_evenShare 121 [u0, u1, u2, u3, u4, u5, u6, u7, u8, u9] [.inl xs0] h Q := by
  refine Wb.go (fun r hr q => b_Sharing_evenShare_121 ?_) k
  (first | exact q | (simp only [Option.getD_some]; exact q))
theorem w_Sharing_evenShare_122 {rod : Nat → Nat × (Nat → Int32)} {d : Nat} {Q : Option MV → MH → Prop} {u0 : Option MV} {u1 : Option MV} {u2 : Option MV} {u3 : Option MV} {u4 : Option MV} {u5 : Option MV} {u6 : Option MV} {u7 : Option MV} {u8 : Option MV} {u9 : Option MV} {xs0 : Int32} {xs1 : Int32} {h : MH}   (q : Q (some (.inl (xs0 + xs1))) h) : Wb rod d B_Sharing_evenShare 122 [u0, u1, u2, u3, u4, u5, u6, u7, u8, u9] [.inl xs1, .inl xs0] h Q := by
  refine Wb.ret (b_Sharing_evenShare_122) ?_
  (first | exact q | (simp only [Option.getD_some]; exact q))
theorem n_Math_floorMod {rod : Nat → Nat × (Nat → Int32)} {d : Nat} {Q : Option MV → MH → Prop} {x0 : Int32} {x1 : Int32} {h : MH} (k : Wb rod d B_Math_floorMod 0 [some (.inl x0), some (.inl x1), none] [] h Q) : Wc rod (d + 1) 183 [.inl x0, .inl x1] h Q := Wc.en (fun _ _ => e_Math_floorMod) k
theorem w_Math_floorMod_0 {rod : Nat → Nat × (Nat → Int32)} {d : Nat} {Q : Option MV → MH → Prop} {x0 : Int32} {x1 : Int32} {u2 : Option MV} {h : MH}  (g0 : x1 ≠ 0) (k1 : 0 ≤ (x0 ^^^ x1).toInt → Wb rod d B_Math_floorMod 18 [some (.inl x0), some (.inl x1), some (.inl (x0 - x0 / x1 * x1))] [] h Q) (k2 : ¬ 0 ≤ (x0 ^^^ x1).toInt → Wb rod d B_Math_floorMod 10 [some (.inl x0), some (.inl x1), some (.inl (x0 - x0 / x1 * x1))] [] h Q) : Wb rod d B_Math_floorMod 0 [some (.inl x0), some (.inl x1), u2] [] h Q := by
  refine Wb.br (fun _ _ => b_Math_floorMod_0 (ndec g0)) (fun c => ?_) (fun c => ?_)
  · have c : (decide (0 ≤ (x0 ^^^ x1))) = true := by first | exact c | (simp only [Option.getD_some] at c; exact c)
    (first | exact (k1 (c_let c)) | (simp only [Option.getD_some]; exact (k1 (c_let c))))
  · have c : (decide (0 ≤ (x0 ^^^ x1))) = false := by first | exact c | (simp only [Option.getD_some] at c; exact c)
    (first | exact (k2 (c_lef c)) | (simp only [Option.getD_some]; exact (k2 (c_lef c))))
theorem w_Math_floorMod_10 {rod : Nat → Nat × (Nat → Int32)} {d : Nat} {Q : Option MV → MH → Prop} {u0 : Option MV} {u1 : Option MV} {x2 : Int32} {h : MH}   (k1 : x2.toInt = 0 → Wb rod d B_Math_floorMod 18 [u0, u1, some (.inl x2)] [] h Q) (k2 : ¬ x2.toInt = 0 → Wb rod d B_Math_floorMod 14 [u0, u1, some (.inl x2)] [] h Q) : Wb rod d B_Math_floorMod 10 [u0, u1, some (.inl x2)] [] h Q := by
  refine Wb.br (fun _ _ => b_Math_floorMod_10) (fun c => ?_) (fun c => ?_)
  · have c : (decide (x2 = 0)) = true := by first | exact c | (simp only [Option.getD_some] at c; exact c)
    (first | exact (k1 (c_eqt c)) | (simp only [Option.getD_some]; exact (k1 (c_eqt c))))
  · have c : (decide (x2 = 0)) = false := by first | exact c | (simp only [Option.getD_some] at c; exact c)
    (first | exact (k2 (c_eqf c)) | (simp only [Option.getD_some]; exact (k2 (c_eqf c))))
theorem w_Math_floorMod_14 {rod : Nat → Nat × (Nat → Int32)} {d : Nat} {Q : Option MV → MH → Prop} {u0 : Option MV} {x1 : Int32} {x2 : Int32} {h : MH}   (q : Q (some (.inl (x2 + x1))) h) : Wb rod d B_Math_floorMod 14 [u0, some (.inl x1), some (.inl x2)] [] h Q := by
  refine Wb.ret (b_Math_floorMod_14) ?_
  (first | exact q | (simp only [Option.getD_some]; exact q))
theorem w_Math_floorMod_18 {rod : Nat → Nat × (Nat → Int32)} {d : Nat} {Q : Option MV → MH → Prop} {u0 : Option MV} {u1 : Option MV} {x2 : Int32} {h : MH}   (q : Q (some (.inl x2)) h) : Wb rod d B_Math_floorMod 18 [u0, u1, some (.inl x2)] [] h Q := by
  refine Wb.ret (b_Math_floorMod_18) ?_
  (first | exact q | (simp only [Option.getD_some]; exact q))
theorem n_Math_floorDiv {rod : Nat → Nat × (Nat → Int32)} {d : Nat} {Q : Option MV → MH → Prop} {x0 : Int32} {x1 : Int32} {h : MH} (k : Wb rod d B_Math_floorDiv 0 [some (.inl x0), some (.inl x1), none] [] h Q) : Wc rod (d + 1) 184 [.inl x0, .inl x1] h Q := Wc.en (fun _ _ => e_Math_floorDiv) k
theorem w_Math_floorDiv_0 {rod : Nat → Nat × (Nat → Int32)} {d : Nat} {Q : Option MV → MH → Prop} {x0 : Int32} {x1 : Int32} {u2 : Option MV} {h : MH}  (g0 : x1 ≠ 0) (k1 : 0 ≤ (x0 ^^^ x1).toInt → Wb rod d B_Math_floorDiv 21 [some (.inl x0), some (.inl x1), some (.inl (x0 / x1))] [] h Q) (k2 : ¬ 0 ≤ (x0 ^^^ x1).toInt → Wb rod d B_Math_floorDiv 10 [some (.inl x0), some (.inl x1), some (.inl (x0 / x1))] [] h Q) : Wb rod d B_Math_floorDiv 0 [some (.inl x0), some (.inl x1), u2] [] h Q := by
  refine Wb.br (fun _ _ => b_Math_floorDiv_0 (ndec g0)) (fun c => ?_) (fun c => ?_)
  · have c : (decide (0 ≤ (x0 ^^^ x1))) = true := by first | exact c | (simp only [Option.getD_some] at c; exact c)
    (first | exact (k1 (c_let c)) | (simp only [Option.getD_some]; exact (k1 (c_let c))))
  · have c : (decide (0 ≤ (x0 ^^^ x1))) = false := by first | exact c | (simp only [Option.getD_some] at c; exact c)
    (first | exact (k2 (c_lef c)) | (simp only [Option.getD_some]; exact (k2 (c_lef c))))
theorem w_Math_floorDiv_10 {rod : Nat → Nat × (Nat → Int32)} {d : Nat} {Q : Option MV → MH → Prop} {x0 : Int32} {x1 : Int32} {x2 : Int32} {h : MH}   (k1 : (x2 * x1).toInt = x0.toInt → Wb rod d B_Math_floorDiv 21 [some (.inl x0), some (.inl x1), some (.inl x2)] [] h Q) (k2 : ¬ (x2 * x1).toInt = x0.toInt → Wb rod d B_Math_floorDiv 17 [some (.inl x0), some (.inl x1), some (.inl x2)] [] h Q) : Wb rod d B_Math_floorDiv 10 [some (.inl x0), some (.inl x1), some (.inl x2)] [] h Q := by
  refine Wb.br (fun _ _ => b_Math_floorDiv_10) (fun c => ?_) (fun c => ?_)
  · have c : (decide ((x2 * x1) = x0)) = true := by first | exact c | (simp only [Option.getD_some] at c; exact c)
    (first | exact (k1 (c_eqt c)) | (simp only [Option.getD_some]; exact (k1 (c_eqt c))))
  · have c : (decide ((x2 * x1) = x0)) = false := by first | exact c | (simp only [Option.getD_some] at c; exact c)
    (first | exact (k2 (c_eqf c)) | (simp only [Option.getD_some]; exact (k2 (c_eqf c))))
theorem w_Math_floorDiv_17 {rod : Nat → Nat × (Nat → Int32)} {d : Nat} {Q : Option MV → MH → Prop} {u0 : Option MV} {u1 : Option MV} {x2 : Int32} {h : MH}   (q : Q (some (.inl (x2 - (1 : Int32)))) h) : Wb rod d B_Math_floorDiv 17 [u0, u1, some (.inl x2)] [] h Q := by
  refine Wb.ret (b_Math_floorDiv_17) ?_
  (first | exact q | (simp only [Option.getD_some]; exact q))
theorem w_Math_floorDiv_21 {rod : Nat → Nat × (Nat → Int32)} {d : Nat} {Q : Option MV → MH → Prop} {u0 : Option MV} {u1 : Option MV} {x2 : Int32} {h : MH}   (q : Q (some (.inl x2)) h) : Wb rod d B_Math_floorDiv 21 [u0, u1, some (.inl x2)] [] h Q := by
  refine Wb.ret (b_Math_floorDiv_21) ?_
  (first | exact q | (simp only [Option.getD_some]; exact q))
theorem n_Main_count {rod : Nat → Nat × (Nat → Int32)} {d : Nat} {Q : Option MV → MH → Prop} {x1 : Int32} {h : MH} (k : Wb rod d B_Main_count 0 [some (.inr (.inr (.inl (some 0)))), some (.inl x1)] [] h Q) : Wc rod (d + 1) 185 [.inr (.inr (.inl (some 0))), .inl x1] h Q := Wc.en (fun _ _ => e_Main_count) k
theorem w_Main_count_0 {rod : Nat → Nat × (Nat → Int32)} {d : Nat} {Q : Option MV → MH → Prop} {u0 : Option MV} {x1 : Int32} {h : MH}   (k1 : x1.toInt < 0 → Wb rod d B_Main_count 9 [u0, some (.inl x1)] [] h Q) (k2 : ¬ x1.toInt < 0 → Wb rod d B_Main_count 4 [u0, some (.inl x1)] [] h Q) : Wb rod d B_Main_count 0 [u0, some (.inl x1)] [] h Q := by
  refine Wb.br (fun _ _ => b_Main_count_0) (fun c => ?_) (fun c => ?_)
  · have c : (decide (x1 < 0)) = true := by first | exact c | (simp only [Option.getD_some] at c; exact c)
    (first | exact (k1 (c_ltt c)) | (simp only [Option.getD_some]; exact (k1 (c_ltt c))))
  · have c : (decide (x1 < 0)) = false := by first | exact c | (simp only [Option.getD_some] at c; exact c)
    (first | exact (k2 (c_ltf c)) | (simp only [Option.getD_some]; exact (k2 (c_ltf c))))
theorem w_Main_count_4 {rod : Nat → Nat × (Nat → Int32)} {d : Nat} {Q : Option MV → MH → Prop} {u0 : Option MV} {x1 : Int32} {h : MH}   (k1 : x1.toInt < 4 → Wb rod d B_Main_count 14 [u0, some (.inl x1)] [] h Q) (k2 : ¬ x1.toInt < 4 → Wb rod d B_Main_count 9 [u0, some (.inl x1)] [] h Q) : Wb rod d B_Main_count 4 [u0, some (.inl x1)] [] h Q := by
  refine Wb.br (fun _ _ => b_Main_count_4) (fun c => ?_) (fun c => ?_)
  · have c : (decide (x1 < (4 : Int32))) = true := by first | exact c | (simp only [Option.getD_some] at c; exact c)
    (first | exact (k1 (c_ltt c)) | (simp only [Option.getD_some]; exact (k1 (c_ltt c))))
  · have c : (decide (x1 < (4 : Int32))) = false := by first | exact c | (simp only [Option.getD_some] at c; exact c)
    (first | exact (k2 (c_ltf c)) | (simp only [Option.getD_some]; exact (k2 (c_ltf c))))
theorem w_Main_count_9 {rod : Nat → Nat × (Nat → Int32)} {d : Nat} {Q : Option MV → MH → Prop} {u0 : Option MV} {u1 : Option MV} {h : MH}   (k : Wb rod d B_Main_count 23 [u0, u1] [.inl (-2 : Int32)] h Q) : Wb rod d B_Main_count 9 [u0, u1] [] h Q := by
  refine Wb.go (fun r hr q => b_Main_count_9 ?_) k
  (first | exact q | (simp only [Option.getD_some]; exact q))
theorem w_Main_count_14 {rod : Nat → Nat × (Nat → Int32)} {d : Nat} {Q : Option MV → MH → Prop} {x1 : Int32} {h : MH} (L : Lay h.2) (g0 : 0 ≤ x1.toInt ∧ x1.toInt < 4) (k : Wb rod d B_Main_count 23 [some (.inr (.inr (.inl (some 0)))), some (.inl x1)] [.inl (h.1 3 x1.toNatClampNeg)] h Q) : Wb rod d B_Main_count 14 [some (.inr (.inr (.inl (some 0)))), some (.inl x1)] [] h Q := by
  refine Wb.go (fun r hr q => b_Main_count_14 (Lay.o0 L) (Lay.k0_0 L) (Lay.a1_4 L g0) ?_) k
  (first | exact q | (simp only [Option.getD_some, (Lay.r0_0 L), (Lay.r1_4 L)]; exact q))
theorem w_Main_count_23 {rod : Nat → Nat × (Nat → Int32)} {d : Nat} {Q : Option MV → MH → Prop} {u0 : Option MV} {u1 : Option MV} {xs0 : Int32} {h : MH}   (q : Q (some (.inl xs0)) h) : Wb rod d B_Main_count 23 [u0, u1] [.inl xs0] h Q := by
  refine Wb.ret (b_Main_count_23) ?_
  (first | exact q | (simp only [Option.getD_some]; exact q))
theorem n_Main_image {rod : Nat → Nat × (Nat → Int32)} {d : Nat} {Q : Option MV → MH → Prop} {x1 : Int32} {h : MH} (k : Wb rod d B_Main_image 0 [some (.inr (.inr (.inl (some 0)))), some (.inl x1)] [] h Q) : Wc rod (d + 1) 186 [.inr (.inr (.inl (some 0))), .inl x1] h Q := Wc.en (fun _ _ => e_Main_image) k
theorem w_Main_image_0 {rod : Nat → Nat × (Nat → Int32)} {d : Nat} {Q : Option MV → MH → Prop} {u0 : Option MV} {x1 : Int32} {h : MH}   (k1 : x1.toInt < 0 → Wb rod d B_Main_image 9 [u0, some (.inl x1)] [] h Q) (k2 : ¬ x1.toInt < 0 → Wb rod d B_Main_image 4 [u0, some (.inl x1)] [] h Q) : Wb rod d B_Main_image 0 [u0, some (.inl x1)] [] h Q := by
  refine Wb.br (fun _ _ => b_Main_image_0) (fun c => ?_) (fun c => ?_)
  · have c : (decide (x1 < 0)) = true := by first | exact c | (simp only [Option.getD_some] at c; exact c)
    (first | exact (k1 (c_ltt c)) | (simp only [Option.getD_some]; exact (k1 (c_ltt c))))
  · have c : (decide (x1 < 0)) = false := by first | exact c | (simp only [Option.getD_some] at c; exact c)
    (first | exact (k2 (c_ltf c)) | (simp only [Option.getD_some]; exact (k2 (c_ltf c))))
theorem w_Main_image_4 {rod : Nat → Nat × (Nat → Int32)} {d : Nat} {Q : Option MV → MH → Prop} {u0 : Option MV} {x1 : Int32} {h : MH}   (k1 : x1.toInt < 3 → Wb rod d B_Main_image 11 [u0, some (.inl x1)] [] h Q) (k2 : ¬ x1.toInt < 3 → Wb rod d B_Main_image 9 [u0, some (.inl x1)] [] h Q) : Wb rod d B_Main_image 4 [u0, some (.inl x1)] [] h Q := by
  refine Wb.br (fun _ _ => b_Main_image_4) (fun c => ?_) (fun c => ?_)
  · have c : (decide (x1 < (3 : Int32))) = true := by first | exact c | (simp only [Option.getD_some] at c; exact c)
    (first | exact (k1 (c_ltt c)) | (simp only [Option.getD_some]; exact (k1 (c_ltt c))))
  · have c : (decide (x1 < (3 : Int32))) = false := by first | exact c | (simp only [Option.getD_some] at c; exact c)
    (first | exact (k2 (c_ltf c)) | (simp only [Option.getD_some]; exact (k2 (c_ltf c))))
theorem w_Main_image_9 {rod : Nat → Nat × (Nat → Int32)} {d : Nat} {Q : Option MV → MH → Prop} {u0 : Option MV} {u1 : Option MV} {h : MH}   (q : Q (some (.inl (0 : Int32))) h) : Wb rod d B_Main_image 9 [u0, u1] [] h Q := by
  refine Wb.ret (b_Main_image_9) ?_
  (first | exact q | (simp only [Option.getD_some]; exact q))
theorem w_Main_image_11 {rod : Nat → Nat × (Nat → Int32)} {d : Nat} {Q : Option MV → MH → Prop} {x1 : Int32} {h : MH} (L : Lay h.2) (g0 : 0 ≤ x1.toInt ∧ x1.toInt < 3) (k1 : (h.2.1 44 x1.toNatClampNeg) = none → Wb rod d B_Main_image 20 [some (.inr (.inr (.inl (some 0)))), some (.inl x1)] [] h Q) (k2 : ∀ v, (h.2.1 44 x1.toNatClampNeg) = some v → Wb rod d B_Main_image 33 [some (.inr (.inr (.inl (some 0)))), some (.inl x1)] [] h Q) : Wb rod d B_Main_image 11 [some (.inr (.inr (.inl (some 0)))), some (.inl x1)] [] h Q := by
  refine Wb.br (fun _ _ => b_Main_image_11 (Lay.o0 L) (Lay.a0_1 L g0)) (fun c => ?_) (fun c => ?_)
  · have c : ((h.2.1 44 x1.toNatClampNeg)).isSome = true := by first | exact c | (simp only [Option.getD_some, (Lay.r0_1 L)] at c; exact c)
    cases hv : (h.2.1 44 x1.toNatClampNeg) with
    | none => rw [hv] at c; exact absurd c (by decide)
    | some v => (first | exact (k2 v hv) | (simp only [Option.getD_some, (Lay.r0_1 L)]; exact (k2 v hv)))
  · have c : ((h.2.1 44 x1.toNatClampNeg)).isSome = false := by first | exact c | (simp only [Option.getD_some, (Lay.r0_1 L)] at c; exact c)
    cases hv : (h.2.1 44 x1.toNatClampNeg) with
    | none => (first | exact (k1 hv) | (simp only [Option.getD_some, (Lay.r0_1 L)]; exact (k1 hv)))
    | some v => rw [hv] at c; exact absurd c (by simp)
theorem w_Main_image_28 {rod : Nat → Nat × (Nat → Int32)} {d : Nat} {Q : Option MV → MH → Prop} {u0 : Option MV} {u1 : Option MV} {os0 : Option Nat} {xs1 : Int32} {h : MH}   {Q1 : Option MV → MH → Prop} (c : Wc rod d 1 [.inr (.inr (.inl (some 1)))] h Q1) (k : ∀ r1 h2, Q1 r1 h2 → Wb rod d B_Main_image 32 [u0, u1] (r1.toList ++ [.inr (.inr (.inl (some 1))), .inl xs1, .inr (.inr (.inl os0))]) h2 Q) : Wb rod d B_Main_image 28 [u0, u1] [.inr (.inr (.inl (some 1))), .inl xs1, .inr (.inr (.inl os0))] h Q := by
  refine Wb.call (fun _ _ _ _ => b_Main_image_28 rfl) (Q1 := Q1) ?_ ?_
  · (first | exact c | (simp only [Option.getD_some]; exact c))
  · (first | exact k | (simp only [Option.getD_some]; exact k))
theorem w_Main_image_33 {rod : Nat → Nat × (Nat → Int32)} {d : Nat} {Q : Option MV → MH → Prop} {x1 : Int32} {h : MH} (L : Lay h.2) (g0 : 0 ≤ x1.toInt ∧ x1.toInt < 3) (g1 : gO h (h.2.1 44 x1.toNatClampNeg) 18 = true) {Q1 : Option MV → MH → Prop} (c : Wc rod d 187 [.inr (.inr (.inl (h.2.1 44 x1.toNatClampNeg))), .inr (.inr (.inl (some 1)))] h Q1) (k : ∀ r1 h2, Q1 r1 h2 → Wb rod d B_Main_image 46 [some (.inr (.inr (.inl (some 0)))), some (.inl x1)] (r1.toList ++ []) h2 Q) : Wb rod d B_Main_image 33 [some (.inr (.inr (.inl (some 0)))), some (.inl x1)] [] h Q := by
  refine Wb.call (fun _ _ _ _ => b_Main_image_33 (Lay.o0 L) (Lay.a0_1 L g0) g1) (Q1 := Q1) ?_ ?_
  · (first | exact c | (simp only [Option.getD_some, (Lay.r0_1 L), (Lay.r0_0 L)]; exact c))
  · (first | exact k | (simp only [Option.getD_some, (Lay.r0_1 L), (Lay.r0_0 L)]; exact k))
theorem w_Main_image_46 {rod : Nat → Nat × (Nat → Int32)} {d : Nat} {Q : Option MV → MH → Prop} {u0 : Option MV} {u1 : Option MV} {h : MH}   (q : Q (some (.inl (1 : Int32))) h) : Wb rod d B_Main_image 46 [u0, u1] [] h Q := by
  refine Wb.ret (b_Main_image_46) ?_
  (first | exact q | (simp only [Option.getD_some]; exact q))
theorem n_Main_again {rod : Nat → Nat × (Nat → Int32)} {d : Nat} {Q : Option MV → MH → Prop} {x1 : Int32} {h : MH} (k : Wb rod d B_Main_again 0 [some (.inr (.inr (.inl (some 0)))), some (.inl x1)] [] h Q) : Wc rod (d + 1) 188 [.inr (.inr (.inl (some 0))), .inl x1] h Q := Wc.en (fun _ _ => e_Main_again) k
theorem w_Main_again_0 {rod : Nat → Nat × (Nat → Int32)} {d : Nat} {Q : Option MV → MH → Prop} {u0 : Option MV} {x1 : Int32} {h : MH}   (k1 : x1.toInt < 0 → Wb rod d B_Main_again 18 [u0, some (.inl x1)] [] h Q) (k2 : ¬ x1.toInt < 0 → Wb rod d B_Main_again 4 [u0, some (.inl x1)] [] h Q) : Wb rod d B_Main_again 0 [u0, some (.inl x1)] [] h Q := by
  refine Wb.br (fun _ _ => b_Main_again_0) (fun c => ?_) (fun c => ?_)
  · have c : (decide (x1 < 0)) = true := by first | exact c | (simp only [Option.getD_some] at c; exact c)
    (first | exact (k1 (c_ltt c)) | (simp only [Option.getD_some]; exact (k1 (c_ltt c))))
  · have c : (decide (x1 < 0)) = false := by first | exact c | (simp only [Option.getD_some] at c; exact c)
    (first | exact (k2 (c_ltf c)) | (simp only [Option.getD_some]; exact (k2 (c_ltf c))))
theorem w_Main_again_4 {rod : Nat → Nat × (Nat → Int32)} {d : Nat} {Q : Option MV → MH → Prop} {u0 : Option MV} {x1 : Int32} {h : MH}   (k1 : 3 ≤ x1.toInt → Wb rod d B_Main_again 18 [u0, some (.inl x1)] [] h Q) (k2 : ¬ 3 ≤ x1.toInt → Wb rod d B_Main_again 9 [u0, some (.inl x1)] [] h Q) : Wb rod d B_Main_again 4 [u0, some (.inl x1)] [] h Q := by
  refine Wb.br (fun _ _ => b_Main_again_4) (fun c => ?_) (fun c => ?_)
  · have c : (decide ((3 : Int32) ≤ x1)) = true := by first | exact c | (simp only [Option.getD_some] at c; exact c)
    (first | exact (k1 (c_let c)) | (simp only [Option.getD_some]; exact (k1 (c_let c))))
  · have c : (decide ((3 : Int32) ≤ x1)) = false := by first | exact c | (simp only [Option.getD_some] at c; exact c)
    (first | exact (k2 (c_lef c)) | (simp only [Option.getD_some]; exact (k2 (c_lef c))))
theorem w_Main_again_9 {rod : Nat → Nat × (Nat → Int32)} {d : Nat} {Q : Option MV → MH → Prop} {x1 : Int32} {h : MH} (L : Lay h.2) (g0 : 0 ≤ x1.toInt ∧ x1.toInt < 3) (k1 : (h.2.1 44 x1.toNatClampNeg) = none → Wb rod d B_Main_again 18 [some (.inr (.inr (.inl (some 0)))), some (.inl x1)] [] h Q) (k2 : ∀ v, (h.2.1 44 x1.toNatClampNeg) = some v → Wb rod d B_Main_again 20 [some (.inr (.inr (.inl (some 0)))), some (.inl x1)] [] h Q) : Wb rod d B_Main_again 9 [some (.inr (.inr (.inl (some 0)))), some (.inl x1)] [] h Q := by
  refine Wb.br (fun _ _ => b_Main_again_9 (Lay.o0 L) (Lay.a0_1 L g0)) (fun c => ?_) (fun c => ?_)
  · have c : ((h.2.1 44 x1.toNatClampNeg)).isSome = true := by first | exact c | (simp only [Option.getD_some, (Lay.r0_1 L)] at c; exact c)
    cases hv : (h.2.1 44 x1.toNatClampNeg) with
    | none => rw [hv] at c; exact absurd c (by decide)
    | some v => (first | exact (k2 v hv) | (simp only [Option.getD_some, (Lay.r0_1 L)]; exact (k2 v hv)))
  · have c : ((h.2.1 44 x1.toNatClampNeg)).isSome = false := by first | exact c | (simp only [Option.getD_some, (Lay.r0_1 L)] at c; exact c)
    cases hv : (h.2.1 44 x1.toNatClampNeg) with
    | none => (first | exact (k1 hv) | (simp only [Option.getD_some, (Lay.r0_1 L)]; exact (k1 hv)))
    | some v => rw [hv] at c; exact absurd c (by simp)
theorem w_Main_again_18 {rod : Nat → Nat × (Nat → Int32)} {d : Nat} {Q : Option MV → MH → Prop} {u0 : Option MV} {u1 : Option MV} {h : MH}   (q : Q (some (.inl (0 : Int32))) h) : Wb rod d B_Main_again 18 [u0, u1] [] h Q := by
  refine Wb.ret (b_Main_again_18) ?_
  (first | exact q | (simp only [Option.getD_some]; exact q))
theorem w_Main_again_20 {rod : Nat → Nat × (Nat → Int32)} {d : Nat} {Q : Option MV → MH → Prop} {x1 : Int32} {h : MH} (L : Lay h.2) (g0 : 0 ≤ x1.toInt ∧ x1.toInt < 3) {Q1 : Option MV → MH → Prop} (c : Wc rod d 187 [.inr (.inr (.inl (some 1))), .inr (.inr (.inl (h.2.1 44 x1.toNatClampNeg)))] h Q1) (k : ∀ r1 h2, Q1 r1 h2 → Wb rod d B_Main_again 33 [some (.inr (.inr (.inl (some 0)))), some (.inl x1)] (r1.toList ++ []) h2 Q) : Wb rod d B_Main_again 20 [some (.inr (.inr (.inl (some 0)))), some (.inl x1)] [] h Q := by
  refine Wb.call (fun _ _ _ _ => b_Main_again_20 (Lay.o0 L) (Lay.a0_1 L g0) (Lay.k0_0 L)) (Q1 := Q1) ?_ ?_
  · (first | exact c | (simp only [Option.getD_some, (Lay.r0_0 L), (Lay.r0_1 L)]; exact c))
  · (first | exact k | (simp only [Option.getD_some, (Lay.r0_0 L), (Lay.r0_1 L)]; exact k))
theorem w_Main_again_33 {rod : Nat → Nat × (Nat → Int32)} {d : Nat} {Q : Option MV → MH → Prop} {u0 : Option MV} {u1 : Option MV} {h : MH}   (q : Q (some (.inl (1 : Int32))) h) : Wb rod d B_Main_again 33 [u0, u1] [] h Q := by
  refine Wb.ret (b_Main_again_33) ?_
  (first | exact q | (simp only [Option.getD_some]; exact q))
theorem n_Model_feed {rod : Nat → Nat × (Nat → Int32)} {d : Nat} {Q : Option MV → MH → Prop} {x1 : Int32} {x2 : Int32} {x3 : Int32} {x4 : Int32} {x5 : Int32} {h : MH} (k : Wb rod d B_Model_feed 0 [some (.inr (.inr (.inl (some 84)))), some (.inl x1), some (.inl x2), some (.inl x3), some (.inl x4), some (.inl x5), none, none] [] h Q) : Wc rod (d + 1) 190 [.inr (.inr (.inl (some 84))), .inl x1, .inl x2, .inl x3, .inl x4, .inl x5] h Q := Wc.en (fun _ _ => e_Model_feed) k
theorem w_Model_feed_0 {rod : Nat → Nat × (Nat → Int32)} {d : Nat} {Q : Option MV → MH → Prop} {u1 : Option MV} {u2 : Option MV} {u3 : Option MV} {u4 : Option MV} {u5 : Option MV} {u6 : Option MV} {u7 : Option MV} {h : MH} (L : Lay h.2)  (k1 : ((h.1 85 (4 : Int32).toNatClampNeg) + (20 : Int32)).toInt ≤ 600 → Wb rod d B_Model_feed 17 [some (.inr (.inr (.inl (some 84)))), u1, u2, u3, u4, u5, u6, u7] [] h Q) (k2 : ¬ ((h.1 85 (4 : Int32).toNatClampNeg) + (20 : Int32)).toInt ≤ 600 → Wb rod d B_Model_feed 15 [some (.inr (.inr (.inl (some 84)))), u1, u2, u3, u4, u5, u6, u7] [] h Q) : Wb rod d B_Model_feed 0 [some (.inr (.inr (.inl (some 84)))), u1, u2, u3, u4, u5, u6, u7] [] h Q := by
  refine Wb.br (fun _ _ => b_Model_feed_0 (Lay.o84 L) (Lay.a84_0 L ⟨by decide, by decide⟩)) (fun c => ?_) (fun c => ?_)
  · have c : (decide (((h.1 85 (4 : Int32).toNatClampNeg) + (20 : Int32)) ≤ (600 : Int32))) = true := by first | exact c | (simp only [Option.getD_some, (Lay.r84_0 L)] at c; exact c)
    (first | exact (k1 (c_let c)) | (simp only [Option.getD_some, (Lay.r84_0 L)]; exact (k1 (c_let c))))
  · have c : (decide (((h.1 85 (4 : Int32).toNatClampNeg) + (20 : Int32)) ≤ (600 : Int32))) = false := by first | exact c | (simp only [Option.getD_some, (Lay.r84_0 L)] at c; exact c)
    (first | exact (k2 (c_lef c)) | (simp only [Option.getD_some, (Lay.r84_0 L)]; exact (k2 (c_lef c))))
theorem w_Model_feed_15 {rod : Nat → Nat × (Nat → Int32)} {d : Nat} {Q : Option MV → MH → Prop} {u0 : Option MV} {u1 : Option MV} {u2 : Option MV} {u3 : Option MV} {u4 : Option MV} {u5 : Option MV} {u6 : Option MV} {u7 : Option MV} {h : MH}   (q : Q (some (.inl (-1 : Int32))) h) : Wb rod d B_Model_feed 15 [u0, u1, u2, u3, u4, u5, u6, u7] [] h Q := by
  refine Wb.ret (b_Model_feed_15) ?_
  (first | exact q | (simp only [Option.getD_some]; exact q))
theorem w_Model_feed_17 {rod : Nat → Nat × (Nat → Int32)} {d : Nat} {Q : Option MV → MH → Prop} {u0 : Option MV} {u1 : Option MV} {u2 : Option MV} {u3 : Option MV} {u4 : Option MV} {u5 : Option MV} {u6 : Option MV} {u7 : Option MV} {h : MH}  (g0 : okl [u0, u1, u2, u3, u4, u5, u6, u7] 6 = true) (k : Wb rod d B_Model_feed 20 [u0, u1, u2, u3, u4, u5, some (.inl (0 : Int32)), u7] [] h Q) : Wb rod d B_Model_feed 17 [u0, u1, u2, u3, u4, u5, u6, u7] [] h Q := by
  refine Wb.go (fun r hr q => b_Model_feed_17 g0 ?_) k
  (first | exact q | (simp only [Option.getD_some]; exact q))
theorem w_Model_feed_20 {rod : Nat → Nat × (Nat → Int32)} {d : Nat} {Q : Option MV → MH → Prop} {u0 : Option MV} {u1 : Option MV} {u2 : Option MV} {u3 : Option MV} {u4 : Option MV} {u5 : Option MV} {x6 : Int32} {u7 : Option MV} {h : MH}   (k1 : 20 ≤ x6.toInt → Wb rod d B_Model_feed 122 [u0, u1, u2, u3, u4, u5, some (.inl x6), u7] [] h Q) (k2 : ¬ 20 ≤ x6.toInt → Wb rod d B_Model_feed 27 [u0, u1, u2, u3, u4, u5, some (.inl x6), u7] [] h Q) : Wb rod d B_Model_feed 20 [u0, u1, u2, u3, u4, u5, some (.inl x6), u7] [] h Q := by
  refine Wb.br (fun _ _ => b_Model_feed_20) (fun c => ?_) (fun c => ?_)
  · have c : (decide ((20 : Int32) ≤ x6)) = true := by first | exact c | (simp only [Option.getD_some] at c; exact c)
    (first | exact (k1 (c_let c)) | (simp only [Option.getD_some]; exact (k1 (c_let c))))
  · have c : (decide ((20 : Int32) ≤ x6)) = false := by first | exact c | (simp only [Option.getD_some] at c; exact c)
    (first | exact (k2 (c_lef c)) | (simp only [Option.getD_some]; exact (k2 (c_lef c))))
theorem w_Model_feed_27 {rod : Nat → Nat × (Nat → Int32)} {d : Nat} {Q : Option MV → MH → Prop} {u0 : Option MV} {u1 : Option MV} {u2 : Option MV} {u3 : Option MV} {u4 : Option MV} {u5 : Option MV} {x6 : Int32} {u7 : Option MV} {h : MH}   (k1 : 4 ≤ x6.toInt → Wb rod d B_Model_feed 37 [u0, u1, u2, u3, u4, u5, some (.inl x6), u7] [] h Q) (k2 : ¬ 4 ≤ x6.toInt → Wb rod d B_Model_feed 33 [u0, u1, u2, u3, u4, u5, some (.inl x6), u7] [] h Q) : Wb rod d B_Model_feed 27 [u0, u1, u2, u3, u4, u5, some (.inl x6), u7] [] h Q := by
  refine Wb.br (fun _ _ => b_Model_feed_27) (fun c => ?_) (fun c => ?_)
  · have c : (decide ((4 : Int32) ≤ x6)) = true := by first | exact c | (simp only [Option.getD_some] at c; exact c)
    (first | exact (k1 (c_let c)) | (simp only [Option.getD_some]; exact (k1 (c_let c))))
  · have c : (decide ((4 : Int32) ≤ x6)) = false := by first | exact c | (simp only [Option.getD_some] at c; exact c)
    (first | exact (k2 (c_lef c)) | (simp only [Option.getD_some]; exact (k2 (c_lef c))))
theorem w_Model_feed_33 {rod : Nat → Nat × (Nat → Int32)} {d : Nat} {Q : Option MV → MH → Prop} {u0 : Option MV} {x1 : Int32} {u2 : Option MV} {u3 : Option MV} {u4 : Option MV} {u5 : Option MV} {u6 : Option MV} {u7 : Option MV} {h : MH}   (k : Wb rod d B_Model_feed 73 [u0, some (.inl x1), u2, u3, u4, u5, u6, u7] [.inl x1] h Q) : Wb rod d B_Model_feed 33 [u0, some (.inl x1), u2, u3, u4, u5, u6, u7] [] h Q := by
  refine Wb.go (fun r hr q => b_Model_feed_33 ?_) k
  (first | exact q | (simp only [Option.getD_some]; exact q))
theorem w_Model_feed_37 {rod : Nat → Nat × (Nat → Int32)} {d : Nat} {Q : Option MV → MH → Prop} {u0 : Option MV} {u1 : Option MV} {u2 : Option MV} {u3 : Option MV} {u4 : Option MV} {u5 : Option MV} {x6 : Int32} {u7 : Option MV} {h : MH}   (k1 : 8 ≤ x6.toInt → Wb rod d B_Model_feed 48 [u0, u1, u2, u3, u4, u5, some (.inl x6), u7] [] h Q) (k2 : ¬ 8 ≤ x6.toInt → Wb rod d B_Model_feed 44 [u0, u1, u2, u3, u4, u5, some (.inl x6), u7] [] h Q) : Wb rod d B_Model_feed 37 [u0, u1, u2, u3, u4, u5, some (.inl x6), u7] [] h Q := by
  refine Wb.br (fun _ _ => b_Model_feed_37) (fun c => ?_) (fun c => ?_)
  · have c : (decide ((8 : Int32) ≤ x6)) = true := by first | exact c | (simp only [Option.getD_some] at c; exact c)
    (first | exact (k1 (c_let c)) | (simp only [Option.getD_some]; exact (k1 (c_let c))))
  · have c : (decide ((8 : Int32) ≤ x6)) = false := by first | exact c | (simp only [Option.getD_some] at c; exact c)
    (first | exact (k2 (c_lef c)) | (simp only [Option.getD_some]; exact (k2 (c_lef c))))
theorem w_Model_feed_44 {rod : Nat → Nat × (Nat → Int32)} {d : Nat} {Q : Option MV → MH → Prop} {u0 : Option MV} {u1 : Option MV} {x2 : Int32} {u3 : Option MV} {u4 : Option MV} {u5 : Option MV} {u6 : Option MV} {u7 : Option MV} {h : MH}   (k : Wb rod d B_Model_feed 73 [u0, u1, some (.inl x2), u3, u4, u5, u6, u7] [.inl x2] h Q) : Wb rod d B_Model_feed 44 [u0, u1, some (.inl x2), u3, u4, u5, u6, u7] [] h Q := by
  refine Wb.go (fun r hr q => b_Model_feed_44 ?_) k
  (first | exact q | (simp only [Option.getD_some]; exact q))
theorem w_Model_feed_48 {rod : Nat → Nat × (Nat → Int32)} {d : Nat} {Q : Option MV → MH → Prop} {u0 : Option MV} {u1 : Option MV} {u2 : Option MV} {u3 : Option MV} {u4 : Option MV} {u5 : Option MV} {x6 : Int32} {u7 : Option MV} {h : MH}   (k1 : 12 ≤ x6.toInt → Wb rod d B_Model_feed 59 [u0, u1, u2, u3, u4, u5, some (.inl x6), u7] [] h Q) (k2 : ¬ 12 ≤ x6.toInt → Wb rod d B_Model_feed 55 [u0, u1, u2, u3, u4, u5, some (.inl x6), u7] [] h Q) : Wb rod d B_Model_feed 48 [u0, u1, u2, u3, u4, u5, some (.inl x6), u7] [] h Q := by
  refine Wb.br (fun _ _ => b_Model_feed_48) (fun c => ?_) (fun c => ?_)
  · have c : (decide ((12 : Int32) ≤ x6)) = true := by first | exact c | (simp only [Option.getD_some] at c; exact c)
    (first | exact (k1 (c_let c)) | (simp only [Option.getD_some]; exact (k1 (c_let c))))
  · have c : (decide ((12 : Int32) ≤ x6)) = false := by first | exact c | (simp only [Option.getD_some] at c; exact c)
    (first | exact (k2 (c_lef c)) | (simp only [Option.getD_some]; exact (k2 (c_lef c))))
theorem w_Model_feed_55 {rod : Nat → Nat × (Nat → Int32)} {d : Nat} {Q : Option MV → MH → Prop} {u0 : Option MV} {u1 : Option MV} {u2 : Option MV} {x3 : Int32} {u4 : Option MV} {u5 : Option MV} {u6 : Option MV} {u7 : Option MV} {h : MH}   (k : Wb rod d B_Model_feed 73 [u0, u1, u2, some (.inl x3), u4, u5, u6, u7] [.inl x3] h Q) : Wb rod d B_Model_feed 55 [u0, u1, u2, some (.inl x3), u4, u5, u6, u7] [] h Q := by
  refine Wb.go (fun r hr q => b_Model_feed_55 ?_) k
  (first | exact q | (simp only [Option.getD_some]; exact q))
theorem w_Model_feed_59 {rod : Nat → Nat × (Nat → Int32)} {d : Nat} {Q : Option MV → MH → Prop} {u0 : Option MV} {u1 : Option MV} {u2 : Option MV} {u3 : Option MV} {u4 : Option MV} {u5 : Option MV} {x6 : Int32} {u7 : Option MV} {h : MH}   (k1 : 16 ≤ x6.toInt → Wb rod d B_Model_feed 71 [u0, u1, u2, u3, u4, u5, some (.inl x6), u7] [] h Q) (k2 : ¬ 16 ≤ x6.toInt → Wb rod d B_Model_feed 66 [u0, u1, u2, u3, u4, u5, some (.inl x6), u7] [] h Q) : Wb rod d B_Model_feed 59 [u0, u1, u2, u3, u4, u5, some (.inl x6), u7] [] h Q := by
  refine Wb.br (fun _ _ => b_Model_feed_59) (fun c => ?_) (fun c => ?_)
  · have c : (decide ((16 : Int32) ≤ x6)) = true := by first | exact c | (simp only [Option.getD_some] at c; exact c)
    (first | exact (k1 (c_let c)) | (simp only [Option.getD_some]; exact (k1 (c_let c))))
  · have c : (decide ((16 : Int32) ≤ x6)) = false := by first | exact c | (simp only [Option.getD_some] at c; exact c)
    (first | exact (k2 (c_lef c)) | (simp only [Option.getD_some]; exact (k2 (c_lef c))))
theorem w_Model_feed_66 {rod : Nat → Nat × (Nat → Int32)} {d : Nat} {Q : Option MV → MH → Prop} {u0 : Option MV} {u1 : Option MV} {u2 : Option MV} {u3 : Option MV} {x4 : Int32} {u5 : Option MV} {u6 : Option MV} {u7 : Option MV} {h : MH}   (k : Wb rod d B_Model_feed 73 [u0, u1, u2, u3, some (.inl x4), u5, u6, u7] [.inl x4] h Q) : Wb rod d B_Model_feed 66 [u0, u1, u2, u3, some (.inl x4), u5, u6, u7] [] h Q := by
  refine Wb.go (fun r hr q => b_Model_feed_66 ?_) k
  (first | exact q | (simp only [Option.getD_some]; exact q))
theorem w_Model_feed_71 {rod : Nat → Nat × (Nat → Int32)} {d : Nat} {Q : Option MV → MH → Prop} {u0 : Option MV} {u1 : Option MV} {u2 : Option MV} {u3 : Option MV} {u4 : Option MV} {x5 : Int32} {u6 : Option MV} {u7 : Option MV} {h : MH}   (k : Wb rod d B_Model_feed 73 [u0, u1, u2, u3, u4, some (.inl x5), u6, u7] [.inl x5] h Q) : Wb rod d B_Model_feed 71 [u0, u1, u2, u3, u4, some (.inl x5), u6, u7] [] h Q := by
  refine Wb.go (fun r hr q => b_Model_feed_71 ?_) k
  (first | exact q | (simp only [Option.getD_some]; exact q))
theorem w_Model_feed_73 {rod : Nat → Nat × (Nat → Int32)} {d : Nat} {Q : Option MV → MH → Prop} {u1 : Option MV} {u2 : Option MV} {u3 : Option MV} {u4 : Option MV} {u5 : Option MV} {x6 : Int32} {u7 : Option MV} {xs0 : Int32} {h : MH} (L : Lay h.2) (g0 : 0 ≤ ((10 : Int32) + (h.1 85 (4 : Int32).toNatClampNeg)).toInt ∧ ((10 : Int32) + (h.1 85 (4 : Int32).toNatClampNeg)).toInt < 4584) (k : Wb rod d B_Model_feed 106 [some (.inr (.inr (.inl (some 84)))), u1, u2, u3, u4, u5, some (.inl x6), some (.inl xs0)] [] (sI h 85 ((10 : Int32) + (h.1 85 (4 : Int32).toNatClampNeg)).toNatClampNeg ((xs0 >>> (((24 : Int32) - ((8 : Int32) * (x6 - x6 / (4 : Int32) * (4 : Int32)))) &&& 31)) &&& (255 : Int32))) Q) : Wb rod d B_Model_feed 73 [some (.inr (.inr (.inl (some 84)))), u1, u2, u3, u4, u5, some (.inl x6), u7] [.inl xs0] h Q := by
  refine Wb.go (fun r hr q => b_Model_feed_73 (Lay.o84 L) (Lay.a84_0 L ⟨by decide, by decide⟩) (by decide) (Lay.a84_0 L g0) ?_) k
  (first | exact q | (simp only [Option.getD_some, (Lay.r84_0 L)]; exact q))
theorem w_Model_feed_106 {rod : Nat → Nat × (Nat → Int32)} {d : Nat} {Q : Option MV → MH → Prop} {u1 : Option MV} {u2 : Option MV} {u3 : Option MV} {u4 : Option MV} {u5 : Option MV} {u6 : Option MV} {u7 : Option MV} {h : MH} (L : Lay h.2)  (k : Wb rod d B_Model_feed 116 [some (.inr (.inr (.inl (some 84)))), u1, u2, u3, u4, u5, u6, u7] [] (sI h 85 (4 : Int32).toNatClampNeg ((h.1 85 (4 : Int32).toNatClampNeg) + (1 : Int32))) Q) : Wb rod d B_Model_feed 106 [some (.inr (.inr (.inl (some 84)))), u1, u2, u3, u4, u5, u6, u7] [] h Q := by
  refine Wb.go (fun r hr q => b_Model_feed_106 (Lay.o84 L) (Lay.a84_0 L ⟨by decide, by decide⟩) ?_) k
  (first | exact q | (simp only [Option.getD_some, (Lay.r84_0 L)]; exact q))
theorem w_Model_feed_116 {rod : Nat → Nat × (Nat → Int32)} {d : Nat} {Q : Option MV → MH → Prop} {u0 : Option MV} {u1 : Option MV} {u2 : Option MV} {u3 : Option MV} {u4 : Option MV} {u5 : Option MV} {x6 : Int32} {u7 : Option MV} {h : MH}  (g0 : okl [u0, u1, u2, u3, u4, u5, some (.inl x6), u7] 6 = true) (k : Wb rod d B_Model_feed 20 [u0, u1, u2, u3, u4, u5, some (.inl (x6 + 1)), u7] [] h Q) : Wb rod d B_Model_feed 116 [u0, u1, u2, u3, u4, u5, some (.inl x6), u7] [] h Q := by
  refine Wb.go (fun r hr q => b_Model_feed_116 g0 ?_) k
  (first | exact q | (simp only [Option.getD_some]; exact q))
theorem w_Model_feed_122 {rod : Nat → Nat × (Nat → Int32)} {d : Nat} {Q : Option MV → MH → Prop} {u1 : Option MV} {u2 : Option MV} {u3 : Option MV} {u4 : Option MV} {u5 : Option MV} {u6 : Option MV} {u7 : Option MV} {h : MH} (L : Lay h.2)  (q : Q (some (.inl (h.1 85 (4 : Int32).toNatClampNeg))) h) : Wb rod d B_Model_feed 122 [some (.inr (.inr (.inl (some 84)))), u1, u2, u3, u4, u5, u6, u7] [] h Q := by
  refine Wb.ret (b_Model_feed_122 (Lay.o84 L) (Lay.a84_0 L ⟨by decide, by decide⟩)) ?_
  (first | exact q | (simp only [Option.getD_some, (Lay.r84_0 L)]; exact q))
theorem n_Model_end {rod : Nat → Nat × (Nat → Int32)} {d : Nat} {Q : Option MV → MH → Prop} {x1 : Int32} {h : MH} (k : Wb rod d B_Model_end 0 [some (.inr (.inr (.inl (some 84)))), some (.inl x1)] [] h Q) : Wc rod (d + 1) 191 [.inr (.inr (.inl (some 84))), .inl x1] h Q := Wc.en (fun _ _ => e_Model_end) k
theorem w_Model_end_0 {rod : Nat → Nat × (Nat → Int32)} {d : Nat} {Q : Option MV → MH → Prop} {u0 : Option MV} {x1 : Int32} {h : MH}   (k1 : x1.toInt < 0 → Wb rod d B_Model_end 14 [u0, some (.inl x1)] [] h Q) (k2 : ¬ x1.toInt < 0 → Wb rod d B_Model_end 4 [u0, some (.inl x1)] [] h Q) : Wb rod d B_Model_end 0 [u0, some (.inl x1)] [] h Q := by
  refine Wb.br (fun _ _ => b_Model_end_0) (fun c => ?_) (fun c => ?_)
  · have c : (decide (x1 < 0)) = true := by first | exact c | (simp only [Option.getD_some] at c; exact c)
    (first | exact (k1 (c_ltt c)) | (simp only [Option.getD_some]; exact (k1 (c_ltt c))))
  · have c : (decide (x1 < 0)) = false := by first | exact c | (simp only [Option.getD_some] at c; exact c)
    (first | exact (k2 (c_ltf c)) | (simp only [Option.getD_some]; exact (k2 (c_ltf c))))
theorem w_Model_end_4 {rod : Nat → Nat × (Nat → Int32)} {d : Nat} {Q : Option MV → MH → Prop} {x1 : Int32} {h : MH} (L : Lay h.2)  (k1 : x1.toInt ≤ (h.1 85 (4 : Int32).toNatClampNeg).toInt → Wb rod d B_Model_end 16 [some (.inr (.inr (.inl (some 84)))), some (.inl x1)] [] h Q) (k2 : ¬ x1.toInt ≤ (h.1 85 (4 : Int32).toNatClampNeg).toInt → Wb rod d B_Model_end 14 [some (.inr (.inr (.inl (some 84)))), some (.inl x1)] [] h Q) : Wb rod d B_Model_end 4 [some (.inr (.inr (.inl (some 84)))), some (.inl x1)] [] h Q := by
  refine Wb.br (fun _ _ => b_Model_end_4 (Lay.o84 L) (Lay.a84_0 L ⟨by decide, by decide⟩)) (fun c => ?_) (fun c => ?_)
  · have c : (decide (x1 ≤ (h.1 85 (4 : Int32).toNatClampNeg))) = true := by first | exact c | (simp only [Option.getD_some, (Lay.r84_0 L)] at c; exact c)
    (first | exact (k1 (c_let c)) | (simp only [Option.getD_some, (Lay.r84_0 L)]; exact (k1 (c_let c))))
  · have c : (decide (x1 ≤ (h.1 85 (4 : Int32).toNatClampNeg))) = false := by first | exact c | (simp only [Option.getD_some, (Lay.r84_0 L)] at c; exact c)
    (first | exact (k2 (c_lef c)) | (simp only [Option.getD_some, (Lay.r84_0 L)]; exact (k2 (c_lef c))))
theorem w_Model_end_14 {rod : Nat → Nat × (Nat → Int32)} {d : Nat} {Q : Option MV → MH → Prop} {u0 : Option MV} {u1 : Option MV} {h : MH}   (q : Q (some (.inl (-1 : Int32))) h) : Wb rod d B_Model_end 14 [u0, u1] [] h Q := by
  refine Wb.ret (b_Model_end_14) ?_
  (first | exact q | (simp only [Option.getD_some]; exact q))
theorem w_Model_end_16 {rod : Nat → Nat × (Nat → Int32)} {d : Nat} {Q : Option MV → MH → Prop} {x1 : Int32} {h : MH} (L : Lay h.2)  (k : Wb rod d B_Model_end 23 [some (.inr (.inr (.inl (some 84)))), some (.inl x1)] [] (sI h 85 (4 : Int32).toNatClampNeg x1) Q) : Wb rod d B_Model_end 16 [some (.inr (.inr (.inl (some 84)))), some (.inl x1)] [] h Q := by
  refine Wb.go (fun r hr q => b_Model_end_16 (Lay.o84 L) (Lay.a84_0 L ⟨by decide, by decide⟩) ?_) k
  (first | exact q | (simp only [Option.getD_some, (Lay.r84_0 L)]; exact q))
theorem w_Model_end_23 {rod : Nat → Nat × (Nat → Int32)} {d : Nat} {Q : Option MV → MH → Prop} {u0 : Option MV} {x1 : Int32} {h : MH}   (q : Q (some (.inl x1)) h) : Wb rod d B_Model_end 23 [u0, some (.inl x1)] [] h Q := by
  refine Wb.ret (b_Model_end_23) ?_
  (first | exact q | (simp only [Option.getD_some]; exact q))
theorem n_Model_text {rod : Nat → Nat × (Nat → Int32)} {d : Nat} {Q : Option MV → MH → Prop} {x1 : Int32} {x2 : Int32} {h : MH} (k : Wb rod d B_Model_text 0 [some (.inr (.inr (.inl (some 84)))), some (.inl x1), some (.inl x2), none, none] [] h Q) : Wc rod (d + 1) 192 [.inr (.inr (.inl (some 84))), .inl x1, .inl x2] h Q := Wc.en (fun _ _ => e_Model_text) k
theorem w_Model_text_0 {rod : Nat → Nat × (Nat → Int32)} {d : Nat} {Q : Option MV → MH → Prop} {u1 : Option MV} {u2 : Option MV} {u3 : Option MV} {u4 : Option MV} {h : MH} (L : Lay h.2)  (k : Wb rod d B_Model_text 10 [some (.inr (.inr (.inl (some 84)))), u1, u2, u3, u4] [] (sI h 84 2 (h.1 85 (4 : Int32).toNatClampNeg)) Q) : Wb rod d B_Model_text 0 [some (.inr (.inr (.inl (some 84)))), u1, u2, u3, u4] [] h Q := by
  refine Wb.go (fun r hr q => b_Model_text_0 (Lay.o84 L) (Lay.a84_0 L ⟨by decide, by decide⟩) ?_) k
  (first | exact q | (simp only [Option.getD_some, (Lay.r84_0 L)]; exact q))
theorem w_Model_text_10 {rod : Nat → Nat × (Nat → Int32)} {d : Nat} {Q : Option MV → MH → Prop} {u1 : Option MV} {u2 : Option MV} {u3 : Option MV} {u4 : Option MV} {h : MH} (L : Lay h.2)  (k : Wb rod d B_Model_text 17 [some (.inr (.inr (.inl (some 84)))), u1, u2, u3, u4] [] (sI h 85 (4 : Int32).toNatClampNeg (0 : Int32)) Q) : Wb rod d B_Model_text 10 [some (.inr (.inr (.inl (some 84)))), u1, u2, u3, u4] [] h Q := by
  refine Wb.go (fun r hr q => b_Model_text_10 (Lay.o84 L) (Lay.a84_0 L ⟨by decide, by decide⟩) ?_) k
  (first | exact q | (simp only [Option.getD_some, (Lay.r84_0 L)]; exact q))
theorem w_Model_text_17 {rod : Nat → Nat × (Nat → Int32)} {d : Nat} {Q : Option MV → MH → Prop} {u1 : Option MV} {u2 : Option MV} {u3 : Option MV} {u4 : Option MV} {h : MH} (L : Lay h.2)  (k : Wb rod d B_Model_text 24 [some (.inr (.inr (.inl (some 84)))), u1, u2, u3, u4] [] (sI h 85 (5 : Int32).toNatClampNeg (0 : Int32)) Q) : Wb rod d B_Model_text 17 [some (.inr (.inr (.inl (some 84)))), u1, u2, u3, u4] [] h Q := by
  refine Wb.go (fun r hr q => b_Model_text_17 (Lay.o84 L) (Lay.a84_0 L ⟨by decide, by decide⟩) ?_) k
  (first | exact q | (simp only [Option.getD_some, (Lay.r84_0 L)]; exact q))
theorem w_Model_text_24 {rod : Nat → Nat × (Nat → Int32)} {d : Nat} {Q : Option MV → MH → Prop} {u1 : Option MV} {u2 : Option MV} {u3 : Option MV} {u4 : Option MV} {h : MH} (L : Lay h.2)  (k : Wb rod d B_Model_text 32 [some (.inr (.inr (.inl (some 84)))), u1, u2, u3, u4] [] (sI h 85 (6 : Int32).toNatClampNeg (-1 : Int32)) Q) : Wb rod d B_Model_text 24 [some (.inr (.inr (.inl (some 84)))), u1, u2, u3, u4] [] h Q := by
  refine Wb.go (fun r hr q => b_Model_text_24 (Lay.o84 L) (Lay.a84_0 L ⟨by decide, by decide⟩) ?_) k
  (first | exact q | (simp only [Option.getD_some, (Lay.r84_0 L)]; exact q))
theorem w_Model_text_32 {rod : Nat → Nat × (Nat → Int32)} {d : Nat} {Q : Option MV → MH → Prop} {u0 : Option MV} {x1 : Int32} {u2 : Option MV} {u3 : Option MV} {u4 : Option MV} {h : MH}   {Q1 : Option MV → MH → Prop} (c : Wc rod d 193 [.inl x1, .inl (0 : Int32), .inl (3 : Int32)] h Q1) (k : ∀ r1 h2, Q1 r1 h2 → Wb rod d B_Model_text 38 [u0, some (.inl x1), u2, u3, u4] (r1.toList ++ []) h2 Q) : Wb rod d B_Model_text 32 [u0, some (.inl x1), u2, u3, u4] [] h Q := by
  refine Wb.call (fun _ _ _ _ => b_Model_text_32) (Q1 := Q1) ?_ ?_
  · (first | exact c | (simp only [Option.getD_some]; exact c))
  · (first | exact k | (simp only [Option.getD_some]; exact k))
theorem w_Model_text_38 {rod : Nat → Nat × (Nat → Int32)} {d : Nat} {Q : Option MV → MH → Prop} {u0 : Option MV} {u1 : Option MV} {u2 : Option MV} {u3 : Option MV} {u4 : Option MV} {xs0 : Int32} {h : MH}   (k1 : xs0.toInt = 0 → Wb rod d B_Model_text 68 [u0, u1, u2, u3, u4] [] h Q) (k2 : ¬ xs0.toInt = 0 → Wb rod d B_Model_text 41 [u0, u1, u2, u3, u4] [] h Q) : Wb rod d B_Model_text 38 [u0, u1, u2, u3, u4] [.inl xs0] h Q := by
  refine Wb.br (fun _ _ => b_Model_text_38) (fun c => ?_) (fun c => ?_)
  · have c : (decide (xs0 = 0)) = true := by first | exact c | (simp only [Option.getD_some] at c; exact c)
    (first | exact (k1 (c_eqt c)) | (simp only [Option.getD_some]; exact (k1 (c_eqt c))))
  · have c : (decide (xs0 = 0)) = false := by first | exact c | (simp only [Option.getD_some] at c; exact c)
    (first | exact (k2 (c_eqf c)) | (simp only [Option.getD_some]; exact (k2 (c_eqf c))))
theorem w_Model_text_41 {rod : Nat → Nat × (Nat → Int32)} {d : Nat} {Q : Option MV → MH → Prop} {u0 : Option MV} {u1 : Option MV} {x2 : Int32} {u3 : Option MV} {u4 : Option MV} {h : MH}   (k1 : ¬ x2.toInt = (-1) → Wb rod d B_Model_text 59 [u0, u1, some (.inl x2), u3, u4] [] h Q) (k2 : x2.toInt = (-1) → Wb rod d B_Model_text 46 [u0, u1, some (.inl x2), u3, u4] [] h Q) : Wb rod d B_Model_text 41 [u0, u1, some (.inl x2), u3, u4] [] h Q := by
  refine Wb.br (fun _ _ => b_Model_text_41) (fun c => ?_) (fun c => ?_)
  · have c : (!(decide (x2 = (-1 : Int32)))) = true := by first | exact c | (simp only [Option.getD_some] at c; exact c)
    (first | exact (k1 (c_net c)) | (simp only [Option.getD_some]; exact (k1 (c_net c))))
  · have c : (!(decide (x2 = (-1 : Int32)))) = false := by first | exact c | (simp only [Option.getD_some] at c; exact c)
    (first | exact (k2 (c_nef c)) | (simp only [Option.getD_some]; exact (k2 (c_nef c))))
theorem w_Model_text_46 {rod : Nat → Nat × (Nat → Int32)} {d : Nat} {Q : Option MV → MH → Prop} {x1 : Int32} {u2 : Option MV} {u3 : Option MV} {u4 : Option MV} {h : MH} (L : Lay h.2) (g0 : 0 ≤ x1.toInt ∧ x1.toInt < 4584) (k1 : (h.1 85 x1.toNatClampNeg).toInt < 2 → Wb rod d B_Model_text 71 [some (.inr (.inr (.inl (some 84)))), some (.inl x1), u2, u3, u4] [] h Q) (k2 : ¬ (h.1 85 x1.toNatClampNeg).toInt < 2 → Wb rod d B_Model_text 56 [some (.inr (.inr (.inl (some 84)))), some (.inl x1), u2, u3, u4] [] h Q) : Wb rod d B_Model_text 46 [some (.inr (.inr (.inl (some 84)))), some (.inl x1), u2, u3, u4] [] h Q := by
  refine Wb.br (fun _ _ => b_Model_text_46 (Lay.o84 L) (Lay.a84_0 L g0)) (fun c => ?_) (fun c => ?_)
  · have c : (decide ((h.1 85 x1.toNatClampNeg) < (2 : Int32))) = true := by first | exact c | (simp only [Option.getD_some, (Lay.r84_0 L)] at c; exact c)
    (first | exact (k1 (c_ltt c)) | (simp only [Option.getD_some, (Lay.r84_0 L)]; exact (k1 (c_ltt c))))
  · have c : (decide ((h.1 85 x1.toNatClampNeg) < (2 : Int32))) = false := by first | exact c | (simp only [Option.getD_some, (Lay.r84_0 L)] at c; exact c)
    (first | exact (k2 (c_ltf c)) | (simp only [Option.getD_some, (Lay.r84_0 L)]; exact (k2 (c_ltf c))))
theorem w_Model_text_56 {rod : Nat → Nat × (Nat → Int32)} {d : Nat} {Q : Option MV → MH → Prop} {u0 : Option MV} {u1 : Option MV} {u2 : Option MV} {u3 : Option MV} {u4 : Option MV} {h : MH}   (k : Wb rod d B_Model_text 68 [u0, u1, u2, u3, u4] [] h Q) : Wb rod d B_Model_text 56 [u0, u1, u2, u3, u4] [] h Q := by
  refine Wb.go (fun r hr q => b_Model_text_56 ?_) k
  (first | exact q | (simp only [Option.getD_some]; exact q))
theorem w_Model_text_59 {rod : Nat → Nat × (Nat → Int32)} {d : Nat} {Q : Option MV → MH → Prop} {x1 : Int32} {x2 : Int32} {u3 : Option MV} {u4 : Option MV} {h : MH} (L : Lay h.2)  {Q1 : Option MV → MH → Prop} (c : Wc rod d 194 [.inr (.inr (.inl (some 84))), .inl x1, .inl x2] h Q1) (k : ∀ r1 h2, Q1 r1 h2 → Wb rod d B_Model_text 65 [some (.inr (.inr (.inl (some 84)))), some (.inl x1), some (.inl x2), u3, u4] (r1.toList ++ []) h2 Q) : Wb rod d B_Model_text 59 [some (.inr (.inr (.inl (some 84)))), some (.inl x1), some (.inl x2), u3, u4] [] h Q := by
  refine Wb.call (fun _ _ _ _ => b_Model_text_59 (Lay.o84 L)) (Q1 := Q1) ?_ ?_
  · (first | exact c | (simp only [Option.getD_some]; exact c))
  · (first | exact k | (simp only [Option.getD_some]; exact k))
theorem w_Model_text_65 {rod : Nat → Nat × (Nat → Int32)} {d : Nat} {Q : Option MV → MH → Prop} {u0 : Option MV} {u1 : Option MV} {u2 : Option MV} {u3 : Option MV} {u4 : Option MV} {xs0 : Int32} {h : MH}   (k1 : ¬ xs0.toInt = 0 → Wb rod d B_Model_text 71 [u0, u1, u2, u3, u4] [] h Q) (k2 : xs0.toInt = 0 → Wb rod d B_Model_text 68 [u0, u1, u2, u3, u4] [] h Q) : Wb rod d B_Model_text 65 [u0, u1, u2, u3, u4] [.inl xs0] h Q := by
  refine Wb.br (fun _ _ => b_Model_text_65) (fun c => ?_) (fun c => ?_)
  · have c : (!(decide (xs0 = 0))) = true := by first | exact c | (simp only [Option.getD_some] at c; exact c)
    (first | exact (k1 (c_net c)) | (simp only [Option.getD_some]; exact (k1 (c_net c))))
  · have c : (!(decide (xs0 = 0))) = false := by first | exact c | (simp only [Option.getD_some] at c; exact c)
    (first | exact (k2 (c_nef c)) | (simp only [Option.getD_some]; exact (k2 (c_nef c))))
theorem w_Model_text_68 {rod : Nat → Nat × (Nat → Int32)} {d : Nat} {Q : Option MV → MH → Prop} {u0 : Option MV} {u1 : Option MV} {u2 : Option MV} {u3 : Option MV} {u4 : Option MV} {h : MH}   (q : Q (some (.inl (-2 : Int32))) h) : Wb rod d B_Model_text 68 [u0, u1, u2, u3, u4] [] h Q := by
  refine Wb.ret (b_Model_text_68) ?_
  (first | exact q | (simp only [Option.getD_some]; exact q))
theorem w_Model_text_71 {rod : Nat → Nat × (Nat → Int32)} {d : Nat} {Q : Option MV → MH → Prop} {u1 : Option MV} {u2 : Option MV} {u3 : Option MV} {u4 : Option MV} {h : MH} (L : Lay h.2)  (k : Wb rod d B_Model_text 76 [some (.inr (.inr (.inl (some 84)))), u1, u2, u3, u4] [] (sI h 84 3 (0 : Int32)) Q) : Wb rod d B_Model_text 71 [some (.inr (.inr (.inl (some 84)))), u1, u2, u3, u4] [] h Q := by
  refine Wb.go (fun r hr q => b_Model_text_71 (Lay.o84 L) ?_) k
  (first | exact q | (simp only [Option.getD_some]; exact q))
theorem w_Model_text_76 {rod : Nat → Nat × (Nat → Int32)} {d : Nat} {Q : Option MV → MH → Prop} {u1 : Option MV} {u2 : Option MV} {u3 : Option MV} {u4 : Option MV} {h : MH} (L : Lay h.2)  (k : Wb rod d B_Model_text 81 [some (.inr (.inr (.inl (some 84)))), u1, u2, u3, u4] [] (sI h 84 8 (0 : Int32)) Q) : Wb rod d B_Model_text 76 [some (.inr (.inr (.inl (some 84)))), u1, u2, u3, u4] [] h Q := by
  refine Wb.go (fun r hr q => b_Model_text_76 (Lay.o84 L) ?_) k
  (first | exact q | (simp only [Option.getD_some]; exact q))
theorem w_Model_text_81 {rod : Nat → Nat × (Nat → Int32)} {d : Nat} {Q : Option MV → MH → Prop} {u1 : Option MV} {u2 : Option MV} {u3 : Option MV} {u4 : Option MV} {h : MH} (L : Lay h.2)  (k : Wb rod d B_Model_text 86 [some (.inr (.inr (.inl (some 84)))), u1, u2, u3, u4] [] (sI h 84 9 (-1 : Int32)) Q) : Wb rod d B_Model_text 81 [some (.inr (.inr (.inl (some 84)))), u1, u2, u3, u4] [] h Q := by
  refine Wb.go (fun r hr q => b_Model_text_81 (Lay.o84 L) ?_) k
  (first | exact q | (simp only [Option.getD_some]; exact q))
theorem w_Model_text_86 {rod : Nat → Nat × (Nat → Int32)} {d : Nat} {Q : Option MV → MH → Prop} {u1 : Option MV} {u2 : Option MV} {u3 : Option MV} {u4 : Option MV} {h : MH} (L : Lay h.2)  (k : Wb rod d B_Model_text 91 [some (.inr (.inr (.inl (some 84)))), u1, u2, u3, u4] [] (sI h 84 11 (0 : Int32)) Q) : Wb rod d B_Model_text 86 [some (.inr (.inr (.inl (some 84)))), u1, u2, u3, u4] [] h Q := by
  refine Wb.go (fun r hr q => b_Model_text_86 (Lay.o84 L) ?_) k
  (first | exact q | (simp only [Option.getD_some]; exact q))
theorem w_Model_text_91 {rod : Nat → Nat × (Nat → Int32)} {d : Nat} {Q : Option MV → MH → Prop} {u0 : Option MV} {u1 : Option MV} {u2 : Option MV} {u3 : Option MV} {u4 : Option MV} {h : MH}  (g0 : okl [u0, u1, u2, u3, u4] 3 = true) (k : Wb rod d B_Model_text 93 [u0, u1, u2, some (.inl (0 : Int32)), u4] [] h Q) : Wb rod d B_Model_text 91 [u0, u1, u2, u3, u4] [] h Q := by
  refine Wb.go (fun r hr q => b_Model_text_91 g0 ?_) k
  (first | exact q | (simp only [Option.getD_some]; exact q))
theorem w_Model_text_93 {rod : Nat → Nat × (Nat → Int32)} {d : Nat} {Q : Option MV → MH → Prop} {u0 : Option MV} {u1 : Option MV} {u2 : Option MV} {x3 : Int32} {u4 : Option MV} {h : MH}   (k1 : 121 ≤ x3.toInt → Wb rod d B_Model_text 112 [u0, u1, u2, some (.inl x3), u4] [] h Q) (k2 : ¬ 121 ≤ x3.toInt → Wb rod d B_Model_text 99 [u0, u1, u2, some (.inl x3), u4] [] h Q) : Wb rod d B_Model_text 93 [u0, u1, u2, some (.inl x3), u4] [] h Q := by
  refine Wb.br (fun _ _ => b_Model_text_93) (fun c => ?_) (fun c => ?_)
  · have c : (decide ((121 : Int32) ≤ x3)) = true := by first | exact c | (simp only [Option.getD_some] at c; exact c)
    (first | exact (k1 (c_let c)) | (simp only [Option.getD_some]; exact (k1 (c_let c))))
  · have c : (decide ((121 : Int32) ≤ x3)) = false := by first | exact c | (simp only [Option.getD_some] at c; exact c)
    (first | exact (k2 (c_lef c)) | (simp only [Option.getD_some]; exact (k2 (c_lef c))))
theorem w_Model_text_99 {rod : Nat → Nat × (Nat → Int32)} {d : Nat} {Q : Option MV → MH → Prop} {u1 : Option MV} {u2 : Option MV} {x3 : Int32} {u4 : Option MV} {h : MH} (L : Lay h.2) (g0 : 0 ≤ x3.toInt ∧ x3.toInt < 121) (k : Wb rod d B_Model_text 106 [some (.inr (.inr (.inl (some 84)))), u1, u2, some (.inl x3), u4] [] (sI h 87 x3.toNatClampNeg (0 : Int32)) Q) : Wb rod d B_Model_text 99 [some (.inr (.inr (.inl (some 84)))), u1, u2, some (.inl x3), u4] [] h Q := by
  refine Wb.go (fun r hr q => b_Model_text_99 (Lay.o84 L) (Lay.a84_10 L g0) ?_) k
  (first | exact q | (simp only [Option.getD_some, (Lay.r84_10 L)]; exact q))
theorem w_Model_text_106 {rod : Nat → Nat × (Nat → Int32)} {d : Nat} {Q : Option MV → MH → Prop} {u0 : Option MV} {u1 : Option MV} {u2 : Option MV} {x3 : Int32} {u4 : Option MV} {h : MH}  (g0 : okl [u0, u1, u2, some (.inl x3), u4] 3 = true) (k : Wb rod d B_Model_text 93 [u0, u1, u2, some (.inl (x3 + 1)), u4] [] h Q) : Wb rod d B_Model_text 106 [u0, u1, u2, some (.inl x3), u4] [] h Q := by
  refine Wb.go (fun r hr q => b_Model_text_106 g0 ?_) k
  (first | exact q | (simp only [Option.getD_some]; exact q))
theorem w_Model_text_112 {rod : Nat → Nat × (Nat → Int32)} {d : Nat} {Q : Option MV → MH → Prop} {u0 : Option MV} {x1 : Int32} {u2 : Option MV} {u3 : Option MV} {u4 : Option MV} {h : MH}   (k1 : ¬ x1.toInt = 0 → Wb rod d B_Model_text 123 [u0, some (.inl x1), u2, u3, u4] [] h Q) (k2 : x1.toInt = 0 → Wb rod d B_Model_text 116 [u0, some (.inl x1), u2, u3, u4] [] h Q) : Wb rod d B_Model_text 112 [u0, some (.inl x1), u2, u3, u4] [] h Q := by
  refine Wb.br (fun _ _ => b_Model_text_112) (fun c => ?_) (fun c => ?_)
  · have c : (!(decide (x1 = 0))) = true := by first | exact c | (simp only [Option.getD_some] at c; exact c)
    (first | exact (k1 (c_net c)) | (simp only [Option.getD_some]; exact (k1 (c_net c))))
  · have c : (!(decide (x1 = 0))) = false := by first | exact c | (simp only [Option.getD_some] at c; exact c)
    (first | exact (k2 (c_nef c)) | (simp only [Option.getD_some]; exact (k2 (c_nef c))))
theorem w_Model_text_116 {rod : Nat → Nat × (Nat → Int32)} {d : Nat} {Q : Option MV → MH → Prop} {u1 : Option MV} {u2 : Option MV} {u3 : Option MV} {u4 : Option MV} {h : MH} (L : Lay h.2)  (k : Wb rod d B_Model_text 123 [some (.inr (.inr (.inl (some 84)))), u1, u2, u3, u4] [] (sI h 87 (0 : Int32).toNatClampNeg (3 : Int32)) Q) : Wb rod d B_Model_text 116 [some (.inr (.inr (.inl (some 84)))), u1, u2, u3, u4] [] h Q := by
  refine Wb.go (fun r hr q => b_Model_text_116 (Lay.o84 L) (Lay.a84_10 L ⟨by decide, by decide⟩) ?_) k
  (first | exact q | (simp only [Option.getD_some, (Lay.r84_10 L)]; exact q))
theorem w_Model_text_123 {rod : Nat → Nat × (Nat → Int32)} {d : Nat} {Q : Option MV → MH → Prop} {u0 : Option MV} {x1 : Int32} {u2 : Option MV} {u3 : Option MV} {u4 : Option MV} {h : MH}   (k1 : ¬ x1.toInt = 3 → Wb rod d B_Model_text 135 [u0, some (.inl x1), u2, u3, u4] [] h Q) (k2 : x1.toInt = 3 → Wb rod d B_Model_text 128 [u0, some (.inl x1), u2, u3, u4] [] h Q) : Wb rod d B_Model_text 123 [u0, some (.inl x1), u2, u3, u4] [] h Q := by
  refine Wb.br (fun _ _ => b_Model_text_123) (fun c => ?_) (fun c => ?_)
  · have c : (!(decide (x1 = (3 : Int32)))) = true := by first | exact c | (simp only [Option.getD_some] at c; exact c)
    (first | exact (k1 (c_net c)) | (simp only [Option.getD_some]; exact (k1 (c_net c))))
  · have c : (!(decide (x1 = (3 : Int32)))) = false := by first | exact c | (simp only [Option.getD_some] at c; exact c)
    (first | exact (k2 (c_nef c)) | (simp only [Option.getD_some]; exact (k2 (c_nef c))))
theorem w_Model_text_128 {rod : Nat → Nat × (Nat → Int32)} {d : Nat} {Q : Option MV → MH → Prop} {u1 : Option MV} {u2 : Option MV} {u3 : Option MV} {u4 : Option MV} {h : MH} (L : Lay h.2)  (k : Wb rod d B_Model_text 135 [some (.inr (.inr (.inl (some 84)))), u1, u2, u3, u4] [] (sI h 87 (0 : Int32).toNatClampNeg (2 : Int32)) Q) : Wb rod d B_Model_text 128 [some (.inr (.inr (.inl (some 84)))), u1, u2, u3, u4] [] h Q := by
  refine Wb.go (fun r hr q => b_Model_text_128 (Lay.o84 L) (Lay.a84_10 L ⟨by decide, by decide⟩) ?_) k
  (first | exact q | (simp only [Option.getD_some, (Lay.r84_10 L)]; exact q))
theorem w_Model_text_135 {rod : Nat → Nat × (Nat → Int32)} {d : Nat} {Q : Option MV → MH → Prop} {u1 : Option MV} {u2 : Option MV} {u3 : Option MV} {u4 : Option MV} {h : MH} (L : Lay h.2)  {Q1 : Option MV → MH → Prop} (c : Wc rod d 195 [.inr (.inr (.inl (some 84)))] h Q1) (k : ∀ r1 h2, Q1 r1 h2 → Wb rod d B_Model_text 139 [some (.inr (.inr (.inl (some 84)))), u1, u2, u3, u4] (r1.toList ++ []) h2 Q) : Wb rod d B_Model_text 135 [some (.inr (.inr (.inl (some 84)))), u1, u2, u3, u4] [] h Q := by
  refine Wb.call (fun _ _ _ _ => b_Model_text_135 (Lay.o84 L)) (Q1 := Q1) ?_ ?_
  · (first | exact c | (simp only [Option.getD_some]; exact c))
  · (first | exact k | (simp only [Option.getD_some]; exact k))
theorem w_Model_text_139 {rod : Nat → Nat × (Nat → Int32)} {d : Nat} {Q : Option MV → MH → Prop} {u1 : Option MV} {u2 : Option MV} {u3 : Option MV} {u4 : Option MV} {h : MH} (L : Lay h.2)  (k1 : ¬ (h.1 84 8).toInt = 0 → Wb rod d B_Model_text 208 [some (.inr (.inr (.inl (some 84)))), u1, u2, u3, u4] [] h Q) (k2 : (h.1 84 8).toInt = 0 → Wb rod d B_Model_text 146 [some (.inr (.inr (.inl (some 84)))), u1, u2, u3, u4] [] h Q) : Wb rod d B_Model_text 139 [some (.inr (.inr (.inl (some 84)))), u1, u2, u3, u4] [] h Q := by
  refine Wb.br (fun _ _ => b_Model_text_139 (Lay.o84 L)) (fun c => ?_) (fun c => ?_)
  · have c : (!(decide ((h.1 84 8) = 0))) = true := by first | exact c | (simp only [Option.getD_some] at c; exact c)
    (first | exact (k1 (c_net c)) | (simp only [Option.getD_some]; exact (k1 (c_net c))))
  · have c : (!(decide ((h.1 84 8) = 0))) = false := by first | exact c | (simp only [Option.getD_some] at c; exact c)
    (first | exact (k2 (c_nef c)) | (simp only [Option.getD_some]; exact (k2 (c_nef c))))
theorem w_Model_text_146 {rod : Nat → Nat × (Nat → Int32)} {d : Nat} {Q : Option MV → MH → Prop} {u1 : Option MV} {u2 : Option MV} {u3 : Option MV} {u4 : Option MV} {h : MH} (L : Lay h.2)  (k1 : (h.1 84 5).toInt = 0 → Wb rod d B_Model_text 208 [some (.inr (.inr (.inl (some 84)))), u1, u2, u3, u4] [] h Q) (k2 : ¬ (h.1 84 5).toInt = 0 → Wb rod d B_Model_text 153 [some (.inr (.inr (.inl (some 84)))), u1, u2, u3, u4] [] h Q) : Wb rod d B_Model_text 146 [some (.inr (.inr (.inl (some 84)))), u1, u2, u3, u4] [] h Q := by
  refine Wb.br (fun _ _ => b_Model_text_146 (Lay.o84 L)) (fun c => ?_) (fun c => ?_)
  · have c : (decide ((h.1 84 5) = 0)) = true := by first | exact c | (simp only [Option.getD_some] at c; exact c)
    (first | exact (k1 (c_eqt c)) | (simp only [Option.getD_some]; exact (k1 (c_eqt c))))
  · have c : (decide ((h.1 84 5) = 0)) = false := by first | exact c | (simp only [Option.getD_some] at c; exact c)
    (first | exact (k2 (c_eqf c)) | (simp only [Option.getD_some]; exact (k2 (c_eqf c))))
theorem w_Model_text_153 {rod : Nat → Nat × (Nat → Int32)} {d : Nat} {Q : Option MV → MH → Prop} {u0 : Option MV} {x1 : Int32} {u2 : Option MV} {u3 : Option MV} {u4 : Option MV} {h : MH}   (k0 : x1.toInt = 0 → Wb rod d B_Model_text 180 [u0, some (.inl x1), u2, u3, u4] [] h Q) (k1 : x1.toInt = 1 → Wb rod d B_Model_text 187 [u0, some (.inl x1), u2, u3, u4] [] h Q) (k2 : x1.toInt = 2 → Wb rod d B_Model_text 194 [u0, some (.inl x1), u2, u3, u4] [] h Q) (kd : x1.toInt ≠ 0 → x1.toInt ≠ 1 → x1.toInt ≠ 2 → Wb rod d B_Model_text 201 [u0, some (.inl x1), u2, u3, u4] [] h Q) : Wb rod d B_Model_text 153 [u0, some (.inl x1), u2, u3, u4] [] h Q := by
  have key : Wb rod d B_Model_text (tabT [26, 33, 40] 0 x1 154 201) [u0, some (.inl x1), u2, u3, u4] [] h Q := by
    by_cases e0 : x1 = Int32.ofInt 0
    · rw [show tabT [26, 33, 40] 0 x1 154 201 = 180 from by rw [e0]; rfl]
      exact k0 (by rw [e0]; rfl)
    by_cases e1 : x1 = Int32.ofInt 1
    · rw [show tabT [26, 33, 40] 0 x1 154 201 = 187 from by rw [e1]; rfl]
      exact k1 (by rw [e1]; rfl)
    by_cases e2 : x1 = Int32.ofInt 2
    · rw [show tabT [26, 33, 40] 0 x1 154 201 = 194 from by rw [e2]; rfl]
      exact k2 (by rw [e2]; rfl)
    rw [show tabT [26, 33, 40] 0 x1 154 201 = 201 from (if_neg e0).trans ((if_neg e1).trans ((if_neg e2).trans (rfl)))]
    exact kd (fun q => e0 (Int32.toInt_inj.mp q)) (fun q => e1 (Int32.toInt_inj.mp q)) (fun q => e2 (Int32.toInt_inj.mp q))
  refine Wb.go (fun r hr q => b_Model_text_153 ?_) key
  (first | exact q | (simp only [Option.getD_some]; exact q))
theorem w_Model_text_180 {rod : Nat → Nat × (Nat → Int32)} {d : Nat} {Q : Option MV → MH → Prop} {u1 : Option MV} {u2 : Option MV} {u3 : Option MV} {u4 : Option MV} {h : MH} (L : Lay h.2)  {Q1 : Option MV → MH → Prop} (c : Wc rod d 202 [.inr (.inr (.inl (some 84)))] h Q1) (k : ∀ r1 h2, Q1 r1 h2 → Wb rod d B_Model_text 184 [some (.inr (.inr (.inl (some 84)))), u1, u2, u3, u4] (r1.toList ++ []) h2 Q) : Wb rod d B_Model_text 180 [some (.inr (.inr (.inl (some 84)))), u1, u2, u3, u4] [] h Q := by
  refine Wb.call (fun _ _ _ _ => b_Model_text_180 (Lay.o84 L)) (Q1 := Q1) ?_ ?_
  · (first | exact c | (simp only [Option.getD_some]; exact c))
  · (first | exact k | (simp only [Option.getD_some]; exact k))
theorem w_Model_text_184 {rod : Nat → Nat × (Nat → Int32)} {d : Nat} {Q : Option MV → MH → Prop} {u0 : Option MV} {u1 : Option MV} {u2 : Option MV} {u3 : Option MV} {u4 : Option MV} {h : MH}   (k : Wb rod d B_Model_text 139 [u0, u1, u2, u3, u4] [] h Q) : Wb rod d B_Model_text 184 [u0, u1, u2, u3, u4] [] h Q := by
  refine Wb.go (fun r hr q => b_Model_text_184 ?_) k
  (first | exact q | (simp only [Option.getD_some]; exact q))
theorem w_Model_text_187 {rod : Nat → Nat × (Nat → Int32)} {d : Nat} {Q : Option MV → MH → Prop} {u1 : Option MV} {u2 : Option MV} {u3 : Option MV} {u4 : Option MV} {h : MH} (L : Lay h.2)  {Q1 : Option MV → MH → Prop} (c : Wc rod d 212 [.inr (.inr (.inl (some 84)))] h Q1) (k : ∀ r1 h2, Q1 r1 h2 → Wb rod d B_Model_text 191 [some (.inr (.inr (.inl (some 84)))), u1, u2, u3, u4] (r1.toList ++ []) h2 Q) : Wb rod d B_Model_text 187 [some (.inr (.inr (.inl (some 84)))), u1, u2, u3, u4] [] h Q := by
  refine Wb.call (fun _ _ _ _ => b_Model_text_187 (Lay.o84 L)) (Q1 := Q1) ?_ ?_
  · (first | exact c | (simp only [Option.getD_some]; exact c))
  · (first | exact k | (simp only [Option.getD_some]; exact k))
theorem w_Model_text_191 {rod : Nat → Nat × (Nat → Int32)} {d : Nat} {Q : Option MV → MH → Prop} {u0 : Option MV} {u1 : Option MV} {u2 : Option MV} {u3 : Option MV} {u4 : Option MV} {h : MH}   (k : Wb rod d B_Model_text 139 [u0, u1, u2, u3, u4] [] h Q) : Wb rod d B_Model_text 191 [u0, u1, u2, u3, u4] [] h Q := by
  refine Wb.go (fun r hr q => b_Model_text_191 ?_) k
  (first | exact q | (simp only [Option.getD_some]; exact q))
theorem w_Model_text_194 {rod : Nat → Nat × (Nat → Int32)} {d : Nat} {Q : Option MV → MH → Prop} {u1 : Option MV} {u2 : Option MV} {u3 : Option MV} {u4 : Option MV} {h : MH} (L : Lay h.2)  {Q1 : Option MV → MH → Prop} (c : Wc rod d 213 [.inr (.inr (.inl (some 84)))] h Q1) (k : ∀ r1 h2, Q1 r1 h2 → Wb rod d B_Model_text 198 [some (.inr (.inr (.inl (some 84)))), u1, u2, u3, u4] (r1.toList ++ []) h2 Q) : Wb rod d B_Model_text 194 [some (.inr (.inr (.inl (some 84)))), u1, u2, u3, u4] [] h Q := by
  refine Wb.call (fun _ _ _ _ => b_Model_text_194 (Lay.o84 L)) (Q1 := Q1) ?_ ?_
  · (first | exact c | (simp only [Option.getD_some]; exact c))
  · (first | exact k | (simp only [Option.getD_some]; exact k))
theorem w_Model_text_198 {rod : Nat → Nat × (Nat → Int32)} {d : Nat} {Q : Option MV → MH → Prop} {u0 : Option MV} {u1 : Option MV} {u2 : Option MV} {u3 : Option MV} {u4 : Option MV} {h : MH}   (k : Wb rod d B_Model_text 139 [u0, u1, u2, u3, u4] [] h Q) : Wb rod d B_Model_text 198 [u0, u1, u2, u3, u4] [] h Q := by
  refine Wb.go (fun r hr q => b_Model_text_198 ?_) k
  (first | exact q | (simp only [Option.getD_some]; exact q))
theorem w_Model_text_201 {rod : Nat → Nat × (Nat → Int32)} {d : Nat} {Q : Option MV → MH → Prop} {u1 : Option MV} {u2 : Option MV} {u3 : Option MV} {u4 : Option MV} {h : MH} (L : Lay h.2)  {Q1 : Option MV → MH → Prop} (c : Wc rod d 214 [.inr (.inr (.inl (some 84)))] h Q1) (k : ∀ r1 h2, Q1 r1 h2 → Wb rod d B_Model_text 205 [some (.inr (.inr (.inl (some 84)))), u1, u2, u3, u4] (r1.toList ++ []) h2 Q) : Wb rod d B_Model_text 201 [some (.inr (.inr (.inl (some 84)))), u1, u2, u3, u4] [] h Q := by
  refine Wb.call (fun _ _ _ _ => b_Model_text_201 (Lay.o84 L)) (Q1 := Q1) ?_ ?_
  · (first | exact c | (simp only [Option.getD_some]; exact c))
  · (first | exact k | (simp only [Option.getD_some]; exact k))
theorem w_Model_text_205 {rod : Nat → Nat × (Nat → Int32)} {d : Nat} {Q : Option MV → MH → Prop} {u0 : Option MV} {u1 : Option MV} {u2 : Option MV} {u3 : Option MV} {u4 : Option MV} {h : MH}   (k : Wb rod d B_Model_text 139 [u0, u1, u2, u3, u4] [] h Q) : Wb rod d B_Model_text 205 [u0, u1, u2, u3, u4] [] h Q := by
  refine Wb.go (fun r hr q => b_Model_text_205 ?_) k
  (first | exact q | (simp only [Option.getD_some]; exact q))
theorem w_Model_text_208 {rod : Nat → Nat × (Nat → Int32)} {d : Nat} {Q : Option MV → MH → Prop} {u1 : Option MV} {u2 : Option MV} {u3 : Option MV} {u4 : Option MV} {h : MH} (L : Lay h.2)  (k1 : ¬ (h.1 85 (5 : Int32).toNatClampNeg).toInt = 0 → Wb rod d B_Model_text 243 [some (.inr (.inr (.inl (some 84)))), u1, u2, u3, u4] [] h Q) (k2 : (h.1 85 (5 : Int32).toNatClampNeg).toInt = 0 → Wb rod d B_Model_text 217 [some (.inr (.inr (.inl (some 84)))), u1, u2, u3, u4] [] h Q) : Wb rod d B_Model_text 208 [some (.inr (.inr (.inl (some 84)))), u1, u2, u3, u4] [] h Q := by
  refine Wb.br (fun _ _ => b_Model_text_208 (Lay.o84 L) (Lay.a84_0 L ⟨by decide, by decide⟩)) (fun c => ?_) (fun c => ?_)
  · have c : (!(decide ((h.1 85 (5 : Int32).toNatClampNeg) = 0))) = true := by first | exact c | (simp only [Option.getD_some, (Lay.r84_0 L)] at c; exact c)
    (first | exact (k1 (c_net c)) | (simp only [Option.getD_some, (Lay.r84_0 L)]; exact (k1 (c_net c))))
  · have c : (!(decide ((h.1 85 (5 : Int32).toNatClampNeg) = 0))) = false := by first | exact c | (simp only [Option.getD_some, (Lay.r84_0 L)] at c; exact c)
    (first | exact (k2 (c_nef c)) | (simp only [Option.getD_some, (Lay.r84_0 L)]; exact (k2 (c_nef c))))
theorem w_Model_text_217 {rod : Nat → Nat × (Nat → Int32)} {d : Nat} {Q : Option MV → MH → Prop} {u0 : Option MV} {x1 : Int32} {u2 : Option MV} {u3 : Option MV} {u4 : Option MV} {h : MH}   (k1 : ¬ x1.toInt = 0 → Wb rod d B_Model_text 243 [u0, some (.inl x1), u2, u3, u4] [] h Q) (k2 : x1.toInt = 0 → Wb rod d B_Model_text 221 [u0, some (.inl x1), u2, u3, u4] [] h Q) : Wb rod d B_Model_text 217 [u0, some (.inl x1), u2, u3, u4] [] h Q := by
  refine Wb.br (fun _ _ => b_Model_text_217) (fun c => ?_) (fun c => ?_)
  · have c : (!(decide (x1 = 0))) = true := by first | exact c | (simp only [Option.getD_some] at c; exact c)
    (first | exact (k1 (c_net c)) | (simp only [Option.getD_some]; exact (k1 (c_net c))))
  · have c : (!(decide (x1 = 0))) = false := by first | exact c | (simp only [Option.getD_some] at c; exact c)
    (first | exact (k2 (c_nef c)) | (simp only [Option.getD_some]; exact (k2 (c_nef c))))
theorem w_Model_text_221 {rod : Nat → Nat × (Nat → Int32)} {d : Nat} {Q : Option MV → MH → Prop} {u1 : Option MV} {u2 : Option MV} {u3 : Option MV} {u4 : Option MV} {h : MH} (L : Lay h.2)  (k1 : (h.1 84 9).toInt < (h.1 87 (0 : Int32).toNatClampNeg).toInt → Wb rod d B_Model_text 243 [some (.inr (.inr (.inl (some 84)))), u1, u2, u3, u4] [] h Q) (k2 : ¬ (h.1 84 9).toInt < (h.1 87 (0 : Int32).toNatClampNeg).toInt → Wb rod d B_Model_text 234 [some (.inr (.inr (.inl (some 84)))), u1, u2, u3, u4] [] h Q) : Wb rod d B_Model_text 221 [some (.inr (.inr (.inl (some 84)))), u1, u2, u3, u4] [] h Q := by
  refine Wb.br (fun _ _ => b_Model_text_221 (Lay.o84 L) (Lay.a84_10 L ⟨by decide, by decide⟩)) (fun c => ?_) (fun c => ?_)
  · have c : (decide ((h.1 84 9) < (h.1 87 (0 : Int32).toNatClampNeg))) = true := by first | exact c | (simp only [Option.getD_some, (Lay.r84_10 L)] at c; exact c)
    (first | exact (k1 (c_ltt c)) | (simp only [Option.getD_some, (Lay.r84_10 L)]; exact (k1 (c_ltt c))))
  · have c : (decide ((h.1 84 9) < (h.1 87 (0 : Int32).toNatClampNeg))) = false := by first | exact c | (simp only [Option.getD_some, (Lay.r84_10 L)] at c; exact c)
    (first | exact (k2 (c_ltf c)) | (simp only [Option.getD_some, (Lay.r84_10 L)]; exact (k2 (c_ltf c))))
theorem w_Model_text_234 {rod : Nat → Nat × (Nat → Int32)} {d : Nat} {Q : Option MV → MH → Prop} {u1 : Option MV} {u2 : Option MV} {u3 : Option MV} {u4 : Option MV} {h : MH} (L : Lay h.2)  {Q1 : Option MV → MH → Prop} (c : Wc rod d 208 [.inr (.inr (.inl (some 84))), .inl (4 : Int32), .inl (h.1 84 4)] h Q1) (k : ∀ r1 h2, Q1 r1 h2 → Wb rod d B_Model_text 243 [some (.inr (.inr (.inl (some 84)))), u1, u2, u3, u4] (r1.toList ++ []) h2 Q) : Wb rod d B_Model_text 234 [some (.inr (.inr (.inl (some 84)))), u1, u2, u3, u4] [] h Q := by
  refine Wb.call (fun _ _ _ _ => b_Model_text_234 (Lay.o84 L)) (Q1 := Q1) ?_ ?_
  · (first | exact c | (simp only [Option.getD_some]; exact c))
  · (first | exact k | (simp only [Option.getD_some]; exact k))
theorem w_Model_text_243 {rod : Nat → Nat × (Nat → Int32)} {d : Nat} {Q : Option MV → MH → Prop} {u1 : Option MV} {u2 : Option MV} {u3 : Option MV} {u4 : Option MV} {h : MH} (L : Lay h.2)  (k1 : ¬ (h.1 85 (5 : Int32).toNatClampNeg).toInt = 0 → Wb rod d B_Model_text 280 [some (.inr (.inr (.inl (some 84)))), u1, u2, u3, u4] [] h Q) (k2 : (h.1 85 (5 : Int32).toNatClampNeg).toInt = 0 → Wb rod d B_Model_text 252 [some (.inr (.inr (.inl (some 84)))), u1, u2, u3, u4] [] h Q) : Wb rod d B_Model_text 243 [some (.inr (.inr (.inl (some 84)))), u1, u2, u3, u4] [] h Q := by
  refine Wb.br (fun _ _ => b_Model_text_243 (Lay.o84 L) (Lay.a84_0 L ⟨by decide, by decide⟩)) (fun c => ?_) (fun c => ?_)
  · have c : (!(decide ((h.1 85 (5 : Int32).toNatClampNeg) = 0))) = true := by first | exact c | (simp only [Option.getD_some, (Lay.r84_0 L)] at c; exact c)
    (first | exact (k1 (c_net c)) | (simp only [Option.getD_some, (Lay.r84_0 L)]; exact (k1 (c_net c))))
  · have c : (!(decide ((h.1 85 (5 : Int32).toNatClampNeg) = 0))) = false := by first | exact c | (simp only [Option.getD_some, (Lay.r84_0 L)] at c; exact c)
    (first | exact (k2 (c_nef c)) | (simp only [Option.getD_some, (Lay.r84_0 L)]; exact (k2 (c_nef c))))
theorem w_Model_text_252 {rod : Nat → Nat × (Nat → Int32)} {d : Nat} {Q : Option MV → MH → Prop} {u0 : Option MV} {x1 : Int32} {u2 : Option MV} {u3 : Option MV} {u4 : Option MV} {h : MH}   (k1 : ¬ x1.toInt = 3 → Wb rod d B_Model_text 280 [u0, some (.inl x1), u2, u3, u4] [] h Q) (k2 : x1.toInt = 3 → Wb rod d B_Model_text 257 [u0, some (.inl x1), u2, u3, u4] [] h Q) : Wb rod d B_Model_text 252 [u0, some (.inl x1), u2, u3, u4] [] h Q := by
  refine Wb.br (fun _ _ => b_Model_text_252) (fun c => ?_) (fun c => ?_)
  · have c : (!(decide (x1 = (3 : Int32)))) = true := by first | exact c | (simp only [Option.getD_some] at c; exact c)
    (first | exact (k1 (c_net c)) | (simp only [Option.getD_some]; exact (k1 (c_net c))))
  · have c : (!(decide (x1 = (3 : Int32)))) = false := by first | exact c | (simp only [Option.getD_some] at c; exact c)
    (first | exact (k2 (c_nef c)) | (simp only [Option.getD_some]; exact (k2 (c_nef c))))
theorem w_Model_text_257 {rod : Nat → Nat × (Nat → Int32)} {d : Nat} {Q : Option MV → MH → Prop} {u1 : Option MV} {u2 : Option MV} {u3 : Option MV} {u4 : Option MV} {h : MH} (L : Lay h.2)  (k1 : ((h.1 84 11) >>> ((h.1 87 (0 : Int32).toNatClampNeg) &&& 31)).toInt = 0 → Wb rod d B_Model_text 280 [some (.inr (.inr (.inl (some 84)))), u1, u2, u3, u4] [] h Q) (k2 : ¬ ((h.1 84 11) >>> ((h.1 87 (0 : Int32).toNatClampNeg) &&& 31)).toInt = 0 → Wb rod d B_Model_text 271 [some (.inr (.inr (.inl (some 84)))), u1, u2, u3, u4] [] h Q) : Wb rod d B_Model_text 257 [some (.inr (.inr (.inl (some 84)))), u1, u2, u3, u4] [] h Q := by
  refine Wb.br (fun _ _ => b_Model_text_257 (Lay.o84 L) (Lay.a84_10 L ⟨by decide, by decide⟩)) (fun c => ?_) (fun c => ?_)
  · have c : (decide (((h.1 84 11) >>> ((h.1 87 (0 : Int32).toNatClampNeg) &&& 31)) = 0)) = true := by first | exact c | (simp only [Option.getD_some, (Lay.r84_10 L)] at c; exact c)
    (first | exact (k1 (c_eqt c)) | (simp only [Option.getD_some, (Lay.r84_10 L)]; exact (k1 (c_eqt c))))
  · have c : (decide (((h.1 84 11) >>> ((h.1 87 (0 : Int32).toNatClampNeg) &&& 31)) = 0)) = false := by first | exact c | (simp only [Option.getD_some, (Lay.r84_10 L)] at c; exact c)
    (first | exact (k2 (c_eqf c)) | (simp only [Option.getD_some, (Lay.r84_10 L)]; exact (k2 (c_eqf c))))
theorem w_Model_text_271 {rod : Nat → Nat × (Nat → Int32)} {d : Nat} {Q : Option MV → MH → Prop} {u1 : Option MV} {u2 : Option MV} {u3 : Option MV} {u4 : Option MV} {h : MH} (L : Lay h.2)  {Q1 : Option MV → MH → Prop} (c : Wc rod d 208 [.inr (.inr (.inl (some 84))), .inl (4 : Int32), .inl (h.1 84 4)] h Q1) (k : ∀ r1 h2, Q1 r1 h2 → Wb rod d B_Model_text 280 [some (.inr (.inr (.inl (some 84)))), u1, u2, u3, u4] (r1.toList ++ []) h2 Q) : Wb rod d B_Model_text 271 [some (.inr (.inr (.inl (some 84)))), u1, u2, u3, u4] [] h Q := by
  refine Wb.call (fun _ _ _ _ => b_Model_text_271 (Lay.o84 L)) (Q1 := Q1) ?_ ?_
  · (first | exact c | (simp only [Option.getD_some]; exact c))
  · (first | exact k | (simp only [Option.getD_some]; exact k))
theorem w_Model_text_280 {rod : Nat → Nat × (Nat → Int32)} {d : Nat} {Q : Option MV → MH → Prop} {u1 : Option MV} {u2 : Option MV} {u3 : Option MV} {u4 : Option MV} {h : MH} (L : Lay h.2)  (k1 : (h.1 85 (5 : Int32).toNatClampNeg).toInt = 0 → Wb rod d B_Model_text 291 [some (.inr (.inr (.inl (some 84)))), u1, u2, u3, u4] [] h Q) (k2 : ¬ (h.1 85 (5 : Int32).toNatClampNeg).toInt = 0 → Wb rod d B_Model_text 289 [some (.inr (.inr (.inl (some 84)))), u1, u2, u3, u4] [] h Q) : Wb rod d B_Model_text 280 [some (.inr (.inr (.inl (some 84)))), u1, u2, u3, u4] [] h Q := by
  refine Wb.br (fun _ _ => b_Model_text_280 (Lay.o84 L) (Lay.a84_0 L ⟨by decide, by decide⟩)) (fun c => ?_) (fun c => ?_)
  · have c : (decide ((h.1 85 (5 : Int32).toNatClampNeg) = 0)) = true := by first | exact c | (simp only [Option.getD_some, (Lay.r84_0 L)] at c; exact c)
    (first | exact (k1 (c_eqt c)) | (simp only [Option.getD_some, (Lay.r84_0 L)]; exact (k1 (c_eqt c))))
  · have c : (decide ((h.1 85 (5 : Int32).toNatClampNeg) = 0)) = false := by first | exact c | (simp only [Option.getD_some, (Lay.r84_0 L)] at c; exact c)
    (first | exact (k2 (c_eqf c)) | (simp only [Option.getD_some, (Lay.r84_0 L)]; exact (k2 (c_eqf c))))
theorem w_Model_text_289 {rod : Nat → Nat × (Nat → Int32)} {d : Nat} {Q : Option MV → MH → Prop} {u0 : Option MV} {u1 : Option MV} {u2 : Option MV} {u3 : Option MV} {u4 : Option MV} {h : MH}   (q : Q (some (.inl (-1 : Int32))) h) : Wb rod d B_Model_text 289 [u0, u1, u2, u3, u4] [] h Q := by
  refine Wb.ret (b_Model_text_289) ?_
  (first | exact q | (simp only [Option.getD_some]; exact q))
theorem w_Model_text_291 {rod : Nat → Nat × (Nat → Int32)} {d : Nat} {Q : Option MV → MH → Prop} {u0 : Option MV} {u1 : Option MV} {x2 : Int32} {u3 : Option MV} {u4 : Option MV} {h : MH}   (k1 : ¬ x2.toInt = (-1) → Wb rod d B_Model_text 305 [u0, u1, some (.inl x2), u3, u4] [] h Q) (k2 : x2.toInt = (-1) → Wb rod d B_Model_text 296 [u0, u1, some (.inl x2), u3, u4] [] h Q) : Wb rod d B_Model_text 291 [u0, u1, some (.inl x2), u3, u4] [] h Q := by
  refine Wb.br (fun _ _ => b_Model_text_291) (fun c => ?_) (fun c => ?_)
  · have c : (!(decide (x2 = (-1 : Int32)))) = true := by first | exact c | (simp only [Option.getD_some] at c; exact c)
    (first | exact (k1 (c_net c)) | (simp only [Option.getD_some]; exact (k1 (c_net c))))
  · have c : (!(decide (x2 = (-1 : Int32)))) = false := by first | exact c | (simp only [Option.getD_some] at c; exact c)
    (first | exact (k2 (c_nef c)) | (simp only [Option.getD_some]; exact (k2 (c_nef c))))
theorem w_Model_text_296 {rod : Nat → Nat × (Nat → Int32)} {d : Nat} {Q : Option MV → MH → Prop} {x1 : Int32} {u2 : Option MV} {u3 : Option MV} {u4 : Option MV} {h : MH} (L : Lay h.2) (g0 : 0 ≤ x1.toInt ∧ x1.toInt < 4584) (k : Wb rod d B_Model_text 306 [some (.inr (.inr (.inl (some 84)))), some (.inl x1), u2, u3, u4] [.inl (h.1 85 x1.toNatClampNeg)] h Q) : Wb rod d B_Model_text 296 [some (.inr (.inr (.inl (some 84)))), some (.inl x1), u2, u3, u4] [] h Q := by
  refine Wb.go (fun r hr q => b_Model_text_296 (Lay.o84 L) (Lay.a84_0 L g0) ?_) k
  (first | exact q | (simp only [Option.getD_some, (Lay.r84_0 L)]; exact q))
theorem w_Model_text_305 {rod : Nat → Nat × (Nat → Int32)} {d : Nat} {Q : Option MV → MH → Prop} {u0 : Option MV} {u1 : Option MV} {x2 : Int32} {u3 : Option MV} {u4 : Option MV} {h : MH}   (k : Wb rod d B_Model_text 306 [u0, u1, some (.inl x2), u3, u4] [.inl x2] h Q) : Wb rod d B_Model_text 305 [u0, u1, some (.inl x2), u3, u4] [] h Q := by
  refine Wb.go (fun r hr q => b_Model_text_305 ?_) k
  (first | exact q | (simp only [Option.getD_some]; exact q))
theorem w_Model_text_306 {rod : Nat → Nat × (Nat → Int32)} {d : Nat} {Q : Option MV → MH → Prop} {u0 : Option MV} {u1 : Option MV} {x2 : Int32} {u3 : Option MV} {u4 : Option MV} {xs0 : Int32} {h : MH}   (k1 : ¬ x2.toInt = (-1) → Wb rod d B_Model_text 322 [u0, u1, some (.inl x2), some (.inl xs0), u4] [] h Q) (k2 : x2.toInt = (-1) → Wb rod d B_Model_text 312 [u0, u1, some (.inl x2), some (.inl xs0), u4] [] h Q) : Wb rod d B_Model_text 306 [u0, u1, some (.inl x2), u3, u4] [.inl xs0] h Q := by
  refine Wb.br (fun _ _ => b_Model_text_306) (fun c => ?_) (fun c => ?_)
  · have c : (!(decide (x2 = (-1 : Int32)))) = true := by first | exact c | (simp only [Option.getD_some] at c; exact c)
    (first | exact (k1 (c_net c)) | (simp only [Option.getD_some]; exact (k1 (c_net c))))
  · have c : (!(decide (x2 = (-1 : Int32)))) = false := by first | exact c | (simp only [Option.getD_some] at c; exact c)
    (first | exact (k2 (c_nef c)) | (simp only [Option.getD_some]; exact (k2 (c_nef c))))
theorem w_Model_text_312 {rod : Nat → Nat × (Nat → Int32)} {d : Nat} {Q : Option MV → MH → Prop} {x1 : Int32} {u2 : Option MV} {u3 : Option MV} {u4 : Option MV} {h : MH} (L : Lay h.2) (g0 : 0 ≤ x1.toInt ∧ x1.toInt < 4584) (k : Wb rod d B_Model_text 322 [some (.inr (.inr (.inl (some 84)))), some (.inl x1), u2, u3, u4] [] (sI h 85 x1.toNatClampNeg ((h.1 85 x1.toNatClampNeg) + (1 : Int32))) Q) : Wb rod d B_Model_text 312 [some (.inr (.inr (.inl (some 84)))), some (.inl x1), u2, u3, u4] [] h Q := by
  refine Wb.go (fun r hr q => b_Model_text_312 (Lay.o84 L) (Lay.a84_0 L g0) ?_) k
  (first | exact q | (simp only [Option.getD_some, (Lay.r84_0 L)]; exact q))
theorem w_Model_text_322 {rod : Nat → Nat × (Nat → Int32)} {d : Nat} {Q : Option MV → MH → Prop} {u0 : Option MV} {u1 : Option MV} {u2 : Option MV} {u3 : Option MV} {u4 : Option MV} {h : MH}  (g0 : okl [u0, u1, u2, u3, u4] 4 = true) (k : Wb rod d B_Model_text 325 [u0, u1, u2, u3, some (.inl (0 : Int32))] [] h Q) : Wb rod d B_Model_text 322 [u0, u1, u2, u3, u4] [] h Q := by
  refine Wb.go (fun r hr q => b_Model_text_322 g0 ?_) k
  (first | exact q | (simp only [Option.getD_some]; exact q))
theorem w_Model_text_325 {rod : Nat → Nat × (Nat → Int32)} {d : Nat} {Q : Option MV → MH → Prop} {u0 : Option MV} {x1 : Int32} {u2 : Option MV} {u3 : Option MV} {x4 : Int32} {h : MH}   {Q1 : Option MV → MH → Prop} (c : Wc rod d 215 [.inl x1] h Q1) (k : ∀ r1 h2, Q1 r1 h2 → Wb rod d B_Model_text 331 [u0, some (.inl x1), u2, u3, some (.inl x4)] (r1.toList ++ [.inl x4]) h2 Q) : Wb rod d B_Model_text 325 [u0, some (.inl x1), u2, u3, some (.inl x4)] [] h Q := by
  refine Wb.call (fun _ _ _ _ => b_Model_text_325) (Q1 := Q1) ?_ ?_
  · (first | exact c | (simp only [Option.getD_some]; exact c))
  · (first | exact k | (simp only [Option.getD_some]; exact k))
theorem w_Model_text_331 {rod : Nat → Nat × (Nat → Int32)} {d : Nat} {Q : Option MV → MH → Prop} {u0 : Option MV} {u1 : Option MV} {u2 : Option MV} {u3 : Option MV} {u4 : Option MV} {xs0 : Int32} {xs1 : Int32} {h : MH}   (k1 : xs1.toInt ≤ xs0.toInt → Wb rod d B_Model_text 360 [u0, u1, u2, u3, u4] [] h Q) (k2 : ¬ xs1.toInt ≤ xs0.toInt → Wb rod d B_Model_text 334 [u0, u1, u2, u3, u4] [] h Q) : Wb rod d B_Model_text 331 [u0, u1, u2, u3, u4] [.inl xs1, .inl xs0] h Q := by
  refine Wb.br (fun _ _ => b_Model_text_331) (fun c => ?_) (fun c => ?_)
  · have c : (decide (xs1 ≤ xs0)) = true := by first | exact c | (simp only [Option.getD_some] at c; exact c)
    (first | exact (k1 (c_let c)) | (simp only [Option.getD_some]; exact (k1 (c_let c))))
  · have c : (decide (xs1 ≤ xs0)) = false := by first | exact c | (simp only [Option.getD_some] at c; exact c)
    (first | exact (k2 (c_lef c)) | (simp only [Option.getD_some]; exact (k2 (c_lef c))))
theorem w_Model_text_334 {rod : Nat → Nat × (Nat → Int32)} {d : Nat} {Q : Option MV → MH → Prop} {x1 : Int32} {u2 : Option MV} {x3 : Int32} {u4 : Option MV} {h : MH} (L : Lay h.2)  {Q1 : Option MV → MH → Prop} (c : Wc rod d 216 [.inl x1, .inl x3] h Q1) (k : ∀ r1 h2, Q1 r1 h2 → Wb rod d B_Model_text 343 [some (.inr (.inr (.inl (some 84)))), some (.inl x1), u2, some (.inl x3), u4] (r1.toList ++ [.inr (.inr (.inl (some 85)))]) h2 Q) : Wb rod d B_Model_text 334 [some (.inr (.inr (.inl (some 84)))), some (.inl x1), u2, some (.inl x3), u4] [] h Q := by
  refine Wb.call (fun _ _ _ _ => b_Model_text_334 (Lay.o84 L)) (Q1 := Q1) ?_ ?_
  · (first | exact c | (simp only [Option.getD_some, (Lay.r84_0 L)]; exact c))
  · (first | exact k | (simp only [Option.getD_some, (Lay.r84_0 L)]; exact k))
theorem w_Model_text_343 {rod : Nat → Nat × (Nat → Int32)} {d : Nat} {Q : Option MV → MH → Prop} {u1 : Option MV} {u2 : Option MV} {u3 : Option MV} {x4 : Int32} {cs0 : Nat} {ncs0 : Nat} {xs1 : Int32} {h : MH} (L : Lay h.2) (Scs0 : h.2.2[cs0]? = some (0, ncs0)) (g0 : 0 ≤ x4.toInt ∧ x4.toInt < 121) (g1 : 0 ≤ (xs1 + x4).toInt ∧ (xs1 + x4).toInt < ncs0) (k : Wb rod d B_Model_text 354 [some (.inr (.inr (.inl (some 84)))), u1, u2, u3, some (.inl x4)] [] (sI h cs0 (xs1 + x4).toNatClampNeg (h.1 87 x4.toNatClampNeg)) Q) : Wb rod d B_Model_text 343 [some (.inr (.inr (.inl (some 84)))), u1, u2, u3, some (.inl x4)] [.inl xs1, .inr (.inr (.inl (some cs0)))] h Q := by
  refine Wb.go (fun r hr q => b_Model_text_343 (Lay.o84 L) (Lay.a84_10 L g0) (gA_of Scs0 (inB_of g1.1 g1.2)) ?_) k
  (first | exact q | (simp only [Option.getD_some, (Lay.r84_10 L)]; exact q))
theorem w_Model_text_354 {rod : Nat → Nat × (Nat → Int32)} {d : Nat} {Q : Option MV → MH → Prop} {u0 : Option MV} {u1 : Option MV} {u2 : Option MV} {u3 : Option MV} {x4 : Int32} {h : MH}  (g0 : okl [u0, u1, u2, u3, some (.inl x4)] 4 = true) (k : Wb rod d B_Model_text 325 [u0, u1, u2, u3, some (.inl (x4 + 1))] [] h Q) : Wb rod d B_Model_text 354 [u0, u1, u2, u3, some (.inl x4)] [] h Q := by
  refine Wb.go (fun r hr q => b_Model_text_354 g0 ?_) k
  (first | exact q | (simp only [Option.getD_some]; exact q))
theorem w_Model_text_360 {rod : Nat → Nat × (Nat → Int32)} {d : Nat} {Q : Option MV → MH → Prop} {u0 : Option MV} {u1 : Option MV} {u2 : Option MV} {x3 : Int32} {u4 : Option MV} {h : MH}   (q : Q (some (.inl x3)) h) : Wb rod d B_Model_text 360 [u0, u1, u2, some (.inl x3), u4] [] h Q := by
  refine Wb.ret (b_Model_text_360) ?_
  (first | exact q | (simp only [Option.getD_some]; exact q))
theorem n_Model_advance {rod : Nat → Nat × (Nat → Int32)} {d : Nat} {Q : Option MV → MH → Prop}  {h : MH} (k : Wb rod d B_Model_advance 0 [some (.inr (.inr (.inl (some 84)))), none, none, none] [] h Q) : Wc rod (d + 1) 195 [.inr (.inr (.inl (some 84)))] h Q := Wc.en (fun _ _ => e_Model_advance) k
theorem w_Model_advance_0 {rod : Nat → Nat × (Nat → Int32)} {d : Nat} {Q : Option MV → MH → Prop} {u1 : Option MV} {u2 : Option MV} {u3 : Option MV} {h : MH} (L : Lay h.2)  {Q1 : Option MV → MH → Prop} (c : Wc rod d 196 [.inr (.inr (.inl (some 84))), .inl (h.1 84 3)] h Q1) (k : ∀ r1 h2, Q1 r1 h2 → Wb rod d B_Model_advance 8 [some (.inr (.inr (.inl (some 84)))), u1, u2, u3] (r1.toList ++ []) h2 Q) : Wb rod d B_Model_advance 0 [some (.inr (.inr (.inl (some 84)))), u1, u2, u3] [] h Q := by
  refine Wb.call (fun _ _ _ _ => b_Model_advance_0 (Lay.o84 L)) (Q1 := Q1) ?_ ?_
  · (first | exact c | (simp only [Option.getD_some]; exact c))
  · (first | exact k | (simp only [Option.getD_some]; exact k))
theorem w_Model_advance_8 {rod : Nat → Nat × (Nat → Int32)} {d : Nat} {Q : Option MV → MH → Prop} {u0 : Option MV} {u1 : Option MV} {u2 : Option MV} {u3 : Option MV} {xs0 : Int32} {h : MH}   (k1 : xs0.toInt = 10 → Wb rod d B_Model_advance 26 [u0, u1, u2, u3] [] h Q) (k2 : ¬ xs0.toInt = 10 → Wb rod d B_Model_advance 13 [u0, u1, u2, u3] [] h Q) : Wb rod d B_Model_advance 8 [u0, u1, u2, u3] [.inl xs0] h Q := by
  refine Wb.br (fun _ _ => b_Model_advance_8) (fun c => ?_) (fun c => ?_)
  · have c : (decide (xs0 = (10 : Int32))) = true := by first | exact c | (simp only [Option.getD_some] at c; exact c)
    (first | exact (k1 (c_eqt c)) | (simp only [Option.getD_some]; exact (k1 (c_eqt c))))
  · have c : (decide (xs0 = (10 : Int32))) = false := by first | exact c | (simp only [Option.getD_some] at c; exact c)
    (first | exact (k2 (c_eqf c)) | (simp only [Option.getD_some]; exact (k2 (c_eqf c))))
theorem w_Model_advance_13 {rod : Nat → Nat × (Nat → Int32)} {d : Nat} {Q : Option MV → MH → Prop} {u1 : Option MV} {u2 : Option MV} {u3 : Option MV} {h : MH} (L : Lay h.2)  {Q1 : Option MV → MH → Prop} (c : Wc rod d 196 [.inr (.inr (.inl (some 84))), .inl (h.1 84 3)] h Q1) (k : ∀ r1 h2, Q1 r1 h2 → Wb rod d B_Model_advance 21 [some (.inr (.inr (.inl (some 84)))), u1, u2, u3] (r1.toList ++ []) h2 Q) : Wb rod d B_Model_advance 13 [some (.inr (.inr (.inl (some 84)))), u1, u2, u3] [] h Q := by
  refine Wb.call (fun _ _ _ _ => b_Model_advance_13 (Lay.o84 L)) (Q1 := Q1) ?_ ?_
  · (first | exact c | (simp only [Option.getD_some]; exact c))
  · (first | exact k | (simp only [Option.getD_some]; exact k))
theorem w_Model_advance_21 {rod : Nat → Nat × (Nat → Int32)} {d : Nat} {Q : Option MV → MH → Prop} {u0 : Option MV} {u1 : Option MV} {u2 : Option MV} {u3 : Option MV} {xs0 : Int32} {h : MH}   (k1 : ¬ xs0.toInt = 32 → Wb rod d B_Model_advance 39 [u0, u1, u2, u3] [] h Q) (k2 : xs0.toInt = 32 → Wb rod d B_Model_advance 26 [u0, u1, u2, u3] [] h Q) : Wb rod d B_Model_advance 21 [u0, u1, u2, u3] [.inl xs0] h Q := by
  refine Wb.br (fun _ _ => b_Model_advance_21) (fun c => ?_) (fun c => ?_)
  · have c : (!(decide (xs0 = (32 : Int32)))) = true := by first | exact c | (simp only [Option.getD_some] at c; exact c)
    (first | exact (k1 (c_net c)) | (simp only [Option.getD_some]; exact (k1 (c_net c))))
  · have c : (!(decide (xs0 = (32 : Int32)))) = false := by first | exact c | (simp only [Option.getD_some] at c; exact c)
    (first | exact (k2 (c_nef c)) | (simp only [Option.getD_some]; exact (k2 (c_nef c))))
theorem w_Model_advance_26 {rod : Nat → Nat × (Nat → Int32)} {d : Nat} {Q : Option MV → MH → Prop} {u1 : Option MV} {u2 : Option MV} {u3 : Option MV} {h : MH} (L : Lay h.2)  (k : Wb rod d B_Model_advance 36 [some (.inr (.inr (.inl (some 84)))), u1, u2, u3] [] (sI h 84 3 ((h.1 84 3) + (1 : Int32))) Q) : Wb rod d B_Model_advance 26 [some (.inr (.inr (.inl (some 84)))), u1, u2, u3] [] h Q := by
  refine Wb.go (fun r hr q => b_Model_advance_26 (Lay.o84 L) ?_) k
  (first | exact q | (simp only [Option.getD_some]; exact q))
theorem w_Model_advance_36 {rod : Nat → Nat × (Nat → Int32)} {d : Nat} {Q : Option MV → MH → Prop} {u0 : Option MV} {u1 : Option MV} {u2 : Option MV} {u3 : Option MV} {h : MH}   (k : Wb rod d B_Model_advance 0 [u0, u1, u2, u3] [] h Q) : Wb rod d B_Model_advance 36 [u0, u1, u2, u3] [] h Q := by
  refine Wb.go (fun r hr q => b_Model_advance_36 ?_) k
  (first | exact q | (simp only [Option.getD_some]; exact q))
theorem w_Model_advance_39 {rod : Nat → Nat × (Nat → Int32)} {d : Nat} {Q : Option MV → MH → Prop} {u1 : Option MV} {u2 : Option MV} {u3 : Option MV} {h : MH} (L : Lay h.2)  (k : Wb rod d B_Model_advance 47 [some (.inr (.inr (.inl (some 84)))), u1, u2, u3] [] (sI h 84 4 (h.1 84 3)) Q) : Wb rod d B_Model_advance 39 [some (.inr (.inr (.inl (some 84)))), u1, u2, u3] [] h Q := by
  refine Wb.go (fun r hr q => b_Model_advance_39 (Lay.o84 L) ?_) k
  (first | exact q | (simp only [Option.getD_some]; exact q))
theorem w_Model_advance_47 {rod : Nat → Nat × (Nat → Int32)} {d : Nat} {Q : Option MV → MH → Prop} {u1 : Option MV} {u2 : Option MV} {u3 : Option MV} {h : MH} (L : Lay h.2)  {Q1 : Option MV → MH → Prop} (c : Wc rod d 196 [.inr (.inr (.inl (some 84))), .inl (h.1 84 3)] h Q1) (k : ∀ r1 h2, Q1 r1 h2 → Wb rod d B_Model_advance 55 [some (.inr (.inr (.inl (some 84)))), u1, u2, u3] (r1.toList ++ []) h2 Q) : Wb rod d B_Model_advance 47 [some (.inr (.inr (.inl (some 84)))), u1, u2, u3] [] h Q := by
  refine Wb.call (fun _ _ _ _ => b_Model_advance_47 (Lay.o84 L)) (Q1 := Q1) ?_ ?_
  · (first | exact c | (simp only [Option.getD_some]; exact c))
  · (first | exact k | (simp only [Option.getD_some]; exact k))
theorem w_Model_advance_55 {rod : Nat → Nat × (Nat → Int32)} {d : Nat} {Q : Option MV → MH → Prop} {u0 : Option MV} {u1 : Option MV} {u2 : Option MV} {u3 : Option MV} {xs0 : Int32} {h : MH}  (g0 : okl [u0, u1, u2, u3] 1 = true) (k1 : 0 ≤ xs0.toInt → Wb rod d B_Model_advance 68 [u0, some (.inl xs0), u2, u3] [] h Q) (k2 : ¬ 0 ≤ xs0.toInt → Wb rod d B_Model_advance 60 [u0, some (.inl xs0), u2, u3] [] h Q) : Wb rod d B_Model_advance 55 [u0, u1, u2, u3] [.inl xs0] h Q := by
  refine Wb.br (fun _ _ => b_Model_advance_55 g0) (fun c => ?_) (fun c => ?_)
  · have c : (decide (0 ≤ xs0)) = true := by first | exact c | (simp only [Option.getD_some] at c; exact c)
    (first | exact (k1 (c_let c)) | (simp only [Option.getD_some]; exact (k1 (c_let c))))
  · have c : (decide (0 ≤ xs0)) = false := by first | exact c | (simp only [Option.getD_some] at c; exact c)
    (first | exact (k2 (c_lef c)) | (simp only [Option.getD_some]; exact (k2 (c_lef c))))
theorem w_Model_advance_60 {rod : Nat → Nat × (Nat → Int32)} {d : Nat} {Q : Option MV → MH → Prop} {u1 : Option MV} {u2 : Option MV} {u3 : Option MV} {h : MH} (L : Lay h.2)  (k : Wb rod d B_Model_advance 65 [some (.inr (.inr (.inl (some 84)))), u1, u2, u3] [] (sI h 84 5 (0 : Int32)) Q) : Wb rod d B_Model_advance 60 [some (.inr (.inr (.inl (some 84)))), u1, u2, u3] [] h Q := by
  refine Wb.go (fun r hr q => b_Model_advance_60 (Lay.o84 L) ?_) k
  (first | exact q | (simp only [Option.getD_some]; exact q))
theorem w_Model_advance_65 {rod : Nat → Nat × (Nat → Int32)} {d : Nat} {Q : Option MV → MH → Prop} {u0 : Option MV} {u1 : Option MV} {u2 : Option MV} {u3 : Option MV} {h : MH}   (k : Wb rod d B_Model_advance 311 [u0, u1, u2, u3] [] h Q) : Wb rod d B_Model_advance 65 [u0, u1, u2, u3] [] h Q := by
  refine Wb.go (fun r hr q => b_Model_advance_65 ?_) k
  (first | exact q | (simp only [Option.getD_some]; exact q))
theorem w_Model_advance_68 {rod : Nat → Nat × (Nat → Int32)} {d : Nat} {Q : Option MV → MH → Prop} {u0 : Option MV} {x1 : Int32} {u2 : Option MV} {u3 : Option MV} {h : MH}   {Q1 : Option MV → MH → Prop} (c : Wc rod d 197 [.inl x1] h Q1) (k : ∀ r1 h2, Q1 r1 h2 → Wb rod d B_Model_advance 72 [u0, some (.inl x1), u2, u3] (r1.toList ++ []) h2 Q) : Wb rod d B_Model_advance 68 [u0, some (.inl x1), u2, u3] [] h Q := by
  refine Wb.call (fun _ _ _ _ => b_Model_advance_68) (Q1 := Q1) ?_ ?_
  · (first | exact c | (simp only [Option.getD_some]; exact c))
  · (first | exact k | (simp only [Option.getD_some]; exact k))
theorem w_Model_advance_72 {rod : Nat → Nat × (Nat → Int32)} {d : Nat} {Q : Option MV → MH → Prop} {u0 : Option MV} {u1 : Option MV} {u2 : Option MV} {u3 : Option MV} {xs0 : Int32} {h : MH}   (k1 : xs0.toInt = 0 → Wb rod d B_Model_advance 186 [u0, u1, u2, u3] [] h Q) (k2 : ¬ xs0.toInt = 0 → Wb rod d B_Model_advance 75 [u0, u1, u2, u3] [] h Q) : Wb rod d B_Model_advance 72 [u0, u1, u2, u3] [.inl xs0] h Q := by
  refine Wb.br (fun _ _ => b_Model_advance_72) (fun c => ?_) (fun c => ?_)
  · have c : (decide (xs0 = 0)) = true := by first | exact c | (simp only [Option.getD_some] at c; exact c)
    (first | exact (k1 (c_eqt c)) | (simp only [Option.getD_some]; exact (k1 (c_eqt c))))
  · have c : (decide (xs0 = 0)) = false := by first | exact c | (simp only [Option.getD_some] at c; exact c)
    (first | exact (k2 (c_eqf c)) | (simp only [Option.getD_some]; exact (k2 (c_eqf c))))
theorem w_Model_advance_75 {rod : Nat → Nat × (Nat → Int32)} {d : Nat} {Q : Option MV → MH → Prop} {u0 : Option MV} {u1 : Option MV} {u2 : Option MV} {u3 : Option MV} {h : MH}  (g0 : okl [u0, u1, u2, u3] 2 = true) (k : Wb rod d B_Model_advance 77 [u0, u1, some (.inr (.inl (0 : Int64))), none] [] h Q) : Wb rod d B_Model_advance 75 [u0, u1, u2, u3] [] h Q := by
  refine Wb.go (fun r hr q => b_Model_advance_75 g0 ?_) k
  (first | exact q | (simp only [Option.getD_some]; exact q))
theorem w_Model_advance_77 {rod : Nat → Nat × (Nat → Int32)} {d : Nat} {Q : Option MV → MH → Prop} {u1 : Option MV} {u2 : Option MV} {u3 : Option MV} {h : MH} (L : Lay h.2)  {Q1 : Option MV → MH → Prop} (c : Wc rod d 196 [.inr (.inr (.inl (some 84))), .inl (h.1 84 3)] h Q1) (k : ∀ r1 h2, Q1 r1 h2 → Wb rod d B_Model_advance 85 [some (.inr (.inr (.inl (some 84)))), u1, u2, u3] (r1.toList ++ []) h2 Q) : Wb rod d B_Model_advance 77 [some (.inr (.inr (.inl (some 84)))), u1, u2, u3] [] h Q := by
  refine Wb.call (fun _ _ _ _ => b_Model_advance_77 (Lay.o84 L)) (Q1 := Q1) ?_ ?_
  · (first | exact c | (simp only [Option.getD_some]; exact c))
  · (first | exact k | (simp only [Option.getD_some]; exact k))
theorem w_Model_advance_85 {rod : Nat → Nat × (Nat → Int32)} {d : Nat} {Q : Option MV → MH → Prop} {u0 : Option MV} {u1 : Option MV} {u2 : Option MV} {u3 : Option MV} {xs0 : Int32} {h : MH}   {Q1 : Option MV → MH → Prop} (c : Wc rod d 197 [.inl xs0] h Q1) (k : ∀ r1 h2, Q1 r1 h2 → Wb rod d B_Model_advance 88 [u0, u1, u2, u3] (r1.toList ++ []) h2 Q) : Wb rod d B_Model_advance 85 [u0, u1, u2, u3] [.inl xs0] h Q := by
  refine Wb.call (fun _ _ _ _ => b_Model_advance_85) (Q1 := Q1) ?_ ?_
  · (first | exact c | (simp only [Option.getD_some]; exact c))
  · (first | exact k | (simp only [Option.getD_some]; exact k))
theorem w_Model_advance_88 {rod : Nat → Nat × (Nat → Int32)} {d : Nat} {Q : Option MV → MH → Prop} {u0 : Option MV} {u1 : Option MV} {u2 : Option MV} {u3 : Option MV} {xs0 : Int32} {h : MH}   (k1 : xs0.toInt = 0 → Wb rod d B_Model_advance 138 [u0, u1, u2, u3] [] h Q) (k2 : ¬ xs0.toInt = 0 → Wb rod d B_Model_advance 91 [u0, u1, u2, u3] [] h Q) : Wb rod d B_Model_advance 88 [u0, u1, u2, u3] [.inl xs0] h Q := by
  refine Wb.br (fun _ _ => b_Model_advance_88) (fun c => ?_) (fun c => ?_)
  · have c : (decide (xs0 = 0)) = true := by first | exact c | (simp only [Option.getD_some] at c; exact c)
    (first | exact (k1 (c_eqt c)) | (simp only [Option.getD_some]; exact (k1 (c_eqt c))))
  · have c : (decide (xs0 = 0)) = false := by first | exact c | (simp only [Option.getD_some] at c; exact c)
    (first | exact (k2 (c_eqf c)) | (simp only [Option.getD_some]; exact (k2 (c_eqf c))))
theorem w_Model_advance_91 {rod : Nat → Nat × (Nat → Int32)} {d : Nat} {Q : Option MV → MH → Prop} {u1 : Option MV} {u2 : Option MV} {u3 : Option MV} {h : MH} (L : Lay h.2)  (k1 : 8 ≤ ((h.1 84 3) - (h.1 84 4)).toInt → Wb rod d B_Model_advance 125 [some (.inr (.inr (.inl (some 84)))), u1, u2, u3] [] h Q) (k2 : ¬ 8 ≤ ((h.1 84 3) - (h.1 84 4)).toInt → Wb rod d B_Model_advance 105 [some (.inr (.inr (.inl (some 84)))), u1, u2, u3] [] h Q) : Wb rod d B_Model_advance 91 [some (.inr (.inr (.inl (some 84)))), u1, u2, u3] [] h Q := by
  refine Wb.br (fun _ _ => b_Model_advance_91 (Lay.o84 L)) (fun c => ?_) (fun c => ?_)
  · have c : (decide ((8 : Int32) ≤ ((h.1 84 3) - (h.1 84 4)))) = true := by first | exact c | (simp only [Option.getD_some] at c; exact c)
    (first | exact (k1 (c_let c)) | (simp only [Option.getD_some]; exact (k1 (c_let c))))
  · have c : (decide ((8 : Int32) ≤ ((h.1 84 3) - (h.1 84 4)))) = false := by first | exact c | (simp only [Option.getD_some] at c; exact c)
    (first | exact (k2 (c_lef c)) | (simp only [Option.getD_some]; exact (k2 (c_lef c))))
theorem w_Model_advance_105 {rod : Nat → Nat × (Nat → Int32)} {d : Nat} {Q : Option MV → MH → Prop} {u1 : Option MV} {z2 : Int64} {u3 : Option MV} {h : MH} (L : Lay h.2)  {Q1 : Option MV → MH → Prop} (c : Wc rod d 196 [.inr (.inr (.inl (some 84))), .inl (h.1 84 3)] h Q1) (k : ∀ r1 h2, Q1 r1 h2 → Wb rod d B_Model_advance 118 [some (.inr (.inr (.inl (some 84)))), u1, some (.inr (.inl z2)), u3] (r1.toList ++ [.inr (.inl ((32 : Int64) * z2))]) h2 Q) : Wb rod d B_Model_advance 105 [some (.inr (.inr (.inl (some 84)))), u1, some (.inr (.inl z2)), u3] [] h Q := by
  refine Wb.call (fun _ _ _ _ => b_Model_advance_105 (Lay.o84 L)) (Q1 := Q1) ?_ ?_
  · (first | exact c | (simp only [Option.getD_some]; exact c))
  · (first | exact k | (simp only [Option.getD_some]; exact k))
theorem w_Model_advance_118 {rod : Nat → Nat × (Nat → Int32)} {d : Nat} {Q : Option MV → MH → Prop} {u0 : Option MV} {u1 : Option MV} {u2 : Option MV} {u3 : Option MV} {zs0 : Int64} {xs1 : Int32} {h : MH}  (g0 : okl [u0, u1, u2, u3] 2 = true) (k : Wb rod d B_Model_advance 125 [u0, u1, some (.inr (.inl ((zs0 + (xs1.toInt64)) - (96 : Int64)))), none] [] h Q) : Wb rod d B_Model_advance 118 [u0, u1, u2, u3] [.inl xs1, .inr (.inl zs0)] h Q := by
  refine Wb.go (fun r hr q => b_Model_advance_118 g0 ?_) k
  (first | exact q | (simp only [Option.getD_some]; exact q))
theorem w_Model_advance_125 {rod : Nat → Nat × (Nat → Int32)} {d : Nat} {Q : Option MV → MH → Prop} {u1 : Option MV} {u2 : Option MV} {u3 : Option MV} {h : MH} (L : Lay h.2)  (k : Wb rod d B_Model_advance 135 [some (.inr (.inr (.inl (some 84)))), u1, u2, u3] [] (sI h 84 3 ((h.1 84 3) + (1 : Int32))) Q) : Wb rod d B_Model_advance 125 [some (.inr (.inr (.inl (some 84)))), u1, u2, u3] [] h Q := by
  refine Wb.go (fun r hr q => b_Model_advance_125 (Lay.o84 L) ?_) k
  (first | exact q | (simp only [Option.getD_some]; exact q))
theorem w_Model_advance_135 {rod : Nat → Nat × (Nat → Int32)} {d : Nat} {Q : Option MV → MH → Prop} {u0 : Option MV} {u1 : Option MV} {u2 : Option MV} {u3 : Option MV} {h : MH}   (k : Wb rod d B_Model_advance 77 [u0, u1, u2, u3] [] h Q) : Wb rod d B_Model_advance 135 [u0, u1, u2, u3] [] h Q := by
  refine Wb.go (fun r hr q => b_Model_advance_135 ?_) k
  (first | exact q | (simp only [Option.getD_some]; exact q))
theorem w_Model_advance_138 {rod : Nat → Nat × (Nat → Int32)} {d : Nat} {Q : Option MV → MH → Prop} {u1 : Option MV} {u2 : Option MV} {u3 : Option MV} {h : MH} (L : Lay h.2)  (k1 : ((h.1 84 3) - (h.1 84 4)).toInt ≤ 8 → Wb rod d B_Model_advance 158 [some (.inr (.inr (.inl (some 84)))), u1, u2, u3] [.inr (.inr (.inl (some 84)))] h Q) (k2 : ¬ ((h.1 84 3) - (h.1 84 4)).toInt ≤ 8 → Wb rod d B_Model_advance 153 [some (.inr (.inr (.inl (some 84)))), u1, u2, u3] [.inr (.inr (.inl (some 84)))] h Q) : Wb rod d B_Model_advance 138 [some (.inr (.inr (.inl (some 84)))), u1, u2, u3] [] h Q := by
  refine Wb.br (fun _ _ => b_Model_advance_138 (Lay.o84 L)) (fun c => ?_) (fun c => ?_)
  · have c : (decide (((h.1 84 3) - (h.1 84 4)) ≤ (8 : Int32))) = true := by first | exact c | (simp only [Option.getD_some] at c; exact c)
    (first | exact (k1 (c_let c)) | (simp only [Option.getD_some]; exact (k1 (c_let c))))
  · have c : (decide (((h.1 84 3) - (h.1 84 4)) ≤ (8 : Int32))) = false := by first | exact c | (simp only [Option.getD_some] at c; exact c)
    (first | exact (k2 (c_lef c)) | (simp only [Option.getD_some]; exact (k2 (c_lef c))))
theorem w_Model_advance_153 {rod : Nat → Nat × (Nat → Int32)} {d : Nat} {Q : Option MV → MH → Prop} {u0 : Option MV} {u1 : Option MV} {u2 : Option MV} {u3 : Option MV} {h : MH}   (k : Wb rod d B_Model_advance 162 [u0, u1, u2, u3] [.inl (99 : Int32), .inr (.inr (.inl (some 84)))] h Q) : Wb rod d B_Model_advance 153 [u0, u1, u2, u3] [.inr (.inr (.inl (some 84)))] h Q := by
  refine Wb.go (fun r hr q => b_Model_advance_153 ?_) k
  (first | exact q | (simp only [Option.getD_some]; exact q))
theorem w_Model_advance_158 {rod : Nat → Nat × (Nat → Int32)} {d : Nat} {Q : Option MV → MH → Prop} {u0 : Option MV} {u1 : Option MV} {z2 : Int64} {u3 : Option MV} {h : MH}   {Q1 : Option MV → MH → Prop} (c : Wc rod d 198 [.inr (.inl z2)] h Q1) (k : ∀ r1 h2, Q1 r1 h2 → Wb rod d B_Model_advance 162 [u0, u1, some (.inr (.inl z2)), u3] (r1.toList ++ [.inr (.inr (.inl (some 84)))]) h2 Q) : Wb rod d B_Model_advance 158 [u0, u1, some (.inr (.inl z2)), u3] [.inr (.inr (.inl (some 84)))] h Q := by
  refine Wb.call (fun _ _ _ _ => b_Model_advance_158) (Q1 := Q1) ?_ ?_
  · (first | exact c | (simp only [Option.getD_some]; exact c))
  · (first | exact k | (simp only [Option.getD_some]; exact k))
theorem w_Model_advance_162 {rod : Nat → Nat × (Nat → Int32)} {d : Nat} {Q : Option MV → MH → Prop} {u0 : Option MV} {u1 : Option MV} {u2 : Option MV} {u3 : Option MV} {xs1 : Int32} {h : MH} (L : Lay h.2)  (k : Wb rod d B_Model_advance 165 [u0, u1, u2, u3] [] (sI h 84 7 xs1) Q) : Wb rod d B_Model_advance 162 [u0, u1, u2, u3] [.inl xs1, .inr (.inr (.inl (some 84)))] h Q := by
  refine Wb.go (fun r hr q => b_Model_advance_162 (Lay.o84 L) ?_) k
  (first | exact q | (simp only [Option.getD_some]; exact q))
theorem w_Model_advance_165 {rod : Nat → Nat × (Nat → Int32)} {d : Nat} {Q : Option MV → MH → Prop} {u1 : Option MV} {u2 : Option MV} {u3 : Option MV} {h : MH} (L : Lay h.2)  (k1 : ¬ (h.1 84 7).toInt = 99 → Wb rod d B_Model_advance 179 [some (.inr (.inr (.inl (some 84)))), u1, u2, u3] [.inr (.inr (.inl (some 84)))] h Q) (k2 : (h.1 84 7).toInt = 99 → Wb rod d B_Model_advance 175 [some (.inr (.inr (.inl (some 84)))), u1, u2, u3] [.inr (.inr (.inl (some 84)))] h Q) : Wb rod d B_Model_advance 165 [some (.inr (.inr (.inl (some 84)))), u1, u2, u3] [] h Q := by
  refine Wb.br (fun _ _ => b_Model_advance_165 (Lay.o84 L)) (fun c => ?_) (fun c => ?_)
  · have c : (!(decide ((h.1 84 7) = (99 : Int32)))) = true := by first | exact c | (simp only [Option.getD_some] at c; exact c)
    (first | exact (k1 (c_net c)) | (simp only [Option.getD_some]; exact (k1 (c_net c))))
  · have c : (!(decide ((h.1 84 7) = (99 : Int32)))) = false := by first | exact c | (simp only [Option.getD_some] at c; exact c)
    (first | exact (k2 (c_nef c)) | (simp only [Option.getD_some]; exact (k2 (c_nef c))))
theorem w_Model_advance_175 {rod : Nat → Nat × (Nat → Int32)} {d : Nat} {Q : Option MV → MH → Prop} {u0 : Option MV} {u1 : Option MV} {u2 : Option MV} {u3 : Option MV} {h : MH}   (k : Wb rod d B_Model_advance 180 [u0, u1, u2, u3] [.inl (4 : Int32), .inr (.inr (.inl (some 84)))] h Q) : Wb rod d B_Model_advance 175 [u0, u1, u2, u3] [.inr (.inr (.inl (some 84)))] h Q := by
  refine Wb.go (fun r hr q => b_Model_advance_175 ?_) k
  (first | exact q | (simp only [Option.getD_some]; exact q))
theorem w_Model_advance_179 {rod : Nat → Nat × (Nat → Int32)} {d : Nat} {Q : Option MV → MH → Prop} {u0 : Option MV} {u1 : Option MV} {u2 : Option MV} {u3 : Option MV} {h : MH}   (k : Wb rod d B_Model_advance 180 [u0, u1, u2, u3] [.inl (3 : Int32), .inr (.inr (.inl (some 84)))] h Q) : Wb rod d B_Model_advance 179 [u0, u1, u2, u3] [.inr (.inr (.inl (some 84)))] h Q := by
  refine Wb.go (fun r hr q => b_Model_advance_179 ?_) k
  (first | exact q | (simp only [Option.getD_some]; exact q))
theorem w_Model_advance_180 {rod : Nat → Nat × (Nat → Int32)} {d : Nat} {Q : Option MV → MH → Prop} {u0 : Option MV} {u1 : Option MV} {u2 : Option MV} {u3 : Option MV} {xs1 : Int32} {h : MH} (L : Lay h.2)  (k : Wb rod d B_Model_advance 183 [u0, u1, u2, u3] [] (sI h 84 5 xs1) Q) : Wb rod d B_Model_advance 180 [u0, u1, u2, u3] [.inl xs1, .inr (.inr (.inl (some 84)))] h Q := by
  refine Wb.go (fun r hr q => b_Model_advance_180 (Lay.o84 L) ?_) k
  (first | exact q | (simp only [Option.getD_some]; exact q))
theorem w_Model_advance_183 {rod : Nat → Nat × (Nat → Int32)} {d : Nat} {Q : Option MV → MH → Prop} {u0 : Option MV} {u1 : Option MV} {u2 : Option MV} {u3 : Option MV} {h : MH}   (k : Wb rod d B_Model_advance 311 [u0, u1, u2, u3] [] h Q) : Wb rod d B_Model_advance 183 [u0, u1, u2, u3] [] h Q := by
  refine Wb.go (fun r hr q => b_Model_advance_183 ?_) k
  (first | exact q | (simp only [Option.getD_some]; exact q))
theorem w_Model_advance_186 {rod : Nat → Nat × (Nat → Int32)} {d : Nat} {Q : Option MV → MH → Prop} {u0 : Option MV} {x1 : Int32} {u2 : Option MV} {u3 : Option MV} {h : MH}   {Q1 : Option MV → MH → Prop} (c : Wc rod d 201 [.inl x1] h Q1) (k : ∀ r1 h2, Q1 r1 h2 → Wb rod d B_Model_advance 190 [u0, some (.inl x1), u2, u3] (r1.toList ++ []) h2 Q) : Wb rod d B_Model_advance 186 [u0, some (.inl x1), u2, u3] [] h Q := by
  refine Wb.call (fun _ _ _ _ => b_Model_advance_186) (Q1 := Q1) ?_ ?_
  · (first | exact c | (simp only [Option.getD_some]; exact c))
  · (first | exact k | (simp only [Option.getD_some]; exact k))
theorem w_Model_advance_190 {rod : Nat → Nat × (Nat → Int32)} {d : Nat} {Q : Option MV → MH → Prop} {u0 : Option MV} {u1 : Option MV} {u2 : Option MV} {u3 : Option MV} {xs0 : Int32} {h : MH}   (k1 : xs0.toInt = 0 → Wb rod d B_Model_advance 286 [u0, u1, u2, u3] [] h Q) (k2 : ¬ xs0.toInt = 0 → Wb rod d B_Model_advance 193 [u0, u1, u2, u3] [] h Q) : Wb rod d B_Model_advance 190 [u0, u1, u2, u3] [.inl xs0] h Q := by
  refine Wb.br (fun _ _ => b_Model_advance_190) (fun c => ?_) (fun c => ?_)
  · have c : (decide (xs0 = 0)) = true := by first | exact c | (simp only [Option.getD_some] at c; exact c)
    (first | exact (k1 (c_eqt c)) | (simp only [Option.getD_some]; exact (k1 (c_eqt c))))
  · have c : (decide (xs0 = 0)) = false := by first | exact c | (simp only [Option.getD_some] at c; exact c)
    (first | exact (k2 (c_eqf c)) | (simp only [Option.getD_some]; exact (k2 (c_eqf c))))
theorem w_Model_advance_193 {rod : Nat → Nat × (Nat → Int32)} {d : Nat} {Q : Option MV → MH → Prop} {u1 : Option MV} {u2 : Option MV} {u3 : Option MV} {h : MH} (L : Lay h.2)  (k : Wb rod d B_Model_advance 198 [some (.inr (.inr (.inl (some 84)))), u1, u2, u3] [] (sI h 84 6 (0 : Int32)) Q) : Wb rod d B_Model_advance 193 [some (.inr (.inr (.inl (some 84)))), u1, u2, u3] [] h Q := by
  refine Wb.go (fun r hr q => b_Model_advance_193 (Lay.o84 L) ?_) k
  (first | exact q | (simp only [Option.getD_some]; exact q))
theorem w_Model_advance_198 {rod : Nat → Nat × (Nat → Int32)} {d : Nat} {Q : Option MV → MH → Prop} {u1 : Option MV} {u2 : Option MV} {u3 : Option MV} {h : MH} (L : Lay h.2)  {Q1 : Option MV → MH → Prop} (c : Wc rod d 196 [.inr (.inr (.inl (some 84))), .inl (h.1 84 3)] h Q1) (k : ∀ r1 h2, Q1 r1 h2 → Wb rod d B_Model_advance 206 [some (.inr (.inr (.inl (some 84)))), u1, u2, u3] (r1.toList ++ []) h2 Q) : Wb rod d B_Model_advance 198 [some (.inr (.inr (.inl (some 84)))), u1, u2, u3] [] h Q := by
  refine Wb.call (fun _ _ _ _ => b_Model_advance_198 (Lay.o84 L)) (Q1 := Q1) ?_ ?_
  · (first | exact c | (simp only [Option.getD_some]; exact c))
  · (first | exact k | (simp only [Option.getD_some]; exact k))
theorem w_Model_advance_206 {rod : Nat → Nat × (Nat → Int32)} {d : Nat} {Q : Option MV → MH → Prop} {u0 : Option MV} {u1 : Option MV} {u2 : Option MV} {u3 : Option MV} {xs0 : Int32} {h : MH}   {Q1 : Option MV → MH → Prop} (c : Wc rod d 201 [.inl xs0] h Q1) (k : ∀ r1 h2, Q1 r1 h2 → Wb rod d B_Model_advance 209 [u0, u1, u2, u3] (r1.toList ++ []) h2 Q) : Wb rod d B_Model_advance 206 [u0, u1, u2, u3] [.inl xs0] h Q := by
  refine Wb.call (fun _ _ _ _ => b_Model_advance_206) (Q1 := Q1) ?_ ?_
  · (first | exact c | (simp only [Option.getD_some]; exact c))
  · (first | exact k | (simp only [Option.getD_some]; exact k))
theorem w_Model_advance_209 {rod : Nat → Nat × (Nat → Int32)} {d : Nat} {Q : Option MV → MH → Prop} {u0 : Option MV} {u1 : Option MV} {u2 : Option MV} {u3 : Option MV} {xs0 : Int32} {h : MH}   (k1 : xs0.toInt = 0 → Wb rod d B_Model_advance 261 [u0, u1, u2, u3] [] h Q) (k2 : ¬ xs0.toInt = 0 → Wb rod d B_Model_advance 212 [u0, u1, u2, u3] [] h Q) : Wb rod d B_Model_advance 209 [u0, u1, u2, u3] [.inl xs0] h Q := by
  refine Wb.br (fun _ _ => b_Model_advance_209) (fun c => ?_) (fun c => ?_)
  · have c : (decide (xs0 = 0)) = true := by first | exact c | (simp only [Option.getD_some] at c; exact c)
    (first | exact (k1 (c_eqt c)) | (simp only [Option.getD_some]; exact (k1 (c_eqt c))))
  · have c : (decide (xs0 = 0)) = false := by first | exact c | (simp only [Option.getD_some] at c; exact c)
    (first | exact (k2 (c_eqf c)) | (simp only [Option.getD_some]; exact (k2 (c_eqf c))))
theorem w_Model_advance_212 {rod : Nat → Nat × (Nat → Int32)} {d : Nat} {Q : Option MV → MH → Prop} {u1 : Option MV} {u2 : Option MV} {u3 : Option MV} {h : MH} (L : Lay h.2)  (k1 : 2 ≤ ((h.1 84 3) - (h.1 84 4)).toInt → Wb rod d B_Model_advance 248 [some (.inr (.inr (.inl (some 84)))), u1, u2, u3] [] h Q) (k2 : ¬ 2 ≤ ((h.1 84 3) - (h.1 84 4)).toInt → Wb rod d B_Model_advance 225 [some (.inr (.inr (.inl (some 84)))), u1, u2, u3] [] h Q) : Wb rod d B_Model_advance 212 [some (.inr (.inr (.inl (some 84)))), u1, u2, u3] [] h Q := by
  refine Wb.br (fun _ _ => b_Model_advance_212 (Lay.o84 L)) (fun c => ?_) (fun c => ?_)
  · have c : (decide ((2 : Int32) ≤ ((h.1 84 3) - (h.1 84 4)))) = true := by first | exact c | (simp only [Option.getD_some] at c; exact c)
    (first | exact (k1 (c_let c)) | (simp only [Option.getD_some]; exact (k1 (c_let c))))
  · have c : (decide ((2 : Int32) ≤ ((h.1 84 3) - (h.1 84 4)))) = false := by first | exact c | (simp only [Option.getD_some] at c; exact c)
    (first | exact (k2 (c_lef c)) | (simp only [Option.getD_some]; exact (k2 (c_lef c))))
theorem w_Model_advance_225 {rod : Nat → Nat × (Nat → Int32)} {d : Nat} {Q : Option MV → MH → Prop} {u1 : Option MV} {u2 : Option MV} {u3 : Option MV} {h : MH} (L : Lay h.2)  {Q1 : Option MV → MH → Prop} (c : Wc rod d 196 [.inr (.inr (.inl (some 84))), .inl (h.1 84 3)] h Q1) (k : ∀ r1 h2, Q1 r1 h2 → Wb rod d B_Model_advance 241 [some (.inr (.inr (.inl (some 84)))), u1, u2, u3] (r1.toList ++ [.inl ((10 : Int32) * (h.1 84 6)), .inr (.inr (.inl (some 84)))]) h2 Q) : Wb rod d B_Model_advance 225 [some (.inr (.inr (.inl (some 84)))), u1, u2, u3] [] h Q := by
  refine Wb.call (fun _ _ _ _ => b_Model_advance_225 (Lay.o84 L)) (Q1 := Q1) ?_ ?_
  · (first | exact c | (simp only [Option.getD_some]; exact c))
  · (first | exact k | (simp only [Option.getD_some]; exact k))
theorem w_Model_advance_241 {rod : Nat → Nat × (Nat → Int32)} {d : Nat} {Q : Option MV → MH → Prop} {u0 : Option MV} {u1 : Option MV} {u2 : Option MV} {u3 : Option MV} {xs1 : Int32} {xs2 : Int32} {h : MH} (L : Lay h.2)  (k : Wb rod d B_Model_advance 248 [u0, u1, u2, u3] [] (sI h 84 6 ((xs1 + xs2) - (48 : Int32))) Q) : Wb rod d B_Model_advance 241 [u0, u1, u2, u3] [.inl xs2, .inl xs1, .inr (.inr (.inl (some 84)))] h Q := by
  refine Wb.go (fun r hr q => b_Model_advance_241 (Lay.o84 L) ?_) k
  (first | exact q | (simp only [Option.getD_some]; exact q))
theorem w_Model_advance_248 {rod : Nat → Nat × (Nat → Int32)} {d : Nat} {Q : Option MV → MH → Prop} {u1 : Option MV} {u2 : Option MV} {u3 : Option MV} {h : MH} (L : Lay h.2)  (k : Wb rod d B_Model_advance 258 [some (.inr (.inr (.inl (some 84)))), u1, u2, u3] [] (sI h 84 3 ((h.1 84 3) + (1 : Int32))) Q) : Wb rod d B_Model_advance 248 [some (.inr (.inr (.inl (some 84)))), u1, u2, u3] [] h Q := by
  refine Wb.go (fun r hr q => b_Model_advance_248 (Lay.o84 L) ?_) k
  (first | exact q | (simp only [Option.getD_some]; exact q))
theorem w_Model_advance_258 {rod : Nat → Nat × (Nat → Int32)} {d : Nat} {Q : Option MV → MH → Prop} {u0 : Option MV} {u1 : Option MV} {u2 : Option MV} {u3 : Option MV} {h : MH}   (k : Wb rod d B_Model_advance 198 [u0, u1, u2, u3] [] h Q) : Wb rod d B_Model_advance 258 [u0, u1, u2, u3] [] h Q := by
  refine Wb.go (fun r hr q => b_Model_advance_258 ?_) k
  (first | exact q | (simp only [Option.getD_some]; exact q))
theorem w_Model_advance_261 {rod : Nat → Nat × (Nat → Int32)} {d : Nat} {Q : Option MV → MH → Prop} {u1 : Option MV} {u2 : Option MV} {u3 : Option MV} {h : MH} (L : Lay h.2)  (k1 : ((h.1 84 3) - (h.1 84 4)).toInt ≤ 2 → Wb rod d B_Model_advance 279 [some (.inr (.inr (.inl (some 84)))), u1, u2, u3] [.inr (.inr (.inl (some 84)))] h Q) (k2 : ¬ ((h.1 84 3) - (h.1 84 4)).toInt ≤ 2 → Wb rod d B_Model_advance 275 [some (.inr (.inr (.inl (some 84)))), u1, u2, u3] [.inr (.inr (.inl (some 84)))] h Q) : Wb rod d B_Model_advance 261 [some (.inr (.inr (.inl (some 84)))), u1, u2, u3] [] h Q := by
  refine Wb.br (fun _ _ => b_Model_advance_261 (Lay.o84 L)) (fun c => ?_) (fun c => ?_)
  · have c : (decide (((h.1 84 3) - (h.1 84 4)) ≤ (2 : Int32))) = true := by first | exact c | (simp only [Option.getD_some] at c; exact c)
    (first | exact (k1 (c_let c)) | (simp only [Option.getD_some]; exact (k1 (c_let c))))
  · have c : (decide (((h.1 84 3) - (h.1 84 4)) ≤ (2 : Int32))) = false := by first | exact c | (simp only [Option.getD_some] at c; exact c)
    (first | exact (k2 (c_lef c)) | (simp only [Option.getD_some]; exact (k2 (c_lef c))))
theorem w_Model_advance_275 {rod : Nat → Nat × (Nat → Int32)} {d : Nat} {Q : Option MV → MH → Prop} {u0 : Option MV} {u1 : Option MV} {u2 : Option MV} {u3 : Option MV} {h : MH}   (k : Wb rod d B_Model_advance 280 [u0, u1, u2, u3] [.inl (4 : Int32), .inr (.inr (.inl (some 84)))] h Q) : Wb rod d B_Model_advance 275 [u0, u1, u2, u3] [.inr (.inr (.inl (some 84)))] h Q := by
  refine Wb.go (fun r hr q => b_Model_advance_275 ?_) k
  (first | exact q | (simp only [Option.getD_some]; exact q))
theorem w_Model_advance_279 {rod : Nat → Nat × (Nat → Int32)} {d : Nat} {Q : Option MV → MH → Prop} {u0 : Option MV} {u1 : Option MV} {u2 : Option MV} {u3 : Option MV} {h : MH}   (k : Wb rod d B_Model_advance 280 [u0, u1, u2, u3] [.inl (1 : Int32), .inr (.inr (.inl (some 84)))] h Q) : Wb rod d B_Model_advance 279 [u0, u1, u2, u3] [.inr (.inr (.inl (some 84)))] h Q := by
  refine Wb.go (fun r hr q => b_Model_advance_279 ?_) k
  (first | exact q | (simp only [Option.getD_some]; exact q))
theorem w_Model_advance_280 {rod : Nat → Nat × (Nat → Int32)} {d : Nat} {Q : Option MV → MH → Prop} {u0 : Option MV} {u1 : Option MV} {u2 : Option MV} {u3 : Option MV} {xs1 : Int32} {h : MH} (L : Lay h.2)  (k : Wb rod d B_Model_advance 283 [u0, u1, u2, u3] [] (sI h 84 5 xs1) Q) : Wb rod d B_Model_advance 280 [u0, u1, u2, u3] [.inl xs1, .inr (.inr (.inl (some 84)))] h Q := by
  refine Wb.go (fun r hr q => b_Model_advance_280 (Lay.o84 L) ?_) k
  (first | exact q | (simp only [Option.getD_some]; exact q))
theorem w_Model_advance_283 {rod : Nat → Nat × (Nat → Int32)} {d : Nat} {Q : Option MV → MH → Prop} {u0 : Option MV} {u1 : Option MV} {u2 : Option MV} {u3 : Option MV} {h : MH}   (k : Wb rod d B_Model_advance 311 [u0, u1, u2, u3] [] h Q) : Wb rod d B_Model_advance 283 [u0, u1, u2, u3] [] h Q := by
  refine Wb.go (fun r hr q => b_Model_advance_283 ?_) k
  (first | exact q | (simp only [Option.getD_some]; exact q))
theorem w_Model_advance_286 {rod : Nat → Nat × (Nat → Int32)} {d : Nat} {Q : Option MV → MH → Prop} {u1 : Option MV} {u2 : Option MV} {u3 : Option MV} {h : MH} (L : Lay h.2)  (k : Wb rod d B_Model_advance 296 [some (.inr (.inr (.inl (some 84)))), u1, u2, u3] [] (sI h 84 3 ((h.1 84 3) + (1 : Int32))) Q) : Wb rod d B_Model_advance 286 [some (.inr (.inr (.inl (some 84)))), u1, u2, u3] [] h Q := by
  refine Wb.go (fun r hr q => b_Model_advance_286 (Lay.o84 L) ?_) k
  (first | exact q | (simp only [Option.getD_some]; exact q))
theorem w_Model_advance_296 {rod : Nat → Nat × (Nat → Int32)} {d : Nat} {Q : Option MV → MH → Prop} {x1 : Int32} {u2 : Option MV} {u3 : Option MV} {h : MH}   (k1 : ¬ x1.toInt = 59 → Wb rod d B_Model_advance 307 [some (.inr (.inr (.inl (some 84)))), some (.inl x1), u2, u3] [.inr (.inr (.inl (some 84)))] h Q) (k2 : x1.toInt = 59 → Wb rod d B_Model_advance 303 [some (.inr (.inr (.inl (some 84)))), some (.inl x1), u2, u3] [.inr (.inr (.inl (some 84)))] h Q) : Wb rod d B_Model_advance 296 [some (.inr (.inr (.inl (some 84)))), some (.inl x1), u2, u3] [] h Q := by
  refine Wb.br (fun _ _ => b_Model_advance_296) (fun c => ?_) (fun c => ?_)
  · have c : (!(decide (x1 = (59 : Int32)))) = true := by first | exact c | (simp only [Option.getD_some] at c; exact c)
    (first | exact (k1 (c_net c)) | (simp only [Option.getD_some]; exact (k1 (c_net c))))
  · have c : (!(decide (x1 = (59 : Int32)))) = false := by first | exact c | (simp only [Option.getD_some] at c; exact c)
    (first | exact (k2 (c_nef c)) | (simp only [Option.getD_some]; exact (k2 (c_nef c))))
theorem w_Model_advance_303 {rod : Nat → Nat × (Nat → Int32)} {d : Nat} {Q : Option MV → MH → Prop} {u0 : Option MV} {u1 : Option MV} {u2 : Option MV} {u3 : Option MV} {h : MH}   (k : Wb rod d B_Model_advance 308 [u0, u1, u2, u3] [.inl (2 : Int32), .inr (.inr (.inl (some 84)))] h Q) : Wb rod d B_Model_advance 303 [u0, u1, u2, u3] [.inr (.inr (.inl (some 84)))] h Q := by
  refine Wb.go (fun r hr q => b_Model_advance_303 ?_) k
  (first | exact q | (simp only [Option.getD_some]; exact q))
theorem w_Model_advance_307 {rod : Nat → Nat × (Nat → Int32)} {d : Nat} {Q : Option MV → MH → Prop} {u0 : Option MV} {u1 : Option MV} {u2 : Option MV} {u3 : Option MV} {h : MH}   (k : Wb rod d B_Model_advance 308 [u0, u1, u2, u3] [.inl (4 : Int32), .inr (.inr (.inl (some 84)))] h Q) : Wb rod d B_Model_advance 307 [u0, u1, u2, u3] [.inr (.inr (.inl (some 84)))] h Q := by
  refine Wb.go (fun r hr q => b_Model_advance_307 ?_) k
  (first | exact q | (simp only [Option.getD_some]; exact q))
theorem w_Model_advance_308 {rod : Nat → Nat × (Nat → Int32)} {d : Nat} {Q : Option MV → MH → Prop} {u0 : Option MV} {u1 : Option MV} {u2 : Option MV} {u3 : Option MV} {xs1 : Int32} {h : MH} (L : Lay h.2)  (k : Wb rod d B_Model_advance 311 [u0, u1, u2, u3] [] (sI h 84 5 xs1) Q) : Wb rod d B_Model_advance 308 [u0, u1, u2, u3] [.inl xs1, .inr (.inr (.inl (some 84)))] h Q := by
  refine Wb.go (fun r hr q => b_Model_advance_308 (Lay.o84 L) ?_) k
  (first | exact q | (simp only [Option.getD_some]; exact q))
theorem w_Model_advance_311 {rod : Nat → Nat × (Nat → Int32)} {d : Nat} {Q : Option MV → MH → Prop} {u0 : Option MV} {u1 : Option MV} {u2 : Option MV} {u3 : Option MV} {h : MH}   (q : Q (none) h) : Wb rod d B_Model_advance 311 [u0, u1, u2, u3] [] h Q := by
  refine Wb.ret (b_Model_advance_311) ?_
  (first | exact q | (simp only [Option.getD_some]; exact q))
theorem n_Model_byteAt {rod : Nat → Nat × (Nat → Int32)} {d : Nat} {Q : Option MV → MH → Prop} {x1 : Int32} {h : MH} (k : Wb rod d B_Model_byteAt 0 [some (.inr (.inr (.inl (some 84)))), some (.inl x1)] [] h Q) : Wc rod (d + 1) 196 [.inr (.inr (.inl (some 84))), .inl x1] h Q := Wc.en (fun _ _ => e_Model_byteAt) k
theorem w_Model_byteAt_0 {rod : Nat → Nat × (Nat → Int32)} {d : Nat} {Q : Option MV → MH → Prop} {x1 : Int32} {h : MH} (L : Lay h.2)  (k1 : (h.1 84 2).toInt ≤ x1.toInt → Wb rod d B_Model_byteAt 20 [some (.inr (.inr (.inl (some 84)))), some (.inl x1)] [] h Q) (k2 : ¬ (h.1 84 2).toInt ≤ x1.toInt → Wb rod d B_Model_byteAt 8 [some (.inr (.inr (.inl (some 84)))), some (.inl x1)] [] h Q) : Wb rod d B_Model_byteAt 0 [some (.inr (.inr (.inl (some 84)))), some (.inl x1)] [] h Q := by
  refine Wb.br (fun _ _ => b_Model_byteAt_0 (Lay.o84 L)) (fun c => ?_) (fun c => ?_)
  · have c : (decide ((h.1 84 2) ≤ x1)) = true := by first | exact c | (simp only [Option.getD_some] at c; exact c)
    (first | exact (k1 (c_let c)) | (simp only [Option.getD_some]; exact (k1 (c_let c))))
  · have c : (decide ((h.1 84 2) ≤ x1)) = false := by first | exact c | (simp only [Option.getD_some] at c; exact c)
    (first | exact (k2 (c_lef c)) | (simp only [Option.getD_some]; exact (k2 (c_lef c))))
theorem w_Model_byteAt_8 {rod : Nat → Nat × (Nat → Int32)} {d : Nat} {Q : Option MV → MH → Prop} {x1 : Int32} {h : MH} (L : Lay h.2) (g0 : 0 ≤ ((10 : Int32) + x1).toInt ∧ ((10 : Int32) + x1).toInt < 4584) (k : Wb rod d B_Model_byteAt 21 [some (.inr (.inr (.inl (some 84)))), some (.inl x1)] [.inl (h.1 85 ((10 : Int32) + x1).toNatClampNeg)] h Q) : Wb rod d B_Model_byteAt 8 [some (.inr (.inr (.inl (some 84)))), some (.inl x1)] [] h Q := by
  refine Wb.go (fun r hr q => b_Model_byteAt_8 (Lay.o84 L) (Lay.a84_0 L g0) ?_) k
  (first | exact q | (simp only [Option.getD_some, (Lay.r84_0 L)]; exact q))
theorem w_Model_byteAt_20 {rod : Nat → Nat × (Nat → Int32)} {d : Nat} {Q : Option MV → MH → Prop} {u0 : Option MV} {u1 : Option MV} {h : MH}   (k : Wb rod d B_Model_byteAt 21 [u0, u1] [.inl (-1 : Int32)] h Q) : Wb rod d B_Model_byteAt 20 [u0, u1] [] h Q := by
  refine Wb.go (fun r hr q => b_Model_byteAt_20 ?_) k
  (first | exact q | (simp only [Option.getD_some]; exact q))
theorem w_Model_byteAt_21 {rod : Nat → Nat × (Nat → Int32)} {d : Nat} {Q : Option MV → MH → Prop} {u0 : Option MV} {u1 : Option MV} {xs0 : Int32} {h : MH}   (q : Q (some (.inl xs0)) h) : Wb rod d B_Model_byteAt 21 [u0, u1] [.inl xs0] h Q := by
  refine Wb.ret (b_Model_byteAt_21) ?_
  (first | exact q | (simp only [Option.getD_some]; exact q))
theorem n_Model_isLetter {rod : Nat → Nat × (Nat → Int32)} {d : Nat} {Q : Option MV → MH → Prop} {x0 : Int32} {h : MH} (k : Wb rod d B_Model_isLetter 0 [some (.inl x0)] [] h Q) : Wc rod (d + 1) 197 [.inl x0] h Q := Wc.en (fun _ _ => e_Model_isLetter) k
theorem w_Model_isLetter_0 {rod : Nat → Nat × (Nat → Int32)} {d : Nat} {Q : Option MV → MH → Prop} {x0 : Int32} {h : MH}   (k1 : x0.toInt < 97 → Wb rod d B_Model_isLetter 16 [some (.inl x0)] [] h Q) (k2 : ¬ x0.toInt < 97 → Wb rod d B_Model_isLetter 6 [some (.inl x0)] [] h Q) : Wb rod d B_Model_isLetter 0 [some (.inl x0)] [] h Q := by
  refine Wb.br (fun _ _ => b_Model_isLetter_0) (fun c => ?_) (fun c => ?_)
  · have c : (decide (x0 < (97 : Int32))) = true := by first | exact c | (simp only [Option.getD_some] at c; exact c)
    (first | exact (k1 (c_ltt c)) | (simp only [Option.getD_some]; exact (k1 (c_ltt c))))
  · have c : (decide (x0 < (97 : Int32))) = false := by first | exact c | (simp only [Option.getD_some] at c; exact c)
    (first | exact (k2 (c_ltf c)) | (simp only [Option.getD_some]; exact (k2 (c_ltf c))))
theorem w_Model_isLetter_6 {rod : Nat → Nat × (Nat → Int32)} {d : Nat} {Q : Option MV → MH → Prop} {x0 : Int32} {h : MH}   (k1 : 122 < x0.toInt → Wb rod d B_Model_isLetter 16 [some (.inl x0)] [] h Q) (k2 : ¬ 122 < x0.toInt → Wb rod d B_Model_isLetter 12 [some (.inl x0)] [] h Q) : Wb rod d B_Model_isLetter 6 [some (.inl x0)] [] h Q := by
  refine Wb.br (fun _ _ => b_Model_isLetter_6) (fun c => ?_) (fun c => ?_)
  · have c : (decide ((122 : Int32) < x0)) = true := by first | exact c | (simp only [Option.getD_some] at c; exact c)
    (first | exact (k1 (c_ltt c)) | (simp only [Option.getD_some]; exact (k1 (c_ltt c))))
  · have c : (decide ((122 : Int32) < x0)) = false := by first | exact c | (simp only [Option.getD_some] at c; exact c)
    (first | exact (k2 (c_ltf c)) | (simp only [Option.getD_some]; exact (k2 (c_ltf c))))
theorem w_Model_isLetter_12 {rod : Nat → Nat × (Nat → Int32)} {d : Nat} {Q : Option MV → MH → Prop} {u0 : Option MV} {h : MH}   (k : Wb rod d B_Model_isLetter 17 [u0] [.inl (1 : Int32)] h Q) : Wb rod d B_Model_isLetter 12 [u0] [] h Q := by
  refine Wb.go (fun r hr q => b_Model_isLetter_12 ?_) k
  (first | exact q | (simp only [Option.getD_some]; exact q))
theorem w_Model_isLetter_16 {rod : Nat → Nat × (Nat → Int32)} {d : Nat} {Q : Option MV → MH → Prop} {u0 : Option MV} {h : MH}   (k : Wb rod d B_Model_isLetter 17 [u0] [.inl (0 : Int32)] h Q) : Wb rod d B_Model_isLetter 16 [u0] [] h Q := by
  refine Wb.go (fun r hr q => b_Model_isLetter_16 ?_) k
  (first | exact q | (simp only [Option.getD_some]; exact q))
theorem w_Model_isLetter_17 {rod : Nat → Nat × (Nat → Int32)} {d : Nat} {Q : Option MV → MH → Prop} {u0 : Option MV} {xs0 : Int32} {h : MH}  (g0 : xs0 = 0 ∨ xs0 = 1) (q : Q (some (.inl xs0)) h) : Wb rod d B_Model_isLetter 17 [u0] [.inl xs0] h Q := by
  refine Wb.ret (b_Model_isLetter_17 (d01 g0)) ?_
  (first | exact q | (simp only [Option.getD_some]; exact q))
theorem n_Model_wordOf {rod : Nat → Nat × (Nat → Int32)} {d : Nat} {Q : Option MV → MH → Prop} {z0 : Int64} {h : MH} (k : Wb rod d B_Model_wordOf 0 [some (.inr (.inl z0)), none] [] h Q) : Wc rod (d + 1) 198 [.inr (.inl z0)] h Q := Wc.en (fun _ _ => e_Model_wordOf) k
theorem w_Model_wordOf_0 {rod : Nat → Nat × (Nat → Int32)} {d : Nat} {Q : Option MV → MH → Prop} {z0 : Int64} {u1 : Option MV} {h : MH}   {Q1 : Option MV → MH → Prop} (c : Wc rod d 199 [.inl (16 : Int32), .inl (15 : Int32), .inl (15 : Int32), .inl (18 : Int32)] h Q1) (k : ∀ r1 h2, Q1 r1 h2 → Wb rod d B_Model_wordOf 12 [some (.inr (.inl z0)), u1] (r1.toList ++ [.inr (.inl z0)]) h2 Q) : Wb rod d B_Model_wordOf 0 [some (.inr (.inl z0)), u1] [] h Q := by
  refine Wb.call (fun _ _ _ _ => b_Model_wordOf_0) (Q1 := Q1) ?_ ?_
  · (first | exact c | (simp only [Option.getD_some]; exact c))
  · (first | exact k | (simp only [Option.getD_some]; exact k))
theorem w_Model_wordOf_12 {rod : Nat → Nat × (Nat → Int32)} {d : Nat} {Q : Option MV → MH → Prop} {u0 : Option MV} {u1 : Option MV} {zs0 : Int64} {zs1 : Int64} {h : MH}   (k1 : ¬ (lg_cmp zs0 zs1).toInt = 0 → Wb rod d B_Model_wordOf 18 [u0, u1] [] h Q) (k2 : (lg_cmp zs0 zs1).toInt = 0 → Wb rod d B_Model_wordOf 16 [u0, u1] [] h Q) : Wb rod d B_Model_wordOf 12 [u0, u1] [.inr (.inl zs1), .inr (.inl zs0)] h Q := by
  refine Wb.br (fun _ _ => b_Model_wordOf_12) (fun c => ?_) (fun c => ?_)
  · have c : (!(decide ((lg_cmp zs0 zs1) = 0))) = true := by first | exact c | (simp only [Option.getD_some] at c; exact c)
    (first | exact (k1 (c_net c)) | (simp only [Option.getD_some]; exact (k1 (c_net c))))
  · have c : (!(decide ((lg_cmp zs0 zs1) = 0))) = false := by first | exact c | (simp only [Option.getD_some] at c; exact c)
    (first | exact (k2 (c_nef c)) | (simp only [Option.getD_some]; exact (k2 (c_nef c))))
theorem w_Model_wordOf_16 {rod : Nat → Nat × (Nat → Int32)} {d : Nat} {Q : Option MV → MH → Prop} {u0 : Option MV} {u1 : Option MV} {h : MH}   (q : Q (some (.inl (1 : Int32))) h) : Wb rod d B_Model_wordOf 16 [u0, u1] [] h Q := by
  refine Wb.ret (b_Model_wordOf_16) ?_
  (first | exact q | (simp only [Option.getD_some]; exact q))
theorem w_Model_wordOf_18 {rod : Nat → Nat × (Nat → Int32)} {d : Nat} {Q : Option MV → MH → Prop} {z0 : Int64} {u1 : Option MV} {h : MH}   {Q1 : Option MV → MH → Prop} (c : Wc rod d 200 [.inl (0 : Int32), .inl (0 : Int32), .inl (11 : Int32), .inl (14 : Int32), .inl (9 : Int32), .inl (7 : Int32), .inl (8 : Int32), .inl (20 : Int32)] h Q1) (k : ∀ r1 h2, Q1 r1 h2 → Wb rod d B_Model_wordOf 36 [some (.inr (.inl z0)), u1] (r1.toList ++ [.inr (.inl z0)]) h2 Q) : Wb rod d B_Model_wordOf 18 [some (.inr (.inl z0)), u1] [] h Q := by
  refine Wb.call (fun _ _ _ _ => b_Model_wordOf_18) (Q1 := Q1) ?_ ?_
  · (first | exact c | (simp only [Option.getD_some]; exact c))
  · (first | exact k | (simp only [Option.getD_some]; exact k))
theorem w_Model_wordOf_36 {rod : Nat → Nat × (Nat → Int32)} {d : Nat} {Q : Option MV → MH → Prop} {u0 : Option MV} {u1 : Option MV} {zs0 : Int64} {zs1 : Int64} {h : MH}   (k1 : ¬ (lg_cmp zs0 zs1).toInt = 0 → Wb rod d B_Model_wordOf 42 [u0, u1] [] h Q) (k2 : (lg_cmp zs0 zs1).toInt = 0 → Wb rod d B_Model_wordOf 40 [u0, u1] [] h Q) : Wb rod d B_Model_wordOf 36 [u0, u1] [.inr (.inl zs1), .inr (.inl zs0)] h Q := by
  refine Wb.br (fun _ _ => b_Model_wordOf_36) (fun c => ?_) (fun c => ?_)
  · have c : (!(decide ((lg_cmp zs0 zs1) = 0))) = true := by first | exact c | (simp only [Option.getD_some] at c; exact c)
    (first | exact (k1 (c_net c)) | (simp only [Option.getD_some]; exact (k1 (c_net c))))
  · have c : (!(decide ((lg_cmp zs0 zs1) = 0))) = false := by first | exact c | (simp only [Option.getD_some] at c; exact c)
    (first | exact (k2 (c_nef c)) | (simp only [Option.getD_some]; exact (k2 (c_nef c))))
theorem w_Model_wordOf_40 {rod : Nat → Nat × (Nat → Int32)} {d : Nat} {Q : Option MV → MH → Prop} {u0 : Option MV} {u1 : Option MV} {h : MH}   (q : Q (some (.inl (2 : Int32))) h) : Wb rod d B_Model_wordOf 40 [u0, u1] [] h Q := by
  refine Wb.ret (b_Model_wordOf_40) ?_
  (first | exact q | (simp only [Option.getD_some]; exact q))
theorem w_Model_wordOf_42 {rod : Nat → Nat × (Nat → Int32)} {d : Nat} {Q : Option MV → MH → Prop} {z0 : Int64} {u1 : Option MV} {h : MH}   {Q1 : Option MV → MH → Prop} (c : Wc rod d 200 [.inl (0 : Int32), .inl (0 : Int32), .inl (0 : Int32), .inl (23 : Int32), .inl (9 : Int32), .inl (4 : Int32), .inl (15 : Int32), .inl (23 : Int32)] h Q1) (k : ∀ r1 h2, Q1 r1 h2 → Wb rod d B_Model_wordOf 58 [some (.inr (.inl z0)), u1] (r1.toList ++ [.inr (.inl z0)]) h2 Q) : Wb rod d B_Model_wordOf 42 [some (.inr (.inl z0)), u1] [] h Q := by
  refine Wb.call (fun _ _ _ _ => b_Model_wordOf_42) (Q1 := Q1) ?_ ?_
  · (first | exact c | (simp only [Option.getD_some]; exact c))
  · (first | exact k | (simp only [Option.getD_some]; exact k))
theorem w_Model_wordOf_58 {rod : Nat → Nat × (Nat → Int32)} {d : Nat} {Q : Option MV → MH → Prop} {u0 : Option MV} {u1 : Option MV} {zs0 : Int64} {zs1 : Int64} {h : MH}   (k1 : ¬ (lg_cmp zs0 zs1).toInt = 0 → Wb rod d B_Model_wordOf 64 [u0, u1] [] h Q) (k2 : (lg_cmp zs0 zs1).toInt = 0 → Wb rod d B_Model_wordOf 62 [u0, u1] [] h Q) : Wb rod d B_Model_wordOf 58 [u0, u1] [.inr (.inl zs1), .inr (.inl zs0)] h Q := by
  refine Wb.br (fun _ _ => b_Model_wordOf_58) (fun c => ?_) (fun c => ?_)
  · have c : (!(decide ((lg_cmp zs0 zs1) = 0))) = true := by first | exact c | (simp only [Option.getD_some] at c; exact c)
    (first | exact (k1 (c_net c)) | (simp only [Option.getD_some]; exact (k1 (c_net c))))
  · have c : (!(decide ((lg_cmp zs0 zs1) = 0))) = false := by first | exact c | (simp only [Option.getD_some] at c; exact c)
    (first | exact (k2 (c_nef c)) | (simp only [Option.getD_some]; exact (k2 (c_nef c))))
theorem w_Model_wordOf_62 {rod : Nat → Nat × (Nat → Int32)} {d : Nat} {Q : Option MV → MH → Prop} {u0 : Option MV} {u1 : Option MV} {h : MH}   (q : Q (some (.inl (3 : Int32))) h) : Wb rod d B_Model_wordOf 62 [u0, u1] [] h Q := by
  refine Wb.ret (b_Model_wordOf_62) ?_
  (first | exact q | (simp only [Option.getD_some]; exact q))
theorem w_Model_wordOf_64 {rod : Nat → Nat × (Nat → Int32)} {d : Nat} {Q : Option MV → MH → Prop} {z0 : Int64} {u1 : Option MV} {h : MH}   {Q1 : Option MV → MH → Prop} (c : Wc rod d 200 [.inl (0 : Int32), .inl (4 : Int32), .inl (15 : Int32), .inl (21 : Int32), .inl (2 : Int32), .inl (20 : Int32), .inl (5 : Int32), .inl (18 : Int32)] h Q1) (k : ∀ r1 h2, Q1 r1 h2 → Wb rod d B_Model_wordOf 80 [some (.inr (.inl z0)), u1] (r1.toList ++ [.inr (.inl z0)]) h2 Q) : Wb rod d B_Model_wordOf 64 [some (.inr (.inl z0)), u1] [] h Q := by
  refine Wb.call (fun _ _ _ _ => b_Model_wordOf_64) (Q1 := Q1) ?_ ?_
  · (first | exact c | (simp only [Option.getD_some]; exact c))
  · (first | exact k | (simp only [Option.getD_some]; exact k))
theorem w_Model_wordOf_80 {rod : Nat → Nat × (Nat → Int32)} {d : Nat} {Q : Option MV → MH → Prop} {u0 : Option MV} {u1 : Option MV} {zs0 : Int64} {zs1 : Int64} {h : MH}   (k1 : ¬ (lg_cmp zs0 zs1).toInt = 0 → Wb rod d B_Model_wordOf 86 [u0, u1] [] h Q) (k2 : (lg_cmp zs0 zs1).toInt = 0 → Wb rod d B_Model_wordOf 84 [u0, u1] [] h Q) : Wb rod d B_Model_wordOf 80 [u0, u1] [.inr (.inl zs1), .inr (.inl zs0)] h Q := by
  refine Wb.br (fun _ _ => b_Model_wordOf_80) (fun c => ?_) (fun c => ?_)
  · have c : (!(decide ((lg_cmp zs0 zs1) = 0))) = true := by first | exact c | (simp only [Option.getD_some] at c; exact c)
    (first | exact (k1 (c_net c)) | (simp only [Option.getD_some]; exact (k1 (c_net c))))
  · have c : (!(decide ((lg_cmp zs0 zs1) = 0))) = false := by first | exact c | (simp only [Option.getD_some] at c; exact c)
    (first | exact (k2 (c_nef c)) | (simp only [Option.getD_some]; exact (k2 (c_nef c))))
theorem w_Model_wordOf_84 {rod : Nat → Nat × (Nat → Int32)} {d : Nat} {Q : Option MV → MH → Prop} {u0 : Option MV} {u1 : Option MV} {h : MH}   (q : Q (some (.inl (4 : Int32))) h) : Wb rod d B_Model_wordOf 84 [u0, u1] [] h Q := by
  refine Wb.ret (b_Model_wordOf_84) ?_
  (first | exact q | (simp only [Option.getD_some]; exact q))
theorem w_Model_wordOf_86 {rod : Nat → Nat × (Nat → Int32)} {d : Nat} {Q : Option MV → MH → Prop} {z0 : Int64} {u1 : Option MV} {h : MH}   {Q1 : Option MV → MH → Prop} (c : Wc rod d 199 [.inl (18 : Int32), .inl (15 : Int32), .inl (1 : Int32), .inl (4 : Int32)] h Q1) (k : ∀ r1 h2, Q1 r1 h2 → Wb rod d B_Model_wordOf 96 [some (.inr (.inl z0)), u1] (r1.toList ++ [.inr (.inl z0)]) h2 Q) : Wb rod d B_Model_wordOf 86 [some (.inr (.inl z0)), u1] [] h Q := by
  refine Wb.call (fun _ _ _ _ => b_Model_wordOf_86) (Q1 := Q1) ?_ ?_
  · (first | exact c | (simp only [Option.getD_some]; exact c))
  · (first | exact k | (simp only [Option.getD_some]; exact k))
theorem w_Model_wordOf_96 {rod : Nat → Nat × (Nat → Int32)} {d : Nat} {Q : Option MV → MH → Prop} {u0 : Option MV} {u1 : Option MV} {zs0 : Int64} {zs1 : Int64} {h : MH}   (k1 : ¬ (lg_cmp zs0 zs1).toInt = 0 → Wb rod d B_Model_wordOf 102 [u0, u1] [] h Q) (k2 : (lg_cmp zs0 zs1).toInt = 0 → Wb rod d B_Model_wordOf 100 [u0, u1] [] h Q) : Wb rod d B_Model_wordOf 96 [u0, u1] [.inr (.inl zs1), .inr (.inl zs0)] h Q := by
  refine Wb.br (fun _ _ => b_Model_wordOf_96) (fun c => ?_) (fun c => ?_)
  · have c : (!(decide ((lg_cmp zs0 zs1) = 0))) = true := by first | exact c | (simp only [Option.getD_some] at c; exact c)
    (first | exact (k1 (c_net c)) | (simp only [Option.getD_some]; exact (k1 (c_net c))))
  · have c : (!(decide ((lg_cmp zs0 zs1) = 0))) = false := by first | exact c | (simp only [Option.getD_some] at c; exact c)
    (first | exact (k2 (c_nef c)) | (simp only [Option.getD_some]; exact (k2 (c_nef c))))
theorem w_Model_wordOf_100 {rod : Nat → Nat × (Nat → Int32)} {d : Nat} {Q : Option MV → MH → Prop} {u0 : Option MV} {u1 : Option MV} {h : MH}   (q : Q (some (.inl (5 : Int32))) h) : Wb rod d B_Model_wordOf 100 [u0, u1] [] h Q := by
  refine Wb.ret (b_Model_wordOf_100) ?_
  (first | exact q | (simp only [Option.getD_some]; exact q))
theorem w_Model_wordOf_102 {rod : Nat → Nat × (Nat → Int32)} {d : Nat} {Q : Option MV → MH → Prop} {z0 : Int64} {u1 : Option MV} {h : MH}   {Q1 : Option MV → MH → Prop} (c : Wc rod d 200 [.inl (0 : Int32), .inl (0 : Int32), .inl (12 : Int32), .inl (5 : Int32), .inl (20 : Int32), .inl (20 : Int32), .inl (5 : Int32), .inl (18 : Int32)] h Q1) (k : ∀ r1 h2, Q1 r1 h2 → Wb rod d B_Model_wordOf 118 [some (.inr (.inl z0)), u1] (r1.toList ++ [.inr (.inl z0)]) h2 Q) : Wb rod d B_Model_wordOf 102 [some (.inr (.inl z0)), u1] [] h Q := by
  refine Wb.call (fun _ _ _ _ => b_Model_wordOf_102) (Q1 := Q1) ?_ ?_
  · (first | exact c | (simp only [Option.getD_some]; exact c))
  · (first | exact k | (simp only [Option.getD_some]; exact k))
theorem w_Model_wordOf_118 {rod : Nat → Nat × (Nat → Int32)} {d : Nat} {Q : Option MV → MH → Prop} {u0 : Option MV} {u1 : Option MV} {zs0 : Int64} {zs1 : Int64} {h : MH}   (k1 : ¬ (lg_cmp zs0 zs1).toInt = 0 → Wb rod d B_Model_wordOf 125 [u0, u1] [] h Q) (k2 : (lg_cmp zs0 zs1).toInt = 0 → Wb rod d B_Model_wordOf 122 [u0, u1] [] h Q) : Wb rod d B_Model_wordOf 118 [u0, u1] [.inr (.inl zs1), .inr (.inl zs0)] h Q := by
  refine Wb.br (fun _ _ => b_Model_wordOf_118) (fun c => ?_) (fun c => ?_)
  · have c : (!(decide ((lg_cmp zs0 zs1) = 0))) = true := by first | exact c | (simp only [Option.getD_some] at c; exact c)
    (first | exact (k1 (c_net c)) | (simp only [Option.getD_some]; exact (k1 (c_net c))))
  · have c : (!(decide ((lg_cmp zs0 zs1) = 0))) = false := by first | exact c | (simp only [Option.getD_some] at c; exact c)
    (first | exact (k2 (c_nef c)) | (simp only [Option.getD_some]; exact (k2 (c_nef c))))
theorem w_Model_wordOf_122 {rod : Nat → Nat × (Nat → Int32)} {d : Nat} {Q : Option MV → MH → Prop} {u0 : Option MV} {u1 : Option MV} {h : MH}   (q : Q (some (.inl (6 : Int32))) h) : Wb rod d B_Model_wordOf 122 [u0, u1] [] h Q := by
  refine Wb.ret (b_Model_wordOf_122) ?_
  (first | exact q | (simp only [Option.getD_some]; exact q))
theorem w_Model_wordOf_125 {rod : Nat → Nat × (Nat → Int32)} {d : Nat} {Q : Option MV → MH → Prop} {z0 : Int64} {u1 : Option MV} {h : MH}   {Q1 : Option MV → MH → Prop} (c : Wc rod d 200 [.inl (0 : Int32), .inl (0 : Int32), .inl (0 : Int32), .inl (20 : Int32), .inl (15 : Int32), .inl (23 : Int32), .inl (14 : Int32), .inl (19 : Int32)] h Q1) (k : ∀ r1 h2, Q1 r1 h2 → Wb rod d B_Model_wordOf 142 [some (.inr (.inl z0)), u1] (r1.toList ++ [.inr (.inl z0)]) h2 Q) : Wb rod d B_Model_wordOf 125 [some (.inr (.inl z0)), u1] [] h Q := by
  refine Wb.call (fun _ _ _ _ => b_Model_wordOf_125) (Q1 := Q1) ?_ ?_
  · (first | exact c | (simp only [Option.getD_some]; exact c))
  · (first | exact k | (simp only [Option.getD_some]; exact k))
theorem w_Model_wordOf_142 {rod : Nat → Nat × (Nat → Int32)} {d : Nat} {Q : Option MV → MH → Prop} {u0 : Option MV} {u1 : Option MV} {zs0 : Int64} {zs1 : Int64} {h : MH}   (k1 : ¬ (lg_cmp zs0 zs1).toInt = 0 → Wb rod d B_Model_wordOf 149 [u0, u1] [] h Q) (k2 : (lg_cmp zs0 zs1).toInt = 0 → Wb rod d B_Model_wordOf 146 [u0, u1] [] h Q) : Wb rod d B_Model_wordOf 142 [u0, u1] [.inr (.inl zs1), .inr (.inl zs0)] h Q := by
  refine Wb.br (fun _ _ => b_Model_wordOf_142) (fun c => ?_) (fun c => ?_)
  · have c : (!(decide ((lg_cmp zs0 zs1) = 0))) = true := by first | exact c | (simp only [Option.getD_some] at c; exact c)
    (first | exact (k1 (c_net c)) | (simp only [Option.getD_some]; exact (k1 (c_net c))))
  · have c : (!(decide ((lg_cmp zs0 zs1) = 0))) = false := by first | exact c | (simp only [Option.getD_some] at c; exact c)
    (first | exact (k2 (c_nef c)) | (simp only [Option.getD_some]; exact (k2 (c_nef c))))
theorem w_Model_wordOf_146 {rod : Nat → Nat × (Nat → Int32)} {d : Nat} {Q : Option MV → MH → Prop} {u0 : Option MV} {u1 : Option MV} {h : MH}   (q : Q (some (.inl (7 : Int32))) h) : Wb rod d B_Model_wordOf 146 [u0, u1] [] h Q := by
  refine Wb.ret (b_Model_wordOf_146) ?_
  (first | exact q | (simp only [Option.getD_some]; exact q))
theorem w_Model_wordOf_149 {rod : Nat → Nat × (Nat → Int32)} {d : Nat} {Q : Option MV → MH → Prop} {z0 : Int64} {u1 : Option MV} {h : MH}   {Q1 : Option MV → MH → Prop} (c : Wc rod d 199 [.inl (2 : Int32), .inl (1 : Int32), .inl (14 : Int32), .inl (11 : Int32)] h Q1) (k : ∀ r1 h2, Q1 r1 h2 → Wb rod d B_Model_wordOf 159 [some (.inr (.inl z0)), u1] (r1.toList ++ [.inr (.inl z0)]) h2 Q) : Wb rod d B_Model_wordOf 149 [some (.inr (.inl z0)), u1] [] h Q := by
  refine Wb.call (fun _ _ _ _ => b_Model_wordOf_149) (Q1 := Q1) ?_ ?_
  · (first | exact c | (simp only [Option.getD_some]; exact c))
  · (first | exact k | (simp only [Option.getD_some]; exact k))
theorem w_Model_wordOf_159 {rod : Nat → Nat × (Nat → Int32)} {d : Nat} {Q : Option MV → MH → Prop} {u0 : Option MV} {u1 : Option MV} {zs0 : Int64} {zs1 : Int64} {h : MH}   (k1 : ¬ (lg_cmp zs0 zs1).toInt = 0 → Wb rod d B_Model_wordOf 166 [u0, u1] [] h Q) (k2 : (lg_cmp zs0 zs1).toInt = 0 → Wb rod d B_Model_wordOf 163 [u0, u1] [] h Q) : Wb rod d B_Model_wordOf 159 [u0, u1] [.inr (.inl zs1), .inr (.inl zs0)] h Q := by
  refine Wb.br (fun _ _ => b_Model_wordOf_159) (fun c => ?_) (fun c => ?_)
  · have c : (!(decide ((lg_cmp zs0 zs1) = 0))) = true := by first | exact c | (simp only [Option.getD_some] at c; exact c)
    (first | exact (k1 (c_net c)) | (simp only [Option.getD_some]; exact (k1 (c_net c))))
  · have c : (!(decide ((lg_cmp zs0 zs1) = 0))) = false := by first | exact c | (simp only [Option.getD_some] at c; exact c)
    (first | exact (k2 (c_nef c)) | (simp only [Option.getD_some]; exact (k2 (c_nef c))))
theorem w_Model_wordOf_163 {rod : Nat → Nat × (Nat → Int32)} {d : Nat} {Q : Option MV → MH → Prop} {u0 : Option MV} {u1 : Option MV} {h : MH}   (q : Q (some (.inl (8 : Int32))) h) : Wb rod d B_Model_wordOf 163 [u0, u1] [] h Q := by
  refine Wb.ret (b_Model_wordOf_163) ?_
  (first | exact q | (simp only [Option.getD_some]; exact q))
theorem w_Model_wordOf_166 {rod : Nat → Nat × (Nat → Int32)} {d : Nat} {Q : Option MV → MH → Prop} {z0 : Int64} {u1 : Option MV} {h : MH}   {Q1 : Option MV → MH → Prop} (c : Wc rod d 200 [.inl (0 : Int32), .inl (0 : Int32), .inl (0 : Int32), .inl (18 : Int32), .inl (21 : Int32), .inl (12 : Int32), .inl (5 : Int32), .inl (18 : Int32)] h Q1) (k : ∀ r1 h2, Q1 r1 h2 → Wb rod d B_Model_wordOf 182 [some (.inr (.inl z0)), u1] (r1.toList ++ [.inr (.inl z0)]) h2 Q) : Wb rod d B_Model_wordOf 166 [some (.inr (.inl z0)), u1] [] h Q := by
  refine Wb.call (fun _ _ _ _ => b_Model_wordOf_166) (Q1 := Q1) ?_ ?_
  · (first | exact c | (simp only [Option.getD_some]; exact c))
  · (first | exact k | (simp only [Option.getD_some]; exact k))
theorem w_Model_wordOf_182 {rod : Nat → Nat × (Nat → Int32)} {d : Nat} {Q : Option MV → MH → Prop} {u0 : Option MV} {u1 : Option MV} {zs0 : Int64} {zs1 : Int64} {h : MH}   (k1 : ¬ (lg_cmp zs0 zs1).toInt = 0 → Wb rod d B_Model_wordOf 189 [u0, u1] [] h Q) (k2 : (lg_cmp zs0 zs1).toInt = 0 → Wb rod d B_Model_wordOf 186 [u0, u1] [] h Q) : Wb rod d B_Model_wordOf 182 [u0, u1] [.inr (.inl zs1), .inr (.inl zs0)] h Q := by
  refine Wb.br (fun _ _ => b_Model_wordOf_182) (fun c => ?_) (fun c => ?_)
  · have c : (!(decide ((lg_cmp zs0 zs1) = 0))) = true := by first | exact c | (simp only [Option.getD_some] at c; exact c)
    (first | exact (k1 (c_net c)) | (simp only [Option.getD_some]; exact (k1 (c_net c))))
  · have c : (!(decide ((lg_cmp zs0 zs1) = 0))) = false := by first | exact c | (simp only [Option.getD_some] at c; exact c)
    (first | exact (k2 (c_nef c)) | (simp only [Option.getD_some]; exact (k2 (c_nef c))))
theorem w_Model_wordOf_186 {rod : Nat → Nat × (Nat → Int32)} {d : Nat} {Q : Option MV → MH → Prop} {u0 : Option MV} {u1 : Option MV} {h : MH}   (q : Q (some (.inl (9 : Int32))) h) : Wb rod d B_Model_wordOf 186 [u0, u1] [] h Q := by
  refine Wb.ret (b_Model_wordOf_186) ?_
  (first | exact q | (simp only [Option.getD_some]; exact q))
theorem w_Model_wordOf_189 {rod : Nat → Nat × (Nat → Int32)} {d : Nat} {Q : Option MV → MH → Prop} {z0 : Int64} {u1 : Option MV} {h : MH}   {Q1 : Option MV → MH → Prop} (c : Wc rod d 199 [.inl (19 : Int32), .inl (8 : Int32), .inl (21 : Int32), .inl (20 : Int32)] h Q1) (k : ∀ r1 h2, Q1 r1 h2 → Wb rod d B_Model_wordOf 201 [some (.inr (.inl z0)), u1] (r1.toList ++ [.inr (.inl z0)]) h2 Q) : Wb rod d B_Model_wordOf 189 [some (.inr (.inl z0)), u1] [] h Q := by
  refine Wb.call (fun _ _ _ _ => b_Model_wordOf_189) (Q1 := Q1) ?_ ?_
  · (first | exact c | (simp only [Option.getD_some]; exact c))
  · (first | exact k | (simp only [Option.getD_some]; exact k))
theorem w_Model_wordOf_201 {rod : Nat → Nat × (Nat → Int32)} {d : Nat} {Q : Option MV → MH → Prop} {u0 : Option MV} {u1 : Option MV} {zs0 : Int64} {zs1 : Int64} {h : MH}   (k1 : ¬ (lg_cmp zs0 zs1).toInt = 0 → Wb rod d B_Model_wordOf 208 [u0, u1] [] h Q) (k2 : (lg_cmp zs0 zs1).toInt = 0 → Wb rod d B_Model_wordOf 205 [u0, u1] [] h Q) : Wb rod d B_Model_wordOf 201 [u0, u1] [.inr (.inl zs1), .inr (.inl zs0)] h Q := by
  refine Wb.br (fun _ _ => b_Model_wordOf_201) (fun c => ?_) (fun c => ?_)
  · have c : (!(decide ((lg_cmp zs0 zs1) = 0))) = true := by first | exact c | (simp only [Option.getD_some] at c; exact c)
    (first | exact (k1 (c_net c)) | (simp only [Option.getD_some]; exact (k1 (c_net c))))
  · have c : (!(decide ((lg_cmp zs0 zs1) = 0))) = false := by first | exact c | (simp only [Option.getD_some] at c; exact c)
    (first | exact (k2 (c_nef c)) | (simp only [Option.getD_some]; exact (k2 (c_nef c))))
theorem w_Model_wordOf_205 {rod : Nat → Nat × (Nat → Int32)} {d : Nat} {Q : Option MV → MH → Prop} {u0 : Option MV} {u1 : Option MV} {h : MH}   (q : Q (some (.inl (10 : Int32))) h) : Wb rod d B_Model_wordOf 205 [u0, u1] [] h Q := by
  refine Wb.ret (b_Model_wordOf_205) ?_
  (first | exact q | (simp only [Option.getD_some]; exact q))
theorem w_Model_wordOf_208 {rod : Nat → Nat × (Nat → Int32)} {d : Nat} {Q : Option MV → MH → Prop} {z0 : Int64} {u1 : Option MV} {h : MH}   {Q1 : Option MV → MH → Prop} (c : Wc rod d 199 [.inl (19 : Int32), .inl (5 : Int32), .inl (12 : Int32), .inl (12 : Int32)] h Q1) (k : ∀ r1 h2, Q1 r1 h2 → Wb rod d B_Model_wordOf 219 [some (.inr (.inl z0)), u1] (r1.toList ++ [.inr (.inl z0)]) h2 Q) : Wb rod d B_Model_wordOf 208 [some (.inr (.inl z0)), u1] [] h Q := by
  refine Wb.call (fun _ _ _ _ => b_Model_wordOf_208) (Q1 := Q1) ?_ ?_
  · (first | exact c | (simp only [Option.getD_some]; exact c))
  · (first | exact k | (simp only [Option.getD_some]; exact k))
theorem w_Model_wordOf_219 {rod : Nat → Nat × (Nat → Int32)} {d : Nat} {Q : Option MV → MH → Prop} {u0 : Option MV} {u1 : Option MV} {zs0 : Int64} {zs1 : Int64} {h : MH}   (k1 : ¬ (lg_cmp zs0 zs1).toInt = 0 → Wb rod d B_Model_wordOf 226 [u0, u1] [] h Q) (k2 : (lg_cmp zs0 zs1).toInt = 0 → Wb rod d B_Model_wordOf 223 [u0, u1] [] h Q) : Wb rod d B_Model_wordOf 219 [u0, u1] [.inr (.inl zs1), .inr (.inl zs0)] h Q := by
  refine Wb.br (fun _ _ => b_Model_wordOf_219) (fun c => ?_) (fun c => ?_)
  · have c : (!(decide ((lg_cmp zs0 zs1) = 0))) = true := by first | exact c | (simp only [Option.getD_some] at c; exact c)
    (first | exact (k1 (c_net c)) | (simp only [Option.getD_some]; exact (k1 (c_net c))))
  · have c : (!(decide ((lg_cmp zs0 zs1) = 0))) = false := by first | exact c | (simp only [Option.getD_some] at c; exact c)
    (first | exact (k2 (c_nef c)) | (simp only [Option.getD_some]; exact (k2 (c_nef c))))
theorem w_Model_wordOf_223 {rod : Nat → Nat × (Nat → Int32)} {d : Nat} {Q : Option MV → MH → Prop} {u0 : Option MV} {u1 : Option MV} {h : MH}   (q : Q (some (.inl (11 : Int32))) h) : Wb rod d B_Model_wordOf 223 [u0, u1] [] h Q := by
  refine Wb.ret (b_Model_wordOf_223) ?_
  (first | exact q | (simp only [Option.getD_some]; exact q))
theorem w_Model_wordOf_226 {rod : Nat → Nat × (Nat → Int32)} {d : Nat} {Q : Option MV → MH → Prop} {z0 : Int64} {u1 : Option MV} {h : MH}   {Q1 : Option MV → MH → Prop} (c : Wc rod d 199 [.inl (0 : Int32), .inl (19 : Int32), .inl (9 : Int32), .inl (14 : Int32)] h Q1) (k : ∀ r1 h2, Q1 r1 h2 → Wb rod d B_Model_wordOf 237 [some (.inr (.inl z0)), u1] (r1.toList ++ [.inr (.inl z0)]) h2 Q) : Wb rod d B_Model_wordOf 226 [some (.inr (.inl z0)), u1] [] h Q := by
  refine Wb.call (fun _ _ _ _ => b_Model_wordOf_226) (Q1 := Q1) ?_ ?_
  · (first | exact c | (simp only [Option.getD_some]; exact c))
  · (first | exact k | (simp only [Option.getD_some]; exact k))
theorem w_Model_wordOf_237 {rod : Nat → Nat × (Nat → Int32)} {d : Nat} {Q : Option MV → MH → Prop} {u0 : Option MV} {u1 : Option MV} {zs0 : Int64} {zs1 : Int64} {h : MH}   (k1 : ¬ (lg_cmp zs0 zs1).toInt = 0 → Wb rod d B_Model_wordOf 244 [u0, u1] [] h Q) (k2 : (lg_cmp zs0 zs1).toInt = 0 → Wb rod d B_Model_wordOf 241 [u0, u1] [] h Q) : Wb rod d B_Model_wordOf 237 [u0, u1] [.inr (.inl zs1), .inr (.inl zs0)] h Q := by
  refine Wb.br (fun _ _ => b_Model_wordOf_237) (fun c => ?_) (fun c => ?_)
  · have c : (!(decide ((lg_cmp zs0 zs1) = 0))) = true := by first | exact c | (simp only [Option.getD_some] at c; exact c)
    (first | exact (k1 (c_net c)) | (simp only [Option.getD_some]; exact (k1 (c_net c))))
  · have c : (!(decide ((lg_cmp zs0 zs1) = 0))) = false := by first | exact c | (simp only [Option.getD_some] at c; exact c)
    (first | exact (k2 (c_nef c)) | (simp only [Option.getD_some]; exact (k2 (c_nef c))))
theorem w_Model_wordOf_241 {rod : Nat → Nat × (Nat → Int32)} {d : Nat} {Q : Option MV → MH → Prop} {u0 : Option MV} {u1 : Option MV} {h : MH}   (q : Q (some (.inl (12 : Int32))) h) : Wb rod d B_Model_wordOf 241 [u0, u1] [] h Q := by
  refine Wb.ret (b_Model_wordOf_241) ?_
  (first | exact q | (simp only [Option.getD_some]; exact q))
theorem w_Model_wordOf_244 {rod : Nat → Nat × (Nat → Int32)} {d : Nat} {Q : Option MV → MH → Prop} {z0 : Int64} {u1 : Option MV} {h : MH}   {Q1 : Option MV → MH → Prop} (c : Wc rod d 199 [.inl (0 : Int32), .inl (0 : Int32), .inl (7 : Int32), .inl (15 : Int32)] h Q1) (k : ∀ r1 h2, Q1 r1 h2 → Wb rod d B_Model_wordOf 254 [some (.inr (.inl z0)), u1] (r1.toList ++ [.inr (.inl z0)]) h2 Q) : Wb rod d B_Model_wordOf 244 [some (.inr (.inl z0)), u1] [] h Q := by
  refine Wb.call (fun _ _ _ _ => b_Model_wordOf_244) (Q1 := Q1) ?_ ?_
  · (first | exact c | (simp only [Option.getD_some]; exact c))
  · (first | exact k | (simp only [Option.getD_some]; exact k))
theorem w_Model_wordOf_254 {rod : Nat → Nat × (Nat → Int32)} {d : Nat} {Q : Option MV → MH → Prop} {u0 : Option MV} {u1 : Option MV} {zs0 : Int64} {zs1 : Int64} {h : MH}   (k1 : ¬ (lg_cmp zs0 zs1).toInt = 0 → Wb rod d B_Model_wordOf 261 [u0, u1] [] h Q) (k2 : (lg_cmp zs0 zs1).toInt = 0 → Wb rod d B_Model_wordOf 258 [u0, u1] [] h Q) : Wb rod d B_Model_wordOf 254 [u0, u1] [.inr (.inl zs1), .inr (.inl zs0)] h Q := by
  refine Wb.br (fun _ _ => b_Model_wordOf_254) (fun c => ?_) (fun c => ?_)
  · have c : (!(decide ((lg_cmp zs0 zs1) = 0))) = true := by first | exact c | (simp only [Option.getD_some] at c; exact c)
    (first | exact (k1 (c_net c)) | (simp only [Option.getD_some]; exact (k1 (c_net c))))
  · have c : (!(decide ((lg_cmp zs0 zs1) = 0))) = false := by first | exact c | (simp only [Option.getD_some] at c; exact c)
    (first | exact (k2 (c_nef c)) | (simp only [Option.getD_some]; exact (k2 (c_nef c))))
theorem w_Model_wordOf_258 {rod : Nat → Nat × (Nat → Int32)} {d : Nat} {Q : Option MV → MH → Prop} {u0 : Option MV} {u1 : Option MV} {h : MH}   (q : Q (some (.inl (13 : Int32))) h) : Wb rod d B_Model_wordOf 258 [u0, u1] [] h Q := by
  refine Wb.ret (b_Model_wordOf_258) ?_
  (first | exact q | (simp only [Option.getD_some]; exact q))
theorem w_Model_wordOf_261 {rod : Nat → Nat × (Nat → Int32)} {d : Nat} {Q : Option MV → MH → Prop} {z0 : Int64} {u1 : Option MV} {h : MH}   {Q1 : Option MV → MH → Prop} (c : Wc rod d 199 [.inl (15 : Int32), .inl (16 : Int32), .inl (5 : Int32), .inl (14 : Int32)] h Q1) (k : ∀ r1 h2, Q1 r1 h2 → Wb rod d B_Model_wordOf 272 [some (.inr (.inl z0)), u1] (r1.toList ++ [.inr (.inl z0)]) h2 Q) : Wb rod d B_Model_wordOf 261 [some (.inr (.inl z0)), u1] [] h Q := by
  refine Wb.call (fun _ _ _ _ => b_Model_wordOf_261) (Q1 := Q1) ?_ ?_
  · (first | exact c | (simp only [Option.getD_some]; exact c))
  · (first | exact k | (simp only [Option.getD_some]; exact k))
theorem w_Model_wordOf_272 {rod : Nat → Nat × (Nat → Int32)} {d : Nat} {Q : Option MV → MH → Prop} {u0 : Option MV} {u1 : Option MV} {zs0 : Int64} {zs1 : Int64} {h : MH}   (k1 : ¬ (lg_cmp zs0 zs1).toInt = 0 → Wb rod d B_Model_wordOf 279 [u0, u1] [] h Q) (k2 : (lg_cmp zs0 zs1).toInt = 0 → Wb rod d B_Model_wordOf 276 [u0, u1] [] h Q) : Wb rod d B_Model_wordOf 272 [u0, u1] [.inr (.inl zs1), .inr (.inl zs0)] h Q := by
  refine Wb.br (fun _ _ => b_Model_wordOf_272) (fun c => ?_) (fun c => ?_)
  · have c : (!(decide ((lg_cmp zs0 zs1) = 0))) = true := by first | exact c | (simp only [Option.getD_some] at c; exact c)
    (first | exact (k1 (c_net c)) | (simp only [Option.getD_some]; exact (k1 (c_net c))))
  · have c : (!(decide ((lg_cmp zs0 zs1) = 0))) = false := by first | exact c | (simp only [Option.getD_some] at c; exact c)
    (first | exact (k2 (c_nef c)) | (simp only [Option.getD_some]; exact (k2 (c_nef c))))
theorem w_Model_wordOf_276 {rod : Nat → Nat × (Nat → Int32)} {d : Nat} {Q : Option MV → MH → Prop} {u0 : Option MV} {u1 : Option MV} {h : MH}   (q : Q (some (.inl (14 : Int32))) h) : Wb rod d B_Model_wordOf 276 [u0, u1] [] h Q := by
  refine Wb.ret (b_Model_wordOf_276) ?_
  (first | exact q | (simp only [Option.getD_some]; exact q))
theorem w_Model_wordOf_279 {rod : Nat → Nat × (Nat → Int32)} {d : Nat} {Q : Option MV → MH → Prop} {z0 : Int64} {u1 : Option MV} {h : MH}   {Q1 : Option MV → MH → Prop} (c : Wc rod d 200 [.inl (0 : Int32), .inl (0 : Int32), .inl (0 : Int32), .inl (4 : Int32), .inl (15 : Int32), .inl (21 : Int32), .inl (2 : Int32), .inl (20 : Int32)] h Q1) (k : ∀ r1 h2, Q1 r1 h2 → Wb rod d B_Model_wordOf 294 [some (.inr (.inl z0)), u1] (r1.toList ++ [.inr (.inl z0)]) h2 Q) : Wb rod d B_Model_wordOf 279 [some (.inr (.inl z0)), u1] [] h Q := by
  refine Wb.call (fun _ _ _ _ => b_Model_wordOf_279) (Q1 := Q1) ?_ ?_
  · (first | exact c | (simp only [Option.getD_some]; exact c))
  · (first | exact k | (simp only [Option.getD_some]; exact k))
theorem w_Model_wordOf_294 {rod : Nat → Nat × (Nat → Int32)} {d : Nat} {Q : Option MV → MH → Prop} {u0 : Option MV} {u1 : Option MV} {zs0 : Int64} {zs1 : Int64} {h : MH}   (k1 : ¬ (lg_cmp zs0 zs1).toInt = 0 → Wb rod d B_Model_wordOf 301 [u0, u1] [] h Q) (k2 : (lg_cmp zs0 zs1).toInt = 0 → Wb rod d B_Model_wordOf 298 [u0, u1] [] h Q) : Wb rod d B_Model_wordOf 294 [u0, u1] [.inr (.inl zs1), .inr (.inl zs0)] h Q := by
  refine Wb.br (fun _ _ => b_Model_wordOf_294) (fun c => ?_) (fun c => ?_)
  · have c : (!(decide ((lg_cmp zs0 zs1) = 0))) = true := by first | exact c | (simp only [Option.getD_some] at c; exact c)
    (first | exact (k1 (c_net c)) | (simp only [Option.getD_some]; exact (k1 (c_net c))))
  · have c : (!(decide ((lg_cmp zs0 zs1) = 0))) = false := by first | exact c | (simp only [Option.getD_some] at c; exact c)
    (first | exact (k2 (c_nef c)) | (simp only [Option.getD_some]; exact (k2 (c_nef c))))
theorem w_Model_wordOf_298 {rod : Nat → Nat × (Nat → Int32)} {d : Nat} {Q : Option MV → MH → Prop} {u0 : Option MV} {u1 : Option MV} {h : MH}   (q : Q (some (.inl (15 : Int32))) h) : Wb rod d B_Model_wordOf 298 [u0, u1] [] h Q := by
  refine Wb.ret (b_Model_wordOf_298) ?_
  (first | exact q | (simp only [Option.getD_some]; exact q))
theorem w_Model_wordOf_301 {rod : Nat → Nat × (Nat → Int32)} {d : Nat} {Q : Option MV → MH → Prop} {z0 : Int64} {u1 : Option MV} {h : MH}   {Q1 : Option MV → MH → Prop} (c : Wc rod d 200 [.inl (0 : Int32), .inl (10 : Int32), .inl (21 : Int32), .inl (2 : Int32), .inl (9 : Int32), .inl (12 : Int32), .inl (5 : Int32), .inl (5 : Int32)] h Q1) (k : ∀ r1 h2, Q1 r1 h2 → Wb rod d B_Model_wordOf 317 [some (.inr (.inl z0)), u1] (r1.toList ++ [.inr (.inl z0)]) h2 Q) : Wb rod d B_Model_wordOf 301 [some (.inr (.inl z0)), u1] [] h Q := by
  refine Wb.call (fun _ _ _ _ => b_Model_wordOf_301) (Q1 := Q1) ?_ ?_
  · (first | exact c | (simp only [Option.getD_some]; exact c))
  · (first | exact k | (simp only [Option.getD_some]; exact k))
theorem w_Model_wordOf_317 {rod : Nat → Nat × (Nat → Int32)} {d : Nat} {Q : Option MV → MH → Prop} {u0 : Option MV} {u1 : Option MV} {zs0 : Int64} {zs1 : Int64} {h : MH}   (k1 : ¬ (lg_cmp zs0 zs1).toInt = 0 → Wb rod d B_Model_wordOf 324 [u0, u1] [] h Q) (k2 : (lg_cmp zs0 zs1).toInt = 0 → Wb rod d B_Model_wordOf 321 [u0, u1] [] h Q) : Wb rod d B_Model_wordOf 317 [u0, u1] [.inr (.inl zs1), .inr (.inl zs0)] h Q := by
  refine Wb.br (fun _ _ => b_Model_wordOf_317) (fun c => ?_) (fun c => ?_)
  · have c : (!(decide ((lg_cmp zs0 zs1) = 0))) = true := by first | exact c | (simp only [Option.getD_some] at c; exact c)
    (first | exact (k1 (c_net c)) | (simp only [Option.getD_some]; exact (k1 (c_net c))))
  · have c : (!(decide ((lg_cmp zs0 zs1) = 0))) = false := by first | exact c | (simp only [Option.getD_some] at c; exact c)
    (first | exact (k2 (c_nef c)) | (simp only [Option.getD_some]; exact (k2 (c_nef c))))
theorem w_Model_wordOf_321 {rod : Nat → Nat × (Nat → Int32)} {d : Nat} {Q : Option MV → MH → Prop} {u0 : Option MV} {u1 : Option MV} {h : MH}   (q : Q (some (.inl (16 : Int32))) h) : Wb rod d B_Model_wordOf 321 [u0, u1] [] h Q := by
  refine Wb.ret (b_Model_wordOf_321) ?_
  (first | exact q | (simp only [Option.getD_some]; exact q))
theorem w_Model_wordOf_324 {rod : Nat → Nat × (Nat → Int32)} {d : Nat} {Q : Option MV → MH → Prop} {z0 : Int64} {u1 : Option MV} {h : MH}   {Q1 : Option MV → MH → Prop} (c : Wc rod d 199 [.inl (0 : Int32), .inl (0 : Int32), .inl (9 : Int32), .inl (14 : Int32)] h Q1) (k : ∀ r1 h2, Q1 r1 h2 → Wb rod d B_Model_wordOf 334 [some (.inr (.inl z0)), u1] (r1.toList ++ [.inr (.inl z0)]) h2 Q) : Wb rod d B_Model_wordOf 324 [some (.inr (.inl z0)), u1] [] h Q := by
  refine Wb.call (fun _ _ _ _ => b_Model_wordOf_324) (Q1 := Q1) ?_ ?_
  · (first | exact c | (simp only [Option.getD_some]; exact c))
  · (first | exact k | (simp only [Option.getD_some]; exact k))
theorem w_Model_wordOf_334 {rod : Nat → Nat × (Nat → Int32)} {d : Nat} {Q : Option MV → MH → Prop} {u0 : Option MV} {u1 : Option MV} {zs0 : Int64} {zs1 : Int64} {h : MH}   (k1 : ¬ (lg_cmp zs0 zs1).toInt = 0 → Wb rod d B_Model_wordOf 341 [u0, u1] [] h Q) (k2 : (lg_cmp zs0 zs1).toInt = 0 → Wb rod d B_Model_wordOf 338 [u0, u1] [] h Q) : Wb rod d B_Model_wordOf 334 [u0, u1] [.inr (.inl zs1), .inr (.inl zs0)] h Q := by
  refine Wb.br (fun _ _ => b_Model_wordOf_334) (fun c => ?_) (fun c => ?_)
  · have c : (!(decide ((lg_cmp zs0 zs1) = 0))) = true := by first | exact c | (simp only [Option.getD_some] at c; exact c)
    (first | exact (k1 (c_net c)) | (simp only [Option.getD_some]; exact (k1 (c_net c))))
  · have c : (!(decide ((lg_cmp zs0 zs1) = 0))) = false := by first | exact c | (simp only [Option.getD_some] at c; exact c)
    (first | exact (k2 (c_nef c)) | (simp only [Option.getD_some]; exact (k2 (c_nef c))))
theorem w_Model_wordOf_338 {rod : Nat → Nat × (Nat → Int32)} {d : Nat} {Q : Option MV → MH → Prop} {u0 : Option MV} {u1 : Option MV} {h : MH}   (q : Q (some (.inl (17 : Int32))) h) : Wb rod d B_Model_wordOf 338 [u0, u1] [] h Q := by
  refine Wb.ret (b_Model_wordOf_338) ?_
  (first | exact q | (simp only [Option.getD_some]; exact q))
theorem w_Model_wordOf_341 {rod : Nat → Nat × (Nat → Int32)} {d : Nat} {Q : Option MV → MH → Prop} {z0 : Int64} {u1 : Option MV} {h : MH}   {Q1 : Option MV → MH → Prop} (c : Wc rod d 199 [.inl (0 : Int32), .inl (15 : Int32), .inl (21 : Int32), .inl (20 : Int32)] h Q1) (k : ∀ r1 h2, Q1 r1 h2 → Wb rod d B_Model_wordOf 352 [some (.inr (.inl z0)), u1] (r1.toList ++ [.inr (.inl z0)]) h2 Q) : Wb rod d B_Model_wordOf 341 [some (.inr (.inl z0)), u1] [] h Q := by
  refine Wb.call (fun _ _ _ _ => b_Model_wordOf_341) (Q1 := Q1) ?_ ?_
  · (first | exact c | (simp only [Option.getD_some]; exact c))
  · (first | exact k | (simp only [Option.getD_some]; exact k))
theorem w_Model_wordOf_352 {rod : Nat → Nat × (Nat → Int32)} {d : Nat} {Q : Option MV → MH → Prop} {u0 : Option MV} {u1 : Option MV} {zs0 : Int64} {zs1 : Int64} {h : MH}   (k1 : ¬ (lg_cmp zs0 zs1).toInt = 0 → Wb rod d B_Model_wordOf 359 [u0, u1] [] h Q) (k2 : (lg_cmp zs0 zs1).toInt = 0 → Wb rod d B_Model_wordOf 356 [u0, u1] [] h Q) : Wb rod d B_Model_wordOf 352 [u0, u1] [.inr (.inl zs1), .inr (.inl zs0)] h Q := by
  refine Wb.br (fun _ _ => b_Model_wordOf_352) (fun c => ?_) (fun c => ?_)
  · have c : (!(decide ((lg_cmp zs0 zs1) = 0))) = true := by first | exact c | (simp only [Option.getD_some] at c; exact c)
    (first | exact (k1 (c_net c)) | (simp only [Option.getD_some]; exact (k1 (c_net c))))
  · have c : (!(decide ((lg_cmp zs0 zs1) = 0))) = false := by first | exact c | (simp only [Option.getD_some] at c; exact c)
    (first | exact (k2 (c_nef c)) | (simp only [Option.getD_some]; exact (k2 (c_nef c))))
theorem w_Model_wordOf_356 {rod : Nat → Nat × (Nat → Int32)} {d : Nat} {Q : Option MV → MH → Prop} {u0 : Option MV} {u1 : Option MV} {h : MH}   (q : Q (some (.inl (18 : Int32))) h) : Wb rod d B_Model_wordOf 356 [u0, u1] [] h Q := by
  refine Wb.ret (b_Model_wordOf_356) ?_
  (first | exact q | (simp only [Option.getD_some]; exact q))
theorem w_Model_wordOf_359 {rod : Nat → Nat × (Nat → Int32)} {d : Nat} {Q : Option MV → MH → Prop} {z0 : Int64} {u1 : Option MV} {h : MH}   {Q1 : Option MV → MH → Prop} (c : Wc rod d 200 [.inl (0 : Int32), .inl (0 : Int32), .inl (0 : Int32), .inl (3 : Int32), .inl (15 : Int32), .inl (21 : Int32), .inl (14 : Int32), .inl (20 : Int32)] h Q1) (k : ∀ r1 h2, Q1 r1 h2 → Wb rod d B_Model_wordOf 375 [some (.inr (.inl z0)), u1] (r1.toList ++ [.inr (.inl z0)]) h2 Q) : Wb rod d B_Model_wordOf 359 [some (.inr (.inl z0)), u1] [] h Q := by
  refine Wb.call (fun _ _ _ _ => b_Model_wordOf_359) (Q1 := Q1) ?_ ?_
  · (first | exact c | (simp only [Option.getD_some]; exact c))
  · (first | exact k | (simp only [Option.getD_some]; exact k))
theorem w_Model_wordOf_375 {rod : Nat → Nat × (Nat → Int32)} {d : Nat} {Q : Option MV → MH → Prop} {u0 : Option MV} {u1 : Option MV} {zs0 : Int64} {zs1 : Int64} {h : MH}   (k1 : ¬ (lg_cmp zs0 zs1).toInt = 0 → Wb rod d B_Model_wordOf 382 [u0, u1] [] h Q) (k2 : (lg_cmp zs0 zs1).toInt = 0 → Wb rod d B_Model_wordOf 379 [u0, u1] [] h Q) : Wb rod d B_Model_wordOf 375 [u0, u1] [.inr (.inl zs1), .inr (.inl zs0)] h Q := by
  refine Wb.br (fun _ _ => b_Model_wordOf_375) (fun c => ?_) (fun c => ?_)
  · have c : (!(decide ((lg_cmp zs0 zs1) = 0))) = true := by first | exact c | (simp only [Option.getD_some] at c; exact c)
    (first | exact (k1 (c_net c)) | (simp only [Option.getD_some]; exact (k1 (c_net c))))
  · have c : (!(decide ((lg_cmp zs0 zs1) = 0))) = false := by first | exact c | (simp only [Option.getD_some] at c; exact c)
    (first | exact (k2 (c_nef c)) | (simp only [Option.getD_some]; exact (k2 (c_nef c))))
theorem w_Model_wordOf_379 {rod : Nat → Nat × (Nat → Int32)} {d : Nat} {Q : Option MV → MH → Prop} {u0 : Option MV} {u1 : Option MV} {h : MH}   (q : Q (some (.inl (19 : Int32))) h) : Wb rod d B_Model_wordOf 379 [u0, u1] [] h Q := by
  refine Wb.ret (b_Model_wordOf_379) ?_
  (first | exact q | (simp only [Option.getD_some]; exact q))
theorem w_Model_wordOf_382 {rod : Nat → Nat × (Nat → Int32)} {d : Nat} {Q : Option MV → MH → Prop} {z0 : Int64} {u1 : Option MV} {h : MH}   {Q1 : Option MV → MH → Prop} (c : Wc rod d 199 [.inl (0 : Int32), .inl (11 : Int32), .inl (5 : Int32), .inl (25 : Int32)] h Q1) (k : ∀ r1 h2, Q1 r1 h2 → Wb rod d B_Model_wordOf 392 [some (.inr (.inl z0)), u1] (r1.toList ++ [.inr (.inl z0)]) h2 Q) : Wb rod d B_Model_wordOf 382 [some (.inr (.inl z0)), u1] [] h Q := by
  refine Wb.call (fun _ _ _ _ => b_Model_wordOf_382) (Q1 := Q1) ?_ ?_
  · (first | exact c | (simp only [Option.getD_some]; exact c))
  · (first | exact k | (simp only [Option.getD_some]; exact k))
theorem w_Model_wordOf_392 {rod : Nat → Nat × (Nat → Int32)} {d : Nat} {Q : Option MV → MH → Prop} {u0 : Option MV} {u1 : Option MV} {zs0 : Int64} {zs1 : Int64} {h : MH}   (k1 : ¬ (lg_cmp zs0 zs1).toInt = 0 → Wb rod d B_Model_wordOf 399 [u0, u1] [] h Q) (k2 : (lg_cmp zs0 zs1).toInt = 0 → Wb rod d B_Model_wordOf 396 [u0, u1] [] h Q) : Wb rod d B_Model_wordOf 392 [u0, u1] [.inr (.inl zs1), .inr (.inl zs0)] h Q := by
  refine Wb.br (fun _ _ => b_Model_wordOf_392) (fun c => ?_) (fun c => ?_)
  · have c : (!(decide ((lg_cmp zs0 zs1) = 0))) = true := by first | exact c | (simp only [Option.getD_some] at c; exact c)
    (first | exact (k1 (c_net c)) | (simp only [Option.getD_some]; exact (k1 (c_net c))))
  · have c : (!(decide ((lg_cmp zs0 zs1) = 0))) = false := by first | exact c | (simp only [Option.getD_some] at c; exact c)
    (first | exact (k2 (c_nef c)) | (simp only [Option.getD_some]; exact (k2 (c_nef c))))
theorem w_Model_wordOf_396 {rod : Nat → Nat × (Nat → Int32)} {d : Nat} {Q : Option MV → MH → Prop} {u0 : Option MV} {u1 : Option MV} {h : MH}   (q : Q (some (.inl (20 : Int32))) h) : Wb rod d B_Model_wordOf 396 [u0, u1] [] h Q := by
  refine Wb.ret (b_Model_wordOf_396) ?_
  (first | exact q | (simp only [Option.getD_some]; exact q))
theorem w_Model_wordOf_399 {rod : Nat → Nat × (Nat → Int32)} {d : Nat} {Q : Option MV → MH → Prop} {z0 : Int64} {u1 : Option MV} {h : MH}   {Q1 : Option MV → MH → Prop} (c : Wc rod d 200 [.inl (0 : Int32), .inl (16 : Int32), .inl (1 : Int32), .inl (18 : Int32), .inl (20 : Int32), .inl (9 : Int32), .inl (5 : Int32), .inl (19 : Int32)] h Q1) (k : ∀ r1 h2, Q1 r1 h2 → Wb rod d B_Model_wordOf 416 [some (.inr (.inl z0)), u1] (r1.toList ++ [.inr (.inl z0)]) h2 Q) : Wb rod d B_Model_wordOf 399 [some (.inr (.inl z0)), u1] [] h Q := by
  refine Wb.call (fun _ _ _ _ => b_Model_wordOf_399) (Q1 := Q1) ?_ ?_
  · (first | exact c | (simp only [Option.getD_some]; exact c))
  · (first | exact k | (simp only [Option.getD_some]; exact k))
theorem w_Model_wordOf_416 {rod : Nat → Nat × (Nat → Int32)} {d : Nat} {Q : Option MV → MH → Prop} {u0 : Option MV} {u1 : Option MV} {zs0 : Int64} {zs1 : Int64} {h : MH}   (k1 : ¬ (lg_cmp zs0 zs1).toInt = 0 → Wb rod d B_Model_wordOf 423 [u0, u1] [] h Q) (k2 : (lg_cmp zs0 zs1).toInt = 0 → Wb rod d B_Model_wordOf 420 [u0, u1] [] h Q) : Wb rod d B_Model_wordOf 416 [u0, u1] [.inr (.inl zs1), .inr (.inl zs0)] h Q := by
  refine Wb.br (fun _ _ => b_Model_wordOf_416) (fun c => ?_) (fun c => ?_)
  · have c : (!(decide ((lg_cmp zs0 zs1) = 0))) = true := by first | exact c | (simp only [Option.getD_some] at c; exact c)
    (first | exact (k1 (c_net c)) | (simp only [Option.getD_some]; exact (k1 (c_net c))))
  · have c : (!(decide ((lg_cmp zs0 zs1) = 0))) = false := by first | exact c | (simp only [Option.getD_some] at c; exact c)
    (first | exact (k2 (c_nef c)) | (simp only [Option.getD_some]; exact (k2 (c_nef c))))
theorem w_Model_wordOf_420 {rod : Nat → Nat × (Nat → Int32)} {d : Nat} {Q : Option MV → MH → Prop} {u0 : Option MV} {u1 : Option MV} {h : MH}   (q : Q (some (.inl (21 : Int32))) h) : Wb rod d B_Model_wordOf 420 [u0, u1] [] h Q := by
  refine Wb.ret (b_Model_wordOf_420) ?_
  (first | exact q | (simp only [Option.getD_some]; exact q))
theorem w_Model_wordOf_423 {rod : Nat → Nat × (Nat → Int32)} {d : Nat} {Q : Option MV → MH → Prop} {z0 : Int64} {u1 : Option MV} {h : MH}   {Q1 : Option MV → MH → Prop} (c : Wc rod d 200 [.inl (0 : Int32), .inl (0 : Int32), .inl (0 : Int32), .inl (23 : Int32), .inl (15 : Int32), .inl (18 : Int32), .inl (20 : Int32), .inl (8 : Int32)] h Q1) (k : ∀ r1 h2, Q1 r1 h2 → Wb rod d B_Model_wordOf 440 [some (.inr (.inl z0)), u1] (r1.toList ++ [.inr (.inl z0)]) h2 Q) : Wb rod d B_Model_wordOf 423 [some (.inr (.inl z0)), u1] [] h Q := by
  refine Wb.call (fun _ _ _ _ => b_Model_wordOf_423) (Q1 := Q1) ?_ ?_
  · (first | exact c | (simp only [Option.getD_some]; exact c))
  · (first | exact k | (simp only [Option.getD_some]; exact k))
theorem w_Model_wordOf_440 {rod : Nat → Nat × (Nat → Int32)} {d : Nat} {Q : Option MV → MH → Prop} {u0 : Option MV} {u1 : Option MV} {zs0 : Int64} {zs1 : Int64} {h : MH}   (k1 : ¬ (lg_cmp zs0 zs1).toInt = 0 → Wb rod d B_Model_wordOf 449 [u0, u1] [] h Q) (k2 : (lg_cmp zs0 zs1).toInt = 0 → Wb rod d B_Model_wordOf 444 [u0, u1] [] h Q) : Wb rod d B_Model_wordOf 440 [u0, u1] [.inr (.inl zs1), .inr (.inl zs0)] h Q := by
  refine Wb.br (fun _ _ => b_Model_wordOf_440) (fun c => ?_) (fun c => ?_)
  · have c : (!(decide ((lg_cmp zs0 zs1) = 0))) = true := by first | exact c | (simp only [Option.getD_some] at c; exact c)
    (first | exact (k1 (c_net c)) | (simp only [Option.getD_some]; exact (k1 (c_net c))))
  · have c : (!(decide ((lg_cmp zs0 zs1) = 0))) = false := by first | exact c | (simp only [Option.getD_some] at c; exact c)
    (first | exact (k2 (c_nef c)) | (simp only [Option.getD_some]; exact (k2 (c_nef c))))
theorem w_Model_wordOf_444 {rod : Nat → Nat × (Nat → Int32)} {d : Nat} {Q : Option MV → MH → Prop} {u0 : Option MV} {u1 : Option MV} {h : MH}   (k : Wb rod d B_Model_wordOf 451 [u0, u1] [.inl (22 : Int32)] h Q) : Wb rod d B_Model_wordOf 444 [u0, u1] [] h Q := by
  refine Wb.go (fun r hr q => b_Model_wordOf_444 ?_) k
  (first | exact q | (simp only [Option.getD_some]; exact q))
theorem w_Model_wordOf_449 {rod : Nat → Nat × (Nat → Int32)} {d : Nat} {Q : Option MV → MH → Prop} {u0 : Option MV} {u1 : Option MV} {h : MH}   (k : Wb rod d B_Model_wordOf 451 [u0, u1] [.inl (99 : Int32)] h Q) : Wb rod d B_Model_wordOf 449 [u0, u1] [] h Q := by
  refine Wb.go (fun r hr q => b_Model_wordOf_449 ?_) k
  (first | exact q | (simp only [Option.getD_some]; exact q))
theorem w_Model_wordOf_451 {rod : Nat → Nat × (Nat → Int32)} {d : Nat} {Q : Option MV → MH → Prop} {u0 : Option MV} {u1 : Option MV} {xs0 : Int32} {h : MH}   (q : Q (some (.inl xs0)) h) : Wb rod d B_Model_wordOf 451 [u0, u1] [.inl xs0] h Q := by
  refine Wb.ret (b_Model_wordOf_451) ?_
  (first | exact q | (simp only [Option.getD_some]; exact q))
