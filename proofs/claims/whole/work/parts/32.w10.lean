/-! RULES OF BLOCKS over postconditions, references resolved (10) -/
theorem n_Model_jubilee {rod : Nat → Nat × (Nat → Int32)} {d : Nat} {Q : Option MV → MH → Prop}  {h : MH} (k : Wb rod d B_Model_jubilee 0 [some (.inr (.inr (.inl (some 84)))), none] [] h Q) : Wc rod (d + 1) 239 [.inr (.inr (.inl (some 84)))] h Q := Wc.en (fun _ _ => e_Model_jubilee) k
theorem w_Model_jubilee_0 {rod : Nat → Nat × (Nat → Int32)} {d : Nat} {Q : Option MV → MH → Prop} {u0 : Option MV} {u1 : Option MV} {h : MH}  (g0 : okl [u0, u1] 1 = true) (k : Wb rod d B_Model_jubilee 2 [u0, some (.inl (0 : Int32))] [] h Q) : Wb rod d B_Model_jubilee 0 [u0, u1] [] h Q := by
  refine Wb.go (fun r hr q => b_Model_jubilee_0 g0 ?_) k
  (first | exact q | (simp only [Option.getD_some]; exact q))
theorem w_Model_jubilee_2 {rod : Nat → Nat × (Nat → Int32)} {d : Nat} {Q : Option MV → MH → Prop} {x1 : Int32} {h : MH} (L : Lay h.2)  (k1 : (h.1 84 14).toInt ≤ x1.toInt → Wb rod d B_Model_jubilee 79 [some (.inr (.inr (.inl (some 84)))), some (.inl x1)] [] h Q) (k2 : ¬ (h.1 84 14).toInt ≤ x1.toInt → Wb rod d B_Model_jubilee 10 [some (.inr (.inr (.inl (some 84)))), some (.inl x1)] [] h Q) : Wb rod d B_Model_jubilee 2 [some (.inr (.inr (.inl (some 84)))), some (.inl x1)] [] h Q := by
  refine Wb.br (fun _ _ => b_Model_jubilee_2 (Lay.o84 L)) (fun c => ?_) (fun c => ?_)
  · have c : (decide ((h.1 84 14) ≤ x1)) = true := by first | exact c | (simp only [Option.getD_some] at c; exact c)
    (first | exact (k1 (c_let c)) | (simp only [Option.getD_some]; exact (k1 (c_let c))))
  · have c : (decide ((h.1 84 14) ≤ x1)) = false := by first | exact c | (simp only [Option.getD_some] at c; exact c)
    (first | exact (k2 (c_lef c)) | (simp only [Option.getD_some]; exact (k2 (c_lef c))))
theorem w_Model_jubilee_10 {rod : Nat → Nat × (Nat → Int32)} {d : Nat} {Q : Option MV → MH → Prop} {x1 : Int32} {h : MH} (L : Lay h.2) (g0 : 0 ≤ x1.toInt ∧ x1.toInt < 8) {Q1 : Option MV → MH → Prop} (c : Wc rod d 237 [.inl ((h.1 88 x1.toNatClampNeg) + (h.1 91 x1.toNatClampNeg)), .inl (99 : Int32)] h Q1) (k : ∀ r1 h2, Q1 r1 h2 → Wb rod d B_Model_jubilee 33 [some (.inr (.inr (.inl (some 84)))), some (.inl x1)] (r1.toList ++ [.inl x1, .inr (.inr (.inl (some 88)))]) h2 Q) : Wb rod d B_Model_jubilee 10 [some (.inr (.inr (.inl (some 84)))), some (.inl x1)] [] h Q := by
  refine Wb.call (fun _ _ _ _ => b_Model_jubilee_10 (Lay.o84 L) (Lay.a84_16 L g0) (Lay.a84_19 L g0)) (Q1 := Q1) ?_ ?_
  · (first | exact c | (simp only [Option.getD_some, (Lay.r84_16 L), (Lay.r84_19 L)]; exact c))
  · (first | exact k | (simp only [Option.getD_some, (Lay.r84_16 L), (Lay.r84_19 L)]; exact k))
theorem w_Model_jubilee_33 {rod : Nat → Nat × (Nat → Int32)} {d : Nat} {Q : Option MV → MH → Prop} {u0 : Option MV} {u1 : Option MV} {cs0 : Nat} {ncs0 : Nat} {xs1 : Int32} {xs2 : Int32} {h : MH} (Scs0 : h.2.2[cs0]? = some (0, ncs0)) (g0 : 0 ≤ xs1.toInt ∧ xs1.toInt < ncs0) (k : Wb rod d B_Model_jubilee 34 [u0, u1] [] (sI h cs0 xs1.toNatClampNeg xs2) Q) : Wb rod d B_Model_jubilee 33 [u0, u1] [.inl xs2, .inl xs1, .inr (.inr (.inl (some cs0)))] h Q := by
  refine Wb.go (fun r hr q => b_Model_jubilee_33 (gA_of Scs0 (inB_of g0.1 g0.2)) ?_) k
  (first | exact q | (simp only [Option.getD_some]; exact q))
theorem w_Model_jubilee_34 {rod : Nat → Nat × (Nat → Int32)} {d : Nat} {Q : Option MV → MH → Prop} {x1 : Int32} {h : MH} (L : Lay h.2) (g0 : 0 ≤ x1.toInt ∧ x1.toInt < 8) (k1 : (h.1 91 x1.toNatClampNeg).toInt ≤ 0 → Wb rod d B_Model_jubilee 63 [some (.inr (.inr (.inl (some 84)))), some (.inl x1)] [.inl (h.1 90 x1.toNatClampNeg), .inl x1, .inr (.inr (.inl (some 90)))] h Q) (k2 : ¬ (h.1 91 x1.toNatClampNeg).toInt ≤ 0 → Wb rod d B_Model_jubilee 50 [some (.inr (.inr (.inl (some 84)))), some (.inl x1)] [.inl (h.1 90 x1.toNatClampNeg), .inl x1, .inr (.inr (.inl (some 90)))] h Q) : Wb rod d B_Model_jubilee 34 [some (.inr (.inr (.inl (some 84)))), some (.inl x1)] [] h Q := by
  refine Wb.br (fun _ _ => b_Model_jubilee_34 (Lay.o84 L) (Lay.a84_18 L g0) (Lay.a84_19 L g0)) (fun c => ?_) (fun c => ?_)
  · have c : (decide ((h.1 91 x1.toNatClampNeg) ≤ 0)) = true := by first | exact c | (simp only [Option.getD_some, (Lay.r84_18 L), (Lay.r84_19 L)] at c; exact c)
    (first | exact (k1 (c_let c)) | (simp only [Option.getD_some, (Lay.r84_18 L), (Lay.r84_19 L)]; exact (k1 (c_let c))))
  · have c : (decide ((h.1 91 x1.toNatClampNeg) ≤ 0)) = false := by first | exact c | (simp only [Option.getD_some, (Lay.r84_18 L), (Lay.r84_19 L)] at c; exact c)
    (first | exact (k2 (c_lef c)) | (simp only [Option.getD_some, (Lay.r84_18 L), (Lay.r84_19 L)]; exact (k2 (c_lef c))))
theorem w_Model_jubilee_50 {rod : Nat → Nat × (Nat → Int32)} {d : Nat} {Q : Option MV → MH → Prop} {x1 : Int32} {cs0 : Nat} {xs1 : Int32} {xs2 : Int32} {h : MH} (L : Lay h.2) (g0 : 0 ≤ x1.toInt ∧ x1.toInt < 8) (k1 : (h.1 90 x1.toNatClampNeg).toInt ≤ 0 → Wb rod d B_Model_jubilee 63 [some (.inr (.inr (.inl (some 84)))), some (.inl x1)] [.inl xs2, .inl xs1, .inr (.inr (.inl (some cs0)))] h Q) (k2 : ¬ (h.1 90 x1.toNatClampNeg).toInt ≤ 0 → Wb rod d B_Model_jubilee 59 [some (.inr (.inr (.inl (some 84)))), some (.inl x1)] [.inl xs2, .inl xs1, .inr (.inr (.inl (some cs0)))] h Q) : Wb rod d B_Model_jubilee 50 [some (.inr (.inr (.inl (some 84)))), some (.inl x1)] [.inl xs2, .inl xs1, .inr (.inr (.inl (some cs0)))] h Q := by
  refine Wb.br (fun _ _ => b_Model_jubilee_50 (Lay.o84 L) (Lay.a84_18 L g0)) (fun c => ?_) (fun c => ?_)
  · have c : (decide ((h.1 90 x1.toNatClampNeg) ≤ 0)) = true := by first | exact c | (simp only [Option.getD_some, (Lay.r84_18 L)] at c; exact c)
    (first | exact (k1 (c_let c)) | (simp only [Option.getD_some, (Lay.r84_18 L)]; exact (k1 (c_let c))))
  · have c : (decide ((h.1 90 x1.toNatClampNeg) ≤ 0)) = false := by first | exact c | (simp only [Option.getD_some, (Lay.r84_18 L)] at c; exact c)
    (first | exact (k2 (c_lef c)) | (simp only [Option.getD_some, (Lay.r84_18 L)]; exact (k2 (c_lef c))))
theorem w_Model_jubilee_59 {rod : Nat → Nat × (Nat → Int32)} {d : Nat} {Q : Option MV → MH → Prop} {u0 : Option MV} {u1 : Option MV} {cs0 : Nat} {xs1 : Int32} {xs2 : Int32} {h : MH}   (k : Wb rod d B_Model_jubilee 64 [u0, u1] [.inl (1 : Int32), .inl xs2, .inl xs1, .inr (.inr (.inl (some cs0)))] h Q) : Wb rod d B_Model_jubilee 59 [u0, u1] [.inl xs2, .inl xs1, .inr (.inr (.inl (some cs0)))] h Q := by
  refine Wb.go (fun r hr q => b_Model_jubilee_59 ?_) k
  (first | exact q | (simp only [Option.getD_some]; exact q))
theorem w_Model_jubilee_63 {rod : Nat → Nat × (Nat → Int32)} {d : Nat} {Q : Option MV → MH → Prop} {u0 : Option MV} {u1 : Option MV} {cs0 : Nat} {xs1 : Int32} {xs2 : Int32} {h : MH}   (k : Wb rod d B_Model_jubilee 64 [u0, u1] [.inl (0 : Int32), .inl xs2, .inl xs1, .inr (.inr (.inl (some cs0)))] h Q) : Wb rod d B_Model_jubilee 63 [u0, u1] [.inl xs2, .inl xs1, .inr (.inr (.inl (some cs0)))] h Q := by
  refine Wb.go (fun r hr q => b_Model_jubilee_63 ?_) k
  (first | exact q | (simp only [Option.getD_some]; exact q))
theorem w_Model_jubilee_64 {rod : Nat → Nat × (Nat → Int32)} {d : Nat} {Q : Option MV → MH → Prop} {u0 : Option MV} {u1 : Option MV} {cs0 : Nat} {ncs0 : Nat} {xs1 : Int32} {xs2 : Int32} {xs3 : Int32} {h : MH} (Scs0 : h.2.2[cs0]? = some (0, ncs0)) (g0 : 0 ≤ xs1.toInt ∧ xs1.toInt < ncs0) (k : Wb rod d B_Model_jubilee 66 [u0, u1] [] (sI h cs0 xs1.toNatClampNeg (xs2 - xs3)) Q) : Wb rod d B_Model_jubilee 64 [u0, u1] [.inl xs3, .inl xs2, .inl xs1, .inr (.inr (.inl (some cs0)))] h Q := by
  refine Wb.go (fun r hr q => b_Model_jubilee_64 (gA_of Scs0 (inB_of g0.1 g0.2)) ?_) k
  (first | exact q | (simp only [Option.getD_some]; exact q))
theorem w_Model_jubilee_66 {rod : Nat → Nat × (Nat → Int32)} {d : Nat} {Q : Option MV → MH → Prop} {x1 : Int32} {h : MH} (L : Lay h.2) (g0 : 0 ≤ x1.toInt ∧ x1.toInt < 8) (k : Wb rod d B_Model_jubilee 73 [some (.inr (.inr (.inl (some 84)))), some (.inl x1)] [] (sI h 91 x1.toNatClampNeg (0 : Int32)) Q) : Wb rod d B_Model_jubilee 66 [some (.inr (.inr (.inl (some 84)))), some (.inl x1)] [] h Q := by
  refine Wb.go (fun r hr q => b_Model_jubilee_66 (Lay.o84 L) (Lay.a84_19 L g0) ?_) k
  (first | exact q | (simp only [Option.getD_some, (Lay.r84_19 L)]; exact q))
theorem w_Model_jubilee_73 {rod : Nat → Nat × (Nat → Int32)} {d : Nat} {Q : Option MV → MH → Prop} {u0 : Option MV} {x1 : Int32} {h : MH}  (g0 : okl [u0, some (.inl x1)] 1 = true) (k : Wb rod d B_Model_jubilee 2 [u0, some (.inl (x1 + 1))] [] h Q) : Wb rod d B_Model_jubilee 73 [u0, some (.inl x1)] [] h Q := by
  refine Wb.go (fun r hr q => b_Model_jubilee_73 g0 ?_) k
  (first | exact q | (simp only [Option.getD_some]; exact q))
theorem w_Model_jubilee_79 {rod : Nat → Nat × (Nat → Int32)} {d : Nat} {Q : Option MV → MH → Prop} {u0 : Option MV} {u1 : Option MV} {h : MH}   (q : Q (none) h) : Wb rod d B_Model_jubilee 79 [u0, u1] [] h Q := by
  refine Wb.ret (b_Model_jubilee_79) ?_
  (first | exact q | (simp only [Option.getD_some]; exact q))
theorem n_Model_state {rod : Nat → Nat × (Nat → Int32)} {d : Nat} {Q : Option MV → MH → Prop} {x1 : Int32} {x2 : Int32} {x3 : Int32} {x4 : Int32} {h : MH} (k : Wb rod d B_Model_state 0 [some (.inr (.inr (.inl (some 84)))), some (.inl x1), some (.inl x2), some (.inl x3), some (.inl x4)] [] h Q) : Wc rod (d + 1) 240 [.inr (.inr (.inl (some 84))), .inl x1, .inl x2, .inl x3, .inl x4] h Q := Wc.en (fun _ _ => e_Model_state) k
theorem w_Model_state_0 {rod : Nat → Nat × (Nat → Int32)} {d : Nat} {Q : Option MV → MH → Prop} {x1 : Int32} {u2 : Option MV} {u3 : Option MV} {u4 : Option MV} {h : MH} (L : Lay h.2)  {Q1 : Option MV → MH → Prop} (c : Wc rod d 219 [.inr (.inr (.inl (some 84))), .inl x1] h Q1) (k : ∀ r1 h2, Q1 r1 h2 → Wb rod d B_Model_state 5 [some (.inr (.inr (.inl (some 84)))), some (.inl x1), u2, u3, u4] (r1.toList ++ []) h2 Q) : Wb rod d B_Model_state 0 [some (.inr (.inr (.inl (some 84)))), some (.inl x1), u2, u3, u4] [] h Q := by
  refine Wb.call (fun _ _ _ _ => b_Model_state_0 (Lay.o84 L)) (Q1 := Q1) ?_ ?_
  · (first | exact c | (simp only [Option.getD_some]; exact c))
  · (first | exact k | (simp only [Option.getD_some]; exact k))
theorem w_Model_state_5 {rod : Nat → Nat × (Nat → Int32)} {d : Nat} {Q : Option MV → MH → Prop} {u0 : Option MV} {u1 : Option MV} {u2 : Option MV} {u3 : Option MV} {u4 : Option MV} {xs0 : Int32} {h : MH}   (k1 : xs0.toInt = 0 → Wb rod d B_Model_state 25 [u0, u1, u2, u3, u4] [] h Q) (k2 : ¬ xs0.toInt = 0 → Wb rod d B_Model_state 8 [u0, u1, u2, u3, u4] [] h Q) : Wb rod d B_Model_state 5 [u0, u1, u2, u3, u4] [.inl xs0] h Q := by
  refine Wb.br (fun _ _ => b_Model_state_5) (fun c => ?_) (fun c => ?_)
  · have c : (decide (xs0 = 0)) = true := by first | exact c | (simp only [Option.getD_some] at c; exact c)
    (first | exact (k1 (c_eqt c)) | (simp only [Option.getD_some]; exact (k1 (c_eqt c))))
  · have c : (decide (xs0 = 0)) = false := by first | exact c | (simp only [Option.getD_some] at c; exact c)
    (first | exact (k2 (c_eqf c)) | (simp only [Option.getD_some]; exact (k2 (c_eqf c))))
theorem w_Model_state_8 {rod : Nat → Nat × (Nat → Int32)} {d : Nat} {Q : Option MV → MH → Prop} {u1 : Option MV} {x2 : Int32} {u3 : Option MV} {u4 : Option MV} {h : MH} (L : Lay h.2)  {Q1 : Option MV → MH → Prop} (c : Wc rod d 230 [.inr (.inr (.inl (some 84))), .inl x2] h Q1) (k : ∀ r1 h2, Q1 r1 h2 → Wb rod d B_Model_state 13 [some (.inr (.inr (.inl (some 84)))), u1, some (.inl x2), u3, u4] (r1.toList ++ []) h2 Q) : Wb rod d B_Model_state 8 [some (.inr (.inr (.inl (some 84)))), u1, some (.inl x2), u3, u4] [] h Q := by
  refine Wb.call (fun _ _ _ _ => b_Model_state_8 (Lay.o84 L)) (Q1 := Q1) ?_ ?_
  · (first | exact c | (simp only [Option.getD_some]; exact c))
  · (first | exact k | (simp only [Option.getD_some]; exact k))
theorem w_Model_state_13 {rod : Nat → Nat × (Nat → Int32)} {d : Nat} {Q : Option MV → MH → Prop} {u0 : Option MV} {u1 : Option MV} {u2 : Option MV} {u3 : Option MV} {u4 : Option MV} {xs0 : Int32} {h : MH}   (k1 : xs0.toInt = 0 → Wb rod d B_Model_state 25 [u0, u1, u2, u3, u4] [] h Q) (k2 : ¬ xs0.toInt = 0 → Wb rod d B_Model_state 16 [u0, u1, u2, u3, u4] [] h Q) : Wb rod d B_Model_state 13 [u0, u1, u2, u3, u4] [.inl xs0] h Q := by
  refine Wb.br (fun _ _ => b_Model_state_13) (fun c => ?_) (fun c => ?_)
  · have c : (decide (xs0 = 0)) = true := by first | exact c | (simp only [Option.getD_some] at c; exact c)
    (first | exact (k1 (c_eqt c)) | (simp only [Option.getD_some]; exact (k1 (c_eqt c))))
  · have c : (decide (xs0 = 0)) = false := by first | exact c | (simp only [Option.getD_some] at c; exact c)
    (first | exact (k2 (c_eqf c)) | (simp only [Option.getD_some]; exact (k2 (c_eqf c))))
theorem w_Model_state_16 {rod : Nat → Nat × (Nat → Int32)} {d : Nat} {Q : Option MV → MH → Prop} {u0 : Option MV} {u1 : Option MV} {u2 : Option MV} {x3 : Int32} {u4 : Option MV} {h : MH}   (k1 : x3.toInt < 0 → Wb rod d B_Model_state 25 [u0, u1, u2, some (.inl x3), u4] [] h Q) (k2 : ¬ x3.toInt < 0 → Wb rod d B_Model_state 20 [u0, u1, u2, some (.inl x3), u4] [] h Q) : Wb rod d B_Model_state 16 [u0, u1, u2, some (.inl x3), u4] [] h Q := by
  refine Wb.br (fun _ _ => b_Model_state_16) (fun c => ?_) (fun c => ?_)
  · have c : (decide (x3 < 0)) = true := by first | exact c | (simp only [Option.getD_some] at c; exact c)
    (first | exact (k1 (c_ltt c)) | (simp only [Option.getD_some]; exact (k1 (c_ltt c))))
  · have c : (decide (x3 < 0)) = false := by first | exact c | (simp only [Option.getD_some] at c; exact c)
    (first | exact (k2 (c_ltf c)) | (simp only [Option.getD_some]; exact (k2 (c_ltf c))))
theorem w_Model_state_20 {rod : Nat → Nat × (Nat → Int32)} {d : Nat} {Q : Option MV → MH → Prop} {u0 : Option MV} {u1 : Option MV} {u2 : Option MV} {u3 : Option MV} {x4 : Int32} {h : MH}   (k1 : 0 ≤ x4.toInt → Wb rod d B_Model_state 29 [u0, u1, u2, u3, some (.inl x4)] [] h Q) (k2 : ¬ 0 ≤ x4.toInt → Wb rod d B_Model_state 25 [u0, u1, u2, u3, some (.inl x4)] [] h Q) : Wb rod d B_Model_state 20 [u0, u1, u2, u3, some (.inl x4)] [] h Q := by
  refine Wb.br (fun _ _ => b_Model_state_20) (fun c => ?_) (fun c => ?_)
  · have c : (decide (0 ≤ x4)) = true := by first | exact c | (simp only [Option.getD_some] at c; exact c)
    (first | exact (k1 (c_let c)) | (simp only [Option.getD_some]; exact (k1 (c_let c))))
  · have c : (decide (0 ≤ x4)) = false := by first | exact c | (simp only [Option.getD_some] at c; exact c)
    (first | exact (k2 (c_lef c)) | (simp only [Option.getD_some]; exact (k2 (c_lef c))))
theorem w_Model_state_25 {rod : Nat → Nat × (Nat → Int32)} {d : Nat} {Q : Option MV → MH → Prop} {u0 : Option MV} {u1 : Option MV} {u2 : Option MV} {u3 : Option MV} {u4 : Option MV} {h : MH}   (q : Q (some (.inl (-1000 : Int32))) h) : Wb rod d B_Model_state 25 [u0, u1, u2, u3, u4] [] h Q := by
  refine Wb.ret (b_Model_state_25) ?_
  (first | exact q | (simp only [Option.getD_some]; exact q))
theorem w_Model_state_29 {rod : Nat → Nat × (Nat → Int32)} {d : Nat} {Q : Option MV → MH → Prop} {u1 : Option MV} {u2 : Option MV} {x3 : Int32} {u4 : Option MV} {h : MH} (L : Lay h.2)  {Q1 : Option MV → MH → Prop} (c : Wc rod d 232 [.inr (.inr (.inl (some 84))), .inl x3] h Q1) (k : ∀ r1 h2, Q1 r1 h2 → Wb rod d B_Model_state 34 [some (.inr (.inr (.inl (some 84)))), u1, u2, some (.inl x3), u4] (r1.toList ++ []) h2 Q) : Wb rod d B_Model_state 29 [some (.inr (.inr (.inl (some 84)))), u1, u2, some (.inl x3), u4] [] h Q := by
  refine Wb.call (fun _ _ _ _ => b_Model_state_29 (Lay.o84 L)) (Q1 := Q1) ?_ ?_
  · (first | exact c | (simp only [Option.getD_some]; exact c))
  · (first | exact k | (simp only [Option.getD_some]; exact k))
theorem w_Model_state_34 {rod : Nat → Nat × (Nat → Int32)} {d : Nat} {Q : Option MV → MH → Prop} {u1 : Option MV} {u2 : Option MV} {x3 : Int32} {u4 : Option MV} {h : MH} (L : Lay h.2)  (k1 : ¬ (h.1 84 28).toInt = x3.toInt → Wb rod d B_Model_state 51 [some (.inr (.inr (.inl (some 84)))), u1, u2, some (.inl x3), u4] [] h Q) (k2 : (h.1 84 28).toInt = x3.toInt → Wb rod d B_Model_state 42 [some (.inr (.inr (.inl (some 84)))), u1, u2, some (.inl x3), u4] [] h Q) : Wb rod d B_Model_state 34 [some (.inr (.inr (.inl (some 84)))), u1, u2, some (.inl x3), u4] [] h Q := by
  refine Wb.br (fun _ _ => b_Model_state_34 (Lay.o84 L)) (fun c => ?_) (fun c => ?_)
  · have c : (!(decide ((h.1 84 28) = x3))) = true := by first | exact c | (simp only [Option.getD_some] at c; exact c)
    (first | exact (k1 (c_net c)) | (simp only [Option.getD_some]; exact (k1 (c_net c))))
  · have c : (!(decide ((h.1 84 28) = x3))) = false := by first | exact c | (simp only [Option.getD_some] at c; exact c)
    (first | exact (k2 (c_nef c)) | (simp only [Option.getD_some]; exact (k2 (c_nef c))))
theorem w_Model_state_42 {rod : Nat → Nat × (Nat → Int32)} {d : Nat} {Q : Option MV → MH → Prop} {u1 : Option MV} {u2 : Option MV} {u3 : Option MV} {x4 : Int32} {h : MH} (L : Lay h.2)  {Q1 : Option MV → MH → Prop} (c : Wc rod d 241 [.inr (.inr (.inl (some 84))), .inl x4] h Q1) (k : ∀ r1 h2, Q1 r1 h2 → Wb rod d B_Model_state 48 [some (.inr (.inr (.inl (some 84)))), u1, u2, u3, some (.inl x4)] (r1.toList ++ []) h2 Q) : Wb rod d B_Model_state 42 [some (.inr (.inr (.inl (some 84)))), u1, u2, u3, some (.inl x4)] [] h Q := by
  refine Wb.call (fun _ _ _ _ => b_Model_state_42 (Lay.o84 L)) (Q1 := Q1) ?_ ?_
  · (first | exact c | (simp only [Option.getD_some]; exact c))
  · (first | exact k | (simp only [Option.getD_some]; exact k))
theorem w_Model_state_48 {rod : Nat → Nat × (Nat → Int32)} {d : Nat} {Q : Option MV → MH → Prop} {u0 : Option MV} {u1 : Option MV} {u2 : Option MV} {u3 : Option MV} {u4 : Option MV} {xs0 : Int32} {h : MH}   (k : Wb rod d B_Model_state 54 [u0, u1, u2, u3, u4] [.inl xs0] h Q) : Wb rod d B_Model_state 48 [u0, u1, u2, u3, u4] [.inl xs0] h Q := by
  refine Wb.go (fun r hr q => b_Model_state_48 ?_) k
  (first | exact q | (simp only [Option.getD_some]; exact q))
theorem w_Model_state_51 {rod : Nat → Nat × (Nat → Int32)} {d : Nat} {Q : Option MV → MH → Prop} {u0 : Option MV} {u1 : Option MV} {u2 : Option MV} {u3 : Option MV} {u4 : Option MV} {h : MH}   (k : Wb rod d B_Model_state 54 [u0, u1, u2, u3, u4] [.inl (-1000 : Int32)] h Q) : Wb rod d B_Model_state 51 [u0, u1, u2, u3, u4] [] h Q := by
  refine Wb.go (fun r hr q => b_Model_state_51 ?_) k
  (first | exact q | (simp only [Option.getD_some]; exact q))
theorem w_Model_state_54 {rod : Nat → Nat × (Nat → Int32)} {d : Nat} {Q : Option MV → MH → Prop} {u0 : Option MV} {u1 : Option MV} {u2 : Option MV} {u3 : Option MV} {u4 : Option MV} {xs0 : Int32} {h : MH}   (q : Q (some (.inl xs0)) h) : Wb rod d B_Model_state 54 [u0, u1, u2, u3, u4] [.inl xs0] h Q := by
  refine Wb.ret (b_Model_state_54) ?_
  (first | exact q | (simp only [Option.getD_some]; exact q))
theorem n_Model_nowOf {rod : Nat → Nat × (Nat → Int32)} {d : Nat} {Q : Option MV → MH → Prop} {x1 : Int32} {h : MH} (k : Wb rod d B_Model_nowOf 0 [some (.inr (.inr (.inl (some 84)))), some (.inl x1), none] [] h Q) : Wc rod (d + 1) 241 [.inr (.inr (.inl (some 84))), .inl x1] h Q := Wc.en (fun _ _ => e_Model_nowOf) k
theorem w_Model_nowOf_0 {rod : Nat → Nat × (Nat → Int32)} {d : Nat} {Q : Option MV → MH → Prop} {u0 : Option MV} {x1 : Int32} {u2 : Option MV} {h : MH}   (k0 : x1.toInt = 0 → Wb rod d B_Model_nowOf 44 [u0, some (.inl x1), u2] [] h Q) (k1 : x1.toInt = 1 → Wb rod d B_Model_nowOf 49 [u0, some (.inl x1), u2] [] h Q) (k2 : x1.toInt = 2 → Wb rod d B_Model_nowOf 54 [u0, some (.inl x1), u2] [] h Q) (k3 : x1.toInt = 3 → Wb rod d B_Model_nowOf 59 [u0, some (.inl x1), u2] [] h Q) (k4 : x1.toInt = 4 → Wb rod d B_Model_nowOf 64 [u0, some (.inl x1), u2] [] h Q) (k5 : x1.toInt = 5 → Wb rod d B_Model_nowOf 69 [u0, some (.inl x1), u2] [] h Q) (k6 : x1.toInt = 6 → Wb rod d B_Model_nowOf 74 [u0, some (.inl x1), u2] [] h Q) (kd : x1.toInt ≠ 0 → x1.toInt ≠ 1 → x1.toInt ≠ 2 → x1.toInt ≠ 3 → x1.toInt ≠ 4 → x1.toInt ≠ 5 → x1.toInt ≠ 6 → Wb rod d B_Model_nowOf 79 [u0, some (.inl x1), u2] [] h Q) : Wb rod d B_Model_nowOf 0 [u0, some (.inl x1), u2] [] h Q := by
  have key : Wb rod d B_Model_nowOf (tabT [43, 48, 53, 58, 63, 68, 73] 0 x1 1 79) [u0, some (.inl x1), u2] [] h Q := by
    by_cases e0 : x1 = Int32.ofInt 0
    · rw [show tabT [43, 48, 53, 58, 63, 68, 73] 0 x1 1 79 = 44 from by rw [e0]; rfl]
      exact k0 (by rw [e0]; rfl)
    by_cases e1 : x1 = Int32.ofInt 1
    · rw [show tabT [43, 48, 53, 58, 63, 68, 73] 0 x1 1 79 = 49 from by rw [e1]; rfl]
      exact k1 (by rw [e1]; rfl)
    by_cases e2 : x1 = Int32.ofInt 2
    · rw [show tabT [43, 48, 53, 58, 63, 68, 73] 0 x1 1 79 = 54 from by rw [e2]; rfl]
      exact k2 (by rw [e2]; rfl)
    by_cases e3 : x1 = Int32.ofInt 3
    · rw [show tabT [43, 48, 53, 58, 63, 68, 73] 0 x1 1 79 = 59 from by rw [e3]; rfl]
      exact k3 (by rw [e3]; rfl)
    by_cases e4 : x1 = Int32.ofInt 4
    · rw [show tabT [43, 48, 53, 58, 63, 68, 73] 0 x1 1 79 = 64 from by rw [e4]; rfl]
      exact k4 (by rw [e4]; rfl)
    by_cases e5 : x1 = Int32.ofInt 5
    · rw [show tabT [43, 48, 53, 58, 63, 68, 73] 0 x1 1 79 = 69 from by rw [e5]; rfl]
      exact k5 (by rw [e5]; rfl)
    by_cases e6 : x1 = Int32.ofInt 6
    · rw [show tabT [43, 48, 53, 58, 63, 68, 73] 0 x1 1 79 = 74 from by rw [e6]; rfl]
      exact k6 (by rw [e6]; rfl)
    rw [show tabT [43, 48, 53, 58, 63, 68, 73] 0 x1 1 79 = 79 from (if_neg e0).trans ((if_neg e1).trans ((if_neg e2).trans ((if_neg e3).trans ((if_neg e4).trans ((if_neg e5).trans ((if_neg e6).trans (rfl)))))))]
    exact kd (fun q => e0 (Int32.toInt_inj.mp q)) (fun q => e1 (Int32.toInt_inj.mp q)) (fun q => e2 (Int32.toInt_inj.mp q)) (fun q => e3 (Int32.toInt_inj.mp q)) (fun q => e4 (Int32.toInt_inj.mp q)) (fun q => e5 (Int32.toInt_inj.mp q)) (fun q => e6 (Int32.toInt_inj.mp q))
  refine Wb.go (fun r hr q => b_Model_nowOf_0 ?_) key
  (first | exact q | (simp only [Option.getD_some]; exact q))
theorem w_Model_nowOf_44 {rod : Nat → Nat × (Nat → Int32)} {d : Nat} {Q : Option MV → MH → Prop} {u1 : Option MV} {u2 : Option MV} {h : MH} (L : Lay h.2)  (q : Q (some (.inl (h.1 84 21))) h) : Wb rod d B_Model_nowOf 44 [some (.inr (.inr (.inl (some 84)))), u1, u2] [] h Q := by
  refine Wb.ret (b_Model_nowOf_44 (Lay.o84 L)) ?_
  (first | exact q | (simp only [Option.getD_some]; exact q))
theorem w_Model_nowOf_49 {rod : Nat → Nat × (Nat → Int32)} {d : Nat} {Q : Option MV → MH → Prop} {u1 : Option MV} {u2 : Option MV} {h : MH} (L : Lay h.2)  (q : Q (some (.inl (h.1 84 22))) h) : Wb rod d B_Model_nowOf 49 [some (.inr (.inr (.inl (some 84)))), u1, u2] [] h Q := by
  refine Wb.ret (b_Model_nowOf_49 (Lay.o84 L)) ?_
  (first | exact q | (simp only [Option.getD_some]; exact q))
theorem w_Model_nowOf_54 {rod : Nat → Nat × (Nat → Int32)} {d : Nat} {Q : Option MV → MH → Prop} {u1 : Option MV} {u2 : Option MV} {h : MH} (L : Lay h.2)  (q : Q (some (.inl (h.1 84 23))) h) : Wb rod d B_Model_nowOf 54 [some (.inr (.inr (.inl (some 84)))), u1, u2] [] h Q := by
  refine Wb.ret (b_Model_nowOf_54 (Lay.o84 L)) ?_
  (first | exact q | (simp only [Option.getD_some]; exact q))
theorem w_Model_nowOf_59 {rod : Nat → Nat × (Nat → Int32)} {d : Nat} {Q : Option MV → MH → Prop} {u1 : Option MV} {u2 : Option MV} {h : MH} (L : Lay h.2)  (q : Q (some (.inl (h.1 84 24))) h) : Wb rod d B_Model_nowOf 59 [some (.inr (.inr (.inl (some 84)))), u1, u2] [] h Q := by
  refine Wb.ret (b_Model_nowOf_59 (Lay.o84 L)) ?_
  (first | exact q | (simp only [Option.getD_some]; exact q))
theorem w_Model_nowOf_64 {rod : Nat → Nat × (Nat → Int32)} {d : Nat} {Q : Option MV → MH → Prop} {u1 : Option MV} {u2 : Option MV} {h : MH} (L : Lay h.2)  (q : Q (some (.inl (h.1 84 25))) h) : Wb rod d B_Model_nowOf 64 [some (.inr (.inr (.inl (some 84)))), u1, u2] [] h Q := by
  refine Wb.ret (b_Model_nowOf_64 (Lay.o84 L)) ?_
  (first | exact q | (simp only [Option.getD_some]; exact q))
theorem w_Model_nowOf_69 {rod : Nat → Nat × (Nat → Int32)} {d : Nat} {Q : Option MV → MH → Prop} {u1 : Option MV} {u2 : Option MV} {h : MH} (L : Lay h.2)  (q : Q (some (.inl (h.1 84 26))) h) : Wb rod d B_Model_nowOf 69 [some (.inr (.inr (.inl (some 84)))), u1, u2] [] h Q := by
  refine Wb.ret (b_Model_nowOf_69 (Lay.o84 L)) ?_
  (first | exact q | (simp only [Option.getD_some]; exact q))
theorem w_Model_nowOf_74 {rod : Nat → Nat × (Nat → Int32)} {d : Nat} {Q : Option MV → MH → Prop} {u1 : Option MV} {u2 : Option MV} {h : MH} (L : Lay h.2)  (q : Q (some (.inl (h.1 84 27))) h) : Wb rod d B_Model_nowOf 74 [some (.inr (.inr (.inl (some 84)))), u1, u2] [] h Q := by
  refine Wb.ret (b_Model_nowOf_74 (Lay.o84 L)) ?_
  (first | exact q | (simp only [Option.getD_some]; exact q))
theorem w_Model_nowOf_79 {rod : Nat → Nat × (Nat → Int32)} {d : Nat} {Q : Option MV → MH → Prop} {u0 : Option MV} {x1 : Int32} {u2 : Option MV} {h : MH}   {Q1 : Option MV → MH → Prop} (c : Wc rod d 193 [.inl x1, .inl (10 : Int32), .inl (49 : Int32)] h Q1) (k : ∀ r1 h2, Q1 r1 h2 → Wb rod d B_Model_nowOf 92 [u0, some (.inl x1), some (.inl (x1 - x1 / (10 : Int32) * (10 : Int32)))] (r1.toList ++ []) h2 Q) : Wb rod d B_Model_nowOf 79 [u0, some (.inl x1), u2] [] h Q := by
  refine Wb.call (fun _ _ _ _ => b_Model_nowOf_79 (by decide)) (Q1 := Q1) ?_ ?_
  · (first | exact c | (simp only [Option.getD_some]; exact c))
  · (first | exact k | (simp only [Option.getD_some]; exact k))
theorem w_Model_nowOf_92 {rod : Nat → Nat × (Nat → Int32)} {d : Nat} {Q : Option MV → MH → Prop} {u0 : Option MV} {u1 : Option MV} {u2 : Option MV} {xs0 : Int32} {h : MH}   (k1 : xs0.toInt = 0 → Wb rod d B_Model_nowOf 103 [u0, u1, u2] [] h Q) (k2 : ¬ xs0.toInt = 0 → Wb rod d B_Model_nowOf 95 [u0, u1, u2] [] h Q) : Wb rod d B_Model_nowOf 92 [u0, u1, u2] [.inl xs0] h Q := by
  refine Wb.br (fun _ _ => b_Model_nowOf_92) (fun c => ?_) (fun c => ?_)
  · have c : (decide (xs0 = 0)) = true := by first | exact c | (simp only [Option.getD_some] at c; exact c)
    (first | exact (k1 (c_eqt c)) | (simp only [Option.getD_some]; exact (k1 (c_eqt c))))
  · have c : (decide (xs0 = 0)) = false := by first | exact c | (simp only [Option.getD_some] at c; exact c)
    (first | exact (k2 (c_eqf c)) | (simp only [Option.getD_some]; exact (k2 (c_eqf c))))
theorem w_Model_nowOf_95 {rod : Nat → Nat × (Nat → Int32)} {d : Nat} {Q : Option MV → MH → Prop} {u1 : Option MV} {x2 : Int32} {h : MH} (L : Lay h.2)  {Q1 : Option MV → MH → Prop} (c : Wc rod d 220 [.inr (.inr (.inl (some 84))), .inl x2] h Q1) (k : ∀ r1 h2, Q1 r1 h2 → Wb rod d B_Model_nowOf 100 [some (.inr (.inr (.inl (some 84)))), u1, some (.inl x2)] (r1.toList ++ []) h2 Q) : Wb rod d B_Model_nowOf 95 [some (.inr (.inr (.inl (some 84)))), u1, some (.inl x2)] [] h Q := by
  refine Wb.call (fun _ _ _ _ => b_Model_nowOf_95 (Lay.o84 L)) (Q1 := Q1) ?_ ?_
  · (first | exact c | (simp only [Option.getD_some]; exact c))
  · (first | exact k | (simp only [Option.getD_some]; exact k))
theorem w_Model_nowOf_100 {rod : Nat → Nat × (Nat → Int32)} {d : Nat} {Q : Option MV → MH → Prop} {u0 : Option MV} {u1 : Option MV} {u2 : Option MV} {xs0 : Int32} {h : MH}   (k1 : ¬ xs0.toInt = 0 → Wb rod d B_Model_nowOf 107 [u0, u1, u2] [] h Q) (k2 : xs0.toInt = 0 → Wb rod d B_Model_nowOf 103 [u0, u1, u2] [] h Q) : Wb rod d B_Model_nowOf 100 [u0, u1, u2] [.inl xs0] h Q := by
  refine Wb.br (fun _ _ => b_Model_nowOf_100) (fun c => ?_) (fun c => ?_)
  · have c : (!(decide (xs0 = 0))) = true := by first | exact c | (simp only [Option.getD_some] at c; exact c)
    (first | exact (k1 (c_net c)) | (simp only [Option.getD_some]; exact (k1 (c_net c))))
  · have c : (!(decide (xs0 = 0))) = false := by first | exact c | (simp only [Option.getD_some] at c; exact c)
    (first | exact (k2 (c_nef c)) | (simp only [Option.getD_some]; exact (k2 (c_nef c))))
theorem w_Model_nowOf_103 {rod : Nat → Nat × (Nat → Int32)} {d : Nat} {Q : Option MV → MH → Prop} {u0 : Option MV} {u1 : Option MV} {u2 : Option MV} {h : MH}   (q : Q (some (.inl (-1000 : Int32))) h) : Wb rod d B_Model_nowOf 103 [u0, u1, u2] [] h Q := by
  refine Wb.ret (b_Model_nowOf_103) ?_
  (first | exact q | (simp only [Option.getD_some]; exact q))
theorem w_Model_nowOf_107 {rod : Nat → Nat × (Nat → Int32)} {d : Nat} {Q : Option MV → MH → Prop} {u0 : Option MV} {x1 : Int32} {u2 : Option MV} {h : MH}   (k1 : 20 ≤ x1.toInt → Wb rod d B_Model_nowOf 122 [u0, some (.inl x1), u2] [] h Q) (k2 : ¬ 20 ≤ x1.toInt → Wb rod d B_Model_nowOf 113 [u0, some (.inl x1), u2] [] h Q) : Wb rod d B_Model_nowOf 107 [u0, some (.inl x1), u2] [] h Q := by
  refine Wb.br (fun _ _ => b_Model_nowOf_107) (fun c => ?_) (fun c => ?_)
  · have c : (decide ((20 : Int32) ≤ x1)) = true := by first | exact c | (simp only [Option.getD_some] at c; exact c)
    (first | exact (k1 (c_let c)) | (simp only [Option.getD_some]; exact (k1 (c_let c))))
  · have c : (decide ((20 : Int32) ≤ x1)) = false := by first | exact c | (simp only [Option.getD_some] at c; exact c)
    (first | exact (k2 (c_lef c)) | (simp only [Option.getD_some]; exact (k2 (c_lef c))))
theorem w_Model_nowOf_113 {rod : Nat → Nat × (Nat → Int32)} {d : Nat} {Q : Option MV → MH → Prop} {u1 : Option MV} {x2 : Int32} {h : MH} (L : Lay h.2) (g0 : 0 ≤ x2.toInt ∧ x2.toInt < 8) (k : Wb rod d B_Model_nowOf 158 [some (.inr (.inr (.inl (some 84)))), u1, some (.inl x2)] [.inl (h.1 88 x2.toNatClampNeg)] h Q) : Wb rod d B_Model_nowOf 113 [some (.inr (.inr (.inl (some 84)))), u1, some (.inl x2)] [] h Q := by
  refine Wb.go (fun r hr q => b_Model_nowOf_113 (Lay.o84 L) (Lay.a84_16 L g0) ?_) k
  (first | exact q | (simp only [Option.getD_some, (Lay.r84_16 L)]; exact q))
theorem w_Model_nowOf_122 {rod : Nat → Nat × (Nat → Int32)} {d : Nat} {Q : Option MV → MH → Prop} {u0 : Option MV} {x1 : Int32} {u2 : Option MV} {h : MH}   (k1 : 30 ≤ x1.toInt → Wb rod d B_Model_nowOf 137 [u0, some (.inl x1), u2] [] h Q) (k2 : ¬ 30 ≤ x1.toInt → Wb rod d B_Model_nowOf 128 [u0, some (.inl x1), u2] [] h Q) : Wb rod d B_Model_nowOf 122 [u0, some (.inl x1), u2] [] h Q := by
  refine Wb.br (fun _ _ => b_Model_nowOf_122) (fun c => ?_) (fun c => ?_)
  · have c : (decide ((30 : Int32) ≤ x1)) = true := by first | exact c | (simp only [Option.getD_some] at c; exact c)
    (first | exact (k1 (c_let c)) | (simp only [Option.getD_some]; exact (k1 (c_let c))))
  · have c : (decide ((30 : Int32) ≤ x1)) = false := by first | exact c | (simp only [Option.getD_some] at c; exact c)
    (first | exact (k2 (c_lef c)) | (simp only [Option.getD_some]; exact (k2 (c_lef c))))
theorem w_Model_nowOf_128 {rod : Nat → Nat × (Nat → Int32)} {d : Nat} {Q : Option MV → MH → Prop} {u1 : Option MV} {x2 : Int32} {h : MH} (L : Lay h.2) (g0 : 0 ≤ x2.toInt ∧ x2.toInt < 8) (k : Wb rod d B_Model_nowOf 158 [some (.inr (.inr (.inl (some 84)))), u1, some (.inl x2)] [.inl (h.1 89 x2.toNatClampNeg)] h Q) : Wb rod d B_Model_nowOf 128 [some (.inr (.inr (.inl (some 84)))), u1, some (.inl x2)] [] h Q := by
  refine Wb.go (fun r hr q => b_Model_nowOf_128 (Lay.o84 L) (Lay.a84_17 L g0) ?_) k
  (first | exact q | (simp only [Option.getD_some, (Lay.r84_17 L)]; exact q))
theorem w_Model_nowOf_137 {rod : Nat → Nat × (Nat → Int32)} {d : Nat} {Q : Option MV → MH → Prop} {u0 : Option MV} {x1 : Int32} {u2 : Option MV} {h : MH}   (k1 : 40 ≤ x1.toInt → Wb rod d B_Model_nowOf 152 [u0, some (.inl x1), u2] [] h Q) (k2 : ¬ 40 ≤ x1.toInt → Wb rod d B_Model_nowOf 143 [u0, some (.inl x1), u2] [] h Q) : Wb rod d B_Model_nowOf 137 [u0, some (.inl x1), u2] [] h Q := by
  refine Wb.br (fun _ _ => b_Model_nowOf_137) (fun c => ?_) (fun c => ?_)
  · have c : (decide ((40 : Int32) ≤ x1)) = true := by first | exact c | (simp only [Option.getD_some] at c; exact c)
    (first | exact (k1 (c_let c)) | (simp only [Option.getD_some]; exact (k1 (c_let c))))
  · have c : (decide ((40 : Int32) ≤ x1)) = false := by first | exact c | (simp only [Option.getD_some] at c; exact c)
    (first | exact (k2 (c_lef c)) | (simp only [Option.getD_some]; exact (k2 (c_lef c))))
theorem w_Model_nowOf_143 {rod : Nat → Nat × (Nat → Int32)} {d : Nat} {Q : Option MV → MH → Prop} {u1 : Option MV} {x2 : Int32} {h : MH} (L : Lay h.2) (g0 : 0 ≤ x2.toInt ∧ x2.toInt < 8) (k : Wb rod d B_Model_nowOf 158 [some (.inr (.inr (.inl (some 84)))), u1, some (.inl x2)] [.inl (h.1 90 x2.toNatClampNeg)] h Q) : Wb rod d B_Model_nowOf 143 [some (.inr (.inr (.inl (some 84)))), u1, some (.inl x2)] [] h Q := by
  refine Wb.go (fun r hr q => b_Model_nowOf_143 (Lay.o84 L) (Lay.a84_18 L g0) ?_) k
  (first | exact q | (simp only [Option.getD_some, (Lay.r84_18 L)]; exact q))
theorem w_Model_nowOf_152 {rod : Nat → Nat × (Nat → Int32)} {d : Nat} {Q : Option MV → MH → Prop} {u1 : Option MV} {x2 : Int32} {h : MH} (L : Lay h.2) (g0 : 0 ≤ x2.toInt ∧ x2.toInt < 8) (k : Wb rod d B_Model_nowOf 158 [some (.inr (.inr (.inl (some 84)))), u1, some (.inl x2)] [.inl (h.1 91 x2.toNatClampNeg)] h Q) : Wb rod d B_Model_nowOf 152 [some (.inr (.inr (.inl (some 84)))), u1, some (.inl x2)] [] h Q := by
  refine Wb.go (fun r hr q => b_Model_nowOf_152 (Lay.o84 L) (Lay.a84_19 L g0) ?_) k
  (first | exact q | (simp only [Option.getD_some, (Lay.r84_19 L)]; exact q))
theorem w_Model_nowOf_158 {rod : Nat → Nat × (Nat → Int32)} {d : Nat} {Q : Option MV → MH → Prop} {u0 : Option MV} {u1 : Option MV} {u2 : Option MV} {xs0 : Int32} {h : MH}   (q : Q (some (.inl xs0)) h) : Wb rod d B_Model_nowOf 158 [u0, u1, u2] [.inl xs0] h Q := by
  refine Wb.ret (b_Model_nowOf_158) ?_
  (first | exact q | (simp only [Option.getD_some]; exact q))
theorem n_Model_after {rod : Nat → Nat × (Nat → Int32)} {d : Nat} {Q : Option MV → MH → Prop} {x1 : Int32} {x2 : Int32} {x3 : Int32} {h : MH} (k : Wb rod d B_Model_after 0 [some (.inr (.inr (.inl (some 84)))), some (.inl x1), some (.inl x2), some (.inl x3), none, none, none, none, none] [] h Q) : Wc rod (d + 1) 242 [.inr (.inr (.inl (some 84))), .inl x1, .inl x2, .inl x3] h Q := Wc.en (fun _ _ => e_Model_after) k
theorem w_Model_after_0 {rod : Nat → Nat × (Nat → Int32)} {d : Nat} {Q : Option MV → MH → Prop} {x1 : Int32} {u2 : Option MV} {u3 : Option MV} {u4 : Option MV} {u5 : Option MV} {u6 : Option MV} {u7 : Option MV} {u8 : Option MV} {h : MH} (L : Lay h.2)  {Q1 : Option MV → MH → Prop} (c : Wc rod d 219 [.inr (.inr (.inl (some 84))), .inl x1] h Q1) (k : ∀ r1 h2, Q1 r1 h2 → Wb rod d B_Model_after 5 [some (.inr (.inr (.inl (some 84)))), some (.inl x1), u2, u3, u4, u5, u6, u7, u8] (r1.toList ++ []) h2 Q) : Wb rod d B_Model_after 0 [some (.inr (.inr (.inl (some 84)))), some (.inl x1), u2, u3, u4, u5, u6, u7, u8] [] h Q := by
  refine Wb.call (fun _ _ _ _ => b_Model_after_0 (Lay.o84 L)) (Q1 := Q1) ?_ ?_
  · (first | exact c | (simp only [Option.getD_some]; exact c))
  · (first | exact k | (simp only [Option.getD_some]; exact k))
theorem w_Model_after_5 {rod : Nat → Nat × (Nat → Int32)} {d : Nat} {Q : Option MV → MH → Prop} {u0 : Option MV} {u1 : Option MV} {u2 : Option MV} {u3 : Option MV} {u4 : Option MV} {u5 : Option MV} {u6 : Option MV} {u7 : Option MV} {u8 : Option MV} {xs0 : Int32} {h : MH}   (k1 : xs0.toInt = 0 → Wb rod d B_Model_after 25 [u0, u1, u2, u3, u4, u5, u6, u7, u8] [] h Q) (k2 : ¬ xs0.toInt = 0 → Wb rod d B_Model_after 8 [u0, u1, u2, u3, u4, u5, u6, u7, u8] [] h Q) : Wb rod d B_Model_after 5 [u0, u1, u2, u3, u4, u5, u6, u7, u8] [.inl xs0] h Q := by
  refine Wb.br (fun _ _ => b_Model_after_5) (fun c => ?_) (fun c => ?_)
  · have c : (decide (xs0 = 0)) = true := by first | exact c | (simp only [Option.getD_some] at c; exact c)
    (first | exact (k1 (c_eqt c)) | (simp only [Option.getD_some]; exact (k1 (c_eqt c))))
  · have c : (decide (xs0 = 0)) = false := by first | exact c | (simp only [Option.getD_some] at c; exact c)
    (first | exact (k2 (c_eqf c)) | (simp only [Option.getD_some]; exact (k2 (c_eqf c))))
theorem w_Model_after_8 {rod : Nat → Nat × (Nat → Int32)} {d : Nat} {Q : Option MV → MH → Prop} {u1 : Option MV} {x2 : Int32} {u3 : Option MV} {u4 : Option MV} {u5 : Option MV} {u6 : Option MV} {u7 : Option MV} {u8 : Option MV} {h : MH} (L : Lay h.2)  {Q1 : Option MV → MH → Prop} (c : Wc rod d 230 [.inr (.inr (.inl (some 84))), .inl x2] h Q1) (k : ∀ r1 h2, Q1 r1 h2 → Wb rod d B_Model_after 13 [some (.inr (.inr (.inl (some 84)))), u1, some (.inl x2), u3, u4, u5, u6, u7, u8] (r1.toList ++ []) h2 Q) : Wb rod d B_Model_after 8 [some (.inr (.inr (.inl (some 84)))), u1, some (.inl x2), u3, u4, u5, u6, u7, u8] [] h Q := by
  refine Wb.call (fun _ _ _ _ => b_Model_after_8 (Lay.o84 L)) (Q1 := Q1) ?_ ?_
  · (first | exact c | (simp only [Option.getD_some]; exact c))
  · (first | exact k | (simp only [Option.getD_some]; exact k))
theorem w_Model_after_13 {rod : Nat → Nat × (Nat → Int32)} {d : Nat} {Q : Option MV → MH → Prop} {u0 : Option MV} {u1 : Option MV} {u2 : Option MV} {u3 : Option MV} {u4 : Option MV} {u5 : Option MV} {u6 : Option MV} {u7 : Option MV} {u8 : Option MV} {xs0 : Int32} {h : MH}   (k1 : xs0.toInt = 0 → Wb rod d B_Model_after 25 [u0, u1, u2, u3, u4, u5, u6, u7, u8] [] h Q) (k2 : ¬ xs0.toInt = 0 → Wb rod d B_Model_after 16 [u0, u1, u2, u3, u4, u5, u6, u7, u8] [] h Q) : Wb rod d B_Model_after 13 [u0, u1, u2, u3, u4, u5, u6, u7, u8] [.inl xs0] h Q := by
  refine Wb.br (fun _ _ => b_Model_after_13) (fun c => ?_) (fun c => ?_)
  · have c : (decide (xs0 = 0)) = true := by first | exact c | (simp only [Option.getD_some] at c; exact c)
    (first | exact (k1 (c_eqt c)) | (simp only [Option.getD_some]; exact (k1 (c_eqt c))))
  · have c : (decide (xs0 = 0)) = false := by first | exact c | (simp only [Option.getD_some] at c; exact c)
    (first | exact (k2 (c_eqf c)) | (simp only [Option.getD_some]; exact (k2 (c_eqf c))))
theorem w_Model_after_16 {rod : Nat → Nat × (Nat → Int32)} {d : Nat} {Q : Option MV → MH → Prop} {u0 : Option MV} {u1 : Option MV} {u2 : Option MV} {x3 : Int32} {u4 : Option MV} {u5 : Option MV} {u6 : Option MV} {u7 : Option MV} {u8 : Option MV} {h : MH}   {Q1 : Option MV → MH → Prop} (c : Wc rod d 193 [.inl x3, .inl (0 : Int32), .inl (2 : Int32)] h Q1) (k : ∀ r1 h2, Q1 r1 h2 → Wb rod d B_Model_after 22 [u0, u1, u2, some (.inl x3), u4, u5, u6, u7, u8] (r1.toList ++ []) h2 Q) : Wb rod d B_Model_after 16 [u0, u1, u2, some (.inl x3), u4, u5, u6, u7, u8] [] h Q := by
  refine Wb.call (fun _ _ _ _ => b_Model_after_16) (Q1 := Q1) ?_ ?_
  · (first | exact c | (simp only [Option.getD_some]; exact c))
  · (first | exact k | (simp only [Option.getD_some]; exact k))
theorem w_Model_after_22 {rod : Nat → Nat × (Nat → Int32)} {d : Nat} {Q : Option MV → MH → Prop} {u0 : Option MV} {u1 : Option MV} {u2 : Option MV} {u3 : Option MV} {u4 : Option MV} {u5 : Option MV} {u6 : Option MV} {u7 : Option MV} {u8 : Option MV} {xs0 : Int32} {h : MH}   (k1 : ¬ xs0.toInt = 0 → Wb rod d B_Model_after 28 [u0, u1, u2, u3, u4, u5, u6, u7, u8] [] h Q) (k2 : xs0.toInt = 0 → Wb rod d B_Model_after 25 [u0, u1, u2, u3, u4, u5, u6, u7, u8] [] h Q) : Wb rod d B_Model_after 22 [u0, u1, u2, u3, u4, u5, u6, u7, u8] [.inl xs0] h Q := by
  refine Wb.br (fun _ _ => b_Model_after_22) (fun c => ?_) (fun c => ?_)
  · have c : (!(decide (xs0 = 0))) = true := by first | exact c | (simp only [Option.getD_some] at c; exact c)
    (first | exact (k1 (c_net c)) | (simp only [Option.getD_some]; exact (k1 (c_net c))))
  · have c : (!(decide (xs0 = 0))) = false := by first | exact c | (simp only [Option.getD_some] at c; exact c)
    (first | exact (k2 (c_nef c)) | (simp only [Option.getD_some]; exact (k2 (c_nef c))))
theorem w_Model_after_25 {rod : Nat → Nat × (Nat → Int32)} {d : Nat} {Q : Option MV → MH → Prop} {u0 : Option MV} {u1 : Option MV} {u2 : Option MV} {u3 : Option MV} {u4 : Option MV} {u5 : Option MV} {u6 : Option MV} {u7 : Option MV} {u8 : Option MV} {h : MH}   (q : Q (some (.inl (-2 : Int32))) h) : Wb rod d B_Model_after 25 [u0, u1, u2, u3, u4, u5, u6, u7, u8] [] h Q := by
  refine Wb.ret (b_Model_after_25) ?_
  (first | exact q | (simp only [Option.getD_some]; exact q))
theorem w_Model_after_28 {rod : Nat → Nat × (Nat → Int32)} {d : Nat} {Q : Option MV → MH → Prop} {u0 : Option MV} {u1 : Option MV} {u2 : Option MV} {x3 : Int32} {u4 : Option MV} {u5 : Option MV} {u6 : Option MV} {u7 : Option MV} {u8 : Option MV} {h : MH}   (k1 : ¬ x3.toInt = 1 → Wb rod d B_Model_after 38 [u0, u1, u2, some (.inl x3), u4, u5, u6, u7, u8] [] h Q) (k2 : x3.toInt = 1 → Wb rod d B_Model_after 33 [u0, u1, u2, some (.inl x3), u4, u5, u6, u7, u8] [] h Q) : Wb rod d B_Model_after 28 [u0, u1, u2, some (.inl x3), u4, u5, u6, u7, u8] [] h Q := by
  refine Wb.br (fun _ _ => b_Model_after_28) (fun c => ?_) (fun c => ?_)
  · have c : (!(decide (x3 = (1 : Int32)))) = true := by first | exact c | (simp only [Option.getD_some] at c; exact c)
    (first | exact (k1 (c_net c)) | (simp only [Option.getD_some]; exact (k1 (c_net c))))
  · have c : (!(decide (x3 = (1 : Int32)))) = false := by first | exact c | (simp only [Option.getD_some] at c; exact c)
    (first | exact (k2 (c_nef c)) | (simp only [Option.getD_some]; exact (k2 (c_nef c))))
theorem w_Model_after_33 {rod : Nat → Nat × (Nat → Int32)} {d : Nat} {Q : Option MV → MH → Prop} {u1 : Option MV} {u2 : Option MV} {u3 : Option MV} {u4 : Option MV} {u5 : Option MV} {u6 : Option MV} {u7 : Option MV} {u8 : Option MV} {h : MH} (L : Lay h.2)  {Q1 : Option MV → MH → Prop} (c : Wc rod d 243 [.inr (.inr (.inl (some 84)))] h Q1) (k : ∀ r1 h2, Q1 r1 h2 → Wb rod d B_Model_after 37 [some (.inr (.inr (.inl (some 84)))), u1, u2, u3, u4, u5, u6, u7, u8] (r1.toList ++ []) h2 Q) : Wb rod d B_Model_after 33 [some (.inr (.inr (.inl (some 84)))), u1, u2, u3, u4, u5, u6, u7, u8] [] h Q := by
  refine Wb.call (fun _ _ _ _ => b_Model_after_33 (Lay.o84 L)) (Q1 := Q1) ?_ ?_
  · (first | exact c | (simp only [Option.getD_some]; exact c))
  · (first | exact k | (simp only [Option.getD_some]; exact k))
theorem w_Model_after_37 {rod : Nat → Nat × (Nat → Int32)} {d : Nat} {Q : Option MV → MH → Prop} {u0 : Option MV} {u1 : Option MV} {u2 : Option MV} {u3 : Option MV} {u4 : Option MV} {u5 : Option MV} {u6 : Option MV} {u7 : Option MV} {u8 : Option MV} {xs0 : Int32} {h : MH}   (q : Q (some (.inl xs0)) h) : Wb rod d B_Model_after 37 [u0, u1, u2, u3, u4, u5, u6, u7, u8] [.inl xs0] h Q := by
  refine Wb.ret (b_Model_after_37) ?_
  (first | exact q | (simp only [Option.getD_some]; exact q))
theorem w_Model_after_38 {rod : Nat → Nat × (Nat → Int32)} {d : Nat} {Q : Option MV → MH → Prop} {u1 : Option MV} {u2 : Option MV} {u3 : Option MV} {u4 : Option MV} {u5 : Option MV} {u6 : Option MV} {u7 : Option MV} {u8 : Option MV} {h : MH} (L : Lay h.2)  {Q1 : Option MV → MH → Prop} (c : Wc rod d 232 [.inr (.inr (.inl (some 84))), .inl (40 : Int32)] h Q1) (k : ∀ r1 h2, Q1 r1 h2 → Wb rod d B_Model_after 44 [some (.inr (.inr (.inl (some 84)))), u1, u2, u3, u4, u5, u6, u7, u8] (r1.toList ++ []) h2 Q) : Wb rod d B_Model_after 38 [some (.inr (.inr (.inl (some 84)))), u1, u2, u3, u4, u5, u6, u7, u8] [] h Q := by
  refine Wb.call (fun _ _ _ _ => b_Model_after_38 (Lay.o84 L)) (Q1 := Q1) ?_ ?_
  · (first | exact c | (simp only [Option.getD_some]; exact c))
  · (first | exact k | (simp only [Option.getD_some]; exact k))
theorem w_Model_after_44 {rod : Nat → Nat × (Nat → Int32)} {d : Nat} {Q : Option MV → MH → Prop} {u0 : Option MV} {u1 : Option MV} {u2 : Option MV} {u3 : Option MV} {u4 : Option MV} {u5 : Option MV} {u6 : Option MV} {u7 : Option MV} {u8 : Option MV} {h : MH}  (g0 : okl [u0, u1, u2, u3, u4, u5, u6, u7, u8] 4 = true) (k : Wb rod d B_Model_after 56 [u0, u1, u2, u3, some (.inl (-1 : Int32)), some (.inl (0 : Int32)), some (.inl (0 : Int32)), some (.inl (0 : Int32)), u8] [] h Q) : Wb rod d B_Model_after 44 [u0, u1, u2, u3, u4, u5, u6, u7, u8] [] h Q := by
  refine Wb.go (fun r hr q => b_Model_after_44 g0 ?_) k
  (first | exact q | (simp only [Option.getD_some]; exact q))
theorem w_Model_after_56 {rod : Nat → Nat × (Nat → Int32)} {d : Nat} {Q : Option MV → MH → Prop} {u1 : Option MV} {u2 : Option MV} {u3 : Option MV} {u4 : Option MV} {u5 : Option MV} {u6 : Option MV} {x7 : Int32} {u8 : Option MV} {h : MH} (L : Lay h.2)  (k1 : (h.1 84 14).toInt ≤ x7.toInt → Wb rod d B_Model_after 143 [some (.inr (.inr (.inl (some 84)))), u1, u2, u3, u4, u5, u6, some (.inl x7), u8] [] h Q) (k2 : ¬ (h.1 84 14).toInt ≤ x7.toInt → Wb rod d B_Model_after 65 [some (.inr (.inr (.inl (some 84)))), u1, u2, u3, u4, u5, u6, some (.inl x7), u8] [] h Q) : Wb rod d B_Model_after 56 [some (.inr (.inr (.inl (some 84)))), u1, u2, u3, u4, u5, u6, some (.inl x7), u8] [] h Q := by
  refine Wb.br (fun _ _ => b_Model_after_56 (Lay.o84 L)) (fun c => ?_) (fun c => ?_)
  · have c : (decide ((h.1 84 14) ≤ x7)) = true := by first | exact c | (simp only [Option.getD_some] at c; exact c)
    (first | exact (k1 (c_let c)) | (simp only [Option.getD_some]; exact (k1 (c_let c))))
  · have c : (decide ((h.1 84 14) ≤ x7)) = false := by first | exact c | (simp only [Option.getD_some] at c; exact c)
    (first | exact (k2 (c_lef c)) | (simp only [Option.getD_some]; exact (k2 (c_lef c))))
theorem w_Model_after_65 {rod : Nat → Nat × (Nat → Int32)} {d : Nat} {Q : Option MV → MH → Prop} {u1 : Option MV} {u2 : Option MV} {u3 : Option MV} {u4 : Option MV} {u5 : Option MV} {u6 : Option MV} {x7 : Int32} {u8 : Option MV} {h : MH} (L : Lay h.2)  {Q1 : Option MV → MH → Prop} (c : Wc rod d 221 [.inr (.inr (.inl (some 84))), .inl x7, .inl (3 : Int32)] h Q1) (k : ∀ r1 h2, Q1 r1 h2 → Wb rod d B_Model_after 72 [some (.inr (.inr (.inl (some 84)))), u1, u2, u3, u4, u5, u6, some (.inl x7), u8] (r1.toList ++ []) h2 Q) : Wb rod d B_Model_after 65 [some (.inr (.inr (.inl (some 84)))), u1, u2, u3, u4, u5, u6, some (.inl x7), u8] [] h Q := by
  refine Wb.call (fun _ _ _ _ => b_Model_after_65 (Lay.o84 L)) (Q1 := Q1) ?_ ?_
  · (first | exact c | (simp only [Option.getD_some]; exact c))
  · (first | exact k | (simp only [Option.getD_some]; exact k))
theorem w_Model_after_72 {rod : Nat → Nat × (Nat → Int32)} {d : Nat} {Q : Option MV → MH → Prop} {u1 : Option MV} {u2 : Option MV} {u3 : Option MV} {u4 : Option MV} {x5 : Int32} {u6 : Option MV} {x7 : Int32} {u8 : Option MV} {xs0 : Int32} {h : MH} (L : Lay h.2) (g0 : 0 ≤ x7.toInt ∧ x7.toInt < 8) (k1 : (xs0 - (h.1 89 x7.toNatClampNeg)).toInt ≤ x5.toInt → Wb rod d B_Model_after 94 [some (.inr (.inr (.inl (some 84)))), u1, u2, u3, u4, some (.inl x5), u6, some (.inl x7), some (.inl (xs0 - (h.1 89 x7.toNatClampNeg)))] [] h Q) (k2 : ¬ (xs0 - (h.1 89 x7.toNatClampNeg)).toInt ≤ x5.toInt → Wb rod d B_Model_after 89 [some (.inr (.inr (.inl (some 84)))), u1, u2, u3, u4, some (.inl x5), u6, some (.inl x7), some (.inl (xs0 - (h.1 89 x7.toNatClampNeg)))] [] h Q) : Wb rod d B_Model_after 72 [some (.inr (.inr (.inl (some 84)))), u1, u2, u3, u4, some (.inl x5), u6, some (.inl x7), u8] [.inl xs0] h Q := by
  refine Wb.br (fun _ _ => b_Model_after_72 (Lay.o84 L) (Lay.a84_17 L g0)) (fun c => ?_) (fun c => ?_)
  · have c : (decide ((xs0 - (h.1 89 x7.toNatClampNeg)) ≤ x5)) = true := by first | exact c | (simp only [Option.getD_some, (Lay.r84_17 L)] at c; exact c)
    (first | exact (k1 (c_let c)) | (simp only [Option.getD_some, (Lay.r84_17 L)]; exact (k1 (c_let c))))
  · have c : (decide ((xs0 - (h.1 89 x7.toNatClampNeg)) ≤ x5)) = false := by first | exact c | (simp only [Option.getD_some, (Lay.r84_17 L)] at c; exact c)
    (first | exact (k2 (c_lef c)) | (simp only [Option.getD_some, (Lay.r84_17 L)]; exact (k2 (c_lef c))))
theorem w_Model_after_89 {rod : Nat → Nat × (Nat → Int32)} {d : Nat} {Q : Option MV → MH → Prop} {u0 : Option MV} {u1 : Option MV} {u2 : Option MV} {u3 : Option MV} {u4 : Option MV} {u5 : Option MV} {u6 : Option MV} {x7 : Int32} {u8 : Option MV} {h : MH}   (k : Wb rod d B_Model_after 96 [u0, u1, u2, u3, u4, u5, u6, some (.inl x7), u8] [.inl x7] h Q) : Wb rod d B_Model_after 89 [u0, u1, u2, u3, u4, u5, u6, some (.inl x7), u8] [] h Q := by
  refine Wb.go (fun r hr q => b_Model_after_89 ?_) k
  (first | exact q | (simp only [Option.getD_some]; exact q))
theorem w_Model_after_94 {rod : Nat → Nat × (Nat → Int32)} {d : Nat} {Q : Option MV → MH → Prop} {u0 : Option MV} {u1 : Option MV} {u2 : Option MV} {u3 : Option MV} {x4 : Int32} {u5 : Option MV} {u6 : Option MV} {u7 : Option MV} {u8 : Option MV} {h : MH}   (k : Wb rod d B_Model_after 96 [u0, u1, u2, u3, some (.inl x4), u5, u6, u7, u8] [.inl x4] h Q) : Wb rod d B_Model_after 94 [u0, u1, u2, u3, some (.inl x4), u5, u6, u7, u8] [] h Q := by
  refine Wb.go (fun r hr q => b_Model_after_94 ?_) k
  (first | exact q | (simp only [Option.getD_some]; exact q))
theorem w_Model_after_96 {rod : Nat → Nat × (Nat → Int32)} {d : Nat} {Q : Option MV → MH → Prop} {u0 : Option MV} {u1 : Option MV} {u2 : Option MV} {u3 : Option MV} {u4 : Option MV} {x5 : Int32} {u6 : Option MV} {u7 : Option MV} {x8 : Int32} {xs0 : Int32} {h : MH}  (g0 : okl [u0, u1, u2, u3, u4, some (.inl x5), u6, u7, some (.inl x8)] 4 = true) (k1 : x8.toInt ≤ x5.toInt → Wb rod d B_Model_after 110 [u0, u1, u2, u3, some (.inl xs0), some (.inl x5), u6, u7, some (.inl x8)] [] h Q) (k2 : ¬ x8.toInt ≤ x5.toInt → Wb rod d B_Model_after 105 [u0, u1, u2, u3, some (.inl xs0), some (.inl x5), u6, u7, some (.inl x8)] [] h Q) : Wb rod d B_Model_after 96 [u0, u1, u2, u3, u4, some (.inl x5), u6, u7, some (.inl x8)] [.inl xs0] h Q := by
  refine Wb.br (fun _ _ => b_Model_after_96 g0) (fun c => ?_) (fun c => ?_)
  · have c : (decide (x8 ≤ x5)) = true := by first | exact c | (simp only [Option.getD_some] at c; exact c)
    (first | exact (k1 (c_let c)) | (simp only [Option.getD_some]; exact (k1 (c_let c))))
  · have c : (decide (x8 ≤ x5)) = false := by first | exact c | (simp only [Option.getD_some] at c; exact c)
    (first | exact (k2 (c_lef c)) | (simp only [Option.getD_some]; exact (k2 (c_lef c))))
theorem w_Model_after_105 {rod : Nat → Nat × (Nat → Int32)} {d : Nat} {Q : Option MV → MH → Prop} {u0 : Option MV} {u1 : Option MV} {u2 : Option MV} {u3 : Option MV} {u4 : Option MV} {u5 : Option MV} {u6 : Option MV} {u7 : Option MV} {x8 : Int32} {h : MH}   (k : Wb rod d B_Model_after 112 [u0, u1, u2, u3, u4, u5, u6, u7, some (.inl x8)] [.inl x8] h Q) : Wb rod d B_Model_after 105 [u0, u1, u2, u3, u4, u5, u6, u7, some (.inl x8)] [] h Q := by
  refine Wb.go (fun r hr q => b_Model_after_105 ?_) k
  (first | exact q | (simp only [Option.getD_some]; exact q))
theorem w_Model_after_110 {rod : Nat → Nat × (Nat → Int32)} {d : Nat} {Q : Option MV → MH → Prop} {u0 : Option MV} {u1 : Option MV} {u2 : Option MV} {u3 : Option MV} {u4 : Option MV} {x5 : Int32} {u6 : Option MV} {u7 : Option MV} {u8 : Option MV} {h : MH}   (k : Wb rod d B_Model_after 112 [u0, u1, u2, u3, u4, some (.inl x5), u6, u7, u8] [.inl x5] h Q) : Wb rod d B_Model_after 110 [u0, u1, u2, u3, u4, some (.inl x5), u6, u7, u8] [] h Q := by
  refine Wb.go (fun r hr q => b_Model_after_110 ?_) k
  (first | exact q | (simp only [Option.getD_some]; exact q))
theorem w_Model_after_112 {rod : Nat → Nat × (Nat → Int32)} {d : Nat} {Q : Option MV → MH → Prop} {u1 : Option MV} {u2 : Option MV} {u3 : Option MV} {u4 : Option MV} {u5 : Option MV} {x6 : Int32} {x7 : Int32} {u8 : Option MV} {xs0 : Int32} {h : MH} (L : Lay h.2) (g0 : okl [some (.inr (.inr (.inl (some 84)))), u1, u2, u3, u4, u5, some (.inl x6), some (.inl x7), u8] 5 = true) (g1 : 0 ≤ x7.toInt ∧ x7.toInt < 8) (k1 : 0 ≤ (h.1 88 x7.toNatClampNeg).toInt → Wb rod d B_Model_after 133 [some (.inr (.inr (.inl (some 84)))), u1, u2, u3, u4, some (.inl xs0), some (.inl x6), some (.inl x7), u8] [.inl x6] h Q) (k2 : ¬ 0 ≤ (h.1 88 x7.toNatClampNeg).toInt → Wb rod d B_Model_after 126 [some (.inr (.inr (.inl (some 84)))), u1, u2, u3, u4, some (.inl xs0), some (.inl x6), some (.inl x7), u8] [.inl x6] h Q) : Wb rod d B_Model_after 112 [some (.inr (.inr (.inl (some 84)))), u1, u2, u3, u4, u5, some (.inl x6), some (.inl x7), u8] [.inl xs0] h Q := by
  refine Wb.br (fun _ _ => b_Model_after_112 g0 (Lay.o84 L) (Lay.a84_16 L g1)) (fun c => ?_) (fun c => ?_)
  · have c : (decide (0 ≤ (h.1 88 x7.toNatClampNeg))) = true := by first | exact c | (simp only [Option.getD_some, (Lay.r84_16 L)] at c; exact c)
    (first | exact (k1 (c_let c)) | (simp only [Option.getD_some, (Lay.r84_16 L)]; exact (k1 (c_let c))))
  · have c : (decide (0 ≤ (h.1 88 x7.toNatClampNeg))) = false := by first | exact c | (simp only [Option.getD_some, (Lay.r84_16 L)] at c; exact c)
    (first | exact (k2 (c_lef c)) | (simp only [Option.getD_some, (Lay.r84_16 L)]; exact (k2 (c_lef c))))
theorem w_Model_after_126 {rod : Nat → Nat × (Nat → Int32)} {d : Nat} {Q : Option MV → MH → Prop} {u0 : Option MV} {u1 : Option MV} {u2 : Option MV} {u3 : Option MV} {u4 : Option MV} {u5 : Option MV} {u6 : Option MV} {x7 : Int32} {u8 : Option MV} {xs0 : Int32} {h : MH}   (k : Wb rod d B_Model_after 134 [u0, u1, u2, u3, u4, u5, u6, some (.inl x7), u8] [.inl ((1 : Int32) <<< (x7 &&& 31)), .inl xs0] h Q) : Wb rod d B_Model_after 126 [u0, u1, u2, u3, u4, u5, u6, some (.inl x7), u8] [.inl xs0] h Q := by
  refine Wb.go (fun r hr q => b_Model_after_126 ?_) k
  (first | exact q | (simp only [Option.getD_some]; exact q))
theorem w_Model_after_133 {rod : Nat → Nat × (Nat → Int32)} {d : Nat} {Q : Option MV → MH → Prop} {u0 : Option MV} {u1 : Option MV} {u2 : Option MV} {u3 : Option MV} {u4 : Option MV} {u5 : Option MV} {u6 : Option MV} {u7 : Option MV} {u8 : Option MV} {xs0 : Int32} {h : MH}   (k : Wb rod d B_Model_after 134 [u0, u1, u2, u3, u4, u5, u6, u7, u8] [.inl (0 : Int32), .inl xs0] h Q) : Wb rod d B_Model_after 133 [u0, u1, u2, u3, u4, u5, u6, u7, u8] [.inl xs0] h Q := by
  refine Wb.go (fun r hr q => b_Model_after_133 ?_) k
  (first | exact q | (simp only [Option.getD_some]; exact q))
theorem w_Model_after_134 {rod : Nat → Nat × (Nat → Int32)} {d : Nat} {Q : Option MV → MH → Prop} {u0 : Option MV} {u1 : Option MV} {u2 : Option MV} {u3 : Option MV} {u4 : Option MV} {u5 : Option MV} {u6 : Option MV} {x7 : Int32} {u8 : Option MV} {xs0 : Int32} {xs1 : Int32} {h : MH}  (g0 : okl [u0, u1, u2, u3, u4, u5, u6, some (.inl x7), u8] 6 = true) (k : Wb rod d B_Model_after 56 [u0, u1, u2, u3, u4, u5, some (.inl (xs0 ||| xs1)), some (.inl (x7 + 1)), u8] [] h Q) : Wb rod d B_Model_after 134 [u0, u1, u2, u3, u4, u5, u6, some (.inl x7), u8] [.inl xs1, .inl xs0] h Q := by
  refine Wb.go (fun r hr q => b_Model_after_134 g0 ?_) k
  (first | exact q | (simp only [Option.getD_some]; exact q))
theorem w_Model_after_143 {rod : Nat → Nat × (Nat → Int32)} {d : Nat} {Q : Option MV → MH → Prop} {u0 : Option MV} {u1 : Option MV} {u2 : Option MV} {x3 : Int32} {u4 : Option MV} {u5 : Option MV} {u6 : Option MV} {u7 : Option MV} {u8 : Option MV} {h : MH}   (k1 : ¬ x3.toInt = 0 → Wb rod d B_Model_after 152 [u0, u1, u2, some (.inl x3), u4, u5, u6, u7, u8] [] h Q) (k2 : x3.toInt = 0 → Wb rod d B_Model_after 147 [u0, u1, u2, some (.inl x3), u4, u5, u6, u7, u8] [] h Q) : Wb rod d B_Model_after 143 [u0, u1, u2, some (.inl x3), u4, u5, u6, u7, u8] [] h Q := by
  refine Wb.br (fun _ _ => b_Model_after_143) (fun c => ?_) (fun c => ?_)
  · have c : (!(decide (x3 = 0))) = true := by first | exact c | (simp only [Option.getD_some] at c; exact c)
    (first | exact (k1 (c_net c)) | (simp only [Option.getD_some]; exact (k1 (c_net c))))
  · have c : (!(decide (x3 = 0))) = false := by first | exact c | (simp only [Option.getD_some] at c; exact c)
    (first | exact (k2 (c_nef c)) | (simp only [Option.getD_some]; exact (k2 (c_nef c))))
theorem w_Model_after_147 {rod : Nat → Nat × (Nat → Int32)} {d : Nat} {Q : Option MV → MH → Prop} {u0 : Option MV} {u1 : Option MV} {u2 : Option MV} {u3 : Option MV} {x4 : Int32} {u5 : Option MV} {u6 : Option MV} {u7 : Option MV} {u8 : Option MV} {h : MH}   (k : Wb rod d B_Model_after 154 [u0, u1, u2, u3, some (.inl x4), u5, u6, u7, u8] [.inl x4] h Q) : Wb rod d B_Model_after 147 [u0, u1, u2, u3, some (.inl x4), u5, u6, u7, u8] [] h Q := by
  refine Wb.go (fun r hr q => b_Model_after_147 ?_) k
  (first | exact q | (simp only [Option.getD_some]; exact q))
theorem w_Model_after_152 {rod : Nat → Nat × (Nat → Int32)} {d : Nat} {Q : Option MV → MH → Prop} {u0 : Option MV} {u1 : Option MV} {u2 : Option MV} {u3 : Option MV} {u4 : Option MV} {u5 : Option MV} {x6 : Int32} {u7 : Option MV} {u8 : Option MV} {h : MH}   (k : Wb rod d B_Model_after 154 [u0, u1, u2, u3, u4, u5, some (.inl x6), u7, u8] [.inl x6] h Q) : Wb rod d B_Model_after 152 [u0, u1, u2, u3, u4, u5, some (.inl x6), u7, u8] [] h Q := by
  refine Wb.go (fun r hr q => b_Model_after_152 ?_) k
  (first | exact q | (simp only [Option.getD_some]; exact q))
theorem w_Model_after_154 {rod : Nat → Nat × (Nat → Int32)} {d : Nat} {Q : Option MV → MH → Prop} {u0 : Option MV} {u1 : Option MV} {u2 : Option MV} {u3 : Option MV} {u4 : Option MV} {u5 : Option MV} {u6 : Option MV} {u7 : Option MV} {u8 : Option MV} {xs0 : Int32} {h : MH}   (q : Q (some (.inl xs0)) h) : Wb rod d B_Model_after 154 [u0, u1, u2, u3, u4, u5, u6, u7, u8] [.inl xs0] h Q := by
  refine Wb.ret (b_Model_after_154) ?_
  (first | exact q | (simp only [Option.getD_some]; exact q))
theorem n_Model_halfOf {rod : Nat → Nat × (Nat → Int32)} {d : Nat} {Q : Option MV → MH → Prop}  {h : MH} (k : Wb rod d B_Model_halfOf 0 [some (.inr (.inr (.inl (some 84)))), none, none] [] h Q) : Wc rod (d + 1) 243 [.inr (.inr (.inl (some 84)))] h Q := Wc.en (fun _ _ => e_Model_halfOf) k
theorem w_Model_halfOf_0 {rod : Nat → Nat × (Nat → Int32)} {d : Nat} {Q : Option MV → MH → Prop} {u1 : Option MV} {u2 : Option MV} {h : MH} (L : Lay h.2)  {Q1 : Option MV → MH → Prop} (c : Wc rod d 232 [.inr (.inr (.inl (some 84))), .inl (40 : Int32)] h Q1) (k : ∀ r1 h2, Q1 r1 h2 → Wb rod d B_Model_halfOf 6 [some (.inr (.inr (.inl (some 84)))), u1, u2] (r1.toList ++ []) h2 Q) : Wb rod d B_Model_halfOf 0 [some (.inr (.inr (.inl (some 84)))), u1, u2] [] h Q := by
  refine Wb.call (fun _ _ _ _ => b_Model_halfOf_0 (Lay.o84 L)) (Q1 := Q1) ?_ ?_
  · (first | exact c | (simp only [Option.getD_some]; exact c))
  · (first | exact k | (simp only [Option.getD_some]; exact k))
theorem w_Model_halfOf_6 {rod : Nat → Nat × (Nat → Int32)} {d : Nat} {Q : Option MV → MH → Prop} {u1 : Option MV} {u2 : Option MV} {h : MH} (L : Lay h.2)  {Q1 : Option MV → MH → Prop} (c : Wc rod d 232 [.inr (.inr (.inl (some 84))), .inl (0 : Int32)] h Q1) (k : ∀ r1 h2, Q1 r1 h2 → Wb rod d B_Model_halfOf 18 [some (.inr (.inr (.inl (some 84)))), some (.inl (h.1 84 27)), some (.inl (0 : Int32))] (r1.toList ++ []) h2 Q) : Wb rod d B_Model_halfOf 6 [some (.inr (.inr (.inl (some 84)))), u1, u2] [] h Q := by
  refine Wb.call (fun _ _ _ _ => b_Model_halfOf_6 (Lay.o84 L)) (Q1 := Q1) ?_ ?_
  · (first | exact c | (simp only [Option.getD_some]; exact c))
  · (first | exact k | (simp only [Option.getD_some]; exact k))
theorem w_Model_halfOf_18 {rod : Nat → Nat × (Nat → Int32)} {d : Nat} {Q : Option MV → MH → Prop} {x1 : Int32} {u2 : Option MV} {h : MH} (L : Lay h.2)  (k1 : x1.toInt ≤ ((2 : Int32) * (h.1 84 27)).toInt → Wb rod d B_Model_halfOf 39 [some (.inr (.inr (.inl (some 84)))), some (.inl x1), u2] [] h Q) (k2 : ¬ x1.toInt ≤ ((2 : Int32) * (h.1 84 27)).toInt → Wb rod d B_Model_halfOf 28 [some (.inr (.inr (.inl (some 84)))), some (.inl x1), u2] [] h Q) : Wb rod d B_Model_halfOf 18 [some (.inr (.inr (.inl (some 84)))), some (.inl x1), u2] [] h Q := by
  refine Wb.br (fun _ _ => b_Model_halfOf_18 (Lay.o84 L)) (fun c => ?_) (fun c => ?_)
  · have c : (decide (x1 ≤ ((2 : Int32) * (h.1 84 27)))) = true := by first | exact c | (simp only [Option.getD_some] at c; exact c)
    (first | exact (k1 (c_let c)) | (simp only [Option.getD_some]; exact (k1 (c_let c))))
  · have c : (decide (x1 ≤ ((2 : Int32) * (h.1 84 27)))) = false := by first | exact c | (simp only [Option.getD_some] at c; exact c)
    (first | exact (k2 (c_lef c)) | (simp only [Option.getD_some]; exact (k2 (c_lef c))))
theorem w_Model_halfOf_28 {rod : Nat → Nat × (Nat → Int32)} {d : Nat} {Q : Option MV → MH → Prop} {u1 : Option MV} {x2 : Int32} {h : MH} (L : Lay h.2) (g0 : okl [some (.inr (.inr (.inl (some 84)))), u1, some (.inl x2)] 2 = true) {Q1 : Option MV → MH → Prop} (c : Wc rod d 232 [.inr (.inr (.inl (some 84))), .inl (x2 + 1)] h Q1) (k : ∀ r1 h2, Q1 r1 h2 → Wb rod d B_Model_halfOf 36 [some (.inr (.inr (.inl (some 84)))), u1, some (.inl (x2 + 1))] (r1.toList ++ []) h2 Q) : Wb rod d B_Model_halfOf 28 [some (.inr (.inr (.inl (some 84)))), u1, some (.inl x2)] [] h Q := by
  refine Wb.call (fun _ _ _ _ => b_Model_halfOf_28 g0 (Lay.o84 L)) (Q1 := Q1) ?_ ?_
  · (first | exact c | (simp only [Option.getD_some]; exact c))
  · (first | exact k | (simp only [Option.getD_some]; exact k))
theorem w_Model_halfOf_36 {rod : Nat → Nat × (Nat → Int32)} {d : Nat} {Q : Option MV → MH → Prop} {u0 : Option MV} {u1 : Option MV} {u2 : Option MV} {h : MH}   (k : Wb rod d B_Model_halfOf 18 [u0, u1, u2] [] h Q) : Wb rod d B_Model_halfOf 36 [u0, u1, u2] [] h Q := by
  refine Wb.go (fun r hr q => b_Model_halfOf_36 ?_) k
  (first | exact q | (simp only [Option.getD_some]; exact q))
theorem w_Model_halfOf_39 {rod : Nat → Nat × (Nat → Int32)} {d : Nat} {Q : Option MV → MH → Prop} {u0 : Option MV} {u1 : Option MV} {x2 : Int32} {h : MH}   (q : Q (some (.inl x2)) h) : Wb rod d B_Model_halfOf 39 [u0, u1, some (.inl x2)] [] h Q := by
  refine Wb.ret (b_Model_halfOf_39) ?_
  (first | exact q | (simp only [Option.getD_some]; exact q))
theorem n_Model_priced {rod : Nat → Nat × (Nat → Int32)} {d : Nat} {Q : Option MV → MH → Prop} {x1 : Int32} {x2 : Int32} {x3 : Int32} {x4 : Int32} {h : MH} (k : Wb rod d B_Model_priced 0 [some (.inr (.inr (.inl (some 84)))), some (.inl x1), some (.inl x2), some (.inl x3), some (.inl x4), none, none] [] h Q) : Wc rod (d + 1) 244 [.inr (.inr (.inl (some 84))), .inl x1, .inl x2, .inl x3, .inl x4] h Q := Wc.en (fun _ _ => e_Model_priced) k
theorem w_Model_priced_0 {rod : Nat → Nat × (Nat → Int32)} {d : Nat} {Q : Option MV → MH → Prop} {x1 : Int32} {u2 : Option MV} {u3 : Option MV} {u4 : Option MV} {u5 : Option MV} {u6 : Option MV} {h : MH} (L : Lay h.2)  {Q1 : Option MV → MH → Prop} (c : Wc rod d 219 [.inr (.inr (.inl (some 84))), .inl x1] h Q1) (k : ∀ r1 h2, Q1 r1 h2 → Wb rod d B_Model_priced 5 [some (.inr (.inr (.inl (some 84)))), some (.inl x1), u2, u3, u4, u5, u6] (r1.toList ++ []) h2 Q) : Wb rod d B_Model_priced 0 [some (.inr (.inr (.inl (some 84)))), some (.inl x1), u2, u3, u4, u5, u6] [] h Q := by
  refine Wb.call (fun _ _ _ _ => b_Model_priced_0 (Lay.o84 L)) (Q1 := Q1) ?_ ?_
  · (first | exact c | (simp only [Option.getD_some]; exact c))
  · (first | exact k | (simp only [Option.getD_some]; exact k))
theorem w_Model_priced_5 {rod : Nat → Nat × (Nat → Int32)} {d : Nat} {Q : Option MV → MH → Prop} {u0 : Option MV} {u1 : Option MV} {u2 : Option MV} {u3 : Option MV} {u4 : Option MV} {u5 : Option MV} {u6 : Option MV} {xs0 : Int32} {h : MH}   (k1 : xs0.toInt = 0 → Wb rod d B_Model_priced 27 [u0, u1, u2, u3, u4, u5, u6] [] h Q) (k2 : ¬ xs0.toInt = 0 → Wb rod d B_Model_priced 8 [u0, u1, u2, u3, u4, u5, u6] [] h Q) : Wb rod d B_Model_priced 5 [u0, u1, u2, u3, u4, u5, u6] [.inl xs0] h Q := by
  refine Wb.br (fun _ _ => b_Model_priced_5) (fun c => ?_) (fun c => ?_)
  · have c : (decide (xs0 = 0)) = true := by first | exact c | (simp only [Option.getD_some] at c; exact c)
    (first | exact (k1 (c_eqt c)) | (simp only [Option.getD_some]; exact (k1 (c_eqt c))))
  · have c : (decide (xs0 = 0)) = false := by first | exact c | (simp only [Option.getD_some] at c; exact c)
    (first | exact (k2 (c_eqf c)) | (simp only [Option.getD_some]; exact (k2 (c_eqf c))))
theorem w_Model_priced_8 {rod : Nat → Nat × (Nat → Int32)} {d : Nat} {Q : Option MV → MH → Prop} {u0 : Option MV} {u1 : Option MV} {x2 : Int32} {u3 : Option MV} {u4 : Option MV} {u5 : Option MV} {u6 : Option MV} {h : MH}   {Q1 : Option MV → MH → Prop} (c : Wc rod d 193 [.inl x2, .inl (1 : Int32), .inl (60 : Int32)] h Q1) (k : ∀ r1 h2, Q1 r1 h2 → Wb rod d B_Model_priced 15 [u0, u1, some (.inl x2), u3, u4, u5, u6] (r1.toList ++ []) h2 Q) : Wb rod d B_Model_priced 8 [u0, u1, some (.inl x2), u3, u4, u5, u6] [] h Q := by
  refine Wb.call (fun _ _ _ _ => b_Model_priced_8) (Q1 := Q1) ?_ ?_
  · (first | exact c | (simp only [Option.getD_some]; exact c))
  · (first | exact k | (simp only [Option.getD_some]; exact k))
theorem w_Model_priced_15 {rod : Nat → Nat × (Nat → Int32)} {d : Nat} {Q : Option MV → MH → Prop} {u0 : Option MV} {u1 : Option MV} {u2 : Option MV} {u3 : Option MV} {u4 : Option MV} {u5 : Option MV} {u6 : Option MV} {xs0 : Int32} {h : MH}   (k1 : xs0.toInt = 0 → Wb rod d B_Model_priced 27 [u0, u1, u2, u3, u4, u5, u6] [] h Q) (k2 : ¬ xs0.toInt = 0 → Wb rod d B_Model_priced 18 [u0, u1, u2, u3, u4, u5, u6] [] h Q) : Wb rod d B_Model_priced 15 [u0, u1, u2, u3, u4, u5, u6] [.inl xs0] h Q := by
  refine Wb.br (fun _ _ => b_Model_priced_15) (fun c => ?_) (fun c => ?_)
  · have c : (decide (xs0 = 0)) = true := by first | exact c | (simp only [Option.getD_some] at c; exact c)
    (first | exact (k1 (c_eqt c)) | (simp only [Option.getD_some]; exact (k1 (c_eqt c))))
  · have c : (decide (xs0 = 0)) = false := by first | exact c | (simp only [Option.getD_some] at c; exact c)
    (first | exact (k2 (c_eqf c)) | (simp only [Option.getD_some]; exact (k2 (c_eqf c))))
theorem w_Model_priced_18 {rod : Nat → Nat × (Nat → Int32)} {d : Nat} {Q : Option MV → MH → Prop} {u0 : Option MV} {u1 : Option MV} {u2 : Option MV} {x3 : Int32} {u4 : Option MV} {u5 : Option MV} {u6 : Option MV} {h : MH}   {Q1 : Option MV → MH → Prop} (c : Wc rod d 193 [.inl x3, .inl (-1 : Int32), .inl (3 : Int32)] h Q1) (k : ∀ r1 h2, Q1 r1 h2 → Wb rod d B_Model_priced 24 [u0, u1, u2, some (.inl x3), u4, u5, u6] (r1.toList ++ []) h2 Q) : Wb rod d B_Model_priced 18 [u0, u1, u2, some (.inl x3), u4, u5, u6] [] h Q := by
  refine Wb.call (fun _ _ _ _ => b_Model_priced_18) (Q1 := Q1) ?_ ?_
  · (first | exact c | (simp only [Option.getD_some]; exact c))
  · (first | exact k | (simp only [Option.getD_some]; exact k))
theorem w_Model_priced_24 {rod : Nat → Nat × (Nat → Int32)} {d : Nat} {Q : Option MV → MH → Prop} {u0 : Option MV} {u1 : Option MV} {u2 : Option MV} {u3 : Option MV} {u4 : Option MV} {u5 : Option MV} {u6 : Option MV} {xs0 : Int32} {h : MH}   (k1 : ¬ xs0.toInt = 0 → Wb rod d B_Model_priced 29 [u0, u1, u2, u3, u4, u5, u6] [] h Q) (k2 : xs0.toInt = 0 → Wb rod d B_Model_priced 27 [u0, u1, u2, u3, u4, u5, u6] [] h Q) : Wb rod d B_Model_priced 24 [u0, u1, u2, u3, u4, u5, u6] [.inl xs0] h Q := by
  refine Wb.br (fun _ _ => b_Model_priced_24) (fun c => ?_) (fun c => ?_)
  · have c : (!(decide (xs0 = 0))) = true := by first | exact c | (simp only [Option.getD_some] at c; exact c)
    (first | exact (k1 (c_net c)) | (simp only [Option.getD_some]; exact (k1 (c_net c))))
  · have c : (!(decide (xs0 = 0))) = false := by first | exact c | (simp only [Option.getD_some] at c; exact c)
    (first | exact (k2 (c_nef c)) | (simp only [Option.getD_some]; exact (k2 (c_nef c))))
theorem w_Model_priced_27 {rod : Nat → Nat × (Nat → Int32)} {d : Nat} {Q : Option MV → MH → Prop} {u0 : Option MV} {u1 : Option MV} {u2 : Option MV} {u3 : Option MV} {u4 : Option MV} {u5 : Option MV} {u6 : Option MV} {h : MH}   (q : Q (some (.inl (-1 : Int32))) h) : Wb rod d B_Model_priced 27 [u0, u1, u2, u3, u4, u5, u6] [] h Q := by
  refine Wb.ret (b_Model_priced_27) ?_
  (first | exact q | (simp only [Option.getD_some]; exact q))
theorem w_Model_priced_29 {rod : Nat → Nat × (Nat → Int32)} {d : Nat} {Q : Option MV → MH → Prop} {u1 : Option MV} {u2 : Option MV} {u3 : Option MV} {u4 : Option MV} {u5 : Option MV} {u6 : Option MV} {h : MH} (L : Lay h.2)  {Q1 : Option MV → MH → Prop} (c : Wc rod d 227 [.inr (.inr (.inl (some 84)))] h Q1) (k : ∀ r1 h2, Q1 r1 h2 → Wb rod d B_Model_priced 33 [some (.inr (.inr (.inl (some 84)))), u1, u2, u3, u4, u5, u6] (r1.toList ++ []) h2 Q) : Wb rod d B_Model_priced 29 [some (.inr (.inr (.inl (some 84)))), u1, u2, u3, u4, u5, u6] [] h Q := by
  refine Wb.call (fun _ _ _ _ => b_Model_priced_29 (Lay.o84 L)) (Q1 := Q1) ?_ ?_
  · (first | exact c | (simp only [Option.getD_some]; exact c))
  · (first | exact k | (simp only [Option.getD_some]; exact k))
theorem w_Model_priced_33 {rod : Nat → Nat × (Nat → Int32)} {d : Nat} {Q : Option MV → MH → Prop} {u0 : Option MV} {u1 : Option MV} {u2 : Option MV} {u3 : Option MV} {u4 : Option MV} {u5 : Option MV} {u6 : Option MV} {h : MH}  (g0 : okl [u0, u1, u2, u3, u4, u5, u6] 5 = true) (k : Wb rod d B_Model_priced 39 [u0, u1, u2, u3, u4, some (.inl (0 : Int32)), some (.inl (1 : Int32))] [] h Q) : Wb rod d B_Model_priced 33 [u0, u1, u2, u3, u4, u5, u6] [] h Q := by
  refine Wb.go (fun r hr q => b_Model_priced_33 g0 ?_) k
  (first | exact q | (simp only [Option.getD_some]; exact q))
theorem w_Model_priced_39 {rod : Nat → Nat × (Nat → Int32)} {d : Nat} {Q : Option MV → MH → Prop} {u0 : Option MV} {u1 : Option MV} {u2 : Option MV} {u3 : Option MV} {u4 : Option MV} {u5 : Option MV} {x6 : Int32} {h : MH}   (k1 : 100 ≤ x6.toInt → Wb rod d B_Model_priced 80 [u0, u1, u2, u3, u4, u5, some (.inl x6)] [] h Q) (k2 : ¬ 100 ≤ x6.toInt → Wb rod d B_Model_priced 46 [u0, u1, u2, u3, u4, u5, some (.inl x6)] [] h Q) : Wb rod d B_Model_priced 39 [u0, u1, u2, u3, u4, u5, some (.inl x6)] [] h Q := by
  refine Wb.br (fun _ _ => b_Model_priced_39) (fun c => ?_) (fun c => ?_)
  · have c : (decide ((100 : Int32) ≤ x6)) = true := by first | exact c | (simp only [Option.getD_some] at c; exact c)
    (first | exact (k1 (c_let c)) | (simp only [Option.getD_some]; exact (k1 (c_let c))))
  · have c : (decide ((100 : Int32) ≤ x6)) = false := by first | exact c | (simp only [Option.getD_some] at c; exact c)
    (first | exact (k2 (c_lef c)) | (simp only [Option.getD_some]; exact (k2 (c_lef c))))
theorem w_Model_priced_46 {rod : Nat → Nat × (Nat → Int32)} {d : Nat} {Q : Option MV → MH → Prop} {u1 : Option MV} {x2 : Int32} {x3 : Int32} {u4 : Option MV} {u5 : Option MV} {x6 : Int32} {h : MH} (L : Lay h.2)  {Q1 : Option MV → MH → Prop} (c : Wc rod d 245 [.inr (.inr (.inl (some 84))), .inl x2, .inl x3, .inl x6] h Q1) (k : ∀ r1 h2, Q1 r1 h2 → Wb rod d B_Model_priced 54 [some (.inr (.inr (.inl (some 84)))), u1, some (.inl x2), some (.inl x3), u4, u5, some (.inl x6)] (r1.toList ++ []) h2 Q) : Wb rod d B_Model_priced 46 [some (.inr (.inr (.inl (some 84)))), u1, some (.inl x2), some (.inl x3), u4, u5, some (.inl x6)] [] h Q := by
  refine Wb.call (fun _ _ _ _ => b_Model_priced_46 (Lay.o84 L)) (Q1 := Q1) ?_ ?_
  · (first | exact c | (simp only [Option.getD_some]; exact c))
  · (first | exact k | (simp only [Option.getD_some]; exact k))
theorem w_Model_priced_54 {rod : Nat → Nat × (Nat → Int32)} {d : Nat} {Q : Option MV → MH → Prop} {u1 : Option MV} {x2 : Int32} {x3 : Int32} {u4 : Option MV} {x5 : Int32} {u6 : Option MV} {xs0 : Int32} {h : MH} (L : Lay h.2)  {Q1 : Option MV → MH → Prop} (c : Wc rod d 245 [.inr (.inr (.inl (some 84))), .inl x2, .inl x3, .inl x5] h Q1) (k : ∀ r1 h2, Q1 r1 h2 → Wb rod d B_Model_priced 62 [some (.inr (.inr (.inl (some 84)))), u1, some (.inl x2), some (.inl x3), u4, some (.inl x5), u6] (r1.toList ++ [.inl xs0]) h2 Q) : Wb rod d B_Model_priced 54 [some (.inr (.inr (.inl (some 84)))), u1, some (.inl x2), some (.inl x3), u4, some (.inl x5), u6] [.inl xs0] h Q := by
  refine Wb.call (fun _ _ _ _ => b_Model_priced_54 (Lay.o84 L)) (Q1 := Q1) ?_ ?_
  · (first | exact c | (simp only [Option.getD_some]; exact c))
  · (first | exact k | (simp only [Option.getD_some]; exact k))
theorem w_Model_priced_62 {rod : Nat → Nat × (Nat → Int32)} {d : Nat} {Q : Option MV → MH → Prop} {u0 : Option MV} {u1 : Option MV} {u2 : Option MV} {u3 : Option MV} {u4 : Option MV} {u5 : Option MV} {u6 : Option MV} {xs0 : Int32} {xs1 : Int32} {h : MH}   (k1 : xs0.toInt ≤ xs1.toInt → Wb rod d B_Model_priced 70 [u0, u1, u2, u3, u4, u5, u6] [] h Q) (k2 : ¬ xs0.toInt ≤ xs1.toInt → Wb rod d B_Model_priced 65 [u0, u1, u2, u3, u4, u5, u6] [] h Q) : Wb rod d B_Model_priced 62 [u0, u1, u2, u3, u4, u5, u6] [.inl xs1, .inl xs0] h Q := by
  refine Wb.br (fun _ _ => b_Model_priced_62) (fun c => ?_) (fun c => ?_)
  · have c : (decide (xs0 ≤ xs1)) = true := by first | exact c | (simp only [Option.getD_some] at c; exact c)
    (first | exact (k1 (c_let c)) | (simp only [Option.getD_some]; exact (k1 (c_let c))))
  · have c : (decide (xs0 ≤ xs1)) = false := by first | exact c | (simp only [Option.getD_some] at c; exact c)
    (first | exact (k2 (c_lef c)) | (simp only [Option.getD_some]; exact (k2 (c_lef c))))
theorem w_Model_priced_65 {rod : Nat → Nat × (Nat → Int32)} {d : Nat} {Q : Option MV → MH → Prop} {u0 : Option MV} {u1 : Option MV} {u2 : Option MV} {u3 : Option MV} {u4 : Option MV} {u5 : Option MV} {x6 : Int32} {h : MH}   (k : Wb rod d B_Model_priced 72 [u0, u1, u2, u3, u4, u5, some (.inl x6)] [.inl x6] h Q) : Wb rod d B_Model_priced 65 [u0, u1, u2, u3, u4, u5, some (.inl x6)] [] h Q := by
  refine Wb.go (fun r hr q => b_Model_priced_65 ?_) k
  (first | exact q | (simp only [Option.getD_some]; exact q))
theorem w_Model_priced_70 {rod : Nat → Nat × (Nat → Int32)} {d : Nat} {Q : Option MV → MH → Prop} {u0 : Option MV} {u1 : Option MV} {u2 : Option MV} {u3 : Option MV} {u4 : Option MV} {x5 : Int32} {u6 : Option MV} {h : MH}   (k : Wb rod d B_Model_priced 72 [u0, u1, u2, u3, u4, some (.inl x5), u6] [.inl x5] h Q) : Wb rod d B_Model_priced 70 [u0, u1, u2, u3, u4, some (.inl x5), u6] [] h Q := by
  refine Wb.go (fun r hr q => b_Model_priced_70 ?_) k
  (first | exact q | (simp only [Option.getD_some]; exact q))
theorem w_Model_priced_72 {rod : Nat → Nat × (Nat → Int32)} {d : Nat} {Q : Option MV → MH → Prop} {u0 : Option MV} {u1 : Option MV} {u2 : Option MV} {u3 : Option MV} {u4 : Option MV} {u5 : Option MV} {x6 : Int32} {xs0 : Int32} {h : MH}  (g0 : okl [u0, u1, u2, u3, u4, u5, some (.inl x6)] 5 = true) (k : Wb rod d B_Model_priced 39 [u0, u1, u2, u3, u4, some (.inl xs0), some (.inl (x6 + 1))] [] h Q) : Wb rod d B_Model_priced 72 [u0, u1, u2, u3, u4, u5, some (.inl x6)] [.inl xs0] h Q := by
  refine Wb.go (fun r hr q => b_Model_priced_72 g0 ?_) k
  (first | exact q | (simp only [Option.getD_some]; exact q))
theorem w_Model_priced_80 {rod : Nat → Nat × (Nat → Int32)} {d : Nat} {Q : Option MV → MH → Prop} {u0 : Option MV} {u1 : Option MV} {u2 : Option MV} {u3 : Option MV} {x4 : Int32} {u5 : Option MV} {u6 : Option MV} {h : MH}   (k1 : x4.toInt = 0 → Wb rod d B_Model_priced 96 [u0, u1, u2, u3, some (.inl x4), u5, u6] [] h Q) (k2 : ¬ x4.toInt = 0 → Wb rod d B_Model_priced 85 [u0, u1, u2, u3, some (.inl x4), u5, u6] [] h Q) : Wb rod d B_Model_priced 80 [u0, u1, u2, u3, some (.inl x4), u5, u6] [] h Q := by
  refine Wb.br (fun _ _ => b_Model_priced_80) (fun c => ?_) (fun c => ?_)
  · have c : (decide (x4 = 0)) = true := by first | exact c | (simp only [Option.getD_some] at c; exact c)
    (first | exact (k1 (c_eqt c)) | (simp only [Option.getD_some]; exact (k1 (c_eqt c))))
  · have c : (decide (x4 = 0)) = false := by first | exact c | (simp only [Option.getD_some] at c; exact c)
    (first | exact (k2 (c_eqf c)) | (simp only [Option.getD_some]; exact (k2 (c_eqf c))))
theorem w_Model_priced_85 {rod : Nat → Nat × (Nat → Int32)} {d : Nat} {Q : Option MV → MH → Prop} {u1 : Option MV} {x2 : Int32} {x3 : Int32} {u4 : Option MV} {x5 : Int32} {u6 : Option MV} {h : MH} (L : Lay h.2)  {Q1 : Option MV → MH → Prop} (c : Wc rod d 245 [.inr (.inr (.inl (some 84))), .inl x2, .inl x3, .inl x5] h Q1) (k : ∀ r1 h2, Q1 r1 h2 → Wb rod d B_Model_priced 93 [some (.inr (.inr (.inl (some 84)))), u1, some (.inl x2), some (.inl x3), u4, some (.inl x5), u6] (r1.toList ++ []) h2 Q) : Wb rod d B_Model_priced 85 [some (.inr (.inr (.inl (some 84)))), u1, some (.inl x2), some (.inl x3), u4, some (.inl x5), u6] [] h Q := by
  refine Wb.call (fun _ _ _ _ => b_Model_priced_85 (Lay.o84 L)) (Q1 := Q1) ?_ ?_
  · (first | exact c | (simp only [Option.getD_some]; exact c))
  · (first | exact k | (simp only [Option.getD_some]; exact k))
theorem w_Model_priced_93 {rod : Nat → Nat × (Nat → Int32)} {d : Nat} {Q : Option MV → MH → Prop} {u0 : Option MV} {u1 : Option MV} {u2 : Option MV} {u3 : Option MV} {u4 : Option MV} {u5 : Option MV} {u6 : Option MV} {xs0 : Int32} {h : MH}   (k : Wb rod d B_Model_priced 98 [u0, u1, u2, u3, u4, u5, u6] [.inl xs0] h Q) : Wb rod d B_Model_priced 93 [u0, u1, u2, u3, u4, u5, u6] [.inl xs0] h Q := by
  refine Wb.go (fun r hr q => b_Model_priced_93 ?_) k
  (first | exact q | (simp only [Option.getD_some]; exact q))
theorem w_Model_priced_96 {rod : Nat → Nat × (Nat → Int32)} {d : Nat} {Q : Option MV → MH → Prop} {u0 : Option MV} {u1 : Option MV} {u2 : Option MV} {u3 : Option MV} {u4 : Option MV} {x5 : Int32} {u6 : Option MV} {h : MH}   (k : Wb rod d B_Model_priced 98 [u0, u1, u2, u3, u4, some (.inl x5), u6] [.inl x5] h Q) : Wb rod d B_Model_priced 96 [u0, u1, u2, u3, u4, some (.inl x5), u6] [] h Q := by
  refine Wb.go (fun r hr q => b_Model_priced_96 ?_) k
  (first | exact q | (simp only [Option.getD_some]; exact q))
theorem w_Model_priced_98 {rod : Nat → Nat × (Nat → Int32)} {d : Nat} {Q : Option MV → MH → Prop} {u0 : Option MV} {u1 : Option MV} {u2 : Option MV} {u3 : Option MV} {u4 : Option MV} {u5 : Option MV} {u6 : Option MV} {xs0 : Int32} {h : MH}   (q : Q (some (.inl xs0)) h) : Wb rod d B_Model_priced 98 [u0, u1, u2, u3, u4, u5, u6] [.inl xs0] h Q := by
  refine Wb.ret (b_Model_priced_98) ?_
  (first | exact q | (simp only [Option.getD_some]; exact q))
theorem n_Model_comesIn {rod : Nat → Nat × (Nat → Int32)} {d : Nat} {Q : Option MV → MH → Prop} {x1 : Int32} {x2 : Int32} {x3 : Int32} {h : MH} (k : Wb rod d B_Model_comesIn 0 [some (.inr (.inr (.inl (some 84)))), some (.inl x1), some (.inl x2), some (.inl x3), none, none] [] h Q) : Wc rod (d + 1) 245 [.inr (.inr (.inl (some 84))), .inl x1, .inl x2, .inl x3] h Q := Wc.en (fun _ _ => e_Model_comesIn) k
theorem w_Model_comesIn_0 {rod : Nat → Nat × (Nat → Int32)} {d : Nat} {Q : Option MV → MH → Prop} {u0 : Option MV} {u1 : Option MV} {u2 : Option MV} {u3 : Option MV} {u4 : Option MV} {u5 : Option MV} {h : MH}  (g0 : okl [u0, u1, u2, u3, u4, u5] 4 = true) (k : Wb rod d B_Model_comesIn 6 [u0, u1, u2, u3, some (.inl (0 : Int32)), some (.inl (0 : Int32))] [] h Q) : Wb rod d B_Model_comesIn 0 [u0, u1, u2, u3, u4, u5] [] h Q := by
  refine Wb.go (fun r hr q => b_Model_comesIn_0 g0 ?_) k
  (first | exact q | (simp only [Option.getD_some]; exact q))
theorem w_Model_comesIn_6 {rod : Nat → Nat × (Nat → Int32)} {d : Nat} {Q : Option MV → MH → Prop} {u1 : Option MV} {u2 : Option MV} {u3 : Option MV} {u4 : Option MV} {x5 : Int32} {h : MH} (L : Lay h.2)  (k1 : (h.1 84 14).toInt ≤ x5.toInt → Wb rod d B_Model_comesIn 58 [some (.inr (.inr (.inl (some 84)))), u1, u2, u3, u4, some (.inl x5)] [] h Q) (k2 : ¬ (h.1 84 14).toInt ≤ x5.toInt → Wb rod d B_Model_comesIn 15 [some (.inr (.inr (.inl (some 84)))), u1, u2, u3, u4, some (.inl x5)] [] h Q) : Wb rod d B_Model_comesIn 6 [some (.inr (.inr (.inl (some 84)))), u1, u2, u3, u4, some (.inl x5)] [] h Q := by
  refine Wb.br (fun _ _ => b_Model_comesIn_6 (Lay.o84 L)) (fun c => ?_) (fun c => ?_)
  · have c : (decide ((h.1 84 14) ≤ x5)) = true := by first | exact c | (simp only [Option.getD_some] at c; exact c)
    (first | exact (k1 (c_let c)) | (simp only [Option.getD_some]; exact (k1 (c_let c))))
  · have c : (decide ((h.1 84 14) ≤ x5)) = false := by first | exact c | (simp only [Option.getD_some] at c; exact c)
    (first | exact (k2 (c_lef c)) | (simp only [Option.getD_some]; exact (k2 (c_lef c))))
theorem w_Model_comesIn_15 {rod : Nat → Nat × (Nat → Int32)} {d : Nat} {Q : Option MV → MH → Prop} {u0 : Option MV} {u1 : Option MV} {x2 : Int32} {u3 : Option MV} {x4 : Int32} {u5 : Option MV} {h : MH}   (k1 : x2.toInt = (-1) → Wb rod d B_Model_comesIn 33 [u0, u1, some (.inl x2), u3, some (.inl x4), u5] [.inl x4] h Q) (k2 : ¬ x2.toInt = (-1) → Wb rod d B_Model_comesIn 22 [u0, u1, some (.inl x2), u3, some (.inl x4), u5] [.inl x4] h Q) : Wb rod d B_Model_comesIn 15 [u0, u1, some (.inl x2), u3, some (.inl x4), u5] [] h Q := by
  refine Wb.br (fun _ _ => b_Model_comesIn_15) (fun c => ?_) (fun c => ?_)
  · have c : (decide (x2 = (-1 : Int32))) = true := by first | exact c | (simp only [Option.getD_some] at c; exact c)
    (first | exact (k1 (c_eqt c)) | (simp only [Option.getD_some]; exact (k1 (c_eqt c))))
  · have c : (decide (x2 = (-1 : Int32))) = false := by first | exact c | (simp only [Option.getD_some] at c; exact c)
    (first | exact (k2 (c_eqf c)) | (simp only [Option.getD_some]; exact (k2 (c_eqf c))))
theorem w_Model_comesIn_22 {rod : Nat → Nat × (Nat → Int32)} {d : Nat} {Q : Option MV → MH → Prop} {u1 : Option MV} {u2 : Option MV} {u3 : Option MV} {u4 : Option MV} {x5 : Int32} {xs0 : Int32} {h : MH} (L : Lay h.2)  {Q1 : Option MV → MH → Prop} (c : Wc rod d 221 [.inr (.inr (.inl (some 84))), .inl x5, .inl (0 : Int32)] h Q1) (k : ∀ r1 h2, Q1 r1 h2 → Wb rod d B_Model_comesIn 29 [some (.inr (.inr (.inl (some 84)))), u1, u2, u3, u4, some (.inl x5)] (r1.toList ++ [.inl xs0]) h2 Q) : Wb rod d B_Model_comesIn 22 [some (.inr (.inr (.inl (some 84)))), u1, u2, u3, u4, some (.inl x5)] [.inl xs0] h Q := by
  refine Wb.call (fun _ _ _ _ => b_Model_comesIn_22 (Lay.o84 L)) (Q1 := Q1) ?_ ?_
  · (first | exact c | (simp only [Option.getD_some]; exact c))
  · (first | exact k | (simp only [Option.getD_some]; exact k))
theorem w_Model_comesIn_29 {rod : Nat → Nat × (Nat → Int32)} {d : Nat} {Q : Option MV → MH → Prop} {u0 : Option MV} {u1 : Option MV} {x2 : Int32} {u3 : Option MV} {u4 : Option MV} {u5 : Option MV} {xs0 : Int32} {xs1 : Int32} {h : MH}   (k1 : ¬ xs1.toInt = x2.toInt → Wb rod d B_Model_comesIn 48 [u0, u1, some (.inl x2), u3, u4, u5] [.inl xs0] h Q) (k2 : xs1.toInt = x2.toInt → Wb rod d B_Model_comesIn 33 [u0, u1, some (.inl x2), u3, u4, u5] [.inl xs0] h Q) : Wb rod d B_Model_comesIn 29 [u0, u1, some (.inl x2), u3, u4, u5] [.inl xs1, .inl xs0] h Q := by
  refine Wb.br (fun _ _ => b_Model_comesIn_29) (fun c => ?_) (fun c => ?_)
  · have c : (!(decide (xs1 = x2))) = true := by first | exact c | (simp only [Option.getD_some] at c; exact c)
    (first | exact (k1 (c_net c)) | (simp only [Option.getD_some]; exact (k1 (c_net c))))
  · have c : (!(decide (xs1 = x2))) = false := by first | exact c | (simp only [Option.getD_some] at c; exact c)
    (first | exact (k2 (c_nef c)) | (simp only [Option.getD_some]; exact (k2 (c_nef c))))
theorem w_Model_comesIn_33 {rod : Nat → Nat × (Nat → Int32)} {d : Nat} {Q : Option MV → MH → Prop} {x1 : Int32} {u2 : Option MV} {x3 : Int32} {u4 : Option MV} {x5 : Int32} {xs0 : Int32} {h : MH} (L : Lay h.2)  {Q1 : Option MV → MH → Prop} (c : Wc rod d 228 [.inr (.inr (.inl (some 84))), .inl x5, .inl x1, .inl x3] h Q1) (k : ∀ r1 h2, Q1 r1 h2 → Wb rod d B_Model_comesIn 41 [some (.inr (.inr (.inl (some 84)))), some (.inl x1), u2, some (.inl x3), u4, some (.inl x5)] (r1.toList ++ [.inl xs0]) h2 Q) : Wb rod d B_Model_comesIn 33 [some (.inr (.inr (.inl (some 84)))), some (.inl x1), u2, some (.inl x3), u4, some (.inl x5)] [.inl xs0] h Q := by
  refine Wb.call (fun _ _ _ _ => b_Model_comesIn_33 (Lay.o84 L)) (Q1 := Q1) ?_ ?_
  · (first | exact c | (simp only [Option.getD_some]; exact c))
  · (first | exact k | (simp only [Option.getD_some]; exact k))
theorem w_Model_comesIn_41 {rod : Nat → Nat × (Nat → Int32)} {d : Nat} {Q : Option MV → MH → Prop} {u0 : Option MV} {u1 : Option MV} {u2 : Option MV} {u3 : Option MV} {u4 : Option MV} {u5 : Option MV} {xs0 : Int32} {xs1 : Int32} {h : MH}   (k1 : xs1.toInt = 0 → Wb rod d B_Model_comesIn 48 [u0, u1, u2, u3, u4, u5] [.inl xs0] h Q) (k2 : ¬ xs1.toInt = 0 → Wb rod d B_Model_comesIn 44 [u0, u1, u2, u3, u4, u5] [.inl xs0] h Q) : Wb rod d B_Model_comesIn 41 [u0, u1, u2, u3, u4, u5] [.inl xs1, .inl xs0] h Q := by
  refine Wb.br (fun _ _ => b_Model_comesIn_41) (fun c => ?_) (fun c => ?_)
  · have c : (decide (xs1 = 0)) = true := by first | exact c | (simp only [Option.getD_some] at c; exact c)
    (first | exact (k1 (c_eqt c)) | (simp only [Option.getD_some]; exact (k1 (c_eqt c))))
  · have c : (decide (xs1 = 0)) = false := by first | exact c | (simp only [Option.getD_some] at c; exact c)
    (first | exact (k2 (c_eqf c)) | (simp only [Option.getD_some]; exact (k2 (c_eqf c))))
theorem w_Model_comesIn_44 {rod : Nat → Nat × (Nat → Int32)} {d : Nat} {Q : Option MV → MH → Prop} {u0 : Option MV} {u1 : Option MV} {u2 : Option MV} {u3 : Option MV} {u4 : Option MV} {u5 : Option MV} {xs0 : Int32} {h : MH}   (k : Wb rod d B_Model_comesIn 49 [u0, u1, u2, u3, u4, u5] [.inl (1 : Int32), .inl xs0] h Q) : Wb rod d B_Model_comesIn 44 [u0, u1, u2, u3, u4, u5] [.inl xs0] h Q := by
  refine Wb.go (fun r hr q => b_Model_comesIn_44 ?_) k
  (first | exact q | (simp only [Option.getD_some]; exact q))
theorem w_Model_comesIn_48 {rod : Nat → Nat × (Nat → Int32)} {d : Nat} {Q : Option MV → MH → Prop} {u0 : Option MV} {u1 : Option MV} {u2 : Option MV} {u3 : Option MV} {u4 : Option MV} {u5 : Option MV} {xs0 : Int32} {h : MH}   (k : Wb rod d B_Model_comesIn 49 [u0, u1, u2, u3, u4, u5] [.inl (0 : Int32), .inl xs0] h Q) : Wb rod d B_Model_comesIn 48 [u0, u1, u2, u3, u4, u5] [.inl xs0] h Q := by
  refine Wb.go (fun r hr q => b_Model_comesIn_48 ?_) k
  (first | exact q | (simp only [Option.getD_some]; exact q))
theorem w_Model_comesIn_49 {rod : Nat → Nat × (Nat → Int32)} {d : Nat} {Q : Option MV → MH → Prop} {u0 : Option MV} {u1 : Option MV} {u2 : Option MV} {u3 : Option MV} {u4 : Option MV} {x5 : Int32} {xs0 : Int32} {xs1 : Int32} {h : MH}  (g0 : okl [u0, u1, u2, u3, u4, some (.inl x5)] 4 = true) (k : Wb rod d B_Model_comesIn 6 [u0, u1, u2, u3, some (.inl (xs0 + xs1)), some (.inl (x5 + 1))] [] h Q) : Wb rod d B_Model_comesIn 49 [u0, u1, u2, u3, u4, some (.inl x5)] [.inl xs1, .inl xs0] h Q := by
  refine Wb.go (fun r hr q => b_Model_comesIn_49 g0 ?_) k
  (first | exact q | (simp only [Option.getD_some]; exact q))
theorem w_Model_comesIn_58 {rod : Nat → Nat × (Nat → Int32)} {d : Nat} {Q : Option MV → MH → Prop} {u0 : Option MV} {u1 : Option MV} {u2 : Option MV} {x3 : Int32} {x4 : Int32} {u5 : Option MV} {h : MH}   (q : Q (some (.inl (x4 * x3))) h) : Wb rod d B_Model_comesIn 58 [u0, u1, u2, some (.inl x3), some (.inl x4), u5] [] h Q := by
  refine Wb.ret (b_Model_comesIn_58) ?_
  (first | exact q | (simp only [Option.getD_some]; exact q))
theorem n_Model_days {rod : Nat → Nat × (Nat → Int32)} {d : Nat} {Q : Option MV → MH → Prop} {x1 : Int32} {x2 : Int32} {x3 : Int32} {h : MH} (k : Wb rod d B_Model_days 0 [some (.inr (.inr (.inl (some 84)))), some (.inl x1), some (.inl x2), some (.inl x3)] [] h Q) : Wc rod (d + 1) 246 [.inr (.inr (.inl (some 84))), .inl x1, .inl x2, .inl x3] h Q := Wc.en (fun _ _ => e_Model_days) k
theorem w_Model_days_0 {rod : Nat → Nat × (Nat → Int32)} {d : Nat} {Q : Option MV → MH → Prop} {x1 : Int32} {u2 : Option MV} {u3 : Option MV} {h : MH} (L : Lay h.2)  {Q1 : Option MV → MH → Prop} (c : Wc rod d 219 [.inr (.inr (.inl (some 84))), .inl x1] h Q1) (k : ∀ r1 h2, Q1 r1 h2 → Wb rod d B_Model_days 5 [some (.inr (.inr (.inl (some 84)))), some (.inl x1), u2, u3] (r1.toList ++ []) h2 Q) : Wb rod d B_Model_days 0 [some (.inr (.inr (.inl (some 84)))), some (.inl x1), u2, u3] [] h Q := by
  refine Wb.call (fun _ _ _ _ => b_Model_days_0 (Lay.o84 L)) (Q1 := Q1) ?_ ?_
  · (first | exact c | (simp only [Option.getD_some]; exact c))
  · (first | exact k | (simp only [Option.getD_some]; exact k))
theorem w_Model_days_5 {rod : Nat → Nat × (Nat → Int32)} {d : Nat} {Q : Option MV → MH → Prop} {u0 : Option MV} {u1 : Option MV} {u2 : Option MV} {u3 : Option MV} {xs0 : Int32} {h : MH}   (k1 : xs0.toInt = 0 → Wb rod d B_Model_days 24 [u0, u1, u2, u3] [] h Q) (k2 : ¬ xs0.toInt = 0 → Wb rod d B_Model_days 8 [u0, u1, u2, u3] [] h Q) : Wb rod d B_Model_days 5 [u0, u1, u2, u3] [.inl xs0] h Q := by
  refine Wb.br (fun _ _ => b_Model_days_5) (fun c => ?_) (fun c => ?_)
  · have c : (decide (xs0 = 0)) = true := by first | exact c | (simp only [Option.getD_some] at c; exact c)
    (first | exact (k1 (c_eqt c)) | (simp only [Option.getD_some]; exact (k1 (c_eqt c))))
  · have c : (decide (xs0 = 0)) = false := by first | exact c | (simp only [Option.getD_some] at c; exact c)
    (first | exact (k2 (c_eqf c)) | (simp only [Option.getD_some]; exact (k2 (c_eqf c))))
theorem w_Model_days_8 {rod : Nat → Nat × (Nat → Int32)} {d : Nat} {Q : Option MV → MH → Prop} {u1 : Option MV} {x2 : Int32} {u3 : Option MV} {h : MH} (L : Lay h.2)  {Q1 : Option MV → MH → Prop} (c : Wc rod d 224 [.inr (.inr (.inl (some 84))), .inl x2] h Q1) (k : ∀ r1 h2, Q1 r1 h2 → Wb rod d B_Model_days 13 [some (.inr (.inr (.inl (some 84)))), u1, some (.inl x2), u3] (r1.toList ++ []) h2 Q) : Wb rod d B_Model_days 8 [some (.inr (.inr (.inl (some 84)))), u1, some (.inl x2), u3] [] h Q := by
  refine Wb.call (fun _ _ _ _ => b_Model_days_8 (Lay.o84 L)) (Q1 := Q1) ?_ ?_
  · (first | exact c | (simp only [Option.getD_some]; exact c))
  · (first | exact k | (simp only [Option.getD_some]; exact k))
theorem w_Model_days_13 {rod : Nat → Nat × (Nat → Int32)} {d : Nat} {Q : Option MV → MH → Prop} {u0 : Option MV} {u1 : Option MV} {u2 : Option MV} {u3 : Option MV} {xs0 : Int32} {h : MH}   (k1 : xs0.toInt = 0 → Wb rod d B_Model_days 24 [u0, u1, u2, u3] [] h Q) (k2 : ¬ xs0.toInt = 0 → Wb rod d B_Model_days 16 [u0, u1, u2, u3] [] h Q) : Wb rod d B_Model_days 13 [u0, u1, u2, u3] [.inl xs0] h Q := by
  refine Wb.br (fun _ _ => b_Model_days_13) (fun c => ?_) (fun c => ?_)
  · have c : (decide (xs0 = 0)) = true := by first | exact c | (simp only [Option.getD_some] at c; exact c)
    (first | exact (k1 (c_eqt c)) | (simp only [Option.getD_some]; exact (k1 (c_eqt c))))
  · have c : (decide (xs0 = 0)) = false := by first | exact c | (simp only [Option.getD_some] at c; exact c)
    (first | exact (k2 (c_eqf c)) | (simp only [Option.getD_some]; exact (k2 (c_eqf c))))
theorem w_Model_days_16 {rod : Nat → Nat × (Nat → Int32)} {d : Nat} {Q : Option MV → MH → Prop} {u1 : Option MV} {u2 : Option MV} {x3 : Int32} {h : MH} (L : Lay h.2)  {Q1 : Option MV → MH → Prop} (c : Wc rod d 224 [.inr (.inr (.inl (some 84))), .inl x3] h Q1) (k : ∀ r1 h2, Q1 r1 h2 → Wb rod d B_Model_days 21 [some (.inr (.inr (.inl (some 84)))), u1, u2, some (.inl x3)] (r1.toList ++ []) h2 Q) : Wb rod d B_Model_days 16 [some (.inr (.inr (.inl (some 84)))), u1, u2, some (.inl x3)] [] h Q := by
  refine Wb.call (fun _ _ _ _ => b_Model_days_16 (Lay.o84 L)) (Q1 := Q1) ?_ ?_
  · (first | exact c | (simp only [Option.getD_some]; exact c))
  · (first | exact k | (simp only [Option.getD_some]; exact k))
theorem w_Model_days_21 {rod : Nat → Nat × (Nat → Int32)} {d : Nat} {Q : Option MV → MH → Prop} {u0 : Option MV} {u1 : Option MV} {u2 : Option MV} {u3 : Option MV} {xs0 : Int32} {h : MH}   (k1 : ¬ xs0.toInt = 0 → Wb rod d B_Model_days 26 [u0, u1, u2, u3] [] h Q) (k2 : xs0.toInt = 0 → Wb rod d B_Model_days 24 [u0, u1, u2, u3] [] h Q) : Wb rod d B_Model_days 21 [u0, u1, u2, u3] [.inl xs0] h Q := by
  refine Wb.br (fun _ _ => b_Model_days_21) (fun c => ?_) (fun c => ?_)
  · have c : (!(decide (xs0 = 0))) = true := by first | exact c | (simp only [Option.getD_some] at c; exact c)
    (first | exact (k1 (c_net c)) | (simp only [Option.getD_some]; exact (k1 (c_net c))))
  · have c : (!(decide (xs0 = 0))) = false := by first | exact c | (simp only [Option.getD_some] at c; exact c)
    (first | exact (k2 (c_nef c)) | (simp only [Option.getD_some]; exact (k2 (c_nef c))))
theorem w_Model_days_24 {rod : Nat → Nat × (Nat → Int32)} {d : Nat} {Q : Option MV → MH → Prop} {u0 : Option MV} {u1 : Option MV} {u2 : Option MV} {u3 : Option MV} {h : MH}   (q : Q (some (.inl (-1 : Int32))) h) : Wb rod d B_Model_days 24 [u0, u1, u2, u3] [] h Q := by
  refine Wb.ret (b_Model_days_24) ?_
  (first | exact q | (simp only [Option.getD_some]; exact q))
theorem w_Model_days_26 {rod : Nat → Nat × (Nat → Int32)} {d : Nat} {Q : Option MV → MH → Prop} {u1 : Option MV} {u2 : Option MV} {u3 : Option MV} {h : MH} (L : Lay h.2)  {Q1 : Option MV → MH → Prop} (c : Wc rod d 247 [.inr (.inr (.inl (some 84))), .inl (0 : Int32)] h Q1) (k : ∀ r1 h2, Q1 r1 h2 → Wb rod d B_Model_days 31 [some (.inr (.inr (.inl (some 84)))), u1, u2, u3] (r1.toList ++ []) h2 Q) : Wb rod d B_Model_days 26 [some (.inr (.inr (.inl (some 84)))), u1, u2, u3] [] h Q := by
  refine Wb.call (fun _ _ _ _ => b_Model_days_26 (Lay.o84 L)) (Q1 := Q1) ?_ ?_
  · (first | exact c | (simp only [Option.getD_some]; exact c))
  · (first | exact k | (simp only [Option.getD_some]; exact k))
theorem w_Model_days_31 {rod : Nat → Nat × (Nat → Int32)} {d : Nat} {Q : Option MV → MH → Prop} {u1 : Option MV} {x2 : Int32} {x3 : Int32} {h : MH} (L : Lay h.2) (g0 : 0 ≤ (((6 : Int32) * x2) + x3).toInt ∧ (((6 : Int32) * x2) + x3).toInt < 36) (k1 : (h.1 92 (((6 : Int32) * x2) + x3).toNatClampNeg).toInt < 9999 → Wb rod d B_Model_days 52 [some (.inr (.inr (.inl (some 84)))), u1, some (.inl x2), some (.inl x3)] [] h Q) (k2 : ¬ (h.1 92 (((6 : Int32) * x2) + x3).toNatClampNeg).toInt < 9999 → Wb rod d B_Model_days 48 [some (.inr (.inr (.inl (some 84)))), u1, some (.inl x2), some (.inl x3)] [] h Q) : Wb rod d B_Model_days 31 [some (.inr (.inr (.inl (some 84)))), u1, some (.inl x2), some (.inl x3)] [] h Q := by
  refine Wb.br (fun _ _ => b_Model_days_31 (Lay.o84 L) (Lay.a84_29 L g0)) (fun c => ?_) (fun c => ?_)
  · have c : (decide ((h.1 92 (((6 : Int32) * x2) + x3).toNatClampNeg) < (9999 : Int32))) = true := by first | exact c | (simp only [Option.getD_some, (Lay.r84_29 L)] at c; exact c)
    (first | exact (k1 (c_ltt c)) | (simp only [Option.getD_some, (Lay.r84_29 L)]; exact (k1 (c_ltt c))))
  · have c : (decide ((h.1 92 (((6 : Int32) * x2) + x3).toNatClampNeg) < (9999 : Int32))) = false := by first | exact c | (simp only [Option.getD_some, (Lay.r84_29 L)] at c; exact c)
    (first | exact (k2 (c_ltf c)) | (simp only [Option.getD_some, (Lay.r84_29 L)]; exact (k2 (c_ltf c))))
theorem w_Model_days_48 {rod : Nat → Nat × (Nat → Int32)} {d : Nat} {Q : Option MV → MH → Prop} {u0 : Option MV} {u1 : Option MV} {u2 : Option MV} {u3 : Option MV} {h : MH}   (k : Wb rod d B_Model_days 63 [u0, u1, u2, u3] [.inl (-1 : Int32)] h Q) : Wb rod d B_Model_days 48 [u0, u1, u2, u3] [] h Q := by
  refine Wb.go (fun r hr q => b_Model_days_48 ?_) k
  (first | exact q | (simp only [Option.getD_some]; exact q))
theorem w_Model_days_52 {rod : Nat → Nat × (Nat → Int32)} {d : Nat} {Q : Option MV → MH → Prop} {u1 : Option MV} {x2 : Int32} {x3 : Int32} {h : MH} (L : Lay h.2) (g0 : 0 ≤ (((6 : Int32) * x2) + x3).toInt ∧ (((6 : Int32) * x2) + x3).toInt < 36) (k : Wb rod d B_Model_days 63 [some (.inr (.inr (.inl (some 84)))), u1, some (.inl x2), some (.inl x3)] [.inl (h.1 92 (((6 : Int32) * x2) + x3).toNatClampNeg)] h Q) : Wb rod d B_Model_days 52 [some (.inr (.inr (.inl (some 84)))), u1, some (.inl x2), some (.inl x3)] [] h Q := by
  refine Wb.go (fun r hr q => b_Model_days_52 (Lay.o84 L) (Lay.a84_29 L g0) ?_) k
  (first | exact q | (simp only [Option.getD_some, (Lay.r84_29 L)]; exact q))
theorem w_Model_days_63 {rod : Nat → Nat × (Nat → Int32)} {d : Nat} {Q : Option MV → MH → Prop} {u0 : Option MV} {u1 : Option MV} {u2 : Option MV} {u3 : Option MV} {xs0 : Int32} {h : MH}   (q : Q (some (.inl xs0)) h) : Wb rod d B_Model_days 63 [u0, u1, u2, u3] [.inl xs0] h Q := by
  refine Wb.ret (b_Model_days_63) ?_
  (first | exact q | (simp only [Option.getD_some]; exact q))
theorem n_Model_laysWays {rod : Nat → Nat × (Nat → Int32)} {d : Nat} {Q : Option MV → MH → Prop} {x1 : Int32} {h : MH} (k : Wb rod d B_Model_laysWays 0 [some (.inr (.inr (.inl (some 84)))), some (.inl x1), none, none, none] [] h Q) : Wc rod (d + 1) 247 [.inr (.inr (.inl (some 84))), .inl x1] h Q := Wc.en (fun _ _ => e_Model_laysWays) k
theorem w_Model_laysWays_0 {rod : Nat → Nat × (Nat → Int32)} {d : Nat} {Q : Option MV → MH → Prop} {x1 : Int32} {u2 : Option MV} {u3 : Option MV} {u4 : Option MV} {h : MH} (L : Lay h.2) (g0 : 0 ≤ ((h.1 84 12) + (5 : Int32)).toInt ∧ ((h.1 84 12) + (5 : Int32)).toInt < 4584) (k : Wb rod d B_Model_laysWays 17 [some (.inr (.inr (.inl (some 84)))), some (.inl x1), u2, u3, u4] [] (sI h 84 23 ((h.1 85 ((h.1 84 12) + (5 : Int32)).toNatClampNeg) ||| x1)) Q) : Wb rod d B_Model_laysWays 0 [some (.inr (.inr (.inl (some 84)))), some (.inl x1), u2, u3, u4] [] h Q := by
  refine Wb.go (fun r hr q => b_Model_laysWays_0 (Lay.o84 L) (Lay.a84_0 L (by first | exact g0 | (simp only [Option.getD_some, (Lay.r84_0 L)]; exact g0))) ?_) k
  (first | exact q | (simp only [Option.getD_some, (Lay.r84_0 L)]; exact q))
theorem w_Model_laysWays_17 {rod : Nat → Nat × (Nat → Int32)} {d : Nat} {Q : Option MV → MH → Prop} {u0 : Option MV} {u1 : Option MV} {u2 : Option MV} {u3 : Option MV} {u4 : Option MV} {h : MH}  (g0 : okl [u0, u1, u2, u3, u4] 2 = true) (k : Wb rod d B_Model_laysWays 19 [u0, u1, some (.inl (0 : Int32)), u3, u4] [] h Q) : Wb rod d B_Model_laysWays 17 [u0, u1, u2, u3, u4] [] h Q := by
  refine Wb.go (fun r hr q => b_Model_laysWays_17 g0 ?_) k
  (first | exact q | (simp only [Option.getD_some]; exact q))
theorem w_Model_laysWays_19 {rod : Nat → Nat × (Nat → Int32)} {d : Nat} {Q : Option MV → MH → Prop} {u1 : Option MV} {x2 : Int32} {u3 : Option MV} {u4 : Option MV} {h : MH} (L : Lay h.2)  (k1 : (h.1 84 13).toInt ≤ x2.toInt → Wb rod d B_Model_laysWays 98 [some (.inr (.inr (.inl (some 84)))), u1, some (.inl x2), u3, u4] [] h Q) (k2 : ¬ (h.1 84 13).toInt ≤ x2.toInt → Wb rod d B_Model_laysWays 27 [some (.inr (.inr (.inl (some 84)))), u1, some (.inl x2), u3, u4] [] h Q) : Wb rod d B_Model_laysWays 19 [some (.inr (.inr (.inl (some 84)))), u1, some (.inl x2), u3, u4] [] h Q := by
  refine Wb.br (fun _ _ => b_Model_laysWays_19 (Lay.o84 L)) (fun c => ?_) (fun c => ?_)
  · have c : (decide ((h.1 84 13) ≤ x2)) = true := by first | exact c | (simp only [Option.getD_some] at c; exact c)
    (first | exact (k1 (c_let c)) | (simp only [Option.getD_some]; exact (k1 (c_let c))))
  · have c : (decide ((h.1 84 13) ≤ x2)) = false := by first | exact c | (simp only [Option.getD_some] at c; exact c)
    (first | exact (k2 (c_lef c)) | (simp only [Option.getD_some]; exact (k2 (c_lef c))))
theorem w_Model_laysWays_27 {rod : Nat → Nat × (Nat → Int32)} {d : Nat} {Q : Option MV → MH → Prop} {u0 : Option MV} {u1 : Option MV} {u2 : Option MV} {u3 : Option MV} {u4 : Option MV} {h : MH}  (g0 : okl [u0, u1, u2, u3, u4] 3 = true) (k : Wb rod d B_Model_laysWays 29 [u0, u1, u2, some (.inl (0 : Int32)), u4] [] h Q) : Wb rod d B_Model_laysWays 27 [u0, u1, u2, u3, u4] [] h Q := by
  refine Wb.go (fun r hr q => b_Model_laysWays_27 g0 ?_) k
  (first | exact q | (simp only [Option.getD_some]; exact q))
theorem w_Model_laysWays_29 {rod : Nat → Nat × (Nat → Int32)} {d : Nat} {Q : Option MV → MH → Prop} {u1 : Option MV} {u2 : Option MV} {x3 : Int32} {u4 : Option MV} {h : MH} (L : Lay h.2)  (k1 : (h.1 84 13).toInt ≤ x3.toInt → Wb rod d B_Model_laysWays 92 [some (.inr (.inr (.inl (some 84)))), u1, u2, some (.inl x3), u4] [] h Q) (k2 : ¬ (h.1 84 13).toInt ≤ x3.toInt → Wb rod d B_Model_laysWays 37 [some (.inr (.inr (.inl (some 84)))), u1, u2, some (.inl x3), u4] [] h Q) : Wb rod d B_Model_laysWays 29 [some (.inr (.inr (.inl (some 84)))), u1, u2, some (.inl x3), u4] [] h Q := by
  refine Wb.br (fun _ _ => b_Model_laysWays_29 (Lay.o84 L)) (fun c => ?_) (fun c => ?_)
  · have c : (decide ((h.1 84 13) ≤ x3)) = true := by first | exact c | (simp only [Option.getD_some] at c; exact c)
    (first | exact (k1 (c_let c)) | (simp only [Option.getD_some]; exact (k1 (c_let c))))
  · have c : (decide ((h.1 84 13) ≤ x3)) = false := by first | exact c | (simp only [Option.getD_some] at c; exact c)
    (first | exact (k2 (c_lef c)) | (simp only [Option.getD_some]; exact (k2 (c_lef c))))
theorem w_Model_laysWays_37 {rod : Nat → Nat × (Nat → Int32)} {d : Nat} {Q : Option MV → MH → Prop} {u1 : Option MV} {x2 : Int32} {x3 : Int32} {u4 : Option MV} {h : MH} (L : Lay h.2)  (k1 : ¬ x2.toInt = x3.toInt → Wb rod d B_Model_laysWays 56 [some (.inr (.inr (.inl (some 84)))), u1, some (.inl x2), some (.inl x3), u4] [.inl (((6 : Int32) * x2) + x3), .inr (.inr (.inl (some 92)))] h Q) (k2 : x2.toInt = x3.toInt → Wb rod d B_Model_laysWays 52 [some (.inr (.inr (.inl (some 84)))), u1, some (.inl x2), some (.inl x3), u4] [.inl (((6 : Int32) * x2) + x3), .inr (.inr (.inl (some 92)))] h Q) : Wb rod d B_Model_laysWays 37 [some (.inr (.inr (.inl (some 84)))), u1, some (.inl x2), some (.inl x3), u4] [] h Q := by
  refine Wb.br (fun _ _ => b_Model_laysWays_37 (Lay.o84 L)) (fun c => ?_) (fun c => ?_)
  · have c : (!(decide (x2 = x3))) = true := by first | exact c | (simp only [Option.getD_some, (Lay.r84_29 L)] at c; exact c)
    (first | exact (k1 (c_net c)) | (simp only [Option.getD_some, (Lay.r84_29 L)]; exact (k1 (c_net c))))
  · have c : (!(decide (x2 = x3))) = false := by first | exact c | (simp only [Option.getD_some, (Lay.r84_29 L)] at c; exact c)
    (first | exact (k2 (c_nef c)) | (simp only [Option.getD_some, (Lay.r84_29 L)]; exact (k2 (c_nef c))))
theorem w_Model_laysWays_52 {rod : Nat → Nat × (Nat → Int32)} {d : Nat} {Q : Option MV → MH → Prop} {u0 : Option MV} {u1 : Option MV} {u2 : Option MV} {u3 : Option MV} {u4 : Option MV} {cs0 : Nat} {xs1 : Int32} {h : MH}   (k : Wb rod d B_Model_laysWays 85 [u0, u1, u2, u3, u4] [.inl (0 : Int32), .inl xs1, .inr (.inr (.inl (some cs0)))] h Q) : Wb rod d B_Model_laysWays 52 [u0, u1, u2, u3, u4] [.inl xs1, .inr (.inr (.inl (some cs0)))] h Q := by
  refine Wb.go (fun r hr q => b_Model_laysWays_52 ?_) k
  (first | exact q | (simp only [Option.getD_some]; exact q))
theorem w_Model_laysWays_56 {rod : Nat → Nat × (Nat → Int32)} {d : Nat} {Q : Option MV → MH → Prop} {u1 : Option MV} {x2 : Int32} {x3 : Int32} {u4 : Option MV} {cs0 : Nat} {xs1 : Int32} {h : MH} (L : Lay h.2)  {Q1 : Option MV → MH → Prop} (c : Wc rod d 225 [.inr (.inr (.inl (some 84))), .inl x2, .inl x3] h Q1) (k : ∀ r1 h2, Q1 r1 h2 → Wb rod d B_Model_laysWays 62 [some (.inr (.inr (.inl (some 84)))), u1, some (.inl x2), some (.inl x3), u4] (r1.toList ++ [.inl xs1, .inr (.inr (.inl (some cs0)))]) h2 Q) : Wb rod d B_Model_laysWays 56 [some (.inr (.inr (.inl (some 84)))), u1, some (.inl x2), some (.inl x3), u4] [.inl xs1, .inr (.inr (.inl (some cs0)))] h Q := by
  refine Wb.call (fun _ _ _ _ => b_Model_laysWays_56 (Lay.o84 L)) (Q1 := Q1) ?_ ?_
  · (first | exact c | (simp only [Option.getD_some]; exact c))
  · (first | exact k | (simp only [Option.getD_some]; exact k))
theorem w_Model_laysWays_62 {rod : Nat → Nat × (Nat → Int32)} {d : Nat} {Q : Option MV → MH → Prop} {u0 : Option MV} {u1 : Option MV} {u2 : Option MV} {u3 : Option MV} {u4 : Option MV} {cs0 : Nat} {xs1 : Int32} {xs2 : Int32} {h : MH}   (k1 : xs2.toInt ≤ 0 → Wb rod d B_Model_laysWays 82 [u0, u1, u2, u3, u4] [.inl xs1, .inr (.inr (.inl (some cs0)))] h Q) (k2 : ¬ xs2.toInt ≤ 0 → Wb rod d B_Model_laysWays 65 [u0, u1, u2, u3, u4] [.inl xs1, .inr (.inr (.inl (some cs0)))] h Q) : Wb rod d B_Model_laysWays 62 [u0, u1, u2, u3, u4] [.inl xs2, .inl xs1, .inr (.inr (.inl (some cs0)))] h Q := by
  refine Wb.br (fun _ _ => b_Model_laysWays_62) (fun c => ?_) (fun c => ?_)
  · have c : (decide (xs2 ≤ 0)) = true := by first | exact c | (simp only [Option.getD_some] at c; exact c)
    (first | exact (k1 (c_let c)) | (simp only [Option.getD_some]; exact (k1 (c_let c))))
  · have c : (decide (xs2 ≤ 0)) = false := by first | exact c | (simp only [Option.getD_some] at c; exact c)
    (first | exact (k2 (c_lef c)) | (simp only [Option.getD_some]; exact (k2 (c_lef c))))
theorem w_Model_laysWays_65 {rod : Nat → Nat × (Nat → Int32)} {d : Nat} {Q : Option MV → MH → Prop} {u1 : Option MV} {u2 : Option MV} {x3 : Int32} {u4 : Option MV} {cs0 : Nat} {xs1 : Int32} {h : MH} (L : Lay h.2)  {Q1 : Option MV → MH → Prop} (c : Wc rod d 236 [.inr (.inr (.inl (some 84))), .inl x3] h Q1) (k : ∀ r1 h2, Q1 r1 h2 → Wb rod d B_Model_laysWays 70 [some (.inr (.inr (.inl (some 84)))), u1, u2, some (.inl x3), u4] (r1.toList ++ [.inl xs1, .inr (.inr (.inl (some cs0)))]) h2 Q) : Wb rod d B_Model_laysWays 65 [some (.inr (.inr (.inl (some 84)))), u1, u2, some (.inl x3), u4] [.inl xs1, .inr (.inr (.inl (some cs0)))] h Q := by
  refine Wb.call (fun _ _ _ _ => b_Model_laysWays_65 (Lay.o84 L)) (Q1 := Q1) ?_ ?_
  · (first | exact c | (simp only [Option.getD_some]; exact c))
  · (first | exact k | (simp only [Option.getD_some]; exact k))
theorem w_Model_laysWays_70 {rod : Nat → Nat × (Nat → Int32)} {d : Nat} {Q : Option MV → MH → Prop} {u0 : Option MV} {u1 : Option MV} {u2 : Option MV} {u3 : Option MV} {u4 : Option MV} {cs0 : Nat} {xs1 : Int32} {xs2 : Int32} {h : MH}   (k1 : ¬ xs2.toInt = 0 → Wb rod d B_Model_laysWays 82 [u0, u1, u2, u3, u4] [.inl xs1, .inr (.inr (.inl (some cs0)))] h Q) (k2 : xs2.toInt = 0 → Wb rod d B_Model_laysWays 73 [u0, u1, u2, u3, u4] [.inl xs1, .inr (.inr (.inl (some cs0)))] h Q) : Wb rod d B_Model_laysWays 70 [u0, u1, u2, u3, u4] [.inl xs2, .inl xs1, .inr (.inr (.inl (some cs0)))] h Q := by
  refine Wb.br (fun _ _ => b_Model_laysWays_70) (fun c => ?_) (fun c => ?_)
  · have c : (!(decide (xs2 = 0))) = true := by first | exact c | (simp only [Option.getD_some] at c; exact c)
    (first | exact (k1 (c_net c)) | (simp only [Option.getD_some]; exact (k1 (c_net c))))
  · have c : (!(decide (xs2 = 0))) = false := by first | exact c | (simp only [Option.getD_some] at c; exact c)
    (first | exact (k2 (c_nef c)) | (simp only [Option.getD_some]; exact (k2 (c_nef c))))
theorem w_Model_laysWays_73 {rod : Nat → Nat × (Nat → Int32)} {d : Nat} {Q : Option MV → MH → Prop} {u1 : Option MV} {x2 : Int32} {x3 : Int32} {u4 : Option MV} {cs0 : Nat} {xs1 : Int32} {h : MH} (L : Lay h.2)  {Q1 : Option MV → MH → Prop} (c : Wc rod d 225 [.inr (.inr (.inl (some 84))), .inl x2, .inl x3] h Q1) (k : ∀ r1 h2, Q1 r1 h2 → Wb rod d B_Model_laysWays 79 [some (.inr (.inr (.inl (some 84)))), u1, some (.inl x2), some (.inl x3), u4] (r1.toList ++ [.inl xs1, .inr (.inr (.inl (some cs0)))]) h2 Q) : Wb rod d B_Model_laysWays 73 [some (.inr (.inr (.inl (some 84)))), u1, some (.inl x2), some (.inl x3), u4] [.inl xs1, .inr (.inr (.inl (some cs0)))] h Q := by
  refine Wb.call (fun _ _ _ _ => b_Model_laysWays_73 (Lay.o84 L)) (Q1 := Q1) ?_ ?_
  · (first | exact c | (simp only [Option.getD_some]; exact c))
  · (first | exact k | (simp only [Option.getD_some]; exact k))
theorem w_Model_laysWays_79 {rod : Nat → Nat × (Nat → Int32)} {d : Nat} {Q : Option MV → MH → Prop} {u0 : Option MV} {u1 : Option MV} {u2 : Option MV} {u3 : Option MV} {u4 : Option MV} {cs0 : Nat} {xs1 : Int32} {xs2 : Int32} {h : MH}   (k : Wb rod d B_Model_laysWays 85 [u0, u1, u2, u3, u4] [.inl xs2, .inl xs1, .inr (.inr (.inl (some cs0)))] h Q) : Wb rod d B_Model_laysWays 79 [u0, u1, u2, u3, u4] [.inl xs2, .inl xs1, .inr (.inr (.inl (some cs0)))] h Q := by
  refine Wb.go (fun r hr q => b_Model_laysWays_79 ?_) k
  (first | exact q | (simp only [Option.getD_some]; exact q))
theorem w_Model_laysWays_82 {rod : Nat → Nat × (Nat → Int32)} {d : Nat} {Q : Option MV → MH → Prop} {u0 : Option MV} {u1 : Option MV} {u2 : Option MV} {u3 : Option MV} {u4 : Option MV} {cs0 : Nat} {xs1 : Int32} {h : MH}   (k : Wb rod d B_Model_laysWays 85 [u0, u1, u2, u3, u4] [.inl (9999 : Int32), .inl xs1, .inr (.inr (.inl (some cs0)))] h Q) : Wb rod d B_Model_laysWays 82 [u0, u1, u2, u3, u4] [.inl xs1, .inr (.inr (.inl (some cs0)))] h Q := by
  refine Wb.go (fun r hr q => b_Model_laysWays_82 ?_) k
  (first | exact q | (simp only [Option.getD_some]; exact q))
theorem w_Model_laysWays_85 {rod : Nat → Nat × (Nat → Int32)} {d : Nat} {Q : Option MV → MH → Prop} {u0 : Option MV} {u1 : Option MV} {u2 : Option MV} {u3 : Option MV} {u4 : Option MV} {cs0 : Nat} {ncs0 : Nat} {xs1 : Int32} {xs2 : Int32} {h : MH} (Scs0 : h.2.2[cs0]? = some (0, ncs0)) (g0 : 0 ≤ xs1.toInt ∧ xs1.toInt < ncs0) (k : Wb rod d B_Model_laysWays 86 [u0, u1, u2, u3, u4] [] (sI h cs0 xs1.toNatClampNeg xs2) Q) : Wb rod d B_Model_laysWays 85 [u0, u1, u2, u3, u4] [.inl xs2, .inl xs1, .inr (.inr (.inl (some cs0)))] h Q := by
  refine Wb.go (fun r hr q => b_Model_laysWays_85 (gA_of Scs0 (inB_of g0.1 g0.2)) ?_) k
  (first | exact q | (simp only [Option.getD_some]; exact q))
theorem w_Model_laysWays_86 {rod : Nat → Nat × (Nat → Int32)} {d : Nat} {Q : Option MV → MH → Prop} {u0 : Option MV} {u1 : Option MV} {u2 : Option MV} {x3 : Int32} {u4 : Option MV} {h : MH}  (g0 : okl [u0, u1, u2, some (.inl x3), u4] 3 = true) (k : Wb rod d B_Model_laysWays 29 [u0, u1, u2, some (.inl (x3 + 1)), u4] [] h Q) : Wb rod d B_Model_laysWays 86 [u0, u1, u2, some (.inl x3), u4] [] h Q := by
  refine Wb.go (fun r hr q => b_Model_laysWays_86 g0 ?_) k
  (first | exact q | (simp only [Option.getD_some]; exact q))
theorem w_Model_laysWays_92 {rod : Nat → Nat × (Nat → Int32)} {d : Nat} {Q : Option MV → MH → Prop} {u0 : Option MV} {u1 : Option MV} {x2 : Int32} {u3 : Option MV} {u4 : Option MV} {h : MH}  (g0 : okl [u0, u1, some (.inl x2), u3, u4] 2 = true) (k : Wb rod d B_Model_laysWays 19 [u0, u1, some (.inl (x2 + 1)), u3, u4] [] h Q) : Wb rod d B_Model_laysWays 92 [u0, u1, some (.inl x2), u3, u4] [] h Q := by
  refine Wb.go (fun r hr q => b_Model_laysWays_92 g0 ?_) k
  (first | exact q | (simp only [Option.getD_some]; exact q))
theorem w_Model_laysWays_98 {rod : Nat → Nat × (Nat → Int32)} {d : Nat} {Q : Option MV → MH → Prop} {u0 : Option MV} {u1 : Option MV} {u2 : Option MV} {u3 : Option MV} {u4 : Option MV} {h : MH}  (g0 : okl [u0, u1, u2, u3, u4] 2 = true) (k : Wb rod d B_Model_laysWays 100 [u0, u1, some (.inl (0 : Int32)), u3, u4] [] h Q) : Wb rod d B_Model_laysWays 98 [u0, u1, u2, u3, u4] [] h Q := by
  refine Wb.go (fun r hr q => b_Model_laysWays_98 g0 ?_) k
  (first | exact q | (simp only [Option.getD_some]; exact q))
theorem w_Model_laysWays_100 {rod : Nat → Nat × (Nat → Int32)} {d : Nat} {Q : Option MV → MH → Prop} {u1 : Option MV} {x2 : Int32} {u3 : Option MV} {u4 : Option MV} {h : MH} (L : Lay h.2)  (k1 : (h.1 84 13).toInt ≤ x2.toInt → Wb rod d B_Model_laysWays 199 [some (.inr (.inr (.inl (some 84)))), u1, some (.inl x2), u3, u4] [] h Q) (k2 : ¬ (h.1 84 13).toInt ≤ x2.toInt → Wb rod d B_Model_laysWays 108 [some (.inr (.inr (.inl (some 84)))), u1, some (.inl x2), u3, u4] [] h Q) : Wb rod d B_Model_laysWays 100 [some (.inr (.inr (.inl (some 84)))), u1, some (.inl x2), u3, u4] [] h Q := by
  refine Wb.br (fun _ _ => b_Model_laysWays_100 (Lay.o84 L)) (fun c => ?_) (fun c => ?_)
  · have c : (decide ((h.1 84 13) ≤ x2)) = true := by first | exact c | (simp only [Option.getD_some] at c; exact c)
    (first | exact (k1 (c_let c)) | (simp only [Option.getD_some]; exact (k1 (c_let c))))
  · have c : (decide ((h.1 84 13) ≤ x2)) = false := by first | exact c | (simp only [Option.getD_some] at c; exact c)
    (first | exact (k2 (c_lef c)) | (simp only [Option.getD_some]; exact (k2 (c_lef c))))
theorem w_Model_laysWays_108 {rod : Nat → Nat × (Nat → Int32)} {d : Nat} {Q : Option MV → MH → Prop} {u0 : Option MV} {u1 : Option MV} {u2 : Option MV} {u3 : Option MV} {u4 : Option MV} {h : MH}  (g0 : okl [u0, u1, u2, u3, u4] 3 = true) (k : Wb rod d B_Model_laysWays 110 [u0, u1, u2, some (.inl (0 : Int32)), u4] [] h Q) : Wb rod d B_Model_laysWays 108 [u0, u1, u2, u3, u4] [] h Q := by
  refine Wb.go (fun r hr q => b_Model_laysWays_108 g0 ?_) k
  (first | exact q | (simp only [Option.getD_some]; exact q))
theorem w_Model_laysWays_110 {rod : Nat → Nat × (Nat → Int32)} {d : Nat} {Q : Option MV → MH → Prop} {u1 : Option MV} {u2 : Option MV} {x3 : Int32} {u4 : Option MV} {h : MH} (L : Lay h.2)  (k1 : (h.1 84 13).toInt ≤ x3.toInt → Wb rod d B_Model_laysWays 193 [some (.inr (.inr (.inl (some 84)))), u1, u2, some (.inl x3), u4] [] h Q) (k2 : ¬ (h.1 84 13).toInt ≤ x3.toInt → Wb rod d B_Model_laysWays 118 [some (.inr (.inr (.inl (some 84)))), u1, u2, some (.inl x3), u4] [] h Q) : Wb rod d B_Model_laysWays 110 [some (.inr (.inr (.inl (some 84)))), u1, u2, some (.inl x3), u4] [] h Q := by
  refine Wb.br (fun _ _ => b_Model_laysWays_110 (Lay.o84 L)) (fun c => ?_) (fun c => ?_)
  · have c : (decide ((h.1 84 13) ≤ x3)) = true := by first | exact c | (simp only [Option.getD_some] at c; exact c)
    (first | exact (k1 (c_let c)) | (simp only [Option.getD_some]; exact (k1 (c_let c))))
  · have c : (decide ((h.1 84 13) ≤ x3)) = false := by first | exact c | (simp only [Option.getD_some] at c; exact c)
    (first | exact (k2 (c_lef c)) | (simp only [Option.getD_some]; exact (k2 (c_lef c))))
theorem w_Model_laysWays_118 {rod : Nat → Nat × (Nat → Int32)} {d : Nat} {Q : Option MV → MH → Prop} {u0 : Option MV} {u1 : Option MV} {u2 : Option MV} {u3 : Option MV} {u4 : Option MV} {h : MH}  (g0 : okl [u0, u1, u2, u3, u4] 4 = true) (k : Wb rod d B_Model_laysWays 121 [u0, u1, u2, u3, some (.inl (0 : Int32))] [] h Q) : Wb rod d B_Model_laysWays 118 [u0, u1, u2, u3, u4] [] h Q := by
  refine Wb.go (fun r hr q => b_Model_laysWays_118 g0 ?_) k
  (first | exact q | (simp only [Option.getD_some]; exact q))
theorem w_Model_laysWays_121 {rod : Nat → Nat × (Nat → Int32)} {d : Nat} {Q : Option MV → MH → Prop} {u1 : Option MV} {u2 : Option MV} {u3 : Option MV} {x4 : Int32} {h : MH} (L : Lay h.2)  (k1 : (h.1 84 13).toInt ≤ x4.toInt → Wb rod d B_Model_laysWays 187 [some (.inr (.inr (.inl (some 84)))), u1, u2, u3, some (.inl x4)] [] h Q) (k2 : ¬ (h.1 84 13).toInt ≤ x4.toInt → Wb rod d B_Model_laysWays 130 [some (.inr (.inr (.inl (some 84)))), u1, u2, u3, some (.inl x4)] [] h Q) : Wb rod d B_Model_laysWays 121 [some (.inr (.inr (.inl (some 84)))), u1, u2, u3, some (.inl x4)] [] h Q := by
  refine Wb.br (fun _ _ => b_Model_laysWays_121 (Lay.o84 L)) (fun c => ?_) (fun c => ?_)
  · have c : (decide ((h.1 84 13) ≤ x4)) = true := by first | exact c | (simp only [Option.getD_some] at c; exact c)
    (first | exact (k1 (c_let c)) | (simp only [Option.getD_some]; exact (k1 (c_let c))))
  · have c : (decide ((h.1 84 13) ≤ x4)) = false := by first | exact c | (simp only [Option.getD_some] at c; exact c)
    (first | exact (k2 (c_lef c)) | (simp only [Option.getD_some]; exact (k2 (c_lef c))))
theorem w_Model_laysWays_130 {rod : Nat → Nat × (Nat → Int32)} {d : Nat} {Q : Option MV → MH → Prop} {u1 : Option MV} {x2 : Int32} {x3 : Int32} {x4 : Int32} {h : MH} (L : Lay h.2) (g0 : 0 ≤ (((6 : Int32) * x3) + x4).toInt ∧ (((6 : Int32) * x3) + x4).toInt < 36) (g1 : 0 ≤ (((6 : Int32) * x3) + x2).toInt ∧ (((6 : Int32) * x3) + x2).toInt < 36) (g2 : 0 ≤ (((6 : Int32) * x2) + x4).toInt ∧ (((6 : Int32) * x2) + x4).toInt < 36) {Q1 : Option MV → MH → Prop} (c : Wc rod d 237 [.inl (h.1 92 (((6 : Int32) * x3) + x4).toNatClampNeg), .inl ((h.1 92 (((6 : Int32) * x3) + x2).toNatClampNeg) + (h.1 92 (((6 : Int32) * x2) + x4).toNatClampNeg))] h Q1) (k : ∀ r1 h2, Q1 r1 h2 → Wb rod d B_Model_laysWays 180 [some (.inr (.inr (.inl (some 84)))), u1, some (.inl x2), some (.inl x3), some (.inl x4)] (r1.toList ++ [.inl (((6 : Int32) * x3) + x4), .inr (.inr (.inl (some 92)))]) h2 Q) : Wb rod d B_Model_laysWays 130 [some (.inr (.inr (.inl (some 84)))), u1, some (.inl x2), some (.inl x3), some (.inl x4)] [] h Q := by
  refine Wb.call (fun _ _ _ _ => b_Model_laysWays_130 (Lay.o84 L) (Lay.a84_29 L g0) (Lay.a84_29 L g1) (Lay.a84_29 L g2)) (Q1 := Q1) ?_ ?_
  · (first | exact c | (simp only [Option.getD_some, (Lay.r84_29 L)]; exact c))
  · (first | exact k | (simp only [Option.getD_some, (Lay.r84_29 L)]; exact k))
theorem w_Model_laysWays_180 {rod : Nat → Nat × (Nat → Int32)} {d : Nat} {Q : Option MV → MH → Prop} {u0 : Option MV} {u1 : Option MV} {u2 : Option MV} {u3 : Option MV} {u4 : Option MV} {cs0 : Nat} {ncs0 : Nat} {xs1 : Int32} {xs2 : Int32} {h : MH} (Scs0 : h.2.2[cs0]? = some (0, ncs0)) (g0 : 0 ≤ xs1.toInt ∧ xs1.toInt < ncs0) (k : Wb rod d B_Model_laysWays 181 [u0, u1, u2, u3, u4] [] (sI h cs0 xs1.toNatClampNeg xs2) Q) : Wb rod d B_Model_laysWays 180 [u0, u1, u2, u3, u4] [.inl xs2, .inl xs1, .inr (.inr (.inl (some cs0)))] h Q := by
  refine Wb.go (fun r hr q => b_Model_laysWays_180 (gA_of Scs0 (inB_of g0.1 g0.2)) ?_) k
  (first | exact q | (simp only [Option.getD_some]; exact q))
theorem w_Model_laysWays_181 {rod : Nat → Nat × (Nat → Int32)} {d : Nat} {Q : Option MV → MH → Prop} {u0 : Option MV} {u1 : Option MV} {u2 : Option MV} {u3 : Option MV} {x4 : Int32} {h : MH}  (g0 : okl [u0, u1, u2, u3, some (.inl x4)] 4 = true) (k : Wb rod d B_Model_laysWays 121 [u0, u1, u2, u3, some (.inl (x4 + 1))] [] h Q) : Wb rod d B_Model_laysWays 181 [u0, u1, u2, u3, some (.inl x4)] [] h Q := by
  refine Wb.go (fun r hr q => b_Model_laysWays_181 g0 ?_) k
  (first | exact q | (simp only [Option.getD_some]; exact q))
theorem w_Model_laysWays_187 {rod : Nat → Nat × (Nat → Int32)} {d : Nat} {Q : Option MV → MH → Prop} {u0 : Option MV} {u1 : Option MV} {u2 : Option MV} {x3 : Int32} {u4 : Option MV} {h : MH}  (g0 : okl [u0, u1, u2, some (.inl x3), u4] 3 = true) (k : Wb rod d B_Model_laysWays 110 [u0, u1, u2, some (.inl (x3 + 1)), u4] [] h Q) : Wb rod d B_Model_laysWays 187 [u0, u1, u2, some (.inl x3), u4] [] h Q := by
  refine Wb.go (fun r hr q => b_Model_laysWays_187 g0 ?_) k
  (first | exact q | (simp only [Option.getD_some]; exact q))
theorem w_Model_laysWays_193 {rod : Nat → Nat × (Nat → Int32)} {d : Nat} {Q : Option MV → MH → Prop} {u0 : Option MV} {u1 : Option MV} {x2 : Int32} {u3 : Option MV} {u4 : Option MV} {h : MH}  (g0 : okl [u0, u1, some (.inl x2), u3, u4] 2 = true) (k : Wb rod d B_Model_laysWays 100 [u0, u1, some (.inl (x2 + 1)), u3, u4] [] h Q) : Wb rod d B_Model_laysWays 193 [u0, u1, some (.inl x2), u3, u4] [] h Q := by
  refine Wb.go (fun r hr q => b_Model_laysWays_193 g0 ?_) k
  (first | exact q | (simp only [Option.getD_some]; exact q))
theorem w_Model_laysWays_199 {rod : Nat → Nat × (Nat → Int32)} {d : Nat} {Q : Option MV → MH → Prop} {u0 : Option MV} {u1 : Option MV} {u2 : Option MV} {u3 : Option MV} {u4 : Option MV} {h : MH}   (q : Q (none) h) : Wb rod d B_Model_laysWays 199 [u0, u1, u2, u3, u4] [] h Q := by
  refine Wb.ret (b_Model_laysWays_199) ?_
  (first | exact q | (simp only [Option.getD_some]; exact q))
theorem n_Model_tour {rod : Nat → Nat × (Nat → Int32)} {d : Nat} {Q : Option MV → MH → Prop} {x1 : Int32} {x2 : Int32} {x3 : Int32} {x4 : Int32} {h : MH} (k : Wb rod d B_Model_tour 0 [some (.inr (.inr (.inl (some 84)))), some (.inl x1), some (.inl x2), some (.inl x3), some (.inl x4), none] [] h Q) : Wc rod (d + 1) 248 [.inr (.inr (.inl (some 84))), .inl x1, .inl x2, .inl x3, .inl x4] h Q := Wc.en (fun _ _ => e_Model_tour) k
theorem w_Model_tour_0 {rod : Nat → Nat × (Nat → Int32)} {d : Nat} {Q : Option MV → MH → Prop} {x1 : Int32} {u2 : Option MV} {u3 : Option MV} {u4 : Option MV} {u5 : Option MV} {h : MH} (L : Lay h.2)  {Q1 : Option MV → MH → Prop} (c : Wc rod d 219 [.inr (.inr (.inl (some 84))), .inl x1] h Q1) (k : ∀ r1 h2, Q1 r1 h2 → Wb rod d B_Model_tour 5 [some (.inr (.inr (.inl (some 84)))), some (.inl x1), u2, u3, u4, u5] (r1.toList ++ []) h2 Q) : Wb rod d B_Model_tour 0 [some (.inr (.inr (.inl (some 84)))), some (.inl x1), u2, u3, u4, u5] [] h Q := by
  refine Wb.call (fun _ _ _ _ => b_Model_tour_0 (Lay.o84 L)) (Q1 := Q1) ?_ ?_
  · (first | exact c | (simp only [Option.getD_some]; exact c))
  · (first | exact k | (simp only [Option.getD_some]; exact k))
theorem w_Model_tour_5 {rod : Nat → Nat × (Nat → Int32)} {d : Nat} {Q : Option MV → MH → Prop} {u0 : Option MV} {u1 : Option MV} {u2 : Option MV} {u3 : Option MV} {u4 : Option MV} {u5 : Option MV} {xs0 : Int32} {h : MH}   (k1 : xs0.toInt = 0 → Wb rod d B_Model_tour 33 [u0, u1, u2, u3, u4, u5] [] h Q) (k2 : ¬ xs0.toInt = 0 → Wb rod d B_Model_tour 8 [u0, u1, u2, u3, u4, u5] [] h Q) : Wb rod d B_Model_tour 5 [u0, u1, u2, u3, u4, u5] [.inl xs0] h Q := by
  refine Wb.br (fun _ _ => b_Model_tour_5) (fun c => ?_) (fun c => ?_)
  · have c : (decide (xs0 = 0)) = true := by first | exact c | (simp only [Option.getD_some] at c; exact c)
    (first | exact (k1 (c_eqt c)) | (simp only [Option.getD_some]; exact (k1 (c_eqt c))))
  · have c : (decide (xs0 = 0)) = false := by first | exact c | (simp only [Option.getD_some] at c; exact c)
    (first | exact (k2 (c_eqf c)) | (simp only [Option.getD_some]; exact (k2 (c_eqf c))))
theorem w_Model_tour_8 {rod : Nat → Nat × (Nat → Int32)} {d : Nat} {Q : Option MV → MH → Prop} {u0 : Option MV} {u1 : Option MV} {x2 : Int32} {u3 : Option MV} {u4 : Option MV} {u5 : Option MV} {h : MH}   {Q1 : Option MV → MH → Prop} (c : Wc rod d 193 [.inl x2, .inl (0 : Int32), .inl (40 : Int32)] h Q1) (k : ∀ r1 h2, Q1 r1 h2 → Wb rod d B_Model_tour 15 [u0, u1, some (.inl x2), u3, u4, u5] (r1.toList ++ []) h2 Q) : Wb rod d B_Model_tour 8 [u0, u1, some (.inl x2), u3, u4, u5] [] h Q := by
  refine Wb.call (fun _ _ _ _ => b_Model_tour_8) (Q1 := Q1) ?_ ?_
  · (first | exact c | (simp only [Option.getD_some]; exact c))
  · (first | exact k | (simp only [Option.getD_some]; exact k))
theorem w_Model_tour_15 {rod : Nat → Nat × (Nat → Int32)} {d : Nat} {Q : Option MV → MH → Prop} {u0 : Option MV} {u1 : Option MV} {u2 : Option MV} {u3 : Option MV} {u4 : Option MV} {u5 : Option MV} {xs0 : Int32} {h : MH}   (k1 : xs0.toInt = 0 → Wb rod d B_Model_tour 33 [u0, u1, u2, u3, u4, u5] [] h Q) (k2 : ¬ xs0.toInt = 0 → Wb rod d B_Model_tour 18 [u0, u1, u2, u3, u4, u5] [] h Q) : Wb rod d B_Model_tour 15 [u0, u1, u2, u3, u4, u5] [.inl xs0] h Q := by
  refine Wb.br (fun _ _ => b_Model_tour_15) (fun c => ?_) (fun c => ?_)
  · have c : (decide (xs0 = 0)) = true := by first | exact c | (simp only [Option.getD_some] at c; exact c)
    (first | exact (k1 (c_eqt c)) | (simp only [Option.getD_some]; exact (k1 (c_eqt c))))
  · have c : (decide (xs0 = 0)) = false := by first | exact c | (simp only [Option.getD_some] at c; exact c)
    (first | exact (k2 (c_eqf c)) | (simp only [Option.getD_some]; exact (k2 (c_eqf c))))
theorem w_Model_tour_18 {rod : Nat → Nat × (Nat → Int32)} {d : Nat} {Q : Option MV → MH → Prop} {u1 : Option MV} {u2 : Option MV} {x3 : Int32} {u4 : Option MV} {u5 : Option MV} {h : MH} (L : Lay h.2)  {Q1 : Option MV → MH → Prop} (c : Wc rod d 222 [.inr (.inr (.inl (some 84))), .inl x3] h Q1) (k : ∀ r1 h2, Q1 r1 h2 → Wb rod d B_Model_tour 23 [some (.inr (.inr (.inl (some 84)))), u1, u2, some (.inl x3), u4, u5] (r1.toList ++ []) h2 Q) : Wb rod d B_Model_tour 18 [some (.inr (.inr (.inl (some 84)))), u1, u2, some (.inl x3), u4, u5] [] h Q := by
  refine Wb.call (fun _ _ _ _ => b_Model_tour_18 (Lay.o84 L)) (Q1 := Q1) ?_ ?_
  · (first | exact c | (simp only [Option.getD_some]; exact c))
  · (first | exact k | (simp only [Option.getD_some]; exact k))
theorem w_Model_tour_23 {rod : Nat → Nat × (Nat → Int32)} {d : Nat} {Q : Option MV → MH → Prop} {u0 : Option MV} {u1 : Option MV} {u2 : Option MV} {u3 : Option MV} {u4 : Option MV} {u5 : Option MV} {xs0 : Int32} {h : MH}   (k1 : xs0.toInt = 0 → Wb rod d B_Model_tour 33 [u0, u1, u2, u3, u4, u5] [] h Q) (k2 : ¬ xs0.toInt = 0 → Wb rod d B_Model_tour 26 [u0, u1, u2, u3, u4, u5] [] h Q) : Wb rod d B_Model_tour 23 [u0, u1, u2, u3, u4, u5] [.inl xs0] h Q := by
  refine Wb.br (fun _ _ => b_Model_tour_23) (fun c => ?_) (fun c => ?_)
  · have c : (decide (xs0 = 0)) = true := by first | exact c | (simp only [Option.getD_some] at c; exact c)
    (first | exact (k1 (c_eqt c)) | (simp only [Option.getD_some]; exact (k1 (c_eqt c))))
  · have c : (decide (xs0 = 0)) = false := by first | exact c | (simp only [Option.getD_some] at c; exact c)
    (first | exact (k2 (c_eqf c)) | (simp only [Option.getD_some]; exact (k2 (c_eqf c))))
theorem w_Model_tour_26 {rod : Nat → Nat × (Nat → Int32)} {d : Nat} {Q : Option MV → MH → Prop} {u0 : Option MV} {u1 : Option MV} {u2 : Option MV} {u3 : Option MV} {x4 : Int32} {u5 : Option MV} {h : MH}   (k1 : (-2) ≤ x4.toInt → Wb rod d B_Model_tour 35 [u0, u1, u2, u3, some (.inl x4), u5] [] h Q) (k2 : ¬ (-2) ≤ x4.toInt → Wb rod d B_Model_tour 33 [u0, u1, u2, u3, some (.inl x4), u5] [] h Q) : Wb rod d B_Model_tour 26 [u0, u1, u2, u3, some (.inl x4), u5] [] h Q := by
  refine Wb.br (fun _ _ => b_Model_tour_26) (fun c => ?_) (fun c => ?_)
  · have c : (decide ((-2 : Int32) ≤ x4)) = true := by first | exact c | (simp only [Option.getD_some] at c; exact c)
    (first | exact (k1 (c_let c)) | (simp only [Option.getD_some]; exact (k1 (c_let c))))
  · have c : (decide ((-2 : Int32) ≤ x4)) = false := by first | exact c | (simp only [Option.getD_some] at c; exact c)
    (first | exact (k2 (c_lef c)) | (simp only [Option.getD_some]; exact (k2 (c_lef c))))
theorem w_Model_tour_33 {rod : Nat → Nat × (Nat → Int32)} {d : Nat} {Q : Option MV → MH → Prop} {u0 : Option MV} {u1 : Option MV} {u2 : Option MV} {u3 : Option MV} {u4 : Option MV} {u5 : Option MV} {h : MH}   (q : Q (some (.inl (-1 : Int32))) h) : Wb rod d B_Model_tour 33 [u0, u1, u2, u3, u4, u5] [] h Q := by
  refine Wb.ret (b_Model_tour_33) ?_
  (first | exact q | (simp only [Option.getD_some]; exact q))
theorem w_Model_tour_35 {rod : Nat → Nat × (Nat → Int32)} {d : Nat} {Q : Option MV → MH → Prop} {u1 : Option MV} {x2 : Int32} {x3 : Int32} {u4 : Option MV} {u5 : Option MV} {h : MH} (L : Lay h.2)  {Q1 : Option MV → MH → Prop} (c : Wc rod d 249 [.inr (.inr (.inl (some 84))), .inl x2, .inl x3, .inl (0 : Int32)] h Q1) (k : ∀ r1 h2, Q1 r1 h2 → Wb rod d B_Model_tour 42 [some (.inr (.inr (.inl (some 84)))), u1, some (.inl x2), some (.inl x3), u4, u5] (r1.toList ++ []) h2 Q) : Wb rod d B_Model_tour 35 [some (.inr (.inr (.inl (some 84)))), u1, some (.inl x2), some (.inl x3), u4, u5] [] h Q := by
  refine Wb.call (fun _ _ _ _ => b_Model_tour_35 (Lay.o84 L)) (Q1 := Q1) ?_ ?_
  · (first | exact c | (simp only [Option.getD_some]; exact c))
  · (first | exact k | (simp only [Option.getD_some]; exact k))
theorem w_Model_tour_42 {rod : Nat → Nat × (Nat → Int32)} {d : Nat} {Q : Option MV → MH → Prop} {u0 : Option MV} {u1 : Option MV} {u2 : Option MV} {u3 : Option MV} {x4 : Int32} {u5 : Option MV} {xs0 : Int32} {h : MH}   (k1 : ¬ x4.toInt = (-1) → Wb rod d B_Model_tour 55 [u0, u1, u2, u3, some (.inl x4), some (.inl xs0)] [] h Q) (k2 : x4.toInt = (-1) → Wb rod d B_Model_tour 50 [u0, u1, u2, u3, some (.inl x4), some (.inl xs0)] [] h Q) : Wb rod d B_Model_tour 42 [u0, u1, u2, u3, some (.inl x4), u5] [.inl xs0] h Q := by
  refine Wb.br (fun _ _ => b_Model_tour_42) (fun c => ?_) (fun c => ?_)
  · have c : (!(decide (x4 = (-1 : Int32)))) = true := by first | exact c | (simp only [Option.getD_some] at c; exact c)
    (first | exact (k1 (c_net c)) | (simp only [Option.getD_some]; exact (k1 (c_net c))))
  · have c : (!(decide (x4 = (-1 : Int32)))) = false := by first | exact c | (simp only [Option.getD_some] at c; exact c)
    (first | exact (k2 (c_nef c)) | (simp only [Option.getD_some]; exact (k2 (c_nef c))))
theorem w_Model_tour_50 {rod : Nat → Nat × (Nat → Int32)} {d : Nat} {Q : Option MV → MH → Prop} {u0 : Option MV} {u1 : Option MV} {u2 : Option MV} {u3 : Option MV} {u4 : Option MV} {x5 : Int32} {h : MH}   (k : Wb rod d B_Model_tour 89 [u0, u1, u2, u3, u4, some (.inl x5)] [.inl x5] h Q) : Wb rod d B_Model_tour 50 [u0, u1, u2, u3, u4, some (.inl x5)] [] h Q := by
  refine Wb.go (fun r hr q => b_Model_tour_50 ?_) k
  (first | exact q | (simp only [Option.getD_some]; exact q))
theorem w_Model_tour_55 {rod : Nat → Nat × (Nat → Int32)} {d : Nat} {Q : Option MV → MH → Prop} {u0 : Option MV} {u1 : Option MV} {u2 : Option MV} {u3 : Option MV} {x4 : Int32} {u5 : Option MV} {h : MH}   (k1 : ¬ x4.toInt = (-2) → Wb rod d B_Model_tour 69 [u0, u1, u2, u3, some (.inl x4), u5] [] h Q) (k2 : x4.toInt = (-2) → Wb rod d B_Model_tour 62 [u0, u1, u2, u3, some (.inl x4), u5] [] h Q) : Wb rod d B_Model_tour 55 [u0, u1, u2, u3, some (.inl x4), u5] [] h Q := by
  refine Wb.br (fun _ _ => b_Model_tour_55) (fun c => ?_) (fun c => ?_)
  · have c : (!(decide (x4 = (-2 : Int32)))) = true := by first | exact c | (simp only [Option.getD_some] at c; exact c)
    (first | exact (k1 (c_net c)) | (simp only [Option.getD_some]; exact (k1 (c_net c))))
  · have c : (!(decide (x4 = (-2 : Int32)))) = false := by first | exact c | (simp only [Option.getD_some] at c; exact c)
    (first | exact (k2 (c_nef c)) | (simp only [Option.getD_some]; exact (k2 (c_nef c))))
theorem w_Model_tour_62 {rod : Nat → Nat × (Nat → Int32)} {d : Nat} {Q : Option MV → MH → Prop} {u1 : Option MV} {u2 : Option MV} {u3 : Option MV} {u4 : Option MV} {u5 : Option MV} {h : MH} (L : Lay h.2)  (k : Wb rod d B_Model_tour 89 [some (.inr (.inr (.inl (some 84)))), u1, u2, u3, u4, u5] [.inl (h.1 84 32)] h Q) : Wb rod d B_Model_tour 62 [some (.inr (.inr (.inl (some 84)))), u1, u2, u3, u4, u5] [] h Q := by
  refine Wb.go (fun r hr q => b_Model_tour_62 (Lay.o84 L) ?_) k
  (first | exact q | (simp only [Option.getD_some]; exact q))
theorem w_Model_tour_69 {rod : Nat → Nat × (Nat → Int32)} {d : Nat} {Q : Option MV → MH → Prop} {u1 : Option MV} {u2 : Option MV} {u3 : Option MV} {x4 : Int32} {u5 : Option MV} {h : MH} (L : Lay h.2)  (k1 : (h.1 84 32).toInt ≤ x4.toInt → Wb rod d B_Model_tour 88 [some (.inr (.inr (.inl (some 84)))), u1, u2, u3, some (.inl x4), u5] [] h Q) (k2 : ¬ (h.1 84 32).toInt ≤ x4.toInt → Wb rod d B_Model_tour 78 [some (.inr (.inr (.inl (some 84)))), u1, u2, u3, some (.inl x4), u5] [] h Q) : Wb rod d B_Model_tour 69 [some (.inr (.inr (.inl (some 84)))), u1, u2, u3, some (.inl x4), u5] [] h Q := by
  refine Wb.br (fun _ _ => b_Model_tour_69 (Lay.o84 L)) (fun c => ?_) (fun c => ?_)
  · have c : (decide ((h.1 84 32) ≤ x4)) = true := by first | exact c | (simp only [Option.getD_some] at c; exact c)
    (first | exact (k1 (c_let c)) | (simp only [Option.getD_some]; exact (k1 (c_let c))))
  · have c : (decide ((h.1 84 32) ≤ x4)) = false := by first | exact c | (simp only [Option.getD_some] at c; exact c)
    (first | exact (k2 (c_lef c)) | (simp only [Option.getD_some]; exact (k2 (c_lef c))))
theorem w_Model_tour_78 {rod : Nat → Nat × (Nat → Int32)} {d : Nat} {Q : Option MV → MH → Prop} {u1 : Option MV} {u2 : Option MV} {u3 : Option MV} {x4 : Int32} {u5 : Option MV} {h : MH} (L : Lay h.2) (g0 : 0 ≤ x4.toInt ∧ x4.toInt < 5) (k : Wb rod d B_Model_tour 89 [some (.inr (.inr (.inl (some 84)))), u1, u2, u3, some (.inl x4), u5] [.inl (h.1 94 x4.toNatClampNeg)] h Q) : Wb rod d B_Model_tour 78 [some (.inr (.inr (.inl (some 84)))), u1, u2, u3, some (.inl x4), u5] [] h Q := by
  refine Wb.go (fun r hr q => b_Model_tour_78 (Lay.o84 L) (Lay.a84_31 L g0) ?_) k
  (first | exact q | (simp only [Option.getD_some, (Lay.r84_31 L)]; exact q))
theorem w_Model_tour_88 {rod : Nat → Nat × (Nat → Int32)} {d : Nat} {Q : Option MV → MH → Prop} {u0 : Option MV} {u1 : Option MV} {u2 : Option MV} {u3 : Option MV} {u4 : Option MV} {u5 : Option MV} {h : MH}   (k : Wb rod d B_Model_tour 89 [u0, u1, u2, u3, u4, u5] [.inl (-1 : Int32)] h Q) : Wb rod d B_Model_tour 88 [u0, u1, u2, u3, u4, u5] [] h Q := by
  refine Wb.go (fun r hr q => b_Model_tour_88 ?_) k
  (first | exact q | (simp only [Option.getD_some]; exact q))
theorem w_Model_tour_89 {rod : Nat → Nat × (Nat → Int32)} {d : Nat} {Q : Option MV → MH → Prop} {u0 : Option MV} {u1 : Option MV} {u2 : Option MV} {u3 : Option MV} {u4 : Option MV} {u5 : Option MV} {xs0 : Int32} {h : MH}   (q : Q (some (.inl xs0)) h) : Wb rod d B_Model_tour 89 [u0, u1, u2, u3, u4, u5] [.inl xs0] h Q := by
  refine Wb.ret (b_Model_tour_89) ?_
  (first | exact q | (simp only [Option.getD_some]; exact q))
theorem n_Model_tours {rod : Nat → Nat × (Nat → Int32)} {d : Nat} {Q : Option MV → MH → Prop} {x1 : Int32} {x2 : Int32} {x3 : Int32} {h : MH} (k : Wb rod d B_Model_tours 0 [some (.inr (.inr (.inl (some 84)))), some (.inl x1), some (.inl x2), some (.inl x3), none, none, none, none, none, none] [] h Q) : Wc rod (d + 1) 249 [.inr (.inr (.inl (some 84))), .inl x1, .inl x2, .inl x3] h Q := Wc.en (fun _ _ => e_Model_tours) k
theorem w_Model_tours_0 {rod : Nat → Nat × (Nat → Int32)} {d : Nat} {Q : Option MV → MH → Prop} {u1 : Option MV} {u2 : Option MV} {x3 : Int32} {u4 : Option MV} {u5 : Option MV} {u6 : Option MV} {u7 : Option MV} {u8 : Option MV} {u9 : Option MV} {h : MH} (L : Lay h.2)  {Q1 : Option MV → MH → Prop} (c : Wc rod d 247 [.inr (.inr (.inl (some 84))), .inl x3] h Q1) (k : ∀ r1 h2, Q1 r1 h2 → Wb rod d B_Model_tours 5 [some (.inr (.inr (.inl (some 84)))), u1, u2, some (.inl x3), u4, u5, u6, u7, u8, u9] (r1.toList ++ []) h2 Q) : Wb rod d B_Model_tours 0 [some (.inr (.inr (.inl (some 84)))), u1, u2, some (.inl x3), u4, u5, u6, u7, u8, u9] [] h Q := by
  refine Wb.call (fun _ _ _ _ => b_Model_tours_0 (Lay.o84 L)) (Q1 := Q1) ?_ ?_
  · (first | exact c | (simp only [Option.getD_some]; exact c))
  · (first | exact k | (simp only [Option.getD_some]; exact k))
theorem w_Model_tours_5 {rod : Nat → Nat × (Nat → Int32)} {d : Nat} {Q : Option MV → MH → Prop} {u1 : Option MV} {u2 : Option MV} {u3 : Option MV} {u4 : Option MV} {u5 : Option MV} {u6 : Option MV} {u7 : Option MV} {u8 : Option MV} {u9 : Option MV} {h : MH} (L : Lay h.2)  {Q1 : Option MV → MH → Prop} (c : Wc rod d 227 [.inr (.inr (.inl (some 84)))] h Q1) (k : ∀ r1 h2, Q1 r1 h2 → Wb rod d B_Model_tours 9 [some (.inr (.inr (.inl (some 84)))), u1, u2, u3, u4, u5, u6, u7, u8, u9] (r1.toList ++ []) h2 Q) : Wb rod d B_Model_tours 5 [some (.inr (.inr (.inl (some 84)))), u1, u2, u3, u4, u5, u6, u7, u8, u9] [] h Q := by
  refine Wb.call (fun _ _ _ _ => b_Model_tours_5 (Lay.o84 L)) (Q1 := Q1) ?_ ?_
  · (first | exact c | (simp only [Option.getD_some]; exact c))
  · (first | exact k | (simp only [Option.getD_some]; exact k))
theorem w_Model_tours_9 {rod : Nat → Nat × (Nat → Int32)} {d : Nat} {Q : Option MV → MH → Prop} {u0 : Option MV} {u1 : Option MV} {u2 : Option MV} {u3 : Option MV} {u4 : Option MV} {u5 : Option MV} {u6 : Option MV} {u7 : Option MV} {u8 : Option MV} {u9 : Option MV} {h : MH}  (g0 : okl [u0, u1, u2, u3, u4, u5, u6, u7, u8, u9] 4 = true) (k : Wb rod d B_Model_tours 18 [u0, u1, u2, u3, some (.inl (-1 : Int32)), some (.inl (1 : Int32)), some (.inl (0 : Int32)), u7, u8, u9] [] h Q) : Wb rod d B_Model_tours 9 [u0, u1, u2, u3, u4, u5, u6, u7, u8, u9] [] h Q := by
  refine Wb.go (fun r hr q => b_Model_tours_9 g0 ?_) k
  (first | exact q | (simp only [Option.getD_some]; exact q))
theorem w_Model_tours_18 {rod : Nat → Nat × (Nat → Int32)} {d : Nat} {Q : Option MV → MH → Prop} {u1 : Option MV} {u2 : Option MV} {u3 : Option MV} {u4 : Option MV} {u5 : Option MV} {x6 : Int32} {u7 : Option MV} {u8 : Option MV} {u9 : Option MV} {h : MH} (L : Lay h.2)  (k1 : (h.1 84 13).toInt ≤ x6.toInt → Wb rod d B_Model_tours 134 [some (.inr (.inr (.inl (some 84)))), u1, u2, u3, u4, u5, some (.inl x6), u7, u8, u9] [] h Q) (k2 : ¬ (h.1 84 13).toInt ≤ x6.toInt → Wb rod d B_Model_tours 27 [some (.inr (.inr (.inl (some 84)))), u1, u2, u3, u4, u5, some (.inl x6), u7, u8, u9] [] h Q) : Wb rod d B_Model_tours 18 [some (.inr (.inr (.inl (some 84)))), u1, u2, u3, u4, u5, some (.inl x6), u7, u8, u9] [] h Q := by
  refine Wb.br (fun _ _ => b_Model_tours_18 (Lay.o84 L)) (fun c => ?_) (fun c => ?_)
  · have c : (decide ((h.1 84 13) ≤ x6)) = true := by first | exact c | (simp only [Option.getD_some] at c; exact c)
    (first | exact (k1 (c_let c)) | (simp only [Option.getD_some]; exact (k1 (c_let c))))
  · have c : (decide ((h.1 84 13) ≤ x6)) = false := by first | exact c | (simp only [Option.getD_some] at c; exact c)
    (first | exact (k2 (c_lef c)) | (simp only [Option.getD_some]; exact (k2 (c_lef c))))
theorem w_Model_tours_27 {rod : Nat → Nat × (Nat → Int32)} {d : Nat} {Q : Option MV → MH → Prop} {u0 : Option MV} {u1 : Option MV} {u2 : Option MV} {u3 : Option MV} {u4 : Option MV} {u5 : Option MV} {u6 : Option MV} {u7 : Option MV} {u8 : Option MV} {u9 : Option MV} {h : MH}  (g0 : okl [u0, u1, u2, u3, u4, u5, u6, u7, u8, u9] 7 = true) (k : Wb rod d B_Model_tours 30 [u0, u1, u2, u3, u4, u5, u6, some (.inl (0 : Int32)), u8, u9] [] h Q) : Wb rod d B_Model_tours 27 [u0, u1, u2, u3, u4, u5, u6, u7, u8, u9] [] h Q := by
  refine Wb.go (fun r hr q => b_Model_tours_27 g0 ?_) k
  (first | exact q | (simp only [Option.getD_some]; exact q))
theorem w_Model_tours_30 {rod : Nat → Nat × (Nat → Int32)} {d : Nat} {Q : Option MV → MH → Prop} {u0 : Option MV} {u1 : Option MV} {u2 : Option MV} {u3 : Option MV} {u4 : Option MV} {x5 : Int32} {u6 : Option MV} {x7 : Int32} {u8 : Option MV} {u9 : Option MV} {h : MH}   (k1 : x5.toInt ≤ x7.toInt → Wb rod d B_Model_tours 117 [u0, u1, u2, u3, u4, some (.inl x5), u6, some (.inl x7), u8, u9] [] h Q) (k2 : ¬ x5.toInt ≤ x7.toInt → Wb rod d B_Model_tours 37 [u0, u1, u2, u3, u4, some (.inl x5), u6, some (.inl x7), u8, u9] [] h Q) : Wb rod d B_Model_tours 30 [u0, u1, u2, u3, u4, some (.inl x5), u6, some (.inl x7), u8, u9] [] h Q := by
  refine Wb.br (fun _ _ => b_Model_tours_30) (fun c => ?_) (fun c => ?_)
  · have c : (decide (x5 ≤ x7)) = true := by first | exact c | (simp only [Option.getD_some] at c; exact c)
    (first | exact (k1 (c_let c)) | (simp only [Option.getD_some]; exact (k1 (c_let c))))
  · have c : (decide (x5 ≤ x7)) = false := by first | exact c | (simp only [Option.getD_some] at c; exact c)
    (first | exact (k2 (c_lef c)) | (simp only [Option.getD_some]; exact (k2 (c_lef c))))
theorem w_Model_tours_37 {rod : Nat → Nat × (Nat → Int32)} {d : Nat} {Q : Option MV → MH → Prop} {u1 : Option MV} {u2 : Option MV} {u3 : Option MV} {u4 : Option MV} {u5 : Option MV} {x6 : Int32} {x7 : Int32} {u8 : Option MV} {u9 : Option MV} {h : MH} (L : Lay h.2)  {Q1 : Option MV → MH → Prop} (c : Wc rod d 250 [.inr (.inr (.inl (some 84))), .inl x7, .inl x6] h Q1) (k : ∀ r1 h2, Q1 r1 h2 → Wb rod d B_Model_tours 45 [some (.inr (.inr (.inl (some 84)))), u1, u2, u3, u4, u5, some (.inl x6), some (.inl x7), u8, u9] (r1.toList ++ []) h2 Q) : Wb rod d B_Model_tours 37 [some (.inr (.inr (.inl (some 84)))), u1, u2, u3, u4, u5, some (.inl x6), some (.inl x7), u8, u9] [] h Q := by
  refine Wb.call (fun _ _ _ _ => b_Model_tours_37 (Lay.o84 L)) (Q1 := Q1) ?_ ?_
  · (first | exact c | (simp only [Option.getD_some]; exact c))
  · (first | exact k | (simp only [Option.getD_some]; exact k))
theorem w_Model_tours_45 {rod : Nat → Nat × (Nat → Int32)} {d : Nat} {Q : Option MV → MH → Prop} {u0 : Option MV} {u1 : Option MV} {u2 : Option MV} {u3 : Option MV} {u4 : Option MV} {u5 : Option MV} {u6 : Option MV} {u7 : Option MV} {u8 : Option MV} {u9 : Option MV} {xs0 : Int32} {h : MH}   (k1 : ¬ xs0.toInt = 0 → Wb rod d B_Model_tours 51 [u0, u1, u2, u3, u4, u5, u6, u7, u8, u9] [] h Q) (k2 : xs0.toInt = 0 → Wb rod d B_Model_tours 48 [u0, u1, u2, u3, u4, u5, u6, u7, u8, u9] [] h Q) : Wb rod d B_Model_tours 45 [u0, u1, u2, u3, u4, u5, u6, u7, u8, u9] [.inl xs0] h Q := by
  refine Wb.br (fun _ _ => b_Model_tours_45) (fun c => ?_) (fun c => ?_)
  · have c : (!(decide (xs0 = 0))) = true := by first | exact c | (simp only [Option.getD_some] at c; exact c)
    (first | exact (k1 (c_net c)) | (simp only [Option.getD_some]; exact (k1 (c_net c))))
  · have c : (!(decide (xs0 = 0))) = false := by first | exact c | (simp only [Option.getD_some] at c; exact c)
    (first | exact (k2 (c_nef c)) | (simp only [Option.getD_some]; exact (k2 (c_nef c))))
theorem w_Model_tours_48 {rod : Nat → Nat × (Nat → Int32)} {d : Nat} {Q : Option MV → MH → Prop} {u0 : Option MV} {u1 : Option MV} {u2 : Option MV} {u3 : Option MV} {u4 : Option MV} {u5 : Option MV} {u6 : Option MV} {u7 : Option MV} {u8 : Option MV} {u9 : Option MV} {h : MH}   (k : Wb rod d B_Model_tours 111 [u0, u1, u2, u3, u4, u5, u6, u7, u8, u9] [] h Q) : Wb rod d B_Model_tours 48 [u0, u1, u2, u3, u4, u5, u6, u7, u8, u9] [] h Q := by
  refine Wb.go (fun r hr q => b_Model_tours_48 ?_) k
  (first | exact q | (simp only [Option.getD_some]; exact q))
theorem w_Model_tours_51 {rod : Nat → Nat × (Nat → Int32)} {d : Nat} {Q : Option MV → MH → Prop} {x1 : Int32} {x2 : Int32} {u3 : Option MV} {u4 : Option MV} {u5 : Option MV} {x6 : Int32} {u7 : Option MV} {u8 : Option MV} {u9 : Option MV} {h : MH} (L : Lay h.2)  {Q1 : Option MV → MH → Prop} (c : Wc rod d 251 [.inr (.inr (.inl (some 84))), .inl x6, .inl x1, .inl x2] h Q1) (k : ∀ r1 h2, Q1 r1 h2 → Wb rod d B_Model_tours 59 [some (.inr (.inr (.inl (some 84)))), some (.inl x1), some (.inl x2), u3, u4, u5, some (.inl x6), u7, u8, u9] (r1.toList ++ []) h2 Q) : Wb rod d B_Model_tours 51 [some (.inr (.inr (.inl (some 84)))), some (.inl x1), some (.inl x2), u3, u4, u5, some (.inl x6), u7, u8, u9] [] h Q := by
  refine Wb.call (fun _ _ _ _ => b_Model_tours_51 (Lay.o84 L)) (Q1 := Q1) ?_ ?_
  · (first | exact c | (simp only [Option.getD_some]; exact c))
  · (first | exact k | (simp only [Option.getD_some]; exact k))
theorem w_Model_tours_59 {rod : Nat → Nat × (Nat → Int32)} {d : Nat} {Q : Option MV → MH → Prop} {u0 : Option MV} {u1 : Option MV} {u2 : Option MV} {u3 : Option MV} {x4 : Int32} {u5 : Option MV} {u6 : Option MV} {u7 : Option MV} {u8 : Option MV} {u9 : Option MV} {xs0 : Int32} {h : MH}  (g0 : okl [u0, u1, u2, u3, some (.inl x4), u5, u6, u7, u8, u9] 8 = true) (k1 : x4.toInt < xs0.toInt → Wb rod d B_Model_tours 71 [u0, u1, u2, u3, some (.inl x4), u5, u6, u7, some (.inl xs0), u9] [] h Q) (k2 : ¬ x4.toInt < xs0.toInt → Wb rod d B_Model_tours 68 [u0, u1, u2, u3, some (.inl x4), u5, u6, u7, some (.inl xs0), u9] [] h Q) : Wb rod d B_Model_tours 59 [u0, u1, u2, u3, some (.inl x4), u5, u6, u7, u8, u9] [.inl xs0] h Q := by
  refine Wb.br (fun _ _ => b_Model_tours_59 g0) (fun c => ?_) (fun c => ?_)
  · have c : (decide (x4 < xs0)) = true := by first | exact c | (simp only [Option.getD_some] at c; exact c)
    (first | exact (k1 (c_ltt c)) | (simp only [Option.getD_some]; exact (k1 (c_ltt c))))
  · have c : (decide (x4 < xs0)) = false := by first | exact c | (simp only [Option.getD_some] at c; exact c)
    (first | exact (k2 (c_ltf c)) | (simp only [Option.getD_some]; exact (k2 (c_ltf c))))
theorem w_Model_tours_68 {rod : Nat → Nat × (Nat → Int32)} {d : Nat} {Q : Option MV → MH → Prop} {u0 : Option MV} {u1 : Option MV} {u2 : Option MV} {u3 : Option MV} {u4 : Option MV} {u5 : Option MV} {u6 : Option MV} {u7 : Option MV} {u8 : Option MV} {u9 : Option MV} {h : MH}   (k : Wb rod d B_Model_tours 111 [u0, u1, u2, u3, u4, u5, u6, u7, u8, u9] [] h Q) : Wb rod d B_Model_tours 68 [u0, u1, u2, u3, u4, u5, u6, u7, u8, u9] [] h Q := by
  refine Wb.go (fun r hr q => b_Model_tours_68 ?_) k
  (first | exact q | (simp only [Option.getD_some]; exact q))
theorem w_Model_tours_71 {rod : Nat → Nat × (Nat → Int32)} {d : Nat} {Q : Option MV → MH → Prop} {u1 : Option MV} {u2 : Option MV} {u3 : Option MV} {u4 : Option MV} {u5 : Option MV} {x6 : Int32} {u7 : Option MV} {x8 : Int32} {u9 : Option MV} {h : MH} (L : Lay h.2) (g0 : okl [some (.inr (.inr (.inl (some 84)))), u1, u2, u3, u4, u5, some (.inl x6), u7, some (.inl x8), u9] 4 = true) (k : Wb rod d B_Model_tours 81 [some (.inr (.inr (.inl (some 84)))), u1, u2, u3, some (.inl x8), u5, some (.inl x6), u7, some (.inl x8), u9] [] (sI h 84 32 x6) Q) : Wb rod d B_Model_tours 71 [some (.inr (.inr (.inl (some 84)))), u1, u2, u3, u4, u5, some (.inl x6), u7, some (.inl x8), u9] [] h Q := by
  refine Wb.go (fun r hr q => b_Model_tours_71 g0 (Lay.o84 L) ?_) k
  (first | exact q | (simp only [Option.getD_some]; exact q))
theorem w_Model_tours_81 {rod : Nat → Nat × (Nat → Int32)} {d : Nat} {Q : Option MV → MH → Prop} {u0 : Option MV} {u1 : Option MV} {u2 : Option MV} {u3 : Option MV} {u4 : Option MV} {u5 : Option MV} {u6 : Option MV} {u7 : Option MV} {u8 : Option MV} {u9 : Option MV} {h : MH}  (g0 : okl [u0, u1, u2, u3, u4, u5, u6, u7, u8, u9] 9 = true) (k : Wb rod d B_Model_tours 84 [u0, u1, u2, u3, u4, u5, u6, u7, u8, some (.inl (0 : Int32))] [] h Q) : Wb rod d B_Model_tours 81 [u0, u1, u2, u3, u4, u5, u6, u7, u8, u9] [] h Q := by
  refine Wb.go (fun r hr q => b_Model_tours_81 g0 ?_) k
  (first | exact q | (simp only [Option.getD_some]; exact q))
theorem w_Model_tours_84 {rod : Nat → Nat × (Nat → Int32)} {d : Nat} {Q : Option MV → MH → Prop} {u0 : Option MV} {u1 : Option MV} {u2 : Option MV} {u3 : Option MV} {u4 : Option MV} {u5 : Option MV} {x6 : Int32} {u7 : Option MV} {u8 : Option MV} {x9 : Int32} {h : MH}   (k1 : x6.toInt ≤ x9.toInt → Wb rod d B_Model_tours 111 [u0, u1, u2, u3, u4, u5, some (.inl x6), u7, u8, some (.inl x9)] [] h Q) (k2 : ¬ x6.toInt ≤ x9.toInt → Wb rod d B_Model_tours 91 [u0, u1, u2, u3, u4, u5, some (.inl x6), u7, u8, some (.inl x9)] [] h Q) : Wb rod d B_Model_tours 84 [u0, u1, u2, u3, u4, u5, some (.inl x6), u7, u8, some (.inl x9)] [] h Q := by
  refine Wb.br (fun _ _ => b_Model_tours_84) (fun c => ?_) (fun c => ?_)
  · have c : (decide (x6 ≤ x9)) = true := by first | exact c | (simp only [Option.getD_some] at c; exact c)
    (first | exact (k1 (c_let c)) | (simp only [Option.getD_some]; exact (k1 (c_let c))))
  · have c : (decide (x6 ≤ x9)) = false := by first | exact c | (simp only [Option.getD_some] at c; exact c)
    (first | exact (k2 (c_lef c)) | (simp only [Option.getD_some]; exact (k2 (c_lef c))))
theorem w_Model_tours_91 {rod : Nat → Nat × (Nat → Int32)} {d : Nat} {Q : Option MV → MH → Prop} {u1 : Option MV} {u2 : Option MV} {u3 : Option MV} {u4 : Option MV} {u5 : Option MV} {u6 : Option MV} {u7 : Option MV} {u8 : Option MV} {x9 : Int32} {h : MH} (L : Lay h.2) (g0 : 0 ≤ x9.toInt ∧ x9.toInt < 5) (k : Wb rod d B_Model_tours 105 [some (.inr (.inr (.inl (some 84)))), u1, u2, u3, u4, u5, u6, u7, u8, some (.inl x9)] [] (sI h 94 x9.toNatClampNeg (h.1 93 x9.toNatClampNeg)) Q) : Wb rod d B_Model_tours 91 [some (.inr (.inr (.inl (some 84)))), u1, u2, u3, u4, u5, u6, u7, u8, some (.inl x9)] [] h Q := by
  refine Wb.go (fun r hr q => b_Model_tours_91 (Lay.o84 L) (Lay.a84_30 L g0) (Lay.a84_31 L g0) ?_) k
  (first | exact q | (simp only [Option.getD_some, (Lay.r84_31 L), (Lay.r84_30 L)]; exact q))
theorem w_Model_tours_105 {rod : Nat → Nat × (Nat → Int32)} {d : Nat} {Q : Option MV → MH → Prop} {u0 : Option MV} {u1 : Option MV} {u2 : Option MV} {u3 : Option MV} {u4 : Option MV} {u5 : Option MV} {u6 : Option MV} {u7 : Option MV} {u8 : Option MV} {x9 : Int32} {h : MH}  (g0 : okl [u0, u1, u2, u3, u4, u5, u6, u7, u8, some (.inl x9)] 9 = true) (k : Wb rod d B_Model_tours 84 [u0, u1, u2, u3, u4, u5, u6, u7, u8, some (.inl (x9 + 1))] [] h Q) : Wb rod d B_Model_tours 105 [u0, u1, u2, u3, u4, u5, u6, u7, u8, some (.inl x9)] [] h Q := by
  refine Wb.go (fun r hr q => b_Model_tours_105 g0 ?_) k
  (first | exact q | (simp only [Option.getD_some]; exact q))
theorem w_Model_tours_111 {rod : Nat → Nat × (Nat → Int32)} {d : Nat} {Q : Option MV → MH → Prop} {u0 : Option MV} {u1 : Option MV} {u2 : Option MV} {u3 : Option MV} {u4 : Option MV} {u5 : Option MV} {u6 : Option MV} {x7 : Int32} {u8 : Option MV} {u9 : Option MV} {h : MH}  (g0 : okl [u0, u1, u2, u3, u4, u5, u6, some (.inl x7), u8, u9] 7 = true) (k : Wb rod d B_Model_tours 30 [u0, u1, u2, u3, u4, u5, u6, some (.inl (x7 + 1)), u8, u9] [] h Q) : Wb rod d B_Model_tours 111 [u0, u1, u2, u3, u4, u5, u6, some (.inl x7), u8, u9] [] h Q := by
  refine Wb.go (fun r hr q => b_Model_tours_111 g0 ?_) k
  (first | exact q | (simp only [Option.getD_some]; exact q))
theorem w_Model_tours_117 {rod : Nat → Nat × (Nat → Int32)} {d : Nat} {Q : Option MV → MH → Prop} {u1 : Option MV} {u2 : Option MV} {u3 : Option MV} {u4 : Option MV} {x5 : Int32} {x6 : Int32} {u7 : Option MV} {u8 : Option MV} {u9 : Option MV} {h : MH} (L : Lay h.2) (g0 : okl [some (.inr (.inr (.inl (some 84)))), u1, u2, u3, u4, some (.inl x5), some (.inl x6), u7, u8, u9] 5 = true) (k : Wb rod d B_Model_tours 18 [some (.inr (.inr (.inl (some 84)))), u1, u2, u3, u4, some (.inl (x5 * ((h.1 84 13) - (1 : Int32)))), some (.inl (x6 + 1)), u7, u8, u9] [] h Q) : Wb rod d B_Model_tours 117 [some (.inr (.inr (.inl (some 84)))), u1, u2, u3, u4, some (.inl x5), some (.inl x6), u7, u8, u9] [] h Q := by
  refine Wb.go (fun r hr q => b_Model_tours_117 (Lay.o84 L) g0 ?_) k
  (first | exact q | (simp only [Option.getD_some]; exact q))
theorem w_Model_tours_134 {rod : Nat → Nat × (Nat → Int32)} {d : Nat} {Q : Option MV → MH → Prop} {u0 : Option MV} {u1 : Option MV} {u2 : Option MV} {u3 : Option MV} {x4 : Int32} {u5 : Option MV} {u6 : Option MV} {u7 : Option MV} {u8 : Option MV} {u9 : Option MV} {h : MH}   (q : Q (some (.inl x4)) h) : Wb rod d B_Model_tours 134 [u0, u1, u2, u3, some (.inl x4), u5, u6, u7, u8, u9] [] h Q := by
  refine Wb.ret (b_Model_tours_134) ?_
  (first | exact q | (simp only [Option.getD_some]; exact q))
theorem n_Model_isRow {rod : Nat → Nat × (Nat → Int32)} {d : Nat} {Q : Option MV → MH → Prop} {x1 : Int32} {x2 : Int32} {h : MH} (k : Wb rod d B_Model_isRow 0 [some (.inr (.inr (.inl (some 84)))), some (.inl x1), some (.inl x2), none, none, none] [] h Q) : Wc rod (d + 1) 250 [.inr (.inr (.inl (some 84))), .inl x1, .inl x2] h Q := Wc.en (fun _ _ => e_Model_isRow) k
theorem w_Model_isRow_0 {rod : Nat → Nat × (Nat → Int32)} {d : Nat} {Q : Option MV → MH → Prop} {u0 : Option MV} {x1 : Int32} {x2 : Int32} {u3 : Option MV} {u4 : Option MV} {u5 : Option MV} {h : MH}   (k : Wb rod d B_Model_isRow 10 [u0, some (.inl x1), some (.inl x2), some (.inl x1), some (.inl (0 : Int32)), some (.inl (x2 - (1 : Int32)))] [] h Q) : Wb rod d B_Model_isRow 0 [u0, some (.inl x1), some (.inl x2), u3, u4, u5] [] h Q := by
  refine Wb.go (fun r hr q => b_Model_isRow_0 ?_) k
  (first | exact q | (simp only [Option.getD_some]; exact q))
theorem w_Model_isRow_10 {rod : Nat → Nat × (Nat → Int32)} {d : Nat} {Q : Option MV → MH → Prop} {u0 : Option MV} {u1 : Option MV} {u2 : Option MV} {u3 : Option MV} {u4 : Option MV} {x5 : Int32} {h : MH}   (k1 : x5.toInt < 0 → Wb rod d B_Model_isRow 79 [u0, u1, u2, u3, u4, some (.inl x5)] [] h Q) (k2 : ¬ x5.toInt < 0 → Wb rod d B_Model_isRow 15 [u0, u1, u2, u3, u4, some (.inl x5)] [] h Q) : Wb rod d B_Model_isRow 10 [u0, u1, u2, u3, u4, some (.inl x5)] [] h Q := by
  refine Wb.br (fun _ _ => b_Model_isRow_10) (fun c => ?_) (fun c => ?_)
  · have c : (decide (x5 < 0)) = true := by first | exact c | (simp only [Option.getD_some] at c; exact c)
    (first | exact (k1 (c_ltt c)) | (simp only [Option.getD_some]; exact (k1 (c_ltt c))))
  · have c : (decide (x5 < 0)) = false := by first | exact c | (simp only [Option.getD_some] at c; exact c)
    (first | exact (k2 (c_ltf c)) | (simp only [Option.getD_some]; exact (k2 (c_ltf c))))
theorem w_Model_isRow_15 {rod : Nat → Nat × (Nat → Int32)} {d : Nat} {Q : Option MV → MH → Prop} {u1 : Option MV} {u2 : Option MV} {x3 : Int32} {u4 : Option MV} {x5 : Int32} {h : MH} (L : Lay h.2) (g0 : ((h.1 84 13) - (1 : Int32)) ≠ 0) (g1 : 0 ≤ x5.toInt ∧ x5.toInt < 5) (k : Wb rod d B_Model_isRow 32 [some (.inr (.inr (.inl (some 84)))), u1, u2, some (.inl x3), u4, some (.inl x5)] [] (sI h 93 x5.toNatClampNeg ((1 : Int32) + (x3 - x3 / ((h.1 84 13) - (1 : Int32)) * ((h.1 84 13) - (1 : Int32))))) Q) : Wb rod d B_Model_isRow 15 [some (.inr (.inr (.inl (some 84)))), u1, u2, some (.inl x3), u4, some (.inl x5)] [] h Q := by
  refine Wb.go (fun r hr q => b_Model_isRow_15 (Lay.o84 L) (ndec g0) (Lay.a84_30 L g1) ?_) k
  (first | exact q | (simp only [Option.getD_some, (Lay.r84_30 L)]; exact q))
theorem w_Model_isRow_32 {rod : Nat → Nat × (Nat → Int32)} {d : Nat} {Q : Option MV → MH → Prop} {u1 : Option MV} {u2 : Option MV} {x3 : Int32} {x4 : Int32} {x5 : Int32} {h : MH} (L : Lay h.2) (g0 : ((h.1 84 13) - (1 : Int32)) ≠ 0) (g1 : okl [some (.inr (.inr (.inl (some 84)))), u1, u2, some (.inl x3), some (.inl x4), some (.inl x5)] 3 = true) (g2 : 0 ≤ x5.toInt ∧ x5.toInt < 5) (k1 : ¬ ((x4 >>> ((h.1 93 x5.toNatClampNeg) &&& 31)) &&& (1 : Int32)).toInt = 1 → Wb rod d B_Model_isRow 59 [some (.inr (.inr (.inl (some 84)))), u1, u2, some (.inl (x3 / ((h.1 84 13) - (1 : Int32)))), some (.inl x4), some (.inl x5)] [] h Q) (k2 : ((x4 >>> ((h.1 93 x5.toNatClampNeg) &&& 31)) &&& (1 : Int32)).toInt = 1 → Wb rod d B_Model_isRow 57 [some (.inr (.inr (.inl (some 84)))), u1, u2, some (.inl (x3 / ((h.1 84 13) - (1 : Int32)))), some (.inl x4), some (.inl x5)] [] h Q) : Wb rod d B_Model_isRow 32 [some (.inr (.inr (.inl (some 84)))), u1, u2, some (.inl x3), some (.inl x4), some (.inl x5)] [] h Q := by
  refine Wb.br (fun _ _ => b_Model_isRow_32 (Lay.o84 L) (ndec g0) g1 (Lay.a84_30 L g2)) (fun c => ?_) (fun c => ?_)
  · have c : (!(decide (((x4 >>> ((h.1 93 x5.toNatClampNeg) &&& 31)) &&& (1 : Int32)) = (1 : Int32)))) = true := by first | exact c | (simp only [Option.getD_some, (Lay.r84_30 L)] at c; exact c)
    (first | exact (k1 (c_net c)) | (simp only [Option.getD_some, (Lay.r84_30 L)]; exact (k1 (c_net c))))
  · have c : (!(decide (((x4 >>> ((h.1 93 x5.toNatClampNeg) &&& 31)) &&& (1 : Int32)) = (1 : Int32)))) = false := by first | exact c | (simp only [Option.getD_some, (Lay.r84_30 L)] at c; exact c)
    (first | exact (k2 (c_nef c)) | (simp only [Option.getD_some, (Lay.r84_30 L)]; exact (k2 (c_nef c))))
theorem w_Model_isRow_57 {rod : Nat → Nat × (Nat → Int32)} {d : Nat} {Q : Option MV → MH → Prop} {u0 : Option MV} {u1 : Option MV} {u2 : Option MV} {u3 : Option MV} {u4 : Option MV} {u5 : Option MV} {h : MH}   (q : Q (some (.inl (0 : Int32))) h) : Wb rod d B_Model_isRow 57 [u0, u1, u2, u3, u4, u5] [] h Q := by
  refine Wb.ret (b_Model_isRow_57) ?_
  (first | exact q | (simp only [Option.getD_some]; exact q))
theorem w_Model_isRow_59 {rod : Nat → Nat × (Nat → Int32)} {d : Nat} {Q : Option MV → MH → Prop} {u1 : Option MV} {u2 : Option MV} {u3 : Option MV} {x4 : Int32} {x5 : Int32} {h : MH} (L : Lay h.2) (g0 : 0 ≤ x5.toInt ∧ x5.toInt < 5) (g1 : okl [some (.inr (.inr (.inl (some 84)))), u1, u2, u3, some (.inl x4), some (.inl x5)] 4 = true) (k : Wb rod d B_Model_isRow 10 [some (.inr (.inr (.inl (some 84)))), u1, u2, u3, some (.inl (x4 ||| ((1 : Int32) <<< ((h.1 93 x5.toNatClampNeg) &&& 31)))), some (.inl (x5 + (-1)))] [] h Q) : Wb rod d B_Model_isRow 59 [some (.inr (.inr (.inl (some 84)))), u1, u2, u3, some (.inl x4), some (.inl x5)] [] h Q := by
  refine Wb.go (fun r hr q => b_Model_isRow_59 (Lay.o84 L) (Lay.a84_30 L g0) g1 ?_) k
  (first | exact q | (simp only [Option.getD_some, (Lay.r84_30 L)]; exact q))
theorem w_Model_isRow_79 {rod : Nat → Nat × (Nat → Int32)} {d : Nat} {Q : Option MV → MH → Prop} {u0 : Option MV} {u1 : Option MV} {u2 : Option MV} {u3 : Option MV} {u4 : Option MV} {u5 : Option MV} {h : MH}   (q : Q (some (.inl (1 : Int32))) h) : Wb rod d B_Model_isRow 79 [u0, u1, u2, u3, u4, u5] [] h Q := by
  refine Wb.ret (b_Model_isRow_79) ?_
  (first | exact q | (simp only [Option.getD_some]; exact q))
theorem n_Model_triedBy {rod : Nat → Nat × (Nat → Int32)} {d : Nat} {Q : Option MV → MH → Prop} {x1 : Int32} {x2 : Int32} {x3 : Int32} {h : MH} (k : Wb rod d B_Model_triedBy 0 [some (.inr (.inr (.inl (some 84)))), some (.inl x1), some (.inl x2), some (.inl x3), none, none, none, none] [] h Q) : Wc rod (d + 1) 251 [.inr (.inr (.inl (some 84))), .inl x1, .inl x2, .inl x3] h Q := Wc.en (fun _ _ => e_Model_triedBy) k
theorem w_Model_triedBy_0 {rod : Nat → Nat × (Nat → Int32)} {d : Nat} {Q : Option MV → MH → Prop} {u1 : Option MV} {u2 : Option MV} {x3 : Int32} {u4 : Option MV} {u5 : Option MV} {u6 : Option MV} {u7 : Option MV} {h : MH} (L : Lay h.2)  {Q1 : Option MV → MH → Prop} (c : Wc rod d 252 [.inr (.inr (.inl (some 84))), .inl (0 : Int32), .inl x3] h Q1) (k : ∀ r1 h2, Q1 r1 h2 → Wb rod d B_Model_triedBy 6 [some (.inr (.inr (.inl (some 84)))), u1, u2, some (.inl x3), u4, u5, u6, u7] (r1.toList ++ []) h2 Q) : Wb rod d B_Model_triedBy 0 [some (.inr (.inr (.inl (some 84)))), u1, u2, some (.inl x3), u4, u5, u6, u7] [] h Q := by
  refine Wb.call (fun _ _ _ _ => b_Model_triedBy_0 (Lay.o84 L)) (Q1 := Q1) ?_ ?_
  · (first | exact c | (simp only [Option.getD_some]; exact c))
  · (first | exact k | (simp only [Option.getD_some]; exact k))
theorem w_Model_triedBy_6 {rod : Nat → Nat × (Nat → Int32)} {d : Nat} {Q : Option MV → MH → Prop} {u0 : Option MV} {u1 : Option MV} {u2 : Option MV} {u3 : Option MV} {u4 : Option MV} {u5 : Option MV} {u6 : Option MV} {u7 : Option MV} {xs0 : Int32} {h : MH}  (g0 : okl [u0, u1, u2, u3, u4, u5, u6, u7] 4 = true) (k : Wb rod d B_Model_triedBy 17 [u0, u1, u2, u3, some (.inl xs0), some (.inl (0 : Int32)), some (.inl (0 : Int32)), some (.inl (0 : Int32))] [] h Q) : Wb rod d B_Model_triedBy 6 [u0, u1, u2, u3, u4, u5, u6, u7] [.inl xs0] h Q := by
  refine Wb.go (fun r hr q => b_Model_triedBy_6 g0 ?_) k
  (first | exact q | (simp only [Option.getD_some]; exact q))
theorem w_Model_triedBy_17 {rod : Nat → Nat × (Nat → Int32)} {d : Nat} {Q : Option MV → MH → Prop} {u0 : Option MV} {x1 : Int32} {u2 : Option MV} {u3 : Option MV} {u4 : Option MV} {u5 : Option MV} {u6 : Option MV} {x7 : Int32} {h : MH}   (k1 : x1.toInt ≤ x7.toInt → Wb rod d B_Model_triedBy 73 [u0, some (.inl x1), u2, u3, u4, u5, u6, some (.inl x7)] [] h Q) (k2 : ¬ x1.toInt ≤ x7.toInt → Wb rod d B_Model_triedBy 23 [u0, some (.inl x1), u2, u3, u4, u5, u6, some (.inl x7)] [] h Q) : Wb rod d B_Model_triedBy 17 [u0, some (.inl x1), u2, u3, u4, u5, u6, some (.inl x7)] [] h Q := by
  refine Wb.br (fun _ _ => b_Model_triedBy_17) (fun c => ?_) (fun c => ?_)
  · have c : (decide (x1 ≤ x7)) = true := by first | exact c | (simp only [Option.getD_some] at c; exact c)
    (first | exact (k1 (c_let c)) | (simp only [Option.getD_some]; exact (k1 (c_let c))))
  · have c : (decide (x1 ≤ x7)) = false := by first | exact c | (simp only [Option.getD_some] at c; exact c)
    (first | exact (k2 (c_lef c)) | (simp only [Option.getD_some]; exact (k2 (c_lef c))))
theorem w_Model_triedBy_23 {rod : Nat → Nat × (Nat → Int32)} {d : Nat} {Q : Option MV → MH → Prop} {u1 : Option MV} {u2 : Option MV} {x3 : Int32} {x4 : Int32} {x5 : Int32} {x6 : Int32} {x7 : Int32} {h : MH} (L : Lay h.2) (g0 : 0 ≤ x7.toInt ∧ x7.toInt < 5) (g1 : 0 ≤ (((6 : Int32) * x6) + (h.1 93 x7.toNatClampNeg)).toInt ∧ (((6 : Int32) * x6) + (h.1 93 x7.toNatClampNeg)).toInt < 36) {Q1 : Option MV → MH → Prop} (c : Wc rod d 252 [.inr (.inr (.inl (some 84))), .inl (h.1 93 x7.toNatClampNeg), .inl x3] h Q1) (k : ∀ r1 h2, Q1 r1 h2 → Wb rod d B_Model_triedBy 64 [some (.inr (.inr (.inl (some 84)))), u1, u2, some (.inl x3), some (.inl x4), some (.inl (x5 + (h.1 92 (((6 : Int32) * x6) + (h.1 93 x7.toNatClampNeg)).toNatClampNeg))), some (.inl (h.1 93 x7.toNatClampNeg)), some (.inl x7)] (r1.toList ++ [.inl x4]) h2 Q) : Wb rod d B_Model_triedBy 23 [some (.inr (.inr (.inl (some 84)))), u1, u2, some (.inl x3), some (.inl x4), some (.inl x5), some (.inl x6), some (.inl x7)] [] h Q := by
  refine Wb.call (fun _ _ _ _ => b_Model_triedBy_23 (Lay.o84 L) (Lay.a84_30 L g0) (Lay.a84_29 L (by first | exact g1 | (simp only [Option.getD_some, (Lay.r84_29 L), (Lay.r84_30 L)]; exact g1)))) (Q1 := Q1) ?_ ?_
  · (first | exact c | (simp only [Option.getD_some, (Lay.r84_29 L), (Lay.r84_30 L)]; exact c))
  · (first | exact k | (simp only [Option.getD_some, (Lay.r84_29 L), (Lay.r84_30 L)]; exact k))
theorem w_Model_triedBy_64 {rod : Nat → Nat × (Nat → Int32)} {d : Nat} {Q : Option MV → MH → Prop} {u0 : Option MV} {u1 : Option MV} {u2 : Option MV} {u3 : Option MV} {u4 : Option MV} {u5 : Option MV} {u6 : Option MV} {x7 : Int32} {xs0 : Int32} {xs1 : Int32} {h : MH}  (g0 : okl [u0, u1, u2, u3, u4, u5, u6, some (.inl x7)] 4 = true) (g1 : okl [u0, u1, u2, u3, some (.inl (xs0 + xs1)), u5, u6, some (.inl x7)] 7 = true) (k : Wb rod d B_Model_triedBy 17 [u0, u1, u2, u3, some (.inl (xs0 + xs1)), u5, u6, some (.inl (x7 + 1))] [] h Q) : Wb rod d B_Model_triedBy 64 [u0, u1, u2, u3, u4, u5, u6, some (.inl x7)] [.inl xs1, .inl xs0] h Q := by
  refine Wb.go (fun r hr q => b_Model_triedBy_64 g0 g1 ?_) k
  (first | exact q | (simp only [Option.getD_some]; exact q))
theorem w_Model_triedBy_73 {rod : Nat → Nat × (Nat → Int32)} {d : Nat} {Q : Option MV → MH → Prop} {u0 : Option MV} {u1 : Option MV} {x2 : Int32} {u3 : Option MV} {u4 : Option MV} {x5 : Int32} {u6 : Option MV} {u7 : Option MV} {h : MH}   (k1 : x2.toInt < x5.toInt → Wb rod d B_Model_triedBy 84 [u0, u1, some (.inl x2), u3, u4, some (.inl x5), u6, u7] [] h Q) (k2 : ¬ x2.toInt < x5.toInt → Wb rod d B_Model_triedBy 79 [u0, u1, some (.inl x2), u3, u4, some (.inl x5), u6, u7] [] h Q) : Wb rod d B_Model_triedBy 73 [u0, u1, some (.inl x2), u3, u4, some (.inl x5), u6, u7] [] h Q := by
  refine Wb.br (fun _ _ => b_Model_triedBy_73) (fun c => ?_) (fun c => ?_)
  · have c : (decide (x2 < x5)) = true := by first | exact c | (simp only [Option.getD_some] at c; exact c)
    (first | exact (k1 (c_ltt c)) | (simp only [Option.getD_some]; exact (k1 (c_ltt c))))
  · have c : (decide (x2 < x5)) = false := by first | exact c | (simp only [Option.getD_some] at c; exact c)
    (first | exact (k2 (c_ltf c)) | (simp only [Option.getD_some]; exact (k2 (c_ltf c))))
theorem w_Model_triedBy_79 {rod : Nat → Nat × (Nat → Int32)} {d : Nat} {Q : Option MV → MH → Prop} {u0 : Option MV} {u1 : Option MV} {u2 : Option MV} {u3 : Option MV} {x4 : Int32} {u5 : Option MV} {u6 : Option MV} {u7 : Option MV} {h : MH}   (k : Wb rod d B_Model_triedBy 85 [u0, u1, u2, u3, some (.inl x4), u5, u6, u7] [.inl x4] h Q) : Wb rod d B_Model_triedBy 79 [u0, u1, u2, u3, some (.inl x4), u5, u6, u7] [] h Q := by
  refine Wb.go (fun r hr q => b_Model_triedBy_79 ?_) k
  (first | exact q | (simp only [Option.getD_some]; exact q))
theorem w_Model_triedBy_84 {rod : Nat → Nat × (Nat → Int32)} {d : Nat} {Q : Option MV → MH → Prop} {u0 : Option MV} {u1 : Option MV} {u2 : Option MV} {u3 : Option MV} {u4 : Option MV} {u5 : Option MV} {u6 : Option MV} {u7 : Option MV} {h : MH}   (k : Wb rod d B_Model_triedBy 85 [u0, u1, u2, u3, u4, u5, u6, u7] [.inl (-1 : Int32)] h Q) : Wb rod d B_Model_triedBy 84 [u0, u1, u2, u3, u4, u5, u6, u7] [] h Q := by
  refine Wb.go (fun r hr q => b_Model_triedBy_84 ?_) k
  (first | exact q | (simp only [Option.getD_some]; exact q))
theorem w_Model_triedBy_85 {rod : Nat → Nat × (Nat → Int32)} {d : Nat} {Q : Option MV → MH → Prop} {u0 : Option MV} {u1 : Option MV} {u2 : Option MV} {u3 : Option MV} {u4 : Option MV} {u5 : Option MV} {u6 : Option MV} {u7 : Option MV} {xs0 : Int32} {h : MH}   (q : Q (some (.inl xs0)) h) : Wb rod d B_Model_triedBy 85 [u0, u1, u2, u3, u4, u5, u6, u7] [.inl xs0] h Q := by
  refine Wb.ret (b_Model_triedBy_85) ?_
  (first | exact q | (simp only [Option.getD_some]; exact q))
theorem n_Model_coinsOf {rod : Nat → Nat × (Nat → Int32)} {d : Nat} {Q : Option MV → MH → Prop} {x1 : Int32} {x2 : Int32} {h : MH} (k : Wb rod d B_Model_coinsOf 0 [some (.inr (.inr (.inl (some 84)))), some (.inl x1), some (.inl x2), none, none] [] h Q) : Wc rod (d + 1) 252 [.inr (.inr (.inl (some 84))), .inl x1, .inl x2] h Q := Wc.en (fun _ _ => e_Model_coinsOf) k
theorem w_Model_coinsOf_0 {rod : Nat → Nat × (Nat → Int32)} {d : Nat} {Q : Option MV → MH → Prop} {x1 : Int32} {u2 : Option MV} {u3 : Option MV} {u4 : Option MV} {h : MH} (L : Lay h.2)  {Q1 : Option MV → MH → Prop} (c : Wc rod d 236 [.inr (.inr (.inl (some 84))), .inl x1] h Q1) (k : ∀ r1 h2, Q1 r1 h2 → Wb rod d B_Model_coinsOf 5 [some (.inr (.inr (.inl (some 84)))), some (.inl x1), u2, u3, u4] (r1.toList ++ []) h2 Q) : Wb rod d B_Model_coinsOf 0 [some (.inr (.inr (.inl (some 84)))), some (.inl x1), u2, u3, u4] [] h Q := by
  refine Wb.call (fun _ _ _ _ => b_Model_coinsOf_0 (Lay.o84 L)) (Q1 := Q1) ?_ ?_
  · (first | exact c | (simp only [Option.getD_some]; exact c))
  · (first | exact k | (simp only [Option.getD_some]; exact k))
theorem w_Model_coinsOf_5 {rod : Nat → Nat × (Nat → Int32)} {d : Nat} {Q : Option MV → MH → Prop} {u0 : Option MV} {u1 : Option MV} {u2 : Option MV} {u3 : Option MV} {u4 : Option MV} {xs0 : Int32} {h : MH}   (k1 : xs0.toInt = 0 → Wb rod d B_Model_coinsOf 10 [u0, u1, u2, u3, u4] [] h Q) (k2 : ¬ xs0.toInt = 0 → Wb rod d B_Model_coinsOf 8 [u0, u1, u2, u3, u4] [] h Q) : Wb rod d B_Model_coinsOf 5 [u0, u1, u2, u3, u4] [.inl xs0] h Q := by
  refine Wb.br (fun _ _ => b_Model_coinsOf_5) (fun c => ?_) (fun c => ?_)
  · have c : (decide (xs0 = 0)) = true := by first | exact c | (simp only [Option.getD_some] at c; exact c)
    (first | exact (k1 (c_eqt c)) | (simp only [Option.getD_some]; exact (k1 (c_eqt c))))
  · have c : (decide (xs0 = 0)) = false := by first | exact c | (simp only [Option.getD_some] at c; exact c)
    (first | exact (k2 (c_eqf c)) | (simp only [Option.getD_some]; exact (k2 (c_eqf c))))
theorem w_Model_coinsOf_8 {rod : Nat → Nat × (Nat → Int32)} {d : Nat} {Q : Option MV → MH → Prop} {u0 : Option MV} {u1 : Option MV} {u2 : Option MV} {u3 : Option MV} {u4 : Option MV} {h : MH}   (q : Q (some (.inl (0 : Int32))) h) : Wb rod d B_Model_coinsOf 8 [u0, u1, u2, u3, u4] [] h Q := by
  refine Wb.ret (b_Model_coinsOf_8) ?_
  (first | exact q | (simp only [Option.getD_some]; exact q))
theorem w_Model_coinsOf_10 {rod : Nat → Nat × (Nat → Int32)} {d : Nat} {Q : Option MV → MH → Prop} {u0 : Option MV} {u1 : Option MV} {u2 : Option MV} {u3 : Option MV} {u4 : Option MV} {h : MH}  (g0 : okl [u0, u1, u2, u3, u4] 3 = true) (k : Wb rod d B_Model_coinsOf 15 [u0, u1, u2, some (.inl (0 : Int32)), some (.inl (0 : Int32))] [] h Q) : Wb rod d B_Model_coinsOf 10 [u0, u1, u2, u3, u4] [] h Q := by
  refine Wb.go (fun r hr q => b_Model_coinsOf_10 g0 ?_) k
  (first | exact q | (simp only [Option.getD_some]; exact q))
theorem w_Model_coinsOf_15 {rod : Nat → Nat × (Nat → Int32)} {d : Nat} {Q : Option MV → MH → Prop} {u1 : Option MV} {u2 : Option MV} {u3 : Option MV} {x4 : Int32} {h : MH} (L : Lay h.2)  (k1 : (h.1 84 14).toInt ≤ x4.toInt → Wb rod d B_Model_coinsOf 75 [some (.inr (.inr (.inl (some 84)))), u1, u2, u3, some (.inl x4)] [] h Q) (k2 : ¬ (h.1 84 14).toInt ≤ x4.toInt → Wb rod d B_Model_coinsOf 24 [some (.inr (.inr (.inl (some 84)))), u1, u2, u3, some (.inl x4)] [] h Q) : Wb rod d B_Model_coinsOf 15 [some (.inr (.inr (.inl (some 84)))), u1, u2, u3, some (.inl x4)] [] h Q := by
  refine Wb.br (fun _ _ => b_Model_coinsOf_15 (Lay.o84 L)) (fun c => ?_) (fun c => ?_)
  · have c : (decide ((h.1 84 14) ≤ x4)) = true := by first | exact c | (simp only [Option.getD_some] at c; exact c)
    (first | exact (k1 (c_let c)) | (simp only [Option.getD_some]; exact (k1 (c_let c))))
  · have c : (decide ((h.1 84 14) ≤ x4)) = false := by first | exact c | (simp only [Option.getD_some] at c; exact c)
    (first | exact (k2 (c_lef c)) | (simp only [Option.getD_some]; exact (k2 (c_lef c))))
theorem w_Model_coinsOf_24 {rod : Nat → Nat × (Nat → Int32)} {d : Nat} {Q : Option MV → MH → Prop} {u1 : Option MV} {u2 : Option MV} {x3 : Int32} {x4 : Int32} {h : MH} (L : Lay h.2)  {Q1 : Option MV → MH → Prop} (c : Wc rod d 221 [.inr (.inr (.inl (some 84))), .inl x4, .inl (1 : Int32)] h Q1) (k : ∀ r1 h2, Q1 r1 h2 → Wb rod d B_Model_coinsOf 32 [some (.inr (.inr (.inl (some 84)))), u1, u2, some (.inl x3), some (.inl x4)] (r1.toList ++ [.inl x3]) h2 Q) : Wb rod d B_Model_coinsOf 24 [some (.inr (.inr (.inl (some 84)))), u1, u2, some (.inl x3), some (.inl x4)] [] h Q := by
  refine Wb.call (fun _ _ _ _ => b_Model_coinsOf_24 (Lay.o84 L)) (Q1 := Q1) ?_ ?_
  · (first | exact c | (simp only [Option.getD_some]; exact c))
  · (first | exact k | (simp only [Option.getD_some]; exact k))
theorem w_Model_coinsOf_32 {rod : Nat → Nat × (Nat → Int32)} {d : Nat} {Q : Option MV → MH → Prop} {u0 : Option MV} {x1 : Int32} {u2 : Option MV} {u3 : Option MV} {u4 : Option MV} {xs0 : Int32} {xs1 : Int32} {h : MH}   (k1 : ¬ xs1.toInt = x1.toInt → Wb rod d B_Model_coinsOf 66 [u0, some (.inl x1), u2, u3, u4] [.inl xs0] h Q) (k2 : xs1.toInt = x1.toInt → Wb rod d B_Model_coinsOf 36 [u0, some (.inl x1), u2, u3, u4] [.inl xs0] h Q) : Wb rod d B_Model_coinsOf 32 [u0, some (.inl x1), u2, u3, u4] [.inl xs1, .inl xs0] h Q := by
  refine Wb.br (fun _ _ => b_Model_coinsOf_32) (fun c => ?_) (fun c => ?_)
  · have c : (!(decide (xs1 = x1))) = true := by first | exact c | (simp only [Option.getD_some] at c; exact c)
    (first | exact (k1 (c_net c)) | (simp only [Option.getD_some]; exact (k1 (c_net c))))
  · have c : (!(decide (xs1 = x1))) = false := by first | exact c | (simp only [Option.getD_some] at c; exact c)
    (first | exact (k2 (c_nef c)) | (simp only [Option.getD_some]; exact (k2 (c_nef c))))
theorem w_Model_coinsOf_36 {rod : Nat → Nat × (Nat → Int32)} {d : Nat} {Q : Option MV → MH → Prop} {u1 : Option MV} {x2 : Int32} {u3 : Option MV} {x4 : Int32} {xs0 : Int32} {h : MH} (L : Lay h.2)  {Q1 : Option MV → MH → Prop} (c : Wc rod d 223 [.inr (.inr (.inl (some 84))), .inl x2, .inl (0 : Int32)] h Q1) (k : ∀ r1 h2, Q1 r1 h2 → Wb rod d B_Model_coinsOf 45 [some (.inr (.inr (.inl (some 84)))), u1, some (.inl x2), u3, some (.inl x4)] (r1.toList ++ [.inl x4, .inr (.inr (.inl (some 84))), .inl xs0]) h2 Q) : Wb rod d B_Model_coinsOf 36 [some (.inr (.inr (.inl (some 84)))), u1, some (.inl x2), u3, some (.inl x4)] [.inl xs0] h Q := by
  refine Wb.call (fun _ _ _ _ => b_Model_coinsOf_36 (Lay.o84 L)) (Q1 := Q1) ?_ ?_
  · (first | exact c | (simp only [Option.getD_some]; exact c))
  · (first | exact k | (simp only [Option.getD_some]; exact k))
theorem w_Model_coinsOf_45 {rod : Nat → Nat × (Nat → Int32)} {d : Nat} {Q : Option MV → MH → Prop} {u1 : Option MV} {x2 : Int32} {u3 : Option MV} {u4 : Option MV} {xs0 : Int32} {xs2 : Int32} {xs3 : Int32} {h : MH} (L : Lay h.2)  {Q1 : Option MV → MH → Prop} (c : Wc rod d 223 [.inr (.inr (.inl (some 84))), .inl x2, .inl (1 : Int32)] h Q1) (k : ∀ r1 h2, Q1 r1 h2 → Wb rod d B_Model_coinsOf 51 [some (.inr (.inr (.inl (some 84)))), u1, some (.inl x2), u3, u4] (r1.toList ++ [.inl xs3, .inl xs2, .inr (.inr (.inl (some 84))), .inl xs0]) h2 Q) : Wb rod d B_Model_coinsOf 45 [some (.inr (.inr (.inl (some 84)))), u1, some (.inl x2), u3, u4] [.inl xs3, .inl xs2, .inr (.inr (.inl (some 84))), .inl xs0] h Q := by
  refine Wb.call (fun _ _ _ _ => b_Model_coinsOf_45 (Lay.o84 L)) (Q1 := Q1) ?_ ?_
  · (first | exact c | (simp only [Option.getD_some]; exact c))
  · (first | exact k | (simp only [Option.getD_some]; exact k))
theorem w_Model_coinsOf_51 {rod : Nat → Nat × (Nat → Int32)} {d : Nat} {Q : Option MV → MH → Prop} {u0 : Option MV} {u1 : Option MV} {u2 : Option MV} {u3 : Option MV} {u4 : Option MV} {xs0 : Int32} {xs2 : Int32} {xs3 : Int32} {xs4 : Int32} {h : MH} (L : Lay h.2)  {Q1 : Option MV → MH → Prop} (c : Wc rod d 228 [.inr (.inr (.inl (some 84))), .inl xs2, .inl xs3, .inl xs4] h Q1) (k : ∀ r1 h2, Q1 r1 h2 → Wb rod d B_Model_coinsOf 54 [u0, u1, u2, u3, u4] (r1.toList ++ [.inl xs0]) h2 Q) : Wb rod d B_Model_coinsOf 51 [u0, u1, u2, u3, u4] [.inl xs4, .inl xs3, .inl xs2, .inr (.inr (.inl (some 84))), .inl xs0] h Q := by
  refine Wb.call (fun _ _ _ _ => b_Model_coinsOf_51 (Lay.o84 L)) (Q1 := Q1) ?_ ?_
  · (first | exact c | (simp only [Option.getD_some]; exact c))
  · (first | exact k | (simp only [Option.getD_some]; exact k))
theorem w_Model_coinsOf_54 {rod : Nat → Nat × (Nat → Int32)} {d : Nat} {Q : Option MV → MH → Prop} {u0 : Option MV} {u1 : Option MV} {u2 : Option MV} {u3 : Option MV} {u4 : Option MV} {xs0 : Int32} {xs1 : Int32} {h : MH}   (k1 : xs1.toInt = 0 → Wb rod d B_Model_coinsOf 66 [u0, u1, u2, u3, u4] [.inl xs0] h Q) (k2 : ¬ xs1.toInt = 0 → Wb rod d B_Model_coinsOf 57 [u0, u1, u2, u3, u4] [.inl xs0] h Q) : Wb rod d B_Model_coinsOf 54 [u0, u1, u2, u3, u4] [.inl xs1, .inl xs0] h Q := by
  refine Wb.br (fun _ _ => b_Model_coinsOf_54) (fun c => ?_) (fun c => ?_)
  · have c : (decide (xs1 = 0)) = true := by first | exact c | (simp only [Option.getD_some] at c; exact c)
    (first | exact (k1 (c_eqt c)) | (simp only [Option.getD_some]; exact (k1 (c_eqt c))))
  · have c : (decide (xs1 = 0)) = false := by first | exact c | (simp only [Option.getD_some] at c; exact c)
    (first | exact (k2 (c_eqf c)) | (simp only [Option.getD_some]; exact (k2 (c_eqf c))))
theorem w_Model_coinsOf_57 {rod : Nat → Nat × (Nat → Int32)} {d : Nat} {Q : Option MV → MH → Prop} {u1 : Option MV} {x2 : Int32} {u3 : Option MV} {u4 : Option MV} {xs0 : Int32} {h : MH} (L : Lay h.2)  {Q1 : Option MV → MH → Prop} (c : Wc rod d 223 [.inr (.inr (.inl (some 84))), .inl x2, .inl (1 : Int32)] h Q1) (k : ∀ r1 h2, Q1 r1 h2 → Wb rod d B_Model_coinsOf 63 [some (.inr (.inr (.inl (some 84)))), u1, some (.inl x2), u3, u4] (r1.toList ++ [.inl xs0]) h2 Q) : Wb rod d B_Model_coinsOf 57 [some (.inr (.inr (.inl (some 84)))), u1, some (.inl x2), u3, u4] [.inl xs0] h Q := by
  refine Wb.call (fun _ _ _ _ => b_Model_coinsOf_57 (Lay.o84 L)) (Q1 := Q1) ?_ ?_
  · (first | exact c | (simp only [Option.getD_some]; exact c))
  · (first | exact k | (simp only [Option.getD_some]; exact k))
theorem w_Model_coinsOf_63 {rod : Nat → Nat × (Nat → Int32)} {d : Nat} {Q : Option MV → MH → Prop} {u0 : Option MV} {u1 : Option MV} {u2 : Option MV} {u3 : Option MV} {u4 : Option MV} {xs0 : Int32} {xs1 : Int32} {h : MH}   (k : Wb rod d B_Model_coinsOf 67 [u0, u1, u2, u3, u4] [.inl xs1, .inl xs0] h Q) : Wb rod d B_Model_coinsOf 63 [u0, u1, u2, u3, u4] [.inl xs1, .inl xs0] h Q := by
  refine Wb.go (fun r hr q => b_Model_coinsOf_63 ?_) k
  (first | exact q | (simp only [Option.getD_some]; exact q))
theorem w_Model_coinsOf_66 {rod : Nat → Nat × (Nat → Int32)} {d : Nat} {Q : Option MV → MH → Prop} {u0 : Option MV} {u1 : Option MV} {u2 : Option MV} {u3 : Option MV} {u4 : Option MV} {xs0 : Int32} {h : MH}   (k : Wb rod d B_Model_coinsOf 67 [u0, u1, u2, u3, u4] [.inl (0 : Int32), .inl xs0] h Q) : Wb rod d B_Model_coinsOf 66 [u0, u1, u2, u3, u4] [.inl xs0] h Q := by
  refine Wb.go (fun r hr q => b_Model_coinsOf_66 ?_) k
  (first | exact q | (simp only [Option.getD_some]; exact q))
theorem w_Model_coinsOf_67 {rod : Nat → Nat × (Nat → Int32)} {d : Nat} {Q : Option MV → MH → Prop} {u0 : Option MV} {u1 : Option MV} {u2 : Option MV} {u3 : Option MV} {x4 : Int32} {xs0 : Int32} {xs1 : Int32} {h : MH}  (g0 : okl [u0, u1, u2, u3, some (.inl x4)] 3 = true) (k : Wb rod d B_Model_coinsOf 15 [u0, u1, u2, some (.inl (xs0 + xs1)), some (.inl (x4 + 1))] [] h Q) : Wb rod d B_Model_coinsOf 67 [u0, u1, u2, u3, some (.inl x4)] [.inl xs1, .inl xs0] h Q := by
  refine Wb.go (fun r hr q => b_Model_coinsOf_67 g0 ?_) k
  (first | exact q | (simp only [Option.getD_some]; exact q))
theorem w_Model_coinsOf_75 {rod : Nat → Nat × (Nat → Int32)} {d : Nat} {Q : Option MV → MH → Prop} {u0 : Option MV} {u1 : Option MV} {u2 : Option MV} {x3 : Int32} {u4 : Option MV} {h : MH}   (q : Q (some (.inl x3)) h) : Wb rod d B_Model_coinsOf 75 [u0, u1, u2, some (.inl x3), u4] [] h Q := by
  refine Wb.ret (b_Model_coinsOf_75) ?_
  (first | exact q | (simp only [Option.getD_some]; exact q))
