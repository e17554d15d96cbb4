/-! RULES OF BLOCKS over postconditions, references resolved (2) -/
theorem n_Reader_note {rod : Nat → Nat × (Nat → Int32)} {d : Nat} {Q : Option MV → MH → Prop} {x1 : Int32} {x2 : Int32} {h : MH} (k : Wb rod d B_Reader_note 0 [some (.inr (.inr (.inl (some 45)))), some (.inl x1), some (.inl x2)] [] h Q) : Wc rod (d + 1) 43 [.inr (.inr (.inl (some 45))), .inl x1, .inl x2] h Q := Wc.en (fun _ _ => e_Reader_note) k
theorem w_Reader_note_0 {rod : Nat → Nat × (Nat → Int32)} {d : Nat} {Q : Option MV → MH → Prop} {u1 : Option MV} {u2 : Option MV} {h : MH} (L : Lay h.2)  (k1 : ¬ (h.1 45 11).toInt = 0 → Wb rod d B_Reader_note 17 [some (.inr (.inr (.inl (some 45)))), u1, u2] [] h Q) (k2 : (h.1 45 11).toInt = 0 → Wb rod d B_Reader_note 7 [some (.inr (.inr (.inl (some 45)))), u1, u2] [] h Q) : Wb rod d B_Reader_note 0 [some (.inr (.inr (.inl (some 45)))), u1, u2] [] h Q := by
  refine Wb.br (fun _ _ => b_Reader_note_0 (Lay.o45 L)) (fun c => ?_) (fun c => ?_)
  · have c : (!(decide ((h.1 45 11) = 0))) = true := by first | exact c | (simp only [Option.getD_some] at c; exact c)
    (first | exact (k1 (c_net c)) | (simp only [Option.getD_some]; exact (k1 (c_net c))))
  · have c : (!(decide ((h.1 45 11) = 0))) = false := by first | exact c | (simp only [Option.getD_some] at c; exact c)
    (first | exact (k2 (c_nef c)) | (simp only [Option.getD_some]; exact (k2 (c_nef c))))
theorem w_Reader_note_7 {rod : Nat → Nat × (Nat → Int32)} {d : Nat} {Q : Option MV → MH → Prop} {x1 : Int32} {u2 : Option MV} {h : MH} (L : Lay h.2)  (k : Wb rod d B_Reader_note 12 [some (.inr (.inr (.inl (some 45)))), some (.inl x1), u2] [] (sI h 45 11 x1) Q) : Wb rod d B_Reader_note 7 [some (.inr (.inr (.inl (some 45)))), some (.inl x1), u2] [] h Q := by
  refine Wb.go (fun r hr q => b_Reader_note_7 (Lay.o45 L) ?_) k
  (first | exact q | (simp only [Option.getD_some]; exact q))
theorem w_Reader_note_12 {rod : Nat → Nat × (Nat → Int32)} {d : Nat} {Q : Option MV → MH → Prop} {u1 : Option MV} {x2 : Int32} {h : MH} (L : Lay h.2)  (k : Wb rod d B_Reader_note 17 [some (.inr (.inr (.inl (some 45)))), u1, some (.inl x2)] [] (sI h 45 12 x2) Q) : Wb rod d B_Reader_note 12 [some (.inr (.inr (.inl (some 45)))), u1, some (.inl x2)] [] h Q := by
  refine Wb.go (fun r hr q => b_Reader_note_12 (Lay.o45 L) ?_) k
  (first | exact q | (simp only [Option.getD_some]; exact q))
theorem w_Reader_note_17 {rod : Nat → Nat × (Nat → Int32)} {d : Nat} {Q : Option MV → MH → Prop} {u0 : Option MV} {u1 : Option MV} {u2 : Option MV} {h : MH}   (q : Q (none) h) : Wb rod d B_Reader_note 17 [u0, u1, u2] [] h Q := by
  refine Wb.ret (b_Reader_note_17) ?_
  (first | exact q | (simp only [Option.getD_some]; exact q))
theorem n_Reader_takeNumber {rod : Nat → Nat × (Nat → Int32)} {d : Nat} {Q : Option MV → MH → Prop} {x1 : Int32} {x2 : Int32} {h : MH} (k : Wb rod d B_Reader_takeNumber 0 [some (.inr (.inr (.inl (some 45)))), some (.inl x1), some (.inl x2), none, none] [] h Q) : Wc rod (d + 1) 44 [.inr (.inr (.inl (some 45))), .inl x1, .inl x2] h Q := Wc.en (fun _ _ => e_Reader_takeNumber) k
theorem w_Reader_takeNumber_0 {rod : Nat → Nat × (Nat → Int32)} {d : Nat} {Q : Option MV → MH → Prop} {u0 : Option MV} {u1 : Option MV} {x2 : Int32} {u3 : Option MV} {u4 : Option MV} {h : MH}   (k1 : x2.toInt < 0 → Wb rod d B_Reader_takeNumber 9 [u0, u1, some (.inl x2), u3, u4] [] h Q) (k2 : ¬ x2.toInt < 0 → Wb rod d B_Reader_takeNumber 4 [u0, u1, some (.inl x2), u3, u4] [] h Q) : Wb rod d B_Reader_takeNumber 0 [u0, u1, some (.inl x2), u3, u4] [] h Q := by
  refine Wb.br (fun _ _ => b_Reader_takeNumber_0) (fun c => ?_) (fun c => ?_)
  · have c : (decide (x2 < 0)) = true := by first | exact c | (simp only [Option.getD_some] at c; exact c)
    (first | exact (k1 (c_ltt c)) | (simp only [Option.getD_some]; exact (k1 (c_ltt c))))
  · have c : (decide (x2 < 0)) = false := by first | exact c | (simp only [Option.getD_some] at c; exact c)
    (first | exact (k2 (c_ltf c)) | (simp only [Option.getD_some]; exact (k2 (c_ltf c))))
theorem w_Reader_takeNumber_4 {rod : Nat → Nat × (Nat → Int32)} {d : Nat} {Q : Option MV → MH → Prop} {u0 : Option MV} {u1 : Option MV} {x2 : Int32} {u3 : Option MV} {u4 : Option MV} {h : MH}   (k1 : x2.toInt < 4 → Wb rod d B_Reader_takeNumber 10 [u0, u1, some (.inl x2), u3, u4] [] h Q) (k2 : ¬ x2.toInt < 4 → Wb rod d B_Reader_takeNumber 9 [u0, u1, some (.inl x2), u3, u4] [] h Q) : Wb rod d B_Reader_takeNumber 4 [u0, u1, some (.inl x2), u3, u4] [] h Q := by
  refine Wb.br (fun _ _ => b_Reader_takeNumber_4) (fun c => ?_) (fun c => ?_)
  · have c : (decide (x2 < (4 : Int32))) = true := by first | exact c | (simp only [Option.getD_some] at c; exact c)
    (first | exact (k1 (c_ltt c)) | (simp only [Option.getD_some]; exact (k1 (c_ltt c))))
  · have c : (decide (x2 < (4 : Int32))) = false := by first | exact c | (simp only [Option.getD_some] at c; exact c)
    (first | exact (k2 (c_ltf c)) | (simp only [Option.getD_some]; exact (k2 (c_ltf c))))
theorem w_Reader_takeNumber_9 {rod : Nat → Nat × (Nat → Int32)} {d : Nat} {Q : Option MV → MH → Prop} {u0 : Option MV} {u1 : Option MV} {u2 : Option MV} {u3 : Option MV} {u4 : Option MV} {h : MH}   (q : Q (none) h) : Wb rod d B_Reader_takeNumber 9 [u0, u1, u2, u3, u4] [] h Q := by
  refine Wb.ret (b_Reader_takeNumber_9) ?_
  (first | exact q | (simp only [Option.getD_some]; exact q))
theorem w_Reader_takeNumber_10 {rod : Nat → Nat × (Nat → Int32)} {d : Nat} {Q : Option MV → MH → Prop} {u0 : Option MV} {x1 : Int32} {x2 : Int32} {u3 : Option MV} {u4 : Option MV} {h : MH}   (k1 : ¬ x1.toInt = 4 → Wb rod d B_Reader_takeNumber 43 [u0, some (.inl x1), some (.inl x2), some (.inl ((x1 * (4 : Int32)) + x2)), u4] [] h Q) (k2 : x1.toInt = 4 → Wb rod d B_Reader_takeNumber 21 [u0, some (.inl x1), some (.inl x2), some (.inl ((x1 * (4 : Int32)) + x2)), u4] [] h Q) : Wb rod d B_Reader_takeNumber 10 [u0, some (.inl x1), some (.inl x2), u3, u4] [] h Q := by
  refine Wb.br (fun _ _ => b_Reader_takeNumber_10) (fun c => ?_) (fun c => ?_)
  · have c : (!(decide (x1 = (4 : Int32)))) = true := by first | exact c | (simp only [Option.getD_some] at c; exact c)
    (first | exact (k1 (c_net c)) | (simp only [Option.getD_some]; exact (k1 (c_net c))))
  · have c : (!(decide (x1 = (4 : Int32)))) = false := by first | exact c | (simp only [Option.getD_some] at c; exact c)
    (first | exact (k2 (c_nef c)) | (simp only [Option.getD_some]; exact (k2 (c_nef c))))
theorem w_Reader_takeNumber_21 {rod : Nat → Nat × (Nat → Int32)} {d : Nat} {Q : Option MV → MH → Prop} {u0 : Option MV} {u1 : Option MV} {x2 : Int32} {u3 : Option MV} {u4 : Option MV} {h : MH}   (k1 : ¬ x2.toInt = 1 → Wb rod d B_Reader_takeNumber 43 [u0, u1, some (.inl x2), u3, u4] [] h Q) (k2 : x2.toInt = 1 → Wb rod d B_Reader_takeNumber 26 [u0, u1, some (.inl x2), u3, u4] [] h Q) : Wb rod d B_Reader_takeNumber 21 [u0, u1, some (.inl x2), u3, u4] [] h Q := by
  refine Wb.br (fun _ _ => b_Reader_takeNumber_21) (fun c => ?_) (fun c => ?_)
  · have c : (!(decide (x2 = (1 : Int32)))) = true := by first | exact c | (simp only [Option.getD_some] at c; exact c)
    (first | exact (k1 (c_net c)) | (simp only [Option.getD_some]; exact (k1 (c_net c))))
  · have c : (!(decide (x2 = (1 : Int32)))) = false := by first | exact c | (simp only [Option.getD_some] at c; exact c)
    (first | exact (k2 (c_nef c)) | (simp only [Option.getD_some]; exact (k2 (c_nef c))))
theorem w_Reader_takeNumber_26 {rod : Nat → Nat × (Nat → Int32)} {d : Nat} {Q : Option MV → MH → Prop} {u1 : Option MV} {u2 : Option MV} {u3 : Option MV} {u4 : Option MV} {h : MH} (L : Lay h.2)  (k1 : ¬ (h.1 45 9).toInt = (h.1 64 (0 : Int32).toNatClampNeg).toInt → Wb rod d B_Reader_takeNumber 43 [some (.inr (.inr (.inl (some 45)))), u1, u2, u3, u4] [] h Q) (k2 : (h.1 45 9).toInt = (h.1 64 (0 : Int32).toNatClampNeg).toInt → Wb rod d B_Reader_takeNumber 39 [some (.inr (.inr (.inl (some 45)))), u1, u2, u3, u4] [] h Q) : Wb rod d B_Reader_takeNumber 26 [some (.inr (.inr (.inl (some 45)))), u1, u2, u3, u4] [] h Q := by
  refine Wb.br (fun _ _ => b_Reader_takeNumber_26 (Lay.o45 L) (Lay.a45_5 L ⟨by decide, by decide⟩)) (fun c => ?_) (fun c => ?_)
  · have c : (!(decide ((h.1 45 9) = (h.1 64 (0 : Int32).toNatClampNeg)))) = true := by first | exact c | (simp only [Option.getD_some, (Lay.r45_5 L)] at c; exact c)
    (first | exact (k1 (c_net c)) | (simp only [Option.getD_some, (Lay.r45_5 L)]; exact (k1 (c_net c))))
  · have c : (!(decide ((h.1 45 9) = (h.1 64 (0 : Int32).toNatClampNeg)))) = false := by first | exact c | (simp only [Option.getD_some, (Lay.r45_5 L)] at c; exact c)
    (first | exact (k2 (c_nef c)) | (simp only [Option.getD_some, (Lay.r45_5 L)]; exact (k2 (c_nef c))))
theorem w_Reader_takeNumber_39 {rod : Nat → Nat × (Nat → Int32)} {d : Nat} {Q : Option MV → MH → Prop} {u0 : Option MV} {u1 : Option MV} {u2 : Option MV} {u3 : Option MV} {u4 : Option MV} {h : MH}   (k : Wb rod d B_Reader_takeNumber 44 [u0, u1, u2, u3, u4] [.inl (1 : Int32)] h Q) : Wb rod d B_Reader_takeNumber 39 [u0, u1, u2, u3, u4] [] h Q := by
  refine Wb.go (fun r hr q => b_Reader_takeNumber_39 ?_) k
  (first | exact q | (simp only [Option.getD_some]; exact q))
theorem w_Reader_takeNumber_43 {rod : Nat → Nat × (Nat → Int32)} {d : Nat} {Q : Option MV → MH → Prop} {u0 : Option MV} {u1 : Option MV} {u2 : Option MV} {u3 : Option MV} {u4 : Option MV} {h : MH}   (k : Wb rod d B_Reader_takeNumber 44 [u0, u1, u2, u3, u4] [.inl (0 : Int32)] h Q) : Wb rod d B_Reader_takeNumber 43 [u0, u1, u2, u3, u4] [] h Q := by
  refine Wb.go (fun r hr q => b_Reader_takeNumber_43 ?_) k
  (first | exact q | (simp only [Option.getD_some]; exact q))
theorem w_Reader_takeNumber_44 {rod : Nat → Nat × (Nat → Int32)} {d : Nat} {Q : Option MV → MH → Prop} {u1 : Option MV} {u2 : Option MV} {x3 : Int32} {u4 : Option MV} {xs0 : Int32} {h : MH} (L : Lay h.2) (g0 : inB x3 (rod 2).1 = true) (k1 : (h.1 45 9).toInt < ((rod 2).2 x3.toNatClampNeg).toInt → Wb rod d B_Reader_takeNumber 75 [some (.inr (.inr (.inl (some 45)))), u1, u2, some (.inl x3), some (.inl xs0)] [] h Q) (k2 : ¬ (h.1 45 9).toInt < ((rod 2).2 x3.toNatClampNeg).toInt → Wb rod d B_Reader_takeNumber 58 [some (.inr (.inr (.inl (some 45)))), u1, u2, some (.inl x3), some (.inl xs0)] [] h Q) : Wb rod d B_Reader_takeNumber 44 [some (.inr (.inr (.inl (some 45)))), u1, u2, some (.inl x3), u4] [.inl xs0] h Q := by
  refine Wb.br (fun _ _ => b_Reader_takeNumber_44 (Lay.o45 L) g0) (fun c => ?_) (fun c => ?_)
  · have c : (decide ((h.1 45 9) < ((rod 2).2 x3.toNatClampNeg))) = true := by first | exact c | (simp only [Option.getD_some] at c; exact c)
    (first | exact (k1 (c_ltt c)) | (simp only [Option.getD_some]; exact (k1 (c_ltt c))))
  · have c : (decide ((h.1 45 9) < ((rod 2).2 x3.toNatClampNeg))) = false := by first | exact c | (simp only [Option.getD_some] at c; exact c)
    (first | exact (k2 (c_ltf c)) | (simp only [Option.getD_some]; exact (k2 (c_ltf c))))
theorem w_Reader_takeNumber_58 {rod : Nat → Nat × (Nat → Int32)} {d : Nat} {Q : Option MV → MH → Prop} {u1 : Option MV} {u2 : Option MV} {x3 : Int32} {u4 : Option MV} {h : MH} (L : Lay h.2) (g0 : inB x3 (rod 3).1 = true) (k1 : ((rod 3).2 x3.toNatClampNeg).toInt < (h.1 45 9).toInt → Wb rod d B_Reader_takeNumber 75 [some (.inr (.inr (.inl (some 45)))), u1, u2, some (.inl x3), u4] [] h Q) (k2 : ¬ ((rod 3).2 x3.toNatClampNeg).toInt < (h.1 45 9).toInt → Wb rod d B_Reader_takeNumber 70 [some (.inr (.inr (.inl (some 45)))), u1, u2, some (.inl x3), u4] [] h Q) : Wb rod d B_Reader_takeNumber 58 [some (.inr (.inr (.inl (some 45)))), u1, u2, some (.inl x3), u4] [] h Q := by
  refine Wb.br (fun _ _ => b_Reader_takeNumber_58 (Lay.o45 L) g0) (fun c => ?_) (fun c => ?_)
  · have c : (decide (((rod 3).2 x3.toNatClampNeg) < (h.1 45 9))) = true := by first | exact c | (simp only [Option.getD_some] at c; exact c)
    (first | exact (k1 (c_ltt c)) | (simp only [Option.getD_some]; exact (k1 (c_ltt c))))
  · have c : (decide (((rod 3).2 x3.toNatClampNeg) < (h.1 45 9))) = false := by first | exact c | (simp only [Option.getD_some] at c; exact c)
    (first | exact (k2 (c_ltf c)) | (simp only [Option.getD_some]; exact (k2 (c_ltf c))))
theorem w_Reader_takeNumber_70 {rod : Nat → Nat × (Nat → Int32)} {d : Nat} {Q : Option MV → MH → Prop} {u0 : Option MV} {u1 : Option MV} {u2 : Option MV} {u3 : Option MV} {x4 : Int32} {h : MH}   (k1 : x4.toInt = 0 → Wb rod d B_Reader_takeNumber 84 [u0, u1, u2, u3, some (.inl x4)] [] h Q) (k2 : ¬ x4.toInt = 0 → Wb rod d B_Reader_takeNumber 75 [u0, u1, u2, u3, some (.inl x4)] [] h Q) : Wb rod d B_Reader_takeNumber 70 [u0, u1, u2, u3, some (.inl x4)] [] h Q := by
  refine Wb.br (fun _ _ => b_Reader_takeNumber_70) (fun c => ?_) (fun c => ?_)
  · have c : (decide (x4 = 0)) = true := by first | exact c | (simp only [Option.getD_some] at c; exact c)
    (first | exact (k1 (c_eqt c)) | (simp only [Option.getD_some]; exact (k1 (c_eqt c))))
  · have c : (decide (x4 = 0)) = false := by first | exact c | (simp only [Option.getD_some] at c; exact c)
    (first | exact (k2 (c_eqf c)) | (simp only [Option.getD_some]; exact (k2 (c_eqf c))))
theorem w_Reader_takeNumber_75 {rod : Nat → Nat × (Nat → Int32)} {d : Nat} {Q : Option MV → MH → Prop} {u1 : Option MV} {u2 : Option MV} {u3 : Option MV} {u4 : Option MV} {h : MH} (L : Lay h.2)  {Q1 : Option MV → MH → Prop} (c : Wc rod d 43 [.inr (.inr (.inl (some 45))), .inl (2 : Int32), .inl (h.1 45 8)] h Q1) (k : ∀ r1 h2, Q1 r1 h2 → Wb rod d B_Reader_takeNumber 84 [some (.inr (.inr (.inl (some 45)))), u1, u2, u3, u4] (r1.toList ++ []) h2 Q) : Wb rod d B_Reader_takeNumber 75 [some (.inr (.inr (.inl (some 45)))), u1, u2, u3, u4] [] h Q := by
  refine Wb.call (fun _ _ _ _ => b_Reader_takeNumber_75 (Lay.o45 L)) (Q1 := Q1) ?_ ?_
  · (first | exact c | (simp only [Option.getD_some]; exact c))
  · (first | exact k | (simp only [Option.getD_some]; exact k))
theorem w_Reader_takeNumber_84 {rod : Nat → Nat × (Nat → Int32)} {d : Nat} {Q : Option MV → MH → Prop} {u1 : Option MV} {x2 : Int32} {u3 : Option MV} {u4 : Option MV} {h : MH} (L : Lay h.2) (g0 : 0 ≤ x2.toInt ∧ x2.toInt < 4) (k : Wb rod d B_Reader_takeNumber 94 [some (.inr (.inr (.inl (some 45)))), u1, some (.inl x2), u3, u4] [] (sI h 64 x2.toNatClampNeg (h.1 45 9)) Q) : Wb rod d B_Reader_takeNumber 84 [some (.inr (.inr (.inl (some 45)))), u1, some (.inl x2), u3, u4] [] h Q := by
  refine Wb.go (fun r hr q => b_Reader_takeNumber_84 (Lay.o45 L) (Lay.a45_5 L g0) ?_) k
  (first | exact q | (simp only [Option.getD_some, (Lay.r45_5 L)]; exact q))
theorem w_Reader_takeNumber_94 {rod : Nat → Nat × (Nat → Int32)} {d : Nat} {Q : Option MV → MH → Prop} {u1 : Option MV} {u2 : Option MV} {u3 : Option MV} {u4 : Option MV} {h : MH} (L : Lay h.2)  {Q1 : Option MV → MH → Prop} (c : Wc rod d 26 [.inr (.inr (.inl (some 45)))] h Q1) (k : ∀ r1 h2, Q1 r1 h2 → Wb rod d B_Reader_takeNumber 98 [some (.inr (.inr (.inl (some 45)))), u1, u2, u3, u4] (r1.toList ++ []) h2 Q) : Wb rod d B_Reader_takeNumber 94 [some (.inr (.inr (.inl (some 45)))), u1, u2, u3, u4] [] h Q := by
  refine Wb.call (fun _ _ _ _ => b_Reader_takeNumber_94 (Lay.o45 L)) (Q1 := Q1) ?_ ?_
  · (first | exact c | (simp only [Option.getD_some]; exact c))
  · (first | exact k | (simp only [Option.getD_some]; exact k))
theorem w_Reader_takeNumber_98 {rod : Nat → Nat × (Nat → Int32)} {d : Nat} {Q : Option MV → MH → Prop} {u0 : Option MV} {u1 : Option MV} {u2 : Option MV} {u3 : Option MV} {u4 : Option MV} {h : MH}   (q : Q (none) h) : Wb rod d B_Reader_takeNumber 98 [u0, u1, u2, u3, u4] [] h Q := by
  refine Wb.ret (b_Reader_takeNumber_98) ?_
  (first | exact q | (simp only [Option.getD_some]; exact q))
theorem n_Reader_tell {rod : Nat → Nat × (Nat → Int32)} {d : Nat} {Q : Option MV → MH → Prop} {x1 : Int32} {h : MH} (k : Wb rod d B_Reader_tell 0 [some (.inr (.inr (.inl (some 45)))), some (.inl x1), none] [] h Q) : Wc rod (d + 1) 45 [.inr (.inr (.inl (some 45))), .inl x1] h Q := Wc.en (fun _ _ => e_Reader_tell) k
theorem w_Reader_tell_0 {rod : Nat → Nat × (Nat → Int32)} {d : Nat} {Q : Option MV → MH → Prop} {u0 : Option MV} {x1 : Int32} {u2 : Option MV} {h : MH}   (k1 : x1.toInt < 21 → Wb rod d B_Reader_tell 14 [u0, some (.inl x1), u2] [] h Q) (k2 : ¬ x1.toInt < 21 → Wb rod d B_Reader_tell 6 [u0, some (.inl x1), u2] [] h Q) : Wb rod d B_Reader_tell 0 [u0, some (.inl x1), u2] [] h Q := by
  refine Wb.br (fun _ _ => b_Reader_tell_0) (fun c => ?_) (fun c => ?_)
  · have c : (decide (x1 < (21 : Int32))) = true := by first | exact c | (simp only [Option.getD_some] at c; exact c)
    (first | exact (k1 (c_ltt c)) | (simp only [Option.getD_some]; exact (k1 (c_ltt c))))
  · have c : (decide (x1 < (21 : Int32))) = false := by first | exact c | (simp only [Option.getD_some] at c; exact c)
    (first | exact (k2 (c_ltf c)) | (simp only [Option.getD_some]; exact (k2 (c_ltf c))))
theorem w_Reader_tell_6 {rod : Nat → Nat × (Nat → Int32)} {d : Nat} {Q : Option MV → MH → Prop} {x1 : Int32} {u2 : Option MV} {h : MH} (L : Lay h.2)  {Q1 : Option MV → MH → Prop} (c : Wc rod d 46 [.inr (.inr (.inl (some 45))), .inl x1] h Q1) (k : ∀ r1 h2, Q1 r1 h2 → Wb rod d B_Reader_tell 11 [some (.inr (.inr (.inl (some 45)))), some (.inl x1), u2] (r1.toList ++ []) h2 Q) : Wb rod d B_Reader_tell 6 [some (.inr (.inr (.inl (some 45)))), some (.inl x1), u2] [] h Q := by
  refine Wb.call (fun _ _ _ _ => b_Reader_tell_6 (Lay.o45 L)) (Q1 := Q1) ?_ ?_
  · (first | exact c | (simp only [Option.getD_some]; exact c))
  · (first | exact k | (simp only [Option.getD_some]; exact k))
theorem w_Reader_tell_11 {rod : Nat → Nat × (Nat → Int32)} {d : Nat} {Q : Option MV → MH → Prop} {u0 : Option MV} {u1 : Option MV} {u2 : Option MV} {h : MH}   (k : Wb rod d B_Reader_tell 137 [u0, u1, u2] [] h Q) : Wb rod d B_Reader_tell 11 [u0, u1, u2] [] h Q := by
  refine Wb.go (fun r hr q => b_Reader_tell_11 ?_) k
  (first | exact q | (simp only [Option.getD_some]; exact q))
theorem w_Reader_tell_14 {rod : Nat → Nat × (Nat → Int32)} {d : Nat} {Q : Option MV → MH → Prop} {u0 : Option MV} {x1 : Int32} {u2 : Option MV} {h : MH}   (k1 : x1.toInt < 17 → Wb rod d B_Reader_tell 40 [u0, some (.inl x1), u2] [] h Q) (k2 : ¬ x1.toInt < 17 → Wb rod d B_Reader_tell 20 [u0, some (.inl x1), u2] [] h Q) : Wb rod d B_Reader_tell 14 [u0, some (.inl x1), u2] [] h Q := by
  refine Wb.br (fun _ _ => b_Reader_tell_14) (fun c => ?_) (fun c => ?_)
  · have c : (decide (x1 < (17 : Int32))) = true := by first | exact c | (simp only [Option.getD_some] at c; exact c)
    (first | exact (k1 (c_ltt c)) | (simp only [Option.getD_some]; exact (k1 (c_ltt c))))
  · have c : (decide (x1 < (17 : Int32))) = false := by first | exact c | (simp only [Option.getD_some] at c; exact c)
    (first | exact (k2 (c_ltf c)) | (simp only [Option.getD_some]; exact (k2 (c_ltf c))))
theorem w_Reader_tell_20 {rod : Nat → Nat × (Nat → Int32)} {d : Nat} {Q : Option MV → MH → Prop} {x1 : Int32} {u2 : Option MV} {h : MH} (L : Lay h.2)  {Q1 : Option MV → MH → Prop} (c : Wc rod d 48 [.inr (.inr (.inl (some 59))), .inl (x1 - (17 : Int32)), .inl (h.1 64 (0 : Int32).toNatClampNeg)] h Q1) (k : ∀ r1 h2, Q1 r1 h2 → Wb rod d B_Reader_tell 37 [some (.inr (.inr (.inl (some 45)))), some (.inl x1), u2] (r1.toList ++ []) h2 Q) : Wb rod d B_Reader_tell 20 [some (.inr (.inr (.inl (some 45)))), some (.inl x1), u2] [] h Q := by
  refine Wb.call (fun _ _ _ _ => b_Reader_tell_20 (Lay.o45 L) (Lay.a45_5 L ⟨by decide, by decide⟩) (Lay.k45_3 L)) (Q1 := Q1) ?_ ?_
  · (first | exact c | (simp only [Option.getD_some, (Lay.r45_3 L), (Lay.r45_5 L)]; exact c))
  · (first | exact k | (simp only [Option.getD_some, (Lay.r45_3 L), (Lay.r45_5 L)]; exact k))
theorem w_Reader_tell_37 {rod : Nat → Nat × (Nat → Int32)} {d : Nat} {Q : Option MV → MH → Prop} {u0 : Option MV} {u1 : Option MV} {u2 : Option MV} {h : MH}   (k : Wb rod d B_Reader_tell 137 [u0, u1, u2] [] h Q) : Wb rod d B_Reader_tell 37 [u0, u1, u2] [] h Q := by
  refine Wb.go (fun r hr q => b_Reader_tell_37 ?_) k
  (first | exact q | (simp only [Option.getD_some]; exact q))
theorem w_Reader_tell_40 {rod : Nat → Nat × (Nat → Int32)} {d : Nat} {Q : Option MV → MH → Prop} {u0 : Option MV} {x1 : Int32} {u2 : Option MV} {h : MH}   (k1 : x1.toInt < 10 → Wb rod d B_Reader_tell 95 [u0, some (.inl x1), u2] [] h Q) (k2 : ¬ x1.toInt < 10 → Wb rod d B_Reader_tell 46 [u0, some (.inl x1), u2] [] h Q) : Wb rod d B_Reader_tell 40 [u0, some (.inl x1), u2] [] h Q := by
  refine Wb.br (fun _ _ => b_Reader_tell_40) (fun c => ?_) (fun c => ?_)
  · have c : (decide (x1 < (10 : Int32))) = true := by first | exact c | (simp only [Option.getD_some] at c; exact c)
    (first | exact (k1 (c_ltt c)) | (simp only [Option.getD_some]; exact (k1 (c_ltt c))))
  · have c : (decide (x1 < (10 : Int32))) = false := by first | exact c | (simp only [Option.getD_some] at c; exact c)
    (first | exact (k2 (c_ltf c)) | (simp only [Option.getD_some]; exact (k2 (c_ltf c))))
theorem w_Reader_tell_46 {rod : Nat → Nat × (Nat → Int32)} {d : Nat} {Q : Option MV → MH → Prop} {x1 : Int32} {u2 : Option MV} {h : MH} (L : Lay h.2) (g0 : inB x1 (rod 1).1 = true) (k1 : ((rod 1).2 x1.toNatClampNeg).toInt ≤ 0 → Wb rod d B_Reader_tell 73 [some (.inr (.inr (.inl (some 45)))), some (.inl x1), some (.inl ((rod 1).2 x1.toNatClampNeg))] [.inl (x1 - (10 : Int32)), .inr (.inr (.inl (some 55)))] h Q) (k2 : ¬ ((rod 1).2 x1.toNatClampNeg).toInt ≤ 0 → Wb rod d B_Reader_tell 64 [some (.inr (.inr (.inl (some 45)))), some (.inl x1), some (.inl ((rod 1).2 x1.toNatClampNeg))] [.inl (x1 - (10 : Int32)), .inr (.inr (.inl (some 55)))] h Q) : Wb rod d B_Reader_tell 46 [some (.inr (.inr (.inl (some 45)))), some (.inl x1), u2] [] h Q := by
  refine Wb.br (fun _ _ => b_Reader_tell_46 g0 (Lay.o45 L)) (fun c => ?_) (fun c => ?_)
  · have c : (decide (((rod 1).2 x1.toNatClampNeg) ≤ 0)) = true := by first | exact c | (simp only [Option.getD_some, (Lay.r45_2 L)] at c; exact c)
    (first | exact (k1 (c_let c)) | (simp only [Option.getD_some, (Lay.r45_2 L)]; exact (k1 (c_let c))))
  · have c : (decide (((rod 1).2 x1.toNatClampNeg) ≤ 0)) = false := by first | exact c | (simp only [Option.getD_some, (Lay.r45_2 L)] at c; exact c)
    (first | exact (k2 (c_lef c)) | (simp only [Option.getD_some, (Lay.r45_2 L)]; exact (k2 (c_lef c))))
theorem w_Reader_tell_64 {rod : Nat → Nat × (Nat → Int32)} {d : Nat} {Q : Option MV → MH → Prop} {u1 : Option MV} {u2 : Option MV} {as0 : Nat} {xs1 : Int32} {h : MH} (L : Lay h.2)  (k : Wb rod d B_Reader_tell 74 [some (.inr (.inr (.inl (some 45)))), u1, u2] [.inl (h.1 64 (0 : Int32).toNatClampNeg), .inl xs1, .inr (.inr (.inl (some as0)))] h Q) : Wb rod d B_Reader_tell 64 [some (.inr (.inr (.inl (some 45)))), u1, u2] [.inl xs1, .inr (.inr (.inl (some as0)))] h Q := by
  refine Wb.go (fun r hr q => b_Reader_tell_64 (Lay.o45 L) (Lay.a45_5 L ⟨by decide, by decide⟩) ?_) k
  (first | exact q | (simp only [Option.getD_some, (Lay.r45_5 L)]; exact q))
theorem w_Reader_tell_73 {rod : Nat → Nat × (Nat → Int32)} {d : Nat} {Q : Option MV → MH → Prop} {u0 : Option MV} {u1 : Option MV} {u2 : Option MV} {as0 : Nat} {xs1 : Int32} {h : MH}   (k : Wb rod d B_Reader_tell 74 [u0, u1, u2] [.inl (-1 : Int32), .inl xs1, .inr (.inr (.inl (some as0)))] h Q) : Wb rod d B_Reader_tell 73 [u0, u1, u2] [.inl xs1, .inr (.inr (.inl (some as0)))] h Q := by
  refine Wb.go (fun r hr q => b_Reader_tell_73 ?_) k
  (first | exact q | (simp only [Option.getD_some]; exact q))
theorem w_Reader_tell_74 {rod : Nat → Nat × (Nat → Int32)} {d : Nat} {Q : Option MV → MH → Prop} {u0 : Option MV} {u1 : Option MV} {x2 : Int32} {as0 : Nat} {xs1 : Int32} {xs2 : Int32} {h : MH}   (k1 : x2.toInt ≤ 1 → Wb rod d B_Reader_tell 88 [u0, u1, some (.inl x2)] [.inl xs2, .inl xs1, .inr (.inr (.inl (some as0)))] h Q) (k2 : ¬ x2.toInt ≤ 1 → Wb rod d B_Reader_tell 79 [u0, u1, some (.inl x2)] [.inl xs2, .inl xs1, .inr (.inr (.inl (some as0)))] h Q) : Wb rod d B_Reader_tell 74 [u0, u1, some (.inl x2)] [.inl xs2, .inl xs1, .inr (.inr (.inl (some as0)))] h Q := by
  refine Wb.br (fun _ _ => b_Reader_tell_74) (fun c => ?_) (fun c => ?_)
  · have c : (decide (x2 ≤ (1 : Int32))) = true := by first | exact c | (simp only [Option.getD_some] at c; exact c)
    (first | exact (k1 (c_let c)) | (simp only [Option.getD_some]; exact (k1 (c_let c))))
  · have c : (decide (x2 ≤ (1 : Int32))) = false := by first | exact c | (simp only [Option.getD_some] at c; exact c)
    (first | exact (k2 (c_lef c)) | (simp only [Option.getD_some]; exact (k2 (c_lef c))))
theorem w_Reader_tell_79 {rod : Nat → Nat × (Nat → Int32)} {d : Nat} {Q : Option MV → MH → Prop} {u1 : Option MV} {u2 : Option MV} {as0 : Nat} {xs1 : Int32} {xs2 : Int32} {h : MH} (L : Lay h.2)  (k : Wb rod d B_Reader_tell 89 [some (.inr (.inr (.inl (some 45)))), u1, u2] [.inl (h.1 64 (1 : Int32).toNatClampNeg), .inl xs2, .inl xs1, .inr (.inr (.inl (some as0)))] h Q) : Wb rod d B_Reader_tell 79 [some (.inr (.inr (.inl (some 45)))), u1, u2] [.inl xs2, .inl xs1, .inr (.inr (.inl (some as0)))] h Q := by
  refine Wb.go (fun r hr q => b_Reader_tell_79 (Lay.o45 L) (Lay.a45_5 L ⟨by decide, by decide⟩) ?_) k
  (first | exact q | (simp only [Option.getD_some, (Lay.r45_5 L)]; exact q))
theorem w_Reader_tell_88 {rod : Nat → Nat × (Nat → Int32)} {d : Nat} {Q : Option MV → MH → Prop} {u0 : Option MV} {u1 : Option MV} {u2 : Option MV} {as0 : Nat} {xs1 : Int32} {xs2 : Int32} {h : MH}   (k : Wb rod d B_Reader_tell 89 [u0, u1, u2] [.inl (-1 : Int32), .inl xs2, .inl xs1, .inr (.inr (.inl (some as0)))] h Q) : Wb rod d B_Reader_tell 88 [u0, u1, u2] [.inl xs2, .inl xs1, .inr (.inr (.inl (some as0)))] h Q := by
  refine Wb.go (fun r hr q => b_Reader_tell_88 ?_) k
  (first | exact q | (simp only [Option.getD_some]; exact q))
theorem w_Reader_tell_89 {rod : Nat → Nat × (Nat → Int32)} {d : Nat} {Q : Option MV → MH → Prop} {u0 : Option MV} {u1 : Option MV} {u2 : Option MV} {as0 : Nat} {xs1 : Int32} {xs2 : Int32} {xs3 : Int32} {h : MH} (As0 : SeasonA h.2 as0)  {Q1 : Option MV → MH → Prop} (c : Wc rod d 49 [.inr (.inr (.inl (some as0))), .inl xs1, .inl xs2, .inl xs3] h Q1) (k : ∀ r1 h2, Q1 r1 h2 → Wb rod d B_Reader_tell 92 [u0, u1, u2] (r1.toList ++ []) h2 Q) : Wb rod d B_Reader_tell 89 [u0, u1, u2] [.inl xs3, .inl xs2, .inl xs1, .inr (.inr (.inl (some as0)))] h Q := by
  refine Wb.call (fun _ _ _ _ => b_Reader_tell_89 (As0.o)) (Q1 := Q1) ?_ ?_
  · (first | exact c | (simp only [Option.getD_some]; exact c))
  · (first | exact k | (simp only [Option.getD_some]; exact k))
theorem w_Reader_tell_92 {rod : Nat → Nat × (Nat → Int32)} {d : Nat} {Q : Option MV → MH → Prop} {u0 : Option MV} {u1 : Option MV} {u2 : Option MV} {h : MH}   (k : Wb rod d B_Reader_tell 137 [u0, u1, u2] [] h Q) : Wb rod d B_Reader_tell 92 [u0, u1, u2] [] h Q := by
  refine Wb.go (fun r hr q => b_Reader_tell_92 ?_) k
  (first | exact q | (simp only [Option.getD_some]; exact q))
theorem w_Reader_tell_95 {rod : Nat → Nat × (Nat → Int32)} {d : Nat} {Q : Option MV → MH → Prop} {u0 : Option MV} {x1 : Int32} {u2 : Option MV} {h : MH}   (k1 : 4 ≤ x1.toInt → Wb rod d B_Reader_tell 132 [u0, some (.inl x1), u2] [] h Q) (k2 : ¬ 4 ≤ x1.toInt → Wb rod d B_Reader_tell 100 [u0, some (.inl x1), u2] [] h Q) : Wb rod d B_Reader_tell 95 [u0, some (.inl x1), u2] [] h Q := by
  refine Wb.br (fun _ _ => b_Reader_tell_95) (fun c => ?_) (fun c => ?_)
  · have c : (decide ((4 : Int32) ≤ x1)) = true := by first | exact c | (simp only [Option.getD_some] at c; exact c)
    (first | exact (k1 (c_let c)) | (simp only [Option.getD_some]; exact (k1 (c_let c))))
  · have c : (decide ((4 : Int32) ≤ x1)) = false := by first | exact c | (simp only [Option.getD_some] at c; exact c)
    (first | exact (k2 (c_lef c)) | (simp only [Option.getD_some]; exact (k2 (c_lef c))))
theorem w_Reader_tell_100 {rod : Nat → Nat × (Nat → Int32)} {d : Nat} {Q : Option MV → MH → Prop} {x1 : Int32} {u2 : Option MV} {h : MH} (L : Lay h.2)  {Q1 : Option MV → MH → Prop} (c : Wc rod d 50 [.inr (.inr (.inl (some 46))), .inl x1, .inr (.inr (.inl (some 64)))] h Q1) (k : ∀ r1 h2, Q1 r1 h2 → Wb rod d B_Reader_tell 112 [some (.inr (.inr (.inl (some 45)))), some (.inl x1), u2] (r1.toList ++ []) h2 Q) : Wb rod d B_Reader_tell 100 [some (.inr (.inr (.inl (some 45)))), some (.inl x1), u2] [] h Q := by
  refine Wb.call (fun _ _ _ _ => b_Reader_tell_100 (Lay.o45 L) (Lay.k45_1 L)) (Q1 := Q1) ?_ ?_
  · (first | exact c | (simp only [Option.getD_some, (Lay.r45_1 L), (Lay.r45_5 L)]; exact c))
  · (first | exact k | (simp only [Option.getD_some, (Lay.r45_1 L), (Lay.r45_5 L)]; exact k))
theorem w_Reader_tell_112 {rod : Nat → Nat × (Nat → Int32)} {d : Nat} {Q : Option MV → MH → Prop} {u1 : Option MV} {u2 : Option MV} {h : MH} (L : Lay h.2)  (k : Wb rod d B_Reader_tell 129 [some (.inr (.inr (.inl (some 45)))), u1, u2] [] (sI h 45 10 ((h.1 45 10) ||| ((1 : Int32) <<< ((h.1 64 (0 : Int32).toNatClampNeg) &&& 31)))) Q) : Wb rod d B_Reader_tell 112 [some (.inr (.inr (.inl (some 45)))), u1, u2] [] h Q := by
  refine Wb.go (fun r hr q => b_Reader_tell_112 (Lay.o45 L) (Lay.a45_5 L ⟨by decide, by decide⟩) ?_) k
  (first | exact q | (simp only [Option.getD_some, (Lay.r45_5 L)]; exact q))
theorem w_Reader_tell_129 {rod : Nat → Nat × (Nat → Int32)} {d : Nat} {Q : Option MV → MH → Prop} {u0 : Option MV} {u1 : Option MV} {u2 : Option MV} {h : MH}   (k : Wb rod d B_Reader_tell 137 [u0, u1, u2] [] h Q) : Wb rod d B_Reader_tell 129 [u0, u1, u2] [] h Q := by
  refine Wb.go (fun r hr q => b_Reader_tell_129 ?_) k
  (first | exact q | (simp only [Option.getD_some]; exact q))
theorem w_Reader_tell_132 {rod : Nat → Nat × (Nat → Int32)} {d : Nat} {Q : Option MV → MH → Prop} {x1 : Int32} {u2 : Option MV} {h : MH} (L : Lay h.2)  {Q1 : Option MV → MH → Prop} (c : Wc rod d 51 [.inr (.inr (.inl (some 45))), .inl x1] h Q1) (k : ∀ r1 h2, Q1 r1 h2 → Wb rod d B_Reader_tell 137 [some (.inr (.inr (.inl (some 45)))), some (.inl x1), u2] (r1.toList ++ []) h2 Q) : Wb rod d B_Reader_tell 132 [some (.inr (.inr (.inl (some 45)))), some (.inl x1), u2] [] h Q := by
  refine Wb.call (fun _ _ _ _ => b_Reader_tell_132 (Lay.o45 L)) (Q1 := Q1) ?_ ?_
  · (first | exact c | (simp only [Option.getD_some]; exact c))
  · (first | exact k | (simp only [Option.getD_some]; exact k))
theorem w_Reader_tell_137 {rod : Nat → Nat × (Nat → Int32)} {d : Nat} {Q : Option MV → MH → Prop} {u0 : Option MV} {u1 : Option MV} {u2 : Option MV} {h : MH}   (q : Q (none) h) : Wb rod d B_Reader_tell 137 [u0, u1, u2] [] h Q := by
  refine Wb.ret (b_Reader_tell_137) ?_
  (first | exact q | (simp only [Option.getD_some]; exact q))
theorem n_Reader_tellBargain {rod : Nat → Nat × (Nat → Int32)} {d : Nat} {Q : Option MV → MH → Prop} {x1 : Int32} {h : MH} (k : Wb rod d B_Reader_tellBargain 0 [some (.inr (.inr (.inl (some 45)))), some (.inl x1)] [] h Q) : Wc rod (d + 1) 46 [.inr (.inr (.inl (some 45))), .inl x1] h Q := Wc.en (fun _ _ => e_Reader_tellBargain) k
theorem w_Reader_tellBargain_0 {rod : Nat → Nat × (Nat → Int32)} {d : Nat} {Q : Option MV → MH → Prop} {u0 : Option MV} {x1 : Int32} {h : MH}   (k1 : ¬ x1.toInt = 21 → Wb rod d B_Reader_tellBargain 22 [u0, some (.inl x1)] [] h Q) (k2 : x1.toInt = 21 → Wb rod d B_Reader_tellBargain 6 [u0, some (.inl x1)] [] h Q) : Wb rod d B_Reader_tellBargain 0 [u0, some (.inl x1)] [] h Q := by
  refine Wb.br (fun _ _ => b_Reader_tellBargain_0) (fun c => ?_) (fun c => ?_)
  · have c : (!(decide (x1 = (21 : Int32)))) = true := by first | exact c | (simp only [Option.getD_some] at c; exact c)
    (first | exact (k1 (c_net c)) | (simp only [Option.getD_some]; exact (k1 (c_net c))))
  · have c : (!(decide (x1 = (21 : Int32)))) = false := by first | exact c | (simp only [Option.getD_some] at c; exact c)
    (first | exact (k2 (c_nef c)) | (simp only [Option.getD_some]; exact (k2 (c_nef c))))
theorem w_Reader_tellBargain_6 {rod : Nat → Nat × (Nat → Int32)} {d : Nat} {Q : Option MV → MH → Prop} {u1 : Option MV} {h : MH} (L : Lay h.2)  (k : Wb rod d B_Reader_tellBargain 19 [some (.inr (.inr (.inl (some 45)))), u1] [] (sI h 62 0 (h.1 64 (0 : Int32).toNatClampNeg)) Q) : Wb rod d B_Reader_tellBargain 6 [some (.inr (.inr (.inl (some 45)))), u1] [] h Q := by
  refine Wb.go (fun r hr q => b_Reader_tellBargain_6 (Lay.o45 L) (Lay.a45_5 L ⟨by decide, by decide⟩) (Lay.k45_4 L) ?_) k
  (first | exact q | (simp only [Option.getD_some, (Lay.r45_4 L), (Lay.r45_5 L)]; exact q))
theorem w_Reader_tellBargain_19 {rod : Nat → Nat × (Nat → Int32)} {d : Nat} {Q : Option MV → MH → Prop} {u0 : Option MV} {u1 : Option MV} {h : MH}   (k : Wb rod d B_Reader_tellBargain 56 [u0, u1] [] h Q) : Wb rod d B_Reader_tellBargain 19 [u0, u1] [] h Q := by
  refine Wb.go (fun r hr q => b_Reader_tellBargain_19 ?_) k
  (first | exact q | (simp only [Option.getD_some]; exact q))
theorem w_Reader_tellBargain_22 {rod : Nat → Nat × (Nat → Int32)} {d : Nat} {Q : Option MV → MH → Prop} {u1 : Option MV} {h : MH} (L : Lay h.2)  {Q1 : Option MV → MH → Prop} (c : Wc rod d 47 [.inr (.inr (.inl (some 62))), .inl (h.1 64 (0 : Int32).toNatClampNeg), .inl (h.1 64 (1 : Int32).toNatClampNeg)] h Q1) (k : ∀ r1 h2, Q1 r1 h2 → Wb rod d B_Reader_tellBargain 41 [some (.inr (.inr (.inl (some 45)))), u1] (r1.toList ++ []) h2 Q) : Wb rod d B_Reader_tellBargain 22 [some (.inr (.inr (.inl (some 45)))), u1] [] h Q := by
  refine Wb.call (fun _ _ _ _ => b_Reader_tellBargain_22 (Lay.o45 L) (Lay.a45_5 L ⟨by decide, by decide⟩) (Lay.a45_5 L ⟨by decide, by decide⟩) (Lay.k45_4 L)) (Q1 := Q1) ?_ ?_
  · (first | exact c | (simp only [Option.getD_some, (Lay.r45_4 L), (Lay.r45_5 L)]; exact c))
  · (first | exact k | (simp only [Option.getD_some, (Lay.r45_4 L), (Lay.r45_5 L)]; exact k))
theorem w_Reader_tellBargain_41 {rod : Nat → Nat × (Nat → Int32)} {d : Nat} {Q : Option MV → MH → Prop} {u1 : Option MV} {h : MH} (L : Lay h.2)  (k : Wb rod d B_Reader_tellBargain 56 [some (.inr (.inr (.inl (some 45)))), u1] [] (sI h 45 10 ((h.1 45 10) ||| (h.1 64 (0 : Int32).toNatClampNeg))) Q) : Wb rod d B_Reader_tellBargain 41 [some (.inr (.inr (.inl (some 45)))), u1] [] h Q := by
  refine Wb.go (fun r hr q => b_Reader_tellBargain_41 (Lay.o45 L) (Lay.a45_5 L ⟨by decide, by decide⟩) ?_) k
  (first | exact q | (simp only [Option.getD_some, (Lay.r45_5 L)]; exact q))
theorem w_Reader_tellBargain_56 {rod : Nat → Nat × (Nat → Int32)} {d : Nat} {Q : Option MV → MH → Prop} {u0 : Option MV} {u1 : Option MV} {h : MH}   (q : Q (none) h) : Wb rod d B_Reader_tellBargain 56 [u0, u1] [] h Q := by
  refine Wb.ret (b_Reader_tellBargain_56) ?_
  (first | exact q | (simp only [Option.getD_some]; exact q))
theorem n_Bargain_setWorth {rod : Nat → Nat × (Nat → Int32)} {d : Nat} {Q : Option MV → MH → Prop} {a0 : Nat} {x1 : Int32} {x2 : Int32} {h : MH} (k : Wb rod d B_Bargain_setWorth 0 [some (.inr (.inr (.inl (some a0)))), some (.inl x1), some (.inl x2)] [] h Q) : Wc rod (d + 1) 47 [.inr (.inr (.inl (some a0))), .inl x1, .inl x2] h Q := Wc.en (fun _ _ => e_Bargain_setWorth) k
theorem w_Bargain_setWorth_0 {rod : Nat → Nat × (Nat → Int32)} {d : Nat} {Q : Option MV → MH → Prop} {u0 : Option MV} {x1 : Int32} {u2 : Option MV} {h : MH}   (k1 : x1.toInt < 0 → Wb rod d B_Bargain_setWorth 17 [u0, some (.inl x1), u2] [] h Q) (k2 : ¬ x1.toInt < 0 → Wb rod d B_Bargain_setWorth 4 [u0, some (.inl x1), u2] [] h Q) : Wb rod d B_Bargain_setWorth 0 [u0, some (.inl x1), u2] [] h Q := by
  refine Wb.br (fun _ _ => b_Bargain_setWorth_0) (fun c => ?_) (fun c => ?_)
  · have c : (decide (x1 < 0)) = true := by first | exact c | (simp only [Option.getD_some] at c; exact c)
    (first | exact (k1 (c_ltt c)) | (simp only [Option.getD_some]; exact (k1 (c_ltt c))))
  · have c : (decide (x1 < 0)) = false := by first | exact c | (simp only [Option.getD_some] at c; exact c)
    (first | exact (k2 (c_ltf c)) | (simp only [Option.getD_some]; exact (k2 (c_ltf c))))
theorem w_Bargain_setWorth_4 {rod : Nat → Nat × (Nat → Int32)} {d : Nat} {Q : Option MV → MH → Prop} {u0 : Option MV} {x1 : Int32} {u2 : Option MV} {h : MH}   (k1 : 16 ≤ x1.toInt → Wb rod d B_Bargain_setWorth 17 [u0, some (.inl x1), u2] [] h Q) (k2 : ¬ 16 ≤ x1.toInt → Wb rod d B_Bargain_setWorth 10 [u0, some (.inl x1), u2] [] h Q) : Wb rod d B_Bargain_setWorth 4 [u0, some (.inl x1), u2] [] h Q := by
  refine Wb.br (fun _ _ => b_Bargain_setWorth_4) (fun c => ?_) (fun c => ?_)
  · have c : (decide ((16 : Int32) ≤ x1)) = true := by first | exact c | (simp only [Option.getD_some] at c; exact c)
    (first | exact (k1 (c_let c)) | (simp only [Option.getD_some]; exact (k1 (c_let c))))
  · have c : (decide ((16 : Int32) ≤ x1)) = false := by first | exact c | (simp only [Option.getD_some] at c; exact c)
    (first | exact (k2 (c_lef c)) | (simp only [Option.getD_some]; exact (k2 (c_lef c))))
theorem w_Bargain_setWorth_10 {rod : Nat → Nat × (Nat → Int32)} {d : Nat} {Q : Option MV → MH → Prop} {a0 : Nat} {x1 : Int32} {x2 : Int32} {h : MH} (A0 : BargA h.2 a0) (g0 : 0 ≤ x1.toInt ∧ x1.toInt < 16) (k : Wb rod d B_Bargain_setWorth 17 [some (.inr (.inr (.inl (some a0)))), some (.inl x1), some (.inl x2)] [] (sI h (a0 + 1) x1.toNatClampNeg x2) Q) : Wb rod d B_Bargain_setWorth 10 [some (.inr (.inr (.inl (some a0)))), some (.inl x1), some (.inl x2)] [] h Q := by
  refine Wb.go (fun r hr q => b_Bargain_setWorth_10 (A0.o) (A0.a1 g0) ?_) k
  (first | exact q | (simp only [Option.getD_some, A0.r1]; exact q))
theorem w_Bargain_setWorth_17 {rod : Nat → Nat × (Nat → Int32)} {d : Nat} {Q : Option MV → MH → Prop} {u0 : Option MV} {u1 : Option MV} {u2 : Option MV} {h : MH}   (q : Q (none) h) : Wb rod d B_Bargain_setWorth 17 [u0, u1, u2] [] h Q := by
  refine Wb.ret (b_Bargain_setWorth_17) ?_
  (first | exact q | (simp only [Option.getD_some]; exact q))
theorem n_Ledger_addEntry {rod : Nat → Nat × (Nat → Int32)} {d : Nat} {Q : Option MV → MH → Prop} {a0 : Nat} {x1 : Int32} {x2 : Int32} {h : MH} (k : Wb rod d B_Ledger_addEntry 0 [some (.inr (.inr (.inl (some a0)))), some (.inl x1), some (.inl x2)] [] h Q) : Wc rod (d + 1) 48 [.inr (.inr (.inl (some a0))), .inl x1, .inl x2] h Q := Wc.en (fun _ _ => e_Ledger_addEntry) k
theorem w_Ledger_addEntry_0 {rod : Nat → Nat × (Nat → Int32)} {d : Nat} {Q : Option MV → MH → Prop} {a0 : Nat} {u1 : Option MV} {u2 : Option MV} {h : MH} (A0 : LedgerA h.2 a0)  (k1 : (h.1 a0 0).toInt < 20 → Wb rod d B_Ledger_addEntry 10 [some (.inr (.inr (.inl (some a0)))), u1, u2] [] h Q) (k2 : ¬ (h.1 a0 0).toInt < 20 → Wb rod d B_Ledger_addEntry 9 [some (.inr (.inr (.inl (some a0)))), u1, u2] [] h Q) : Wb rod d B_Ledger_addEntry 0 [some (.inr (.inr (.inl (some a0)))), u1, u2] [] h Q := by
  refine Wb.br (fun _ _ => b_Ledger_addEntry_0 (A0.o)) (fun c => ?_) (fun c => ?_)
  · have c : (decide ((h.1 a0 0) < (20 : Int32))) = true := by first | exact c | (simp only [Option.getD_some] at c; exact c)
    (first | exact (k1 (c_ltt c)) | (simp only [Option.getD_some]; exact (k1 (c_ltt c))))
  · have c : (decide ((h.1 a0 0) < (20 : Int32))) = false := by first | exact c | (simp only [Option.getD_some] at c; exact c)
    (first | exact (k2 (c_ltf c)) | (simp only [Option.getD_some]; exact (k2 (c_ltf c))))
theorem w_Ledger_addEntry_9 {rod : Nat → Nat × (Nat → Int32)} {d : Nat} {Q : Option MV → MH → Prop} {u0 : Option MV} {u1 : Option MV} {u2 : Option MV} {h : MH}   (q : Q (none) h) : Wb rod d B_Ledger_addEntry 9 [u0, u1, u2] [] h Q := by
  refine Wb.ret (b_Ledger_addEntry_9) ?_
  (first | exact q | (simp only [Option.getD_some]; exact q))
theorem w_Ledger_addEntry_10 {rod : Nat → Nat × (Nat → Int32)} {d : Nat} {Q : Option MV → MH → Prop} {a0 : Nat} {x1 : Int32} {u2 : Option MV} {h : MH} (A0 : LedgerA h.2 a0) (g0 : 0 ≤ (h.1 a0 0).toInt ∧ (h.1 a0 0).toInt < 20) (k : Wb rod d B_Ledger_addEntry 20 [some (.inr (.inr (.inl (some a0)))), some (.inl x1), u2] [] (sI h (a0 + 1) (h.1 a0 0).toNatClampNeg x1) Q) : Wb rod d B_Ledger_addEntry 10 [some (.inr (.inr (.inl (some a0)))), some (.inl x1), u2] [] h Q := by
  refine Wb.go (fun r hr q => b_Ledger_addEntry_10 (A0.o) (A0.a1 (by first | exact g0 | (simp only [Option.getD_some, A0.r1]; exact g0))) ?_) k
  (first | exact q | (simp only [Option.getD_some, A0.r1]; exact q))
theorem w_Ledger_addEntry_20 {rod : Nat → Nat × (Nat → Int32)} {d : Nat} {Q : Option MV → MH → Prop} {a0 : Nat} {u1 : Option MV} {x2 : Int32} {h : MH} (A0 : LedgerA h.2 a0) (g0 : 0 ≤ (h.1 a0 0).toInt ∧ (h.1 a0 0).toInt < 20) (k : Wb rod d B_Ledger_addEntry 30 [some (.inr (.inr (.inl (some a0)))), u1, some (.inl x2)] [] (sI h (a0 + 2) (h.1 a0 0).toNatClampNeg x2) Q) : Wb rod d B_Ledger_addEntry 20 [some (.inr (.inr (.inl (some a0)))), u1, some (.inl x2)] [] h Q := by
  refine Wb.go (fun r hr q => b_Ledger_addEntry_20 (A0.o) (A0.a2 (by first | exact g0 | (simp only [Option.getD_some, A0.r2]; exact g0))) ?_) k
  (first | exact q | (simp only [Option.getD_some, A0.r2]; exact q))
theorem w_Ledger_addEntry_30 {rod : Nat → Nat × (Nat → Int32)} {d : Nat} {Q : Option MV → MH → Prop} {a0 : Nat} {u1 : Option MV} {u2 : Option MV} {h : MH} (A0 : LedgerA h.2 a0)  (k : Wb rod d B_Ledger_addEntry 40 [some (.inr (.inr (.inl (some a0)))), u1, u2] [] (sI h a0 0 ((h.1 a0 0) + (1 : Int32))) Q) : Wb rod d B_Ledger_addEntry 30 [some (.inr (.inr (.inl (some a0)))), u1, u2] [] h Q := by
  refine Wb.go (fun r hr q => b_Ledger_addEntry_30 (A0.o) ?_) k
  (first | exact q | (simp only [Option.getD_some]; exact q))
theorem w_Ledger_addEntry_40 {rod : Nat → Nat × (Nat → Int32)} {d : Nat} {Q : Option MV → MH → Prop} {u0 : Option MV} {u1 : Option MV} {u2 : Option MV} {h : MH}   (q : Q (none) h) : Wb rod d B_Ledger_addEntry 40 [u0, u1, u2] [] h Q := by
  refine Wb.ret (b_Ledger_addEntry_40) ?_
  (first | exact q | (simp only [Option.getD_some]; exact q))
theorem n_Season_addDeed {rod : Nat → Nat × (Nat → Int32)} {d : Nat} {Q : Option MV → MH → Prop} {a0 : Nat} {x1 : Int32} {x2 : Int32} {x3 : Int32} {h : MH} (k : Wb rod d B_Season_addDeed 0 [some (.inr (.inr (.inl (some a0)))), some (.inl x1), some (.inl x2), some (.inl x3)] [] h Q) : Wc rod (d + 1) 49 [.inr (.inr (.inl (some a0))), .inl x1, .inl x2, .inl x3] h Q := Wc.en (fun _ _ => e_Season_addDeed) k
theorem w_Season_addDeed_0 {rod : Nat → Nat × (Nat → Int32)} {d : Nat} {Q : Option MV → MH → Prop} {a0 : Nat} {u1 : Option MV} {u2 : Option MV} {u3 : Option MV} {h : MH} (A0 : SeasonA h.2 a0)  (k1 : (h.1 a0 0).toInt < 40 → Wb rod d B_Season_addDeed 10 [some (.inr (.inr (.inl (some a0)))), u1, u2, u3] [] h Q) (k2 : ¬ (h.1 a0 0).toInt < 40 → Wb rod d B_Season_addDeed 9 [some (.inr (.inr (.inl (some a0)))), u1, u2, u3] [] h Q) : Wb rod d B_Season_addDeed 0 [some (.inr (.inr (.inl (some a0)))), u1, u2, u3] [] h Q := by
  refine Wb.br (fun _ _ => b_Season_addDeed_0 (A0.o)) (fun c => ?_) (fun c => ?_)
  · have c : (decide ((h.1 a0 0) < (40 : Int32))) = true := by first | exact c | (simp only [Option.getD_some] at c; exact c)
    (first | exact (k1 (c_ltt c)) | (simp only [Option.getD_some]; exact (k1 (c_ltt c))))
  · have c : (decide ((h.1 a0 0) < (40 : Int32))) = false := by first | exact c | (simp only [Option.getD_some] at c; exact c)
    (first | exact (k2 (c_ltf c)) | (simp only [Option.getD_some]; exact (k2 (c_ltf c))))
theorem w_Season_addDeed_9 {rod : Nat → Nat × (Nat → Int32)} {d : Nat} {Q : Option MV → MH → Prop} {u0 : Option MV} {u1 : Option MV} {u2 : Option MV} {u3 : Option MV} {h : MH}   (q : Q (none) h) : Wb rod d B_Season_addDeed 9 [u0, u1, u2, u3] [] h Q := by
  refine Wb.ret (b_Season_addDeed_9) ?_
  (first | exact q | (simp only [Option.getD_some]; exact q))
theorem w_Season_addDeed_10 {rod : Nat → Nat × (Nat → Int32)} {d : Nat} {Q : Option MV → MH → Prop} {a0 : Nat} {x1 : Int32} {u2 : Option MV} {u3 : Option MV} {h : MH} (A0 : SeasonA h.2 a0) (g0 : 0 ≤ (h.1 a0 0).toInt ∧ (h.1 a0 0).toInt < 40) (k : Wb rod d B_Season_addDeed 20 [some (.inr (.inr (.inl (some a0)))), some (.inl x1), u2, u3] [] (sI h (a0 + 1) (h.1 a0 0).toNatClampNeg x1) Q) : Wb rod d B_Season_addDeed 10 [some (.inr (.inr (.inl (some a0)))), some (.inl x1), u2, u3] [] h Q := by
  refine Wb.go (fun r hr q => b_Season_addDeed_10 (A0.o) (A0.a1 (by first | exact g0 | (simp only [Option.getD_some, A0.r1]; exact g0))) ?_) k
  (first | exact q | (simp only [Option.getD_some, A0.r1]; exact q))
theorem w_Season_addDeed_20 {rod : Nat → Nat × (Nat → Int32)} {d : Nat} {Q : Option MV → MH → Prop} {a0 : Nat} {u1 : Option MV} {x2 : Int32} {u3 : Option MV} {h : MH} (A0 : SeasonA h.2 a0) (g0 : 0 ≤ (h.1 a0 0).toInt ∧ (h.1 a0 0).toInt < 40) (k : Wb rod d B_Season_addDeed 30 [some (.inr (.inr (.inl (some a0)))), u1, some (.inl x2), u3] [] (sI h (a0 + 2) (h.1 a0 0).toNatClampNeg x2) Q) : Wb rod d B_Season_addDeed 20 [some (.inr (.inr (.inl (some a0)))), u1, some (.inl x2), u3] [] h Q := by
  refine Wb.go (fun r hr q => b_Season_addDeed_20 (A0.o) (A0.a2 (by first | exact g0 | (simp only [Option.getD_some, A0.r2]; exact g0))) ?_) k
  (first | exact q | (simp only [Option.getD_some, A0.r2]; exact q))
theorem w_Season_addDeed_30 {rod : Nat → Nat × (Nat → Int32)} {d : Nat} {Q : Option MV → MH → Prop} {a0 : Nat} {u1 : Option MV} {u2 : Option MV} {x3 : Int32} {h : MH} (A0 : SeasonA h.2 a0) (g0 : 0 ≤ (h.1 a0 0).toInt ∧ (h.1 a0 0).toInt < 40) (k : Wb rod d B_Season_addDeed 40 [some (.inr (.inr (.inl (some a0)))), u1, u2, some (.inl x3)] [] (sI h (a0 + 3) (h.1 a0 0).toNatClampNeg x3) Q) : Wb rod d B_Season_addDeed 30 [some (.inr (.inr (.inl (some a0)))), u1, u2, some (.inl x3)] [] h Q := by
  refine Wb.go (fun r hr q => b_Season_addDeed_30 (A0.o) (A0.a3 (by first | exact g0 | (simp only [Option.getD_some, A0.r3]; exact g0))) ?_) k
  (first | exact q | (simp only [Option.getD_some, A0.r3]; exact q))
theorem w_Season_addDeed_40 {rod : Nat → Nat × (Nat → Int32)} {d : Nat} {Q : Option MV → MH → Prop} {a0 : Nat} {u1 : Option MV} {u2 : Option MV} {u3 : Option MV} {h : MH} (A0 : SeasonA h.2 a0)  (k : Wb rod d B_Season_addDeed 50 [some (.inr (.inr (.inl (some a0)))), u1, u2, u3] [] (sI h a0 0 ((h.1 a0 0) + (1 : Int32))) Q) : Wb rod d B_Season_addDeed 40 [some (.inr (.inr (.inl (some a0)))), u1, u2, u3] [] h Q := by
  refine Wb.go (fun r hr q => b_Season_addDeed_40 (A0.o) ?_) k
  (first | exact q | (simp only [Option.getD_some]; exact q))
theorem w_Season_addDeed_50 {rod : Nat → Nat × (Nat → Int32)} {d : Nat} {Q : Option MV → MH → Prop} {u0 : Option MV} {u1 : Option MV} {u2 : Option MV} {u3 : Option MV} {h : MH}   (q : Q (none) h) : Wb rod d B_Season_addDeed 50 [u0, u1, u2, u3] [] h Q := by
  refine Wb.ret (b_Season_addDeed_50) ?_
  (first | exact q | (simp only [Option.getD_some]; exact q))
theorem n_Land_addBuyer {rod : Nat → Nat × (Nat → Int32)} {d : Nat} {Q : Option MV → MH → Prop} {a0 : Nat} {x1 : Int32} {c2 : Nat} {h : MH} (k : Wb rod d B_Land_addBuyer 0 [some (.inr (.inr (.inl (some a0)))), some (.inl x1), some (.inr (.inr (.inl (some c2))))] [] h Q) : Wc rod (d + 1) 50 [.inr (.inr (.inl (some a0))), .inl x1, .inr (.inr (.inl (some c2)))] h Q := Wc.en (fun _ _ => e_Land_addBuyer) k
theorem w_Land_addBuyer_0 {rod : Nat → Nat × (Nat → Int32)} {d : Nat} {Q : Option MV → MH → Prop} {a0 : Nat} {u1 : Option MV} {u2 : Option MV} {h : MH} (A0 : LandA h.2 a0)  (k1 : 8 ≤ (h.1 a0 4).toInt → Wb rod d B_Land_addBuyer 15 [some (.inr (.inr (.inl (some a0)))), u1, u2] [] h Q) (k2 : ¬ 8 ≤ (h.1 a0 4).toInt → Wb rod d B_Land_addBuyer 9 [some (.inr (.inr (.inl (some a0)))), u1, u2] [] h Q) : Wb rod d B_Land_addBuyer 0 [some (.inr (.inr (.inl (some a0)))), u1, u2] [] h Q := by
  refine Wb.br (fun _ _ => b_Land_addBuyer_0 (A0.o)) (fun c => ?_) (fun c => ?_)
  · have c : (decide ((8 : Int32) ≤ (h.1 a0 4))) = true := by first | exact c | (simp only [Option.getD_some] at c; exact c)
    (first | exact (k1 (c_let c)) | (simp only [Option.getD_some]; exact (k1 (c_let c))))
  · have c : (decide ((8 : Int32) ≤ (h.1 a0 4))) = false := by first | exact c | (simp only [Option.getD_some] at c; exact c)
    (first | exact (k2 (c_lef c)) | (simp only [Option.getD_some]; exact (k2 (c_lef c))))
theorem w_Land_addBuyer_9 {rod : Nat → Nat × (Nat → Int32)} {d : Nat} {Q : Option MV → MH → Prop} {u0 : Option MV} {u1 : Option MV} {c2 : Nat} {nc2 : Nat} {h : MH} (Sc2 : h.2.2[c2]? = some (0, nc2))  (k1 : 4 ≤ (Int32.ofNat nc2).toInt → Wb rod d B_Land_addBuyer 16 [u0, u1, some (.inr (.inr (.inl (some c2))))] [] h Q) (k2 : ¬ 4 ≤ (Int32.ofNat nc2).toInt → Wb rod d B_Land_addBuyer 15 [u0, u1, some (.inr (.inr (.inl (some c2))))] [] h Q) : Wb rod d B_Land_addBuyer 9 [u0, u1, some (.inr (.inr (.inl (some c2))))] [] h Q := by
  refine Wb.br (fun _ _ => b_Land_addBuyer_9 (gO_of Sc2)) (fun c => ?_) (fun c => ?_)
  · have c : (decide ((4 : Int32) ≤ (Int32.ofNat nc2))) = true := by first | exact c | (simp only [Option.getD_some, (shN_of Sc2)] at c; exact c)
    (first | exact (k1 (c_let c)) | (simp only [Option.getD_some, (shN_of Sc2)]; exact (k1 (c_let c))))
  · have c : (decide ((4 : Int32) ≤ (Int32.ofNat nc2))) = false := by first | exact c | (simp only [Option.getD_some, (shN_of Sc2)] at c; exact c)
    (first | exact (k2 (c_lef c)) | (simp only [Option.getD_some, (shN_of Sc2)]; exact (k2 (c_lef c))))
theorem w_Land_addBuyer_15 {rod : Nat → Nat × (Nat → Int32)} {d : Nat} {Q : Option MV → MH → Prop} {u0 : Option MV} {u1 : Option MV} {u2 : Option MV} {h : MH}   (q : Q (none) h) : Wb rod d B_Land_addBuyer 15 [u0, u1, u2] [] h Q := by
  refine Wb.ret (b_Land_addBuyer_15) ?_
  (first | exact q | (simp only [Option.getD_some]; exact q))
theorem w_Land_addBuyer_16 {rod : Nat → Nat × (Nat → Int32)} {d : Nat} {Q : Option MV → MH → Prop} {a0 : Nat} {x1 : Int32} {u2 : Option MV} {h : MH} (A0 : LandA h.2 a0) (g0 : 0 ≤ (h.1 a0 4).toInt ∧ (h.1 a0 4).toInt < 8) (k : Wb rod d B_Land_addBuyer 26 [some (.inr (.inr (.inl (some a0)))), some (.inl x1), u2] [] (sI h (a0 + 1) (h.1 a0 4).toNatClampNeg x1) Q) : Wb rod d B_Land_addBuyer 16 [some (.inr (.inr (.inl (some a0)))), some (.inl x1), u2] [] h Q := by
  refine Wb.go (fun r hr q => b_Land_addBuyer_16 (A0.o) (A0.a6 (by first | exact g0 | (simp only [Option.getD_some, A0.r6]; exact g0))) ?_) k
  (first | exact q | (simp only [Option.getD_some, A0.r6]; exact q))
theorem w_Land_addBuyer_26 {rod : Nat → Nat × (Nat → Int32)} {d : Nat} {Q : Option MV → MH → Prop} {a0 : Nat} {u1 : Option MV} {c2 : Nat} {nc2 : Nat} {h : MH} (A0 : LandA h.2 a0) (Sc2 : h.2.2[c2]? = some (0, nc2)) (g0 : 0 ≤ (0 : Int32).toInt ∧ (0 : Int32).toInt < nc2) (g1 : 0 ≤ (h.1 a0 4).toInt ∧ (h.1 a0 4).toInt < 8) (k : Wb rod d B_Land_addBuyer 38 [some (.inr (.inr (.inl (some a0)))), u1, some (.inr (.inr (.inl (some c2))))] [] (sI h (a0 + 2) (h.1 a0 4).toNatClampNeg (h.1 c2 (0 : Int32).toNatClampNeg)) Q) : Wb rod d B_Land_addBuyer 26 [some (.inr (.inr (.inl (some a0)))), u1, some (.inr (.inr (.inl (some c2))))] [] h Q := by
  refine Wb.go (fun r hr q => b_Land_addBuyer_26 (A0.o) (gA_of Sc2 (inB_of g0.1 g0.2)) (A0.a7 (by first | exact g1 | (simp only [Option.getD_some, A0.r7]; exact g1))) ?_) k
  (first | exact q | (simp only [Option.getD_some, A0.r7]; exact q))
theorem w_Land_addBuyer_38 {rod : Nat → Nat × (Nat → Int32)} {d : Nat} {Q : Option MV → MH → Prop} {a0 : Nat} {u1 : Option MV} {c2 : Nat} {nc2 : Nat} {h : MH} (A0 : LandA h.2 a0) (Sc2 : h.2.2[c2]? = some (0, nc2)) (g0 : 0 ≤ (1 : Int32).toInt ∧ (1 : Int32).toInt < nc2) (g1 : 0 ≤ (h.1 a0 4).toInt ∧ (h.1 a0 4).toInt < 8) (k : Wb rod d B_Land_addBuyer 50 [some (.inr (.inr (.inl (some a0)))), u1, some (.inr (.inr (.inl (some c2))))] [] (sI h (a0 + 3) (h.1 a0 4).toNatClampNeg (h.1 c2 (1 : Int32).toNatClampNeg)) Q) : Wb rod d B_Land_addBuyer 38 [some (.inr (.inr (.inl (some a0)))), u1, some (.inr (.inr (.inl (some c2))))] [] h Q := by
  refine Wb.go (fun r hr q => b_Land_addBuyer_38 (A0.o) (gA_of Sc2 (inB_of g0.1 g0.2)) (A0.a8 (by first | exact g1 | (simp only [Option.getD_some, A0.r8]; exact g1))) ?_) k
  (first | exact q | (simp only [Option.getD_some, A0.r8]; exact q))
theorem w_Land_addBuyer_50 {rod : Nat → Nat × (Nat → Int32)} {d : Nat} {Q : Option MV → MH → Prop} {a0 : Nat} {u1 : Option MV} {c2 : Nat} {nc2 : Nat} {h : MH} (A0 : LandA h.2 a0) (Sc2 : h.2.2[c2]? = some (0, nc2)) (g0 : 0 ≤ (2 : Int32).toInt ∧ (2 : Int32).toInt < nc2) (g1 : 0 ≤ (h.1 a0 4).toInt ∧ (h.1 a0 4).toInt < 8) (k : Wb rod d B_Land_addBuyer 62 [some (.inr (.inr (.inl (some a0)))), u1, some (.inr (.inr (.inl (some c2))))] [] (sI h (a0 + 4) (h.1 a0 4).toNatClampNeg (h.1 c2 (2 : Int32).toNatClampNeg)) Q) : Wb rod d B_Land_addBuyer 50 [some (.inr (.inr (.inl (some a0)))), u1, some (.inr (.inr (.inl (some c2))))] [] h Q := by
  refine Wb.go (fun r hr q => b_Land_addBuyer_50 (A0.o) (gA_of Sc2 (inB_of g0.1 g0.2)) (A0.a9 (by first | exact g1 | (simp only [Option.getD_some, A0.r9]; exact g1))) ?_) k
  (first | exact q | (simp only [Option.getD_some, A0.r9]; exact q))
theorem w_Land_addBuyer_62 {rod : Nat → Nat × (Nat → Int32)} {d : Nat} {Q : Option MV → MH → Prop} {a0 : Nat} {u1 : Option MV} {c2 : Nat} {nc2 : Nat} {h : MH} (A0 : LandA h.2 a0) (Sc2 : h.2.2[c2]? = some (0, nc2)) (g0 : 0 ≤ (3 : Int32).toInt ∧ (3 : Int32).toInt < nc2) (g1 : 0 ≤ (h.1 a0 4).toInt ∧ (h.1 a0 4).toInt < 8) (k : Wb rod d B_Land_addBuyer 74 [some (.inr (.inr (.inl (some a0)))), u1, some (.inr (.inr (.inl (some c2))))] [] (sI h (a0 + 5) (h.1 a0 4).toNatClampNeg (h.1 c2 (3 : Int32).toNatClampNeg)) Q) : Wb rod d B_Land_addBuyer 62 [some (.inr (.inr (.inl (some a0)))), u1, some (.inr (.inr (.inl (some c2))))] [] h Q := by
  refine Wb.go (fun r hr q => b_Land_addBuyer_62 (A0.o) (gA_of Sc2 (inB_of g0.1 g0.2)) (A0.a10 (by first | exact g1 | (simp only [Option.getD_some, A0.r10]; exact g1))) ?_) k
  (first | exact q | (simp only [Option.getD_some, A0.r10]; exact q))
theorem w_Land_addBuyer_74 {rod : Nat → Nat × (Nat → Int32)} {d : Nat} {Q : Option MV → MH → Prop} {a0 : Nat} {u1 : Option MV} {u2 : Option MV} {h : MH} (A0 : LandA h.2 a0)  (k : Wb rod d B_Land_addBuyer 84 [some (.inr (.inr (.inl (some a0)))), u1, u2] [] (sI h a0 4 ((h.1 a0 4) + (1 : Int32))) Q) : Wb rod d B_Land_addBuyer 74 [some (.inr (.inr (.inl (some a0)))), u1, u2] [] h Q := by
  refine Wb.go (fun r hr q => b_Land_addBuyer_74 (A0.o) ?_) k
  (first | exact q | (simp only [Option.getD_some]; exact q))
theorem w_Land_addBuyer_84 {rod : Nat → Nat × (Nat → Int32)} {d : Nat} {Q : Option MV → MH → Prop} {u0 : Option MV} {u1 : Option MV} {u2 : Option MV} {h : MH}   (q : Q (none) h) : Wb rod d B_Land_addBuyer 84 [u0, u1, u2] [] h Q := by
  refine Wb.ret (b_Land_addBuyer_84) ?_
  (first | exact q | (simp only [Option.getD_some]; exact q))
theorem n_Reader_tellLand {rod : Nat → Nat × (Nat → Int32)} {d : Nat} {Q : Option MV → MH → Prop} {x1 : Int32} {h : MH} (k : Wb rod d B_Reader_tellLand 0 [some (.inr (.inr (.inl (some 45)))), some (.inl x1)] [] h Q) : Wc rod (d + 1) 51 [.inr (.inr (.inl (some 45))), .inl x1] h Q := Wc.en (fun _ _ => e_Reader_tellLand) k
theorem w_Reader_tellLand_0 {rod : Nat → Nat × (Nat → Int32)} {d : Nat} {Q : Option MV → MH → Prop} {u0 : Option MV} {x1 : Int32} {h : MH}   (k0 : x1.toInt = 4 → Wb rod d B_Reader_tellLand 36 [u0, some (.inl x1)] [] h Q) (k1 : x1.toInt = 5 → Wb rod d B_Reader_tellLand 90 [u0, some (.inl x1)] [] h Q) (k2 : x1.toInt = 6 → Wb rod d B_Reader_tellLand 112 [u0, some (.inl x1)] [] h Q) (k3 : x1.toInt = 7 → Wb rod d B_Reader_tellLand 128 [u0, some (.inl x1)] [] h Q) (k4 : x1.toInt = 8 → Wb rod d B_Reader_tellLand 168 [u0, some (.inl x1)] [] h Q) (kd : x1.toInt ≠ 4 → x1.toInt ≠ 5 → x1.toInt ≠ 6 → x1.toInt ≠ 7 → x1.toInt ≠ 8 → Wb rod d B_Reader_tellLand 184 [u0, some (.inl x1)] [] h Q) : Wb rod d B_Reader_tellLand 0 [u0, some (.inl x1)] [] h Q := by
  have key : Wb rod d B_Reader_tellLand (tabT [35, 89, 111, 127, 167] 4 x1 1 184) [u0, some (.inl x1)] [] h Q := by
    by_cases e0 : x1 = Int32.ofInt 4
    · rw [show tabT [35, 89, 111, 127, 167] 4 x1 1 184 = 36 from by rw [e0]; rfl]
      exact k0 (by rw [e0]; rfl)
    by_cases e1 : x1 = Int32.ofInt 5
    · rw [show tabT [35, 89, 111, 127, 167] 4 x1 1 184 = 90 from by rw [e1]; rfl]
      exact k1 (by rw [e1]; rfl)
    by_cases e2 : x1 = Int32.ofInt 6
    · rw [show tabT [35, 89, 111, 127, 167] 4 x1 1 184 = 112 from by rw [e2]; rfl]
      exact k2 (by rw [e2]; rfl)
    by_cases e3 : x1 = Int32.ofInt 7
    · rw [show tabT [35, 89, 111, 127, 167] 4 x1 1 184 = 128 from by rw [e3]; rfl]
      exact k3 (by rw [e3]; rfl)
    by_cases e4 : x1 = Int32.ofInt 8
    · rw [show tabT [35, 89, 111, 127, 167] 4 x1 1 184 = 168 from by rw [e4]; rfl]
      exact k4 (by rw [e4]; rfl)
    rw [show tabT [35, 89, 111, 127, 167] 4 x1 1 184 = 184 from (if_neg e0).trans ((if_neg e1).trans ((if_neg e2).trans ((if_neg e3).trans ((if_neg e4).trans (rfl)))))]
    exact kd (fun q => e0 (Int32.toInt_inj.mp q)) (fun q => e1 (Int32.toInt_inj.mp q)) (fun q => e2 (Int32.toInt_inj.mp q)) (fun q => e3 (Int32.toInt_inj.mp q)) (fun q => e4 (Int32.toInt_inj.mp q))
  refine Wb.go (fun r hr q => b_Reader_tellLand_0 ?_) key
  (first | exact q | (simp only [Option.getD_some]; exact q))
theorem w_Reader_tellLand_36 {rod : Nat → Nat × (Nat → Int32)} {d : Nat} {Q : Option MV → MH → Prop} {u1 : Option MV} {h : MH} (L : Lay h.2)  {Q1 : Option MV → MH → Prop} (c : Wc rod d 52 [.inr (.inr (.inl (some 46))), .inl (h.1 64 (0 : Int32).toNatClampNeg), .inl (h.1 64 (1 : Int32).toNatClampNeg), .inl (h.1 64 (2 : Int32).toNatClampNeg)] h Q1) (k : ∀ r1 h2, Q1 r1 h2 → Wb rod d B_Reader_tellLand 61 [some (.inr (.inr (.inl (some 45)))), u1] (r1.toList ++ []) h2 Q) : Wb rod d B_Reader_tellLand 36 [some (.inr (.inr (.inl (some 45)))), u1] [] h Q := by
  refine Wb.call (fun _ _ _ _ => b_Reader_tellLand_36 (Lay.o45 L) (Lay.a45_5 L ⟨by decide, by decide⟩) (Lay.a45_5 L ⟨by decide, by decide⟩) (Lay.a45_5 L ⟨by decide, by decide⟩) (Lay.k45_1 L)) (Q1 := Q1) ?_ ?_
  · (first | exact c | (simp only [Option.getD_some, (Lay.r45_1 L), (Lay.r45_5 L)]; exact c))
  · (first | exact k | (simp only [Option.getD_some, (Lay.r45_1 L), (Lay.r45_5 L)]; exact k))
theorem w_Reader_tellLand_61 {rod : Nat → Nat × (Nat → Int32)} {d : Nat} {Q : Option MV → MH → Prop} {u1 : Option MV} {h : MH} (L : Lay h.2)  (k : Wb rod d B_Reader_tellLand 87 [some (.inr (.inr (.inl (some 45)))), u1] [] (sI h 45 10 ((h.1 45 10) ||| (((1 : Int32) <<< ((h.1 64 (0 : Int32).toNatClampNeg) &&& 31)) ||| ((1 : Int32) <<< ((h.1 64 (1 : Int32).toNatClampNeg) &&& 31))))) Q) : Wb rod d B_Reader_tellLand 61 [some (.inr (.inr (.inl (some 45)))), u1] [] h Q := by
  refine Wb.go (fun r hr q => b_Reader_tellLand_61 (Lay.o45 L) (Lay.a45_5 L ⟨by decide, by decide⟩) (Lay.a45_5 L ⟨by decide, by decide⟩) ?_) k
  (first | exact q | (simp only [Option.getD_some, (Lay.r45_5 L)]; exact q))
theorem w_Reader_tellLand_87 {rod : Nat → Nat × (Nat → Int32)} {d : Nat} {Q : Option MV → MH → Prop} {u0 : Option MV} {u1 : Option MV} {h : MH}   (k : Wb rod d B_Reader_tellLand 197 [u0, u1] [] h Q) : Wb rod d B_Reader_tellLand 87 [u0, u1] [] h Q := by
  refine Wb.go (fun r hr q => b_Reader_tellLand_87 ?_) k
  (first | exact q | (simp only [Option.getD_some]; exact q))
theorem w_Reader_tellLand_90 {rod : Nat → Nat × (Nat → Int32)} {d : Nat} {Q : Option MV → MH → Prop} {u1 : Option MV} {h : MH} (L : Lay h.2)  {Q1 : Option MV → MH → Prop} (c : Wc rod d 53 [.inr (.inr (.inl (some 46))), .inl (h.1 64 (0 : Int32).toNatClampNeg), .inl (h.1 64 (1 : Int32).toNatClampNeg)] h Q1) (k : ∀ r1 h2, Q1 r1 h2 → Wb rod d B_Reader_tellLand 109 [some (.inr (.inr (.inl (some 45)))), u1] (r1.toList ++ []) h2 Q) : Wb rod d B_Reader_tellLand 90 [some (.inr (.inr (.inl (some 45)))), u1] [] h Q := by
  refine Wb.call (fun _ _ _ _ => b_Reader_tellLand_90 (Lay.o45 L) (Lay.a45_5 L ⟨by decide, by decide⟩) (Lay.a45_5 L ⟨by decide, by decide⟩) (Lay.k45_1 L)) (Q1 := Q1) ?_ ?_
  · (first | exact c | (simp only [Option.getD_some, (Lay.r45_1 L), (Lay.r45_5 L)]; exact c))
  · (first | exact k | (simp only [Option.getD_some, (Lay.r45_1 L), (Lay.r45_5 L)]; exact k))
theorem w_Reader_tellLand_109 {rod : Nat → Nat × (Nat → Int32)} {d : Nat} {Q : Option MV → MH → Prop} {u0 : Option MV} {u1 : Option MV} {h : MH}   (k : Wb rod d B_Reader_tellLand 197 [u0, u1] [] h Q) : Wb rod d B_Reader_tellLand 109 [u0, u1] [] h Q := by
  refine Wb.go (fun r hr q => b_Reader_tellLand_109 ?_) k
  (first | exact q | (simp only [Option.getD_some]; exact q))
theorem w_Reader_tellLand_112 {rod : Nat → Nat × (Nat → Int32)} {d : Nat} {Q : Option MV → MH → Prop} {u1 : Option MV} {h : MH} (L : Lay h.2)  (k : Wb rod d B_Reader_tellLand 125 [some (.inr (.inr (.inl (some 45)))), u1] [] (sI h 46 0 (h.1 64 (0 : Int32).toNatClampNeg)) Q) : Wb rod d B_Reader_tellLand 112 [some (.inr (.inr (.inl (some 45)))), u1] [] h Q := by
  refine Wb.go (fun r hr q => b_Reader_tellLand_112 (Lay.o45 L) (Lay.a45_5 L ⟨by decide, by decide⟩) (Lay.k45_1 L) ?_) k
  (first | exact q | (simp only [Option.getD_some, (Lay.r45_1 L), (Lay.r45_5 L)]; exact q))
theorem w_Reader_tellLand_125 {rod : Nat → Nat × (Nat → Int32)} {d : Nat} {Q : Option MV → MH → Prop} {u0 : Option MV} {u1 : Option MV} {h : MH}   (k : Wb rod d B_Reader_tellLand 197 [u0, u1] [] h Q) : Wb rod d B_Reader_tellLand 125 [u0, u1] [] h Q := by
  refine Wb.go (fun r hr q => b_Reader_tellLand_125 ?_) k
  (first | exact q | (simp only [Option.getD_some]; exact q))
theorem w_Reader_tellLand_128 {rod : Nat → Nat × (Nat → Int32)} {d : Nat} {Q : Option MV → MH → Prop} {u1 : Option MV} {h : MH} (L : Lay h.2)  (k : Wb rod d B_Reader_tellLand 148 [some (.inr (.inr (.inl (some 45)))), u1] [] (sI h 46 3 ((h.1 46 3) ||| ((1 : Int32) <<< ((h.1 64 (0 : Int32).toNatClampNeg) &&& 31)))) Q) : Wb rod d B_Reader_tellLand 128 [some (.inr (.inr (.inl (some 45)))), u1] [] h Q := by
  refine Wb.go (fun r hr q => b_Reader_tellLand_128 (Lay.o45 L) (Lay.k45_1 L) (Lay.a45_5 L ⟨by decide, by decide⟩) ?_) k
  (first | exact q | (simp only [Option.getD_some, (Lay.r45_1 L), (Lay.r45_5 L)]; exact q))
theorem w_Reader_tellLand_148 {rod : Nat → Nat × (Nat → Int32)} {d : Nat} {Q : Option MV → MH → Prop} {u1 : Option MV} {h : MH} (L : Lay h.2)  (k : Wb rod d B_Reader_tellLand 165 [some (.inr (.inr (.inl (some 45)))), u1] [] (sI h 45 10 ((h.1 45 10) ||| ((1 : Int32) <<< ((h.1 64 (0 : Int32).toNatClampNeg) &&& 31)))) Q) : Wb rod d B_Reader_tellLand 148 [some (.inr (.inr (.inl (some 45)))), u1] [] h Q := by
  refine Wb.go (fun r hr q => b_Reader_tellLand_148 (Lay.o45 L) (Lay.a45_5 L ⟨by decide, by decide⟩) ?_) k
  (first | exact q | (simp only [Option.getD_some, (Lay.r45_5 L)]; exact q))
theorem w_Reader_tellLand_165 {rod : Nat → Nat × (Nat → Int32)} {d : Nat} {Q : Option MV → MH → Prop} {u0 : Option MV} {u1 : Option MV} {h : MH}   (k : Wb rod d B_Reader_tellLand 197 [u0, u1] [] h Q) : Wb rod d B_Reader_tellLand 165 [u0, u1] [] h Q := by
  refine Wb.go (fun r hr q => b_Reader_tellLand_165 ?_) k
  (first | exact q | (simp only [Option.getD_some]; exact q))
theorem w_Reader_tellLand_168 {rod : Nat → Nat × (Nat → Int32)} {d : Nat} {Q : Option MV → MH → Prop} {u1 : Option MV} {h : MH} (L : Lay h.2)  (k : Wb rod d B_Reader_tellLand 181 [some (.inr (.inr (.inl (some 45)))), u1] [] (sI h 46 1 (h.1 64 (0 : Int32).toNatClampNeg)) Q) : Wb rod d B_Reader_tellLand 168 [some (.inr (.inr (.inl (some 45)))), u1] [] h Q := by
  refine Wb.go (fun r hr q => b_Reader_tellLand_168 (Lay.o45 L) (Lay.a45_5 L ⟨by decide, by decide⟩) (Lay.k45_1 L) ?_) k
  (first | exact q | (simp only [Option.getD_some, (Lay.r45_1 L), (Lay.r45_5 L)]; exact q))
theorem w_Reader_tellLand_181 {rod : Nat → Nat × (Nat → Int32)} {d : Nat} {Q : Option MV → MH → Prop} {u0 : Option MV} {u1 : Option MV} {h : MH}   (k : Wb rod d B_Reader_tellLand 197 [u0, u1] [] h Q) : Wb rod d B_Reader_tellLand 181 [u0, u1] [] h Q := by
  refine Wb.go (fun r hr q => b_Reader_tellLand_181 ?_) k
  (first | exact q | (simp only [Option.getD_some]; exact q))
theorem w_Reader_tellLand_184 {rod : Nat → Nat × (Nat → Int32)} {d : Nat} {Q : Option MV → MH → Prop} {u1 : Option MV} {h : MH} (L : Lay h.2)  (k : Wb rod d B_Reader_tellLand 197 [some (.inr (.inr (.inl (some 45)))), u1] [] (sI h 46 2 (h.1 64 (0 : Int32).toNatClampNeg)) Q) : Wb rod d B_Reader_tellLand 184 [some (.inr (.inr (.inl (some 45)))), u1] [] h Q := by
  refine Wb.go (fun r hr q => b_Reader_tellLand_184 (Lay.o45 L) (Lay.a45_5 L ⟨by decide, by decide⟩) (Lay.k45_1 L) ?_) k
  (first | exact q | (simp only [Option.getD_some, (Lay.r45_1 L), (Lay.r45_5 L)]; exact q))
theorem w_Reader_tellLand_197 {rod : Nat → Nat × (Nat → Int32)} {d : Nat} {Q : Option MV → MH → Prop} {u0 : Option MV} {u1 : Option MV} {h : MH}   (q : Q (none) h) : Wb rod d B_Reader_tellLand 197 [u0, u1] [] h Q := by
  refine Wb.ret (b_Reader_tellLand_197) ?_
  (first | exact q | (simp only [Option.getD_some]; exact q))
theorem n_Land_layRoad {rod : Nat → Nat × (Nat → Int32)} {d : Nat} {Q : Option MV → MH → Prop} {a0 : Nat} {x1 : Int32} {x2 : Int32} {x3 : Int32} {h : MH} (k : Wb rod d B_Land_layRoad 0 [some (.inr (.inr (.inl (some a0)))), some (.inl x1), some (.inl x2), some (.inl x3)] [] h Q) : Wc rod (d + 1) 52 [.inr (.inr (.inl (some a0))), .inl x1, .inl x2, .inl x3] h Q := Wc.en (fun _ _ => e_Land_layRoad) k
theorem w_Land_layRoad_0 {rod : Nat → Nat × (Nat → Int32)} {d : Nat} {Q : Option MV → MH → Prop} {u0 : Option MV} {x1 : Int32} {u2 : Option MV} {u3 : Option MV} {h : MH}   (k1 : x1.toInt < 0 → Wb rod d B_Land_layRoad 20 [u0, some (.inl x1), u2, u3] [] h Q) (k2 : ¬ x1.toInt < 0 → Wb rod d B_Land_layRoad 4 [u0, some (.inl x1), u2, u3] [] h Q) : Wb rod d B_Land_layRoad 0 [u0, some (.inl x1), u2, u3] [] h Q := by
  refine Wb.br (fun _ _ => b_Land_layRoad_0) (fun c => ?_) (fun c => ?_)
  · have c : (decide (x1 < 0)) = true := by first | exact c | (simp only [Option.getD_some] at c; exact c)
    (first | exact (k1 (c_ltt c)) | (simp only [Option.getD_some]; exact (k1 (c_ltt c))))
  · have c : (decide (x1 < 0)) = false := by first | exact c | (simp only [Option.getD_some] at c; exact c)
    (first | exact (k2 (c_ltf c)) | (simp only [Option.getD_some]; exact (k2 (c_ltf c))))
theorem w_Land_layRoad_4 {rod : Nat → Nat × (Nat → Int32)} {d : Nat} {Q : Option MV → MH → Prop} {u0 : Option MV} {x1 : Int32} {u2 : Option MV} {u3 : Option MV} {h : MH}   (k1 : 6 ≤ x1.toInt → Wb rod d B_Land_layRoad 20 [u0, some (.inl x1), u2, u3] [] h Q) (k2 : ¬ 6 ≤ x1.toInt → Wb rod d B_Land_layRoad 10 [u0, some (.inl x1), u2, u3] [] h Q) : Wb rod d B_Land_layRoad 4 [u0, some (.inl x1), u2, u3] [] h Q := by
  refine Wb.br (fun _ _ => b_Land_layRoad_4) (fun c => ?_) (fun c => ?_)
  · have c : (decide ((6 : Int32) ≤ x1)) = true := by first | exact c | (simp only [Option.getD_some] at c; exact c)
    (first | exact (k1 (c_let c)) | (simp only [Option.getD_some]; exact (k1 (c_let c))))
  · have c : (decide ((6 : Int32) ≤ x1)) = false := by first | exact c | (simp only [Option.getD_some] at c; exact c)
    (first | exact (k2 (c_lef c)) | (simp only [Option.getD_some]; exact (k2 (c_lef c))))
theorem w_Land_layRoad_10 {rod : Nat → Nat × (Nat → Int32)} {d : Nat} {Q : Option MV → MH → Prop} {u0 : Option MV} {u1 : Option MV} {x2 : Int32} {u3 : Option MV} {h : MH}   (k1 : x2.toInt < 0 → Wb rod d B_Land_layRoad 20 [u0, u1, some (.inl x2), u3] [] h Q) (k2 : ¬ x2.toInt < 0 → Wb rod d B_Land_layRoad 14 [u0, u1, some (.inl x2), u3] [] h Q) : Wb rod d B_Land_layRoad 10 [u0, u1, some (.inl x2), u3] [] h Q := by
  refine Wb.br (fun _ _ => b_Land_layRoad_10) (fun c => ?_) (fun c => ?_)
  · have c : (decide (x2 < 0)) = true := by first | exact c | (simp only [Option.getD_some] at c; exact c)
    (first | exact (k1 (c_ltt c)) | (simp only [Option.getD_some]; exact (k1 (c_ltt c))))
  · have c : (decide (x2 < 0)) = false := by first | exact c | (simp only [Option.getD_some] at c; exact c)
    (first | exact (k2 (c_ltf c)) | (simp only [Option.getD_some]; exact (k2 (c_ltf c))))
theorem w_Land_layRoad_14 {rod : Nat → Nat × (Nat → Int32)} {d : Nat} {Q : Option MV → MH → Prop} {u0 : Option MV} {u1 : Option MV} {x2 : Int32} {u3 : Option MV} {h : MH}   (k1 : x2.toInt < 6 → Wb rod d B_Land_layRoad 21 [u0, u1, some (.inl x2), u3] [] h Q) (k2 : ¬ x2.toInt < 6 → Wb rod d B_Land_layRoad 20 [u0, u1, some (.inl x2), u3] [] h Q) : Wb rod d B_Land_layRoad 14 [u0, u1, some (.inl x2), u3] [] h Q := by
  refine Wb.br (fun _ _ => b_Land_layRoad_14) (fun c => ?_) (fun c => ?_)
  · have c : (decide (x2 < (6 : Int32))) = true := by first | exact c | (simp only [Option.getD_some] at c; exact c)
    (first | exact (k1 (c_ltt c)) | (simp only [Option.getD_some]; exact (k1 (c_ltt c))))
  · have c : (decide (x2 < (6 : Int32))) = false := by first | exact c | (simp only [Option.getD_some] at c; exact c)
    (first | exact (k2 (c_ltf c)) | (simp only [Option.getD_some]; exact (k2 (c_ltf c))))
theorem w_Land_layRoad_20 {rod : Nat → Nat × (Nat → Int32)} {d : Nat} {Q : Option MV → MH → Prop} {u0 : Option MV} {u1 : Option MV} {u2 : Option MV} {u3 : Option MV} {h : MH}   (q : Q (none) h) : Wb rod d B_Land_layRoad 20 [u0, u1, u2, u3] [] h Q := by
  refine Wb.ret (b_Land_layRoad_20) ?_
  (first | exact q | (simp only [Option.getD_some]; exact q))
theorem w_Land_layRoad_21 {rod : Nat → Nat × (Nat → Int32)} {d : Nat} {Q : Option MV → MH → Prop} {a0 : Nat} {x1 : Int32} {x2 : Int32} {x3 : Int32} {h : MH} (A0 : LandA h.2 a0) (g0 : 0 ≤ ((x1 * (6 : Int32)) + x2).toInt ∧ ((x1 * (6 : Int32)) + x2).toInt < 36) (k : Wb rod d B_Land_layRoad 33 [some (.inr (.inr (.inl (some a0)))), some (.inl x1), some (.inl x2), some (.inl x3)] [] (sI h (a0 + 8) ((x1 * (6 : Int32)) + x2).toNatClampNeg x3) Q) : Wb rod d B_Land_layRoad 21 [some (.inr (.inr (.inl (some a0)))), some (.inl x1), some (.inl x2), some (.inl x3)] [] h Q := by
  refine Wb.go (fun r hr q => b_Land_layRoad_21 (A0.o) (A0.a13 g0) ?_) k
  (first | exact q | (simp only [Option.getD_some, A0.r13]; exact q))
theorem w_Land_layRoad_33 {rod : Nat → Nat × (Nat → Int32)} {d : Nat} {Q : Option MV → MH → Prop} {a0 : Nat} {x1 : Int32} {x2 : Int32} {x3 : Int32} {h : MH} (A0 : LandA h.2 a0) (g0 : 0 ≤ ((x2 * (6 : Int32)) + x1).toInt ∧ ((x2 * (6 : Int32)) + x1).toInt < 36) (k : Wb rod d B_Land_layRoad 45 [some (.inr (.inr (.inl (some a0)))), some (.inl x1), some (.inl x2), some (.inl x3)] [] (sI h (a0 + 8) ((x2 * (6 : Int32)) + x1).toNatClampNeg x3) Q) : Wb rod d B_Land_layRoad 33 [some (.inr (.inr (.inl (some a0)))), some (.inl x1), some (.inl x2), some (.inl x3)] [] h Q := by
  refine Wb.go (fun r hr q => b_Land_layRoad_33 (A0.o) (A0.a13 g0) ?_) k
  (first | exact q | (simp only [Option.getD_some, A0.r13]; exact q))
theorem w_Land_layRoad_45 {rod : Nat → Nat × (Nat → Int32)} {d : Nat} {Q : Option MV → MH → Prop} {u0 : Option MV} {u1 : Option MV} {u2 : Option MV} {u3 : Option MV} {h : MH}   (q : Q (none) h) : Wb rod d B_Land_layRoad 45 [u0, u1, u2, u3] [] h Q := by
  refine Wb.ret (b_Land_layRoad_45) ?_
  (first | exact q | (simp only [Option.getD_some]; exact q))
theorem n_Land_addLetter {rod : Nat → Nat × (Nat → Int32)} {d : Nat} {Q : Option MV → MH → Prop} {a0 : Nat} {x1 : Int32} {x2 : Int32} {h : MH} (k : Wb rod d B_Land_addLetter 0 [some (.inr (.inr (.inl (some a0)))), some (.inl x1), some (.inl x2)] [] h Q) : Wc rod (d + 1) 53 [.inr (.inr (.inl (some a0))), .inl x1, .inl x2] h Q := Wc.en (fun _ _ => e_Land_addLetter) k
theorem w_Land_addLetter_0 {rod : Nat → Nat × (Nat → Int32)} {d : Nat} {Q : Option MV → MH → Prop} {a0 : Nat} {u1 : Option MV} {u2 : Option MV} {h : MH} (A0 : LandA h.2 a0)  (k1 : (h.1 a0 5).toInt < 4 → Wb rod d B_Land_addLetter 9 [some (.inr (.inr (.inl (some a0)))), u1, u2] [] h Q) (k2 : ¬ (h.1 a0 5).toInt < 4 → Wb rod d B_Land_addLetter 8 [some (.inr (.inr (.inl (some a0)))), u1, u2] [] h Q) : Wb rod d B_Land_addLetter 0 [some (.inr (.inr (.inl (some a0)))), u1, u2] [] h Q := by
  refine Wb.br (fun _ _ => b_Land_addLetter_0 (A0.o)) (fun c => ?_) (fun c => ?_)
  · have c : (decide ((h.1 a0 5) < (4 : Int32))) = true := by first | exact c | (simp only [Option.getD_some] at c; exact c)
    (first | exact (k1 (c_ltt c)) | (simp only [Option.getD_some]; exact (k1 (c_ltt c))))
  · have c : (decide ((h.1 a0 5) < (4 : Int32))) = false := by first | exact c | (simp only [Option.getD_some] at c; exact c)
    (first | exact (k2 (c_ltf c)) | (simp only [Option.getD_some]; exact (k2 (c_ltf c))))
theorem w_Land_addLetter_8 {rod : Nat → Nat × (Nat → Int32)} {d : Nat} {Q : Option MV → MH → Prop} {u0 : Option MV} {u1 : Option MV} {u2 : Option MV} {h : MH}   (q : Q (none) h) : Wb rod d B_Land_addLetter 8 [u0, u1, u2] [] h Q := by
  refine Wb.ret (b_Land_addLetter_8) ?_
  (first | exact q | (simp only [Option.getD_some]; exact q))
theorem w_Land_addLetter_9 {rod : Nat → Nat × (Nat → Int32)} {d : Nat} {Q : Option MV → MH → Prop} {a0 : Nat} {x1 : Int32} {u2 : Option MV} {h : MH} (A0 : LandA h.2 a0) (g0 : 0 ≤ (h.1 a0 5).toInt ∧ (h.1 a0 5).toInt < 4) (k : Wb rod d B_Land_addLetter 19 [some (.inr (.inr (.inl (some a0)))), some (.inl x1), u2] [] (sI h (a0 + 6) (h.1 a0 5).toNatClampNeg x1) Q) : Wb rod d B_Land_addLetter 9 [some (.inr (.inr (.inl (some a0)))), some (.inl x1), u2] [] h Q := by
  refine Wb.go (fun r hr q => b_Land_addLetter_9 (A0.o) (A0.a11 (by first | exact g0 | (simp only [Option.getD_some, A0.r11]; exact g0))) ?_) k
  (first | exact q | (simp only [Option.getD_some, A0.r11]; exact q))
theorem w_Land_addLetter_19 {rod : Nat → Nat × (Nat → Int32)} {d : Nat} {Q : Option MV → MH → Prop} {a0 : Nat} {u1 : Option MV} {x2 : Int32} {h : MH} (A0 : LandA h.2 a0) (g0 : 0 ≤ (h.1 a0 5).toInt ∧ (h.1 a0 5).toInt < 4) (k : Wb rod d B_Land_addLetter 29 [some (.inr (.inr (.inl (some a0)))), u1, some (.inl x2)] [] (sI h (a0 + 7) (h.1 a0 5).toNatClampNeg x2) Q) : Wb rod d B_Land_addLetter 19 [some (.inr (.inr (.inl (some a0)))), u1, some (.inl x2)] [] h Q := by
  refine Wb.go (fun r hr q => b_Land_addLetter_19 (A0.o) (A0.a12 (by first | exact g0 | (simp only [Option.getD_some, A0.r12]; exact g0))) ?_) k
  (first | exact q | (simp only [Option.getD_some, A0.r12]; exact q))
theorem w_Land_addLetter_29 {rod : Nat → Nat × (Nat → Int32)} {d : Nat} {Q : Option MV → MH → Prop} {a0 : Nat} {u1 : Option MV} {u2 : Option MV} {h : MH} (A0 : LandA h.2 a0)  (k : Wb rod d B_Land_addLetter 39 [some (.inr (.inr (.inl (some a0)))), u1, u2] [] (sI h a0 5 ((h.1 a0 5) + (1 : Int32))) Q) : Wb rod d B_Land_addLetter 29 [some (.inr (.inr (.inl (some a0)))), u1, u2] [] h Q := by
  refine Wb.go (fun r hr q => b_Land_addLetter_29 (A0.o) ?_) k
  (first | exact q | (simp only [Option.getD_some]; exact q))
theorem w_Land_addLetter_39 {rod : Nat → Nat × (Nat → Int32)} {d : Nat} {Q : Option MV → MH → Prop} {u0 : Option MV} {u1 : Option MV} {u2 : Option MV} {h : MH}   (q : Q (none) h) : Wb rod d B_Land_addLetter 39 [u0, u1, u2] [] h Q := by
  refine Wb.ret (b_Land_addLetter_39) ?_
  (first | exact q | (simp only [Option.getD_some]; exact q))
theorem n_Reader_keepAs {rod : Nat → Nat × (Nat → Int32)} {d : Nat} {Q : Option MV → MH → Prop} {x1 : Int32} {x2 : Int32} {h : MH} (k : Wb rod d B_Reader_keepAs 0 [some (.inr (.inr (.inl (some 45)))), some (.inl x1), some (.inl x2)] [] h Q) : Wc rod (d + 1) 54 [.inr (.inr (.inl (some 45))), .inl x1, .inl x2] h Q := Wc.en (fun _ _ => e_Reader_keepAs) k
theorem w_Reader_keepAs_0 {rod : Nat → Nat × (Nat → Int32)} {d : Nat} {Q : Option MV → MH → Prop} {u0 : Option MV} {u1 : Option MV} {x2 : Int32} {h : MH}   (k1 : x2.toInt < 0 → Wb rod d B_Reader_keepAs 9 [u0, u1, some (.inl x2)] [] h Q) (k2 : ¬ x2.toInt < 0 → Wb rod d B_Reader_keepAs 4 [u0, u1, some (.inl x2)] [] h Q) : Wb rod d B_Reader_keepAs 0 [u0, u1, some (.inl x2)] [] h Q := by
  refine Wb.br (fun _ _ => b_Reader_keepAs_0) (fun c => ?_) (fun c => ?_)
  · have c : (decide (x2 < 0)) = true := by first | exact c | (simp only [Option.getD_some] at c; exact c)
    (first | exact (k1 (c_ltt c)) | (simp only [Option.getD_some]; exact (k1 (c_ltt c))))
  · have c : (decide (x2 < 0)) = false := by first | exact c | (simp only [Option.getD_some] at c; exact c)
    (first | exact (k2 (c_ltf c)) | (simp only [Option.getD_some]; exact (k2 (c_ltf c))))
theorem w_Reader_keepAs_4 {rod : Nat → Nat × (Nat → Int32)} {d : Nat} {Q : Option MV → MH → Prop} {u0 : Option MV} {u1 : Option MV} {x2 : Int32} {h : MH}   (k1 : x2.toInt < 2 → Wb rod d B_Reader_keepAs 10 [u0, u1, some (.inl x2)] [] h Q) (k2 : ¬ x2.toInt < 2 → Wb rod d B_Reader_keepAs 9 [u0, u1, some (.inl x2)] [] h Q) : Wb rod d B_Reader_keepAs 4 [u0, u1, some (.inl x2)] [] h Q := by
  refine Wb.br (fun _ _ => b_Reader_keepAs_4) (fun c => ?_) (fun c => ?_)
  · have c : (decide (x2 < (2 : Int32))) = true := by first | exact c | (simp only [Option.getD_some] at c; exact c)
    (first | exact (k1 (c_ltt c)) | (simp only [Option.getD_some]; exact (k1 (c_ltt c))))
  · have c : (decide (x2 < (2 : Int32))) = false := by first | exact c | (simp only [Option.getD_some] at c; exact c)
    (first | exact (k2 (c_ltf c)) | (simp only [Option.getD_some]; exact (k2 (c_ltf c))))
theorem w_Reader_keepAs_9 {rod : Nat → Nat × (Nat → Int32)} {d : Nat} {Q : Option MV → MH → Prop} {u0 : Option MV} {u1 : Option MV} {u2 : Option MV} {h : MH}   (q : Q (none) h) : Wb rod d B_Reader_keepAs 9 [u0, u1, u2] [] h Q := by
  refine Wb.ret (b_Reader_keepAs_9) ?_
  (first | exact q | (simp only [Option.getD_some]; exact q))
theorem w_Reader_keepAs_10 {rod : Nat → Nat × (Nat → Int32)} {d : Nat} {Q : Option MV → MH → Prop} {u0 : Option MV} {x1 : Int32} {u2 : Option MV} {h : MH}   (k0 : x1.toInt = 0 → Wb rod d B_Reader_keepAs 36 [u0, some (.inl x1), u2] [] h Q) (k1 : x1.toInt = 1 → Wb rod d B_Reader_keepAs 55 [u0, some (.inl x1), u2] [] h Q) (k2 : x1.toInt = 2 → Wb rod d B_Reader_keepAs 74 [u0, some (.inl x1), u2] [] h Q) (kd : x1.toInt ≠ 0 → x1.toInt ≠ 1 → x1.toInt ≠ 2 → Wb rod d B_Reader_keepAs 93 [u0, some (.inl x1), u2] [] h Q) : Wb rod d B_Reader_keepAs 10 [u0, some (.inl x1), u2] [] h Q := by
  have key : Wb rod d B_Reader_keepAs (tabT [25, 44, 63] 0 x1 11 93) [u0, some (.inl x1), u2] [] h Q := by
    by_cases e0 : x1 = Int32.ofInt 0
    · rw [show tabT [25, 44, 63] 0 x1 11 93 = 36 from by rw [e0]; rfl]
      exact k0 (by rw [e0]; rfl)
    by_cases e1 : x1 = Int32.ofInt 1
    · rw [show tabT [25, 44, 63] 0 x1 11 93 = 55 from by rw [e1]; rfl]
      exact k1 (by rw [e1]; rfl)
    by_cases e2 : x1 = Int32.ofInt 2
    · rw [show tabT [25, 44, 63] 0 x1 11 93 = 74 from by rw [e2]; rfl]
      exact k2 (by rw [e2]; rfl)
    rw [show tabT [25, 44, 63] 0 x1 11 93 = 93 from (if_neg e0).trans ((if_neg e1).trans ((if_neg e2).trans (rfl)))]
    exact kd (fun q => e0 (Int32.toInt_inj.mp q)) (fun q => e1 (Int32.toInt_inj.mp q)) (fun q => e2 (Int32.toInt_inj.mp q))
  refine Wb.go (fun r hr q => b_Reader_keepAs_10 ?_) key
  (first | exact q | (simp only [Option.getD_some]; exact q))
theorem w_Reader_keepAs_36 {rod : Nat → Nat × (Nat → Int32)} {d : Nat} {Q : Option MV → MH → Prop} {u1 : Option MV} {x2 : Int32} {h : MH} (L : Lay h.2) (g0 : 0 ≤ x2.toInt ∧ x2.toInt < 2) (g1 : gO h (h.2.1 4 x2.toNatClampNeg) 11 = true) {Q1 : Option MV → MH → Prop} (c : Wc rod d 55 [.inr (.inr (.inl (h.2.1 4 x2.toNatClampNeg))), .inr (.inr (.inl (some 46)))] h Q1) (k : ∀ r1 h2, Q1 r1 h2 → Wb rod d B_Reader_keepAs 52 [some (.inr (.inr (.inl (some 45)))), u1, some (.inl x2)] (r1.toList ++ []) h2 Q) : Wb rod d B_Reader_keepAs 36 [some (.inr (.inr (.inl (some 45)))), u1, some (.inl x2)] [] h Q := by
  refine Wb.call (fun _ _ _ _ => b_Reader_keepAs_36 (Lay.o45 L) (Lay.k45_0 L) (by simp only [Option.getD_some, (Lay.r45_0 L), (Lay.r1_5 L)]; exact gA_of (L.1 4 _ rfl) (inB_of (And.left g0) (by have q := And.right g0; omega))) (by first | exact g1 | (simp only [Option.getD_some, (Lay.r45_0 L), (Lay.r1_5 L), (Lay.r45_1 L)]; exact g1))) (Q1 := Q1) ?_ ?_
  · (first | exact c | (simp only [Option.getD_some, (Lay.r45_0 L), (Lay.r1_5 L), (Lay.r45_1 L)]; exact c))
  · (first | exact k | (simp only [Option.getD_some, (Lay.r45_0 L), (Lay.r1_5 L), (Lay.r45_1 L)]; exact k))
theorem w_Reader_keepAs_52 {rod : Nat → Nat × (Nat → Int32)} {d : Nat} {Q : Option MV → MH → Prop} {u0 : Option MV} {u1 : Option MV} {u2 : Option MV} {h : MH}   (k : Wb rod d B_Reader_keepAs 109 [u0, u1, u2] [] h Q) : Wb rod d B_Reader_keepAs 52 [u0, u1, u2] [] h Q := by
  refine Wb.go (fun r hr q => b_Reader_keepAs_52 ?_) k
  (first | exact q | (simp only [Option.getD_some]; exact q))
theorem w_Reader_keepAs_55 {rod : Nat → Nat × (Nat → Int32)} {d : Nat} {Q : Option MV → MH → Prop} {u1 : Option MV} {x2 : Int32} {h : MH} (L : Lay h.2) (g0 : 0 ≤ x2.toInt ∧ x2.toInt < 2) (g1 : gO h (h.2.1 5 x2.toNatClampNeg) 16 = true) {Q1 : Option MV → MH → Prop} (c : Wc rod d 56 [.inr (.inr (.inl (h.2.1 5 x2.toNatClampNeg))), .inr (.inr (.inl (some 55)))] h Q1) (k : ∀ r1 h2, Q1 r1 h2 → Wb rod d B_Reader_keepAs 71 [some (.inr (.inr (.inl (some 45)))), u1, some (.inl x2)] (r1.toList ++ []) h2 Q) : Wb rod d B_Reader_keepAs 55 [some (.inr (.inr (.inl (some 45)))), u1, some (.inl x2)] [] h Q := by
  refine Wb.call (fun _ _ _ _ => b_Reader_keepAs_55 (Lay.o45 L) (Lay.k45_0 L) (by simp only [Option.getD_some, (Lay.r45_0 L), (Lay.r1_6 L)]; exact gA_of (L.1 5 _ rfl) (inB_of (And.left g0) (by have q := And.right g0; omega))) (by first | exact g1 | (simp only [Option.getD_some, (Lay.r45_0 L), (Lay.r1_6 L), (Lay.r45_2 L)]; exact g1))) (Q1 := Q1) ?_ ?_
  · (first | exact c | (simp only [Option.getD_some, (Lay.r45_0 L), (Lay.r1_6 L), (Lay.r45_2 L)]; exact c))
  · (first | exact k | (simp only [Option.getD_some, (Lay.r45_0 L), (Lay.r1_6 L), (Lay.r45_2 L)]; exact k))
theorem w_Reader_keepAs_71 {rod : Nat → Nat × (Nat → Int32)} {d : Nat} {Q : Option MV → MH → Prop} {u0 : Option MV} {u1 : Option MV} {u2 : Option MV} {h : MH}   (k : Wb rod d B_Reader_keepAs 109 [u0, u1, u2] [] h Q) : Wb rod d B_Reader_keepAs 71 [u0, u1, u2] [] h Q := by
  refine Wb.go (fun r hr q => b_Reader_keepAs_71 ?_) k
  (first | exact q | (simp only [Option.getD_some]; exact q))
theorem w_Reader_keepAs_74 {rod : Nat → Nat × (Nat → Int32)} {d : Nat} {Q : Option MV → MH → Prop} {u1 : Option MV} {x2 : Int32} {h : MH} (L : Lay h.2) (g0 : 0 ≤ x2.toInt ∧ x2.toInt < 2) (g1 : gO h (h.2.1 6 x2.toNatClampNeg) 12 = true) {Q1 : Option MV → MH → Prop} (c : Wc rod d 57 [.inr (.inr (.inl (h.2.1 6 x2.toNatClampNeg))), .inr (.inr (.inl (some 59)))] h Q1) (k : ∀ r1 h2, Q1 r1 h2 → Wb rod d B_Reader_keepAs 90 [some (.inr (.inr (.inl (some 45)))), u1, some (.inl x2)] (r1.toList ++ []) h2 Q) : Wb rod d B_Reader_keepAs 74 [some (.inr (.inr (.inl (some 45)))), u1, some (.inl x2)] [] h Q := by
  refine Wb.call (fun _ _ _ _ => b_Reader_keepAs_74 (Lay.o45 L) (Lay.k45_0 L) (by simp only [Option.getD_some, (Lay.r45_0 L), (Lay.r1_7 L)]; exact gA_of (L.1 6 _ rfl) (inB_of (And.left g0) (by have q := And.right g0; omega))) (by first | exact g1 | (simp only [Option.getD_some, (Lay.r45_0 L), (Lay.r1_7 L), (Lay.r45_3 L)]; exact g1))) (Q1 := Q1) ?_ ?_
  · (first | exact c | (simp only [Option.getD_some, (Lay.r45_0 L), (Lay.r1_7 L), (Lay.r45_3 L)]; exact c))
  · (first | exact k | (simp only [Option.getD_some, (Lay.r45_0 L), (Lay.r1_7 L), (Lay.r45_3 L)]; exact k))
theorem w_Reader_keepAs_90 {rod : Nat → Nat × (Nat → Int32)} {d : Nat} {Q : Option MV → MH → Prop} {u0 : Option MV} {u1 : Option MV} {u2 : Option MV} {h : MH}   (k : Wb rod d B_Reader_keepAs 109 [u0, u1, u2] [] h Q) : Wb rod d B_Reader_keepAs 90 [u0, u1, u2] [] h Q := by
  refine Wb.go (fun r hr q => b_Reader_keepAs_90 ?_) k
  (first | exact q | (simp only [Option.getD_some]; exact q))
theorem w_Reader_keepAs_93 {rod : Nat → Nat × (Nat → Int32)} {d : Nat} {Q : Option MV → MH → Prop} {u1 : Option MV} {x2 : Int32} {h : MH} (L : Lay h.2) (g0 : 0 ≤ x2.toInt ∧ x2.toInt < 2) (g1 : gO h (h.2.1 7 x2.toNatClampNeg) 10 = true) {Q1 : Option MV → MH → Prop} (c : Wc rod d 58 [.inr (.inr (.inl (h.2.1 7 x2.toNatClampNeg))), .inr (.inr (.inl (some 62)))] h Q1) (k : ∀ r1 h2, Q1 r1 h2 → Wb rod d B_Reader_keepAs 109 [some (.inr (.inr (.inl (some 45)))), u1, some (.inl x2)] (r1.toList ++ []) h2 Q) : Wb rod d B_Reader_keepAs 93 [some (.inr (.inr (.inl (some 45)))), u1, some (.inl x2)] [] h Q := by
  refine Wb.call (fun _ _ _ _ => b_Reader_keepAs_93 (Lay.o45 L) (Lay.k45_0 L) (by simp only [Option.getD_some, (Lay.r45_0 L), (Lay.r1_8 L)]; exact gA_of (L.1 7 _ rfl) (inB_of (And.left g0) (by have q := And.right g0; omega))) (by first | exact g1 | (simp only [Option.getD_some, (Lay.r45_0 L), (Lay.r1_8 L), (Lay.r45_4 L)]; exact g1))) (Q1 := Q1) ?_ ?_
  · (first | exact c | (simp only [Option.getD_some, (Lay.r45_0 L), (Lay.r1_8 L), (Lay.r45_4 L)]; exact c))
  · (first | exact k | (simp only [Option.getD_some, (Lay.r45_0 L), (Lay.r1_8 L), (Lay.r45_4 L)]; exact k))
theorem w_Reader_keepAs_109 {rod : Nat → Nat × (Nat → Int32)} {d : Nat} {Q : Option MV → MH → Prop} {u0 : Option MV} {u1 : Option MV} {u2 : Option MV} {h : MH}   (q : Q (none) h) : Wb rod d B_Reader_keepAs 109 [u0, u1, u2] [] h Q := by
  refine Wb.ret (b_Reader_keepAs_109) ?_
  (first | exact q | (simp only [Option.getD_some]; exact q))
theorem n_Land_become {rod : Nat → Nat × (Nat → Int32)} {d : Nat} {Q : Option MV → MH → Prop} {a0 : Nat} {a1 : Nat} {h : MH} (k : Wb rod d B_Land_become 0 [some (.inr (.inr (.inl (some a0)))), some (.inr (.inr (.inl (some a1))))] [] h Q) : Wc rod (d + 1) 55 [.inr (.inr (.inl (some a0))), .inr (.inr (.inl (some a1)))] h Q := Wc.en (fun _ _ => e_Land_become) k
theorem w_Land_become_0 {rod : Nat → Nat × (Nat → Int32)} {d : Nat} {Q : Option MV → MH → Prop} {a0 : Nat} {a1 : Nat} {h : MH} (A1 : LandA h.2 a1) (A0 : LandA h.2 a0)  (k : Wb rod d B_Land_become 8 [some (.inr (.inr (.inl (some a0)))), some (.inr (.inr (.inl (some a1))))] [] (sI h a0 0 (h.1 a1 0)) Q) : Wb rod d B_Land_become 0 [some (.inr (.inr (.inl (some a0)))), some (.inr (.inr (.inl (some a1))))] [] h Q := by
  refine Wb.go (fun r hr q => b_Land_become_0 (A1.o) (A0.o) ?_) k
  (first | exact q | (simp only [Option.getD_some]; exact q))
theorem w_Land_become_8 {rod : Nat → Nat × (Nat → Int32)} {d : Nat} {Q : Option MV → MH → Prop} {a0 : Nat} {a1 : Nat} {h : MH} (A1 : LandA h.2 a1) (A0 : LandA h.2 a0)  (k : Wb rod d B_Land_become 16 [some (.inr (.inr (.inl (some a0)))), some (.inr (.inr (.inl (some a1))))] [] (sI h a0 1 (h.1 a1 1)) Q) : Wb rod d B_Land_become 8 [some (.inr (.inr (.inl (some a0)))), some (.inr (.inr (.inl (some a1))))] [] h Q := by
  refine Wb.go (fun r hr q => b_Land_become_8 (A1.o) (A0.o) ?_) k
  (first | exact q | (simp only [Option.getD_some]; exact q))
theorem w_Land_become_16 {rod : Nat → Nat × (Nat → Int32)} {d : Nat} {Q : Option MV → MH → Prop} {a0 : Nat} {a1 : Nat} {h : MH} (A1 : LandA h.2 a1) (A0 : LandA h.2 a0)  (k : Wb rod d B_Land_become 24 [some (.inr (.inr (.inl (some a0)))), some (.inr (.inr (.inl (some a1))))] [] (sI h a0 2 (h.1 a1 2)) Q) : Wb rod d B_Land_become 16 [some (.inr (.inr (.inl (some a0)))), some (.inr (.inr (.inl (some a1))))] [] h Q := by
  refine Wb.go (fun r hr q => b_Land_become_16 (A1.o) (A0.o) ?_) k
  (first | exact q | (simp only [Option.getD_some]; exact q))
theorem w_Land_become_24 {rod : Nat → Nat × (Nat → Int32)} {d : Nat} {Q : Option MV → MH → Prop} {a0 : Nat} {a1 : Nat} {h : MH} (A1 : LandA h.2 a1) (A0 : LandA h.2 a0)  (k : Wb rod d B_Land_become 32 [some (.inr (.inr (.inl (some a0)))), some (.inr (.inr (.inl (some a1))))] [] (sI h a0 3 (h.1 a1 3)) Q) : Wb rod d B_Land_become 24 [some (.inr (.inr (.inl (some a0)))), some (.inr (.inr (.inl (some a1))))] [] h Q := by
  refine Wb.go (fun r hr q => b_Land_become_24 (A1.o) (A0.o) ?_) k
  (first | exact q | (simp only [Option.getD_some]; exact q))
theorem w_Land_become_32 {rod : Nat → Nat × (Nat → Int32)} {d : Nat} {Q : Option MV → MH → Prop} {a0 : Nat} {a1 : Nat} {h : MH} (A1 : LandA h.2 a1) (A0 : LandA h.2 a0)  (k : Wb rod d B_Land_become 40 [some (.inr (.inr (.inl (some a0)))), some (.inr (.inr (.inl (some a1))))] [] (sI h a0 4 (h.1 a1 4)) Q) : Wb rod d B_Land_become 32 [some (.inr (.inr (.inl (some a0)))), some (.inr (.inr (.inl (some a1))))] [] h Q := by
  refine Wb.go (fun r hr q => b_Land_become_32 (A1.o) (A0.o) ?_) k
  (first | exact q | (simp only [Option.getD_some]; exact q))
theorem w_Land_become_40 {rod : Nat → Nat × (Nat → Int32)} {d : Nat} {Q : Option MV → MH → Prop} {a0 : Nat} {a1 : Nat} {h : MH} (A1 : LandA h.2 a1) (A0 : LandA h.2 a0)  (k : Wb rod d B_Land_become 48 [some (.inr (.inr (.inl (some a0)))), some (.inr (.inr (.inl (some a1))))] [] (sI h a0 5 (h.1 a1 5)) Q) : Wb rod d B_Land_become 40 [some (.inr (.inr (.inl (some a0)))), some (.inr (.inr (.inl (some a1))))] [] h Q := by
  refine Wb.go (fun r hr q => b_Land_become_40 (A1.o) (A0.o) ?_) k
  (first | exact q | (simp only [Option.getD_some]; exact q))
theorem w_Land_become_48 {rod : Nat → Nat × (Nat → Int32)} {d : Nat} {Q : Option MV → MH → Prop} {a0 : Nat} {a1 : Nat} {h : MH} (A1 : LandA h.2 a1) (A0 : LandA h.2 a0)  (k : Wb rod d B_Land_become 63 [some (.inr (.inr (.inl (some a0)))), some (.inr (.inr (.inl (some a1))))] [] (sC h (a1 + 1) (a0 + 1) (0 : Int32).toNatClampNeg (0 : Int32).toNatClampNeg (8 : Int32).toNatClampNeg) Q) : Wb rod d B_Land_become 48 [some (.inr (.inr (.inl (some a0)))), some (.inr (.inr (.inl (some a1))))] [] h Q := by
  refine Wb.go (fun r hr q => b_Land_become_48 (A1.o) (A0.o) (cp_ok (N1 := 8) (N2 := 8) (N := 8) (A1.k6) (A0.k6) (by decide) (A1.n6) (A0.n6) ⟨by decide, by decide⟩ (by decide) (by decide)) ?_) k
  (first | exact q | (simp only [Option.getD_some, A1.r6, A0.r6]; exact q))
theorem w_Land_become_63 {rod : Nat → Nat × (Nat → Int32)} {d : Nat} {Q : Option MV → MH → Prop} {a0 : Nat} {a1 : Nat} {h : MH} (A1 : LandA h.2 a1) (A0 : LandA h.2 a0)  (k : Wb rod d B_Land_become 78 [some (.inr (.inr (.inl (some a0)))), some (.inr (.inr (.inl (some a1))))] [] (sC h (a1 + 2) (a0 + 2) (0 : Int32).toNatClampNeg (0 : Int32).toNatClampNeg (8 : Int32).toNatClampNeg) Q) : Wb rod d B_Land_become 63 [some (.inr (.inr (.inl (some a0)))), some (.inr (.inr (.inl (some a1))))] [] h Q := by
  refine Wb.go (fun r hr q => b_Land_become_63 (A1.o) (A0.o) (cp_ok (N1 := 8) (N2 := 8) (N := 8) (A1.k7) (A0.k7) (by decide) (A1.n7) (A0.n7) ⟨by decide, by decide⟩ (by decide) (by decide)) ?_) k
  (first | exact q | (simp only [Option.getD_some, A1.r7, A0.r7]; exact q))
theorem w_Land_become_78 {rod : Nat → Nat × (Nat → Int32)} {d : Nat} {Q : Option MV → MH → Prop} {a0 : Nat} {a1 : Nat} {h : MH} (A1 : LandA h.2 a1) (A0 : LandA h.2 a0)  (k : Wb rod d B_Land_become 93 [some (.inr (.inr (.inl (some a0)))), some (.inr (.inr (.inl (some a1))))] [] (sC h (a1 + 3) (a0 + 3) (0 : Int32).toNatClampNeg (0 : Int32).toNatClampNeg (8 : Int32).toNatClampNeg) Q) : Wb rod d B_Land_become 78 [some (.inr (.inr (.inl (some a0)))), some (.inr (.inr (.inl (some a1))))] [] h Q := by
  refine Wb.go (fun r hr q => b_Land_become_78 (A1.o) (A0.o) (cp_ok (N1 := 8) (N2 := 8) (N := 8) (A1.k8) (A0.k8) (by decide) (A1.n8) (A0.n8) ⟨by decide, by decide⟩ (by decide) (by decide)) ?_) k
  (first | exact q | (simp only [Option.getD_some, A1.r8, A0.r8]; exact q))
theorem w_Land_become_93 {rod : Nat → Nat × (Nat → Int32)} {d : Nat} {Q : Option MV → MH → Prop} {a0 : Nat} {a1 : Nat} {h : MH} (A1 : LandA h.2 a1) (A0 : LandA h.2 a0)  (k : Wb rod d B_Land_become 108 [some (.inr (.inr (.inl (some a0)))), some (.inr (.inr (.inl (some a1))))] [] (sC h (a1 + 4) (a0 + 4) (0 : Int32).toNatClampNeg (0 : Int32).toNatClampNeg (8 : Int32).toNatClampNeg) Q) : Wb rod d B_Land_become 93 [some (.inr (.inr (.inl (some a0)))), some (.inr (.inr (.inl (some a1))))] [] h Q := by
  refine Wb.go (fun r hr q => b_Land_become_93 (A1.o) (A0.o) (cp_ok (N1 := 8) (N2 := 8) (N := 8) (A1.k9) (A0.k9) (by decide) (A1.n9) (A0.n9) ⟨by decide, by decide⟩ (by decide) (by decide)) ?_) k
  (first | exact q | (simp only [Option.getD_some, A1.r9, A0.r9]; exact q))
theorem w_Land_become_108 {rod : Nat → Nat × (Nat → Int32)} {d : Nat} {Q : Option MV → MH → Prop} {a0 : Nat} {a1 : Nat} {h : MH} (A1 : LandA h.2 a1) (A0 : LandA h.2 a0)  (k : Wb rod d B_Land_become 123 [some (.inr (.inr (.inl (some a0)))), some (.inr (.inr (.inl (some a1))))] [] (sC h (a1 + 5) (a0 + 5) (0 : Int32).toNatClampNeg (0 : Int32).toNatClampNeg (8 : Int32).toNatClampNeg) Q) : Wb rod d B_Land_become 108 [some (.inr (.inr (.inl (some a0)))), some (.inr (.inr (.inl (some a1))))] [] h Q := by
  refine Wb.go (fun r hr q => b_Land_become_108 (A1.o) (A0.o) (cp_ok (N1 := 8) (N2 := 8) (N := 8) (A1.k10) (A0.k10) (by decide) (A1.n10) (A0.n10) ⟨by decide, by decide⟩ (by decide) (by decide)) ?_) k
  (first | exact q | (simp only [Option.getD_some, A1.r10, A0.r10]; exact q))
theorem w_Land_become_123 {rod : Nat → Nat × (Nat → Int32)} {d : Nat} {Q : Option MV → MH → Prop} {a0 : Nat} {a1 : Nat} {h : MH} (A1 : LandA h.2 a1) (A0 : LandA h.2 a0)  (k : Wb rod d B_Land_become 137 [some (.inr (.inr (.inl (some a0)))), some (.inr (.inr (.inl (some a1))))] [] (sC h (a1 + 6) (a0 + 6) (0 : Int32).toNatClampNeg (0 : Int32).toNatClampNeg (4 : Int32).toNatClampNeg) Q) : Wb rod d B_Land_become 123 [some (.inr (.inr (.inl (some a0)))), some (.inr (.inr (.inl (some a1))))] [] h Q := by
  refine Wb.go (fun r hr q => b_Land_become_123 (A1.o) (A0.o) (cp_ok (N1 := 4) (N2 := 4) (N := 4) (A1.k11) (A0.k11) (by decide) (A1.n11) (A0.n11) ⟨by decide, by decide⟩ (by decide) (by decide)) ?_) k
  (first | exact q | (simp only [Option.getD_some, A1.r11, A0.r11]; exact q))
theorem w_Land_become_137 {rod : Nat → Nat × (Nat → Int32)} {d : Nat} {Q : Option MV → MH → Prop} {a0 : Nat} {a1 : Nat} {h : MH} (A1 : LandA h.2 a1) (A0 : LandA h.2 a0)  (k : Wb rod d B_Land_become 151 [some (.inr (.inr (.inl (some a0)))), some (.inr (.inr (.inl (some a1))))] [] (sC h (a1 + 7) (a0 + 7) (0 : Int32).toNatClampNeg (0 : Int32).toNatClampNeg (4 : Int32).toNatClampNeg) Q) : Wb rod d B_Land_become 137 [some (.inr (.inr (.inl (some a0)))), some (.inr (.inr (.inl (some a1))))] [] h Q := by
  refine Wb.go (fun r hr q => b_Land_become_137 (A1.o) (A0.o) (cp_ok (N1 := 4) (N2 := 4) (N := 4) (A1.k12) (A0.k12) (by decide) (A1.n12) (A0.n12) ⟨by decide, by decide⟩ (by decide) (by decide)) ?_) k
  (first | exact q | (simp only [Option.getD_some, A1.r12, A0.r12]; exact q))
theorem w_Land_become_151 {rod : Nat → Nat × (Nat → Int32)} {d : Nat} {Q : Option MV → MH → Prop} {a0 : Nat} {a1 : Nat} {h : MH} (A1 : LandA h.2 a1) (A0 : LandA h.2 a0)  (k : Wb rod d B_Land_become 166 [some (.inr (.inr (.inl (some a0)))), some (.inr (.inr (.inl (some a1))))] [] (sC h (a1 + 8) (a0 + 8) (0 : Int32).toNatClampNeg (0 : Int32).toNatClampNeg (36 : Int32).toNatClampNeg) Q) : Wb rod d B_Land_become 151 [some (.inr (.inr (.inl (some a0)))), some (.inr (.inr (.inl (some a1))))] [] h Q := by
  refine Wb.go (fun r hr q => b_Land_become_151 (A1.o) (A0.o) (cp_ok (N1 := 36) (N2 := 36) (N := 36) (A1.k13) (A0.k13) (by decide) (A1.n13) (A0.n13) ⟨by decide, by decide⟩ (by decide) (by decide)) ?_) k
  (first | exact q | (simp only [Option.getD_some, A1.r13, A0.r13]; exact q))
theorem w_Land_become_166 {rod : Nat → Nat × (Nat → Int32)} {d : Nat} {Q : Option MV → MH → Prop} {u0 : Option MV} {u1 : Option MV} {h : MH}   (q : Q (none) h) : Wb rod d B_Land_become 166 [u0, u1] [] h Q := by
  refine Wb.ret (b_Land_become_166) ?_
  (first | exact q | (simp only [Option.getD_some]; exact q))
theorem n_Season_become {rod : Nat → Nat × (Nat → Int32)} {d : Nat} {Q : Option MV → MH → Prop} {a0 : Nat} {a1 : Nat} {h : MH} (k : Wb rod d B_Season_become 0 [some (.inr (.inr (.inl (some a0)))), some (.inr (.inr (.inl (some a1))))] [] h Q) : Wc rod (d + 1) 56 [.inr (.inr (.inl (some a0))), .inr (.inr (.inl (some a1)))] h Q := Wc.en (fun _ _ => e_Season_become) k
theorem w_Season_become_0 {rod : Nat → Nat × (Nat → Int32)} {d : Nat} {Q : Option MV → MH → Prop} {a0 : Nat} {a1 : Nat} {h : MH} (A1 : SeasonA h.2 a1) (A0 : SeasonA h.2 a0)  (k : Wb rod d B_Season_become 8 [some (.inr (.inr (.inl (some a0)))), some (.inr (.inr (.inl (some a1))))] [] (sI h a0 0 (h.1 a1 0)) Q) : Wb rod d B_Season_become 0 [some (.inr (.inr (.inl (some a0)))), some (.inr (.inr (.inl (some a1))))] [] h Q := by
  refine Wb.go (fun r hr q => b_Season_become_0 (A1.o) (A0.o) ?_) k
  (first | exact q | (simp only [Option.getD_some]; exact q))
theorem w_Season_become_8 {rod : Nat → Nat × (Nat → Int32)} {d : Nat} {Q : Option MV → MH → Prop} {a0 : Nat} {a1 : Nat} {h : MH} (A1 : SeasonA h.2 a1) (A0 : SeasonA h.2 a0)  (k : Wb rod d B_Season_become 23 [some (.inr (.inr (.inl (some a0)))), some (.inr (.inr (.inl (some a1))))] [] (sC h (a1 + 1) (a0 + 1) (0 : Int32).toNatClampNeg (0 : Int32).toNatClampNeg (40 : Int32).toNatClampNeg) Q) : Wb rod d B_Season_become 8 [some (.inr (.inr (.inl (some a0)))), some (.inr (.inr (.inl (some a1))))] [] h Q := by
  refine Wb.go (fun r hr q => b_Season_become_8 (A1.o) (A0.o) (cp_ok (N1 := 40) (N2 := 40) (N := 40) (A1.k1) (A0.k1) (by decide) (A1.n1) (A0.n1) ⟨by decide, by decide⟩ (by decide) (by decide)) ?_) k
  (first | exact q | (simp only [Option.getD_some, A1.r1, A0.r1]; exact q))
theorem w_Season_become_23 {rod : Nat → Nat × (Nat → Int32)} {d : Nat} {Q : Option MV → MH → Prop} {a0 : Nat} {a1 : Nat} {h : MH} (A1 : SeasonA h.2 a1) (A0 : SeasonA h.2 a0)  (k : Wb rod d B_Season_become 38 [some (.inr (.inr (.inl (some a0)))), some (.inr (.inr (.inl (some a1))))] [] (sC h (a1 + 2) (a0 + 2) (0 : Int32).toNatClampNeg (0 : Int32).toNatClampNeg (40 : Int32).toNatClampNeg) Q) : Wb rod d B_Season_become 23 [some (.inr (.inr (.inl (some a0)))), some (.inr (.inr (.inl (some a1))))] [] h Q := by
  refine Wb.go (fun r hr q => b_Season_become_23 (A1.o) (A0.o) (cp_ok (N1 := 40) (N2 := 40) (N := 40) (A1.k2) (A0.k2) (by decide) (A1.n2) (A0.n2) ⟨by decide, by decide⟩ (by decide) (by decide)) ?_) k
  (first | exact q | (simp only [Option.getD_some, A1.r2, A0.r2]; exact q))
theorem w_Season_become_38 {rod : Nat → Nat × (Nat → Int32)} {d : Nat} {Q : Option MV → MH → Prop} {a0 : Nat} {a1 : Nat} {h : MH} (A1 : SeasonA h.2 a1) (A0 : SeasonA h.2 a0)  (k : Wb rod d B_Season_become 53 [some (.inr (.inr (.inl (some a0)))), some (.inr (.inr (.inl (some a1))))] [] (sC h (a1 + 3) (a0 + 3) (0 : Int32).toNatClampNeg (0 : Int32).toNatClampNeg (40 : Int32).toNatClampNeg) Q) : Wb rod d B_Season_become 38 [some (.inr (.inr (.inl (some a0)))), some (.inr (.inr (.inl (some a1))))] [] h Q := by
  refine Wb.go (fun r hr q => b_Season_become_38 (A1.o) (A0.o) (cp_ok (N1 := 40) (N2 := 40) (N := 40) (A1.k3) (A0.k3) (by decide) (A1.n3) (A0.n3) ⟨by decide, by decide⟩ (by decide) (by decide)) ?_) k
  (first | exact q | (simp only [Option.getD_some, A1.r3, A0.r3]; exact q))
theorem w_Season_become_53 {rod : Nat → Nat × (Nat → Int32)} {d : Nat} {Q : Option MV → MH → Prop} {u0 : Option MV} {u1 : Option MV} {h : MH}   (q : Q (none) h) : Wb rod d B_Season_become 53 [u0, u1] [] h Q := by
  refine Wb.ret (b_Season_become_53) ?_
  (first | exact q | (simp only [Option.getD_some]; exact q))
theorem n_Ledger_become {rod : Nat → Nat × (Nat → Int32)} {d : Nat} {Q : Option MV → MH → Prop} {a0 : Nat} {a1 : Nat} {h : MH} (k : Wb rod d B_Ledger_become 0 [some (.inr (.inr (.inl (some a0)))), some (.inr (.inr (.inl (some a1))))] [] h Q) : Wc rod (d + 1) 57 [.inr (.inr (.inl (some a0))), .inr (.inr (.inl (some a1)))] h Q := Wc.en (fun _ _ => e_Ledger_become) k
theorem w_Ledger_become_0 {rod : Nat → Nat × (Nat → Int32)} {d : Nat} {Q : Option MV → MH → Prop} {a0 : Nat} {a1 : Nat} {h : MH} (A1 : LedgerA h.2 a1) (A0 : LedgerA h.2 a0)  (k : Wb rod d B_Ledger_become 8 [some (.inr (.inr (.inl (some a0)))), some (.inr (.inr (.inl (some a1))))] [] (sI h a0 0 (h.1 a1 0)) Q) : Wb rod d B_Ledger_become 0 [some (.inr (.inr (.inl (some a0)))), some (.inr (.inr (.inl (some a1))))] [] h Q := by
  refine Wb.go (fun r hr q => b_Ledger_become_0 (A1.o) (A0.o) ?_) k
  (first | exact q | (simp only [Option.getD_some]; exact q))
theorem w_Ledger_become_8 {rod : Nat → Nat × (Nat → Int32)} {d : Nat} {Q : Option MV → MH → Prop} {a0 : Nat} {a1 : Nat} {h : MH} (A1 : LedgerA h.2 a1) (A0 : LedgerA h.2 a0)  (k : Wb rod d B_Ledger_become 23 [some (.inr (.inr (.inl (some a0)))), some (.inr (.inr (.inl (some a1))))] [] (sC h (a1 + 1) (a0 + 1) (0 : Int32).toNatClampNeg (0 : Int32).toNatClampNeg (20 : Int32).toNatClampNeg) Q) : Wb rod d B_Ledger_become 8 [some (.inr (.inr (.inl (some a0)))), some (.inr (.inr (.inl (some a1))))] [] h Q := by
  refine Wb.go (fun r hr q => b_Ledger_become_8 (A1.o) (A0.o) (cp_ok (N1 := 20) (N2 := 20) (N := 20) (A1.k1) (A0.k1) (by decide) (A1.n1) (A0.n1) ⟨by decide, by decide⟩ (by decide) (by decide)) ?_) k
  (first | exact q | (simp only [Option.getD_some, A1.r1, A0.r1]; exact q))
theorem w_Ledger_become_23 {rod : Nat → Nat × (Nat → Int32)} {d : Nat} {Q : Option MV → MH → Prop} {a0 : Nat} {a1 : Nat} {h : MH} (A1 : LedgerA h.2 a1) (A0 : LedgerA h.2 a0)  (k : Wb rod d B_Ledger_become 38 [some (.inr (.inr (.inl (some a0)))), some (.inr (.inr (.inl (some a1))))] [] (sC h (a1 + 2) (a0 + 2) (0 : Int32).toNatClampNeg (0 : Int32).toNatClampNeg (20 : Int32).toNatClampNeg) Q) : Wb rod d B_Ledger_become 23 [some (.inr (.inr (.inl (some a0)))), some (.inr (.inr (.inl (some a1))))] [] h Q := by
  refine Wb.go (fun r hr q => b_Ledger_become_23 (A1.o) (A0.o) (cp_ok (N1 := 20) (N2 := 20) (N := 20) (A1.k2) (A0.k2) (by decide) (A1.n2) (A0.n2) ⟨by decide, by decide⟩ (by decide) (by decide)) ?_) k
  (first | exact q | (simp only [Option.getD_some, A1.r2, A0.r2]; exact q))
theorem w_Ledger_become_38 {rod : Nat → Nat × (Nat → Int32)} {d : Nat} {Q : Option MV → MH → Prop} {u0 : Option MV} {u1 : Option MV} {h : MH}   (q : Q (none) h) : Wb rod d B_Ledger_become 38 [u0, u1] [] h Q := by
  refine Wb.ret (b_Ledger_become_38) ?_
  (first | exact q | (simp only [Option.getD_some]; exact q))
theorem n_Bargain_become {rod : Nat → Nat × (Nat → Int32)} {d : Nat} {Q : Option MV → MH → Prop} {a0 : Nat} {a1 : Nat} {h : MH} (k : Wb rod d B_Bargain_become 0 [some (.inr (.inr (.inl (some a0)))), some (.inr (.inr (.inl (some a1))))] [] h Q) : Wc rod (d + 1) 58 [.inr (.inr (.inl (some a0))), .inr (.inr (.inl (some a1)))] h Q := Wc.en (fun _ _ => e_Bargain_become) k
theorem w_Bargain_become_0 {rod : Nat → Nat × (Nat → Int32)} {d : Nat} {Q : Option MV → MH → Prop} {a0 : Nat} {a1 : Nat} {h : MH} (A1 : BargA h.2 a1) (A0 : BargA h.2 a0)  (k : Wb rod d B_Bargain_become 8 [some (.inr (.inr (.inl (some a0)))), some (.inr (.inr (.inl (some a1))))] [] (sI h a0 0 (h.1 a1 0)) Q) : Wb rod d B_Bargain_become 0 [some (.inr (.inr (.inl (some a0)))), some (.inr (.inr (.inl (some a1))))] [] h Q := by
  refine Wb.go (fun r hr q => b_Bargain_become_0 (A1.o) (A0.o) ?_) k
  (first | exact q | (simp only [Option.getD_some]; exact q))
theorem w_Bargain_become_8 {rod : Nat → Nat × (Nat → Int32)} {d : Nat} {Q : Option MV → MH → Prop} {a0 : Nat} {a1 : Nat} {h : MH} (A1 : BargA h.2 a1) (A0 : BargA h.2 a0)  (k : Wb rod d B_Bargain_become 23 [some (.inr (.inr (.inl (some a0)))), some (.inr (.inr (.inl (some a1))))] [] (sC h (a1 + 1) (a0 + 1) (0 : Int32).toNatClampNeg (0 : Int32).toNatClampNeg (16 : Int32).toNatClampNeg) Q) : Wb rod d B_Bargain_become 8 [some (.inr (.inr (.inl (some a0)))), some (.inr (.inr (.inl (some a1))))] [] h Q := by
  refine Wb.go (fun r hr q => b_Bargain_become_8 (A1.o) (A0.o) (cp_ok (N1 := 16) (N2 := 16) (N := 16) (A1.k1) (A0.k1) (by decide) (A1.n1) (A0.n1) ⟨by decide, by decide⟩ (by decide) (by decide)) ?_) k
  (first | exact q | (simp only [Option.getD_some, A1.r1, A0.r1]; exact q))
theorem w_Bargain_become_23 {rod : Nat → Nat × (Nat → Int32)} {d : Nat} {Q : Option MV → MH → Prop} {u0 : Option MV} {u1 : Option MV} {h : MH}   (q : Q (none) h) : Wb rod d B_Bargain_become 23 [u0, u1] [] h Q := by
  refine Wb.ret (b_Bargain_become_23) ?_
  (first | exact q | (simp only [Option.getD_some]; exact q))
theorem n_Main_fault {rod : Nat → Nat × (Nat → Int32)} {d : Nat} {Q : Option MV → MH → Prop} {x1 : Int32} {h : MH} (k : Wb rod d B_Main_fault 0 [some (.inr (.inr (.inl (some 0)))), some (.inl x1)] [] h Q) : Wc rod (d + 1) 59 [.inr (.inr (.inl (some 0))), .inl x1] h Q := Wc.en (fun _ _ => e_Main_fault) k
theorem w_Main_fault_0 {rod : Nat → Nat × (Nat → Int32)} {d : Nat} {Q : Option MV → MH → Prop} {u0 : Option MV} {x1 : Int32} {h : MH}   (k0 : x1.toInt = 0 → Wb rod d B_Main_fault 28 [u0, some (.inl x1)] [] h Q) (k1 : x1.toInt = 1 → Wb rod d B_Main_fault 36 [u0, some (.inl x1)] [] h Q) (kd : x1.toInt ≠ 0 → x1.toInt ≠ 1 → Wb rod d B_Main_fault 44 [u0, some (.inl x1)] [] h Q) : Wb rod d B_Main_fault 0 [u0, some (.inl x1)] [] h Q := by
  have key : Wb rod d B_Main_fault (lookT [(0, 27), (1, 35)] x1 1 44) [u0, some (.inl x1)] [] h Q := by
    by_cases e0 : x1 = Int32.ofInt 0
    · rw [show lookT [(0, 27), (1, 35)] x1 1 44 = 28 from by rw [e0]; rfl]
      exact k0 (by rw [e0]; rfl)
    by_cases e1 : x1 = Int32.ofInt 1
    · rw [show lookT [(0, 27), (1, 35)] x1 1 44 = 36 from by rw [e1]; rfl]
      exact k1 (by rw [e1]; rfl)
    rw [show lookT [(0, 27), (1, 35)] x1 1 44 = 44 from (if_neg e0).trans ((if_neg e1).trans (rfl))]
    exact kd (fun q => e0 (Int32.toInt_inj.mp q)) (fun q => e1 (Int32.toInt_inj.mp q))
  refine Wb.go (fun r hr q => b_Main_fault_0 ?_) key
  (first | exact q | (simp only [Option.getD_some]; exact q))
theorem w_Main_fault_28 {rod : Nat → Nat × (Nat → Int32)} {d : Nat} {Q : Option MV → MH → Prop} {u1 : Option MV} {h : MH} (L : Lay h.2)  (q : Q (some (.inl (h.1 1 2))) h) : Wb rod d B_Main_fault 28 [some (.inr (.inr (.inl (some 0)))), u1] [] h Q := by
  refine Wb.ret (b_Main_fault_28 (Lay.o0 L) (Lay.k0_0 L)) ?_
  (first | exact q | (simp only [Option.getD_some, (Lay.r0_0 L)]; exact q))
theorem w_Main_fault_36 {rod : Nat → Nat × (Nat → Int32)} {d : Nat} {Q : Option MV → MH → Prop} {u1 : Option MV} {h : MH} (L : Lay h.2)  (q : Q (some (.inl (h.1 1 3))) h) : Wb rod d B_Main_fault 36 [some (.inr (.inr (.inl (some 0)))), u1] [] h Q := by
  refine Wb.ret (b_Main_fault_36 (Lay.o0 L) (Lay.k0_0 L)) ?_
  (first | exact q | (simp only [Option.getD_some, (Lay.r0_0 L)]; exact q))
theorem w_Main_fault_44 {rod : Nat → Nat × (Nat → Int32)} {d : Nat} {Q : Option MV → MH → Prop} {u0 : Option MV} {u1 : Option MV} {h : MH}   (q : Q (some (.inl (-1 : Int32))) h) : Wb rod d B_Main_fault 44 [u0, u1] [] h Q := by
  refine Wb.ret (b_Main_fault_44) ?_
  (first | exact q | (simp only [Option.getD_some]; exact q))
theorem n_Main_land {rod : Nat → Nat × (Nat → Int32)} {d : Nat} {Q : Option MV → MH → Prop} {x1 : Int32} {x2 : Int32} {h : MH} (k : Wb rod d B_Main_land 0 [some (.inr (.inr (.inl (some 0)))), some (.inl x1), some (.inl x2), none] [] h Q) : Wc rod (d + 1) 60 [.inr (.inr (.inl (some 0))), .inl x1, .inl x2] h Q := Wc.en (fun _ _ => e_Main_land) k
theorem w_Main_land_0 {rod : Nat → Nat × (Nat → Int32)} {d : Nat} {Q : Option MV → MH → Prop} {x1 : Int32} {u2 : Option MV} {u3 : Option MV} {h : MH} (L : Lay h.2)  {Q1 : Option MV → MH → Prop} (c : Wc rod d 61 [.inr (.inr (.inl (some 1))), .inl x1] h Q1) (k : ∀ r1 h2, Q1 r1 h2 → Wb rod d B_Main_land 8 [some (.inr (.inr (.inl (some 0)))), some (.inl x1), u2, u3] (r1.toList ++ []) h2 Q) : Wb rod d B_Main_land 0 [some (.inr (.inr (.inl (some 0)))), some (.inl x1), u2, u3] [] h Q := by
  refine Wb.call (fun _ _ _ _ => b_Main_land_0 (Lay.o0 L) (Lay.k0_0 L)) (Q1 := Q1) ?_ ?_
  · (first | exact c | (simp only [Option.getD_some, (Lay.r0_0 L)]; exact c))
  · (first | exact k | (simp only [Option.getD_some, (Lay.r0_0 L)]; exact k))
theorem w_Main_land_8 {rod : Nat → Nat × (Nat → Int32)} {d : Nat} {Q : Option MV → MH → Prop} {u0 : Option MV} {u1 : Option MV} {u2 : Option MV} {u3 : Option MV} {os0 : Option Nat} {h : MH}  (g0 : okl [u0, u1, u2, u3] 3 = true) (k1 : os0 = none → Wb rod d B_Main_land 13 [u0, u1, u2, some (.inr (.inr (.inl os0)))] [] h Q) (k2 : ∀ v, os0 = some v → Wb rod d B_Main_land 17 [u0, u1, u2, some (.inr (.inr (.inl os0)))] [] h Q) : Wb rod d B_Main_land 8 [u0, u1, u2, u3] [.inr (.inr (.inl os0))] h Q := by
  cases os0 with
  | none =>
    refine Wb.br (fun _ _ => b_Main_land_8 g0) (fun c => ?_) (fun c => ?_)
    · simp at c
    · exact k1 rfl
  | some v =>
    refine Wb.br (fun _ _ => b_Main_land_8 g0) (fun c => ?_) (fun c => ?_)
    · exact k2 v rfl
    · simp at c
theorem w_Main_land_13 {rod : Nat → Nat × (Nat → Int32)} {d : Nat} {Q : Option MV → MH → Prop} {u0 : Option MV} {u1 : Option MV} {u2 : Option MV} {u3 : Option MV} {h : MH}   (k : Wb rod d B_Main_land 22 [u0, u1, u2, u3] [.inl (-1 : Int32)] h Q) : Wb rod d B_Main_land 13 [u0, u1, u2, u3] [] h Q := by
  refine Wb.go (fun r hr q => b_Main_land_13 ?_) k
  (first | exact q | (simp only [Option.getD_some]; exact q))
theorem w_Main_land_17 {rod : Nat → Nat × (Nat → Int32)} {d : Nat} {Q : Option MV → MH → Prop} {u0 : Option MV} {u1 : Option MV} {x2 : Int32} {a3 : Nat} {h : MH} (A3 : LandA h.2 a3)  {Q1 : Option MV → MH → Prop} (c : Wc rod d 63 [.inr (.inr (.inl (some a3))), .inl x2] h Q1) (k : ∀ r1 h2, Q1 r1 h2 → Wb rod d B_Main_land 22 [u0, u1, some (.inl x2), some (.inr (.inr (.inl (some a3))))] (r1.toList ++ []) h2 Q) : Wb rod d B_Main_land 17 [u0, u1, some (.inl x2), some (.inr (.inr (.inl (some a3))))] [] h Q := by
  refine Wb.call (fun _ _ _ _ => b_Main_land_17 (A3.o)) (Q1 := Q1) ?_ ?_
  · (first | exact c | (simp only [Option.getD_some]; exact c))
  · (first | exact k | (simp only [Option.getD_some]; exact k))
theorem w_Main_land_22 {rod : Nat → Nat × (Nat → Int32)} {d : Nat} {Q : Option MV → MH → Prop} {u0 : Option MV} {u1 : Option MV} {u2 : Option MV} {u3 : Option MV} {xs0 : Int32} {h : MH}   (q : Q (some (.inl xs0)) h) : Wb rod d B_Main_land 22 [u0, u1, u2, u3] [.inl xs0] h Q := by
  refine Wb.ret (b_Main_land_22) ?_
  (first | exact q | (simp only [Option.getD_some]; exact q))
theorem n_Land_toldOf {rod : Nat → Nat × (Nat → Int32)} {d : Nat} {Q : Option MV → MH → Prop} {a0 : Nat} {x1 : Int32} {h : MH} (k : Wb rod d B_Land_toldOf 0 [some (.inr (.inr (.inl (some a0)))), some (.inl x1)] [] h Q) : Wc rod (d + 1) 63 [.inr (.inr (.inl (some a0))), .inl x1] h Q := Wc.en (fun _ _ => e_Land_toldOf) k
theorem w_Land_toldOf_0 {rod : Nat → Nat × (Nat → Int32)} {d : Nat} {Q : Option MV → MH → Prop} {u0 : Option MV} {x1 : Int32} {h : MH}   (k1 : x1.toInt < 100 → Wb rod d B_Land_toldOf 15 [u0, some (.inl x1)] [] h Q) (k2 : ¬ x1.toInt < 100 → Wb rod d B_Land_toldOf 6 [u0, some (.inl x1)] [] h Q) : Wb rod d B_Land_toldOf 0 [u0, some (.inl x1)] [] h Q := by
  refine Wb.br (fun _ _ => b_Land_toldOf_0) (fun c => ?_) (fun c => ?_)
  · have c : (decide (x1 < (100 : Int32))) = true := by first | exact c | (simp only [Option.getD_some] at c; exact c)
    (first | exact (k1 (c_ltt c)) | (simp only [Option.getD_some]; exact (k1 (c_ltt c))))
  · have c : (decide (x1 < (100 : Int32))) = false := by first | exact c | (simp only [Option.getD_some] at c; exact c)
    (first | exact (k2 (c_ltf c)) | (simp only [Option.getD_some]; exact (k2 (c_ltf c))))
theorem w_Land_toldOf_6 {rod : Nat → Nat × (Nat → Int32)} {d : Nat} {Q : Option MV → MH → Prop} {a0 : Nat} {x1 : Int32} {h : MH} (A0 : LandA h.2 a0)  {Q1 : Option MV → MH → Prop} (c : Wc rod d 64 [.inr (.inr (.inl (some a0))), .inl (x1 - (100 : Int32))] h Q1) (k : ∀ r1 h2, Q1 r1 h2 → Wb rod d B_Land_toldOf 14 [some (.inr (.inr (.inl (some a0)))), some (.inl x1)] (r1.toList ++ []) h2 Q) : Wb rod d B_Land_toldOf 6 [some (.inr (.inr (.inl (some a0)))), some (.inl x1)] [] h Q := by
  refine Wb.call (fun _ _ _ _ => b_Land_toldOf_6 (A0.o)) (Q1 := Q1) ?_ ?_
  · (first | exact c | (simp only [Option.getD_some]; exact c))
  · (first | exact k | (simp only [Option.getD_some]; exact k))
theorem w_Land_toldOf_14 {rod : Nat → Nat × (Nat → Int32)} {d : Nat} {Q : Option MV → MH → Prop} {u0 : Option MV} {u1 : Option MV} {xs0 : Int32} {h : MH}   (q : Q (some (.inl xs0)) h) : Wb rod d B_Land_toldOf 14 [u0, u1] [.inl xs0] h Q := by
  refine Wb.ret (b_Land_toldOf_14) ?_
  (first | exact q | (simp only [Option.getD_some]; exact q))
theorem w_Land_toldOf_15 {rod : Nat → Nat × (Nat → Int32)} {d : Nat} {Q : Option MV → MH → Prop} {u0 : Option MV} {x1 : Int32} {h : MH}   (k1 : x1.toInt < 60 → Wb rod d B_Land_toldOf 34 [u0, some (.inl x1)] [] h Q) (k2 : ¬ x1.toInt < 60 → Wb rod d B_Land_toldOf 21 [u0, some (.inl x1)] [] h Q) : Wb rod d B_Land_toldOf 15 [u0, some (.inl x1)] [] h Q := by
  refine Wb.br (fun _ _ => b_Land_toldOf_15) (fun c => ?_) (fun c => ?_)
  · have c : (decide (x1 < (60 : Int32))) = true := by first | exact c | (simp only [Option.getD_some] at c; exact c)
    (first | exact (k1 (c_ltt c)) | (simp only [Option.getD_some]; exact (k1 (c_ltt c))))
  · have c : (decide (x1 < (60 : Int32))) = false := by first | exact c | (simp only [Option.getD_some] at c; exact c)
    (first | exact (k2 (c_ltf c)) | (simp only [Option.getD_some]; exact (k2 (c_ltf c))))
theorem w_Land_toldOf_21 {rod : Nat → Nat × (Nat → Int32)} {d : Nat} {Q : Option MV → MH → Prop} {a0 : Nat} {x1 : Int32} {h : MH} (A0 : LandA h.2 a0)  {Q1 : Option MV → MH → Prop} (c : Wc rod d 67 [.inr (.inr (.inl (some a0))), .inl (x1 / (10 : Int32)), .inl (x1 - x1 / (10 : Int32) * (10 : Int32))] h Q1) (k : ∀ r1 h2, Q1 r1 h2 → Wb rod d B_Land_toldOf 33 [some (.inr (.inr (.inl (some a0)))), some (.inl x1)] (r1.toList ++ []) h2 Q) : Wb rod d B_Land_toldOf 21 [some (.inr (.inr (.inl (some a0)))), some (.inl x1)] [] h Q := by
  refine Wb.call (fun _ _ _ _ => b_Land_toldOf_21 (by decide) (A0.o)) (Q1 := Q1) ?_ ?_
  · (first | exact c | (simp only [Option.getD_some]; exact c))
  · (first | exact k | (simp only [Option.getD_some]; exact k))
theorem w_Land_toldOf_33 {rod : Nat → Nat × (Nat → Int32)} {d : Nat} {Q : Option MV → MH → Prop} {u0 : Option MV} {u1 : Option MV} {xs0 : Int32} {h : MH}   (q : Q (some (.inl xs0)) h) : Wb rod d B_Land_toldOf 33 [u0, u1] [.inl xs0] h Q := by
  refine Wb.ret (b_Land_toldOf_33) ?_
  (first | exact q | (simp only [Option.getD_some]; exact q))
theorem w_Land_toldOf_34 {rod : Nat → Nat × (Nat → Int32)} {d : Nat} {Q : Option MV → MH → Prop} {u0 : Option MV} {x1 : Int32} {h : MH}   (k1 : x1.toInt < 10 → Wb rod d B_Land_toldOf 53 [u0, some (.inl x1)] [] h Q) (k2 : ¬ x1.toInt < 10 → Wb rod d B_Land_toldOf 40 [u0, some (.inl x1)] [] h Q) : Wb rod d B_Land_toldOf 34 [u0, some (.inl x1)] [] h Q := by
  refine Wb.br (fun _ _ => b_Land_toldOf_34) (fun c => ?_) (fun c => ?_)
  · have c : (decide (x1 < (10 : Int32))) = true := by first | exact c | (simp only [Option.getD_some] at c; exact c)
    (first | exact (k1 (c_ltt c)) | (simp only [Option.getD_some]; exact (k1 (c_ltt c))))
  · have c : (decide (x1 < (10 : Int32))) = false := by first | exact c | (simp only [Option.getD_some] at c; exact c)
    (first | exact (k2 (c_ltf c)) | (simp only [Option.getD_some]; exact (k2 (c_ltf c))))
theorem w_Land_toldOf_40 {rod : Nat → Nat × (Nat → Int32)} {d : Nat} {Q : Option MV → MH → Prop} {a0 : Nat} {x1 : Int32} {h : MH} (A0 : LandA h.2 a0)  {Q1 : Option MV → MH → Prop} (c : Wc rod d 69 [.inr (.inr (.inl (some a0))), .inl (x1 / (10 : Int32)), .inl (x1 - x1 / (10 : Int32) * (10 : Int32))] h Q1) (k : ∀ r1 h2, Q1 r1 h2 → Wb rod d B_Land_toldOf 52 [some (.inr (.inr (.inl (some a0)))), some (.inl x1)] (r1.toList ++ []) h2 Q) : Wb rod d B_Land_toldOf 40 [some (.inr (.inr (.inl (some a0)))), some (.inl x1)] [] h Q := by
  refine Wb.call (fun _ _ _ _ => b_Land_toldOf_40 (by decide) (A0.o)) (Q1 := Q1) ?_ ?_
  · (first | exact c | (simp only [Option.getD_some]; exact c))
  · (first | exact k | (simp only [Option.getD_some]; exact k))
theorem w_Land_toldOf_52 {rod : Nat → Nat × (Nat → Int32)} {d : Nat} {Q : Option MV → MH → Prop} {u0 : Option MV} {u1 : Option MV} {xs0 : Int32} {h : MH}   (q : Q (some (.inl xs0)) h) : Wb rod d B_Land_toldOf 52 [u0, u1] [.inl xs0] h Q := by
  refine Wb.ret (b_Land_toldOf_52) ?_
  (first | exact q | (simp only [Option.getD_some]; exact q))
theorem w_Land_toldOf_53 {rod : Nat → Nat × (Nat → Int32)} {d : Nat} {Q : Option MV → MH → Prop} {u0 : Option MV} {x1 : Int32} {h : MH}   (k0 : x1.toInt = 0 → Wb rod d B_Land_toldOf 92 [u0, some (.inl x1)] [] h Q) (k1 : x1.toInt = 1 → Wb rod d B_Land_toldOf 97 [u0, some (.inl x1)] [] h Q) (k2 : x1.toInt = 2 → Wb rod d B_Land_toldOf 102 [u0, some (.inl x1)] [] h Q) (k3 : x1.toInt = 3 → Wb rod d B_Land_toldOf 107 [u0, some (.inl x1)] [] h Q) (k4 : x1.toInt = 4 → Wb rod d B_Land_toldOf 112 [u0, some (.inl x1)] [] h Q) (k5 : x1.toInt = 5 → Wb rod d B_Land_toldOf 117 [u0, some (.inl x1)] [] h Q) (kd : x1.toInt ≠ 0 → x1.toInt ≠ 1 → x1.toInt ≠ 2 → x1.toInt ≠ 3 → x1.toInt ≠ 4 → x1.toInt ≠ 5 → Wb rod d B_Land_toldOf 122 [u0, some (.inl x1)] [] h Q) : Wb rod d B_Land_toldOf 53 [u0, some (.inl x1)] [] h Q := by
  have key : Wb rod d B_Land_toldOf (tabT [38, 43, 48, 53, 58, 63] 0 x1 54 122) [u0, some (.inl x1)] [] h Q := by
    by_cases e0 : x1 = Int32.ofInt 0
    · rw [show tabT [38, 43, 48, 53, 58, 63] 0 x1 54 122 = 92 from by rw [e0]; rfl]
      exact k0 (by rw [e0]; rfl)
    by_cases e1 : x1 = Int32.ofInt 1
    · rw [show tabT [38, 43, 48, 53, 58, 63] 0 x1 54 122 = 97 from by rw [e1]; rfl]
      exact k1 (by rw [e1]; rfl)
    by_cases e2 : x1 = Int32.ofInt 2
    · rw [show tabT [38, 43, 48, 53, 58, 63] 0 x1 54 122 = 102 from by rw [e2]; rfl]
      exact k2 (by rw [e2]; rfl)
    by_cases e3 : x1 = Int32.ofInt 3
    · rw [show tabT [38, 43, 48, 53, 58, 63] 0 x1 54 122 = 107 from by rw [e3]; rfl]
      exact k3 (by rw [e3]; rfl)
    by_cases e4 : x1 = Int32.ofInt 4
    · rw [show tabT [38, 43, 48, 53, 58, 63] 0 x1 54 122 = 112 from by rw [e4]; rfl]
      exact k4 (by rw [e4]; rfl)
    by_cases e5 : x1 = Int32.ofInt 5
    · rw [show tabT [38, 43, 48, 53, 58, 63] 0 x1 54 122 = 117 from by rw [e5]; rfl]
      exact k5 (by rw [e5]; rfl)
    rw [show tabT [38, 43, 48, 53, 58, 63] 0 x1 54 122 = 122 from (if_neg e0).trans ((if_neg e1).trans ((if_neg e2).trans ((if_neg e3).trans ((if_neg e4).trans ((if_neg e5).trans (rfl))))))]
    exact kd (fun q => e0 (Int32.toInt_inj.mp q)) (fun q => e1 (Int32.toInt_inj.mp q)) (fun q => e2 (Int32.toInt_inj.mp q)) (fun q => e3 (Int32.toInt_inj.mp q)) (fun q => e4 (Int32.toInt_inj.mp q)) (fun q => e5 (Int32.toInt_inj.mp q))
  refine Wb.go (fun r hr q => b_Land_toldOf_53 ?_) key
  (first | exact q | (simp only [Option.getD_some]; exact q))
theorem w_Land_toldOf_92 {rod : Nat → Nat × (Nat → Int32)} {d : Nat} {Q : Option MV → MH → Prop} {a0 : Nat} {u1 : Option MV} {h : MH} (A0 : LandA h.2 a0)  (q : Q (some (.inl (h.1 a0 0))) h) : Wb rod d B_Land_toldOf 92 [some (.inr (.inr (.inl (some a0)))), u1] [] h Q := by
  refine Wb.ret (b_Land_toldOf_92 (A0.o)) ?_
  (first | exact q | (simp only [Option.getD_some]; exact q))
theorem w_Land_toldOf_97 {rod : Nat → Nat × (Nat → Int32)} {d : Nat} {Q : Option MV → MH → Prop} {a0 : Nat} {u1 : Option MV} {h : MH} (A0 : LandA h.2 a0)  (q : Q (some (.inl (h.1 a0 4))) h) : Wb rod d B_Land_toldOf 97 [some (.inr (.inr (.inl (some a0)))), u1] [] h Q := by
  refine Wb.ret (b_Land_toldOf_97 (A0.o)) ?_
  (first | exact q | (simp only [Option.getD_some]; exact q))
theorem w_Land_toldOf_102 {rod : Nat → Nat × (Nat → Int32)} {d : Nat} {Q : Option MV → MH → Prop} {a0 : Nat} {u1 : Option MV} {h : MH} (A0 : LandA h.2 a0)  (q : Q (some (.inl (h.1 a0 5))) h) : Wb rod d B_Land_toldOf 102 [some (.inr (.inr (.inl (some a0)))), u1] [] h Q := by
  refine Wb.ret (b_Land_toldOf_102 (A0.o)) ?_
  (first | exact q | (simp only [Option.getD_some]; exact q))
theorem w_Land_toldOf_107 {rod : Nat → Nat × (Nat → Int32)} {d : Nat} {Q : Option MV → MH → Prop} {a0 : Nat} {u1 : Option MV} {h : MH} (A0 : LandA h.2 a0)  (q : Q (some (.inl (h.1 a0 1))) h) : Wb rod d B_Land_toldOf 107 [some (.inr (.inr (.inl (some a0)))), u1] [] h Q := by
  refine Wb.ret (b_Land_toldOf_107 (A0.o)) ?_
  (first | exact q | (simp only [Option.getD_some]; exact q))
theorem w_Land_toldOf_112 {rod : Nat → Nat × (Nat → Int32)} {d : Nat} {Q : Option MV → MH → Prop} {a0 : Nat} {u1 : Option MV} {h : MH} (A0 : LandA h.2 a0)  (q : Q (some (.inl (h.1 a0 2))) h) : Wb rod d B_Land_toldOf 112 [some (.inr (.inr (.inl (some a0)))), u1] [] h Q := by
  refine Wb.ret (b_Land_toldOf_112 (A0.o)) ?_
  (first | exact q | (simp only [Option.getD_some]; exact q))
theorem w_Land_toldOf_117 {rod : Nat → Nat × (Nat → Int32)} {d : Nat} {Q : Option MV → MH → Prop} {a0 : Nat} {u1 : Option MV} {h : MH} (A0 : LandA h.2 a0)  (q : Q (some (.inl (h.1 a0 3))) h) : Wb rod d B_Land_toldOf 117 [some (.inr (.inr (.inl (some a0)))), u1] [] h Q := by
  refine Wb.ret (b_Land_toldOf_117 (A0.o)) ?_
  (first | exact q | (simp only [Option.getD_some]; exact q))
theorem w_Land_toldOf_122 {rod : Nat → Nat × (Nat → Int32)} {d : Nat} {Q : Option MV → MH → Prop} {u0 : Option MV} {u1 : Option MV} {h : MH}   (q : Q (some (.inl (-1 : Int32))) h) : Wb rod d B_Land_toldOf 122 [u0, u1] [] h Q := by
  refine Wb.ret (b_Land_toldOf_122) ?_
  (first | exact q | (simp only [Option.getD_some]; exact q))
theorem n_Land_toldOfRoad {rod : Nat → Nat × (Nat → Int32)} {d : Nat} {Q : Option MV → MH → Prop} {a0 : Nat} {x1 : Int32} {h : MH} (k : Wb rod d B_Land_toldOfRoad 0 [some (.inr (.inr (.inl (some a0)))), some (.inl x1), none, none] [] h Q) : Wc rod (d + 1) 64 [.inr (.inr (.inl (some a0))), .inl x1] h Q := Wc.en (fun _ _ => e_Land_toldOfRoad) k
theorem w_Land_toldOfRoad_0 {rod : Nat → Nat × (Nat → Int32)} {d : Nat} {Q : Option MV → MH → Prop} {a0 : Nat} {x1 : Int32} {u2 : Option MV} {u3 : Option MV} {h : MH} (A0 : LandA h.2 a0)  {Q1 : Option MV → MH → Prop} (c : Wc rod d 65 [.inr (.inr (.inl (some a0))), .inl (x1 / (6 : Int32))] h Q1) (k : ∀ r1 h2, Q1 r1 h2 → Wb rod d B_Land_toldOfRoad 15 [some (.inr (.inr (.inl (some a0)))), some (.inl x1), some (.inl (x1 / (6 : Int32))), some (.inl (x1 - x1 / (6 : Int32) * (6 : Int32)))] (r1.toList ++ []) h2 Q) : Wb rod d B_Land_toldOfRoad 0 [some (.inr (.inr (.inl (some a0)))), some (.inl x1), u2, u3] [] h Q := by
  refine Wb.call (fun _ _ _ _ => b_Land_toldOfRoad_0 (by decide) (A0.o)) (Q1 := Q1) ?_ ?_
  · (first | exact c | (simp only [Option.getD_some]; exact c))
  · (first | exact k | (simp only [Option.getD_some]; exact k))
theorem w_Land_toldOfRoad_15 {rod : Nat → Nat × (Nat → Int32)} {d : Nat} {Q : Option MV → MH → Prop} {u0 : Option MV} {u1 : Option MV} {u2 : Option MV} {u3 : Option MV} {xs0 : Int32} {h : MH}   (k1 : xs0.toInt = 0 → Wb rod d B_Land_toldOfRoad 35 [u0, u1, u2, u3] [] h Q) (k2 : ¬ xs0.toInt = 0 → Wb rod d B_Land_toldOfRoad 18 [u0, u1, u2, u3] [] h Q) : Wb rod d B_Land_toldOfRoad 15 [u0, u1, u2, u3] [.inl xs0] h Q := by
  refine Wb.br (fun _ _ => b_Land_toldOfRoad_15) (fun c => ?_) (fun c => ?_)
  · have c : (decide (xs0 = 0)) = true := by first | exact c | (simp only [Option.getD_some] at c; exact c)
    (first | exact (k1 (c_eqt c)) | (simp only [Option.getD_some]; exact (k1 (c_eqt c))))
  · have c : (decide (xs0 = 0)) = false := by first | exact c | (simp only [Option.getD_some] at c; exact c)
    (first | exact (k2 (c_eqf c)) | (simp only [Option.getD_some]; exact (k2 (c_eqf c))))
theorem w_Land_toldOfRoad_18 {rod : Nat → Nat × (Nat → Int32)} {d : Nat} {Q : Option MV → MH → Prop} {a0 : Nat} {u1 : Option MV} {u2 : Option MV} {x3 : Int32} {h : MH} (A0 : LandA h.2 a0)  {Q1 : Option MV → MH → Prop} (c : Wc rod d 65 [.inr (.inr (.inl (some a0))), .inl x3] h Q1) (k : ∀ r1 h2, Q1 r1 h2 → Wb rod d B_Land_toldOfRoad 23 [some (.inr (.inr (.inl (some a0)))), u1, u2, some (.inl x3)] (r1.toList ++ []) h2 Q) : Wb rod d B_Land_toldOfRoad 18 [some (.inr (.inr (.inl (some a0)))), u1, u2, some (.inl x3)] [] h Q := by
  refine Wb.call (fun _ _ _ _ => b_Land_toldOfRoad_18 (A0.o)) (Q1 := Q1) ?_ ?_
  · (first | exact c | (simp only [Option.getD_some]; exact c))
  · (first | exact k | (simp only [Option.getD_some]; exact k))
theorem w_Land_toldOfRoad_23 {rod : Nat → Nat × (Nat → Int32)} {d : Nat} {Q : Option MV → MH → Prop} {u0 : Option MV} {u1 : Option MV} {u2 : Option MV} {u3 : Option MV} {xs0 : Int32} {h : MH}   (k1 : xs0.toInt = 0 → Wb rod d B_Land_toldOfRoad 35 [u0, u1, u2, u3] [] h Q) (k2 : ¬ xs0.toInt = 0 → Wb rod d B_Land_toldOfRoad 26 [u0, u1, u2, u3] [] h Q) : Wb rod d B_Land_toldOfRoad 23 [u0, u1, u2, u3] [.inl xs0] h Q := by
  refine Wb.br (fun _ _ => b_Land_toldOfRoad_23) (fun c => ?_) (fun c => ?_)
  · have c : (decide (xs0 = 0)) = true := by first | exact c | (simp only [Option.getD_some] at c; exact c)
    (first | exact (k1 (c_eqt c)) | (simp only [Option.getD_some]; exact (k1 (c_eqt c))))
  · have c : (decide (xs0 = 0)) = false := by first | exact c | (simp only [Option.getD_some] at c; exact c)
    (first | exact (k2 (c_eqf c)) | (simp only [Option.getD_some]; exact (k2 (c_eqf c))))
theorem w_Land_toldOfRoad_26 {rod : Nat → Nat × (Nat → Int32)} {d : Nat} {Q : Option MV → MH → Prop} {a0 : Nat} {u1 : Option MV} {x2 : Int32} {x3 : Int32} {h : MH} (A0 : LandA h.2 a0)  {Q1 : Option MV → MH → Prop} (c : Wc rod d 66 [.inr (.inr (.inl (some a0))), .inl x2, .inl x3] h Q1) (k : ∀ r1 h2, Q1 r1 h2 → Wb rod d B_Land_toldOfRoad 32 [some (.inr (.inr (.inl (some a0)))), u1, some (.inl x2), some (.inl x3)] (r1.toList ++ []) h2 Q) : Wb rod d B_Land_toldOfRoad 26 [some (.inr (.inr (.inl (some a0)))), u1, some (.inl x2), some (.inl x3)] [] h Q := by
  refine Wb.call (fun _ _ _ _ => b_Land_toldOfRoad_26 (A0.o)) (Q1 := Q1) ?_ ?_
  · (first | exact c | (simp only [Option.getD_some]; exact c))
  · (first | exact k | (simp only [Option.getD_some]; exact k))
theorem w_Land_toldOfRoad_32 {rod : Nat → Nat × (Nat → Int32)} {d : Nat} {Q : Option MV → MH → Prop} {u0 : Option MV} {u1 : Option MV} {u2 : Option MV} {u3 : Option MV} {xs0 : Int32} {h : MH}   (k : Wb rod d B_Land_toldOfRoad 36 [u0, u1, u2, u3] [.inl xs0] h Q) : Wb rod d B_Land_toldOfRoad 32 [u0, u1, u2, u3] [.inl xs0] h Q := by
  refine Wb.go (fun r hr q => b_Land_toldOfRoad_32 ?_) k
  (first | exact q | (simp only [Option.getD_some]; exact q))
theorem w_Land_toldOfRoad_35 {rod : Nat → Nat × (Nat → Int32)} {d : Nat} {Q : Option MV → MH → Prop} {u0 : Option MV} {u1 : Option MV} {u2 : Option MV} {u3 : Option MV} {h : MH}   (k : Wb rod d B_Land_toldOfRoad 36 [u0, u1, u2, u3] [.inl (-1 : Int32)] h Q) : Wb rod d B_Land_toldOfRoad 35 [u0, u1, u2, u3] [] h Q := by
  refine Wb.go (fun r hr q => b_Land_toldOfRoad_35 ?_) k
  (first | exact q | (simp only [Option.getD_some]; exact q))
theorem w_Land_toldOfRoad_36 {rod : Nat → Nat × (Nat → Int32)} {d : Nat} {Q : Option MV → MH → Prop} {u0 : Option MV} {u1 : Option MV} {u2 : Option MV} {u3 : Option MV} {xs0 : Int32} {h : MH}   (q : Q (some (.inl xs0)) h) : Wb rod d B_Land_toldOfRoad 36 [u0, u1, u2, u3] [.inl xs0] h Q := by
  refine Wb.ret (b_Land_toldOfRoad_36) ?_
  (first | exact q | (simp only [Option.getD_some]; exact q))
theorem n_Land_hasTown {rod : Nat → Nat × (Nat → Int32)} {d : Nat} {Q : Option MV → MH → Prop} {a0 : Nat} {x1 : Int32} {h : MH} (k : Wb rod d B_Land_hasTown 0 [some (.inr (.inr (.inl (some a0)))), some (.inl x1)] [] h Q) : Wc rod (d + 1) 65 [.inr (.inr (.inl (some a0))), .inl x1] h Q := Wc.en (fun _ _ => e_Land_hasTown) k
theorem w_Land_hasTown_0 {rod : Nat → Nat × (Nat → Int32)} {d : Nat} {Q : Option MV → MH → Prop} {u0 : Option MV} {x1 : Int32} {h : MH}   (k1 : x1.toInt < 0 → Wb rod d B_Land_hasTown 16 [u0, some (.inl x1)] [] h Q) (k2 : ¬ x1.toInt < 0 → Wb rod d B_Land_hasTown 4 [u0, some (.inl x1)] [] h Q) : Wb rod d B_Land_hasTown 0 [u0, some (.inl x1)] [] h Q := by
  refine Wb.br (fun _ _ => b_Land_hasTown_0) (fun c => ?_) (fun c => ?_)
  · have c : (decide (x1 < 0)) = true := by first | exact c | (simp only [Option.getD_some] at c; exact c)
    (first | exact (k1 (c_ltt c)) | (simp only [Option.getD_some]; exact (k1 (c_ltt c))))
  · have c : (decide (x1 < 0)) = false := by first | exact c | (simp only [Option.getD_some] at c; exact c)
    (first | exact (k2 (c_ltf c)) | (simp only [Option.getD_some]; exact (k2 (c_ltf c))))
theorem w_Land_hasTown_4 {rod : Nat → Nat × (Nat → Int32)} {d : Nat} {Q : Option MV → MH → Prop} {a0 : Nat} {x1 : Int32} {h : MH} (A0 : LandA h.2 a0)  (k1 : (h.1 a0 0).toInt ≤ x1.toInt → Wb rod d B_Land_hasTown 16 [some (.inr (.inr (.inl (some a0)))), some (.inl x1)] [] h Q) (k2 : ¬ (h.1 a0 0).toInt ≤ x1.toInt → Wb rod d B_Land_hasTown 12 [some (.inr (.inr (.inl (some a0)))), some (.inl x1)] [] h Q) : Wb rod d B_Land_hasTown 4 [some (.inr (.inr (.inl (some a0)))), some (.inl x1)] [] h Q := by
  refine Wb.br (fun _ _ => b_Land_hasTown_4 (A0.o)) (fun c => ?_) (fun c => ?_)
  · have c : (decide ((h.1 a0 0) ≤ x1)) = true := by first | exact c | (simp only [Option.getD_some] at c; exact c)
    (first | exact (k1 (c_let c)) | (simp only [Option.getD_some]; exact (k1 (c_let c))))
  · have c : (decide ((h.1 a0 0) ≤ x1)) = false := by first | exact c | (simp only [Option.getD_some] at c; exact c)
    (first | exact (k2 (c_lef c)) | (simp only [Option.getD_some]; exact (k2 (c_lef c))))
theorem w_Land_hasTown_12 {rod : Nat → Nat × (Nat → Int32)} {d : Nat} {Q : Option MV → MH → Prop} {u0 : Option MV} {u1 : Option MV} {h : MH}   (k : Wb rod d B_Land_hasTown 17 [u0, u1] [.inl (1 : Int32)] h Q) : Wb rod d B_Land_hasTown 12 [u0, u1] [] h Q := by
  refine Wb.go (fun r hr q => b_Land_hasTown_12 ?_) k
  (first | exact q | (simp only [Option.getD_some]; exact q))
theorem w_Land_hasTown_16 {rod : Nat → Nat × (Nat → Int32)} {d : Nat} {Q : Option MV → MH → Prop} {u0 : Option MV} {u1 : Option MV} {h : MH}   (k : Wb rod d B_Land_hasTown 17 [u0, u1] [.inl (0 : Int32)] h Q) : Wb rod d B_Land_hasTown 16 [u0, u1] [] h Q := by
  refine Wb.go (fun r hr q => b_Land_hasTown_16 ?_) k
  (first | exact q | (simp only [Option.getD_some]; exact q))
theorem w_Land_hasTown_17 {rod : Nat → Nat × (Nat → Int32)} {d : Nat} {Q : Option MV → MH → Prop} {u0 : Option MV} {u1 : Option MV} {xs0 : Int32} {h : MH}  (g0 : xs0 = 0 ∨ xs0 = 1) (q : Q (some (.inl xs0)) h) : Wb rod d B_Land_hasTown 17 [u0, u1] [.inl xs0] h Q := by
  refine Wb.ret (b_Land_hasTown_17 (d01 g0)) ?_
  (first | exact q | (simp only [Option.getD_some]; exact q))
theorem n_Land_roadBetween {rod : Nat → Nat × (Nat → Int32)} {d : Nat} {Q : Option MV → MH → Prop} {a0 : Nat} {x1 : Int32} {x2 : Int32} {h : MH} (k : Wb rod d B_Land_roadBetween 0 [some (.inr (.inr (.inl (some a0)))), some (.inl x1), some (.inl x2)] [] h Q) : Wc rod (d + 1) 66 [.inr (.inr (.inl (some a0))), .inl x1, .inl x2] h Q := Wc.en (fun _ _ => e_Land_roadBetween) k
theorem w_Land_roadBetween_0 {rod : Nat → Nat × (Nat → Int32)} {d : Nat} {Q : Option MV → MH → Prop} {a0 : Nat} {x1 : Int32} {u2 : Option MV} {h : MH} (A0 : LandA h.2 a0)  {Q1 : Option MV → MH → Prop} (c : Wc rod d 65 [.inr (.inr (.inl (some a0))), .inl x1] h Q1) (k : ∀ r1 h2, Q1 r1 h2 → Wb rod d B_Land_roadBetween 5 [some (.inr (.inr (.inl (some a0)))), some (.inl x1), u2] (r1.toList ++ []) h2 Q) : Wb rod d B_Land_roadBetween 0 [some (.inr (.inr (.inl (some a0)))), some (.inl x1), u2] [] h Q := by
  refine Wb.call (fun _ _ _ _ => b_Land_roadBetween_0 (A0.o)) (Q1 := Q1) ?_ ?_
  · (first | exact c | (simp only [Option.getD_some]; exact c))
  · (first | exact k | (simp only [Option.getD_some]; exact k))
theorem w_Land_roadBetween_5 {rod : Nat → Nat × (Nat → Int32)} {d : Nat} {Q : Option MV → MH → Prop} {u0 : Option MV} {u1 : Option MV} {u2 : Option MV} {xs0 : Int32} {h : MH}   (k1 : xs0.toInt = 0 → Wb rod d B_Land_roadBetween 30 [u0, u1, u2] [] h Q) (k2 : ¬ xs0.toInt = 0 → Wb rod d B_Land_roadBetween 8 [u0, u1, u2] [] h Q) : Wb rod d B_Land_roadBetween 5 [u0, u1, u2] [.inl xs0] h Q := by
  refine Wb.br (fun _ _ => b_Land_roadBetween_5) (fun c => ?_) (fun c => ?_)
  · have c : (decide (xs0 = 0)) = true := by first | exact c | (simp only [Option.getD_some] at c; exact c)
    (first | exact (k1 (c_eqt c)) | (simp only [Option.getD_some]; exact (k1 (c_eqt c))))
  · have c : (decide (xs0 = 0)) = false := by first | exact c | (simp only [Option.getD_some] at c; exact c)
    (first | exact (k2 (c_eqf c)) | (simp only [Option.getD_some]; exact (k2 (c_eqf c))))
theorem w_Land_roadBetween_8 {rod : Nat → Nat × (Nat → Int32)} {d : Nat} {Q : Option MV → MH → Prop} {a0 : Nat} {u1 : Option MV} {x2 : Int32} {h : MH} (A0 : LandA h.2 a0)  {Q1 : Option MV → MH → Prop} (c : Wc rod d 65 [.inr (.inr (.inl (some a0))), .inl x2] h Q1) (k : ∀ r1 h2, Q1 r1 h2 → Wb rod d B_Land_roadBetween 13 [some (.inr (.inr (.inl (some a0)))), u1, some (.inl x2)] (r1.toList ++ []) h2 Q) : Wb rod d B_Land_roadBetween 8 [some (.inr (.inr (.inl (some a0)))), u1, some (.inl x2)] [] h Q := by
  refine Wb.call (fun _ _ _ _ => b_Land_roadBetween_8 (A0.o)) (Q1 := Q1) ?_ ?_
  · (first | exact c | (simp only [Option.getD_some]; exact c))
  · (first | exact k | (simp only [Option.getD_some]; exact k))
theorem w_Land_roadBetween_13 {rod : Nat → Nat × (Nat → Int32)} {d : Nat} {Q : Option MV → MH → Prop} {u0 : Option MV} {u1 : Option MV} {u2 : Option MV} {xs0 : Int32} {h : MH}   (k1 : xs0.toInt = 0 → Wb rod d B_Land_roadBetween 30 [u0, u1, u2] [] h Q) (k2 : ¬ xs0.toInt = 0 → Wb rod d B_Land_roadBetween 16 [u0, u1, u2] [] h Q) : Wb rod d B_Land_roadBetween 13 [u0, u1, u2] [.inl xs0] h Q := by
  refine Wb.br (fun _ _ => b_Land_roadBetween_13) (fun c => ?_) (fun c => ?_)
  · have c : (decide (xs0 = 0)) = true := by first | exact c | (simp only [Option.getD_some] at c; exact c)
    (first | exact (k1 (c_eqt c)) | (simp only [Option.getD_some]; exact (k1 (c_eqt c))))
  · have c : (decide (xs0 = 0)) = false := by first | exact c | (simp only [Option.getD_some] at c; exact c)
    (first | exact (k2 (c_eqf c)) | (simp only [Option.getD_some]; exact (k2 (c_eqf c))))
theorem w_Land_roadBetween_16 {rod : Nat → Nat × (Nat → Int32)} {d : Nat} {Q : Option MV → MH → Prop} {a0 : Nat} {x1 : Int32} {x2 : Int32} {h : MH} (A0 : LandA h.2 a0) (g0 : 0 ≤ ((x1 * (6 : Int32)) + x2).toInt ∧ ((x1 * (6 : Int32)) + x2).toInt < 36) (k : Wb rod d B_Land_roadBetween 31 [some (.inr (.inr (.inl (some a0)))), some (.inl x1), some (.inl x2)] [.inl (h.1 (a0 + 8) ((x1 * (6 : Int32)) + x2).toNatClampNeg)] h Q) : Wb rod d B_Land_roadBetween 16 [some (.inr (.inr (.inl (some a0)))), some (.inl x1), some (.inl x2)] [] h Q := by
  refine Wb.go (fun r hr q => b_Land_roadBetween_16 (A0.o) (A0.a13 g0) ?_) k
  (first | exact q | (simp only [Option.getD_some, A0.r13]; exact q))
theorem w_Land_roadBetween_30 {rod : Nat → Nat × (Nat → Int32)} {d : Nat} {Q : Option MV → MH → Prop} {u0 : Option MV} {u1 : Option MV} {u2 : Option MV} {h : MH}   (k : Wb rod d B_Land_roadBetween 31 [u0, u1, u2] [.inl (0 : Int32)] h Q) : Wb rod d B_Land_roadBetween 30 [u0, u1, u2] [] h Q := by
  refine Wb.go (fun r hr q => b_Land_roadBetween_30 ?_) k
  (first | exact q | (simp only [Option.getD_some]; exact q))
theorem w_Land_roadBetween_31 {rod : Nat → Nat × (Nat → Int32)} {d : Nat} {Q : Option MV → MH → Prop} {u0 : Option MV} {u1 : Option MV} {u2 : Option MV} {xs0 : Int32} {h : MH}   (q : Q (some (.inl xs0)) h) : Wb rod d B_Land_roadBetween 31 [u0, u1, u2] [.inl xs0] h Q := by
  refine Wb.ret (b_Land_roadBetween_31) ?_
  (first | exact q | (simp only [Option.getD_some]; exact q))
theorem n_Land_toldOfLetter {rod : Nat → Nat × (Nat → Int32)} {d : Nat} {Q : Option MV → MH → Prop} {a0 : Nat} {x1 : Int32} {x2 : Int32} {h : MH} (k : Wb rod d B_Land_toldOfLetter 0 [some (.inr (.inr (.inl (some a0)))), some (.inl x1), some (.inl x2)] [] h Q) : Wc rod (d + 1) 67 [.inr (.inr (.inl (some a0))), .inl x1, .inl x2] h Q := Wc.en (fun _ _ => e_Land_toldOfLetter) k
theorem w_Land_toldOfLetter_0 {rod : Nat → Nat × (Nat → Int32)} {d : Nat} {Q : Option MV → MH → Prop} {a0 : Nat} {u1 : Option MV} {x2 : Int32} {h : MH} (A0 : LandA h.2 a0)  {Q1 : Option MV → MH → Prop} (c : Wc rod d 68 [.inr (.inr (.inl (some a0))), .inl x2] h Q1) (k : ∀ r1 h2, Q1 r1 h2 → Wb rod d B_Land_toldOfLetter 5 [some (.inr (.inr (.inl (some a0)))), u1, some (.inl x2)] (r1.toList ++ []) h2 Q) : Wb rod d B_Land_toldOfLetter 0 [some (.inr (.inr (.inl (some a0)))), u1, some (.inl x2)] [] h Q := by
  refine Wb.call (fun _ _ _ _ => b_Land_toldOfLetter_0 (A0.o)) (Q1 := Q1) ?_ ?_
  · (first | exact c | (simp only [Option.getD_some]; exact c))
  · (first | exact k | (simp only [Option.getD_some]; exact k))
theorem w_Land_toldOfLetter_5 {rod : Nat → Nat × (Nat → Int32)} {d : Nat} {Q : Option MV → MH → Prop} {u0 : Option MV} {u1 : Option MV} {u2 : Option MV} {xs0 : Int32} {h : MH}   (k1 : ¬ xs0.toInt = 0 → Wb rod d B_Land_toldOfLetter 10 [u0, u1, u2] [] h Q) (k2 : xs0.toInt = 0 → Wb rod d B_Land_toldOfLetter 8 [u0, u1, u2] [] h Q) : Wb rod d B_Land_toldOfLetter 5 [u0, u1, u2] [.inl xs0] h Q := by
  refine Wb.br (fun _ _ => b_Land_toldOfLetter_5) (fun c => ?_) (fun c => ?_)
  · have c : (!(decide (xs0 = 0))) = true := by first | exact c | (simp only [Option.getD_some] at c; exact c)
    (first | exact (k1 (c_net c)) | (simp only [Option.getD_some]; exact (k1 (c_net c))))
  · have c : (!(decide (xs0 = 0))) = false := by first | exact c | (simp only [Option.getD_some] at c; exact c)
    (first | exact (k2 (c_nef c)) | (simp only [Option.getD_some]; exact (k2 (c_nef c))))
theorem w_Land_toldOfLetter_8 {rod : Nat → Nat × (Nat → Int32)} {d : Nat} {Q : Option MV → MH → Prop} {u0 : Option MV} {u1 : Option MV} {u2 : Option MV} {h : MH}   (q : Q (some (.inl (-1 : Int32))) h) : Wb rod d B_Land_toldOfLetter 8 [u0, u1, u2] [] h Q := by
  refine Wb.ret (b_Land_toldOfLetter_8) ?_
  (first | exact q | (simp only [Option.getD_some]; exact q))
theorem w_Land_toldOfLetter_10 {rod : Nat → Nat × (Nat → Int32)} {d : Nat} {Q : Option MV → MH → Prop} {u0 : Option MV} {x1 : Int32} {u2 : Option MV} {h : MH}   (k0 : x1.toInt = 6 → Wb rod d B_Land_toldOfLetter 36 [u0, some (.inl x1), u2] [] h Q) (k1 : x1.toInt = 7 → Wb rod d B_Land_toldOfLetter 43 [u0, some (.inl x1), u2] [] h Q) (kd : x1.toInt ≠ 6 → x1.toInt ≠ 7 → Wb rod d B_Land_toldOfLetter 50 [u0, some (.inl x1), u2] [] h Q) : Wb rod d B_Land_toldOfLetter 10 [u0, some (.inl x1), u2] [] h Q := by
  have key : Wb rod d B_Land_toldOfLetter (lookT [(6, 25), (7, 32)] x1 11 50) [u0, some (.inl x1), u2] [] h Q := by
    by_cases e0 : x1 = Int32.ofInt 6
    · rw [show lookT [(6, 25), (7, 32)] x1 11 50 = 36 from by rw [e0]; rfl]
      exact k0 (by rw [e0]; rfl)
    by_cases e1 : x1 = Int32.ofInt 7
    · rw [show lookT [(6, 25), (7, 32)] x1 11 50 = 43 from by rw [e1]; rfl]
      exact k1 (by rw [e1]; rfl)
    rw [show lookT [(6, 25), (7, 32)] x1 11 50 = 50 from (if_neg e0).trans ((if_neg e1).trans (rfl))]
    exact kd (fun q => e0 (Int32.toInt_inj.mp q)) (fun q => e1 (Int32.toInt_inj.mp q))
  refine Wb.go (fun r hr q => b_Land_toldOfLetter_10 ?_) key
  (first | exact q | (simp only [Option.getD_some]; exact q))
theorem w_Land_toldOfLetter_36 {rod : Nat → Nat × (Nat → Int32)} {d : Nat} {Q : Option MV → MH → Prop} {a0 : Nat} {u1 : Option MV} {x2 : Int32} {h : MH} (A0 : LandA h.2 a0) (g0 : 0 ≤ x2.toInt ∧ x2.toInt < 4) (q : Q (some (.inl (h.1 (a0 + 6) x2.toNatClampNeg))) h) : Wb rod d B_Land_toldOfLetter 36 [some (.inr (.inr (.inl (some a0)))), u1, some (.inl x2)] [] h Q := by
  refine Wb.ret (b_Land_toldOfLetter_36 (A0.o) (A0.a11 g0)) ?_
  (first | exact q | (simp only [Option.getD_some, A0.r11]; exact q))
theorem w_Land_toldOfLetter_43 {rod : Nat → Nat × (Nat → Int32)} {d : Nat} {Q : Option MV → MH → Prop} {a0 : Nat} {u1 : Option MV} {x2 : Int32} {h : MH} (A0 : LandA h.2 a0) (g0 : 0 ≤ x2.toInt ∧ x2.toInt < 4) (q : Q (some (.inl (h.1 (a0 + 7) x2.toNatClampNeg))) h) : Wb rod d B_Land_toldOfLetter 43 [some (.inr (.inr (.inl (some a0)))), u1, some (.inl x2)] [] h Q := by
  refine Wb.ret (b_Land_toldOfLetter_43 (A0.o) (A0.a12 g0)) ?_
  (first | exact q | (simp only [Option.getD_some, A0.r12]; exact q))
theorem w_Land_toldOfLetter_50 {rod : Nat → Nat × (Nat → Int32)} {d : Nat} {Q : Option MV → MH → Prop} {u0 : Option MV} {u1 : Option MV} {u2 : Option MV} {h : MH}   (q : Q (some (.inl (-1 : Int32))) h) : Wb rod d B_Land_toldOfLetter 50 [u0, u1, u2] [] h Q := by
  refine Wb.ret (b_Land_toldOfLetter_50) ?_
  (first | exact q | (simp only [Option.getD_some]; exact q))
theorem n_Land_hasLetter {rod : Nat → Nat × (Nat → Int32)} {d : Nat} {Q : Option MV → MH → Prop} {a0 : Nat} {x1 : Int32} {h : MH} (k : Wb rod d B_Land_hasLetter 0 [some (.inr (.inr (.inl (some a0)))), some (.inl x1)] [] h Q) : Wc rod (d + 1) 68 [.inr (.inr (.inl (some a0))), .inl x1] h Q := Wc.en (fun _ _ => e_Land_hasLetter) k
theorem w_Land_hasLetter_0 {rod : Nat → Nat × (Nat → Int32)} {d : Nat} {Q : Option MV → MH → Prop} {u0 : Option MV} {x1 : Int32} {h : MH}   (k1 : x1.toInt < 0 → Wb rod d B_Land_hasLetter 16 [u0, some (.inl x1)] [] h Q) (k2 : ¬ x1.toInt < 0 → Wb rod d B_Land_hasLetter 4 [u0, some (.inl x1)] [] h Q) : Wb rod d B_Land_hasLetter 0 [u0, some (.inl x1)] [] h Q := by
  refine Wb.br (fun _ _ => b_Land_hasLetter_0) (fun c => ?_) (fun c => ?_)
  · have c : (decide (x1 < 0)) = true := by first | exact c | (simp only [Option.getD_some] at c; exact c)
    (first | exact (k1 (c_ltt c)) | (simp only [Option.getD_some]; exact (k1 (c_ltt c))))
  · have c : (decide (x1 < 0)) = false := by first | exact c | (simp only [Option.getD_some] at c; exact c)
    (first | exact (k2 (c_ltf c)) | (simp only [Option.getD_some]; exact (k2 (c_ltf c))))
theorem w_Land_hasLetter_4 {rod : Nat → Nat × (Nat → Int32)} {d : Nat} {Q : Option MV → MH → Prop} {a0 : Nat} {x1 : Int32} {h : MH} (A0 : LandA h.2 a0)  (k1 : (h.1 a0 5).toInt ≤ x1.toInt → Wb rod d B_Land_hasLetter 16 [some (.inr (.inr (.inl (some a0)))), some (.inl x1)] [] h Q) (k2 : ¬ (h.1 a0 5).toInt ≤ x1.toInt → Wb rod d B_Land_hasLetter 12 [some (.inr (.inr (.inl (some a0)))), some (.inl x1)] [] h Q) : Wb rod d B_Land_hasLetter 4 [some (.inr (.inr (.inl (some a0)))), some (.inl x1)] [] h Q := by
  refine Wb.br (fun _ _ => b_Land_hasLetter_4 (A0.o)) (fun c => ?_) (fun c => ?_)
  · have c : (decide ((h.1 a0 5) ≤ x1)) = true := by first | exact c | (simp only [Option.getD_some] at c; exact c)
    (first | exact (k1 (c_let c)) | (simp only [Option.getD_some]; exact (k1 (c_let c))))
  · have c : (decide ((h.1 a0 5) ≤ x1)) = false := by first | exact c | (simp only [Option.getD_some] at c; exact c)
    (first | exact (k2 (c_lef c)) | (simp only [Option.getD_some]; exact (k2 (c_lef c))))
theorem w_Land_hasLetter_12 {rod : Nat → Nat × (Nat → Int32)} {d : Nat} {Q : Option MV → MH → Prop} {u0 : Option MV} {u1 : Option MV} {h : MH}   (k : Wb rod d B_Land_hasLetter 17 [u0, u1] [.inl (1 : Int32)] h Q) : Wb rod d B_Land_hasLetter 12 [u0, u1] [] h Q := by
  refine Wb.go (fun r hr q => b_Land_hasLetter_12 ?_) k
  (first | exact q | (simp only [Option.getD_some]; exact q))
theorem w_Land_hasLetter_16 {rod : Nat → Nat × (Nat → Int32)} {d : Nat} {Q : Option MV → MH → Prop} {u0 : Option MV} {u1 : Option MV} {h : MH}   (k : Wb rod d B_Land_hasLetter 17 [u0, u1] [.inl (0 : Int32)] h Q) : Wb rod d B_Land_hasLetter 16 [u0, u1] [] h Q := by
  refine Wb.go (fun r hr q => b_Land_hasLetter_16 ?_) k
  (first | exact q | (simp only [Option.getD_some]; exact q))
theorem w_Land_hasLetter_17 {rod : Nat → Nat × (Nat → Int32)} {d : Nat} {Q : Option MV → MH → Prop} {u0 : Option MV} {u1 : Option MV} {xs0 : Int32} {h : MH}  (g0 : xs0 = 0 ∨ xs0 = 1) (q : Q (some (.inl xs0)) h) : Wb rod d B_Land_hasLetter 17 [u0, u1] [.inl xs0] h Q := by
  refine Wb.ret (b_Land_hasLetter_17 (d01 g0)) ?_
  (first | exact q | (simp only [Option.getD_some]; exact q))
theorem n_Land_toldOfBuyer {rod : Nat → Nat × (Nat → Int32)} {d : Nat} {Q : Option MV → MH → Prop} {a0 : Nat} {x1 : Int32} {x2 : Int32} {h : MH} (k : Wb rod d B_Land_toldOfBuyer 0 [some (.inr (.inr (.inl (some a0)))), some (.inl x1), some (.inl x2)] [] h Q) : Wc rod (d + 1) 69 [.inr (.inr (.inl (some a0))), .inl x1, .inl x2] h Q := Wc.en (fun _ _ => e_Land_toldOfBuyer) k
theorem w_Land_toldOfBuyer_0 {rod : Nat → Nat × (Nat → Int32)} {d : Nat} {Q : Option MV → MH → Prop} {a0 : Nat} {u1 : Option MV} {x2 : Int32} {h : MH} (A0 : LandA h.2 a0)  {Q1 : Option MV → MH → Prop} (c : Wc rod d 70 [.inr (.inr (.inl (some a0))), .inl x2] h Q1) (k : ∀ r1 h2, Q1 r1 h2 → Wb rod d B_Land_toldOfBuyer 5 [some (.inr (.inr (.inl (some a0)))), u1, some (.inl x2)] (r1.toList ++ []) h2 Q) : Wb rod d B_Land_toldOfBuyer 0 [some (.inr (.inr (.inl (some a0)))), u1, some (.inl x2)] [] h Q := by
  refine Wb.call (fun _ _ _ _ => b_Land_toldOfBuyer_0 (A0.o)) (Q1 := Q1) ?_ ?_
  · (first | exact c | (simp only [Option.getD_some]; exact c))
  · (first | exact k | (simp only [Option.getD_some]; exact k))
theorem w_Land_toldOfBuyer_5 {rod : Nat → Nat × (Nat → Int32)} {d : Nat} {Q : Option MV → MH → Prop} {u0 : Option MV} {u1 : Option MV} {u2 : Option MV} {xs0 : Int32} {h : MH}   (k1 : ¬ xs0.toInt = 0 → Wb rod d B_Land_toldOfBuyer 10 [u0, u1, u2] [] h Q) (k2 : xs0.toInt = 0 → Wb rod d B_Land_toldOfBuyer 8 [u0, u1, u2] [] h Q) : Wb rod d B_Land_toldOfBuyer 5 [u0, u1, u2] [.inl xs0] h Q := by
  refine Wb.br (fun _ _ => b_Land_toldOfBuyer_5) (fun c => ?_) (fun c => ?_)
  · have c : (!(decide (xs0 = 0))) = true := by first | exact c | (simp only [Option.getD_some] at c; exact c)
    (first | exact (k1 (c_net c)) | (simp only [Option.getD_some]; exact (k1 (c_net c))))
  · have c : (!(decide (xs0 = 0))) = false := by first | exact c | (simp only [Option.getD_some] at c; exact c)
    (first | exact (k2 (c_nef c)) | (simp only [Option.getD_some]; exact (k2 (c_nef c))))
theorem w_Land_toldOfBuyer_8 {rod : Nat → Nat × (Nat → Int32)} {d : Nat} {Q : Option MV → MH → Prop} {u0 : Option MV} {u1 : Option MV} {u2 : Option MV} {h : MH}   (q : Q (some (.inl (-1 : Int32))) h) : Wb rod d B_Land_toldOfBuyer 8 [u0, u1, u2] [] h Q := by
  refine Wb.ret (b_Land_toldOfBuyer_8) ?_
  (first | exact q | (simp only [Option.getD_some]; exact q))
theorem w_Land_toldOfBuyer_10 {rod : Nat → Nat × (Nat → Int32)} {d : Nat} {Q : Option MV → MH → Prop} {u0 : Option MV} {x1 : Int32} {u2 : Option MV} {h : MH}   (k0 : x1.toInt = 1 → Wb rod d B_Land_toldOfBuyer 44 [u0, some (.inl x1), u2] [] h Q) (k1 : x1.toInt = 2 → Wb rod d B_Land_toldOfBuyer 51 [u0, some (.inl x1), u2] [] h Q) (k2 : x1.toInt = 3 → Wb rod d B_Land_toldOfBuyer 58 [u0, some (.inl x1), u2] [] h Q) (k3 : x1.toInt = 4 → Wb rod d B_Land_toldOfBuyer 65 [u0, some (.inl x1), u2] [] h Q) (k4 : x1.toInt = 5 → Wb rod d B_Land_toldOfBuyer 72 [u0, some (.inl x1), u2] [] h Q) (kd : x1.toInt ≠ 1 → x1.toInt ≠ 2 → x1.toInt ≠ 3 → x1.toInt ≠ 4 → x1.toInt ≠ 5 → Wb rod d B_Land_toldOfBuyer 79 [u0, some (.inl x1), u2] [] h Q) : Wb rod d B_Land_toldOfBuyer 10 [u0, some (.inl x1), u2] [] h Q := by
  have key : Wb rod d B_Land_toldOfBuyer (tabT [33, 40, 47, 54, 61] 1 x1 11 79) [u0, some (.inl x1), u2] [] h Q := by
    by_cases e0 : x1 = Int32.ofInt 1
    · rw [show tabT [33, 40, 47, 54, 61] 1 x1 11 79 = 44 from by rw [e0]; rfl]
      exact k0 (by rw [e0]; rfl)
    by_cases e1 : x1 = Int32.ofInt 2
    · rw [show tabT [33, 40, 47, 54, 61] 1 x1 11 79 = 51 from by rw [e1]; rfl]
      exact k1 (by rw [e1]; rfl)
    by_cases e2 : x1 = Int32.ofInt 3
    · rw [show tabT [33, 40, 47, 54, 61] 1 x1 11 79 = 58 from by rw [e2]; rfl]
      exact k2 (by rw [e2]; rfl)
    by_cases e3 : x1 = Int32.ofInt 4
    · rw [show tabT [33, 40, 47, 54, 61] 1 x1 11 79 = 65 from by rw [e3]; rfl]
      exact k3 (by rw [e3]; rfl)
    by_cases e4 : x1 = Int32.ofInt 5
    · rw [show tabT [33, 40, 47, 54, 61] 1 x1 11 79 = 72 from by rw [e4]; rfl]
      exact k4 (by rw [e4]; rfl)
    rw [show tabT [33, 40, 47, 54, 61] 1 x1 11 79 = 79 from (if_neg e0).trans ((if_neg e1).trans ((if_neg e2).trans ((if_neg e3).trans ((if_neg e4).trans (rfl)))))]
    exact kd (fun q => e0 (Int32.toInt_inj.mp q)) (fun q => e1 (Int32.toInt_inj.mp q)) (fun q => e2 (Int32.toInt_inj.mp q)) (fun q => e3 (Int32.toInt_inj.mp q)) (fun q => e4 (Int32.toInt_inj.mp q))
  refine Wb.go (fun r hr q => b_Land_toldOfBuyer_10 ?_) key
  (first | exact q | (simp only [Option.getD_some]; exact q))
theorem w_Land_toldOfBuyer_44 {rod : Nat → Nat × (Nat → Int32)} {d : Nat} {Q : Option MV → MH → Prop} {a0 : Nat} {u1 : Option MV} {x2 : Int32} {h : MH} (A0 : LandA h.2 a0) (g0 : 0 ≤ x2.toInt ∧ x2.toInt < 8) (q : Q (some (.inl (h.1 (a0 + 1) x2.toNatClampNeg))) h) : Wb rod d B_Land_toldOfBuyer 44 [some (.inr (.inr (.inl (some a0)))), u1, some (.inl x2)] [] h Q := by
  refine Wb.ret (b_Land_toldOfBuyer_44 (A0.o) (A0.a6 g0)) ?_
  (first | exact q | (simp only [Option.getD_some, A0.r6]; exact q))
theorem w_Land_toldOfBuyer_51 {rod : Nat → Nat × (Nat → Int32)} {d : Nat} {Q : Option MV → MH → Prop} {a0 : Nat} {u1 : Option MV} {x2 : Int32} {h : MH} (A0 : LandA h.2 a0) (g0 : 0 ≤ x2.toInt ∧ x2.toInt < 8) (q : Q (some (.inl (h.1 (a0 + 2) x2.toNatClampNeg))) h) : Wb rod d B_Land_toldOfBuyer 51 [some (.inr (.inr (.inl (some a0)))), u1, some (.inl x2)] [] h Q := by
  refine Wb.ret (b_Land_toldOfBuyer_51 (A0.o) (A0.a7 g0)) ?_
  (first | exact q | (simp only [Option.getD_some, A0.r7]; exact q))
theorem w_Land_toldOfBuyer_58 {rod : Nat → Nat × (Nat → Int32)} {d : Nat} {Q : Option MV → MH → Prop} {a0 : Nat} {u1 : Option MV} {x2 : Int32} {h : MH} (A0 : LandA h.2 a0) (g0 : 0 ≤ x2.toInt ∧ x2.toInt < 8) (q : Q (some (.inl (h.1 (a0 + 3) x2.toNatClampNeg))) h) : Wb rod d B_Land_toldOfBuyer 58 [some (.inr (.inr (.inl (some a0)))), u1, some (.inl x2)] [] h Q := by
  refine Wb.ret (b_Land_toldOfBuyer_58 (A0.o) (A0.a8 g0)) ?_
  (first | exact q | (simp only [Option.getD_some, A0.r8]; exact q))
theorem w_Land_toldOfBuyer_65 {rod : Nat → Nat × (Nat → Int32)} {d : Nat} {Q : Option MV → MH → Prop} {a0 : Nat} {u1 : Option MV} {x2 : Int32} {h : MH} (A0 : LandA h.2 a0) (g0 : 0 ≤ x2.toInt ∧ x2.toInt < 8) (q : Q (some (.inl (h.1 (a0 + 4) x2.toNatClampNeg))) h) : Wb rod d B_Land_toldOfBuyer 65 [some (.inr (.inr (.inl (some a0)))), u1, some (.inl x2)] [] h Q := by
  refine Wb.ret (b_Land_toldOfBuyer_65 (A0.o) (A0.a9 g0)) ?_
  (first | exact q | (simp only [Option.getD_some, A0.r9]; exact q))
theorem w_Land_toldOfBuyer_72 {rod : Nat → Nat × (Nat → Int32)} {d : Nat} {Q : Option MV → MH → Prop} {a0 : Nat} {u1 : Option MV} {x2 : Int32} {h : MH} (A0 : LandA h.2 a0) (g0 : 0 ≤ x2.toInt ∧ x2.toInt < 8) (q : Q (some (.inl (h.1 (a0 + 5) x2.toNatClampNeg))) h) : Wb rod d B_Land_toldOfBuyer 72 [some (.inr (.inr (.inl (some a0)))), u1, some (.inl x2)] [] h Q := by
  refine Wb.ret (b_Land_toldOfBuyer_72 (A0.o) (A0.a10 g0)) ?_
  (first | exact q | (simp only [Option.getD_some, A0.r10]; exact q))
theorem w_Land_toldOfBuyer_79 {rod : Nat → Nat × (Nat → Int32)} {d : Nat} {Q : Option MV → MH → Prop} {u0 : Option MV} {u1 : Option MV} {u2 : Option MV} {h : MH}   (q : Q (some (.inl (-1 : Int32))) h) : Wb rod d B_Land_toldOfBuyer 79 [u0, u1, u2] [] h Q := by
  refine Wb.ret (b_Land_toldOfBuyer_79) ?_
  (first | exact q | (simp only [Option.getD_some]; exact q))
theorem n_Land_hasBuyer {rod : Nat → Nat × (Nat → Int32)} {d : Nat} {Q : Option MV → MH → Prop} {a0 : Nat} {x1 : Int32} {h : MH} (k : Wb rod d B_Land_hasBuyer 0 [some (.inr (.inr (.inl (some a0)))), some (.inl x1)] [] h Q) : Wc rod (d + 1) 70 [.inr (.inr (.inl (some a0))), .inl x1] h Q := Wc.en (fun _ _ => e_Land_hasBuyer) k
theorem w_Land_hasBuyer_0 {rod : Nat → Nat × (Nat → Int32)} {d : Nat} {Q : Option MV → MH → Prop} {u0 : Option MV} {x1 : Int32} {h : MH}   (k1 : x1.toInt < 0 → Wb rod d B_Land_hasBuyer 16 [u0, some (.inl x1)] [] h Q) (k2 : ¬ x1.toInt < 0 → Wb rod d B_Land_hasBuyer 4 [u0, some (.inl x1)] [] h Q) : Wb rod d B_Land_hasBuyer 0 [u0, some (.inl x1)] [] h Q := by
  refine Wb.br (fun _ _ => b_Land_hasBuyer_0) (fun c => ?_) (fun c => ?_)
  · have c : (decide (x1 < 0)) = true := by first | exact c | (simp only [Option.getD_some] at c; exact c)
    (first | exact (k1 (c_ltt c)) | (simp only [Option.getD_some]; exact (k1 (c_ltt c))))
  · have c : (decide (x1 < 0)) = false := by first | exact c | (simp only [Option.getD_some] at c; exact c)
    (first | exact (k2 (c_ltf c)) | (simp only [Option.getD_some]; exact (k2 (c_ltf c))))
theorem w_Land_hasBuyer_4 {rod : Nat → Nat × (Nat → Int32)} {d : Nat} {Q : Option MV → MH → Prop} {a0 : Nat} {x1 : Int32} {h : MH} (A0 : LandA h.2 a0)  (k1 : (h.1 a0 4).toInt ≤ x1.toInt → Wb rod d B_Land_hasBuyer 16 [some (.inr (.inr (.inl (some a0)))), some (.inl x1)] [] h Q) (k2 : ¬ (h.1 a0 4).toInt ≤ x1.toInt → Wb rod d B_Land_hasBuyer 12 [some (.inr (.inr (.inl (some a0)))), some (.inl x1)] [] h Q) : Wb rod d B_Land_hasBuyer 4 [some (.inr (.inr (.inl (some a0)))), some (.inl x1)] [] h Q := by
  refine Wb.br (fun _ _ => b_Land_hasBuyer_4 (A0.o)) (fun c => ?_) (fun c => ?_)
  · have c : (decide ((h.1 a0 4) ≤ x1)) = true := by first | exact c | (simp only [Option.getD_some] at c; exact c)
    (first | exact (k1 (c_let c)) | (simp only [Option.getD_some]; exact (k1 (c_let c))))
  · have c : (decide ((h.1 a0 4) ≤ x1)) = false := by first | exact c | (simp only [Option.getD_some] at c; exact c)
    (first | exact (k2 (c_lef c)) | (simp only [Option.getD_some]; exact (k2 (c_lef c))))
theorem w_Land_hasBuyer_12 {rod : Nat → Nat × (Nat → Int32)} {d : Nat} {Q : Option MV → MH → Prop} {u0 : Option MV} {u1 : Option MV} {h : MH}   (k : Wb rod d B_Land_hasBuyer 17 [u0, u1] [.inl (1 : Int32)] h Q) : Wb rod d B_Land_hasBuyer 12 [u0, u1] [] h Q := by
  refine Wb.go (fun r hr q => b_Land_hasBuyer_12 ?_) k
  (first | exact q | (simp only [Option.getD_some]; exact q))
theorem w_Land_hasBuyer_16 {rod : Nat → Nat × (Nat → Int32)} {d : Nat} {Q : Option MV → MH → Prop} {u0 : Option MV} {u1 : Option MV} {h : MH}   (k : Wb rod d B_Land_hasBuyer 17 [u0, u1] [.inl (0 : Int32)] h Q) : Wb rod d B_Land_hasBuyer 16 [u0, u1] [] h Q := by
  refine Wb.go (fun r hr q => b_Land_hasBuyer_16 ?_) k
  (first | exact q | (simp only [Option.getD_some]; exact q))
theorem w_Land_hasBuyer_17 {rod : Nat → Nat × (Nat → Int32)} {d : Nat} {Q : Option MV → MH → Prop} {u0 : Option MV} {u1 : Option MV} {xs0 : Int32} {h : MH}  (g0 : xs0 = 0 ∨ xs0 = 1) (q : Q (some (.inl xs0)) h) : Wb rod d B_Land_hasBuyer 17 [u0, u1] [.inl xs0] h Q := by
  refine Wb.ret (b_Land_hasBuyer_17 (d01 g0)) ?_
  (first | exact q | (simp only [Option.getD_some]; exact q))
theorem n_Main_deed {rod : Nat → Nat × (Nat → Int32)} {d : Nat} {Q : Option MV → MH → Prop} {x1 : Int32} {x2 : Int32} {x3 : Int32} {h : MH} (k : Wb rod d B_Main_deed 0 [some (.inr (.inr (.inl (some 0)))), some (.inl x1), some (.inl x2), some (.inl x3), none] [] h Q) : Wc rod (d + 1) 71 [.inr (.inr (.inl (some 0))), .inl x1, .inl x2, .inl x3] h Q := Wc.en (fun _ _ => e_Main_deed) k
theorem w_Main_deed_0 {rod : Nat → Nat × (Nat → Int32)} {d : Nat} {Q : Option MV → MH → Prop} {x1 : Int32} {u2 : Option MV} {u3 : Option MV} {u4 : Option MV} {h : MH} (L : Lay h.2)  {Q1 : Option MV → MH → Prop} (c : Wc rod d 72 [.inr (.inr (.inl (some 1))), .inl x1] h Q1) (k : ∀ r1 h2, Q1 r1 h2 → Wb rod d B_Main_deed 8 [some (.inr (.inr (.inl (some 0)))), some (.inl x1), u2, u3, u4] (r1.toList ++ []) h2 Q) : Wb rod d B_Main_deed 0 [some (.inr (.inr (.inl (some 0)))), some (.inl x1), u2, u3, u4] [] h Q := by
  refine Wb.call (fun _ _ _ _ => b_Main_deed_0 (Lay.o0 L) (Lay.k0_0 L)) (Q1 := Q1) ?_ ?_
  · (first | exact c | (simp only [Option.getD_some, (Lay.r0_0 L)]; exact c))
  · (first | exact k | (simp only [Option.getD_some, (Lay.r0_0 L)]; exact k))
theorem w_Main_deed_8 {rod : Nat → Nat × (Nat → Int32)} {d : Nat} {Q : Option MV → MH → Prop} {u0 : Option MV} {u1 : Option MV} {u2 : Option MV} {u3 : Option MV} {u4 : Option MV} {os0 : Option Nat} {h : MH}  (g0 : okl [u0, u1, u2, u3, u4] 4 = true) (k1 : os0 = none → Wb rod d B_Main_deed 15 [u0, u1, u2, u3, some (.inr (.inr (.inl os0)))] [] h Q) (k2 : ∀ v, os0 = some v → Wb rod d B_Main_deed 18 [u0, u1, u2, u3, some (.inr (.inr (.inl os0)))] [] h Q) : Wb rod d B_Main_deed 8 [u0, u1, u2, u3, u4] [.inr (.inr (.inl os0))] h Q := by
  cases os0 with
  | none =>
    refine Wb.br (fun _ _ => b_Main_deed_8 g0) (fun c => ?_) (fun c => ?_)
    · simp at c
    · exact k1 rfl
  | some v =>
    refine Wb.br (fun _ _ => b_Main_deed_8 g0) (fun c => ?_) (fun c => ?_)
    · exact k2 v rfl
    · simp at c
theorem w_Main_deed_15 {rod : Nat → Nat × (Nat → Int32)} {d : Nat} {Q : Option MV → MH → Prop} {u0 : Option MV} {u1 : Option MV} {u2 : Option MV} {u3 : Option MV} {u4 : Option MV} {h : MH}   (q : Q (some (.inl (-2 : Int32))) h) : Wb rod d B_Main_deed 15 [u0, u1, u2, u3, u4] [] h Q := by
  refine Wb.ret (b_Main_deed_15) ?_
  (first | exact q | (simp only [Option.getD_some]; exact q))
theorem w_Main_deed_18 {rod : Nat → Nat × (Nat → Int32)} {d : Nat} {Q : Option MV → MH → Prop} {u0 : Option MV} {u1 : Option MV} {x2 : Int32} {u3 : Option MV} {u4 : Option MV} {h : MH}   (k1 : ¬ x2.toInt = (-1) → Wb rod d B_Main_deed 38 [u0, u1, some (.inl x2), u3, u4] [] h Q) (k2 : x2.toInt = (-1) → Wb rod d B_Main_deed 23 [u0, u1, some (.inl x2), u3, u4] [] h Q) : Wb rod d B_Main_deed 18 [u0, u1, some (.inl x2), u3, u4] [] h Q := by
  refine Wb.br (fun _ _ => b_Main_deed_18) (fun c => ?_) (fun c => ?_)
  · have c : (!(decide (x2 = (-1 : Int32)))) = true := by first | exact c | (simp only [Option.getD_some] at c; exact c)
    (first | exact (k1 (c_net c)) | (simp only [Option.getD_some]; exact (k1 (c_net c))))
  · have c : (!(decide (x2 = (-1 : Int32)))) = false := by first | exact c | (simp only [Option.getD_some] at c; exact c)
    (first | exact (k2 (c_nef c)) | (simp only [Option.getD_some]; exact (k2 (c_nef c))))
theorem w_Main_deed_23 {rod : Nat → Nat × (Nat → Int32)} {d : Nat} {Q : Option MV → MH → Prop} {u0 : Option MV} {u1 : Option MV} {u2 : Option MV} {x3 : Int32} {u4 : Option MV} {h : MH}   (k1 : ¬ x3.toInt = 0 → Wb rod d B_Main_deed 35 [u0, u1, u2, some (.inl x3), u4] [] h Q) (k2 : x3.toInt = 0 → Wb rod d B_Main_deed 27 [u0, u1, u2, some (.inl x3), u4] [] h Q) : Wb rod d B_Main_deed 23 [u0, u1, u2, some (.inl x3), u4] [] h Q := by
  refine Wb.br (fun _ _ => b_Main_deed_23) (fun c => ?_) (fun c => ?_)
  · have c : (!(decide (x3 = 0))) = true := by first | exact c | (simp only [Option.getD_some] at c; exact c)
    (first | exact (k1 (c_net c)) | (simp only [Option.getD_some]; exact (k1 (c_net c))))
  · have c : (!(decide (x3 = 0))) = false := by first | exact c | (simp only [Option.getD_some] at c; exact c)
    (first | exact (k2 (c_nef c)) | (simp only [Option.getD_some]; exact (k2 (c_nef c))))
theorem w_Main_deed_27 {rod : Nat → Nat × (Nat → Int32)} {d : Nat} {Q : Option MV → MH → Prop} {u0 : Option MV} {u1 : Option MV} {u2 : Option MV} {u3 : Option MV} {a4 : Nat} {h : MH} (A4 : SeasonA h.2 a4)  (k : Wb rod d B_Main_deed 37 [u0, u1, u2, u3, some (.inr (.inr (.inl (some a4))))] [.inl (h.1 a4 0)] h Q) : Wb rod d B_Main_deed 27 [u0, u1, u2, u3, some (.inr (.inr (.inl (some a4))))] [] h Q := by
  refine Wb.go (fun r hr q => b_Main_deed_27 (A4.o) ?_) k
  (first | exact q | (simp only [Option.getD_some]; exact q))
theorem w_Main_deed_35 {rod : Nat → Nat × (Nat → Int32)} {d : Nat} {Q : Option MV → MH → Prop} {u0 : Option MV} {u1 : Option MV} {u2 : Option MV} {u3 : Option MV} {u4 : Option MV} {h : MH}   (k : Wb rod d B_Main_deed 37 [u0, u1, u2, u3, u4] [.inl (-2 : Int32)] h Q) : Wb rod d B_Main_deed 35 [u0, u1, u2, u3, u4] [] h Q := by
  refine Wb.go (fun r hr q => b_Main_deed_35 ?_) k
  (first | exact q | (simp only [Option.getD_some]; exact q))
theorem w_Main_deed_37 {rod : Nat → Nat × (Nat → Int32)} {d : Nat} {Q : Option MV → MH → Prop} {u0 : Option MV} {u1 : Option MV} {u2 : Option MV} {u3 : Option MV} {u4 : Option MV} {xs0 : Int32} {h : MH}   (q : Q (some (.inl xs0)) h) : Wb rod d B_Main_deed 37 [u0, u1, u2, u3, u4] [.inl xs0] h Q := by
  refine Wb.ret (b_Main_deed_37) ?_
  (first | exact q | (simp only [Option.getD_some]; exact q))
theorem w_Main_deed_38 {rod : Nat → Nat × (Nat → Int32)} {d : Nat} {Q : Option MV → MH → Prop} {u0 : Option MV} {u1 : Option MV} {x2 : Int32} {u3 : Option MV} {a4 : Nat} {h : MH} (A4 : SeasonA h.2 a4)  {Q1 : Option MV → MH → Prop} (c : Wc rod d 73 [.inr (.inr (.inl (some a4))), .inl x2] h Q1) (k : ∀ r1 h2, Q1 r1 h2 → Wb rod d B_Main_deed 44 [u0, u1, some (.inl x2), u3, some (.inr (.inr (.inl (some a4))))] (r1.toList ++ []) h2 Q) : Wb rod d B_Main_deed 38 [u0, u1, some (.inl x2), u3, some (.inr (.inr (.inl (some a4))))] [] h Q := by
  refine Wb.call (fun _ _ _ _ => b_Main_deed_38 (A4.o)) (Q1 := Q1) ?_ ?_
  · (first | exact c | (simp only [Option.getD_some]; exact c))
  · (first | exact k | (simp only [Option.getD_some]; exact k))
theorem w_Main_deed_44 {rod : Nat → Nat × (Nat → Int32)} {d : Nat} {Q : Option MV → MH → Prop} {u0 : Option MV} {u1 : Option MV} {u2 : Option MV} {u3 : Option MV} {u4 : Option MV} {xs0 : Int32} {h : MH}   (k1 : xs0.toInt = 0 → Wb rod d B_Main_deed 57 [u0, u1, u2, u3, u4] [] h Q) (k2 : ¬ xs0.toInt = 0 → Wb rod d B_Main_deed 47 [u0, u1, u2, u3, u4] [] h Q) : Wb rod d B_Main_deed 44 [u0, u1, u2, u3, u4] [.inl xs0] h Q := by
  refine Wb.br (fun _ _ => b_Main_deed_44) (fun c => ?_) (fun c => ?_)
  · have c : (decide (xs0 = 0)) = true := by first | exact c | (simp only [Option.getD_some] at c; exact c)
    (first | exact (k1 (c_eqt c)) | (simp only [Option.getD_some]; exact (k1 (c_eqt c))))
  · have c : (decide (xs0 = 0)) = false := by first | exact c | (simp only [Option.getD_some] at c; exact c)
    (first | exact (k2 (c_eqf c)) | (simp only [Option.getD_some]; exact (k2 (c_eqf c))))
theorem w_Main_deed_47 {rod : Nat → Nat × (Nat → Int32)} {d : Nat} {Q : Option MV → MH → Prop} {u0 : Option MV} {u1 : Option MV} {x2 : Int32} {x3 : Int32} {a4 : Nat} {h : MH} (A4 : SeasonA h.2 a4)  {Q1 : Option MV → MH → Prop} (c : Wc rod d 74 [.inr (.inr (.inl (some a4))), .inl x2, .inl x3] h Q1) (k : ∀ r1 h2, Q1 r1 h2 → Wb rod d B_Main_deed 54 [u0, u1, some (.inl x2), some (.inl x3), some (.inr (.inr (.inl (some a4))))] (r1.toList ++ []) h2 Q) : Wb rod d B_Main_deed 47 [u0, u1, some (.inl x2), some (.inl x3), some (.inr (.inr (.inl (some a4))))] [] h Q := by
  refine Wb.call (fun _ _ _ _ => b_Main_deed_47 (A4.o)) (Q1 := Q1) ?_ ?_
  · (first | exact c | (simp only [Option.getD_some]; exact c))
  · (first | exact k | (simp only [Option.getD_some]; exact k))
theorem w_Main_deed_54 {rod : Nat → Nat × (Nat → Int32)} {d : Nat} {Q : Option MV → MH → Prop} {u0 : Option MV} {u1 : Option MV} {u2 : Option MV} {u3 : Option MV} {u4 : Option MV} {xs0 : Int32} {h : MH}   (k : Wb rod d B_Main_deed 59 [u0, u1, u2, u3, u4] [.inl xs0] h Q) : Wb rod d B_Main_deed 54 [u0, u1, u2, u3, u4] [.inl xs0] h Q := by
  refine Wb.go (fun r hr q => b_Main_deed_54 ?_) k
  (first | exact q | (simp only [Option.getD_some]; exact q))
theorem w_Main_deed_57 {rod : Nat → Nat × (Nat → Int32)} {d : Nat} {Q : Option MV → MH → Prop} {u0 : Option MV} {u1 : Option MV} {u2 : Option MV} {u3 : Option MV} {u4 : Option MV} {h : MH}   (k : Wb rod d B_Main_deed 59 [u0, u1, u2, u3, u4] [.inl (-2 : Int32)] h Q) : Wb rod d B_Main_deed 57 [u0, u1, u2, u3, u4] [] h Q := by
  refine Wb.go (fun r hr q => b_Main_deed_57 ?_) k
  (first | exact q | (simp only [Option.getD_some]; exact q))
theorem w_Main_deed_59 {rod : Nat → Nat × (Nat → Int32)} {d : Nat} {Q : Option MV → MH → Prop} {u0 : Option MV} {u1 : Option MV} {u2 : Option MV} {u3 : Option MV} {u4 : Option MV} {xs0 : Int32} {h : MH}   (q : Q (some (.inl xs0)) h) : Wb rod d B_Main_deed 59 [u0, u1, u2, u3, u4] [.inl xs0] h Q := by
  refine Wb.ret (b_Main_deed_59) ?_
  (first | exact q | (simp only [Option.getD_some]; exact q))
theorem n_Season_hasDeed {rod : Nat → Nat × (Nat → Int32)} {d : Nat} {Q : Option MV → MH → Prop} {a0 : Nat} {x1 : Int32} {h : MH} (k : Wb rod d B_Season_hasDeed 0 [some (.inr (.inr (.inl (some a0)))), some (.inl x1)] [] h Q) : Wc rod (d + 1) 73 [.inr (.inr (.inl (some a0))), .inl x1] h Q := Wc.en (fun _ _ => e_Season_hasDeed) k
theorem w_Season_hasDeed_0 {rod : Nat → Nat × (Nat → Int32)} {d : Nat} {Q : Option MV → MH → Prop} {u0 : Option MV} {x1 : Int32} {h : MH}   (k1 : x1.toInt < 0 → Wb rod d B_Season_hasDeed 16 [u0, some (.inl x1)] [] h Q) (k2 : ¬ x1.toInt < 0 → Wb rod d B_Season_hasDeed 4 [u0, some (.inl x1)] [] h Q) : Wb rod d B_Season_hasDeed 0 [u0, some (.inl x1)] [] h Q := by
  refine Wb.br (fun _ _ => b_Season_hasDeed_0) (fun c => ?_) (fun c => ?_)
  · have c : (decide (x1 < 0)) = true := by first | exact c | (simp only [Option.getD_some] at c; exact c)
    (first | exact (k1 (c_ltt c)) | (simp only [Option.getD_some]; exact (k1 (c_ltt c))))
  · have c : (decide (x1 < 0)) = false := by first | exact c | (simp only [Option.getD_some] at c; exact c)
    (first | exact (k2 (c_ltf c)) | (simp only [Option.getD_some]; exact (k2 (c_ltf c))))
theorem w_Season_hasDeed_4 {rod : Nat → Nat × (Nat → Int32)} {d : Nat} {Q : Option MV → MH → Prop} {a0 : Nat} {x1 : Int32} {h : MH} (A0 : SeasonA h.2 a0)  (k1 : (h.1 a0 0).toInt ≤ x1.toInt → Wb rod d B_Season_hasDeed 16 [some (.inr (.inr (.inl (some a0)))), some (.inl x1)] [] h Q) (k2 : ¬ (h.1 a0 0).toInt ≤ x1.toInt → Wb rod d B_Season_hasDeed 12 [some (.inr (.inr (.inl (some a0)))), some (.inl x1)] [] h Q) : Wb rod d B_Season_hasDeed 4 [some (.inr (.inr (.inl (some a0)))), some (.inl x1)] [] h Q := by
  refine Wb.br (fun _ _ => b_Season_hasDeed_4 (A0.o)) (fun c => ?_) (fun c => ?_)
  · have c : (decide ((h.1 a0 0) ≤ x1)) = true := by first | exact c | (simp only [Option.getD_some] at c; exact c)
    (first | exact (k1 (c_let c)) | (simp only [Option.getD_some]; exact (k1 (c_let c))))
  · have c : (decide ((h.1 a0 0) ≤ x1)) = false := by first | exact c | (simp only [Option.getD_some] at c; exact c)
    (first | exact (k2 (c_lef c)) | (simp only [Option.getD_some]; exact (k2 (c_lef c))))
theorem w_Season_hasDeed_12 {rod : Nat → Nat × (Nat → Int32)} {d : Nat} {Q : Option MV → MH → Prop} {u0 : Option MV} {u1 : Option MV} {h : MH}   (k : Wb rod d B_Season_hasDeed 17 [u0, u1] [.inl (1 : Int32)] h Q) : Wb rod d B_Season_hasDeed 12 [u0, u1] [] h Q := by
  refine Wb.go (fun r hr q => b_Season_hasDeed_12 ?_) k
  (first | exact q | (simp only [Option.getD_some]; exact q))
theorem w_Season_hasDeed_16 {rod : Nat → Nat × (Nat → Int32)} {d : Nat} {Q : Option MV → MH → Prop} {u0 : Option MV} {u1 : Option MV} {h : MH}   (k : Wb rod d B_Season_hasDeed 17 [u0, u1] [.inl (0 : Int32)] h Q) : Wb rod d B_Season_hasDeed 16 [u0, u1] [] h Q := by
  refine Wb.go (fun r hr q => b_Season_hasDeed_16 ?_) k
  (first | exact q | (simp only [Option.getD_some]; exact q))
theorem w_Season_hasDeed_17 {rod : Nat → Nat × (Nat → Int32)} {d : Nat} {Q : Option MV → MH → Prop} {u0 : Option MV} {u1 : Option MV} {xs0 : Int32} {h : MH}  (g0 : xs0 = 0 ∨ xs0 = 1) (q : Q (some (.inl xs0)) h) : Wb rod d B_Season_hasDeed 17 [u0, u1] [.inl xs0] h Q := by
  refine Wb.ret (b_Season_hasDeed_17 (d01 g0)) ?_
  (first | exact q | (simp only [Option.getD_some]; exact q))
theorem n_Season_toldOf {rod : Nat → Nat × (Nat → Int32)} {d : Nat} {Q : Option MV → MH → Prop} {a0 : Nat} {x1 : Int32} {x2 : Int32} {h : MH} (k : Wb rod d B_Season_toldOf 0 [some (.inr (.inr (.inl (some a0)))), some (.inl x1), some (.inl x2)] [] h Q) : Wc rod (d + 1) 74 [.inr (.inr (.inl (some a0))), .inl x1, .inl x2] h Q := Wc.en (fun _ _ => e_Season_toldOf) k
theorem w_Season_toldOf_0 {rod : Nat → Nat × (Nat → Int32)} {d : Nat} {Q : Option MV → MH → Prop} {a0 : Nat} {x1 : Int32} {u2 : Option MV} {h : MH} (A0 : SeasonA h.2 a0)  {Q1 : Option MV → MH → Prop} (c : Wc rod d 73 [.inr (.inr (.inl (some a0))), .inl x1] h Q1) (k : ∀ r1 h2, Q1 r1 h2 → Wb rod d B_Season_toldOf 5 [some (.inr (.inr (.inl (some a0)))), some (.inl x1), u2] (r1.toList ++ []) h2 Q) : Wb rod d B_Season_toldOf 0 [some (.inr (.inr (.inl (some a0)))), some (.inl x1), u2] [] h Q := by
  refine Wb.call (fun _ _ _ _ => b_Season_toldOf_0 (A0.o)) (Q1 := Q1) ?_ ?_
  · (first | exact c | (simp only [Option.getD_some]; exact c))
  · (first | exact k | (simp only [Option.getD_some]; exact k))
theorem w_Season_toldOf_5 {rod : Nat → Nat × (Nat → Int32)} {d : Nat} {Q : Option MV → MH → Prop} {u0 : Option MV} {u1 : Option MV} {u2 : Option MV} {xs0 : Int32} {h : MH}   (k1 : ¬ xs0.toInt = 0 → Wb rod d B_Season_toldOf 11 [u0, u1, u2] [] h Q) (k2 : xs0.toInt = 0 → Wb rod d B_Season_toldOf 8 [u0, u1, u2] [] h Q) : Wb rod d B_Season_toldOf 5 [u0, u1, u2] [.inl xs0] h Q := by
  refine Wb.br (fun _ _ => b_Season_toldOf_5) (fun c => ?_) (fun c => ?_)
  · have c : (!(decide (xs0 = 0))) = true := by first | exact c | (simp only [Option.getD_some] at c; exact c)
    (first | exact (k1 (c_net c)) | (simp only [Option.getD_some]; exact (k1 (c_net c))))
  · have c : (!(decide (xs0 = 0))) = false := by first | exact c | (simp only [Option.getD_some] at c; exact c)
    (first | exact (k2 (c_nef c)) | (simp only [Option.getD_some]; exact (k2 (c_nef c))))
theorem w_Season_toldOf_8 {rod : Nat → Nat × (Nat → Int32)} {d : Nat} {Q : Option MV → MH → Prop} {u0 : Option MV} {u1 : Option MV} {u2 : Option MV} {h : MH}   (q : Q (some (.inl (-2 : Int32))) h) : Wb rod d B_Season_toldOf 8 [u0, u1, u2] [] h Q := by
  refine Wb.ret (b_Season_toldOf_8) ?_
  (first | exact q | (simp only [Option.getD_some]; exact q))
theorem w_Season_toldOf_11 {rod : Nat → Nat × (Nat → Int32)} {d : Nat} {Q : Option MV → MH → Prop} {u0 : Option MV} {u1 : Option MV} {x2 : Int32} {h : MH}   (k0 : x2.toInt = 0 → Wb rod d B_Season_toldOf 40 [u0, u1, some (.inl x2)] [] h Q) (k1 : x2.toInt = 1 → Wb rod d B_Season_toldOf 47 [u0, u1, some (.inl x2)] [] h Q) (k2 : x2.toInt = 2 → Wb rod d B_Season_toldOf 54 [u0, u1, some (.inl x2)] [] h Q) (kd : x2.toInt ≠ 0 → x2.toInt ≠ 1 → x2.toInt ≠ 2 → Wb rod d B_Season_toldOf 61 [u0, u1, some (.inl x2)] [] h Q) : Wb rod d B_Season_toldOf 11 [u0, u1, some (.inl x2)] [] h Q := by
  have key : Wb rod d B_Season_toldOf (tabT [28, 35, 42] 0 x2 12 61) [u0, u1, some (.inl x2)] [] h Q := by
    by_cases e0 : x2 = Int32.ofInt 0
    · rw [show tabT [28, 35, 42] 0 x2 12 61 = 40 from by rw [e0]; rfl]
      exact k0 (by rw [e0]; rfl)
    by_cases e1 : x2 = Int32.ofInt 1
    · rw [show tabT [28, 35, 42] 0 x2 12 61 = 47 from by rw [e1]; rfl]
      exact k1 (by rw [e1]; rfl)
    by_cases e2 : x2 = Int32.ofInt 2
    · rw [show tabT [28, 35, 42] 0 x2 12 61 = 54 from by rw [e2]; rfl]
      exact k2 (by rw [e2]; rfl)
    rw [show tabT [28, 35, 42] 0 x2 12 61 = 61 from (if_neg e0).trans ((if_neg e1).trans ((if_neg e2).trans (rfl)))]
    exact kd (fun q => e0 (Int32.toInt_inj.mp q)) (fun q => e1 (Int32.toInt_inj.mp q)) (fun q => e2 (Int32.toInt_inj.mp q))
  refine Wb.go (fun r hr q => b_Season_toldOf_11 ?_) key
  (first | exact q | (simp only [Option.getD_some]; exact q))
theorem w_Season_toldOf_40 {rod : Nat → Nat × (Nat → Int32)} {d : Nat} {Q : Option MV → MH → Prop} {a0 : Nat} {x1 : Int32} {u2 : Option MV} {h : MH} (A0 : SeasonA h.2 a0) (g0 : 0 ≤ x1.toInt ∧ x1.toInt < 40) (q : Q (some (.inl (h.1 (a0 + 1) x1.toNatClampNeg))) h) : Wb rod d B_Season_toldOf 40 [some (.inr (.inr (.inl (some a0)))), some (.inl x1), u2] [] h Q := by
  refine Wb.ret (b_Season_toldOf_40 (A0.o) (A0.a1 g0)) ?_
  (first | exact q | (simp only [Option.getD_some, A0.r1]; exact q))
theorem w_Season_toldOf_47 {rod : Nat → Nat × (Nat → Int32)} {d : Nat} {Q : Option MV → MH → Prop} {a0 : Nat} {x1 : Int32} {u2 : Option MV} {h : MH} (A0 : SeasonA h.2 a0) (g0 : 0 ≤ x1.toInt ∧ x1.toInt < 40) (q : Q (some (.inl (h.1 (a0 + 2) x1.toNatClampNeg))) h) : Wb rod d B_Season_toldOf 47 [some (.inr (.inr (.inl (some a0)))), some (.inl x1), u2] [] h Q := by
  refine Wb.ret (b_Season_toldOf_47 (A0.o) (A0.a2 g0)) ?_
  (first | exact q | (simp only [Option.getD_some, A0.r2]; exact q))
theorem w_Season_toldOf_54 {rod : Nat → Nat × (Nat → Int32)} {d : Nat} {Q : Option MV → MH → Prop} {a0 : Nat} {x1 : Int32} {u2 : Option MV} {h : MH} (A0 : SeasonA h.2 a0) (g0 : 0 ≤ x1.toInt ∧ x1.toInt < 40) (q : Q (some (.inl (h.1 (a0 + 3) x1.toNatClampNeg))) h) : Wb rod d B_Season_toldOf 54 [some (.inr (.inr (.inl (some a0)))), some (.inl x1), u2] [] h Q := by
  refine Wb.ret (b_Season_toldOf_54 (A0.o) (A0.a3 g0)) ?_
  (first | exact q | (simp only [Option.getD_some, A0.r3]; exact q))
theorem w_Season_toldOf_61 {rod : Nat → Nat × (Nat → Int32)} {d : Nat} {Q : Option MV → MH → Prop} {u0 : Option MV} {u1 : Option MV} {u2 : Option MV} {h : MH}   (q : Q (some (.inl (-2 : Int32))) h) : Wb rod d B_Season_toldOf 61 [u0, u1, u2] [] h Q := by
  refine Wb.ret (b_Season_toldOf_61) ?_
  (first | exact q | (simp only [Option.getD_some]; exact q))
