/-! RULES OF BLOCKS over postconditions, references resolved (3) -/
theorem n_Main_stop {rod : Nat → Nat × (Nat → Int32)} {d : Nat} {Q : Option MV → MH → Prop} {x1 : Int32} {x2 : Int32} {h : MH} (k : Wb rod d B_Main_stop 0 [some (.inr (.inr (.inl (some 0)))), some (.inl x1), some (.inl x2), none, none] [] h Q) : Wc rod (d + 1) 75 [.inr (.inr (.inl (some 0))), .inl x1, .inl x2] h Q := Wc.en (fun _ _ => e_Main_stop) k
theorem w_Main_stop_0 {rod : Nat → Nat × (Nat → Int32)} {d : Nat} {Q : Option MV → MH → Prop} {x1 : Int32} {u2 : Option MV} {u3 : Option MV} {u4 : Option MV} {h : MH} (L : Lay h.2)  {Q1 : Option MV → MH → Prop} (c : Wc rod d 61 [.inr (.inr (.inl (some 1))), .inl x1] h Q1) (k : ∀ r1 h2, Q1 r1 h2 → Wb rod d B_Main_stop 8 [some (.inr (.inr (.inl (some 0)))), some (.inl x1), u2, u3, u4] (r1.toList ++ []) h2 Q) : Wb rod d B_Main_stop 0 [some (.inr (.inr (.inl (some 0)))), some (.inl x1), u2, u3, u4] [] h Q := by
  refine Wb.call (fun _ _ _ _ => b_Main_stop_0 (Lay.o0 L) (Lay.k0_0 L)) (Q1 := Q1) ?_ ?_
  · (first | exact c | (simp only [Option.getD_some, (Lay.r0_0 L)]; exact c))
  · (first | exact k | (simp only [Option.getD_some, (Lay.r0_0 L)]; exact k))
theorem w_Main_stop_8 {rod : Nat → Nat × (Nat → Int32)} {d : Nat} {Q : Option MV → MH → Prop} {u1 : Option MV} {x2 : Int32} {u3 : Option MV} {u4 : Option MV} {as0 : Nat} {h : MH} (L : Lay h.2)  {Q1 : Option MV → MH → Prop} (c : Wc rod d 72 [.inr (.inr (.inl (some 1))), .inl x2] h Q1) (k : ∀ r1 h2, Q1 r1 h2 → Wb rod d B_Main_stop 17 [some (.inr (.inr (.inl (some 0)))), u1, some (.inl x2), some (.inr (.inr (.inl (some as0)))), u4] (r1.toList ++ []) h2 Q) : Wb rod d B_Main_stop 8 [some (.inr (.inr (.inl (some 0)))), u1, some (.inl x2), u3, u4] [.inr (.inr (.inl (some as0)))] h Q := by
  refine Wb.call (fun _ _ _ _ => b_Main_stop_8 (Lay.o0 L) (Lay.k0_0 L)) (Q1 := Q1) ?_ ?_
  · (first | exact c | (simp only [Option.getD_some, (Lay.r0_0 L)]; exact c))
  · (first | exact k | (simp only [Option.getD_some, (Lay.r0_0 L)]; exact k))
theorem w_Main_stop_17 {rod : Nat → Nat × (Nat → Int32)} {d : Nat} {Q : Option MV → MH → Prop} {u0 : Option MV} {u1 : Option MV} {u2 : Option MV} {o3 : Option Nat} {u4 : Option MV} {as0 : Nat} {h : MH}   (k1 : o3 = none → Wb rod d B_Main_stop 28 [u0, u1, u2, some (.inr (.inr (.inl o3))), some (.inr (.inr (.inl (some as0))))] [] h Q) (k2 : ∀ v, o3 = some v → Wb rod d B_Main_stop 23 [u0, u1, u2, some (.inr (.inr (.inl o3))), some (.inr (.inr (.inl (some as0))))] [] h Q) : Wb rod d B_Main_stop 17 [u0, u1, u2, some (.inr (.inr (.inl o3))), u4] [.inr (.inr (.inl (some as0)))] h Q := by
  cases o3 with
  | none =>
    refine Wb.br (fun _ _ => b_Main_stop_17) (fun c => ?_) (fun c => ?_)
    · exact k1 rfl
    · simp at c
  | some v =>
    refine Wb.br (fun _ _ => b_Main_stop_17) (fun c => ?_) (fun c => ?_)
    · simp at c
    · exact k2 v rfl
theorem w_Main_stop_23 {rod : Nat → Nat × (Nat → Int32)} {d : Nat} {Q : Option MV → MH → Prop} {u0 : Option MV} {u1 : Option MV} {u2 : Option MV} {u3 : Option MV} {o4 : Option Nat} {h : MH}   (k1 : o4 = none → Wb rod d B_Main_stop 28 [u0, u1, u2, u3, some (.inr (.inr (.inl o4)))] [] h Q) (k2 : ∀ v, o4 = some v → Wb rod d B_Main_stop 32 [u0, u1, u2, u3, some (.inr (.inr (.inl o4)))] [] h Q) : Wb rod d B_Main_stop 23 [u0, u1, u2, u3, some (.inr (.inr (.inl o4)))] [] h Q := by
  cases o4 with
  | none =>
    refine Wb.br (fun _ _ => b_Main_stop_23) (fun c => ?_) (fun c => ?_)
    · simp at c
    · exact k1 rfl
  | some v =>
    refine Wb.br (fun _ _ => b_Main_stop_23) (fun c => ?_) (fun c => ?_)
    · exact k2 v rfl
    · simp at c
theorem w_Main_stop_28 {rod : Nat → Nat × (Nat → Int32)} {d : Nat} {Q : Option MV → MH → Prop} {u0 : Option MV} {u1 : Option MV} {u2 : Option MV} {u3 : Option MV} {u4 : Option MV} {h : MH}   (k : Wb rod d B_Main_stop 44 [u0, u1, u2, u3, u4] [.inl (-1 : Int32)] h Q) : Wb rod d B_Main_stop 28 [u0, u1, u2, u3, u4] [] h Q := by
  refine Wb.go (fun r hr q => b_Main_stop_28 ?_) k
  (first | exact q | (simp only [Option.getD_some]; exact q))
theorem w_Main_stop_32 {rod : Nat → Nat × (Nat → Int32)} {d : Nat} {Q : Option MV → MH → Prop} {u1 : Option MV} {u2 : Option MV} {a3 : Nat} {a4 : Nat} {h : MH} (L : Lay h.2)  {Q1 : Option MV → MH → Prop} (c : Wc rod d 76 [.inr (.inr (.inl (some 65))), .inr (.inr (.inl (some a3))), .inr (.inr (.inl (some a4))), .inl (40 : Int32)] h Q1) (k : ∀ r1 h2, Q1 r1 h2 → Wb rod d B_Main_stop 44 [some (.inr (.inr (.inl (some 0)))), u1, u2, some (.inr (.inr (.inl (some a3)))), some (.inr (.inr (.inl (some a4))))] (r1.toList ++ []) h2 Q) : Wb rod d B_Main_stop 32 [some (.inr (.inr (.inl (some 0)))), u1, u2, some (.inr (.inr (.inl (some a3)))), some (.inr (.inr (.inl (some a4))))] [] h Q := by
  refine Wb.call (fun _ _ _ _ => b_Main_stop_32 (Lay.o0 L) (Lay.k0_3 L)) (Q1 := Q1) ?_ ?_
  · (first | exact c | (simp only [Option.getD_some, (Lay.r0_3 L)]; exact c))
  · (first | exact k | (simp only [Option.getD_some, (Lay.r0_3 L)]; exact k))
theorem w_Main_stop_44 {rod : Nat → Nat × (Nat → Int32)} {d : Nat} {Q : Option MV → MH → Prop} {u0 : Option MV} {u1 : Option MV} {u2 : Option MV} {u3 : Option MV} {u4 : Option MV} {xs0 : Int32} {h : MH}   (q : Q (some (.inl xs0)) h) : Wb rod d B_Main_stop 44 [u0, u1, u2, u3, u4] [.inl xs0] h Q := by
  refine Wb.ret (b_Main_stop_44) ?_
  (first | exact q | (simp only [Option.getD_some]; exact q))
theorem n_Walk_run {rod : Nat → Nat × (Nat → Int32)} {d : Nat} {Q : Option MV → MH → Prop} {a1 : Nat} {a2 : Nat} {x3 : Int32} {h : MH} (k : Wb rod d B_Walk_run 0 [some (.inr (.inr (.inl (some 65)))), some (.inr (.inr (.inl (some a1)))), some (.inr (.inr (.inl (some a2)))), some (.inl x3), none] [] h Q) : Wc rod (d + 1) 76 [.inr (.inr (.inl (some 65))), .inr (.inr (.inl (some a1))), .inr (.inr (.inl (some a2))), .inl x3] h Q := Wc.en (fun _ _ => e_Walk_run) k
theorem w_Walk_run_0 {rod : Nat → Nat × (Nat → Int32)} {d : Nat} {Q : Option MV → MH → Prop} {a1 : Nat} {u2 : Option MV} {u3 : Option MV} {u4 : Option MV} {h : MH} (L : Lay h.2)  {Q1 : Option MV → MH → Prop} (c : Wc rod d 77 [.inr (.inr (.inl (some 65))), .inr (.inr (.inl (some a1)))] h Q1) (k : ∀ r1 h2, Q1 r1 h2 → Wb rod d B_Walk_run 5 [some (.inr (.inr (.inl (some 65)))), some (.inr (.inr (.inl (some a1)))), u2, u3, u4] (r1.toList ++ []) h2 Q) : Wb rod d B_Walk_run 0 [some (.inr (.inr (.inl (some 65)))), some (.inr (.inr (.inl (some a1)))), u2, u3, u4] [] h Q := by
  refine Wb.call (fun _ _ _ _ => b_Walk_run_0 (Lay.o65 L)) (Q1 := Q1) ?_ ?_
  · (first | exact c | (simp only [Option.getD_some]; exact c))
  · (first | exact k | (simp only [Option.getD_some]; exact k))
theorem w_Walk_run_5 {rod : Nat → Nat × (Nat → Int32)} {d : Nat} {Q : Option MV → MH → Prop} {u0 : Option MV} {u1 : Option MV} {u2 : Option MV} {u3 : Option MV} {u4 : Option MV} {h : MH}  (g0 : okl [u0, u1, u2, u3, u4] 4 = true) (k : Wb rod d B_Walk_run 8 [u0, u1, u2, u3, some (.inl (0 : Int32))] [] h Q) : Wb rod d B_Walk_run 5 [u0, u1, u2, u3, u4] [] h Q := by
  refine Wb.go (fun r hr q => b_Walk_run_5 g0 ?_) k
  (first | exact q | (simp only [Option.getD_some]; exact q))
theorem w_Walk_run_8 {rod : Nat → Nat × (Nat → Int32)} {d : Nat} {Q : Option MV → MH → Prop} {u0 : Option MV} {u1 : Option MV} {u2 : Option MV} {x3 : Int32} {x4 : Int32} {h : MH}   (k1 : x3.toInt ≤ x4.toInt → Wb rod d B_Walk_run 43 [u0, u1, u2, some (.inl x3), some (.inl x4)] [] h Q) (k2 : ¬ x3.toInt ≤ x4.toInt → Wb rod d B_Walk_run 14 [u0, u1, u2, some (.inl x3), some (.inl x4)] [] h Q) : Wb rod d B_Walk_run 8 [u0, u1, u2, some (.inl x3), some (.inl x4)] [] h Q := by
  refine Wb.br (fun _ _ => b_Walk_run_8) (fun c => ?_) (fun c => ?_)
  · have c : (decide (x3 ≤ x4)) = true := by first | exact c | (simp only [Option.getD_some] at c; exact c)
    (first | exact (k1 (c_let c)) | (simp only [Option.getD_some]; exact (k1 (c_let c))))
  · have c : (decide (x3 ≤ x4)) = false := by first | exact c | (simp only [Option.getD_some] at c; exact c)
    (first | exact (k2 (c_lef c)) | (simp only [Option.getD_some]; exact (k2 (c_lef c))))
theorem w_Walk_run_14 {rod : Nat → Nat × (Nat → Int32)} {d : Nat} {Q : Option MV → MH → Prop} {u0 : Option MV} {u1 : Option MV} {a2 : Nat} {u3 : Option MV} {x4 : Int32} {h : MH} (A2 : SeasonA h.2 a2)  (k1 : (h.1 a2 0).toInt ≤ x4.toInt → Wb rod d B_Walk_run 43 [u0, u1, some (.inr (.inr (.inl (some a2)))), u3, some (.inl x4)] [] h Q) (k2 : ¬ (h.1 a2 0).toInt ≤ x4.toInt → Wb rod d B_Walk_run 23 [u0, u1, some (.inr (.inr (.inl (some a2)))), u3, some (.inl x4)] [] h Q) : Wb rod d B_Walk_run 14 [u0, u1, some (.inr (.inr (.inl (some a2)))), u3, some (.inl x4)] [] h Q := by
  refine Wb.br (fun _ _ => b_Walk_run_14 (A2.o)) (fun c => ?_) (fun c => ?_)
  · have c : (decide ((h.1 a2 0) ≤ x4)) = true := by first | exact c | (simp only [Option.getD_some] at c; exact c)
    (first | exact (k1 (c_let c)) | (simp only [Option.getD_some]; exact (k1 (c_let c))))
  · have c : (decide ((h.1 a2 0) ≤ x4)) = false := by first | exact c | (simp only [Option.getD_some] at c; exact c)
    (first | exact (k2 (c_lef c)) | (simp only [Option.getD_some]; exact (k2 (c_lef c))))
theorem w_Walk_run_23 {rod : Nat → Nat × (Nat → Int32)} {d : Nat} {Q : Option MV → MH → Prop} {a1 : Nat} {a2 : Nat} {u3 : Option MV} {x4 : Int32} {h : MH} (L : Lay h.2)  {Q1 : Option MV → MH → Prop} (c : Wc rod d 78 [.inr (.inr (.inl (some 65))), .inr (.inr (.inl (some a1))), .inr (.inr (.inl (some a2))), .inl x4] h Q1) (k : ∀ r1 h2, Q1 r1 h2 → Wb rod d B_Walk_run 31 [some (.inr (.inr (.inl (some 65)))), some (.inr (.inr (.inl (some a1)))), some (.inr (.inr (.inl (some a2)))), u3, some (.inl x4)] (r1.toList ++ []) h2 Q) : Wb rod d B_Walk_run 23 [some (.inr (.inr (.inl (some 65)))), some (.inr (.inr (.inl (some a1)))), some (.inr (.inr (.inl (some a2)))), u3, some (.inl x4)] [] h Q := by
  refine Wb.call (fun _ _ _ _ => b_Walk_run_23 (Lay.o65 L)) (Q1 := Q1) ?_ ?_
  · (first | exact c | (simp only [Option.getD_some]; exact c))
  · (first | exact k | (simp only [Option.getD_some]; exact k))
theorem w_Walk_run_31 {rod : Nat → Nat × (Nat → Int32)} {d : Nat} {Q : Option MV → MH → Prop} {u0 : Option MV} {u1 : Option MV} {u2 : Option MV} {u3 : Option MV} {u4 : Option MV} {xs0 : Int32} {h : MH}   (k1 : ¬ xs0.toInt = 0 → Wb rod d B_Walk_run 37 [u0, u1, u2, u3, u4] [] h Q) (k2 : xs0.toInt = 0 → Wb rod d B_Walk_run 34 [u0, u1, u2, u3, u4] [] h Q) : Wb rod d B_Walk_run 31 [u0, u1, u2, u3, u4] [.inl xs0] h Q := by
  refine Wb.br (fun _ _ => b_Walk_run_31) (fun c => ?_) (fun c => ?_)
  · have c : (!(decide (xs0 = 0))) = true := by first | exact c | (simp only [Option.getD_some] at c; exact c)
    (first | exact (k1 (c_net c)) | (simp only [Option.getD_some]; exact (k1 (c_net c))))
  · have c : (!(decide (xs0 = 0))) = false := by first | exact c | (simp only [Option.getD_some] at c; exact c)
    (first | exact (k2 (c_nef c)) | (simp only [Option.getD_some]; exact (k2 (c_nef c))))
theorem w_Walk_run_34 {rod : Nat → Nat × (Nat → Int32)} {d : Nat} {Q : Option MV → MH → Prop} {u0 : Option MV} {u1 : Option MV} {u2 : Option MV} {u3 : Option MV} {x4 : Int32} {h : MH}   (q : Q (some (.inl x4)) h) : Wb rod d B_Walk_run 34 [u0, u1, u2, u3, some (.inl x4)] [] h Q := by
  refine Wb.ret (b_Walk_run_34) ?_
  (first | exact q | (simp only [Option.getD_some]; exact q))
theorem w_Walk_run_37 {rod : Nat → Nat × (Nat → Int32)} {d : Nat} {Q : Option MV → MH → Prop} {u0 : Option MV} {u1 : Option MV} {u2 : Option MV} {u3 : Option MV} {x4 : Int32} {h : MH}  (g0 : okl [u0, u1, u2, u3, some (.inl x4)] 4 = true) (k : Wb rod d B_Walk_run 8 [u0, u1, u2, u3, some (.inl (x4 + 1))] [] h Q) : Wb rod d B_Walk_run 37 [u0, u1, u2, u3, some (.inl x4)] [] h Q := by
  refine Wb.go (fun r hr q => b_Walk_run_37 g0 ?_) k
  (first | exact q | (simp only [Option.getD_some]; exact q))
theorem w_Walk_run_43 {rod : Nat → Nat × (Nat → Int32)} {d : Nat} {Q : Option MV → MH → Prop} {u0 : Option MV} {u1 : Option MV} {a2 : Nat} {x3 : Int32} {u4 : Option MV} {h : MH} (A2 : SeasonA h.2 a2)  (q : Q (some (.inl (if (h.1 a2 0) < (if x3 < (0 : Int32) then (0 : Int32) else x3) then (h.1 a2 0) else (if x3 < (0 : Int32) then (0 : Int32) else x3)))) h) : Wb rod d B_Walk_run 43 [u0, u1, some (.inr (.inr (.inl (some a2)))), some (.inl x3), u4] [] h Q := by
  refine Wb.ret (b_Walk_run_43 (A2.o)) ?_
  (first | exact q | (simp only [Option.getD_some]; exact q))
theorem n_Walk_begin {rod : Nat → Nat × (Nat → Int32)} {d : Nat} {Q : Option MV → MH → Prop} {a1 : Nat} {h : MH} (k : Wb rod d B_Walk_begin 0 [some (.inr (.inr (.inl (some 65)))), some (.inr (.inr (.inl (some a1))))] [] h Q) : Wc rod (d + 1) 77 [.inr (.inr (.inl (some 65))), .inr (.inr (.inl (some a1)))] h Q := Wc.en (fun _ _ => e_Walk_begin) k
theorem w_Walk_begin_0 {rod : Nat → Nat × (Nat → Int32)} {d : Nat} {Q : Option MV → MH → Prop} {u1 : Option MV} {h : MH} (L : Lay h.2)  (k : Wb rod d B_Walk_begin 5 [some (.inr (.inr (.inl (some 65)))), u1] [] (sI h 65 0 (0 : Int32)) Q) : Wb rod d B_Walk_begin 0 [some (.inr (.inr (.inl (some 65)))), u1] [] h Q := by
  refine Wb.go (fun r hr q => b_Walk_begin_0 (Lay.o65 L) ?_) k
  (first | exact q | (simp only [Option.getD_some]; exact q))
theorem w_Walk_begin_5 {rod : Nat → Nat × (Nat → Int32)} {d : Nat} {Q : Option MV → MH → Prop} {u1 : Option MV} {h : MH} (L : Lay h.2)  (k : Wb rod d B_Walk_begin 10 [some (.inr (.inr (.inl (some 65)))), u1] [] (sI h 65 1 (0 : Int32)) Q) : Wb rod d B_Walk_begin 5 [some (.inr (.inr (.inl (some 65)))), u1] [] h Q := by
  refine Wb.go (fun r hr q => b_Walk_begin_5 (Lay.o65 L) ?_) k
  (first | exact q | (simp only [Option.getD_some]; exact q))
theorem w_Walk_begin_10 {rod : Nat → Nat × (Nat → Int32)} {d : Nat} {Q : Option MV → MH → Prop} {a1 : Nat} {h : MH} (A1 : LandA h.2 a1) (L : Lay h.2)  (k : Wb rod d B_Walk_begin 18 [some (.inr (.inr (.inl (some 65)))), some (.inr (.inr (.inl (some a1))))] [] (sI h 65 2 (h.1 a1 3)) Q) : Wb rod d B_Walk_begin 10 [some (.inr (.inr (.inl (some 65)))), some (.inr (.inr (.inl (some a1))))] [] h Q := by
  refine Wb.go (fun r hr q => b_Walk_begin_10 (A1.o) (Lay.o65 L) ?_) k
  (first | exact q | (simp only [Option.getD_some]; exact q))
theorem w_Walk_begin_18 {rod : Nat → Nat × (Nat → Int32)} {d : Nat} {Q : Option MV → MH → Prop} {u1 : Option MV} {h : MH} (L : Lay h.2)  (k : Wb rod d B_Walk_begin 23 [some (.inr (.inr (.inl (some 65)))), u1] [] (sI h 65 3 (0 : Int32)) Q) : Wb rod d B_Walk_begin 18 [some (.inr (.inr (.inl (some 65)))), u1] [] h Q := by
  refine Wb.go (fun r hr q => b_Walk_begin_18 (Lay.o65 L) ?_) k
  (first | exact q | (simp only [Option.getD_some]; exact q))
theorem w_Walk_begin_23 {rod : Nat → Nat × (Nat → Int32)} {d : Nat} {Q : Option MV → MH → Prop} {u1 : Option MV} {h : MH} (L : Lay h.2)  (k : Wb rod d B_Walk_begin 28 [some (.inr (.inr (.inl (some 65)))), u1] [] (sI h 65 4 (0 : Int32)) Q) : Wb rod d B_Walk_begin 23 [some (.inr (.inr (.inl (some 65)))), u1] [] h Q := by
  refine Wb.go (fun r hr q => b_Walk_begin_23 (Lay.o65 L) ?_) k
  (first | exact q | (simp only [Option.getD_some]; exact q))
theorem w_Walk_begin_28 {rod : Nat → Nat × (Nat → Int32)} {d : Nat} {Q : Option MV → MH → Prop} {u1 : Option MV} {h : MH} (L : Lay h.2)  (k : Wb rod d B_Walk_begin 33 [some (.inr (.inr (.inl (some 65)))), u1] [] (sI h 65 5 (0 : Int32)) Q) : Wb rod d B_Walk_begin 28 [some (.inr (.inr (.inl (some 65)))), u1] [] h Q := by
  refine Wb.go (fun r hr q => b_Walk_begin_28 (Lay.o65 L) ?_) k
  (first | exact q | (simp only [Option.getD_some]; exact q))
theorem w_Walk_begin_33 {rod : Nat → Nat × (Nat → Int32)} {d : Nat} {Q : Option MV → MH → Prop} {u1 : Option MV} {h : MH} (L : Lay h.2)  (k : Wb rod d B_Walk_begin 38 [some (.inr (.inr (.inl (some 65)))), u1] [] (sI h 65 6 (0 : Int32)) Q) : Wb rod d B_Walk_begin 33 [some (.inr (.inr (.inl (some 65)))), u1] [] h Q := by
  refine Wb.go (fun r hr q => b_Walk_begin_33 (Lay.o65 L) ?_) k
  (first | exact q | (simp only [Option.getD_some]; exact q))
theorem w_Walk_begin_38 {rod : Nat → Nat × (Nat → Int32)} {d : Nat} {Q : Option MV → MH → Prop} {a1 : Nat} {h : MH} (A1 : LandA h.2 a1) (L : Lay h.2)  (k : Wb rod d B_Walk_begin 53 [some (.inr (.inr (.inl (some 65)))), some (.inr (.inr (.inl (some a1))))] [] (sC h (a1 + 3) 66 (0 : Int32).toNatClampNeg (0 : Int32).toNatClampNeg (8 : Int32).toNatClampNeg) Q) : Wb rod d B_Walk_begin 38 [some (.inr (.inr (.inl (some 65)))), some (.inr (.inr (.inl (some a1))))] [] h Q := by
  refine Wb.go (fun r hr q => b_Walk_begin_38 (A1.o) (Lay.o65 L) (cp_ok (N1 := 8) (N2 := 8) (N := 8) (A1.k8) (Lay.k65_8 L) (by decide) (A1.n8) (Lay.n65_8 L) ⟨by decide, by decide⟩ (by decide) (by decide)) ?_) k
  (first | exact q | (simp only [Option.getD_some, A1.r8, (Lay.r65_8 L)]; exact q))
theorem w_Walk_begin_53 {rod : Nat → Nat × (Nat → Int32)} {d : Nat} {Q : Option MV → MH → Prop} {a1 : Nat} {h : MH} (A1 : LandA h.2 a1) (L : Lay h.2)  (k : Wb rod d B_Walk_begin 68 [some (.inr (.inr (.inl (some 65)))), some (.inr (.inr (.inl (some a1))))] [] (sC h (a1 + 4) 67 (0 : Int32).toNatClampNeg (0 : Int32).toNatClampNeg (8 : Int32).toNatClampNeg) Q) : Wb rod d B_Walk_begin 53 [some (.inr (.inr (.inl (some 65)))), some (.inr (.inr (.inl (some a1))))] [] h Q := by
  refine Wb.go (fun r hr q => b_Walk_begin_53 (A1.o) (Lay.o65 L) (cp_ok (N1 := 8) (N2 := 8) (N := 8) (A1.k9) (Lay.k65_9 L) (by decide) (A1.n9) (Lay.n65_9 L) ⟨by decide, by decide⟩ (by decide) (by decide)) ?_) k
  (first | exact q | (simp only [Option.getD_some, A1.r9, (Lay.r65_9 L)]; exact q))
theorem w_Walk_begin_68 {rod : Nat → Nat × (Nat → Int32)} {d : Nat} {Q : Option MV → MH → Prop} {a1 : Nat} {h : MH} (A1 : LandA h.2 a1) (L : Lay h.2)  (k : Wb rod d B_Walk_begin 83 [some (.inr (.inr (.inl (some 65)))), some (.inr (.inr (.inl (some a1))))] [] (sC h (a1 + 5) 68 (0 : Int32).toNatClampNeg (0 : Int32).toNatClampNeg (8 : Int32).toNatClampNeg) Q) : Wb rod d B_Walk_begin 68 [some (.inr (.inr (.inl (some 65)))), some (.inr (.inr (.inl (some a1))))] [] h Q := by
  refine Wb.go (fun r hr q => b_Walk_begin_68 (A1.o) (Lay.o65 L) (cp_ok (N1 := 8) (N2 := 8) (N := 8) (A1.k10) (Lay.k65_10 L) (by decide) (A1.n10) (Lay.n65_10 L) ⟨by decide, by decide⟩ (by decide) (by decide)) ?_) k
  (first | exact q | (simp only [Option.getD_some, A1.r10, (Lay.r65_10 L)]; exact q))
theorem w_Walk_begin_83 {rod : Nat → Nat × (Nat → Int32)} {d : Nat} {Q : Option MV → MH → Prop} {u1 : Option MV} {h : MH} (L : Lay h.2)  {Q1 : Option MV → MH → Prop} (c : Wc rod d 24 [.inr (.inr (.inl (some 69))), .inl (0 : Int32)] h Q1) (k : ∀ r1 h2, Q1 r1 h2 → Wb rod d B_Walk_begin 91 [some (.inr (.inr (.inl (some 65)))), u1] (r1.toList ++ []) h2 Q) : Wb rod d B_Walk_begin 83 [some (.inr (.inr (.inl (some 65)))), u1] [] h Q := by
  refine Wb.call (fun _ _ _ _ => b_Walk_begin_83 (Lay.o65 L)) (Q1 := Q1) ?_ ?_
  · (first | exact c | (simp only [Option.getD_some, (Lay.r65_11 L)]; exact c))
  · (first | exact k | (simp only [Option.getD_some, (Lay.r65_11 L)]; exact k))
theorem w_Walk_begin_91 {rod : Nat → Nat × (Nat → Int32)} {d : Nat} {Q : Option MV → MH → Prop} {u0 : Option MV} {u1 : Option MV} {h : MH}   (q : Q (none) h) : Wb rod d B_Walk_begin 91 [u0, u1] [] h Q := by
  refine Wb.ret (b_Walk_begin_91) ?_
  (first | exact q | (simp only [Option.getD_some]; exact q))
theorem n_Walk_done {rod : Nat → Nat × (Nat → Int32)} {d : Nat} {Q : Option MV → MH → Prop} {a1 : Nat} {a2 : Nat} {x3 : Int32} {h : MH} (k : Wb rod d B_Walk_done 0 [some (.inr (.inr (.inl (some 65)))), some (.inr (.inr (.inl (some a1)))), some (.inr (.inr (.inl (some a2)))), some (.inl x3)] [] h Q) : Wc rod (d + 1) 78 [.inr (.inr (.inl (some 65))), .inr (.inr (.inl (some a1))), .inr (.inr (.inl (some a2))), .inl x3] h Q := Wc.en (fun _ _ => e_Walk_done) k
theorem w_Walk_done_0 {rod : Nat → Nat × (Nat → Int32)} {d : Nat} {Q : Option MV → MH → Prop} {u0 : Option MV} {u1 : Option MV} {a2 : Nat} {x3 : Int32} {h : MH} (A2 : SeasonA h.2 a2)  {Q1 : Option MV → MH → Prop} (c : Wc rod d 73 [.inr (.inr (.inl (some a2))), .inl x3] h Q1) (k : ∀ r1 h2, Q1 r1 h2 → Wb rod d B_Walk_done 5 [u0, u1, some (.inr (.inr (.inl (some a2)))), some (.inl x3)] (r1.toList ++ []) h2 Q) : Wb rod d B_Walk_done 0 [u0, u1, some (.inr (.inr (.inl (some a2)))), some (.inl x3)] [] h Q := by
  refine Wb.call (fun _ _ _ _ => b_Walk_done_0 (A2.o)) (Q1 := Q1) ?_ ?_
  · (first | exact c | (simp only [Option.getD_some]; exact c))
  · (first | exact k | (simp only [Option.getD_some]; exact k))
theorem w_Walk_done_5 {rod : Nat → Nat × (Nat → Int32)} {d : Nat} {Q : Option MV → MH → Prop} {u0 : Option MV} {u1 : Option MV} {u2 : Option MV} {u3 : Option MV} {xs0 : Int32} {h : MH}   (k1 : xs0.toInt = 0 → Wb rod d B_Walk_done 38 [u0, u1, u2, u3] [] h Q) (k2 : ¬ xs0.toInt = 0 → Wb rod d B_Walk_done 8 [u0, u1, u2, u3] [] h Q) : Wb rod d B_Walk_done 5 [u0, u1, u2, u3] [.inl xs0] h Q := by
  refine Wb.br (fun _ _ => b_Walk_done_5) (fun c => ?_) (fun c => ?_)
  · have c : (decide (xs0 = 0)) = true := by first | exact c | (simp only [Option.getD_some] at c; exact c)
    (first | exact (k1 (c_eqt c)) | (simp only [Option.getD_some]; exact (k1 (c_eqt c))))
  · have c : (decide (xs0 = 0)) = false := by first | exact c | (simp only [Option.getD_some] at c; exact c)
    (first | exact (k2 (c_eqf c)) | (simp only [Option.getD_some]; exact (k2 (c_eqf c))))
theorem w_Walk_done_8 {rod : Nat → Nat × (Nat → Int32)} {d : Nat} {Q : Option MV → MH → Prop} {a1 : Nat} {a2 : Nat} {x3 : Int32} {h : MH} (A2 : SeasonA h.2 a2) (L : Lay h.2) (g0 : 0 ≤ x3.toInt ∧ x3.toInt < 40) {Q1 : Option MV → MH → Prop} (c : Wc rod d 79 [.inr (.inr (.inl (some 65))), .inr (.inr (.inl (some a1))), .inl (h.1 (a2 + 1) x3.toNatClampNeg), .inl (h.1 (a2 + 2) x3.toNatClampNeg), .inl (h.1 (a2 + 3) x3.toNatClampNeg)] h Q1) (k : ∀ r1 h2, Q1 r1 h2 → Wb rod d B_Walk_done 31 [some (.inr (.inr (.inl (some 65)))), some (.inr (.inr (.inl (some a1)))), some (.inr (.inr (.inl (some a2)))), some (.inl x3)] (r1.toList ++ []) h2 Q) : Wb rod d B_Walk_done 8 [some (.inr (.inr (.inl (some 65)))), some (.inr (.inr (.inl (some a1)))), some (.inr (.inr (.inl (some a2)))), some (.inl x3)] [] h Q := by
  refine Wb.call (fun _ _ _ _ => b_Walk_done_8 (A2.o) (A2.a1 g0) (A2.a2 g0) (A2.a3 g0) (Lay.o65 L)) (Q1 := Q1) ?_ ?_
  · (first | exact c | (simp only [Option.getD_some, A2.r1, A2.r2, A2.r3]; exact c))
  · (first | exact k | (simp only [Option.getD_some, A2.r1, A2.r2, A2.r3]; exact k))
theorem w_Walk_done_31 {rod : Nat → Nat × (Nat → Int32)} {d : Nat} {Q : Option MV → MH → Prop} {u0 : Option MV} {u1 : Option MV} {u2 : Option MV} {u3 : Option MV} {xs0 : Int32} {h : MH}   (k1 : xs0.toInt = 0 → Wb rod d B_Walk_done 38 [u0, u1, u2, u3] [] h Q) (k2 : ¬ xs0.toInt = 0 → Wb rod d B_Walk_done 34 [u0, u1, u2, u3] [] h Q) : Wb rod d B_Walk_done 31 [u0, u1, u2, u3] [.inl xs0] h Q := by
  refine Wb.br (fun _ _ => b_Walk_done_31) (fun c => ?_) (fun c => ?_)
  · have c : (decide (xs0 = 0)) = true := by first | exact c | (simp only [Option.getD_some] at c; exact c)
    (first | exact (k1 (c_eqt c)) | (simp only [Option.getD_some]; exact (k1 (c_eqt c))))
  · have c : (decide (xs0 = 0)) = false := by first | exact c | (simp only [Option.getD_some] at c; exact c)
    (first | exact (k2 (c_eqf c)) | (simp only [Option.getD_some]; exact (k2 (c_eqf c))))
theorem w_Walk_done_34 {rod : Nat → Nat × (Nat → Int32)} {d : Nat} {Q : Option MV → MH → Prop} {u0 : Option MV} {u1 : Option MV} {u2 : Option MV} {u3 : Option MV} {h : MH}   (k : Wb rod d B_Walk_done 39 [u0, u1, u2, u3] [.inl (1 : Int32)] h Q) : Wb rod d B_Walk_done 34 [u0, u1, u2, u3] [] h Q := by
  refine Wb.go (fun r hr q => b_Walk_done_34 ?_) k
  (first | exact q | (simp only [Option.getD_some]; exact q))
theorem w_Walk_done_38 {rod : Nat → Nat × (Nat → Int32)} {d : Nat} {Q : Option MV → MH → Prop} {u0 : Option MV} {u1 : Option MV} {u2 : Option MV} {u3 : Option MV} {h : MH}   (k : Wb rod d B_Walk_done 39 [u0, u1, u2, u3] [.inl (0 : Int32)] h Q) : Wb rod d B_Walk_done 38 [u0, u1, u2, u3] [] h Q := by
  refine Wb.go (fun r hr q => b_Walk_done_38 ?_) k
  (first | exact q | (simp only [Option.getD_some]; exact q))
theorem w_Walk_done_39 {rod : Nat → Nat × (Nat → Int32)} {d : Nat} {Q : Option MV → MH → Prop} {u0 : Option MV} {u1 : Option MV} {u2 : Option MV} {u3 : Option MV} {xs0 : Int32} {h : MH}  (g0 : xs0 = 0 ∨ xs0 = 1) (q : Q (some (.inl xs0)) h) : Wb rod d B_Walk_done 39 [u0, u1, u2, u3] [.inl xs0] h Q := by
  refine Wb.ret (b_Walk_done_39 (d01 g0)) ?_
  (first | exact q | (simp only [Option.getD_some]; exact q))
theorem n_Walk_act {rod : Nat → Nat × (Nat → Int32)} {d : Nat} {Q : Option MV → MH → Prop} {a1 : Nat} {x2 : Int32} {x3 : Int32} {x4 : Int32} {h : MH} (k : Wb rod d B_Walk_act 0 [some (.inr (.inr (.inl (some 65)))), some (.inr (.inr (.inl (some a1)))), some (.inl x2), some (.inl x3), some (.inl x4)] [] h Q) : Wc rod (d + 1) 79 [.inr (.inr (.inl (some 65))), .inr (.inr (.inl (some a1))), .inl x2, .inl x3, .inl x4] h Q := Wc.en (fun _ _ => e_Walk_act) k
theorem w_Walk_act_0 {rod : Nat → Nat × (Nat → Int32)} {d : Nat} {Q : Option MV → MH → Prop} {u0 : Option MV} {u1 : Option MV} {x2 : Int32} {u3 : Option MV} {u4 : Option MV} {h : MH}   (k0 : x2.toInt = 0 → Wb rod d B_Walk_act 44 [u0, u1, some (.inl x2), u3, u4] [] h Q) (k1 : x2.toInt = 1 → Wb rod d B_Walk_act 53 [u0, u1, some (.inl x2), u3, u4] [] h Q) (k2 : x2.toInt = 2 → Wb rod d B_Walk_act 62 [u0, u1, some (.inl x2), u3, u4] [] h Q) (k3 : x2.toInt = 3 → Wb rod d B_Walk_act 69 [u0, u1, some (.inl x2), u3, u4] [] h Q) (k4 : x2.toInt = 4 → Wb rod d B_Walk_act 77 [u0, u1, some (.inl x2), u3, u4] [] h Q) (k5 : x2.toInt = 5 → Wb rod d B_Walk_act 85 [u0, u1, some (.inl x2), u3, u4] [] h Q) (k6 : x2.toInt = 6 → Wb rod d B_Walk_act 91 [u0, u1, some (.inl x2), u3, u4] [] h Q) (kd : x2.toInt ≠ 0 → x2.toInt ≠ 1 → x2.toInt ≠ 2 → x2.toInt ≠ 3 → x2.toInt ≠ 4 → x2.toInt ≠ 5 → x2.toInt ≠ 6 → Wb rod d B_Walk_act 97 [u0, u1, some (.inl x2), u3, u4] [] h Q) : Wb rod d B_Walk_act 0 [u0, u1, some (.inl x2), u3, u4] [] h Q := by
  have key : Wb rod d B_Walk_act (tabT [43, 52, 61, 68, 76, 84, 90] 0 x2 1 97) [u0, u1, some (.inl x2), u3, u4] [] h Q := by
    by_cases e0 : x2 = Int32.ofInt 0
    · rw [show tabT [43, 52, 61, 68, 76, 84, 90] 0 x2 1 97 = 44 from by rw [e0]; rfl]
      exact k0 (by rw [e0]; rfl)
    by_cases e1 : x2 = Int32.ofInt 1
    · rw [show tabT [43, 52, 61, 68, 76, 84, 90] 0 x2 1 97 = 53 from by rw [e1]; rfl]
      exact k1 (by rw [e1]; rfl)
    by_cases e2 : x2 = Int32.ofInt 2
    · rw [show tabT [43, 52, 61, 68, 76, 84, 90] 0 x2 1 97 = 62 from by rw [e2]; rfl]
      exact k2 (by rw [e2]; rfl)
    by_cases e3 : x2 = Int32.ofInt 3
    · rw [show tabT [43, 52, 61, 68, 76, 84, 90] 0 x2 1 97 = 69 from by rw [e3]; rfl]
      exact k3 (by rw [e3]; rfl)
    by_cases e4 : x2 = Int32.ofInt 4
    · rw [show tabT [43, 52, 61, 68, 76, 84, 90] 0 x2 1 97 = 77 from by rw [e4]; rfl]
      exact k4 (by rw [e4]; rfl)
    by_cases e5 : x2 = Int32.ofInt 5
    · rw [show tabT [43, 52, 61, 68, 76, 84, 90] 0 x2 1 97 = 85 from by rw [e5]; rfl]
      exact k5 (by rw [e5]; rfl)
    by_cases e6 : x2 = Int32.ofInt 6
    · rw [show tabT [43, 52, 61, 68, 76, 84, 90] 0 x2 1 97 = 91 from by rw [e6]; rfl]
      exact k6 (by rw [e6]; rfl)
    rw [show tabT [43, 52, 61, 68, 76, 84, 90] 0 x2 1 97 = 97 from (if_neg e0).trans ((if_neg e1).trans ((if_neg e2).trans ((if_neg e3).trans ((if_neg e4).trans ((if_neg e5).trans ((if_neg e6).trans (rfl)))))))]
    exact kd (fun q => e0 (Int32.toInt_inj.mp q)) (fun q => e1 (Int32.toInt_inj.mp q)) (fun q => e2 (Int32.toInt_inj.mp q)) (fun q => e3 (Int32.toInt_inj.mp q)) (fun q => e4 (Int32.toInt_inj.mp q)) (fun q => e5 (Int32.toInt_inj.mp q)) (fun q => e6 (Int32.toInt_inj.mp q))
  refine Wb.go (fun r hr q => b_Walk_act_0 ?_) key
  (first | exact q | (simp only [Option.getD_some]; exact q))
theorem w_Walk_act_44 {rod : Nat → Nat × (Nat → Int32)} {d : Nat} {Q : Option MV → MH → Prop} {a1 : Nat} {u2 : Option MV} {x3 : Int32} {x4 : Int32} {h : MH} (L : Lay h.2)  {Q1 : Option MV → MH → Prop} (c : Wc rod d 80 [.inr (.inr (.inl (some 65))), .inr (.inr (.inl (some a1))), .inl x3, .inl x4] h Q1) (k : ∀ r1 h2, Q1 r1 h2 → Wb rod d B_Walk_act 52 [some (.inr (.inr (.inl (some 65)))), some (.inr (.inr (.inl (some a1)))), u2, some (.inl x3), some (.inl x4)] (r1.toList ++ []) h2 Q) : Wb rod d B_Walk_act 44 [some (.inr (.inr (.inl (some 65)))), some (.inr (.inr (.inl (some a1)))), u2, some (.inl x3), some (.inl x4)] [] h Q := by
  refine Wb.call (fun _ _ _ _ => b_Walk_act_44 (Lay.o65 L)) (Q1 := Q1) ?_ ?_
  · (first | exact c | (simp only [Option.getD_some]; exact c))
  · (first | exact k | (simp only [Option.getD_some]; exact k))
theorem w_Walk_act_52 {rod : Nat → Nat × (Nat → Int32)} {d : Nat} {Q : Option MV → MH → Prop} {u0 : Option MV} {u1 : Option MV} {u2 : Option MV} {u3 : Option MV} {u4 : Option MV} {xs0 : Int32} {h : MH}  (g0 : xs0 = 0 ∨ xs0 = 1) (q : Q (some (.inl xs0)) h) : Wb rod d B_Walk_act 52 [u0, u1, u2, u3, u4] [.inl xs0] h Q := by
  refine Wb.ret (b_Walk_act_52 (d01 g0)) ?_
  (first | exact q | (simp only [Option.getD_some]; exact q))
theorem w_Walk_act_53 {rod : Nat → Nat × (Nat → Int32)} {d : Nat} {Q : Option MV → MH → Prop} {a1 : Nat} {u2 : Option MV} {x3 : Int32} {x4 : Int32} {h : MH} (L : Lay h.2)  {Q1 : Option MV → MH → Prop} (c : Wc rod d 83 [.inr (.inr (.inl (some 65))), .inr (.inr (.inl (some a1))), .inl x3, .inl x4] h Q1) (k : ∀ r1 h2, Q1 r1 h2 → Wb rod d B_Walk_act 61 [some (.inr (.inr (.inl (some 65)))), some (.inr (.inr (.inl (some a1)))), u2, some (.inl x3), some (.inl x4)] (r1.toList ++ []) h2 Q) : Wb rod d B_Walk_act 53 [some (.inr (.inr (.inl (some 65)))), some (.inr (.inr (.inl (some a1)))), u2, some (.inl x3), some (.inl x4)] [] h Q := by
  refine Wb.call (fun _ _ _ _ => b_Walk_act_53 (Lay.o65 L)) (Q1 := Q1) ?_ ?_
  · (first | exact c | (simp only [Option.getD_some]; exact c))
  · (first | exact k | (simp only [Option.getD_some]; exact k))
theorem w_Walk_act_61 {rod : Nat → Nat × (Nat → Int32)} {d : Nat} {Q : Option MV → MH → Prop} {u0 : Option MV} {u1 : Option MV} {u2 : Option MV} {u3 : Option MV} {u4 : Option MV} {xs0 : Int32} {h : MH}  (g0 : xs0 = 0 ∨ xs0 = 1) (q : Q (some (.inl xs0)) h) : Wb rod d B_Walk_act 61 [u0, u1, u2, u3, u4] [.inl xs0] h Q := by
  refine Wb.ret (b_Walk_act_61 (d01 g0)) ?_
  (first | exact q | (simp only [Option.getD_some]; exact q))
theorem w_Walk_act_62 {rod : Nat → Nat × (Nat → Int32)} {d : Nat} {Q : Option MV → MH → Prop} {a1 : Nat} {u2 : Option MV} {x3 : Int32} {u4 : Option MV} {h : MH} (L : Lay h.2)  {Q1 : Option MV → MH → Prop} (c : Wc rod d 84 [.inr (.inr (.inl (some 65))), .inr (.inr (.inl (some a1))), .inl x3] h Q1) (k : ∀ r1 h2, Q1 r1 h2 → Wb rod d B_Walk_act 68 [some (.inr (.inr (.inl (some 65)))), some (.inr (.inr (.inl (some a1)))), u2, some (.inl x3), u4] (r1.toList ++ []) h2 Q) : Wb rod d B_Walk_act 62 [some (.inr (.inr (.inl (some 65)))), some (.inr (.inr (.inl (some a1)))), u2, some (.inl x3), u4] [] h Q := by
  refine Wb.call (fun _ _ _ _ => b_Walk_act_62 (Lay.o65 L)) (Q1 := Q1) ?_ ?_
  · (first | exact c | (simp only [Option.getD_some]; exact c))
  · (first | exact k | (simp only [Option.getD_some]; exact k))
theorem w_Walk_act_68 {rod : Nat → Nat × (Nat → Int32)} {d : Nat} {Q : Option MV → MH → Prop} {u0 : Option MV} {u1 : Option MV} {u2 : Option MV} {u3 : Option MV} {u4 : Option MV} {xs0 : Int32} {h : MH}  (g0 : xs0 = 0 ∨ xs0 = 1) (q : Q (some (.inl xs0)) h) : Wb rod d B_Walk_act 68 [u0, u1, u2, u3, u4] [.inl xs0] h Q := by
  refine Wb.ret (b_Walk_act_68 (d01 g0)) ?_
  (first | exact q | (simp only [Option.getD_some]; exact q))
theorem w_Walk_act_69 {rod : Nat → Nat × (Nat → Int32)} {d : Nat} {Q : Option MV → MH → Prop} {a1 : Nat} {u2 : Option MV} {x3 : Int32} {u4 : Option MV} {h : MH} (L : Lay h.2)  {Q1 : Option MV → MH → Prop} (c : Wc rod d 85 [.inr (.inr (.inl (some 65))), .inr (.inr (.inl (some a1))), .inl x3, .inl (0 : Int32)] h Q1) (k : ∀ r1 h2, Q1 r1 h2 → Wb rod d B_Walk_act 76 [some (.inr (.inr (.inl (some 65)))), some (.inr (.inr (.inl (some a1)))), u2, some (.inl x3), u4] (r1.toList ++ []) h2 Q) : Wb rod d B_Walk_act 69 [some (.inr (.inr (.inl (some 65)))), some (.inr (.inr (.inl (some a1)))), u2, some (.inl x3), u4] [] h Q := by
  refine Wb.call (fun _ _ _ _ => b_Walk_act_69 (Lay.o65 L)) (Q1 := Q1) ?_ ?_
  · (first | exact c | (simp only [Option.getD_some]; exact c))
  · (first | exact k | (simp only [Option.getD_some]; exact k))
theorem w_Walk_act_76 {rod : Nat → Nat × (Nat → Int32)} {d : Nat} {Q : Option MV → MH → Prop} {u0 : Option MV} {u1 : Option MV} {u2 : Option MV} {u3 : Option MV} {u4 : Option MV} {xs0 : Int32} {h : MH}  (g0 : xs0 = 0 ∨ xs0 = 1) (q : Q (some (.inl xs0)) h) : Wb rod d B_Walk_act 76 [u0, u1, u2, u3, u4] [.inl xs0] h Q := by
  refine Wb.ret (b_Walk_act_76 (d01 g0)) ?_
  (first | exact q | (simp only [Option.getD_some]; exact q))
theorem w_Walk_act_77 {rod : Nat → Nat × (Nat → Int32)} {d : Nat} {Q : Option MV → MH → Prop} {a1 : Nat} {u2 : Option MV} {x3 : Int32} {u4 : Option MV} {h : MH} (L : Lay h.2)  {Q1 : Option MV → MH → Prop} (c : Wc rod d 85 [.inr (.inr (.inl (some 65))), .inr (.inr (.inl (some a1))), .inl x3, .inl (1 : Int32)] h Q1) (k : ∀ r1 h2, Q1 r1 h2 → Wb rod d B_Walk_act 84 [some (.inr (.inr (.inl (some 65)))), some (.inr (.inr (.inl (some a1)))), u2, some (.inl x3), u4] (r1.toList ++ []) h2 Q) : Wb rod d B_Walk_act 77 [some (.inr (.inr (.inl (some 65)))), some (.inr (.inr (.inl (some a1)))), u2, some (.inl x3), u4] [] h Q := by
  refine Wb.call (fun _ _ _ _ => b_Walk_act_77 (Lay.o65 L)) (Q1 := Q1) ?_ ?_
  · (first | exact c | (simp only [Option.getD_some]; exact c))
  · (first | exact k | (simp only [Option.getD_some]; exact k))
theorem w_Walk_act_84 {rod : Nat → Nat × (Nat → Int32)} {d : Nat} {Q : Option MV → MH → Prop} {u0 : Option MV} {u1 : Option MV} {u2 : Option MV} {u3 : Option MV} {u4 : Option MV} {xs0 : Int32} {h : MH}  (g0 : xs0 = 0 ∨ xs0 = 1) (q : Q (some (.inl xs0)) h) : Wb rod d B_Walk_act 84 [u0, u1, u2, u3, u4] [.inl xs0] h Q := by
  refine Wb.ret (b_Walk_act_84 (d01 g0)) ?_
  (first | exact q | (simp only [Option.getD_some]; exact q))
theorem w_Walk_act_85 {rod : Nat → Nat × (Nat → Int32)} {d : Nat} {Q : Option MV → MH → Prop} {a1 : Nat} {u2 : Option MV} {u3 : Option MV} {u4 : Option MV} {h : MH} (L : Lay h.2)  {Q1 : Option MV → MH → Prop} (c : Wc rod d 86 [.inr (.inr (.inl (some 65))), .inr (.inr (.inl (some a1)))] h Q1) (k : ∀ r1 h2, Q1 r1 h2 → Wb rod d B_Walk_act 90 [some (.inr (.inr (.inl (some 65)))), some (.inr (.inr (.inl (some a1)))), u2, u3, u4] (r1.toList ++ []) h2 Q) : Wb rod d B_Walk_act 85 [some (.inr (.inr (.inl (some 65)))), some (.inr (.inr (.inl (some a1)))), u2, u3, u4] [] h Q := by
  refine Wb.call (fun _ _ _ _ => b_Walk_act_85 (Lay.o65 L)) (Q1 := Q1) ?_ ?_
  · (first | exact c | (simp only [Option.getD_some]; exact c))
  · (first | exact k | (simp only [Option.getD_some]; exact k))
theorem w_Walk_act_90 {rod : Nat → Nat × (Nat → Int32)} {d : Nat} {Q : Option MV → MH → Prop} {u0 : Option MV} {u1 : Option MV} {u2 : Option MV} {u3 : Option MV} {u4 : Option MV} {xs0 : Int32} {h : MH}  (g0 : xs0 = 0 ∨ xs0 = 1) (q : Q (some (.inl xs0)) h) : Wb rod d B_Walk_act 90 [u0, u1, u2, u3, u4] [.inl xs0] h Q := by
  refine Wb.ret (b_Walk_act_90 (d01 g0)) ?_
  (first | exact q | (simp only [Option.getD_some]; exact q))
theorem w_Walk_act_91 {rod : Nat → Nat × (Nat → Int32)} {d : Nat} {Q : Option MV → MH → Prop} {a1 : Nat} {u2 : Option MV} {u3 : Option MV} {u4 : Option MV} {h : MH} (L : Lay h.2)  {Q1 : Option MV → MH → Prop} (c : Wc rod d 87 [.inr (.inr (.inl (some 65))), .inr (.inr (.inl (some a1)))] h Q1) (k : ∀ r1 h2, Q1 r1 h2 → Wb rod d B_Walk_act 96 [some (.inr (.inr (.inl (some 65)))), some (.inr (.inr (.inl (some a1)))), u2, u3, u4] (r1.toList ++ []) h2 Q) : Wb rod d B_Walk_act 91 [some (.inr (.inr (.inl (some 65)))), some (.inr (.inr (.inl (some a1)))), u2, u3, u4] [] h Q := by
  refine Wb.call (fun _ _ _ _ => b_Walk_act_91 (Lay.o65 L)) (Q1 := Q1) ?_ ?_
  · (first | exact c | (simp only [Option.getD_some]; exact c))
  · (first | exact k | (simp only [Option.getD_some]; exact k))
theorem w_Walk_act_96 {rod : Nat → Nat × (Nat → Int32)} {d : Nat} {Q : Option MV → MH → Prop} {u0 : Option MV} {u1 : Option MV} {u2 : Option MV} {u3 : Option MV} {u4 : Option MV} {xs0 : Int32} {h : MH}  (g0 : xs0 = 0 ∨ xs0 = 1) (q : Q (some (.inl xs0)) h) : Wb rod d B_Walk_act 96 [u0, u1, u2, u3, u4] [.inl xs0] h Q := by
  refine Wb.ret (b_Walk_act_96 (d01 g0)) ?_
  (first | exact q | (simp only [Option.getD_some]; exact q))
theorem w_Walk_act_97 {rod : Nat → Nat × (Nat → Int32)} {d : Nat} {Q : Option MV → MH → Prop} {u0 : Option MV} {u1 : Option MV} {u2 : Option MV} {u3 : Option MV} {u4 : Option MV} {h : MH}   (q : Q (some (.inl (0 : Int32))) h) : Wb rod d B_Walk_act 97 [u0, u1, u2, u3, u4] [] h Q := by
  refine Wb.ret (b_Walk_act_97) ?_
  (first | exact q | (simp only [Option.getD_some]; exact q))
theorem n_Walk_sell {rod : Nat → Nat × (Nat → Int32)} {d : Nat} {Q : Option MV → MH → Prop} {a1 : Nat} {x2 : Int32} {x3 : Int32} {h : MH} (k : Wb rod d B_Walk_sell 0 [some (.inr (.inr (.inl (some 65)))), some (.inr (.inr (.inl (some a1)))), some (.inl x2), some (.inl x3), none, none, none, none] [] h Q) : Wc rod (d + 1) 80 [.inr (.inr (.inl (some 65))), .inr (.inr (.inl (some a1))), .inl x2, .inl x3] h Q := Wc.en (fun _ _ => e_Walk_sell) k
theorem w_Walk_sell_0 {rod : Nat → Nat × (Nat → Int32)} {d : Nat} {Q : Option MV → MH → Prop} {u0 : Option MV} {a1 : Nat} {x2 : Int32} {u3 : Option MV} {u4 : Option MV} {u5 : Option MV} {u6 : Option MV} {u7 : Option MV} {h : MH} (A1 : LandA h.2 a1)  {Q1 : Option MV → MH → Prop} (c : Wc rod d 70 [.inr (.inr (.inl (some a1))), .inl x2] h Q1) (k : ∀ r1 h2, Q1 r1 h2 → Wb rod d B_Walk_sell 5 [u0, some (.inr (.inr (.inl (some a1)))), some (.inl x2), u3, u4, u5, u6, u7] (r1.toList ++ []) h2 Q) : Wb rod d B_Walk_sell 0 [u0, some (.inr (.inr (.inl (some a1)))), some (.inl x2), u3, u4, u5, u6, u7] [] h Q := by
  refine Wb.call (fun _ _ _ _ => b_Walk_sell_0 (A1.o)) (Q1 := Q1) ?_ ?_
  · (first | exact c | (simp only [Option.getD_some]; exact c))
  · (first | exact k | (simp only [Option.getD_some]; exact k))
theorem w_Walk_sell_5 {rod : Nat → Nat × (Nat → Int32)} {d : Nat} {Q : Option MV → MH → Prop} {u0 : Option MV} {u1 : Option MV} {u2 : Option MV} {u3 : Option MV} {u4 : Option MV} {u5 : Option MV} {u6 : Option MV} {u7 : Option MV} {xs0 : Int32} {h : MH}   (k1 : xs0.toInt = 0 → Wb rod d B_Walk_sell 40 [u0, u1, u2, u3, u4, u5, u6, u7] [] h Q) (k2 : ¬ xs0.toInt = 0 → Wb rod d B_Walk_sell 8 [u0, u1, u2, u3, u4, u5, u6, u7] [] h Q) : Wb rod d B_Walk_sell 5 [u0, u1, u2, u3, u4, u5, u6, u7] [.inl xs0] h Q := by
  refine Wb.br (fun _ _ => b_Walk_sell_5) (fun c => ?_) (fun c => ?_)
  · have c : (decide (xs0 = 0)) = true := by first | exact c | (simp only [Option.getD_some] at c; exact c)
    (first | exact (k1 (c_eqt c)) | (simp only [Option.getD_some]; exact (k1 (c_eqt c))))
  · have c : (decide (xs0 = 0)) = false := by first | exact c | (simp only [Option.getD_some] at c; exact c)
    (first | exact (k2 (c_eqf c)) | (simp only [Option.getD_some]; exact (k2 (c_eqf c))))
theorem w_Walk_sell_8 {rod : Nat → Nat × (Nat → Int32)} {d : Nat} {Q : Option MV → MH → Prop} {u0 : Option MV} {a1 : Nat} {u2 : Option MV} {x3 : Int32} {u4 : Option MV} {u5 : Option MV} {u6 : Option MV} {u7 : Option MV} {h : MH} (A1 : LandA h.2 a1)  {Q1 : Option MV → MH → Prop} (c : Wc rod d 68 [.inr (.inr (.inl (some a1))), .inl x3] h Q1) (k : ∀ r1 h2, Q1 r1 h2 → Wb rod d B_Walk_sell 13 [u0, some (.inr (.inr (.inl (some a1)))), u2, some (.inl x3), u4, u5, u6, u7] (r1.toList ++ []) h2 Q) : Wb rod d B_Walk_sell 8 [u0, some (.inr (.inr (.inl (some a1)))), u2, some (.inl x3), u4, u5, u6, u7] [] h Q := by
  refine Wb.call (fun _ _ _ _ => b_Walk_sell_8 (A1.o)) (Q1 := Q1) ?_ ?_
  · (first | exact c | (simp only [Option.getD_some]; exact c))
  · (first | exact k | (simp only [Option.getD_some]; exact k))
theorem w_Walk_sell_13 {rod : Nat → Nat × (Nat → Int32)} {d : Nat} {Q : Option MV → MH → Prop} {u0 : Option MV} {u1 : Option MV} {u2 : Option MV} {u3 : Option MV} {u4 : Option MV} {u5 : Option MV} {u6 : Option MV} {u7 : Option MV} {xs0 : Int32} {h : MH}   (k1 : xs0.toInt = 0 → Wb rod d B_Walk_sell 40 [u0, u1, u2, u3, u4, u5, u6, u7] [] h Q) (k2 : ¬ xs0.toInt = 0 → Wb rod d B_Walk_sell 16 [u0, u1, u2, u3, u4, u5, u6, u7] [] h Q) : Wb rod d B_Walk_sell 13 [u0, u1, u2, u3, u4, u5, u6, u7] [.inl xs0] h Q := by
  refine Wb.br (fun _ _ => b_Walk_sell_13) (fun c => ?_) (fun c => ?_)
  · have c : (decide (xs0 = 0)) = true := by first | exact c | (simp only [Option.getD_some] at c; exact c)
    (first | exact (k1 (c_eqt c)) | (simp only [Option.getD_some]; exact (k1 (c_eqt c))))
  · have c : (decide (xs0 = 0)) = false := by first | exact c | (simp only [Option.getD_some] at c; exact c)
    (first | exact (k2 (c_eqf c)) | (simp only [Option.getD_some]; exact (k2 (c_eqf c))))
theorem w_Walk_sell_16 {rod : Nat → Nat × (Nat → Int32)} {d : Nat} {Q : Option MV → MH → Prop} {a1 : Nat} {x2 : Int32} {u3 : Option MV} {u4 : Option MV} {u5 : Option MV} {u6 : Option MV} {u7 : Option MV} {h : MH} (A1 : LandA h.2 a1) (L : Lay h.2) (g0 : 0 ≤ x2.toInt ∧ x2.toInt < 8) (k1 : ¬ (h.1 (a1 + 2) x2.toNatClampNeg).toInt = (h.1 65 1).toInt → Wb rod d B_Walk_sell 40 [some (.inr (.inr (.inl (some 65)))), some (.inr (.inr (.inl (some a1)))), some (.inl x2), u3, u4, u5, u6, u7] [] h Q) (k2 : (h.1 (a1 + 2) x2.toNatClampNeg).toInt = (h.1 65 1).toInt → Wb rod d B_Walk_sell 29 [some (.inr (.inr (.inl (some 65)))), some (.inr (.inr (.inl (some a1)))), some (.inl x2), u3, u4, u5, u6, u7] [] h Q) : Wb rod d B_Walk_sell 16 [some (.inr (.inr (.inl (some 65)))), some (.inr (.inr (.inl (some a1)))), some (.inl x2), u3, u4, u5, u6, u7] [] h Q := by
  refine Wb.br (fun _ _ => b_Walk_sell_16 (A1.o) (A1.a7 g0) (Lay.o65 L)) (fun c => ?_) (fun c => ?_)
  · have c : (!(decide ((h.1 (a1 + 2) x2.toNatClampNeg) = (h.1 65 1)))) = true := by first | exact c | (simp only [Option.getD_some, A1.r7] at c; exact c)
    (first | exact (k1 (c_net c)) | (simp only [Option.getD_some, A1.r7]; exact (k1 (c_net c))))
  · have c : (!(decide ((h.1 (a1 + 2) x2.toNatClampNeg) = (h.1 65 1)))) = false := by first | exact c | (simp only [Option.getD_some, A1.r7] at c; exact c)
    (first | exact (k2 (c_nef c)) | (simp only [Option.getD_some, A1.r7]; exact (k2 (c_nef c))))
theorem w_Walk_sell_29 {rod : Nat → Nat × (Nat → Int32)} {d : Nat} {Q : Option MV → MH → Prop} {u1 : Option MV} {u2 : Option MV} {u3 : Option MV} {u4 : Option MV} {u5 : Option MV} {u6 : Option MV} {u7 : Option MV} {h : MH} (L : Lay h.2)  {Q1 : Option MV → MH → Prop} (c : Wc rod d 81 [.inr (.inr (.inl (some 65))), .inl (h.1 65 1)] h Q1) (k : ∀ r1 h2, Q1 r1 h2 → Wb rod d B_Walk_sell 37 [some (.inr (.inr (.inl (some 65)))), u1, u2, u3, u4, u5, u6, u7] (r1.toList ++ []) h2 Q) : Wb rod d B_Walk_sell 29 [some (.inr (.inr (.inl (some 65)))), u1, u2, u3, u4, u5, u6, u7] [] h Q := by
  refine Wb.call (fun _ _ _ _ => b_Walk_sell_29 (Lay.o65 L)) (Q1 := Q1) ?_ ?_
  · (first | exact c | (simp only [Option.getD_some]; exact c))
  · (first | exact k | (simp only [Option.getD_some]; exact k))
theorem w_Walk_sell_37 {rod : Nat → Nat × (Nat → Int32)} {d : Nat} {Q : Option MV → MH → Prop} {u0 : Option MV} {u1 : Option MV} {u2 : Option MV} {u3 : Option MV} {u4 : Option MV} {u5 : Option MV} {u6 : Option MV} {u7 : Option MV} {xs0 : Int32} {h : MH}   (k1 : xs0.toInt = 0 → Wb rod d B_Walk_sell 42 [u0, u1, u2, u3, u4, u5, u6, u7] [] h Q) (k2 : ¬ xs0.toInt = 0 → Wb rod d B_Walk_sell 40 [u0, u1, u2, u3, u4, u5, u6, u7] [] h Q) : Wb rod d B_Walk_sell 37 [u0, u1, u2, u3, u4, u5, u6, u7] [.inl xs0] h Q := by
  refine Wb.br (fun _ _ => b_Walk_sell_37) (fun c => ?_) (fun c => ?_)
  · have c : (decide (xs0 = 0)) = true := by first | exact c | (simp only [Option.getD_some] at c; exact c)
    (first | exact (k1 (c_eqt c)) | (simp only [Option.getD_some]; exact (k1 (c_eqt c))))
  · have c : (decide (xs0 = 0)) = false := by first | exact c | (simp only [Option.getD_some] at c; exact c)
    (first | exact (k2 (c_eqf c)) | (simp only [Option.getD_some]; exact (k2 (c_eqf c))))
theorem w_Walk_sell_40 {rod : Nat → Nat × (Nat → Int32)} {d : Nat} {Q : Option MV → MH → Prop} {u0 : Option MV} {u1 : Option MV} {u2 : Option MV} {u3 : Option MV} {u4 : Option MV} {u5 : Option MV} {u6 : Option MV} {u7 : Option MV} {h : MH}   (q : Q (some (.inl (0 : Int32))) h) : Wb rod d B_Walk_sell 40 [u0, u1, u2, u3, u4, u5, u6, u7] [] h Q := by
  refine Wb.ret (b_Walk_sell_40) ?_
  (first | exact q | (simp only [Option.getD_some]; exact q))
theorem w_Walk_sell_42 {rod : Nat → Nat × (Nat → Int32)} {d : Nat} {Q : Option MV → MH → Prop} {a1 : Nat} {x2 : Int32} {x3 : Int32} {u4 : Option MV} {u5 : Option MV} {u6 : Option MV} {u7 : Option MV} {h : MH} (A1 : LandA h.2 a1) (L : Lay h.2) (g0 : 0 ≤ x3.toInt ∧ x3.toInt < 4) (g1 : 0 ≤ x2.toInt ∧ x2.toInt < 8) (k1 : (h.1 67 x2.toNatClampNeg).toInt < (h.1 (a1 + 7) x3.toNatClampNeg).toInt → Wb rod d B_Walk_sell 97 [some (.inr (.inr (.inl (some 65)))), some (.inr (.inr (.inl (some a1)))), some (.inl x2), some (.inl x3), some (.inl (h.1 (a1 + 7) x3.toNatClampNeg)), some (.inl (h.1 (a1 + 6) x3.toNatClampNeg)), u6, u7] [] h Q) (k2 : ¬ (h.1 67 x2.toNatClampNeg).toInt < (h.1 (a1 + 7) x3.toNatClampNeg).toInt → Wb rod d B_Walk_sell 69 [some (.inr (.inr (.inl (some 65)))), some (.inr (.inr (.inl (some a1)))), some (.inl x2), some (.inl x3), some (.inl (h.1 (a1 + 7) x3.toNatClampNeg)), some (.inl (h.1 (a1 + 6) x3.toNatClampNeg)), u6, u7] [] h Q) : Wb rod d B_Walk_sell 42 [some (.inr (.inr (.inl (some 65)))), some (.inr (.inr (.inl (some a1)))), some (.inl x2), some (.inl x3), u4, u5, u6, u7] [] h Q := by
  refine Wb.br (fun _ _ => b_Walk_sell_42 (A1.o) (A1.a12 g0) (A1.a11 g0) (Lay.o65 L) (Lay.a65_9 L g1)) (fun c => ?_) (fun c => ?_)
  · have c : (decide ((h.1 67 x2.toNatClampNeg) < (h.1 (a1 + 7) x3.toNatClampNeg))) = true := by first | exact c | (simp only [Option.getD_some, A1.r12, A1.r11, (Lay.r65_9 L)] at c; exact c)
    (first | exact (k1 (c_ltt c)) | (simp only [Option.getD_some, A1.r12, A1.r11, (Lay.r65_9 L)]; exact (k1 (c_ltt c))))
  · have c : (decide ((h.1 67 x2.toNatClampNeg) < (h.1 (a1 + 7) x3.toNatClampNeg))) = false := by first | exact c | (simp only [Option.getD_some, A1.r12, A1.r11, (Lay.r65_9 L)] at c; exact c)
    (first | exact (k2 (c_ltf c)) | (simp only [Option.getD_some, A1.r12, A1.r11, (Lay.r65_9 L)]; exact (k2 (c_ltf c))))
theorem w_Walk_sell_69 {rod : Nat → Nat × (Nat → Int32)} {d : Nat} {Q : Option MV → MH → Prop} {a1 : Nat} {x2 : Int32} {u3 : Option MV} {x4 : Int32} {x5 : Int32} {u6 : Option MV} {u7 : Option MV} {h : MH} (A1 : LandA h.2 a1) (L : Lay h.2) (g0 : 0 ≤ x2.toInt ∧ x2.toInt < 8) {Q1 : Option MV → MH → Prop} (c : Wc rod d 82 [.inl (h.1 (a1 + 1) x2.toNatClampNeg), .inl (h.1 66 x2.toNatClampNeg), .inl (h.1 68 x2.toNatClampNeg), .inl x5, .inl x4] h Q1) (k : ∀ r1 h2, Q1 r1 h2 → Wb rod d B_Walk_sell 94 [some (.inr (.inr (.inl (some 65)))), some (.inr (.inr (.inl (some a1)))), some (.inl x2), u3, some (.inl x4), some (.inl x5), u6, u7] (r1.toList ++ []) h2 Q) : Wb rod d B_Walk_sell 69 [some (.inr (.inr (.inl (some 65)))), some (.inr (.inr (.inl (some a1)))), some (.inl x2), u3, some (.inl x4), some (.inl x5), u6, u7] [] h Q := by
  refine Wb.call (fun _ _ _ _ => b_Walk_sell_69 (A1.o) (A1.a6 g0) (Lay.o65 L) (Lay.a65_8 L g0) (Lay.a65_10 L g0)) (Q1 := Q1) ?_ ?_
  · (first | exact c | (simp only [Option.getD_some, A1.r6, (Lay.r65_8 L), (Lay.r65_10 L)]; exact c))
  · (first | exact k | (simp only [Option.getD_some, A1.r6, (Lay.r65_8 L), (Lay.r65_10 L)]; exact k))
theorem w_Walk_sell_94 {rod : Nat → Nat × (Nat → Int32)} {d : Nat} {Q : Option MV → MH → Prop} {u0 : Option MV} {u1 : Option MV} {u2 : Option MV} {u3 : Option MV} {u4 : Option MV} {u5 : Option MV} {u6 : Option MV} {u7 : Option MV} {xs0 : Int32} {h : MH}   (k1 : ¬ xs0.toInt = 0 → Wb rod d B_Walk_sell 99 [u0, u1, u2, u3, u4, u5, u6, u7] [] h Q) (k2 : xs0.toInt = 0 → Wb rod d B_Walk_sell 97 [u0, u1, u2, u3, u4, u5, u6, u7] [] h Q) : Wb rod d B_Walk_sell 94 [u0, u1, u2, u3, u4, u5, u6, u7] [.inl xs0] h Q := by
  refine Wb.br (fun _ _ => b_Walk_sell_94) (fun c => ?_) (fun c => ?_)
  · have c : (!(decide (xs0 = 0))) = true := by first | exact c | (simp only [Option.getD_some] at c; exact c)
    (first | exact (k1 (c_net c)) | (simp only [Option.getD_some]; exact (k1 (c_net c))))
  · have c : (!(decide (xs0 = 0))) = false := by first | exact c | (simp only [Option.getD_some] at c; exact c)
    (first | exact (k2 (c_nef c)) | (simp only [Option.getD_some]; exact (k2 (c_nef c))))
theorem w_Walk_sell_97 {rod : Nat → Nat × (Nat → Int32)} {d : Nat} {Q : Option MV → MH → Prop} {u0 : Option MV} {u1 : Option MV} {u2 : Option MV} {u3 : Option MV} {u4 : Option MV} {u5 : Option MV} {u6 : Option MV} {u7 : Option MV} {h : MH}   (q : Q (some (.inl (0 : Int32))) h) : Wb rod d B_Walk_sell 97 [u0, u1, u2, u3, u4, u5, u6, u7] [] h Q := by
  refine Wb.ret (b_Walk_sell_97) ?_
  (first | exact q | (simp only [Option.getD_some]; exact q))
theorem w_Walk_sell_99 {rod : Nat → Nat × (Nat → Int32)} {d : Nat} {Q : Option MV → MH → Prop} {u1 : Option MV} {x2 : Int32} {u3 : Option MV} {x4 : Int32} {u5 : Option MV} {u6 : Option MV} {u7 : Option MV} {h : MH} (L : Lay h.2) (g0 : 0 ≤ x2.toInt ∧ x2.toInt < 8) (k : Wb rod d B_Walk_sell 110 [some (.inr (.inr (.inl (some 65)))), u1, some (.inl x2), u3, some (.inl x4), u5, u6, u7] [] (sI h 67 x2.toNatClampNeg ((h.1 67 x2.toNatClampNeg) - x4)) Q) : Wb rod d B_Walk_sell 99 [some (.inr (.inr (.inl (some 65)))), u1, some (.inl x2), u3, some (.inl x4), u5, u6, u7] [] h Q := by
  refine Wb.go (fun r hr q => b_Walk_sell_99 (Lay.o65 L) (Lay.a65_9 L g0) ?_) k
  (first | exact q | (simp only [Option.getD_some, (Lay.r65_9 L)]; exact q))
theorem w_Walk_sell_110 {rod : Nat → Nat × (Nat → Int32)} {d : Nat} {Q : Option MV → MH → Prop} {u1 : Option MV} {x2 : Int32} {u3 : Option MV} {u4 : Option MV} {x5 : Int32} {u6 : Option MV} {u7 : Option MV} {h : MH} (L : Lay h.2) (g0 : 0 ≤ x2.toInt ∧ x2.toInt < 8) (k : Wb rod d B_Walk_sell 121 [some (.inr (.inr (.inl (some 65)))), u1, some (.inl x2), u3, u4, some (.inl x5), u6, u7] [] (sI h 66 x2.toNatClampNeg ((h.1 66 x2.toNatClampNeg) - x5)) Q) : Wb rod d B_Walk_sell 110 [some (.inr (.inr (.inl (some 65)))), u1, some (.inl x2), u3, u4, some (.inl x5), u6, u7] [] h Q := by
  refine Wb.go (fun r hr q => b_Walk_sell_110 (Lay.o65 L) (Lay.a65_8 L g0) ?_) k
  (first | exact q | (simp only [Option.getD_some, (Lay.r65_8 L)]; exact q))
theorem w_Walk_sell_121 {rod : Nat → Nat × (Nat → Int32)} {d : Nat} {Q : Option MV → MH → Prop} {u0 : Option MV} {a1 : Nat} {x2 : Int32} {u3 : Option MV} {u4 : Option MV} {u5 : Option MV} {u6 : Option MV} {u7 : Option MV} {h : MH} (A1 : LandA h.2 a1) (g0 : 0 ≤ x2.toInt ∧ x2.toInt < 8) (k1 : (h.1 (a1 + 1) x2.toNatClampNeg).toInt = 1 → Wb rod d B_Walk_sell 147 [u0, some (.inr (.inr (.inl (some a1)))), some (.inl x2), u3, u4, u5, u6, u7] [] h Q) (k2 : ¬ (h.1 (a1 + 1) x2.toNatClampNeg).toInt = 1 → Wb rod d B_Walk_sell 131 [u0, some (.inr (.inr (.inl (some a1)))), some (.inl x2), u3, u4, u5, u6, u7] [] h Q) : Wb rod d B_Walk_sell 121 [u0, some (.inr (.inr (.inl (some a1)))), some (.inl x2), u3, u4, u5, u6, u7] [] h Q := by
  refine Wb.br (fun _ _ => b_Walk_sell_121 (A1.o) (A1.a6 g0)) (fun c => ?_) (fun c => ?_)
  · have c : (decide ((h.1 (a1 + 1) x2.toNatClampNeg) = (1 : Int32))) = true := by first | exact c | (simp only [Option.getD_some, A1.r6] at c; exact c)
    (first | exact (k1 (c_eqt c)) | (simp only [Option.getD_some, A1.r6]; exact (k1 (c_eqt c))))
  · have c : (decide ((h.1 (a1 + 1) x2.toNatClampNeg) = (1 : Int32))) = false := by first | exact c | (simp only [Option.getD_some, A1.r6] at c; exact c)
    (first | exact (k2 (c_eqf c)) | (simp only [Option.getD_some, A1.r6]; exact (k2 (c_eqf c))))
theorem w_Walk_sell_131 {rod : Nat → Nat × (Nat → Int32)} {d : Nat} {Q : Option MV → MH → Prop} {u1 : Option MV} {x2 : Int32} {u3 : Option MV} {u4 : Option MV} {u5 : Option MV} {u6 : Option MV} {u7 : Option MV} {h : MH} (L : Lay h.2) (g0 : 0 ≤ x2.toInt ∧ x2.toInt < 8) (k : Wb rod d B_Walk_sell 147 [some (.inr (.inr (.inl (some 65)))), u1, some (.inl x2), u3, u4, u5, u6, u7] [] (sI h 66 x2.toNatClampNeg (if (0 : Int32) < (h.1 66 x2.toNatClampNeg) then (h.1 66 x2.toNatClampNeg) else (0 : Int32))) Q) : Wb rod d B_Walk_sell 131 [some (.inr (.inr (.inl (some 65)))), u1, some (.inl x2), u3, u4, u5, u6, u7] [] h Q := by
  refine Wb.go (fun r hr q => b_Walk_sell_131 (Lay.o65 L) (Lay.a65_8 L g0) ?_) k
  (first | exact q | (simp only [Option.getD_some, (Lay.r65_8 L)]; exact q))
theorem w_Walk_sell_147 {rod : Nat → Nat × (Nat → Int32)} {d : Nat} {Q : Option MV → MH → Prop} {u1 : Option MV} {x2 : Int32} {u3 : Option MV} {u4 : Option MV} {x5 : Int32} {u6 : Option MV} {u7 : Option MV} {h : MH} (L : Lay h.2) (g0 : 0 ≤ x2.toInt ∧ x2.toInt < 8) (k : Wb rod d B_Walk_sell 158 [some (.inr (.inr (.inl (some 65)))), u1, some (.inl x2), u3, u4, some (.inl x5), u6, u7] [] (sI h 69 x2.toNatClampNeg ((h.1 69 x2.toNatClampNeg) + x5)) Q) : Wb rod d B_Walk_sell 147 [some (.inr (.inr (.inl (some 65)))), u1, some (.inl x2), u3, u4, some (.inl x5), u6, u7] [] h Q := by
  refine Wb.go (fun r hr q => b_Walk_sell_147 (Lay.o65 L) (Lay.a65_11 L g0) ?_) k
  (first | exact q | (simp only [Option.getD_some, (Lay.r65_11 L)]; exact q))
theorem w_Walk_sell_158 {rod : Nat → Nat × (Nat → Int32)} {d : Nat} {Q : Option MV → MH → Prop} {u1 : Option MV} {u2 : Option MV} {u3 : Option MV} {u4 : Option MV} {u5 : Option MV} {u6 : Option MV} {u7 : Option MV} {h : MH} (L : Lay h.2)  (k : Wb rod d B_Walk_sell 168 [some (.inr (.inr (.inl (some 65)))), u1, u2, u3, u4, u5, u6, u7] [] (sI h 65 3 ((h.1 65 3) + (1 : Int32))) Q) : Wb rod d B_Walk_sell 158 [some (.inr (.inr (.inl (some 65)))), u1, u2, u3, u4, u5, u6, u7] [] h Q := by
  refine Wb.go (fun r hr q => b_Walk_sell_158 (Lay.o65 L) ?_) k
  (first | exact q | (simp only [Option.getD_some]; exact q))
theorem w_Walk_sell_168 {rod : Nat → Nat × (Nat → Int32)} {d : Nat} {Q : Option MV → MH → Prop} {a1 : Nat} {u2 : Option MV} {u3 : Option MV} {x4 : Int32} {u5 : Option MV} {u6 : Option MV} {u7 : Option MV} {h : MH} (A1 : LandA h.2 a1) (L : Lay h.2) (g0 : okl [some (.inr (.inr (.inl (some 65)))), some (.inr (.inr (.inl (some a1)))), u2, u3, some (.inl x4), u5, u6, u7] 6 = true) (k : Wb rod d B_Walk_sell 203 [some (.inr (.inr (.inl (some 65)))), some (.inr (.inr (.inl (some a1)))), u2, u3, some (.inl x4), u5, some (.inl ((x4 * (h.1 a1 1)) / (10 : Int32))), some (.inl ((x4 * (h.1 a1 2)) / (10 : Int32)))] [] (sI h 65 4 ((h.1 65 4) + ((x4 * (h.1 a1 1)) / (10 : Int32)))) Q) : Wb rod d B_Walk_sell 168 [some (.inr (.inr (.inl (some 65)))), some (.inr (.inr (.inl (some a1)))), u2, u3, some (.inl x4), u5, u6, u7] [] h Q := by
  refine Wb.go (fun r hr q => b_Walk_sell_168 (A1.o) (by decide) g0 (Lay.o65 L) ?_) k
  (first | exact q | (simp only [Option.getD_some]; exact q))
theorem w_Walk_sell_203 {rod : Nat → Nat × (Nat → Int32)} {d : Nat} {Q : Option MV → MH → Prop} {u1 : Option MV} {u2 : Option MV} {u3 : Option MV} {u4 : Option MV} {u5 : Option MV} {u6 : Option MV} {x7 : Int32} {h : MH} (L : Lay h.2)  (k : Wb rod d B_Walk_sell 214 [some (.inr (.inr (.inl (some 65)))), u1, u2, u3, u4, u5, u6, some (.inl x7)] [] (sI h 65 5 ((h.1 65 5) + x7)) Q) : Wb rod d B_Walk_sell 203 [some (.inr (.inr (.inl (some 65)))), u1, u2, u3, u4, u5, u6, some (.inl x7)] [] h Q := by
  refine Wb.go (fun r hr q => b_Walk_sell_203 (Lay.o65 L) ?_) k
  (first | exact q | (simp only [Option.getD_some]; exact q))
theorem w_Walk_sell_214 {rod : Nat → Nat × (Nat → Int32)} {d : Nat} {Q : Option MV → MH → Prop} {u1 : Option MV} {u2 : Option MV} {u3 : Option MV} {x4 : Int32} {u5 : Option MV} {x6 : Int32} {x7 : Int32} {h : MH} (L : Lay h.2)  (k : Wb rod d B_Walk_sell 231 [some (.inr (.inr (.inl (some 65)))), u1, u2, u3, some (.inl x4), u5, some (.inl x6), some (.inl x7)] [] (sI h 65 6 ((h.1 65 6) + ((x4 - x6) - x7))) Q) : Wb rod d B_Walk_sell 214 [some (.inr (.inr (.inl (some 65)))), u1, u2, u3, some (.inl x4), u5, some (.inl x6), some (.inl x7)] [] h Q := by
  refine Wb.go (fun r hr q => b_Walk_sell_214 (Lay.o65 L) ?_) k
  (first | exact q | (simp only [Option.getD_some]; exact q))
theorem w_Walk_sell_231 {rod : Nat → Nat × (Nat → Int32)} {d : Nat} {Q : Option MV → MH → Prop} {u0 : Option MV} {u1 : Option MV} {u2 : Option MV} {u3 : Option MV} {u4 : Option MV} {u5 : Option MV} {u6 : Option MV} {u7 : Option MV} {h : MH}   (q : Q (some (.inl (1 : Int32))) h) : Wb rod d B_Walk_sell 231 [u0, u1, u2, u3, u4, u5, u6, u7] [] h Q := by
  refine Wb.ret (b_Walk_sell_231) ?_
  (first | exact q | (simp only [Option.getD_some]; exact q))
theorem n_Walk_isShut {rod : Nat → Nat × (Nat → Int32)} {d : Nat} {Q : Option MV → MH → Prop} {x1 : Int32} {h : MH} (k : Wb rod d B_Walk_isShut 0 [some (.inr (.inr (.inl (some 65)))), some (.inl x1)] [] h Q) : Wc rod (d + 1) 81 [.inr (.inr (.inl (some 65))), .inl x1] h Q := Wc.en (fun _ _ => e_Walk_isShut) k
theorem w_Walk_isShut_0 {rod : Nat → Nat × (Nat → Int32)} {d : Nat} {Q : Option MV → MH → Prop} {x1 : Int32} {h : MH} (L : Lay h.2)  (k1 : (((h.1 65 2) >>> (x1 &&& 31)) &&& (1 : Int32)).toInt = 0 → Wb rod d B_Walk_isShut 15 [some (.inr (.inr (.inl (some 65)))), some (.inl x1)] [] h Q) (k2 : ¬ (((h.1 65 2) >>> (x1 &&& 31)) &&& (1 : Int32)).toInt = 0 → Wb rod d B_Walk_isShut 11 [some (.inr (.inr (.inl (some 65)))), some (.inl x1)] [] h Q) : Wb rod d B_Walk_isShut 0 [some (.inr (.inr (.inl (some 65)))), some (.inl x1)] [] h Q := by
  refine Wb.br (fun _ _ => b_Walk_isShut_0 (Lay.o65 L)) (fun c => ?_) (fun c => ?_)
  · have c : (decide ((((h.1 65 2) >>> (x1 &&& 31)) &&& (1 : Int32)) = 0)) = true := by first | exact c | (simp only [Option.getD_some] at c; exact c)
    (first | exact (k1 (c_eqt c)) | (simp only [Option.getD_some]; exact (k1 (c_eqt c))))
  · have c : (decide ((((h.1 65 2) >>> (x1 &&& 31)) &&& (1 : Int32)) = 0)) = false := by first | exact c | (simp only [Option.getD_some] at c; exact c)
    (first | exact (k2 (c_eqf c)) | (simp only [Option.getD_some]; exact (k2 (c_eqf c))))
theorem w_Walk_isShut_11 {rod : Nat → Nat × (Nat → Int32)} {d : Nat} {Q : Option MV → MH → Prop} {u0 : Option MV} {u1 : Option MV} {h : MH}   (k : Wb rod d B_Walk_isShut 16 [u0, u1] [.inl (1 : Int32)] h Q) : Wb rod d B_Walk_isShut 11 [u0, u1] [] h Q := by
  refine Wb.go (fun r hr q => b_Walk_isShut_11 ?_) k
  (first | exact q | (simp only [Option.getD_some]; exact q))
theorem w_Walk_isShut_15 {rod : Nat → Nat × (Nat → Int32)} {d : Nat} {Q : Option MV → MH → Prop} {u0 : Option MV} {u1 : Option MV} {h : MH}   (k : Wb rod d B_Walk_isShut 16 [u0, u1] [.inl (0 : Int32)] h Q) : Wb rod d B_Walk_isShut 15 [u0, u1] [] h Q := by
  refine Wb.go (fun r hr q => b_Walk_isShut_15 ?_) k
  (first | exact q | (simp only [Option.getD_some]; exact q))
theorem w_Walk_isShut_16 {rod : Nat → Nat × (Nat → Int32)} {d : Nat} {Q : Option MV → MH → Prop} {u0 : Option MV} {u1 : Option MV} {xs0 : Int32} {h : MH}  (g0 : xs0 = 0 ∨ xs0 = 1) (q : Q (some (.inl xs0)) h) : Wb rod d B_Walk_isShut 16 [u0, u1] [.inl xs0] h Q := by
  refine Wb.ret (b_Walk_isShut_16 (d01 g0)) ?_
  (first | exact q | (simp only [Option.getD_some]; exact q))
theorem n_Land_isWorthIt {rod : Nat → Nat × (Nat → Int32)} {d : Nat} {Q : Option MV → MH → Prop} {x0 : Int32} {x1 : Int32} {x2 : Int32} {x3 : Int32} {x4 : Int32} {h : MH} (k : Wb rod d B_Land_isWorthIt 0 [some (.inl x0), some (.inl x1), some (.inl x2), some (.inl x3), some (.inl x4), none, none] [] h Q) : Wc rod (d + 1) 82 [.inl x0, .inl x1, .inl x2, .inl x3, .inl x4] h Q := Wc.en (fun _ _ => e_Land_isWorthIt) k
theorem w_Land_isWorthIt_0 {rod : Nat → Nat × (Nat → Int32)} {d : Nat} {Q : Option MV → MH → Prop} {x0 : Int32} {u1 : Option MV} {u2 : Option MV} {u3 : Option MV} {u4 : Option MV} {u5 : Option MV} {u6 : Option MV} {h : MH}   (k1 : ¬ x0.toInt = 1 → Wb rod d B_Land_isWorthIt 19 [some (.inl x0), u1, u2, u3, u4, u5, u6] [] h Q) (k2 : x0.toInt = 1 → Wb rod d B_Land_isWorthIt 5 [some (.inl x0), u1, u2, u3, u4, u5, u6] [] h Q) : Wb rod d B_Land_isWorthIt 0 [some (.inl x0), u1, u2, u3, u4, u5, u6] [] h Q := by
  refine Wb.br (fun _ _ => b_Land_isWorthIt_0) (fun c => ?_) (fun c => ?_)
  · have c : (!(decide (x0 = (1 : Int32)))) = true := by first | exact c | (simp only [Option.getD_some] at c; exact c)
    (first | exact (k1 (c_net c)) | (simp only [Option.getD_some]; exact (k1 (c_net c))))
  · have c : (!(decide (x0 = (1 : Int32)))) = false := by first | exact c | (simp only [Option.getD_some] at c; exact c)
    (first | exact (k2 (c_nef c)) | (simp only [Option.getD_some]; exact (k2 (c_nef c))))
theorem w_Land_isWorthIt_5 {rod : Nat → Nat × (Nat → Int32)} {d : Nat} {Q : Option MV → MH → Prop} {u0 : Option MV} {u1 : Option MV} {x2 : Int32} {x3 : Int32} {x4 : Int32} {u5 : Option MV} {u6 : Option MV} {h : MH}   (k1 : (x2 * x3).toInt < x4.toInt → Wb rod d B_Land_isWorthIt 17 [u0, u1, some (.inl x2), some (.inl x3), some (.inl x4), u5, u6] [] h Q) (k2 : ¬ (x2 * x3).toInt < x4.toInt → Wb rod d B_Land_isWorthIt 13 [u0, u1, some (.inl x2), some (.inl x3), some (.inl x4), u5, u6] [] h Q) : Wb rod d B_Land_isWorthIt 5 [u0, u1, some (.inl x2), some (.inl x3), some (.inl x4), u5, u6] [] h Q := by
  refine Wb.br (fun _ _ => b_Land_isWorthIt_5) (fun c => ?_) (fun c => ?_)
  · have c : (decide ((x2 * x3) < x4)) = true := by first | exact c | (simp only [Option.getD_some] at c; exact c)
    (first | exact (k1 (c_ltt c)) | (simp only [Option.getD_some]; exact (k1 (c_ltt c))))
  · have c : (decide ((x2 * x3) < x4)) = false := by first | exact c | (simp only [Option.getD_some] at c; exact c)
    (first | exact (k2 (c_ltf c)) | (simp only [Option.getD_some]; exact (k2 (c_ltf c))))
theorem w_Land_isWorthIt_13 {rod : Nat → Nat × (Nat → Int32)} {d : Nat} {Q : Option MV → MH → Prop} {u0 : Option MV} {u1 : Option MV} {u2 : Option MV} {u3 : Option MV} {u4 : Option MV} {u5 : Option MV} {u6 : Option MV} {h : MH}   (k : Wb rod d B_Land_isWorthIt 18 [u0, u1, u2, u3, u4, u5, u6] [.inl (1 : Int32)] h Q) : Wb rod d B_Land_isWorthIt 13 [u0, u1, u2, u3, u4, u5, u6] [] h Q := by
  refine Wb.go (fun r hr q => b_Land_isWorthIt_13 ?_) k
  (first | exact q | (simp only [Option.getD_some]; exact q))
theorem w_Land_isWorthIt_17 {rod : Nat → Nat × (Nat → Int32)} {d : Nat} {Q : Option MV → MH → Prop} {u0 : Option MV} {u1 : Option MV} {u2 : Option MV} {u3 : Option MV} {u4 : Option MV} {u5 : Option MV} {u6 : Option MV} {h : MH}   (k : Wb rod d B_Land_isWorthIt 18 [u0, u1, u2, u3, u4, u5, u6] [.inl (0 : Int32)] h Q) : Wb rod d B_Land_isWorthIt 17 [u0, u1, u2, u3, u4, u5, u6] [] h Q := by
  refine Wb.go (fun r hr q => b_Land_isWorthIt_17 ?_) k
  (first | exact q | (simp only [Option.getD_some]; exact q))
theorem w_Land_isWorthIt_18 {rod : Nat → Nat × (Nat → Int32)} {d : Nat} {Q : Option MV → MH → Prop} {u0 : Option MV} {u1 : Option MV} {u2 : Option MV} {u3 : Option MV} {u4 : Option MV} {u5 : Option MV} {u6 : Option MV} {xs0 : Int32} {h : MH}  (g0 : xs0 = 0 ∨ xs0 = 1) (q : Q (some (.inl xs0)) h) : Wb rod d B_Land_isWorthIt 18 [u0, u1, u2, u3, u4, u5, u6] [.inl xs0] h Q := by
  refine Wb.ret (b_Land_isWorthIt_18 (d01 g0)) ?_
  (first | exact q | (simp only [Option.getD_some]; exact q))
theorem w_Land_isWorthIt_19 {rod : Nat → Nat × (Nat → Int32)} {d : Nat} {Q : Option MV → MH → Prop} {x0 : Int32} {u1 : Option MV} {u2 : Option MV} {u3 : Option MV} {u4 : Option MV} {u5 : Option MV} {u6 : Option MV} {h : MH}   (k1 : ¬ x0.toInt = 3 → Wb rod d B_Land_isWorthIt 31 [some (.inl x0), u1, u2, u3, u4, u5, u6] [] h Q) (k2 : x0.toInt = 3 → Wb rod d B_Land_isWorthIt 24 [some (.inl x0), u1, u2, u3, u4, u5, u6] [] h Q) : Wb rod d B_Land_isWorthIt 19 [some (.inl x0), u1, u2, u3, u4, u5, u6] [] h Q := by
  refine Wb.br (fun _ _ => b_Land_isWorthIt_19) (fun c => ?_) (fun c => ?_)
  · have c : (!(decide (x0 = (3 : Int32)))) = true := by first | exact c | (simp only [Option.getD_some] at c; exact c)
    (first | exact (k1 (c_net c)) | (simp only [Option.getD_some]; exact (k1 (c_net c))))
  · have c : (!(decide (x0 = (3 : Int32)))) = false := by first | exact c | (simp only [Option.getD_some] at c; exact c)
    (first | exact (k2 (c_nef c)) | (simp only [Option.getD_some]; exact (k2 (c_nef c))))
theorem w_Land_isWorthIt_24 {rod : Nat → Nat × (Nat → Int32)} {d : Nat} {Q : Option MV → MH → Prop} {u0 : Option MV} {u1 : Option MV} {u2 : Option MV} {u3 : Option MV} {x4 : Int32} {u5 : Option MV} {u6 : Option MV} {h : MH}   (k : Wb rod d B_Land_isWorthIt 33 [u0, u1, u2, u3, some (.inl x4), u5, u6] [.inl ((2 : Int32) * x4)] h Q) : Wb rod d B_Land_isWorthIt 24 [u0, u1, u2, u3, some (.inl x4), u5, u6] [] h Q := by
  refine Wb.go (fun r hr q => b_Land_isWorthIt_24 ?_) k
  (first | exact q | (simp only [Option.getD_some]; exact q))
theorem w_Land_isWorthIt_31 {rod : Nat → Nat × (Nat → Int32)} {d : Nat} {Q : Option MV → MH → Prop} {u0 : Option MV} {u1 : Option MV} {u2 : Option MV} {u3 : Option MV} {x4 : Int32} {u5 : Option MV} {u6 : Option MV} {h : MH}   (k : Wb rod d B_Land_isWorthIt 33 [u0, u1, u2, u3, some (.inl x4), u5, u6] [.inl x4] h Q) : Wb rod d B_Land_isWorthIt 31 [u0, u1, u2, u3, some (.inl x4), u5, u6] [] h Q := by
  refine Wb.go (fun r hr q => b_Land_isWorthIt_31 ?_) k
  (first | exact q | (simp only [Option.getD_some]; exact q))
theorem w_Land_isWorthIt_33 {rod : Nat → Nat × (Nat → Int32)} {d : Nat} {Q : Option MV → MH → Prop} {x0 : Int32} {u1 : Option MV} {u2 : Option MV} {u3 : Option MV} {u4 : Option MV} {u5 : Option MV} {u6 : Option MV} {xs0 : Int32} {h : MH}  (g0 : okl [some (.inl x0), u1, u2, u3, u4, u5, u6] 5 = true) (k1 : ¬ x0.toInt = 2 → Wb rod d B_Land_isWorthIt 46 [some (.inl x0), u1, u2, u3, u4, some (.inl xs0), u6] [] h Q) (k2 : x0.toInt = 2 → Wb rod d B_Land_isWorthIt 40 [some (.inl x0), u1, u2, u3, u4, some (.inl xs0), u6] [] h Q) : Wb rod d B_Land_isWorthIt 33 [some (.inl x0), u1, u2, u3, u4, u5, u6] [.inl xs0] h Q := by
  refine Wb.br (fun _ _ => b_Land_isWorthIt_33 g0) (fun c => ?_) (fun c => ?_)
  · have c : (!(decide (x0 = (2 : Int32)))) = true := by first | exact c | (simp only [Option.getD_some] at c; exact c)
    (first | exact (k1 (c_net c)) | (simp only [Option.getD_some]; exact (k1 (c_net c))))
  · have c : (!(decide (x0 = (2 : Int32)))) = false := by first | exact c | (simp only [Option.getD_some] at c; exact c)
    (first | exact (k2 (c_nef c)) | (simp only [Option.getD_some]; exact (k2 (c_nef c))))
theorem w_Land_isWorthIt_40 {rod : Nat → Nat × (Nat → Int32)} {d : Nat} {Q : Option MV → MH → Prop} {u0 : Option MV} {u1 : Option MV} {x2 : Int32} {u3 : Option MV} {u4 : Option MV} {u5 : Option MV} {u6 : Option MV} {h : MH}   (k : Wb rod d B_Land_isWorthIt 47 [u0, u1, some (.inl x2), u3, u4, u5, u6] [.inl ((2 : Int32) * x2)] h Q) : Wb rod d B_Land_isWorthIt 40 [u0, u1, some (.inl x2), u3, u4, u5, u6] [] h Q := by
  refine Wb.go (fun r hr q => b_Land_isWorthIt_40 ?_) k
  (first | exact q | (simp only [Option.getD_some]; exact q))
theorem w_Land_isWorthIt_46 {rod : Nat → Nat × (Nat → Int32)} {d : Nat} {Q : Option MV → MH → Prop} {u0 : Option MV} {u1 : Option MV} {x2 : Int32} {u3 : Option MV} {u4 : Option MV} {u5 : Option MV} {u6 : Option MV} {h : MH}   (k : Wb rod d B_Land_isWorthIt 47 [u0, u1, some (.inl x2), u3, u4, u5, u6] [.inl x2] h Q) : Wb rod d B_Land_isWorthIt 46 [u0, u1, some (.inl x2), u3, u4, u5, u6] [] h Q := by
  refine Wb.go (fun r hr q => b_Land_isWorthIt_46 ?_) k
  (first | exact q | (simp only [Option.getD_some]; exact q))
theorem w_Land_isWorthIt_47 {rod : Nat → Nat × (Nat → Int32)} {d : Nat} {Q : Option MV → MH → Prop} {u0 : Option MV} {x1 : Int32} {u2 : Option MV} {u3 : Option MV} {u4 : Option MV} {u5 : Option MV} {u6 : Option MV} {xs0 : Int32} {h : MH}  (g0 : okl [u0, some (.inl x1), u2, u3, u4, u5, u6] 6 = true) (k1 : x1.toInt ≤ 0 → Wb rod d B_Land_isWorthIt 70 [u0, some (.inl x1), u2, u3, u4, u5, some (.inl xs0)] [] h Q) (k2 : ¬ x1.toInt ≤ 0 → Wb rod d B_Land_isWorthIt 53 [u0, some (.inl x1), u2, u3, u4, u5, some (.inl xs0)] [] h Q) : Wb rod d B_Land_isWorthIt 47 [u0, some (.inl x1), u2, u3, u4, u5, u6] [.inl xs0] h Q := by
  refine Wb.br (fun _ _ => b_Land_isWorthIt_47 g0) (fun c => ?_) (fun c => ?_)
  · have c : (decide (x1 ≤ 0)) = true := by first | exact c | (simp only [Option.getD_some] at c; exact c)
    (first | exact (k1 (c_let c)) | (simp only [Option.getD_some]; exact (k1 (c_let c))))
  · have c : (decide (x1 ≤ 0)) = false := by first | exact c | (simp only [Option.getD_some] at c; exact c)
    (first | exact (k2 (c_lef c)) | (simp only [Option.getD_some]; exact (k2 (c_lef c))))
theorem w_Land_isWorthIt_53 {rod : Nat → Nat × (Nat → Int32)} {d : Nat} {Q : Option MV → MH → Prop} {u0 : Option MV} {x1 : Int32} {u2 : Option MV} {x3 : Int32} {u4 : Option MV} {x5 : Int32} {x6 : Int32} {h : MH}   (k1 : (x6 * (if x1 < x3 then x1 else x3)).toInt < x5.toInt → Wb rod d B_Land_isWorthIt 70 [u0, some (.inl x1), u2, some (.inl x3), u4, some (.inl x5), some (.inl x6)] [] h Q) (k2 : ¬ (x6 * (if x1 < x3 then x1 else x3)).toInt < x5.toInt → Wb rod d B_Land_isWorthIt 66 [u0, some (.inl x1), u2, some (.inl x3), u4, some (.inl x5), some (.inl x6)] [] h Q) : Wb rod d B_Land_isWorthIt 53 [u0, some (.inl x1), u2, some (.inl x3), u4, some (.inl x5), some (.inl x6)] [] h Q := by
  refine Wb.br (fun _ _ => b_Land_isWorthIt_53) (fun c => ?_) (fun c => ?_)
  · have c : (decide ((x6 * (if x1 < x3 then x1 else x3)) < x5)) = true := by first | exact c | (simp only [Option.getD_some] at c; exact c)
    (first | exact (k1 (c_ltt c)) | (simp only [Option.getD_some]; exact (k1 (c_ltt c))))
  · have c : (decide ((x6 * (if x1 < x3 then x1 else x3)) < x5)) = false := by first | exact c | (simp only [Option.getD_some] at c; exact c)
    (first | exact (k2 (c_ltf c)) | (simp only [Option.getD_some]; exact (k2 (c_ltf c))))
theorem w_Land_isWorthIt_66 {rod : Nat → Nat × (Nat → Int32)} {d : Nat} {Q : Option MV → MH → Prop} {u0 : Option MV} {u1 : Option MV} {u2 : Option MV} {u3 : Option MV} {u4 : Option MV} {u5 : Option MV} {u6 : Option MV} {h : MH}   (k : Wb rod d B_Land_isWorthIt 71 [u0, u1, u2, u3, u4, u5, u6] [.inl (1 : Int32)] h Q) : Wb rod d B_Land_isWorthIt 66 [u0, u1, u2, u3, u4, u5, u6] [] h Q := by
  refine Wb.go (fun r hr q => b_Land_isWorthIt_66 ?_) k
  (first | exact q | (simp only [Option.getD_some]; exact q))
theorem w_Land_isWorthIt_70 {rod : Nat → Nat × (Nat → Int32)} {d : Nat} {Q : Option MV → MH → Prop} {u0 : Option MV} {u1 : Option MV} {u2 : Option MV} {u3 : Option MV} {u4 : Option MV} {u5 : Option MV} {u6 : Option MV} {h : MH}   (k : Wb rod d B_Land_isWorthIt 71 [u0, u1, u2, u3, u4, u5, u6] [.inl (0 : Int32)] h Q) : Wb rod d B_Land_isWorthIt 70 [u0, u1, u2, u3, u4, u5, u6] [] h Q := by
  refine Wb.go (fun r hr q => b_Land_isWorthIt_70 ?_) k
  (first | exact q | (simp only [Option.getD_some]; exact q))
theorem w_Land_isWorthIt_71 {rod : Nat → Nat × (Nat → Int32)} {d : Nat} {Q : Option MV → MH → Prop} {u0 : Option MV} {u1 : Option MV} {u2 : Option MV} {u3 : Option MV} {u4 : Option MV} {u5 : Option MV} {u6 : Option MV} {xs0 : Int32} {h : MH}  (g0 : xs0 = 0 ∨ xs0 = 1) (q : Q (some (.inl xs0)) h) : Wb rod d B_Land_isWorthIt 71 [u0, u1, u2, u3, u4, u5, u6] [.inl xs0] h Q := by
  refine Wb.ret (b_Land_isWorthIt_71 (d01 g0)) ?_
  (first | exact q | (simp only [Option.getD_some]; exact q))
theorem n_Walk_sin {rod : Nat → Nat × (Nat → Int32)} {d : Nat} {Q : Option MV → MH → Prop} {a1 : Nat} {x2 : Int32} {x3 : Int32} {h : MH} (k : Wb rod d B_Walk_sin 0 [some (.inr (.inr (.inl (some 65)))), some (.inr (.inr (.inl (some a1)))), some (.inl x2), some (.inl x3)] [] h Q) : Wc rod (d + 1) 83 [.inr (.inr (.inl (some 65))), .inr (.inr (.inl (some a1))), .inl x2, .inl x3] h Q := Wc.en (fun _ _ => e_Walk_sin) k
theorem w_Walk_sin_0 {rod : Nat → Nat × (Nat → Int32)} {d : Nat} {Q : Option MV → MH → Prop} {u0 : Option MV} {a1 : Nat} {x2 : Int32} {u3 : Option MV} {h : MH} (A1 : LandA h.2 a1)  {Q1 : Option MV → MH → Prop} (c : Wc rod d 70 [.inr (.inr (.inl (some a1))), .inl x2] h Q1) (k : ∀ r1 h2, Q1 r1 h2 → Wb rod d B_Walk_sin 5 [u0, some (.inr (.inr (.inl (some a1)))), some (.inl x2), u3] (r1.toList ++ []) h2 Q) : Wb rod d B_Walk_sin 0 [u0, some (.inr (.inr (.inl (some a1)))), some (.inl x2), u3] [] h Q := by
  refine Wb.call (fun _ _ _ _ => b_Walk_sin_0 (A1.o)) (Q1 := Q1) ?_ ?_
  · (first | exact c | (simp only [Option.getD_some]; exact c))
  · (first | exact k | (simp only [Option.getD_some]; exact k))
theorem w_Walk_sin_5 {rod : Nat → Nat × (Nat → Int32)} {d : Nat} {Q : Option MV → MH → Prop} {u0 : Option MV} {u1 : Option MV} {u2 : Option MV} {u3 : Option MV} {xs0 : Int32} {h : MH}   (k1 : ¬ xs0.toInt = 0 → Wb rod d B_Walk_sin 10 [u0, u1, u2, u3] [] h Q) (k2 : xs0.toInt = 0 → Wb rod d B_Walk_sin 8 [u0, u1, u2, u3] [] h Q) : Wb rod d B_Walk_sin 5 [u0, u1, u2, u3] [.inl xs0] h Q := by
  refine Wb.br (fun _ _ => b_Walk_sin_5) (fun c => ?_) (fun c => ?_)
  · have c : (!(decide (xs0 = 0))) = true := by first | exact c | (simp only [Option.getD_some] at c; exact c)
    (first | exact (k1 (c_net c)) | (simp only [Option.getD_some]; exact (k1 (c_net c))))
  · have c : (!(decide (xs0 = 0))) = false := by first | exact c | (simp only [Option.getD_some] at c; exact c)
    (first | exact (k2 (c_nef c)) | (simp only [Option.getD_some]; exact (k2 (c_nef c))))
theorem w_Walk_sin_8 {rod : Nat → Nat × (Nat → Int32)} {d : Nat} {Q : Option MV → MH → Prop} {u0 : Option MV} {u1 : Option MV} {u2 : Option MV} {u3 : Option MV} {h : MH}   (q : Q (some (.inl (0 : Int32))) h) : Wb rod d B_Walk_sin 8 [u0, u1, u2, u3] [] h Q := by
  refine Wb.ret (b_Walk_sin_8) ?_
  (first | exact q | (simp only [Option.getD_some]; exact q))
theorem w_Walk_sin_10 {rod : Nat → Nat × (Nat → Int32)} {d : Nat} {Q : Option MV → MH → Prop} {u1 : Option MV} {x2 : Int32} {x3 : Int32} {h : MH} (L : Lay h.2) (g0 : 0 ≤ x2.toInt ∧ x2.toInt < 8) (k : Wb rod d B_Walk_sin 29 [some (.inr (.inr (.inl (some 65)))), u1, some (.inl x2), some (.inl x3)] [] (sI h 66 x2.toNatClampNeg (if ((h.1 66 x2.toNatClampNeg) + x3) < (99 : Int32) then ((h.1 66 x2.toNatClampNeg) + x3) else (99 : Int32))) Q) : Wb rod d B_Walk_sin 10 [some (.inr (.inr (.inl (some 65)))), u1, some (.inl x2), some (.inl x3)] [] h Q := by
  refine Wb.go (fun r hr q => b_Walk_sin_10 (Lay.o65 L) (Lay.a65_8 L g0) ?_) k
  (first | exact q | (simp only [Option.getD_some, (Lay.r65_8 L)]; exact q))
theorem w_Walk_sin_29 {rod : Nat → Nat × (Nat → Int32)} {d : Nat} {Q : Option MV → MH → Prop} {u0 : Option MV} {u1 : Option MV} {u2 : Option MV} {u3 : Option MV} {h : MH}   (q : Q (some (.inl (1 : Int32))) h) : Wb rod d B_Walk_sin 29 [u0, u1, u2, u3] [] h Q := by
  refine Wb.ret (b_Walk_sin_29) ?_
  (first | exact q | (simp only [Option.getD_some]; exact q))
theorem n_Walk_go {rod : Nat → Nat × (Nat → Int32)} {d : Nat} {Q : Option MV → MH → Prop} {a1 : Nat} {x2 : Int32} {h : MH} (k : Wb rod d B_Walk_go 0 [some (.inr (.inr (.inl (some 65)))), some (.inr (.inr (.inl (some a1)))), some (.inl x2), none] [] h Q) : Wc rod (d + 1) 84 [.inr (.inr (.inl (some 65))), .inr (.inr (.inl (some a1))), .inl x2] h Q := Wc.en (fun _ _ => e_Walk_go) k
theorem w_Walk_go_0 {rod : Nat → Nat × (Nat → Int32)} {d : Nat} {Q : Option MV → MH → Prop} {a1 : Nat} {x2 : Int32} {u3 : Option MV} {h : MH} (L : Lay h.2) (A1 : LandA h.2 a1)  {Q1 : Option MV → MH → Prop} (c : Wc rod d 66 [.inr (.inr (.inl (some a1))), .inl (h.1 65 1), .inl x2] h Q1) (k : ∀ r1 h2, Q1 r1 h2 → Wb rod d B_Walk_go 9 [some (.inr (.inr (.inl (some 65)))), some (.inr (.inr (.inl (some a1)))), some (.inl x2), u3] (r1.toList ++ []) h2 Q) : Wb rod d B_Walk_go 0 [some (.inr (.inr (.inl (some 65)))), some (.inr (.inr (.inl (some a1)))), some (.inl x2), u3] [] h Q := by
  refine Wb.call (fun _ _ _ _ => b_Walk_go_0 (Lay.o65 L) (A1.o)) (Q1 := Q1) ?_ ?_
  · (first | exact c | (simp only [Option.getD_some]; exact c))
  · (first | exact k | (simp only [Option.getD_some]; exact k))
theorem w_Walk_go_9 {rod : Nat → Nat × (Nat → Int32)} {d : Nat} {Q : Option MV → MH → Prop} {u0 : Option MV} {u1 : Option MV} {u2 : Option MV} {u3 : Option MV} {xs0 : Int32} {h : MH}  (g0 : okl [u0, u1, u2, u3] 3 = true) (k1 : xs0.toInt = 0 → Wb rod d B_Walk_go 33 [u0, u1, u2, some (.inl xs0)] [] h Q) (k2 : ¬ xs0.toInt = 0 → Wb rod d B_Walk_go 14 [u0, u1, u2, some (.inl xs0)] [] h Q) : Wb rod d B_Walk_go 9 [u0, u1, u2, u3] [.inl xs0] h Q := by
  refine Wb.br (fun _ _ => b_Walk_go_9 g0) (fun c => ?_) (fun c => ?_)
  · have c : (decide (xs0 = 0)) = true := by first | exact c | (simp only [Option.getD_some] at c; exact c)
    (first | exact (k1 (c_eqt c)) | (simp only [Option.getD_some]; exact (k1 (c_eqt c))))
  · have c : (decide (xs0 = 0)) = false := by first | exact c | (simp only [Option.getD_some] at c; exact c)
    (first | exact (k2 (c_eqf c)) | (simp only [Option.getD_some]; exact (k2 (c_eqf c))))
theorem w_Walk_go_14 {rod : Nat → Nat × (Nat → Int32)} {d : Nat} {Q : Option MV → MH → Prop} {u1 : Option MV} {x2 : Int32} {u3 : Option MV} {h : MH} (L : Lay h.2)  {Q1 : Option MV → MH → Prop} (c : Wc rod d 81 [.inr (.inr (.inl (some 65))), .inl x2] h Q1) (k : ∀ r1 h2, Q1 r1 h2 → Wb rod d B_Walk_go 19 [some (.inr (.inr (.inl (some 65)))), u1, some (.inl x2), u3] (r1.toList ++ []) h2 Q) : Wb rod d B_Walk_go 14 [some (.inr (.inr (.inl (some 65)))), u1, some (.inl x2), u3] [] h Q := by
  refine Wb.call (fun _ _ _ _ => b_Walk_go_14 (Lay.o65 L)) (Q1 := Q1) ?_ ?_
  · (first | exact c | (simp only [Option.getD_some]; exact c))
  · (first | exact k | (simp only [Option.getD_some]; exact k))
theorem w_Walk_go_19 {rod : Nat → Nat × (Nat → Int32)} {d : Nat} {Q : Option MV → MH → Prop} {u0 : Option MV} {u1 : Option MV} {u2 : Option MV} {u3 : Option MV} {xs0 : Int32} {h : MH}   (k1 : ¬ xs0.toInt = 0 → Wb rod d B_Walk_go 33 [u0, u1, u2, u3] [] h Q) (k2 : xs0.toInt = 0 → Wb rod d B_Walk_go 22 [u0, u1, u2, u3] [] h Q) : Wb rod d B_Walk_go 19 [u0, u1, u2, u3] [.inl xs0] h Q := by
  refine Wb.br (fun _ _ => b_Walk_go_19) (fun c => ?_) (fun c => ?_)
  · have c : (!(decide (xs0 = 0))) = true := by first | exact c | (simp only [Option.getD_some] at c; exact c)
    (first | exact (k1 (c_net c)) | (simp only [Option.getD_some]; exact (k1 (c_net c))))
  · have c : (!(decide (xs0 = 0))) = false := by first | exact c | (simp only [Option.getD_some] at c; exact c)
    (first | exact (k2 (c_nef c)) | (simp only [Option.getD_some]; exact (k2 (c_nef c))))
theorem w_Walk_go_22 {rod : Nat → Nat × (Nat → Int32)} {d : Nat} {Q : Option MV → MH → Prop} {u1 : Option MV} {u2 : Option MV} {x3 : Int32} {h : MH} (L : Lay h.2)  (k1 : ((h.1 65 0) + x3).toInt ≤ 99 → Wb rod d B_Walk_go 35 [some (.inr (.inr (.inl (some 65)))), u1, u2, some (.inl x3)] [] h Q) (k2 : ¬ ((h.1 65 0) + x3).toInt ≤ 99 → Wb rod d B_Walk_go 33 [some (.inr (.inr (.inl (some 65)))), u1, u2, some (.inl x3)] [] h Q) : Wb rod d B_Walk_go 22 [some (.inr (.inr (.inl (some 65)))), u1, u2, some (.inl x3)] [] h Q := by
  refine Wb.br (fun _ _ => b_Walk_go_22 (Lay.o65 L)) (fun c => ?_) (fun c => ?_)
  · have c : (decide (((h.1 65 0) + x3) ≤ (99 : Int32))) = true := by first | exact c | (simp only [Option.getD_some] at c; exact c)
    (first | exact (k1 (c_let c)) | (simp only [Option.getD_some]; exact (k1 (c_let c))))
  · have c : (decide (((h.1 65 0) + x3) ≤ (99 : Int32))) = false := by first | exact c | (simp only [Option.getD_some] at c; exact c)
    (first | exact (k2 (c_lef c)) | (simp only [Option.getD_some]; exact (k2 (c_lef c))))
theorem w_Walk_go_33 {rod : Nat → Nat × (Nat → Int32)} {d : Nat} {Q : Option MV → MH → Prop} {u0 : Option MV} {u1 : Option MV} {u2 : Option MV} {u3 : Option MV} {h : MH}   (q : Q (some (.inl (0 : Int32))) h) : Wb rod d B_Walk_go 33 [u0, u1, u2, u3] [] h Q := by
  refine Wb.ret (b_Walk_go_33) ?_
  (first | exact q | (simp only [Option.getD_some]; exact q))
theorem w_Walk_go_35 {rod : Nat → Nat × (Nat → Int32)} {d : Nat} {Q : Option MV → MH → Prop} {u1 : Option MV} {u2 : Option MV} {x3 : Int32} {h : MH} (L : Lay h.2)  (k : Wb rod d B_Walk_go 45 [some (.inr (.inr (.inl (some 65)))), u1, u2, some (.inl x3)] [] (sI h 65 0 ((h.1 65 0) + x3)) Q) : Wb rod d B_Walk_go 35 [some (.inr (.inr (.inl (some 65)))), u1, u2, some (.inl x3)] [] h Q := by
  refine Wb.go (fun r hr q => b_Walk_go_35 (Lay.o65 L) ?_) k
  (first | exact q | (simp only [Option.getD_some]; exact q))
theorem w_Walk_go_45 {rod : Nat → Nat × (Nat → Int32)} {d : Nat} {Q : Option MV → MH → Prop} {u1 : Option MV} {x2 : Int32} {u3 : Option MV} {h : MH} (L : Lay h.2)  (k : Wb rod d B_Walk_go 50 [some (.inr (.inr (.inl (some 65)))), u1, some (.inl x2), u3] [] (sI h 65 1 x2) Q) : Wb rod d B_Walk_go 45 [some (.inr (.inr (.inl (some 65)))), u1, some (.inl x2), u3] [] h Q := by
  refine Wb.go (fun r hr q => b_Walk_go_45 (Lay.o65 L) ?_) k
  (first | exact q | (simp only [Option.getD_some]; exact q))
theorem w_Walk_go_50 {rod : Nat → Nat × (Nat → Int32)} {d : Nat} {Q : Option MV → MH → Prop} {u0 : Option MV} {u1 : Option MV} {u2 : Option MV} {u3 : Option MV} {h : MH}   (q : Q (some (.inl (1 : Int32))) h) : Wb rod d B_Walk_go 50 [u0, u1, u2, u3] [] h Q := by
  refine Wb.ret (b_Walk_go_50) ?_
  (first | exact q | (simp only [Option.getD_some]; exact q))
theorem n_Walk_turn {rod : Nat → Nat × (Nat → Int32)} {d : Nat} {Q : Option MV → MH → Prop} {a1 : Nat} {x2 : Int32} {x3 : Int32} {h : MH} (k : Wb rod d B_Walk_turn 0 [some (.inr (.inr (.inl (some 65)))), some (.inr (.inr (.inl (some a1)))), some (.inl x2), some (.inl x3)] [] h Q) : Wc rod (d + 1) 85 [.inr (.inr (.inl (some 65))), .inr (.inr (.inl (some a1))), .inl x2, .inl x3] h Q := Wc.en (fun _ _ => e_Walk_turn) k
theorem w_Walk_turn_0 {rod : Nat → Nat × (Nat → Int32)} {d : Nat} {Q : Option MV → MH → Prop} {u0 : Option MV} {a1 : Nat} {x2 : Int32} {u3 : Option MV} {h : MH} (A1 : LandA h.2 a1)  {Q1 : Option MV → MH → Prop} (c : Wc rod d 65 [.inr (.inr (.inl (some a1))), .inl x2] h Q1) (k : ∀ r1 h2, Q1 r1 h2 → Wb rod d B_Walk_turn 5 [u0, some (.inr (.inr (.inl (some a1)))), some (.inl x2), u3] (r1.toList ++ []) h2 Q) : Wb rod d B_Walk_turn 0 [u0, some (.inr (.inr (.inl (some a1)))), some (.inl x2), u3] [] h Q := by
  refine Wb.call (fun _ _ _ _ => b_Walk_turn_0 (A1.o)) (Q1 := Q1) ?_ ?_
  · (first | exact c | (simp only [Option.getD_some]; exact c))
  · (first | exact k | (simp only [Option.getD_some]; exact k))
theorem w_Walk_turn_5 {rod : Nat → Nat × (Nat → Int32)} {d : Nat} {Q : Option MV → MH → Prop} {u0 : Option MV} {u1 : Option MV} {u2 : Option MV} {u3 : Option MV} {xs0 : Int32} {h : MH}   (k1 : xs0.toInt = 0 → Wb rod d B_Walk_turn 17 [u0, u1, u2, u3] [] h Q) (k2 : ¬ xs0.toInt = 0 → Wb rod d B_Walk_turn 8 [u0, u1, u2, u3] [] h Q) : Wb rod d B_Walk_turn 5 [u0, u1, u2, u3] [.inl xs0] h Q := by
  refine Wb.br (fun _ _ => b_Walk_turn_5) (fun c => ?_) (fun c => ?_)
  · have c : (decide (xs0 = 0)) = true := by first | exact c | (simp only [Option.getD_some] at c; exact c)
    (first | exact (k1 (c_eqt c)) | (simp only [Option.getD_some]; exact (k1 (c_eqt c))))
  · have c : (decide (xs0 = 0)) = false := by first | exact c | (simp only [Option.getD_some] at c; exact c)
    (first | exact (k2 (c_eqf c)) | (simp only [Option.getD_some]; exact (k2 (c_eqf c))))
theorem w_Walk_turn_8 {rod : Nat → Nat × (Nat → Int32)} {d : Nat} {Q : Option MV → MH → Prop} {u1 : Option MV} {x2 : Int32} {u3 : Option MV} {h : MH} (L : Lay h.2)  {Q1 : Option MV → MH → Prop} (c : Wc rod d 81 [.inr (.inr (.inl (some 65))), .inl x2] h Q1) (k : ∀ r1 h2, Q1 r1 h2 → Wb rod d B_Walk_turn 13 [some (.inr (.inr (.inl (some 65)))), u1, some (.inl x2), u3] (r1.toList ++ []) h2 Q) : Wb rod d B_Walk_turn 8 [some (.inr (.inr (.inl (some 65)))), u1, some (.inl x2), u3] [] h Q := by
  refine Wb.call (fun _ _ _ _ => b_Walk_turn_8 (Lay.o65 L)) (Q1 := Q1) ?_ ?_
  · (first | exact c | (simp only [Option.getD_some]; exact c))
  · (first | exact k | (simp only [Option.getD_some]; exact k))
theorem w_Walk_turn_13 {rod : Nat → Nat × (Nat → Int32)} {d : Nat} {Q : Option MV → MH → Prop} {u0 : Option MV} {u1 : Option MV} {u2 : Option MV} {x3 : Int32} {xs0 : Int32} {h : MH}   (k1 : xs0.toInt = x3.toInt → Wb rod d B_Walk_turn 19 [u0, u1, u2, some (.inl x3)] [] h Q) (k2 : ¬ xs0.toInt = x3.toInt → Wb rod d B_Walk_turn 17 [u0, u1, u2, some (.inl x3)] [] h Q) : Wb rod d B_Walk_turn 13 [u0, u1, u2, some (.inl x3)] [.inl xs0] h Q := by
  refine Wb.br (fun _ _ => b_Walk_turn_13) (fun c => ?_) (fun c => ?_)
  · have c : (decide (xs0 = x3)) = true := by first | exact c | (simp only [Option.getD_some] at c; exact c)
    (first | exact (k1 (c_eqt c)) | (simp only [Option.getD_some]; exact (k1 (c_eqt c))))
  · have c : (decide (xs0 = x3)) = false := by first | exact c | (simp only [Option.getD_some] at c; exact c)
    (first | exact (k2 (c_eqf c)) | (simp only [Option.getD_some]; exact (k2 (c_eqf c))))
theorem w_Walk_turn_17 {rod : Nat → Nat × (Nat → Int32)} {d : Nat} {Q : Option MV → MH → Prop} {u0 : Option MV} {u1 : Option MV} {u2 : Option MV} {u3 : Option MV} {h : MH}   (q : Q (some (.inl (0 : Int32))) h) : Wb rod d B_Walk_turn 17 [u0, u1, u2, u3] [] h Q := by
  refine Wb.ret (b_Walk_turn_17) ?_
  (first | exact q | (simp only [Option.getD_some]; exact q))
theorem w_Walk_turn_19 {rod : Nat → Nat × (Nat → Int32)} {d : Nat} {Q : Option MV → MH → Prop} {u1 : Option MV} {x2 : Int32} {u3 : Option MV} {h : MH} (L : Lay h.2)  (k : Wb rod d B_Walk_turn 31 [some (.inr (.inr (.inl (some 65)))), u1, some (.inl x2), u3] [] (sI h 65 2 ((h.1 65 2) ^^^ ((1 : Int32) <<< (x2 &&& 31)))) Q) : Wb rod d B_Walk_turn 19 [some (.inr (.inr (.inl (some 65)))), u1, some (.inl x2), u3] [] h Q := by
  refine Wb.go (fun r hr q => b_Walk_turn_19 (Lay.o65 L) ?_) k
  (first | exact q | (simp only [Option.getD_some]; exact q))
theorem w_Walk_turn_31 {rod : Nat → Nat × (Nat → Int32)} {d : Nat} {Q : Option MV → MH → Prop} {u0 : Option MV} {u1 : Option MV} {u2 : Option MV} {u3 : Option MV} {h : MH}   (q : Q (some (.inl (1 : Int32))) h) : Wb rod d B_Walk_turn 31 [u0, u1, u2, u3] [] h Q := by
  refine Wb.ret (b_Walk_turn_31) ?_
  (first | exact q | (simp only [Option.getD_some]; exact q))
theorem n_Walk_doubt {rod : Nat → Nat × (Nat → Int32)} {d : Nat} {Q : Option MV → MH → Prop} {a1 : Nat} {h : MH} (k : Wb rod d B_Walk_doubt 0 [some (.inr (.inr (.inl (some 65)))), some (.inr (.inr (.inl (some a1)))), none] [] h Q) : Wc rod (d + 1) 86 [.inr (.inr (.inl (some 65))), .inr (.inr (.inl (some a1)))] h Q := Wc.en (fun _ _ => e_Walk_doubt) k
theorem w_Walk_doubt_0 {rod : Nat → Nat × (Nat → Int32)} {d : Nat} {Q : Option MV → MH → Prop} {u0 : Option MV} {u1 : Option MV} {u2 : Option MV} {h : MH}  (g0 : okl [u0, u1, u2] 2 = true) (k : Wb rod d B_Walk_doubt 2 [u0, u1, some (.inl (0 : Int32))] [] h Q) : Wb rod d B_Walk_doubt 0 [u0, u1, u2] [] h Q := by
  refine Wb.go (fun r hr q => b_Walk_doubt_0 g0 ?_) k
  (first | exact q | (simp only [Option.getD_some]; exact q))
theorem w_Walk_doubt_2 {rod : Nat → Nat × (Nat → Int32)} {d : Nat} {Q : Option MV → MH → Prop} {u0 : Option MV} {a1 : Nat} {x2 : Int32} {h : MH} (A1 : LandA h.2 a1)  (k1 : (h.1 a1 4).toInt ≤ x2.toInt → Wb rod d B_Walk_doubt 34 [u0, some (.inr (.inr (.inl (some a1)))), some (.inl x2)] [] h Q) (k2 : ¬ (h.1 a1 4).toInt ≤ x2.toInt → Wb rod d B_Walk_doubt 10 [u0, some (.inr (.inr (.inl (some a1)))), some (.inl x2)] [] h Q) : Wb rod d B_Walk_doubt 2 [u0, some (.inr (.inr (.inl (some a1)))), some (.inl x2)] [] h Q := by
  refine Wb.br (fun _ _ => b_Walk_doubt_2 (A1.o)) (fun c => ?_) (fun c => ?_)
  · have c : (decide ((h.1 a1 4) ≤ x2)) = true := by first | exact c | (simp only [Option.getD_some] at c; exact c)
    (first | exact (k1 (c_let c)) | (simp only [Option.getD_some]; exact (k1 (c_let c))))
  · have c : (decide ((h.1 a1 4) ≤ x2)) = false := by first | exact c | (simp only [Option.getD_some] at c; exact c)
    (first | exact (k2 (c_lef c)) | (simp only [Option.getD_some]; exact (k2 (c_lef c))))
theorem w_Walk_doubt_10 {rod : Nat → Nat × (Nat → Int32)} {d : Nat} {Q : Option MV → MH → Prop} {u1 : Option MV} {x2 : Int32} {h : MH} (L : Lay h.2) (g0 : 0 ≤ x2.toInt ∧ x2.toInt < 8) (k : Wb rod d B_Walk_doubt 28 [some (.inr (.inr (.inl (some 65)))), u1, some (.inl x2)] [] (sI h 68 x2.toNatClampNeg (if (0 : Int32) < ((h.1 68 x2.toNatClampNeg) - (1 : Int32)) then ((h.1 68 x2.toNatClampNeg) - (1 : Int32)) else (0 : Int32))) Q) : Wb rod d B_Walk_doubt 10 [some (.inr (.inr (.inl (some 65)))), u1, some (.inl x2)] [] h Q := by
  refine Wb.go (fun r hr q => b_Walk_doubt_10 (Lay.o65 L) (Lay.a65_10 L g0) ?_) k
  (first | exact q | (simp only [Option.getD_some, (Lay.r65_10 L)]; exact q))
theorem w_Walk_doubt_28 {rod : Nat → Nat × (Nat → Int32)} {d : Nat} {Q : Option MV → MH → Prop} {u0 : Option MV} {u1 : Option MV} {x2 : Int32} {h : MH}  (g0 : okl [u0, u1, some (.inl x2)] 2 = true) (k : Wb rod d B_Walk_doubt 2 [u0, u1, some (.inl (x2 + 1))] [] h Q) : Wb rod d B_Walk_doubt 28 [u0, u1, some (.inl x2)] [] h Q := by
  refine Wb.go (fun r hr q => b_Walk_doubt_28 g0 ?_) k
  (first | exact q | (simp only [Option.getD_some]; exact q))
theorem w_Walk_doubt_34 {rod : Nat → Nat × (Nat → Int32)} {d : Nat} {Q : Option MV → MH → Prop} {u0 : Option MV} {u1 : Option MV} {u2 : Option MV} {h : MH}   (q : Q (some (.inl (1 : Int32))) h) : Wb rod d B_Walk_doubt 34 [u0, u1, u2] [] h Q := by
  refine Wb.ret (b_Walk_doubt_34) ?_
  (first | exact q | (simp only [Option.getD_some]; exact q))
theorem n_Walk_jubilee {rod : Nat → Nat × (Nat → Int32)} {d : Nat} {Q : Option MV → MH → Prop} {a1 : Nat} {h : MH} (k : Wb rod d B_Walk_jubilee 0 [some (.inr (.inr (.inl (some 65)))), some (.inr (.inr (.inl (some a1)))), none] [] h Q) : Wc rod (d + 1) 87 [.inr (.inr (.inl (some 65))), .inr (.inr (.inl (some a1)))] h Q := Wc.en (fun _ _ => e_Walk_jubilee) k
theorem w_Walk_jubilee_0 {rod : Nat → Nat × (Nat → Int32)} {d : Nat} {Q : Option MV → MH → Prop} {u0 : Option MV} {u1 : Option MV} {u2 : Option MV} {h : MH}  (g0 : okl [u0, u1, u2] 2 = true) (k : Wb rod d B_Walk_jubilee 2 [u0, u1, some (.inl (0 : Int32))] [] h Q) : Wb rod d B_Walk_jubilee 0 [u0, u1, u2] [] h Q := by
  refine Wb.go (fun r hr q => b_Walk_jubilee_0 g0 ?_) k
  (first | exact q | (simp only [Option.getD_some]; exact q))
theorem w_Walk_jubilee_2 {rod : Nat → Nat × (Nat → Int32)} {d : Nat} {Q : Option MV → MH → Prop} {u0 : Option MV} {a1 : Nat} {x2 : Int32} {h : MH} (A1 : LandA h.2 a1)  (k1 : (h.1 a1 4).toInt ≤ x2.toInt → Wb rod d B_Walk_jubilee 74 [u0, some (.inr (.inr (.inl (some a1)))), some (.inl x2)] [] h Q) (k2 : ¬ (h.1 a1 4).toInt ≤ x2.toInt → Wb rod d B_Walk_jubilee 10 [u0, some (.inr (.inr (.inl (some a1)))), some (.inl x2)] [] h Q) : Wb rod d B_Walk_jubilee 2 [u0, some (.inr (.inr (.inl (some a1)))), some (.inl x2)] [] h Q := by
  refine Wb.br (fun _ _ => b_Walk_jubilee_2 (A1.o)) (fun c => ?_) (fun c => ?_)
  · have c : (decide ((h.1 a1 4) ≤ x2)) = true := by first | exact c | (simp only [Option.getD_some] at c; exact c)
    (first | exact (k1 (c_let c)) | (simp only [Option.getD_some]; exact (k1 (c_let c))))
  · have c : (decide ((h.1 a1 4) ≤ x2)) = false := by first | exact c | (simp only [Option.getD_some] at c; exact c)
    (first | exact (k2 (c_lef c)) | (simp only [Option.getD_some]; exact (k2 (c_lef c))))
theorem w_Walk_jubilee_10 {rod : Nat → Nat × (Nat → Int32)} {d : Nat} {Q : Option MV → MH → Prop} {u1 : Option MV} {x2 : Int32} {h : MH} (L : Lay h.2) (g0 : 0 ≤ x2.toInt ∧ x2.toInt < 8) (k1 : (h.1 69 x2.toNatClampNeg).toInt ≤ 0 → Wb rod d B_Walk_jubilee 68 [some (.inr (.inr (.inl (some 65)))), u1, some (.inl x2)] [] h Q) (k2 : ¬ (h.1 69 x2.toNatClampNeg).toInt ≤ 0 → Wb rod d B_Walk_jubilee 19 [some (.inr (.inr (.inl (some 65)))), u1, some (.inl x2)] [] h Q) : Wb rod d B_Walk_jubilee 10 [some (.inr (.inr (.inl (some 65)))), u1, some (.inl x2)] [] h Q := by
  refine Wb.br (fun _ _ => b_Walk_jubilee_10 (Lay.o65 L) (Lay.a65_11 L g0)) (fun c => ?_) (fun c => ?_)
  · have c : (decide ((h.1 69 x2.toNatClampNeg) ≤ 0)) = true := by first | exact c | (simp only [Option.getD_some, (Lay.r65_11 L)] at c; exact c)
    (first | exact (k1 (c_let c)) | (simp only [Option.getD_some, (Lay.r65_11 L)]; exact (k1 (c_let c))))
  · have c : (decide ((h.1 69 x2.toNatClampNeg) ≤ 0)) = false := by first | exact c | (simp only [Option.getD_some, (Lay.r65_11 L)] at c; exact c)
    (first | exact (k2 (c_lef c)) | (simp only [Option.getD_some, (Lay.r65_11 L)]; exact (k2 (c_lef c))))
theorem w_Walk_jubilee_19 {rod : Nat → Nat × (Nat → Int32)} {d : Nat} {Q : Option MV → MH → Prop} {u1 : Option MV} {x2 : Int32} {h : MH} (L : Lay h.2) (g0 : 0 ≤ x2.toInt ∧ x2.toInt < 8) (k : Wb rod d B_Walk_jubilee 43 [some (.inr (.inr (.inl (some 65)))), u1, some (.inl x2)] [] (sI h 66 x2.toNatClampNeg (if ((h.1 66 x2.toNatClampNeg) + (h.1 69 x2.toNatClampNeg)) < (99 : Int32) then ((h.1 66 x2.toNatClampNeg) + (h.1 69 x2.toNatClampNeg)) else (99 : Int32))) Q) : Wb rod d B_Walk_jubilee 19 [some (.inr (.inr (.inl (some 65)))), u1, some (.inl x2)] [] h Q := by
  refine Wb.go (fun r hr q => b_Walk_jubilee_19 (Lay.o65 L) (Lay.a65_8 L g0) (Lay.a65_11 L g0) ?_) k
  (first | exact q | (simp only [Option.getD_some, (Lay.r65_8 L), (Lay.r65_11 L)]; exact q))
theorem w_Walk_jubilee_43 {rod : Nat → Nat × (Nat → Int32)} {d : Nat} {Q : Option MV → MH → Prop} {u1 : Option MV} {x2 : Int32} {h : MH} (L : Lay h.2) (g0 : 0 ≤ x2.toInt ∧ x2.toInt < 8) (k : Wb rod d B_Walk_jubilee 50 [some (.inr (.inr (.inl (some 65)))), u1, some (.inl x2)] [] (sI h 69 x2.toNatClampNeg (0 : Int32)) Q) : Wb rod d B_Walk_jubilee 43 [some (.inr (.inr (.inl (some 65)))), u1, some (.inl x2)] [] h Q := by
  refine Wb.go (fun r hr q => b_Walk_jubilee_43 (Lay.o65 L) (Lay.a65_11 L g0) ?_) k
  (first | exact q | (simp only [Option.getD_some, (Lay.r65_11 L)]; exact q))
theorem w_Walk_jubilee_50 {rod : Nat → Nat × (Nat → Int32)} {d : Nat} {Q : Option MV → MH → Prop} {u1 : Option MV} {x2 : Int32} {h : MH} (L : Lay h.2) (g0 : 0 ≤ x2.toInt ∧ x2.toInt < 8) (k : Wb rod d B_Walk_jubilee 68 [some (.inr (.inr (.inl (some 65)))), u1, some (.inl x2)] [] (sI h 68 x2.toNatClampNeg (if (0 : Int32) < ((h.1 68 x2.toNatClampNeg) - (1 : Int32)) then ((h.1 68 x2.toNatClampNeg) - (1 : Int32)) else (0 : Int32))) Q) : Wb rod d B_Walk_jubilee 50 [some (.inr (.inr (.inl (some 65)))), u1, some (.inl x2)] [] h Q := by
  refine Wb.go (fun r hr q => b_Walk_jubilee_50 (Lay.o65 L) (Lay.a65_10 L g0) ?_) k
  (first | exact q | (simp only [Option.getD_some, (Lay.r65_10 L)]; exact q))
theorem w_Walk_jubilee_68 {rod : Nat → Nat × (Nat → Int32)} {d : Nat} {Q : Option MV → MH → Prop} {u0 : Option MV} {u1 : Option MV} {x2 : Int32} {h : MH}  (g0 : okl [u0, u1, some (.inl x2)] 2 = true) (k : Wb rod d B_Walk_jubilee 2 [u0, u1, some (.inl (x2 + 1))] [] h Q) : Wb rod d B_Walk_jubilee 68 [u0, u1, some (.inl x2)] [] h Q := by
  refine Wb.go (fun r hr q => b_Walk_jubilee_68 g0 ?_) k
  (first | exact q | (simp only [Option.getD_some]; exact q))
theorem w_Walk_jubilee_74 {rod : Nat → Nat × (Nat → Int32)} {d : Nat} {Q : Option MV → MH → Prop} {u0 : Option MV} {u1 : Option MV} {u2 : Option MV} {h : MH}   (q : Q (some (.inl (1 : Int32))) h) : Wb rod d B_Walk_jubilee 74 [u0, u1, u2] [] h Q := by
  refine Wb.ret (b_Walk_jubilee_74) ?_
  (first | exact q | (simp only [Option.getD_some]; exact q))
theorem n_Main_state {rod : Nat → Nat × (Nat → Int32)} {d : Nat} {Q : Option MV → MH → Prop} {x1 : Int32} {x2 : Int32} {x3 : Int32} {x4 : Int32} {h : MH} (k : Wb rod d B_Main_state 0 [some (.inr (.inr (.inl (some 0)))), some (.inl x1), some (.inl x2), some (.inl x3), some (.inl x4), none, none] [] h Q) : Wc rod (d + 1) 88 [.inr (.inr (.inl (some 0))), .inl x1, .inl x2, .inl x3, .inl x4] h Q := Wc.en (fun _ _ => e_Main_state) k
theorem w_Main_state_0 {rod : Nat → Nat × (Nat → Int32)} {d : Nat} {Q : Option MV → MH → Prop} {x1 : Int32} {u2 : Option MV} {u3 : Option MV} {u4 : Option MV} {u5 : Option MV} {u6 : Option MV} {h : MH} (L : Lay h.2)  {Q1 : Option MV → MH → Prop} (c : Wc rod d 61 [.inr (.inr (.inl (some 1))), .inl x1] h Q1) (k : ∀ r1 h2, Q1 r1 h2 → Wb rod d B_Main_state 8 [some (.inr (.inr (.inl (some 0)))), some (.inl x1), u2, u3, u4, u5, u6] (r1.toList ++ []) h2 Q) : Wb rod d B_Main_state 0 [some (.inr (.inr (.inl (some 0)))), some (.inl x1), u2, u3, u4, u5, u6] [] h Q := by
  refine Wb.call (fun _ _ _ _ => b_Main_state_0 (Lay.o0 L) (Lay.k0_0 L)) (Q1 := Q1) ?_ ?_
  · (first | exact c | (simp only [Option.getD_some, (Lay.r0_0 L)]; exact c))
  · (first | exact k | (simp only [Option.getD_some, (Lay.r0_0 L)]; exact k))
theorem w_Main_state_8 {rod : Nat → Nat × (Nat → Int32)} {d : Nat} {Q : Option MV → MH → Prop} {u1 : Option MV} {x2 : Int32} {u3 : Option MV} {u4 : Option MV} {u5 : Option MV} {u6 : Option MV} {as0 : Nat} {h : MH} (L : Lay h.2) (g0 : okl [some (.inr (.inr (.inl (some 0)))), u1, some (.inl x2), u3, u4, u5, u6] 5 = true) {Q1 : Option MV → MH → Prop} (c : Wc rod d 72 [.inr (.inr (.inl (some 1))), .inl x2] h Q1) (k : ∀ r1 h2, Q1 r1 h2 → Wb rod d B_Main_state 18 [some (.inr (.inr (.inl (some 0)))), u1, some (.inl x2), u3, u4, some (.inr (.inr (.inl (some as0)))), u6] (r1.toList ++ []) h2 Q) : Wb rod d B_Main_state 8 [some (.inr (.inr (.inl (some 0)))), u1, some (.inl x2), u3, u4, u5, u6] [.inr (.inr (.inl (some as0)))] h Q := by
  refine Wb.call (fun _ _ _ _ => b_Main_state_8 g0 (Lay.o0 L) (Lay.k0_0 L)) (Q1 := Q1) ?_ ?_
  · (first | exact c | (simp only [Option.getD_some, (Lay.r0_0 L)]; exact c))
  · (first | exact k | (simp only [Option.getD_some, (Lay.r0_0 L)]; exact k))
theorem w_Main_state_18 {rod : Nat → Nat × (Nat → Int32)} {d : Nat} {Q : Option MV → MH → Prop} {u0 : Option MV} {u1 : Option MV} {u2 : Option MV} {u3 : Option MV} {u4 : Option MV} {o5 : Option Nat} {u6 : Option MV} {as0 : Nat} {h : MH}   (k1 : o5 = none → Wb rod d B_Main_state 50 [u0, u1, u2, u3, u4, some (.inr (.inr (.inl o5))), some (.inr (.inr (.inl (some as0))))] [] h Q) (k2 : ∀ v, o5 = some v → Wb rod d B_Main_state 25 [u0, u1, u2, u3, u4, some (.inr (.inr (.inl o5))), some (.inr (.inr (.inl (some as0))))] [] h Q) : Wb rod d B_Main_state 18 [u0, u1, u2, u3, u4, some (.inr (.inr (.inl o5))), u6] [.inr (.inr (.inl (some as0)))] h Q := by
  cases o5 with
  | none =>
    refine Wb.br (fun _ _ => b_Main_state_18) (fun c => ?_) (fun c => ?_)
    · exact k1 rfl
    · simp at c
  | some v =>
    refine Wb.br (fun _ _ => b_Main_state_18) (fun c => ?_) (fun c => ?_)
    · simp at c
    · exact k2 v rfl
theorem w_Main_state_25 {rod : Nat → Nat × (Nat → Int32)} {d : Nat} {Q : Option MV → MH → Prop} {u0 : Option MV} {u1 : Option MV} {u2 : Option MV} {u3 : Option MV} {u4 : Option MV} {u5 : Option MV} {o6 : Option Nat} {h : MH}   (k1 : o6 = none → Wb rod d B_Main_state 50 [u0, u1, u2, u3, u4, u5, some (.inr (.inr (.inl o6)))] [] h Q) (k2 : ∀ v, o6 = some v → Wb rod d B_Main_state 30 [u0, u1, u2, u3, u4, u5, some (.inr (.inr (.inl o6)))] [] h Q) : Wb rod d B_Main_state 25 [u0, u1, u2, u3, u4, u5, some (.inr (.inr (.inl o6)))] [] h Q := by
  cases o6 with
  | none =>
    refine Wb.br (fun _ _ => b_Main_state_25) (fun c => ?_) (fun c => ?_)
    · exact k1 rfl
    · simp at c
  | some v =>
    refine Wb.br (fun _ _ => b_Main_state_25) (fun c => ?_) (fun c => ?_)
    · simp at c
    · exact k2 v rfl
theorem w_Main_state_30 {rod : Nat → Nat × (Nat → Int32)} {d : Nat} {Q : Option MV → MH → Prop} {u0 : Option MV} {u1 : Option MV} {u2 : Option MV} {x3 : Int32} {u4 : Option MV} {u5 : Option MV} {u6 : Option MV} {h : MH}   (k1 : x3.toInt < 0 → Wb rod d B_Main_state 50 [u0, u1, u2, some (.inl x3), u4, u5, u6] [] h Q) (k2 : ¬ x3.toInt < 0 → Wb rod d B_Main_state 34 [u0, u1, u2, some (.inl x3), u4, u5, u6] [] h Q) : Wb rod d B_Main_state 30 [u0, u1, u2, some (.inl x3), u4, u5, u6] [] h Q := by
  refine Wb.br (fun _ _ => b_Main_state_30) (fun c => ?_) (fun c => ?_)
  · have c : (decide (x3 < 0)) = true := by first | exact c | (simp only [Option.getD_some] at c; exact c)
    (first | exact (k1 (c_ltt c)) | (simp only [Option.getD_some]; exact (k1 (c_ltt c))))
  · have c : (decide (x3 < 0)) = false := by first | exact c | (simp only [Option.getD_some] at c; exact c)
    (first | exact (k2 (c_ltf c)) | (simp only [Option.getD_some]; exact (k2 (c_ltf c))))
theorem w_Main_state_34 {rod : Nat → Nat × (Nat → Int32)} {d : Nat} {Q : Option MV → MH → Prop} {u1 : Option MV} {u2 : Option MV} {x3 : Int32} {u4 : Option MV} {a5 : Nat} {a6 : Nat} {h : MH} (L : Lay h.2)  {Q1 : Option MV → MH → Prop} (c : Wc rod d 76 [.inr (.inr (.inl (some 65))), .inr (.inr (.inl (some a5))), .inr (.inr (.inl (some a6))), .inl x3] h Q1) (k : ∀ r1 h2, Q1 r1 h2 → Wb rod d B_Main_state 46 [some (.inr (.inr (.inl (some 0)))), u1, u2, some (.inl x3), u4, some (.inr (.inr (.inl (some a5)))), some (.inr (.inr (.inl (some a6))))] (r1.toList ++ []) h2 Q) : Wb rod d B_Main_state 34 [some (.inr (.inr (.inl (some 0)))), u1, u2, some (.inl x3), u4, some (.inr (.inr (.inl (some a5)))), some (.inr (.inr (.inl (some a6))))] [] h Q := by
  refine Wb.call (fun _ _ _ _ => b_Main_state_34 (Lay.o0 L) (Lay.k0_3 L)) (Q1 := Q1) ?_ ?_
  · (first | exact c | (simp only [Option.getD_some, (Lay.r0_3 L)]; exact c))
  · (first | exact k | (simp only [Option.getD_some, (Lay.r0_3 L)]; exact k))
theorem w_Main_state_46 {rod : Nat → Nat × (Nat → Int32)} {d : Nat} {Q : Option MV → MH → Prop} {u0 : Option MV} {u1 : Option MV} {u2 : Option MV} {x3 : Int32} {u4 : Option MV} {u5 : Option MV} {u6 : Option MV} {xs0 : Int32} {h : MH}   (k1 : x3.toInt ≤ xs0.toInt → Wb rod d B_Main_state 54 [u0, u1, u2, some (.inl x3), u4, u5, u6] [] h Q) (k2 : ¬ x3.toInt ≤ xs0.toInt → Wb rod d B_Main_state 50 [u0, u1, u2, some (.inl x3), u4, u5, u6] [] h Q) : Wb rod d B_Main_state 46 [u0, u1, u2, some (.inl x3), u4, u5, u6] [.inl xs0] h Q := by
  refine Wb.br (fun _ _ => b_Main_state_46) (fun c => ?_) (fun c => ?_)
  · have c : (decide (x3 ≤ xs0)) = true := by first | exact c | (simp only [Option.getD_some] at c; exact c)
    (first | exact (k1 (c_let c)) | (simp only [Option.getD_some]; exact (k1 (c_let c))))
  · have c : (decide (x3 ≤ xs0)) = false := by first | exact c | (simp only [Option.getD_some] at c; exact c)
    (first | exact (k2 (c_lef c)) | (simp only [Option.getD_some]; exact (k2 (c_lef c))))
theorem w_Main_state_50 {rod : Nat → Nat × (Nat → Int32)} {d : Nat} {Q : Option MV → MH → Prop} {u0 : Option MV} {u1 : Option MV} {u2 : Option MV} {u3 : Option MV} {u4 : Option MV} {u5 : Option MV} {u6 : Option MV} {h : MH}   (q : Q (some (.inl (-1000 : Int32))) h) : Wb rod d B_Main_state 50 [u0, u1, u2, u3, u4, u5, u6] [] h Q := by
  refine Wb.ret (b_Main_state_50) ?_
  (first | exact q | (simp only [Option.getD_some]; exact q))
theorem w_Main_state_54 {rod : Nat → Nat × (Nat → Int32)} {d : Nat} {Q : Option MV → MH → Prop} {u1 : Option MV} {u2 : Option MV} {u3 : Option MV} {x4 : Int32} {a5 : Nat} {u6 : Option MV} {h : MH} (L : Lay h.2)  {Q1 : Option MV → MH → Prop} (c : Wc rod d 89 [.inr (.inr (.inl (some 65))), .inr (.inr (.inl (some a5))), .inl x4] h Q1) (k : ∀ r1 h2, Q1 r1 h2 → Wb rod d B_Main_state 65 [some (.inr (.inr (.inl (some 0)))), u1, u2, u3, some (.inl x4), some (.inr (.inr (.inl (some a5)))), u6] (r1.toList ++ []) h2 Q) : Wb rod d B_Main_state 54 [some (.inr (.inr (.inl (some 0)))), u1, u2, u3, some (.inl x4), some (.inr (.inr (.inl (some a5)))), u6] [] h Q := by
  refine Wb.call (fun _ _ _ _ => b_Main_state_54 (Lay.o0 L) (Lay.k0_3 L)) (Q1 := Q1) ?_ ?_
  · (first | exact c | (simp only [Option.getD_some, (Lay.r0_3 L)]; exact c))
  · (first | exact k | (simp only [Option.getD_some, (Lay.r0_3 L)]; exact k))
theorem w_Main_state_65 {rod : Nat → Nat × (Nat → Int32)} {d : Nat} {Q : Option MV → MH → Prop} {u0 : Option MV} {u1 : Option MV} {u2 : Option MV} {u3 : Option MV} {u4 : Option MV} {u5 : Option MV} {u6 : Option MV} {xs0 : Int32} {h : MH}   (q : Q (some (.inl xs0)) h) : Wb rod d B_Main_state 65 [u0, u1, u2, u3, u4, u5, u6] [.inl xs0] h Q := by
  refine Wb.ret (b_Main_state_65) ?_
  (first | exact q | (simp only [Option.getD_some]; exact q))
theorem n_Walk_show {rod : Nat → Nat × (Nat → Int32)} {d : Nat} {Q : Option MV → MH → Prop} {a1 : Nat} {x2 : Int32} {h : MH} (k : Wb rod d B_Walk_show 0 [some (.inr (.inr (.inl (some 65)))), some (.inr (.inr (.inl (some a1)))), some (.inl x2)] [] h Q) : Wc rod (d + 1) 89 [.inr (.inr (.inl (some 65))), .inr (.inr (.inl (some a1))), .inl x2] h Q := Wc.en (fun _ _ => e_Walk_show) k
theorem w_Walk_show_0 {rod : Nat → Nat × (Nat → Int32)} {d : Nat} {Q : Option MV → MH → Prop} {u0 : Option MV} {u1 : Option MV} {x2 : Int32} {h : MH}   (k1 : x2.toInt < 10 → Wb rod d B_Walk_show 20 [u0, u1, some (.inl x2)] [] h Q) (k2 : ¬ x2.toInt < 10 → Wb rod d B_Walk_show 6 [u0, u1, some (.inl x2)] [] h Q) : Wb rod d B_Walk_show 0 [u0, u1, some (.inl x2)] [] h Q := by
  refine Wb.br (fun _ _ => b_Walk_show_0) (fun c => ?_) (fun c => ?_)
  · have c : (decide (x2 < (10 : Int32))) = true := by first | exact c | (simp only [Option.getD_some] at c; exact c)
    (first | exact (k1 (c_ltt c)) | (simp only [Option.getD_some]; exact (k1 (c_ltt c))))
  · have c : (decide (x2 < (10 : Int32))) = false := by first | exact c | (simp only [Option.getD_some] at c; exact c)
    (first | exact (k2 (c_ltf c)) | (simp only [Option.getD_some]; exact (k2 (c_ltf c))))
theorem w_Walk_show_6 {rod : Nat → Nat × (Nat → Int32)} {d : Nat} {Q : Option MV → MH → Prop} {a1 : Nat} {x2 : Int32} {h : MH} (L : Lay h.2)  {Q1 : Option MV → MH → Prop} (c : Wc rod d 90 [.inr (.inr (.inl (some 65))), .inr (.inr (.inl (some a1))), .inl (x2 / (10 : Int32)), .inl (x2 - x2 / (10 : Int32) * (10 : Int32))] h Q1) (k : ∀ r1 h2, Q1 r1 h2 → Wb rod d B_Walk_show 19 [some (.inr (.inr (.inl (some 65)))), some (.inr (.inr (.inl (some a1)))), some (.inl x2)] (r1.toList ++ []) h2 Q) : Wb rod d B_Walk_show 6 [some (.inr (.inr (.inl (some 65)))), some (.inr (.inr (.inl (some a1)))), some (.inl x2)] [] h Q := by
  refine Wb.call (fun _ _ _ _ => b_Walk_show_6 (by decide) (Lay.o65 L)) (Q1 := Q1) ?_ ?_
  · (first | exact c | (simp only [Option.getD_some]; exact c))
  · (first | exact k | (simp only [Option.getD_some]; exact k))
theorem w_Walk_show_19 {rod : Nat → Nat × (Nat → Int32)} {d : Nat} {Q : Option MV → MH → Prop} {u0 : Option MV} {u1 : Option MV} {u2 : Option MV} {xs0 : Int32} {h : MH}   (q : Q (some (.inl xs0)) h) : Wb rod d B_Walk_show 19 [u0, u1, u2] [.inl xs0] h Q := by
  refine Wb.ret (b_Walk_show_19) ?_
  (first | exact q | (simp only [Option.getD_some]; exact q))
theorem w_Walk_show_20 {rod : Nat → Nat × (Nat → Int32)} {d : Nat} {Q : Option MV → MH → Prop} {u0 : Option MV} {u1 : Option MV} {x2 : Int32} {h : MH}   (k0 : x2.toInt = 0 → Wb rod d B_Walk_show 64 [u0, u1, some (.inl x2)] [] h Q) (k1 : x2.toInt = 1 → Wb rod d B_Walk_show 69 [u0, u1, some (.inl x2)] [] h Q) (k2 : x2.toInt = 2 → Wb rod d B_Walk_show 74 [u0, u1, some (.inl x2)] [] h Q) (k3 : x2.toInt = 3 → Wb rod d B_Walk_show 79 [u0, u1, some (.inl x2)] [] h Q) (k4 : x2.toInt = 4 → Wb rod d B_Walk_show 84 [u0, u1, some (.inl x2)] [] h Q) (k5 : x2.toInt = 5 → Wb rod d B_Walk_show 89 [u0, u1, some (.inl x2)] [] h Q) (k6 : x2.toInt = 6 → Wb rod d B_Walk_show 94 [u0, u1, some (.inl x2)] [] h Q) (kd : x2.toInt ≠ 0 → x2.toInt ≠ 1 → x2.toInt ≠ 2 → x2.toInt ≠ 3 → x2.toInt ≠ 4 → x2.toInt ≠ 5 → x2.toInt ≠ 6 → Wb rod d B_Walk_show 99 [u0, u1, some (.inl x2)] [] h Q) : Wb rod d B_Walk_show 20 [u0, u1, some (.inl x2)] [] h Q := by
  have key : Wb rod d B_Walk_show (tabT [43, 48, 53, 58, 63, 68, 73] 0 x2 21 99) [u0, u1, some (.inl x2)] [] h Q := by
    by_cases e0 : x2 = Int32.ofInt 0
    · rw [show tabT [43, 48, 53, 58, 63, 68, 73] 0 x2 21 99 = 64 from by rw [e0]; rfl]
      exact k0 (by rw [e0]; rfl)
    by_cases e1 : x2 = Int32.ofInt 1
    · rw [show tabT [43, 48, 53, 58, 63, 68, 73] 0 x2 21 99 = 69 from by rw [e1]; rfl]
      exact k1 (by rw [e1]; rfl)
    by_cases e2 : x2 = Int32.ofInt 2
    · rw [show tabT [43, 48, 53, 58, 63, 68, 73] 0 x2 21 99 = 74 from by rw [e2]; rfl]
      exact k2 (by rw [e2]; rfl)
    by_cases e3 : x2 = Int32.ofInt 3
    · rw [show tabT [43, 48, 53, 58, 63, 68, 73] 0 x2 21 99 = 79 from by rw [e3]; rfl]
      exact k3 (by rw [e3]; rfl)
    by_cases e4 : x2 = Int32.ofInt 4
    · rw [show tabT [43, 48, 53, 58, 63, 68, 73] 0 x2 21 99 = 84 from by rw [e4]; rfl]
      exact k4 (by rw [e4]; rfl)
    by_cases e5 : x2 = Int32.ofInt 5
    · rw [show tabT [43, 48, 53, 58, 63, 68, 73] 0 x2 21 99 = 89 from by rw [e5]; rfl]
      exact k5 (by rw [e5]; rfl)
    by_cases e6 : x2 = Int32.ofInt 6
    · rw [show tabT [43, 48, 53, 58, 63, 68, 73] 0 x2 21 99 = 94 from by rw [e6]; rfl]
      exact k6 (by rw [e6]; rfl)
    rw [show tabT [43, 48, 53, 58, 63, 68, 73] 0 x2 21 99 = 99 from (if_neg e0).trans ((if_neg e1).trans ((if_neg e2).trans ((if_neg e3).trans ((if_neg e4).trans ((if_neg e5).trans ((if_neg e6).trans (rfl)))))))]
    exact kd (fun q => e0 (Int32.toInt_inj.mp q)) (fun q => e1 (Int32.toInt_inj.mp q)) (fun q => e2 (Int32.toInt_inj.mp q)) (fun q => e3 (Int32.toInt_inj.mp q)) (fun q => e4 (Int32.toInt_inj.mp q)) (fun q => e5 (Int32.toInt_inj.mp q)) (fun q => e6 (Int32.toInt_inj.mp q))
  refine Wb.go (fun r hr q => b_Walk_show_20 ?_) key
  (first | exact q | (simp only [Option.getD_some]; exact q))
theorem w_Walk_show_64 {rod : Nat → Nat × (Nat → Int32)} {d : Nat} {Q : Option MV → MH → Prop} {u1 : Option MV} {u2 : Option MV} {h : MH} (L : Lay h.2)  (q : Q (some (.inl (h.1 65 0))) h) : Wb rod d B_Walk_show 64 [some (.inr (.inr (.inl (some 65)))), u1, u2] [] h Q := by
  refine Wb.ret (b_Walk_show_64 (Lay.o65 L)) ?_
  (first | exact q | (simp only [Option.getD_some]; exact q))
theorem w_Walk_show_69 {rod : Nat → Nat × (Nat → Int32)} {d : Nat} {Q : Option MV → MH → Prop} {u1 : Option MV} {u2 : Option MV} {h : MH} (L : Lay h.2)  (q : Q (some (.inl (h.1 65 1))) h) : Wb rod d B_Walk_show 69 [some (.inr (.inr (.inl (some 65)))), u1, u2] [] h Q := by
  refine Wb.ret (b_Walk_show_69 (Lay.o65 L)) ?_
  (first | exact q | (simp only [Option.getD_some]; exact q))
theorem w_Walk_show_74 {rod : Nat → Nat × (Nat → Int32)} {d : Nat} {Q : Option MV → MH → Prop} {u1 : Option MV} {u2 : Option MV} {h : MH} (L : Lay h.2)  (q : Q (some (.inl (h.1 65 2))) h) : Wb rod d B_Walk_show 74 [some (.inr (.inr (.inl (some 65)))), u1, u2] [] h Q := by
  refine Wb.ret (b_Walk_show_74 (Lay.o65 L)) ?_
  (first | exact q | (simp only [Option.getD_some]; exact q))
theorem w_Walk_show_79 {rod : Nat → Nat × (Nat → Int32)} {d : Nat} {Q : Option MV → MH → Prop} {u1 : Option MV} {u2 : Option MV} {h : MH} (L : Lay h.2)  (q : Q (some (.inl (h.1 65 3))) h) : Wb rod d B_Walk_show 79 [some (.inr (.inr (.inl (some 65)))), u1, u2] [] h Q := by
  refine Wb.ret (b_Walk_show_79 (Lay.o65 L)) ?_
  (first | exact q | (simp only [Option.getD_some]; exact q))
theorem w_Walk_show_84 {rod : Nat → Nat × (Nat → Int32)} {d : Nat} {Q : Option MV → MH → Prop} {u1 : Option MV} {u2 : Option MV} {h : MH} (L : Lay h.2)  (q : Q (some (.inl (h.1 65 4))) h) : Wb rod d B_Walk_show 84 [some (.inr (.inr (.inl (some 65)))), u1, u2] [] h Q := by
  refine Wb.ret (b_Walk_show_84 (Lay.o65 L)) ?_
  (first | exact q | (simp only [Option.getD_some]; exact q))
theorem w_Walk_show_89 {rod : Nat → Nat × (Nat → Int32)} {d : Nat} {Q : Option MV → MH → Prop} {u1 : Option MV} {u2 : Option MV} {h : MH} (L : Lay h.2)  (q : Q (some (.inl (h.1 65 5))) h) : Wb rod d B_Walk_show 89 [some (.inr (.inr (.inl (some 65)))), u1, u2] [] h Q := by
  refine Wb.ret (b_Walk_show_89 (Lay.o65 L)) ?_
  (first | exact q | (simp only [Option.getD_some]; exact q))
theorem w_Walk_show_94 {rod : Nat → Nat × (Nat → Int32)} {d : Nat} {Q : Option MV → MH → Prop} {u1 : Option MV} {u2 : Option MV} {h : MH} (L : Lay h.2)  (q : Q (some (.inl (h.1 65 6))) h) : Wb rod d B_Walk_show 94 [some (.inr (.inr (.inl (some 65)))), u1, u2] [] h Q := by
  refine Wb.ret (b_Walk_show_94 (Lay.o65 L)) ?_
  (first | exact q | (simp only [Option.getD_some]; exact q))
theorem w_Walk_show_99 {rod : Nat → Nat × (Nat → Int32)} {d : Nat} {Q : Option MV → MH → Prop} {u0 : Option MV} {u1 : Option MV} {u2 : Option MV} {h : MH}   (q : Q (some (.inl (-1000 : Int32))) h) : Wb rod d B_Walk_show 99 [u0, u1, u2] [] h Q := by
  refine Wb.ret (b_Walk_show_99) ?_
  (first | exact q | (simp only [Option.getD_some]; exact q))
theorem n_Walk_showBuyer {rod : Nat → Nat × (Nat → Int32)} {d : Nat} {Q : Option MV → MH → Prop} {a1 : Nat} {x2 : Int32} {x3 : Int32} {h : MH} (k : Wb rod d B_Walk_showBuyer 0 [some (.inr (.inr (.inl (some 65)))), some (.inr (.inr (.inl (some a1)))), some (.inl x2), some (.inl x3)] [] h Q) : Wc rod (d + 1) 90 [.inr (.inr (.inl (some 65))), .inr (.inr (.inl (some a1))), .inl x2, .inl x3] h Q := Wc.en (fun _ _ => e_Walk_showBuyer) k
theorem w_Walk_showBuyer_0 {rod : Nat → Nat × (Nat → Int32)} {d : Nat} {Q : Option MV → MH → Prop} {u0 : Option MV} {a1 : Nat} {u2 : Option MV} {x3 : Int32} {h : MH} (A1 : LandA h.2 a1)  {Q1 : Option MV → MH → Prop} (c : Wc rod d 70 [.inr (.inr (.inl (some a1))), .inl x3] h Q1) (k : ∀ r1 h2, Q1 r1 h2 → Wb rod d B_Walk_showBuyer 5 [u0, some (.inr (.inr (.inl (some a1)))), u2, some (.inl x3)] (r1.toList ++ []) h2 Q) : Wb rod d B_Walk_showBuyer 0 [u0, some (.inr (.inr (.inl (some a1)))), u2, some (.inl x3)] [] h Q := by
  refine Wb.call (fun _ _ _ _ => b_Walk_showBuyer_0 (A1.o)) (Q1 := Q1) ?_ ?_
  · (first | exact c | (simp only [Option.getD_some]; exact c))
  · (first | exact k | (simp only [Option.getD_some]; exact k))
theorem w_Walk_showBuyer_5 {rod : Nat → Nat × (Nat → Int32)} {d : Nat} {Q : Option MV → MH → Prop} {u0 : Option MV} {u1 : Option MV} {u2 : Option MV} {u3 : Option MV} {xs0 : Int32} {h : MH}   (k1 : ¬ xs0.toInt = 0 → Wb rod d B_Walk_showBuyer 12 [u0, u1, u2, u3] [] h Q) (k2 : xs0.toInt = 0 → Wb rod d B_Walk_showBuyer 8 [u0, u1, u2, u3] [] h Q) : Wb rod d B_Walk_showBuyer 5 [u0, u1, u2, u3] [.inl xs0] h Q := by
  refine Wb.br (fun _ _ => b_Walk_showBuyer_5) (fun c => ?_) (fun c => ?_)
  · have c : (!(decide (xs0 = 0))) = true := by first | exact c | (simp only [Option.getD_some] at c; exact c)
    (first | exact (k1 (c_net c)) | (simp only [Option.getD_some]; exact (k1 (c_net c))))
  · have c : (!(decide (xs0 = 0))) = false := by first | exact c | (simp only [Option.getD_some] at c; exact c)
    (first | exact (k2 (c_nef c)) | (simp only [Option.getD_some]; exact (k2 (c_nef c))))
theorem w_Walk_showBuyer_8 {rod : Nat → Nat × (Nat → Int32)} {d : Nat} {Q : Option MV → MH → Prop} {u0 : Option MV} {u1 : Option MV} {u2 : Option MV} {u3 : Option MV} {h : MH}   (q : Q (some (.inl (-1000 : Int32))) h) : Wb rod d B_Walk_showBuyer 8 [u0, u1, u2, u3] [] h Q := by
  refine Wb.ret (b_Walk_showBuyer_8) ?_
  (first | exact q | (simp only [Option.getD_some]; exact q))
theorem w_Walk_showBuyer_12 {rod : Nat → Nat × (Nat → Int32)} {d : Nat} {Q : Option MV → MH → Prop} {u0 : Option MV} {u1 : Option MV} {x2 : Int32} {u3 : Option MV} {h : MH}   (k0 : x2.toInt = 1 → Wb rod d B_Walk_showBuyer 44 [u0, u1, some (.inl x2), u3] [] h Q) (k1 : x2.toInt = 2 → Wb rod d B_Walk_showBuyer 51 [u0, u1, some (.inl x2), u3] [] h Q) (k2 : x2.toInt = 3 → Wb rod d B_Walk_showBuyer 58 [u0, u1, some (.inl x2), u3] [] h Q) (k3 : x2.toInt = 4 → Wb rod d B_Walk_showBuyer 65 [u0, u1, some (.inl x2), u3] [] h Q) (kd : x2.toInt ≠ 1 → x2.toInt ≠ 2 → x2.toInt ≠ 3 → x2.toInt ≠ 4 → Wb rod d B_Walk_showBuyer 72 [u0, u1, some (.inl x2), u3] [] h Q) : Wb rod d B_Walk_showBuyer 12 [u0, u1, some (.inl x2), u3] [] h Q := by
  have key : Wb rod d B_Walk_showBuyer (tabT [31, 38, 45, 52] 1 x2 13 72) [u0, u1, some (.inl x2), u3] [] h Q := by
    by_cases e0 : x2 = Int32.ofInt 1
    · rw [show tabT [31, 38, 45, 52] 1 x2 13 72 = 44 from by rw [e0]; rfl]
      exact k0 (by rw [e0]; rfl)
    by_cases e1 : x2 = Int32.ofInt 2
    · rw [show tabT [31, 38, 45, 52] 1 x2 13 72 = 51 from by rw [e1]; rfl]
      exact k1 (by rw [e1]; rfl)
    by_cases e2 : x2 = Int32.ofInt 3
    · rw [show tabT [31, 38, 45, 52] 1 x2 13 72 = 58 from by rw [e2]; rfl]
      exact k2 (by rw [e2]; rfl)
    by_cases e3 : x2 = Int32.ofInt 4
    · rw [show tabT [31, 38, 45, 52] 1 x2 13 72 = 65 from by rw [e3]; rfl]
      exact k3 (by rw [e3]; rfl)
    rw [show tabT [31, 38, 45, 52] 1 x2 13 72 = 72 from (if_neg e0).trans ((if_neg e1).trans ((if_neg e2).trans ((if_neg e3).trans (rfl))))]
    exact kd (fun q => e0 (Int32.toInt_inj.mp q)) (fun q => e1 (Int32.toInt_inj.mp q)) (fun q => e2 (Int32.toInt_inj.mp q)) (fun q => e3 (Int32.toInt_inj.mp q))
  refine Wb.go (fun r hr q => b_Walk_showBuyer_12 ?_) key
  (first | exact q | (simp only [Option.getD_some]; exact q))
theorem w_Walk_showBuyer_44 {rod : Nat → Nat × (Nat → Int32)} {d : Nat} {Q : Option MV → MH → Prop} {u1 : Option MV} {u2 : Option MV} {x3 : Int32} {h : MH} (L : Lay h.2) (g0 : 0 ≤ x3.toInt ∧ x3.toInt < 8) (q : Q (some (.inl (h.1 66 x3.toNatClampNeg))) h) : Wb rod d B_Walk_showBuyer 44 [some (.inr (.inr (.inl (some 65)))), u1, u2, some (.inl x3)] [] h Q := by
  refine Wb.ret (b_Walk_showBuyer_44 (Lay.o65 L) (Lay.a65_8 L g0)) ?_
  (first | exact q | (simp only [Option.getD_some, (Lay.r65_8 L)]; exact q))
theorem w_Walk_showBuyer_51 {rod : Nat → Nat × (Nat → Int32)} {d : Nat} {Q : Option MV → MH → Prop} {u1 : Option MV} {u2 : Option MV} {x3 : Int32} {h : MH} (L : Lay h.2) (g0 : 0 ≤ x3.toInt ∧ x3.toInt < 8) (q : Q (some (.inl (h.1 67 x3.toNatClampNeg))) h) : Wb rod d B_Walk_showBuyer 51 [some (.inr (.inr (.inl (some 65)))), u1, u2, some (.inl x3)] [] h Q := by
  refine Wb.ret (b_Walk_showBuyer_51 (Lay.o65 L) (Lay.a65_9 L g0)) ?_
  (first | exact q | (simp only [Option.getD_some, (Lay.r65_9 L)]; exact q))
theorem w_Walk_showBuyer_58 {rod : Nat → Nat × (Nat → Int32)} {d : Nat} {Q : Option MV → MH → Prop} {u1 : Option MV} {u2 : Option MV} {x3 : Int32} {h : MH} (L : Lay h.2) (g0 : 0 ≤ x3.toInt ∧ x3.toInt < 8) (q : Q (some (.inl (h.1 68 x3.toNatClampNeg))) h) : Wb rod d B_Walk_showBuyer 58 [some (.inr (.inr (.inl (some 65)))), u1, u2, some (.inl x3)] [] h Q := by
  refine Wb.ret (b_Walk_showBuyer_58 (Lay.o65 L) (Lay.a65_10 L g0)) ?_
  (first | exact q | (simp only [Option.getD_some, (Lay.r65_10 L)]; exact q))
theorem w_Walk_showBuyer_65 {rod : Nat → Nat × (Nat → Int32)} {d : Nat} {Q : Option MV → MH → Prop} {u1 : Option MV} {u2 : Option MV} {x3 : Int32} {h : MH} (L : Lay h.2) (g0 : 0 ≤ x3.toInt ∧ x3.toInt < 8) (q : Q (some (.inl (h.1 69 x3.toNatClampNeg))) h) : Wb rod d B_Walk_showBuyer 65 [some (.inr (.inr (.inl (some 65)))), u1, u2, some (.inl x3)] [] h Q := by
  refine Wb.ret (b_Walk_showBuyer_65 (Lay.o65 L) (Lay.a65_11 L g0)) ?_
  (first | exact q | (simp only [Option.getD_some, (Lay.r65_11 L)]; exact q))
theorem w_Walk_showBuyer_72 {rod : Nat → Nat × (Nat → Int32)} {d : Nat} {Q : Option MV → MH → Prop} {u0 : Option MV} {u1 : Option MV} {u2 : Option MV} {u3 : Option MV} {h : MH}   (q : Q (some (.inl (-1000 : Int32))) h) : Wb rod d B_Walk_showBuyer 72 [u0, u1, u2, u3] [] h Q := by
  refine Wb.ret (b_Walk_showBuyer_72) ?_
  (first | exact q | (simp only [Option.getD_some]; exact q))
theorem n_Main_takes {rod : Nat → Nat × (Nat → Int32)} {d : Nat} {Q : Option MV → MH → Prop} {x1 : Int32} {x2 : Int32} {x3 : Int32} {x4 : Int32} {h : MH} (k : Wb rod d B_Main_takes 0 [some (.inr (.inr (.inl (some 0)))), some (.inl x1), some (.inl x2), some (.inl x3), some (.inl x4), none] [] h Q) : Wc rod (d + 1) 91 [.inr (.inr (.inl (some 0))), .inl x1, .inl x2, .inl x3, .inl x4] h Q := Wc.en (fun _ _ => e_Main_takes) k
theorem w_Main_takes_0 {rod : Nat → Nat × (Nat → Int32)} {d : Nat} {Q : Option MV → MH → Prop} {x1 : Int32} {u2 : Option MV} {u3 : Option MV} {u4 : Option MV} {u5 : Option MV} {h : MH} (L : Lay h.2)  {Q1 : Option MV → MH → Prop} (c : Wc rod d 61 [.inr (.inr (.inl (some 1))), .inl x1] h Q1) (k : ∀ r1 h2, Q1 r1 h2 → Wb rod d B_Main_takes 8 [some (.inr (.inr (.inl (some 0)))), some (.inl x1), u2, u3, u4, u5] (r1.toList ++ []) h2 Q) : Wb rod d B_Main_takes 0 [some (.inr (.inr (.inl (some 0)))), some (.inl x1), u2, u3, u4, u5] [] h Q := by
  refine Wb.call (fun _ _ _ _ => b_Main_takes_0 (Lay.o0 L) (Lay.k0_0 L)) (Q1 := Q1) ?_ ?_
  · (first | exact c | (simp only [Option.getD_some, (Lay.r0_0 L)]; exact c))
  · (first | exact k | (simp only [Option.getD_some, (Lay.r0_0 L)]; exact k))
theorem w_Main_takes_8 {rod : Nat → Nat × (Nat → Int32)} {d : Nat} {Q : Option MV → MH → Prop} {u0 : Option MV} {u1 : Option MV} {u2 : Option MV} {u3 : Option MV} {u4 : Option MV} {u5 : Option MV} {os0 : Option Nat} {h : MH}  (g0 : okl [u0, u1, u2, u3, u4, u5] 5 = true) (k1 : os0 = none → Wb rod d B_Main_takes 33 [u0, u1, u2, u3, u4, some (.inr (.inr (.inl os0)))] [] h Q) (k2 : ∀ v, os0 = some v → Wb rod d B_Main_takes 15 [u0, u1, u2, u3, u4, some (.inr (.inr (.inl os0)))] [] h Q) : Wb rod d B_Main_takes 8 [u0, u1, u2, u3, u4, u5] [.inr (.inr (.inl os0))] h Q := by
  cases os0 with
  | none =>
    refine Wb.br (fun _ _ => b_Main_takes_8 g0) (fun c => ?_) (fun c => ?_)
    · exact k1 rfl
    · simp at c
  | some v =>
    refine Wb.br (fun _ _ => b_Main_takes_8 g0) (fun c => ?_) (fun c => ?_)
    · simp at c
    · exact k2 v rfl
theorem w_Main_takes_15 {rod : Nat → Nat × (Nat → Int32)} {d : Nat} {Q : Option MV → MH → Prop} {u0 : Option MV} {u1 : Option MV} {x2 : Int32} {u3 : Option MV} {u4 : Option MV} {a5 : Nat} {h : MH} (A5 : LandA h.2 a5)  {Q1 : Option MV → MH → Prop} (c : Wc rod d 70 [.inr (.inr (.inl (some a5))), .inl x2] h Q1) (k : ∀ r1 h2, Q1 r1 h2 → Wb rod d B_Main_takes 21 [u0, u1, some (.inl x2), u3, u4, some (.inr (.inr (.inl (some a5))))] (r1.toList ++ []) h2 Q) : Wb rod d B_Main_takes 15 [u0, u1, some (.inl x2), u3, u4, some (.inr (.inr (.inl (some a5))))] [] h Q := by
  refine Wb.call (fun _ _ _ _ => b_Main_takes_15 (A5.o)) (Q1 := Q1) ?_ ?_
  · (first | exact c | (simp only [Option.getD_some]; exact c))
  · (first | exact k | (simp only [Option.getD_some]; exact k))
theorem w_Main_takes_21 {rod : Nat → Nat × (Nat → Int32)} {d : Nat} {Q : Option MV → MH → Prop} {u0 : Option MV} {u1 : Option MV} {u2 : Option MV} {u3 : Option MV} {u4 : Option MV} {u5 : Option MV} {xs0 : Int32} {h : MH}   (k1 : xs0.toInt = 0 → Wb rod d B_Main_takes 33 [u0, u1, u2, u3, u4, u5] [] h Q) (k2 : ¬ xs0.toInt = 0 → Wb rod d B_Main_takes 24 [u0, u1, u2, u3, u4, u5] [] h Q) : Wb rod d B_Main_takes 21 [u0, u1, u2, u3, u4, u5] [.inl xs0] h Q := by
  refine Wb.br (fun _ _ => b_Main_takes_21) (fun c => ?_) (fun c => ?_)
  · have c : (decide (xs0 = 0)) = true := by first | exact c | (simp only [Option.getD_some] at c; exact c)
    (first | exact (k1 (c_eqt c)) | (simp only [Option.getD_some]; exact (k1 (c_eqt c))))
  · have c : (decide (xs0 = 0)) = false := by first | exact c | (simp only [Option.getD_some] at c; exact c)
    (first | exact (k2 (c_eqf c)) | (simp only [Option.getD_some]; exact (k2 (c_eqf c))))
theorem w_Main_takes_24 {rod : Nat → Nat × (Nat → Int32)} {d : Nat} {Q : Option MV → MH → Prop} {u0 : Option MV} {u1 : Option MV} {u2 : Option MV} {x3 : Int32} {x4 : Int32} {u5 : Option MV} {h : MH}   {Q1 : Option MV → MH → Prop} (c : Wc rod d 92 [.inl x3, .inl x4] h Q1) (k : ∀ r1 h2, Q1 r1 h2 → Wb rod d B_Main_takes 30 [u0, u1, u2, some (.inl x3), some (.inl x4), u5] (r1.toList ++ []) h2 Q) : Wb rod d B_Main_takes 24 [u0, u1, u2, some (.inl x3), some (.inl x4), u5] [] h Q := by
  refine Wb.call (fun _ _ _ _ => b_Main_takes_24) (Q1 := Q1) ?_ ?_
  · (first | exact c | (simp only [Option.getD_some]; exact c))
  · (first | exact k | (simp only [Option.getD_some]; exact k))
theorem w_Main_takes_30 {rod : Nat → Nat × (Nat → Int32)} {d : Nat} {Q : Option MV → MH → Prop} {u0 : Option MV} {u1 : Option MV} {u2 : Option MV} {u3 : Option MV} {u4 : Option MV} {u5 : Option MV} {xs0 : Int32} {h : MH}   (k1 : ¬ xs0.toInt = 0 → Wb rod d B_Main_takes 35 [u0, u1, u2, u3, u4, u5] [] h Q) (k2 : xs0.toInt = 0 → Wb rod d B_Main_takes 33 [u0, u1, u2, u3, u4, u5] [] h Q) : Wb rod d B_Main_takes 30 [u0, u1, u2, u3, u4, u5] [.inl xs0] h Q := by
  refine Wb.br (fun _ _ => b_Main_takes_30) (fun c => ?_) (fun c => ?_)
  · have c : (!(decide (xs0 = 0))) = true := by first | exact c | (simp only [Option.getD_some] at c; exact c)
    (first | exact (k1 (c_net c)) | (simp only [Option.getD_some]; exact (k1 (c_net c))))
  · have c : (!(decide (xs0 = 0))) = false := by first | exact c | (simp only [Option.getD_some] at c; exact c)
    (first | exact (k2 (c_nef c)) | (simp only [Option.getD_some]; exact (k2 (c_nef c))))
theorem w_Main_takes_33 {rod : Nat → Nat × (Nat → Int32)} {d : Nat} {Q : Option MV → MH → Prop} {u0 : Option MV} {u1 : Option MV} {u2 : Option MV} {u3 : Option MV} {u4 : Option MV} {u5 : Option MV} {h : MH}   (q : Q (some (.inl (-1 : Int32))) h) : Wb rod d B_Main_takes 33 [u0, u1, u2, u3, u4, u5] [] h Q := by
  refine Wb.ret (b_Main_takes_33) ?_
  (first | exact q | (simp only [Option.getD_some]; exact q))
theorem w_Main_takes_35 {rod : Nat → Nat × (Nat → Int32)} {d : Nat} {Q : Option MV → MH → Prop} {u0 : Option MV} {u1 : Option MV} {x2 : Int32} {x3 : Int32} {x4 : Int32} {a5 : Nat} {h : MH} (A5 : LandA h.2 a5)  {Q1 : Option MV → MH → Prop} (c : Wc rod d 93 [.inr (.inr (.inl (some a5))), .inl x2, .inl x3, .inl x4] h Q1) (k : ∀ r1 h2, Q1 r1 h2 → Wb rod d B_Main_takes 44 [u0, u1, some (.inl x2), some (.inl x3), some (.inl x4), some (.inr (.inr (.inl (some a5))))] (r1.toList ++ []) h2 Q) : Wb rod d B_Main_takes 35 [u0, u1, some (.inl x2), some (.inl x3), some (.inl x4), some (.inr (.inr (.inl (some a5))))] [] h Q := by
  refine Wb.call (fun _ _ _ _ => b_Main_takes_35 (A5.o)) (Q1 := Q1) ?_ ?_
  · (first | exact c | (simp only [Option.getD_some]; exact c))
  · (first | exact k | (simp only [Option.getD_some]; exact k))
theorem w_Main_takes_44 {rod : Nat → Nat × (Nat → Int32)} {d : Nat} {Q : Option MV → MH → Prop} {u0 : Option MV} {u1 : Option MV} {u2 : Option MV} {u3 : Option MV} {u4 : Option MV} {u5 : Option MV} {xs0 : Int32} {h : MH}   (k1 : xs0.toInt = 0 → Wb rod d B_Main_takes 51 [u0, u1, u2, u3, u4, u5] [] h Q) (k2 : ¬ xs0.toInt = 0 → Wb rod d B_Main_takes 47 [u0, u1, u2, u3, u4, u5] [] h Q) : Wb rod d B_Main_takes 44 [u0, u1, u2, u3, u4, u5] [.inl xs0] h Q := by
  refine Wb.br (fun _ _ => b_Main_takes_44) (fun c => ?_) (fun c => ?_)
  · have c : (decide (xs0 = 0)) = true := by first | exact c | (simp only [Option.getD_some] at c; exact c)
    (first | exact (k1 (c_eqt c)) | (simp only [Option.getD_some]; exact (k1 (c_eqt c))))
  · have c : (decide (xs0 = 0)) = false := by first | exact c | (simp only [Option.getD_some] at c; exact c)
    (first | exact (k2 (c_eqf c)) | (simp only [Option.getD_some]; exact (k2 (c_eqf c))))
theorem w_Main_takes_47 {rod : Nat → Nat × (Nat → Int32)} {d : Nat} {Q : Option MV → MH → Prop} {u0 : Option MV} {u1 : Option MV} {u2 : Option MV} {u3 : Option MV} {u4 : Option MV} {u5 : Option MV} {h : MH}   (k : Wb rod d B_Main_takes 52 [u0, u1, u2, u3, u4, u5] [.inl (1 : Int32)] h Q) : Wb rod d B_Main_takes 47 [u0, u1, u2, u3, u4, u5] [] h Q := by
  refine Wb.go (fun r hr q => b_Main_takes_47 ?_) k
  (first | exact q | (simp only [Option.getD_some]; exact q))
theorem w_Main_takes_51 {rod : Nat → Nat × (Nat → Int32)} {d : Nat} {Q : Option MV → MH → Prop} {u0 : Option MV} {u1 : Option MV} {u2 : Option MV} {u3 : Option MV} {u4 : Option MV} {u5 : Option MV} {h : MH}   (k : Wb rod d B_Main_takes 52 [u0, u1, u2, u3, u4, u5] [.inl (0 : Int32)] h Q) : Wb rod d B_Main_takes 51 [u0, u1, u2, u3, u4, u5] [] h Q := by
  refine Wb.go (fun r hr q => b_Main_takes_51 ?_) k
  (first | exact q | (simp only [Option.getD_some]; exact q))
theorem w_Main_takes_52 {rod : Nat → Nat × (Nat → Int32)} {d : Nat} {Q : Option MV → MH → Prop} {u0 : Option MV} {u1 : Option MV} {u2 : Option MV} {u3 : Option MV} {u4 : Option MV} {u5 : Option MV} {xs0 : Int32} {h : MH}   (q : Q (some (.inl xs0)) h) : Wb rod d B_Main_takes 52 [u0, u1, u2, u3, u4, u5] [.inl xs0] h Q := by
  refine Wb.ret (b_Main_takes_52) ?_
  (first | exact q | (simp only [Option.getD_some]; exact q))
theorem n_Main_isOffer {rod : Nat → Nat × (Nat → Int32)} {d : Nat} {Q : Option MV → MH → Prop} {x0 : Int32} {x1 : Int32} {h : MH} (k : Wb rod d B_Main_isOffer 0 [some (.inl x0), some (.inl x1)] [] h Q) : Wc rod (d + 1) 92 [.inl x0, .inl x1] h Q := Wc.en (fun _ _ => e_Main_isOffer) k
theorem w_Main_isOffer_0 {rod : Nat → Nat × (Nat → Int32)} {d : Nat} {Q : Option MV → MH → Prop} {x0 : Int32} {u1 : Option MV} {h : MH}   (k1 : x0.toInt < 1 → Wb rod d B_Main_isOffer 25 [some (.inl x0), u1] [] h Q) (k2 : ¬ x0.toInt < 1 → Wb rod d B_Main_isOffer 5 [some (.inl x0), u1] [] h Q) : Wb rod d B_Main_isOffer 0 [some (.inl x0), u1] [] h Q := by
  refine Wb.br (fun _ _ => b_Main_isOffer_0) (fun c => ?_) (fun c => ?_)
  · have c : (decide (x0 < (1 : Int32))) = true := by first | exact c | (simp only [Option.getD_some] at c; exact c)
    (first | exact (k1 (c_ltt c)) | (simp only [Option.getD_some]; exact (k1 (c_ltt c))))
  · have c : (decide (x0 < (1 : Int32))) = false := by first | exact c | (simp only [Option.getD_some] at c; exact c)
    (first | exact (k2 (c_ltf c)) | (simp only [Option.getD_some]; exact (k2 (c_ltf c))))
theorem w_Main_isOffer_5 {rod : Nat → Nat × (Nat → Int32)} {d : Nat} {Q : Option MV → MH → Prop} {x0 : Int32} {u1 : Option MV} {h : MH}   (k1 : 60 < x0.toInt → Wb rod d B_Main_isOffer 25 [some (.inl x0), u1] [] h Q) (k2 : ¬ 60 < x0.toInt → Wb rod d B_Main_isOffer 11 [some (.inl x0), u1] [] h Q) : Wb rod d B_Main_isOffer 5 [some (.inl x0), u1] [] h Q := by
  refine Wb.br (fun _ _ => b_Main_isOffer_5) (fun c => ?_) (fun c => ?_)
  · have c : (decide ((60 : Int32) < x0)) = true := by first | exact c | (simp only [Option.getD_some] at c; exact c)
    (first | exact (k1 (c_ltt c)) | (simp only [Option.getD_some]; exact (k1 (c_ltt c))))
  · have c : (decide ((60 : Int32) < x0)) = false := by first | exact c | (simp only [Option.getD_some] at c; exact c)
    (first | exact (k2 (c_ltf c)) | (simp only [Option.getD_some]; exact (k2 (c_ltf c))))
theorem w_Main_isOffer_11 {rod : Nat → Nat × (Nat → Int32)} {d : Nat} {Q : Option MV → MH → Prop} {u0 : Option MV} {x1 : Int32} {h : MH}   (k1 : x1.toInt < 0 → Wb rod d B_Main_isOffer 25 [u0, some (.inl x1)] [] h Q) (k2 : ¬ x1.toInt < 0 → Wb rod d B_Main_isOffer 15 [u0, some (.inl x1)] [] h Q) : Wb rod d B_Main_isOffer 11 [u0, some (.inl x1)] [] h Q := by
  refine Wb.br (fun _ _ => b_Main_isOffer_11) (fun c => ?_) (fun c => ?_)
  · have c : (decide (x1 < 0)) = true := by first | exact c | (simp only [Option.getD_some] at c; exact c)
    (first | exact (k1 (c_ltt c)) | (simp only [Option.getD_some]; exact (k1 (c_ltt c))))
  · have c : (decide (x1 < 0)) = false := by first | exact c | (simp only [Option.getD_some] at c; exact c)
    (first | exact (k2 (c_ltf c)) | (simp only [Option.getD_some]; exact (k2 (c_ltf c))))
theorem w_Main_isOffer_15 {rod : Nat → Nat × (Nat → Int32)} {d : Nat} {Q : Option MV → MH → Prop} {u0 : Option MV} {x1 : Int32} {h : MH}   (k1 : 99 < x1.toInt → Wb rod d B_Main_isOffer 25 [u0, some (.inl x1)] [] h Q) (k2 : ¬ 99 < x1.toInt → Wb rod d B_Main_isOffer 21 [u0, some (.inl x1)] [] h Q) : Wb rod d B_Main_isOffer 15 [u0, some (.inl x1)] [] h Q := by
  refine Wb.br (fun _ _ => b_Main_isOffer_15) (fun c => ?_) (fun c => ?_)
  · have c : (decide ((99 : Int32) < x1)) = true := by first | exact c | (simp only [Option.getD_some] at c; exact c)
    (first | exact (k1 (c_ltt c)) | (simp only [Option.getD_some]; exact (k1 (c_ltt c))))
  · have c : (decide ((99 : Int32) < x1)) = false := by first | exact c | (simp only [Option.getD_some] at c; exact c)
    (first | exact (k2 (c_ltf c)) | (simp only [Option.getD_some]; exact (k2 (c_ltf c))))
theorem w_Main_isOffer_21 {rod : Nat → Nat × (Nat → Int32)} {d : Nat} {Q : Option MV → MH → Prop} {u0 : Option MV} {u1 : Option MV} {h : MH}   (k : Wb rod d B_Main_isOffer 26 [u0, u1] [.inl (1 : Int32)] h Q) : Wb rod d B_Main_isOffer 21 [u0, u1] [] h Q := by
  refine Wb.go (fun r hr q => b_Main_isOffer_21 ?_) k
  (first | exact q | (simp only [Option.getD_some]; exact q))
theorem w_Main_isOffer_25 {rod : Nat → Nat × (Nat → Int32)} {d : Nat} {Q : Option MV → MH → Prop} {u0 : Option MV} {u1 : Option MV} {h : MH}   (k : Wb rod d B_Main_isOffer 26 [u0, u1] [.inl (0 : Int32)] h Q) : Wb rod d B_Main_isOffer 25 [u0, u1] [] h Q := by
  refine Wb.go (fun r hr q => b_Main_isOffer_25 ?_) k
  (first | exact q | (simp only [Option.getD_some]; exact q))
theorem w_Main_isOffer_26 {rod : Nat → Nat × (Nat → Int32)} {d : Nat} {Q : Option MV → MH → Prop} {u0 : Option MV} {u1 : Option MV} {xs0 : Int32} {h : MH}  (g0 : xs0 = 0 ∨ xs0 = 1) (q : Q (some (.inl xs0)) h) : Wb rod d B_Main_isOffer 26 [u0, u1] [.inl xs0] h Q := by
  refine Wb.ret (b_Main_isOffer_26 (d01 g0)) ?_
  (first | exact q | (simp only [Option.getD_some]; exact q))
theorem n_Land_wants {rod : Nat → Nat × (Nat → Int32)} {d : Nat} {Q : Option MV → MH → Prop} {a0 : Nat} {x1 : Int32} {x2 : Int32} {x3 : Int32} {h : MH} (k : Wb rod d B_Land_wants 0 [some (.inr (.inr (.inl (some a0)))), some (.inl x1), some (.inl x2), some (.inl x3)] [] h Q) : Wc rod (d + 1) 93 [.inr (.inr (.inl (some a0))), .inl x1, .inl x2, .inl x3] h Q := Wc.en (fun _ _ => e_Land_wants) k
theorem w_Land_wants_0 {rod : Nat → Nat × (Nat → Int32)} {d : Nat} {Q : Option MV → MH → Prop} {a0 : Nat} {x1 : Int32} {u2 : Option MV} {u3 : Option MV} {h : MH} (A0 : LandA h.2 a0)  {Q1 : Option MV → MH → Prop} (c : Wc rod d 70 [.inr (.inr (.inl (some a0))), .inl x1] h Q1) (k : ∀ r1 h2, Q1 r1 h2 → Wb rod d B_Land_wants 5 [some (.inr (.inr (.inl (some a0)))), some (.inl x1), u2, u3] (r1.toList ++ []) h2 Q) : Wb rod d B_Land_wants 0 [some (.inr (.inr (.inl (some a0)))), some (.inl x1), u2, u3] [] h Q := by
  refine Wb.call (fun _ _ _ _ => b_Land_wants_0 (A0.o)) (Q1 := Q1) ?_ ?_
  · (first | exact c | (simp only [Option.getD_some]; exact c))
  · (first | exact k | (simp only [Option.getD_some]; exact k))
theorem w_Land_wants_5 {rod : Nat → Nat × (Nat → Int32)} {d : Nat} {Q : Option MV → MH → Prop} {u0 : Option MV} {u1 : Option MV} {u2 : Option MV} {u3 : Option MV} {xs0 : Int32} {h : MH}   (k1 : xs0.toInt = 0 → Wb rod d B_Land_wants 48 [u0, u1, u2, u3] [] h Q) (k2 : ¬ xs0.toInt = 0 → Wb rod d B_Land_wants 8 [u0, u1, u2, u3] [] h Q) : Wb rod d B_Land_wants 5 [u0, u1, u2, u3] [.inl xs0] h Q := by
  refine Wb.br (fun _ _ => b_Land_wants_5) (fun c => ?_) (fun c => ?_)
  · have c : (decide (xs0 = 0)) = true := by first | exact c | (simp only [Option.getD_some] at c; exact c)
    (first | exact (k1 (c_eqt c)) | (simp only [Option.getD_some]; exact (k1 (c_eqt c))))
  · have c : (decide (xs0 = 0)) = false := by first | exact c | (simp only [Option.getD_some] at c; exact c)
    (first | exact (k2 (c_eqf c)) | (simp only [Option.getD_some]; exact (k2 (c_eqf c))))
theorem w_Land_wants_8 {rod : Nat → Nat × (Nat → Int32)} {d : Nat} {Q : Option MV → MH → Prop} {a0 : Nat} {x1 : Int32} {u2 : Option MV} {x3 : Int32} {h : MH} (A0 : LandA h.2 a0) (g0 : 0 ≤ x1.toInt ∧ x1.toInt < 8) (k1 : (h.1 (a0 + 4) x1.toNatClampNeg).toInt < x3.toInt → Wb rod d B_Land_wants 48 [some (.inr (.inr (.inl (some a0)))), some (.inl x1), u2, some (.inl x3)] [] h Q) (k2 : ¬ (h.1 (a0 + 4) x1.toNatClampNeg).toInt < x3.toInt → Wb rod d B_Land_wants 18 [some (.inr (.inr (.inl (some a0)))), some (.inl x1), u2, some (.inl x3)] [] h Q) : Wb rod d B_Land_wants 8 [some (.inr (.inr (.inl (some a0)))), some (.inl x1), u2, some (.inl x3)] [] h Q := by
  refine Wb.br (fun _ _ => b_Land_wants_8 (A0.o) (A0.a9 g0)) (fun c => ?_) (fun c => ?_)
  · have c : (decide ((h.1 (a0 + 4) x1.toNatClampNeg) < x3)) = true := by first | exact c | (simp only [Option.getD_some, A0.r9] at c; exact c)
    (first | exact (k1 (c_ltt c)) | (simp only [Option.getD_some, A0.r9]; exact (k1 (c_ltt c))))
  · have c : (decide ((h.1 (a0 + 4) x1.toNatClampNeg) < x3)) = false := by first | exact c | (simp only [Option.getD_some, A0.r9] at c; exact c)
    (first | exact (k2 (c_ltf c)) | (simp only [Option.getD_some, A0.r9]; exact (k2 (c_ltf c))))
theorem w_Land_wants_18 {rod : Nat → Nat × (Nat → Int32)} {d : Nat} {Q : Option MV → MH → Prop} {a0 : Nat} {x1 : Int32} {x2 : Int32} {x3 : Int32} {h : MH} (A0 : LandA h.2 a0) (g0 : 0 ≤ x1.toInt ∧ x1.toInt < 8) {Q1 : Option MV → MH → Prop} (c : Wc rod d 82 [.inl (h.1 (a0 + 1) x1.toNatClampNeg), .inl (h.1 (a0 + 3) x1.toNatClampNeg), .inl (h.1 (a0 + 5) x1.toNatClampNeg), .inl x2, .inl x3] h Q1) (k : ∀ r1 h2, Q1 r1 h2 → Wb rod d B_Land_wants 41 [some (.inr (.inr (.inl (some a0)))), some (.inl x1), some (.inl x2), some (.inl x3)] (r1.toList ++ []) h2 Q) : Wb rod d B_Land_wants 18 [some (.inr (.inr (.inl (some a0)))), some (.inl x1), some (.inl x2), some (.inl x3)] [] h Q := by
  refine Wb.call (fun _ _ _ _ => b_Land_wants_18 (A0.o) (A0.a6 g0) (A0.a8 g0) (A0.a10 g0)) (Q1 := Q1) ?_ ?_
  · (first | exact c | (simp only [Option.getD_some, A0.r6, A0.r8, A0.r10]; exact c))
  · (first | exact k | (simp only [Option.getD_some, A0.r6, A0.r8, A0.r10]; exact k))
theorem w_Land_wants_41 {rod : Nat → Nat × (Nat → Int32)} {d : Nat} {Q : Option MV → MH → Prop} {u0 : Option MV} {u1 : Option MV} {u2 : Option MV} {u3 : Option MV} {xs0 : Int32} {h : MH}   (k1 : xs0.toInt = 0 → Wb rod d B_Land_wants 48 [u0, u1, u2, u3] [] h Q) (k2 : ¬ xs0.toInt = 0 → Wb rod d B_Land_wants 44 [u0, u1, u2, u3] [] h Q) : Wb rod d B_Land_wants 41 [u0, u1, u2, u3] [.inl xs0] h Q := by
  refine Wb.br (fun _ _ => b_Land_wants_41) (fun c => ?_) (fun c => ?_)
  · have c : (decide (xs0 = 0)) = true := by first | exact c | (simp only [Option.getD_some] at c; exact c)
    (first | exact (k1 (c_eqt c)) | (simp only [Option.getD_some]; exact (k1 (c_eqt c))))
  · have c : (decide (xs0 = 0)) = false := by first | exact c | (simp only [Option.getD_some] at c; exact c)
    (first | exact (k2 (c_eqf c)) | (simp only [Option.getD_some]; exact (k2 (c_eqf c))))
theorem w_Land_wants_44 {rod : Nat → Nat × (Nat → Int32)} {d : Nat} {Q : Option MV → MH → Prop} {u0 : Option MV} {u1 : Option MV} {u2 : Option MV} {u3 : Option MV} {h : MH}   (k : Wb rod d B_Land_wants 49 [u0, u1, u2, u3] [.inl (1 : Int32)] h Q) : Wb rod d B_Land_wants 44 [u0, u1, u2, u3] [] h Q := by
  refine Wb.go (fun r hr q => b_Land_wants_44 ?_) k
  (first | exact q | (simp only [Option.getD_some]; exact q))
theorem w_Land_wants_48 {rod : Nat → Nat × (Nat → Int32)} {d : Nat} {Q : Option MV → MH → Prop} {u0 : Option MV} {u1 : Option MV} {u2 : Option MV} {u3 : Option MV} {h : MH}   (k : Wb rod d B_Land_wants 49 [u0, u1, u2, u3] [.inl (0 : Int32)] h Q) : Wb rod d B_Land_wants 48 [u0, u1, u2, u3] [] h Q := by
  refine Wb.go (fun r hr q => b_Land_wants_48 ?_) k
  (first | exact q | (simp only [Option.getD_some]; exact q))
theorem w_Land_wants_49 {rod : Nat → Nat × (Nat → Int32)} {d : Nat} {Q : Option MV → MH → Prop} {u0 : Option MV} {u1 : Option MV} {u2 : Option MV} {u3 : Option MV} {xs0 : Int32} {h : MH}  (g0 : xs0 = 0 ∨ xs0 = 1) (q : Q (some (.inl xs0)) h) : Wb rod d B_Land_wants 49 [u0, u1, u2, u3] [.inl xs0] h Q := by
  refine Wb.ret (b_Land_wants_49 (d01 g0)) ?_
  (first | exact q | (simp only [Option.getD_some]; exact q))
theorem n_Main_priced {rod : Nat → Nat × (Nat → Int32)} {d : Nat} {Q : Option MV → MH → Prop} {x1 : Int32} {x2 : Int32} {x3 : Int32} {x4 : Int32} {h : MH} (k : Wb rod d B_Main_priced 0 [some (.inr (.inr (.inl (some 0)))), some (.inl x1), some (.inl x2), some (.inl x3), some (.inl x4), none, none] [] h Q) : Wc rod (d + 1) 94 [.inr (.inr (.inl (some 0))), .inl x1, .inl x2, .inl x3, .inl x4] h Q := Wc.en (fun _ _ => e_Main_priced) k
theorem w_Main_priced_0 {rod : Nat → Nat × (Nat → Int32)} {d : Nat} {Q : Option MV → MH → Prop} {x1 : Int32} {u2 : Option MV} {u3 : Option MV} {u4 : Option MV} {u5 : Option MV} {u6 : Option MV} {h : MH} (L : Lay h.2)  {Q1 : Option MV → MH → Prop} (c : Wc rod d 61 [.inr (.inr (.inl (some 1))), .inl x1] h Q1) (k : ∀ r1 h2, Q1 r1 h2 → Wb rod d B_Main_priced 8 [some (.inr (.inr (.inl (some 0)))), some (.inl x1), u2, u3, u4, u5, u6] (r1.toList ++ []) h2 Q) : Wb rod d B_Main_priced 0 [some (.inr (.inr (.inl (some 0)))), some (.inl x1), u2, u3, u4, u5, u6] [] h Q := by
  refine Wb.call (fun _ _ _ _ => b_Main_priced_0 (Lay.o0 L) (Lay.k0_0 L)) (Q1 := Q1) ?_ ?_
  · (first | exact c | (simp only [Option.getD_some, (Lay.r0_0 L)]; exact c))
  · (first | exact k | (simp only [Option.getD_some, (Lay.r0_0 L)]; exact k))
theorem w_Main_priced_8 {rod : Nat → Nat × (Nat → Int32)} {d : Nat} {Q : Option MV → MH → Prop} {u0 : Option MV} {u1 : Option MV} {u2 : Option MV} {u3 : Option MV} {u4 : Option MV} {u5 : Option MV} {u6 : Option MV} {os0 : Option Nat} {h : MH}  (g0 : okl [u0, u1, u2, u3, u4, u5, u6] 5 = true) (k1 : os0 = none → Wb rod d B_Main_priced 33 [u0, u1, u2, u3, u4, some (.inr (.inr (.inl os0))), u6] [] h Q) (k2 : ∀ v, os0 = some v → Wb rod d B_Main_priced 15 [u0, u1, u2, u3, u4, some (.inr (.inr (.inl os0))), u6] [] h Q) : Wb rod d B_Main_priced 8 [u0, u1, u2, u3, u4, u5, u6] [.inr (.inr (.inl os0))] h Q := by
  cases os0 with
  | none =>
    refine Wb.br (fun _ _ => b_Main_priced_8 g0) (fun c => ?_) (fun c => ?_)
    · exact k1 rfl
    · simp at c
  | some v =>
    refine Wb.br (fun _ _ => b_Main_priced_8 g0) (fun c => ?_) (fun c => ?_)
    · simp at c
    · exact k2 v rfl
theorem w_Main_priced_15 {rod : Nat → Nat × (Nat → Int32)} {d : Nat} {Q : Option MV → MH → Prop} {u0 : Option MV} {u1 : Option MV} {x2 : Int32} {u3 : Option MV} {u4 : Option MV} {u5 : Option MV} {u6 : Option MV} {h : MH}   {Q1 : Option MV → MH → Prop} (c : Wc rod d 92 [.inl x2, .inl (0 : Int32)] h Q1) (k : ∀ r1 h2, Q1 r1 h2 → Wb rod d B_Main_priced 20 [u0, u1, some (.inl x2), u3, u4, u5, u6] (r1.toList ++ []) h2 Q) : Wb rod d B_Main_priced 15 [u0, u1, some (.inl x2), u3, u4, u5, u6] [] h Q := by
  refine Wb.call (fun _ _ _ _ => b_Main_priced_15) (Q1 := Q1) ?_ ?_
  · (first | exact c | (simp only [Option.getD_some]; exact c))
  · (first | exact k | (simp only [Option.getD_some]; exact k))
theorem w_Main_priced_20 {rod : Nat → Nat × (Nat → Int32)} {d : Nat} {Q : Option MV → MH → Prop} {u0 : Option MV} {u1 : Option MV} {u2 : Option MV} {u3 : Option MV} {u4 : Option MV} {u5 : Option MV} {u6 : Option MV} {xs0 : Int32} {h : MH}   (k1 : xs0.toInt = 0 → Wb rod d B_Main_priced 33 [u0, u1, u2, u3, u4, u5, u6] [] h Q) (k2 : ¬ xs0.toInt = 0 → Wb rod d B_Main_priced 23 [u0, u1, u2, u3, u4, u5, u6] [] h Q) : Wb rod d B_Main_priced 20 [u0, u1, u2, u3, u4, u5, u6] [.inl xs0] h Q := by
  refine Wb.br (fun _ _ => b_Main_priced_20) (fun c => ?_) (fun c => ?_)
  · have c : (decide (xs0 = 0)) = true := by first | exact c | (simp only [Option.getD_some] at c; exact c)
    (first | exact (k1 (c_eqt c)) | (simp only [Option.getD_some]; exact (k1 (c_eqt c))))
  · have c : (decide (xs0 = 0)) = false := by first | exact c | (simp only [Option.getD_some] at c; exact c)
    (first | exact (k2 (c_eqf c)) | (simp only [Option.getD_some]; exact (k2 (c_eqf c))))
theorem w_Main_priced_23 {rod : Nat → Nat × (Nat → Int32)} {d : Nat} {Q : Option MV → MH → Prop} {u0 : Option MV} {u1 : Option MV} {u2 : Option MV} {x3 : Int32} {u4 : Option MV} {u5 : Option MV} {u6 : Option MV} {h : MH}   (k1 : x3.toInt < (-1) → Wb rod d B_Main_priced 33 [u0, u1, u2, some (.inl x3), u4, u5, u6] [] h Q) (k2 : ¬ x3.toInt < (-1) → Wb rod d B_Main_priced 28 [u0, u1, u2, some (.inl x3), u4, u5, u6] [] h Q) : Wb rod d B_Main_priced 23 [u0, u1, u2, some (.inl x3), u4, u5, u6] [] h Q := by
  refine Wb.br (fun _ _ => b_Main_priced_23) (fun c => ?_) (fun c => ?_)
  · have c : (decide (x3 < (-1 : Int32))) = true := by first | exact c | (simp only [Option.getD_some] at c; exact c)
    (first | exact (k1 (c_ltt c)) | (simp only [Option.getD_some]; exact (k1 (c_ltt c))))
  · have c : (decide (x3 < (-1 : Int32))) = false := by first | exact c | (simp only [Option.getD_some] at c; exact c)
    (first | exact (k2 (c_ltf c)) | (simp only [Option.getD_some]; exact (k2 (c_ltf c))))
theorem w_Main_priced_28 {rod : Nat → Nat × (Nat → Int32)} {d : Nat} {Q : Option MV → MH → Prop} {u0 : Option MV} {u1 : Option MV} {u2 : Option MV} {x3 : Int32} {u4 : Option MV} {u5 : Option MV} {u6 : Option MV} {h : MH}   (k1 : x3.toInt < 4 → Wb rod d B_Main_priced 35 [u0, u1, u2, some (.inl x3), u4, u5, u6] [] h Q) (k2 : ¬ x3.toInt < 4 → Wb rod d B_Main_priced 33 [u0, u1, u2, some (.inl x3), u4, u5, u6] [] h Q) : Wb rod d B_Main_priced 28 [u0, u1, u2, some (.inl x3), u4, u5, u6] [] h Q := by
  refine Wb.br (fun _ _ => b_Main_priced_28) (fun c => ?_) (fun c => ?_)
  · have c : (decide (x3 < (4 : Int32))) = true := by first | exact c | (simp only [Option.getD_some] at c; exact c)
    (first | exact (k1 (c_ltt c)) | (simp only [Option.getD_some]; exact (k1 (c_ltt c))))
  · have c : (decide (x3 < (4 : Int32))) = false := by first | exact c | (simp only [Option.getD_some] at c; exact c)
    (first | exact (k2 (c_ltf c)) | (simp only [Option.getD_some]; exact (k2 (c_ltf c))))
theorem w_Main_priced_33 {rod : Nat → Nat × (Nat → Int32)} {d : Nat} {Q : Option MV → MH → Prop} {u0 : Option MV} {u1 : Option MV} {u2 : Option MV} {u3 : Option MV} {u4 : Option MV} {u5 : Option MV} {u6 : Option MV} {h : MH}   (q : Q (some (.inl (-1 : Int32))) h) : Wb rod d B_Main_priced 33 [u0, u1, u2, u3, u4, u5, u6] [] h Q := by
  refine Wb.ret (b_Main_priced_33) ?_
  (first | exact q | (simp only [Option.getD_some]; exact q))
theorem w_Main_priced_35 {rod : Nat → Nat × (Nat → Int32)} {d : Nat} {Q : Option MV → MH → Prop} {u0 : Option MV} {u1 : Option MV} {x2 : Int32} {x3 : Int32} {u4 : Option MV} {a5 : Nat} {u6 : Option MV} {h : MH} (A5 : LandA h.2 a5)  {Q1 : Option MV → MH → Prop} (c : Wc rod d 95 [.inr (.inr (.inl (some a5))), .inl x2, .inl x3] h Q1) (k : ∀ r1 h2, Q1 r1 h2 → Wb rod d B_Main_priced 42 [u0, u1, some (.inl x2), some (.inl x3), u4, some (.inr (.inr (.inl (some a5)))), u6] (r1.toList ++ []) h2 Q) : Wb rod d B_Main_priced 35 [u0, u1, some (.inl x2), some (.inl x3), u4, some (.inr (.inr (.inl (some a5)))), u6] [] h Q := by
  refine Wb.call (fun _ _ _ _ => b_Main_priced_35 (A5.o)) (Q1 := Q1) ?_ ?_
  · (first | exact c | (simp only [Option.getD_some]; exact c))
  · (first | exact k | (simp only [Option.getD_some]; exact k))
theorem w_Main_priced_42 {rod : Nat → Nat × (Nat → Int32)} {d : Nat} {Q : Option MV → MH → Prop} {u0 : Option MV} {u1 : Option MV} {u2 : Option MV} {u3 : Option MV} {x4 : Int32} {u5 : Option MV} {u6 : Option MV} {xs0 : Int32} {h : MH}  (g0 : okl [u0, u1, u2, u3, some (.inl x4), u5, u6] 6 = true) (k1 : x4.toInt = 0 → Wb rod d B_Main_priced 61 [u0, u1, u2, u3, some (.inl x4), u5, some (.inl xs0)] [] h Q) (k2 : ¬ x4.toInt = 0 → Wb rod d B_Main_priced 49 [u0, u1, u2, u3, some (.inl x4), u5, some (.inl xs0)] [] h Q) : Wb rod d B_Main_priced 42 [u0, u1, u2, u3, some (.inl x4), u5, u6] [.inl xs0] h Q := by
  refine Wb.br (fun _ _ => b_Main_priced_42 g0) (fun c => ?_) (fun c => ?_)
  · have c : (decide (x4 = 0)) = true := by first | exact c | (simp only [Option.getD_some] at c; exact c)
    (first | exact (k1 (c_eqt c)) | (simp only [Option.getD_some]; exact (k1 (c_eqt c))))
  · have c : (decide (x4 = 0)) = false := by first | exact c | (simp only [Option.getD_some] at c; exact c)
    (first | exact (k2 (c_eqf c)) | (simp only [Option.getD_some]; exact (k2 (c_eqf c))))
theorem w_Main_priced_49 {rod : Nat → Nat × (Nat → Int32)} {d : Nat} {Q : Option MV → MH → Prop} {u0 : Option MV} {u1 : Option MV} {x2 : Int32} {x3 : Int32} {u4 : Option MV} {a5 : Nat} {x6 : Int32} {h : MH} (A5 : LandA h.2 a5)  {Q1 : Option MV → MH → Prop} (c : Wc rod d 96 [.inr (.inr (.inl (some a5))), .inl x2, .inl x3, .inl x6] h Q1) (k : ∀ r1 h2, Q1 r1 h2 → Wb rod d B_Main_priced 58 [u0, u1, some (.inl x2), some (.inl x3), u4, some (.inr (.inr (.inl (some a5)))), some (.inl x6)] (r1.toList ++ []) h2 Q) : Wb rod d B_Main_priced 49 [u0, u1, some (.inl x2), some (.inl x3), u4, some (.inr (.inr (.inl (some a5)))), some (.inl x6)] [] h Q := by
  refine Wb.call (fun _ _ _ _ => b_Main_priced_49 (A5.o)) (Q1 := Q1) ?_ ?_
  · (first | exact c | (simp only [Option.getD_some]; exact c))
  · (first | exact k | (simp only [Option.getD_some]; exact k))
theorem w_Main_priced_58 {rod : Nat → Nat × (Nat → Int32)} {d : Nat} {Q : Option MV → MH → Prop} {u0 : Option MV} {u1 : Option MV} {u2 : Option MV} {u3 : Option MV} {u4 : Option MV} {u5 : Option MV} {u6 : Option MV} {xs0 : Int32} {h : MH}   (k : Wb rod d B_Main_priced 63 [u0, u1, u2, u3, u4, u5, u6] [.inl xs0] h Q) : Wb rod d B_Main_priced 58 [u0, u1, u2, u3, u4, u5, u6] [.inl xs0] h Q := by
  refine Wb.go (fun r hr q => b_Main_priced_58 ?_) k
  (first | exact q | (simp only [Option.getD_some]; exact q))
theorem w_Main_priced_61 {rod : Nat → Nat × (Nat → Int32)} {d : Nat} {Q : Option MV → MH → Prop} {u0 : Option MV} {u1 : Option MV} {u2 : Option MV} {u3 : Option MV} {u4 : Option MV} {u5 : Option MV} {x6 : Int32} {h : MH}   (k : Wb rod d B_Main_priced 63 [u0, u1, u2, u3, u4, u5, some (.inl x6)] [.inl x6] h Q) : Wb rod d B_Main_priced 61 [u0, u1, u2, u3, u4, u5, some (.inl x6)] [] h Q := by
  refine Wb.go (fun r hr q => b_Main_priced_61 ?_) k
  (first | exact q | (simp only [Option.getD_some]; exact q))
theorem w_Main_priced_63 {rod : Nat → Nat × (Nat → Int32)} {d : Nat} {Q : Option MV → MH → Prop} {u0 : Option MV} {u1 : Option MV} {u2 : Option MV} {u3 : Option MV} {u4 : Option MV} {u5 : Option MV} {u6 : Option MV} {xs0 : Int32} {h : MH}   (q : Q (some (.inl xs0)) h) : Wb rod d B_Main_priced 63 [u0, u1, u2, u3, u4, u5, u6] [.inl xs0] h Q := by
  refine Wb.ret (b_Main_priced_63) ?_
  (first | exact q | (simp only [Option.getD_some]; exact q))
theorem n_Land_bestPrice {rod : Nat → Nat × (Nat → Int32)} {d : Nat} {Q : Option MV → MH → Prop} {a0 : Nat} {x1 : Int32} {x2 : Int32} {h : MH} (k : Wb rod d B_Land_bestPrice 0 [some (.inr (.inr (.inl (some a0)))), some (.inl x1), some (.inl x2), none, none, none, none] [] h Q) : Wc rod (d + 1) 95 [.inr (.inr (.inl (some a0))), .inl x1, .inl x2] h Q := Wc.en (fun _ _ => e_Land_bestPrice) k
theorem w_Land_bestPrice_0 {rod : Nat → Nat × (Nat → Int32)} {d : Nat} {Q : Option MV → MH → Prop} {u0 : Option MV} {u1 : Option MV} {u2 : Option MV} {u3 : Option MV} {u4 : Option MV} {u5 : Option MV} {u6 : Option MV} {h : MH}  (g0 : okl [u0, u1, u2, u3, u4, u5, u6] 3 = true) (k : Wb rod d B_Land_bestPrice 8 [u0, u1, u2, some (.inl (0 : Int32)), some (.inl (0 : Int32)), some (.inl (1 : Int32)), u6] [] h Q) : Wb rod d B_Land_bestPrice 0 [u0, u1, u2, u3, u4, u5, u6] [] h Q := by
  refine Wb.go (fun r hr q => b_Land_bestPrice_0 g0 ?_) k
  (first | exact q | (simp only [Option.getD_some]; exact q))
theorem w_Land_bestPrice_8 {rod : Nat → Nat × (Nat → Int32)} {d : Nat} {Q : Option MV → MH → Prop} {u0 : Option MV} {u1 : Option MV} {u2 : Option MV} {u3 : Option MV} {u4 : Option MV} {x5 : Int32} {u6 : Option MV} {h : MH}   (k1 : 99 < x5.toInt → Wb rod d B_Land_bestPrice 45 [u0, u1, u2, u3, u4, some (.inl x5), u6] [] h Q) (k2 : ¬ 99 < x5.toInt → Wb rod d B_Land_bestPrice 15 [u0, u1, u2, u3, u4, some (.inl x5), u6] [] h Q) : Wb rod d B_Land_bestPrice 8 [u0, u1, u2, u3, u4, some (.inl x5), u6] [] h Q := by
  refine Wb.br (fun _ _ => b_Land_bestPrice_8) (fun c => ?_) (fun c => ?_)
  · have c : (decide ((99 : Int32) < x5)) = true := by first | exact c | (simp only [Option.getD_some] at c; exact c)
    (first | exact (k1 (c_ltt c)) | (simp only [Option.getD_some]; exact (k1 (c_ltt c))))
  · have c : (decide ((99 : Int32) < x5)) = false := by first | exact c | (simp only [Option.getD_some] at c; exact c)
    (first | exact (k2 (c_ltf c)) | (simp only [Option.getD_some]; exact (k2 (c_ltf c))))
theorem w_Land_bestPrice_15 {rod : Nat → Nat × (Nat → Int32)} {d : Nat} {Q : Option MV → MH → Prop} {a0 : Nat} {x1 : Int32} {x2 : Int32} {u3 : Option MV} {u4 : Option MV} {x5 : Int32} {u6 : Option MV} {h : MH} (A0 : LandA h.2 a0)  {Q1 : Option MV → MH → Prop} (c : Wc rod d 96 [.inr (.inr (.inl (some a0))), .inl x1, .inl x2, .inl x5] h Q1) (k : ∀ r1 h2, Q1 r1 h2 → Wb rod d B_Land_bestPrice 23 [some (.inr (.inr (.inl (some a0)))), some (.inl x1), some (.inl x2), u3, u4, some (.inl x5), u6] (r1.toList ++ []) h2 Q) : Wb rod d B_Land_bestPrice 15 [some (.inr (.inr (.inl (some a0)))), some (.inl x1), some (.inl x2), u3, u4, some (.inl x5), u6] [] h Q := by
  refine Wb.call (fun _ _ _ _ => b_Land_bestPrice_15 (A0.o)) (Q1 := Q1) ?_ ?_
  · (first | exact c | (simp only [Option.getD_some]; exact c))
  · (first | exact k | (simp only [Option.getD_some]; exact k))
theorem w_Land_bestPrice_23 {rod : Nat → Nat × (Nat → Int32)} {d : Nat} {Q : Option MV → MH → Prop} {u0 : Option MV} {u1 : Option MV} {u2 : Option MV} {u3 : Option MV} {x4 : Int32} {u5 : Option MV} {u6 : Option MV} {xs0 : Int32} {h : MH}  (g0 : okl [u0, u1, u2, u3, some (.inl x4), u5, u6] 6 = true) (k1 : xs0.toInt ≤ x4.toInt → Wb rod d B_Land_bestPrice 39 [u0, u1, u2, u3, some (.inl x4), u5, some (.inl xs0)] [] h Q) (k2 : ¬ xs0.toInt ≤ x4.toInt → Wb rod d B_Land_bestPrice 32 [u0, u1, u2, u3, some (.inl x4), u5, some (.inl xs0)] [] h Q) : Wb rod d B_Land_bestPrice 23 [u0, u1, u2, u3, some (.inl x4), u5, u6] [.inl xs0] h Q := by
  refine Wb.br (fun _ _ => b_Land_bestPrice_23 g0) (fun c => ?_) (fun c => ?_)
  · have c : (decide (xs0 ≤ x4)) = true := by first | exact c | (simp only [Option.getD_some] at c; exact c)
    (first | exact (k1 (c_let c)) | (simp only [Option.getD_some]; exact (k1 (c_let c))))
  · have c : (decide (xs0 ≤ x4)) = false := by first | exact c | (simp only [Option.getD_some] at c; exact c)
    (first | exact (k2 (c_lef c)) | (simp only [Option.getD_some]; exact (k2 (c_lef c))))
theorem w_Land_bestPrice_32 {rod : Nat → Nat × (Nat → Int32)} {d : Nat} {Q : Option MV → MH → Prop} {u0 : Option MV} {u1 : Option MV} {u2 : Option MV} {u3 : Option MV} {u4 : Option MV} {x5 : Int32} {x6 : Int32} {h : MH}  (g0 : okl [u0, u1, u2, u3, u4, some (.inl x5), some (.inl x6)] 4 = true) (g1 : okl [u0, u1, u2, u3, some (.inl x6), some (.inl x5), some (.inl x6)] 3 = true) (k : Wb rod d B_Land_bestPrice 39 [u0, u1, u2, some (.inl x5), some (.inl x6), some (.inl x5), some (.inl x6)] [] h Q) : Wb rod d B_Land_bestPrice 32 [u0, u1, u2, u3, u4, some (.inl x5), some (.inl x6)] [] h Q := by
  refine Wb.go (fun r hr q => b_Land_bestPrice_32 g0 g1 ?_) k
  (first | exact q | (simp only [Option.getD_some]; exact q))
theorem w_Land_bestPrice_39 {rod : Nat → Nat × (Nat → Int32)} {d : Nat} {Q : Option MV → MH → Prop} {u0 : Option MV} {u1 : Option MV} {u2 : Option MV} {u3 : Option MV} {u4 : Option MV} {x5 : Int32} {u6 : Option MV} {h : MH}  (g0 : okl [u0, u1, u2, u3, u4, some (.inl x5), u6] 5 = true) (k : Wb rod d B_Land_bestPrice 8 [u0, u1, u2, u3, u4, some (.inl (x5 + 1)), u6] [] h Q) : Wb rod d B_Land_bestPrice 39 [u0, u1, u2, u3, u4, some (.inl x5), u6] [] h Q := by
  refine Wb.go (fun r hr q => b_Land_bestPrice_39 g0 ?_) k
  (first | exact q | (simp only [Option.getD_some]; exact q))
theorem w_Land_bestPrice_45 {rod : Nat → Nat × (Nat → Int32)} {d : Nat} {Q : Option MV → MH → Prop} {u0 : Option MV} {u1 : Option MV} {u2 : Option MV} {x3 : Int32} {u4 : Option MV} {u5 : Option MV} {u6 : Option MV} {h : MH}   (q : Q (some (.inl x3)) h) : Wb rod d B_Land_bestPrice 45 [u0, u1, u2, some (.inl x3), u4, u5, u6] [] h Q := by
  refine Wb.ret (b_Land_bestPrice_45) ?_
  (first | exact q | (simp only [Option.getD_some]; exact q))
theorem n_Land_brings {rod : Nat → Nat × (Nat → Int32)} {d : Nat} {Q : Option MV → MH → Prop} {a0 : Nat} {x1 : Int32} {x2 : Int32} {x3 : Int32} {h : MH} (k : Wb rod d B_Land_brings 0 [some (.inr (.inr (.inl (some a0)))), some (.inl x1), some (.inl x2), some (.inl x3)] [] h Q) : Wc rod (d + 1) 96 [.inr (.inr (.inl (some a0))), .inl x1, .inl x2, .inl x3] h Q := Wc.en (fun _ _ => e_Land_brings) k
theorem w_Land_brings_0 {rod : Nat → Nat × (Nat → Int32)} {d : Nat} {Q : Option MV → MH → Prop} {a0 : Nat} {x1 : Int32} {x2 : Int32} {x3 : Int32} {h : MH} (A0 : LandA h.2 a0)  {Q1 : Option MV → MH → Prop} (c : Wc rod d 97 [.inr (.inr (.inl (some a0))), .inl x1, .inl x2, .inl x3] h Q1) (k : ∀ r1 h2, Q1 r1 h2 → Wb rod d B_Land_brings 8 [some (.inr (.inr (.inl (some a0)))), some (.inl x1), some (.inl x2), some (.inl x3)] (r1.toList ++ [.inl x3]) h2 Q) : Wb rod d B_Land_brings 0 [some (.inr (.inr (.inl (some a0)))), some (.inl x1), some (.inl x2), some (.inl x3)] [] h Q := by
  refine Wb.call (fun _ _ _ _ => b_Land_brings_0 (A0.o)) (Q1 := Q1) ?_ ?_
  · (first | exact c | (simp only [Option.getD_some]; exact c))
  · (first | exact k | (simp only [Option.getD_some]; exact k))
theorem w_Land_brings_8 {rod : Nat → Nat × (Nat → Int32)} {d : Nat} {Q : Option MV → MH → Prop} {u0 : Option MV} {u1 : Option MV} {u2 : Option MV} {u3 : Option MV} {xs0 : Int32} {xs1 : Int32} {h : MH}   (q : Q (some (.inl (xs0 * xs1))) h) : Wb rod d B_Land_brings 8 [u0, u1, u2, u3] [.inl xs1, .inl xs0] h Q := by
  refine Wb.ret (b_Land_brings_8) ?_
  (first | exact q | (simp only [Option.getD_some]; exact q))
theorem n_Land_howManyWant {rod : Nat → Nat × (Nat → Int32)} {d : Nat} {Q : Option MV → MH → Prop} {a0 : Nat} {x1 : Int32} {x2 : Int32} {x3 : Int32} {h : MH} (k : Wb rod d B_Land_howManyWant 0 [some (.inr (.inr (.inl (some a0)))), some (.inl x1), some (.inl x2), some (.inl x3), none, none] [] h Q) : Wc rod (d + 1) 97 [.inr (.inr (.inl (some a0))), .inl x1, .inl x2, .inl x3] h Q := Wc.en (fun _ _ => e_Land_howManyWant) k
theorem w_Land_howManyWant_0 {rod : Nat → Nat × (Nat → Int32)} {d : Nat} {Q : Option MV → MH → Prop} {u0 : Option MV} {u1 : Option MV} {u2 : Option MV} {u3 : Option MV} {u4 : Option MV} {u5 : Option MV} {h : MH}  (g0 : okl [u0, u1, u2, u3, u4, u5] 4 = true) (k : Wb rod d B_Land_howManyWant 6 [u0, u1, u2, u3, some (.inl (0 : Int32)), some (.inl (0 : Int32))] [] h Q) : Wb rod d B_Land_howManyWant 0 [u0, u1, u2, u3, u4, u5] [] h Q := by
  refine Wb.go (fun r hr q => b_Land_howManyWant_0 g0 ?_) k
  (first | exact q | (simp only [Option.getD_some]; exact q))
theorem w_Land_howManyWant_6 {rod : Nat → Nat × (Nat → Int32)} {d : Nat} {Q : Option MV → MH → Prop} {a0 : Nat} {u1 : Option MV} {u2 : Option MV} {u3 : Option MV} {u4 : Option MV} {x5 : Int32} {h : MH} (A0 : LandA h.2 a0)  (k1 : (h.1 a0 4).toInt ≤ x5.toInt → Wb rod d B_Land_howManyWant 51 [some (.inr (.inr (.inl (some a0)))), u1, u2, u3, u4, some (.inl x5)] [] h Q) (k2 : ¬ (h.1 a0 4).toInt ≤ x5.toInt → Wb rod d B_Land_howManyWant 15 [some (.inr (.inr (.inl (some a0)))), u1, u2, u3, u4, some (.inl x5)] [] h Q) : Wb rod d B_Land_howManyWant 6 [some (.inr (.inr (.inl (some a0)))), u1, u2, u3, u4, some (.inl x5)] [] h Q := by
  refine Wb.br (fun _ _ => b_Land_howManyWant_6 (A0.o)) (fun c => ?_) (fun c => ?_)
  · have c : (decide ((h.1 a0 4) ≤ x5)) = true := by first | exact c | (simp only [Option.getD_some] at c; exact c)
    (first | exact (k1 (c_let c)) | (simp only [Option.getD_some]; exact (k1 (c_let c))))
  · have c : (decide ((h.1 a0 4) ≤ x5)) = false := by first | exact c | (simp only [Option.getD_some] at c; exact c)
    (first | exact (k2 (c_lef c)) | (simp only [Option.getD_some]; exact (k2 (c_lef c))))
theorem w_Land_howManyWant_15 {rod : Nat → Nat × (Nat → Int32)} {d : Nat} {Q : Option MV → MH → Prop} {u0 : Option MV} {u1 : Option MV} {x2 : Int32} {u3 : Option MV} {u4 : Option MV} {u5 : Option MV} {h : MH}   (k1 : x2.toInt = (-1) → Wb rod d B_Land_howManyWant 31 [u0, u1, some (.inl x2), u3, u4, u5] [] h Q) (k2 : ¬ x2.toInt = (-1) → Wb rod d B_Land_howManyWant 20 [u0, u1, some (.inl x2), u3, u4, u5] [] h Q) : Wb rod d B_Land_howManyWant 15 [u0, u1, some (.inl x2), u3, u4, u5] [] h Q := by
  refine Wb.br (fun _ _ => b_Land_howManyWant_15) (fun c => ?_) (fun c => ?_)
  · have c : (decide (x2 = (-1 : Int32))) = true := by first | exact c | (simp only [Option.getD_some] at c; exact c)
    (first | exact (k1 (c_eqt c)) | (simp only [Option.getD_some]; exact (k1 (c_eqt c))))
  · have c : (decide (x2 = (-1 : Int32))) = false := by first | exact c | (simp only [Option.getD_some] at c; exact c)
    (first | exact (k2 (c_eqf c)) | (simp only [Option.getD_some]; exact (k2 (c_eqf c))))
theorem w_Land_howManyWant_20 {rod : Nat → Nat × (Nat → Int32)} {d : Nat} {Q : Option MV → MH → Prop} {a0 : Nat} {u1 : Option MV} {x2 : Int32} {u3 : Option MV} {u4 : Option MV} {x5 : Int32} {h : MH} (A0 : LandA h.2 a0) (g0 : 0 ≤ x5.toInt ∧ x5.toInt < 8) (k1 : ¬ (h.1 (a0 + 1) x5.toNatClampNeg).toInt = x2.toInt → Wb rod d B_Land_howManyWant 45 [some (.inr (.inr (.inl (some a0)))), u1, some (.inl x2), u3, u4, some (.inl x5)] [] h Q) (k2 : (h.1 (a0 + 1) x5.toNatClampNeg).toInt = x2.toInt → Wb rod d B_Land_howManyWant 31 [some (.inr (.inr (.inl (some a0)))), u1, some (.inl x2), u3, u4, some (.inl x5)] [] h Q) : Wb rod d B_Land_howManyWant 20 [some (.inr (.inr (.inl (some a0)))), u1, some (.inl x2), u3, u4, some (.inl x5)] [] h Q := by
  refine Wb.br (fun _ _ => b_Land_howManyWant_20 (A0.o) (A0.a6 g0)) (fun c => ?_) (fun c => ?_)
  · have c : (!(decide ((h.1 (a0 + 1) x5.toNatClampNeg) = x2))) = true := by first | exact c | (simp only [Option.getD_some, A0.r6] at c; exact c)
    (first | exact (k1 (c_net c)) | (simp only [Option.getD_some, A0.r6]; exact (k1 (c_net c))))
  · have c : (!(decide ((h.1 (a0 + 1) x5.toNatClampNeg) = x2))) = false := by first | exact c | (simp only [Option.getD_some, A0.r6] at c; exact c)
    (first | exact (k2 (c_nef c)) | (simp only [Option.getD_some, A0.r6]; exact (k2 (c_nef c))))
theorem w_Land_howManyWant_31 {rod : Nat → Nat × (Nat → Int32)} {d : Nat} {Q : Option MV → MH → Prop} {a0 : Nat} {x1 : Int32} {u2 : Option MV} {x3 : Int32} {u4 : Option MV} {x5 : Int32} {h : MH} (A0 : LandA h.2 a0)  {Q1 : Option MV → MH → Prop} (c : Wc rod d 93 [.inr (.inr (.inl (some a0))), .inl x5, .inl x1, .inl x3] h Q1) (k : ∀ r1 h2, Q1 r1 h2 → Wb rod d B_Land_howManyWant 39 [some (.inr (.inr (.inl (some a0)))), some (.inl x1), u2, some (.inl x3), u4, some (.inl x5)] (r1.toList ++ []) h2 Q) : Wb rod d B_Land_howManyWant 31 [some (.inr (.inr (.inl (some a0)))), some (.inl x1), u2, some (.inl x3), u4, some (.inl x5)] [] h Q := by
  refine Wb.call (fun _ _ _ _ => b_Land_howManyWant_31 (A0.o)) (Q1 := Q1) ?_ ?_
  · (first | exact c | (simp only [Option.getD_some]; exact c))
  · (first | exact k | (simp only [Option.getD_some]; exact k))
theorem w_Land_howManyWant_39 {rod : Nat → Nat × (Nat → Int32)} {d : Nat} {Q : Option MV → MH → Prop} {u0 : Option MV} {u1 : Option MV} {u2 : Option MV} {u3 : Option MV} {u4 : Option MV} {u5 : Option MV} {xs0 : Int32} {h : MH}   (k1 : xs0.toInt = 0 → Wb rod d B_Land_howManyWant 45 [u0, u1, u2, u3, u4, u5] [] h Q) (k2 : ¬ xs0.toInt = 0 → Wb rod d B_Land_howManyWant 42 [u0, u1, u2, u3, u4, u5] [] h Q) : Wb rod d B_Land_howManyWant 39 [u0, u1, u2, u3, u4, u5] [.inl xs0] h Q := by
  refine Wb.br (fun _ _ => b_Land_howManyWant_39) (fun c => ?_) (fun c => ?_)
  · have c : (decide (xs0 = 0)) = true := by first | exact c | (simp only [Option.getD_some] at c; exact c)
    (first | exact (k1 (c_eqt c)) | (simp only [Option.getD_some]; exact (k1 (c_eqt c))))
  · have c : (decide (xs0 = 0)) = false := by first | exact c | (simp only [Option.getD_some] at c; exact c)
    (first | exact (k2 (c_eqf c)) | (simp only [Option.getD_some]; exact (k2 (c_eqf c))))
theorem w_Land_howManyWant_42 {rod : Nat → Nat × (Nat → Int32)} {d : Nat} {Q : Option MV → MH → Prop} {u0 : Option MV} {u1 : Option MV} {u2 : Option MV} {u3 : Option MV} {x4 : Int32} {u5 : Option MV} {h : MH}  (g0 : okl [u0, u1, u2, u3, some (.inl x4), u5] 4 = true) (k : Wb rod d B_Land_howManyWant 45 [u0, u1, u2, u3, some (.inl (x4 + 1)), u5] [] h Q) : Wb rod d B_Land_howManyWant 42 [u0, u1, u2, u3, some (.inl x4), u5] [] h Q := by
  refine Wb.go (fun r hr q => b_Land_howManyWant_42 g0 ?_) k
  (first | exact q | (simp only [Option.getD_some]; exact q))
theorem w_Land_howManyWant_45 {rod : Nat → Nat × (Nat → Int32)} {d : Nat} {Q : Option MV → MH → Prop} {u0 : Option MV} {u1 : Option MV} {u2 : Option MV} {u3 : Option MV} {u4 : Option MV} {x5 : Int32} {h : MH}  (g0 : okl [u0, u1, u2, u3, u4, some (.inl x5)] 5 = true) (k : Wb rod d B_Land_howManyWant 6 [u0, u1, u2, u3, u4, some (.inl (x5 + 1))] [] h Q) : Wb rod d B_Land_howManyWant 45 [u0, u1, u2, u3, u4, some (.inl x5)] [] h Q := by
  refine Wb.go (fun r hr q => b_Land_howManyWant_45 g0 ?_) k
  (first | exact q | (simp only [Option.getD_some]; exact q))
theorem w_Land_howManyWant_51 {rod : Nat → Nat × (Nat → Int32)} {d : Nat} {Q : Option MV → MH → Prop} {u0 : Option MV} {u1 : Option MV} {u2 : Option MV} {u3 : Option MV} {x4 : Int32} {u5 : Option MV} {h : MH}   (q : Q (some (.inl x4)) h) : Wb rod d B_Land_howManyWant 51 [u0, u1, u2, u3, some (.inl x4), u5] [] h Q := by
  refine Wb.ret (b_Land_howManyWant_51) ?_
  (first | exact q | (simp only [Option.getD_some]; exact q))
theorem n_Main_days {rod : Nat → Nat × (Nat → Int32)} {d : Nat} {Q : Option MV → MH → Prop} {x1 : Int32} {x2 : Int32} {x3 : Int32} {h : MH} (k : Wb rod d B_Main_days 0 [some (.inr (.inr (.inl (some 0)))), some (.inl x1), some (.inl x2), some (.inl x3), none, none] [] h Q) : Wc rod (d + 1) 98 [.inr (.inr (.inl (some 0))), .inl x1, .inl x2, .inl x3] h Q := Wc.en (fun _ _ => e_Main_days) k
theorem w_Main_days_0 {rod : Nat → Nat × (Nat → Int32)} {d : Nat} {Q : Option MV → MH → Prop} {x1 : Int32} {u2 : Option MV} {u3 : Option MV} {u4 : Option MV} {u5 : Option MV} {h : MH} (L : Lay h.2)  {Q1 : Option MV → MH → Prop} (c : Wc rod d 61 [.inr (.inr (.inl (some 1))), .inl x1] h Q1) (k : ∀ r1 h2, Q1 r1 h2 → Wb rod d B_Main_days 8 [some (.inr (.inr (.inl (some 0)))), some (.inl x1), u2, u3, u4, u5] (r1.toList ++ []) h2 Q) : Wb rod d B_Main_days 0 [some (.inr (.inr (.inl (some 0)))), some (.inl x1), u2, u3, u4, u5] [] h Q := by
  refine Wb.call (fun _ _ _ _ => b_Main_days_0 (Lay.o0 L) (Lay.k0_0 L)) (Q1 := Q1) ?_ ?_
  · (first | exact c | (simp only [Option.getD_some, (Lay.r0_0 L)]; exact c))
  · (first | exact k | (simp only [Option.getD_some, (Lay.r0_0 L)]; exact k))
theorem w_Main_days_8 {rod : Nat → Nat × (Nat → Int32)} {d : Nat} {Q : Option MV → MH → Prop} {u0 : Option MV} {u1 : Option MV} {u2 : Option MV} {u3 : Option MV} {u4 : Option MV} {u5 : Option MV} {os0 : Option Nat} {h : MH}  (g0 : okl [u0, u1, u2, u3, u4, u5] 4 = true) (k1 : os0 = none → Wb rod d B_Main_days 33 [u0, u1, u2, u3, some (.inr (.inr (.inl os0))), u5] [] h Q) (k2 : ∀ v, os0 = some v → Wb rod d B_Main_days 15 [u0, u1, u2, u3, some (.inr (.inr (.inl os0))), u5] [] h Q) : Wb rod d B_Main_days 8 [u0, u1, u2, u3, u4, u5] [.inr (.inr (.inl os0))] h Q := by
  cases os0 with
  | none =>
    refine Wb.br (fun _ _ => b_Main_days_8 g0) (fun c => ?_) (fun c => ?_)
    · exact k1 rfl
    · simp at c
  | some v =>
    refine Wb.br (fun _ _ => b_Main_days_8 g0) (fun c => ?_) (fun c => ?_)
    · simp at c
    · exact k2 v rfl
theorem w_Main_days_15 {rod : Nat → Nat × (Nat → Int32)} {d : Nat} {Q : Option MV → MH → Prop} {u0 : Option MV} {u1 : Option MV} {x2 : Int32} {u3 : Option MV} {a4 : Nat} {u5 : Option MV} {h : MH} (A4 : LandA h.2 a4)  {Q1 : Option MV → MH → Prop} (c : Wc rod d 65 [.inr (.inr (.inl (some a4))), .inl x2] h Q1) (k : ∀ r1 h2, Q1 r1 h2 → Wb rod d B_Main_days 21 [u0, u1, some (.inl x2), u3, some (.inr (.inr (.inl (some a4)))), u5] (r1.toList ++ []) h2 Q) : Wb rod d B_Main_days 15 [u0, u1, some (.inl x2), u3, some (.inr (.inr (.inl (some a4)))), u5] [] h Q := by
  refine Wb.call (fun _ _ _ _ => b_Main_days_15 (A4.o)) (Q1 := Q1) ?_ ?_
  · (first | exact c | (simp only [Option.getD_some]; exact c))
  · (first | exact k | (simp only [Option.getD_some]; exact k))
theorem w_Main_days_21 {rod : Nat → Nat × (Nat → Int32)} {d : Nat} {Q : Option MV → MH → Prop} {u0 : Option MV} {u1 : Option MV} {u2 : Option MV} {u3 : Option MV} {u4 : Option MV} {u5 : Option MV} {xs0 : Int32} {h : MH}   (k1 : xs0.toInt = 0 → Wb rod d B_Main_days 33 [u0, u1, u2, u3, u4, u5] [] h Q) (k2 : ¬ xs0.toInt = 0 → Wb rod d B_Main_days 24 [u0, u1, u2, u3, u4, u5] [] h Q) : Wb rod d B_Main_days 21 [u0, u1, u2, u3, u4, u5] [.inl xs0] h Q := by
  refine Wb.br (fun _ _ => b_Main_days_21) (fun c => ?_) (fun c => ?_)
  · have c : (decide (xs0 = 0)) = true := by first | exact c | (simp only [Option.getD_some] at c; exact c)
    (first | exact (k1 (c_eqt c)) | (simp only [Option.getD_some]; exact (k1 (c_eqt c))))
  · have c : (decide (xs0 = 0)) = false := by first | exact c | (simp only [Option.getD_some] at c; exact c)
    (first | exact (k2 (c_eqf c)) | (simp only [Option.getD_some]; exact (k2 (c_eqf c))))
theorem w_Main_days_24 {rod : Nat → Nat × (Nat → Int32)} {d : Nat} {Q : Option MV → MH → Prop} {u0 : Option MV} {u1 : Option MV} {u2 : Option MV} {x3 : Int32} {a4 : Nat} {u5 : Option MV} {h : MH} (A4 : LandA h.2 a4)  {Q1 : Option MV → MH → Prop} (c : Wc rod d 65 [.inr (.inr (.inl (some a4))), .inl x3] h Q1) (k : ∀ r1 h2, Q1 r1 h2 → Wb rod d B_Main_days 30 [u0, u1, u2, some (.inl x3), some (.inr (.inr (.inl (some a4)))), u5] (r1.toList ++ []) h2 Q) : Wb rod d B_Main_days 24 [u0, u1, u2, some (.inl x3), some (.inr (.inr (.inl (some a4)))), u5] [] h Q := by
  refine Wb.call (fun _ _ _ _ => b_Main_days_24 (A4.o)) (Q1 := Q1) ?_ ?_
  · (first | exact c | (simp only [Option.getD_some]; exact c))
  · (first | exact k | (simp only [Option.getD_some]; exact k))
theorem w_Main_days_30 {rod : Nat → Nat × (Nat → Int32)} {d : Nat} {Q : Option MV → MH → Prop} {u0 : Option MV} {u1 : Option MV} {u2 : Option MV} {u3 : Option MV} {u4 : Option MV} {u5 : Option MV} {xs0 : Int32} {h : MH}   (k1 : ¬ xs0.toInt = 0 → Wb rod d B_Main_days 35 [u0, u1, u2, u3, u4, u5] [] h Q) (k2 : xs0.toInt = 0 → Wb rod d B_Main_days 33 [u0, u1, u2, u3, u4, u5] [] h Q) : Wb rod d B_Main_days 30 [u0, u1, u2, u3, u4, u5] [.inl xs0] h Q := by
  refine Wb.br (fun _ _ => b_Main_days_30) (fun c => ?_) (fun c => ?_)
  · have c : (!(decide (xs0 = 0))) = true := by first | exact c | (simp only [Option.getD_some] at c; exact c)
    (first | exact (k1 (c_net c)) | (simp only [Option.getD_some]; exact (k1 (c_net c))))
  · have c : (!(decide (xs0 = 0))) = false := by first | exact c | (simp only [Option.getD_some] at c; exact c)
    (first | exact (k2 (c_nef c)) | (simp only [Option.getD_some]; exact (k2 (c_nef c))))
theorem w_Main_days_33 {rod : Nat → Nat × (Nat → Int32)} {d : Nat} {Q : Option MV → MH → Prop} {u0 : Option MV} {u1 : Option MV} {u2 : Option MV} {u3 : Option MV} {u4 : Option MV} {u5 : Option MV} {h : MH}   (q : Q (some (.inl (-1 : Int32))) h) : Wb rod d B_Main_days 33 [u0, u1, u2, u3, u4, u5] [] h Q := by
  refine Wb.ret (b_Main_days_33) ?_
  (first | exact q | (simp only [Option.getD_some]; exact q))
theorem w_Main_days_35 {rod : Nat → Nat × (Nat → Int32)} {d : Nat} {Q : Option MV → MH → Prop} {u1 : Option MV} {u2 : Option MV} {u3 : Option MV} {a4 : Nat} {u5 : Option MV} {h : MH} (L : Lay h.2) (A4 : LandA h.2 a4)  {Q1 : Option MV → MH → Prop} (c : Wc rod d 99 [.inr (.inr (.inl (some 70))), .inr (.inr (.inl (some a4))), .inl (h.1 a4 3)] h Q1) (k : ∀ r1 h2, Q1 r1 h2 → Wb rod d B_Main_days 49 [some (.inr (.inr (.inl (some 0)))), u1, u2, u3, some (.inr (.inr (.inl (some a4)))), u5] (r1.toList ++ []) h2 Q) : Wb rod d B_Main_days 35 [some (.inr (.inr (.inl (some 0)))), u1, u2, u3, some (.inr (.inr (.inl (some a4)))), u5] [] h Q := by
  refine Wb.call (fun _ _ _ _ => b_Main_days_35 (Lay.o0 L) (A4.o) (Lay.k0_4 L)) (Q1 := Q1) ?_ ?_
  · (first | exact c | (simp only [Option.getD_some, (Lay.r0_4 L)]; exact c))
  · (first | exact k | (simp only [Option.getD_some, (Lay.r0_4 L)]; exact k))
theorem w_Main_days_49 {rod : Nat → Nat × (Nat → Int32)} {d : Nat} {Q : Option MV → MH → Prop} {u1 : Option MV} {x2 : Int32} {x3 : Int32} {u4 : Option MV} {u5 : Option MV} {h : MH} (L : Lay h.2)  {Q1 : Option MV → MH → Prop} (c : Wc rod d 100 [.inr (.inr (.inl (some 70))), .inl x2, .inl x3] h Q1) (k : ∀ r1 h2, Q1 r1 h2 → Wb rod d B_Main_days 58 [some (.inr (.inr (.inl (some 0)))), u1, some (.inl x2), some (.inl x3), u4, u5] (r1.toList ++ []) h2 Q) : Wb rod d B_Main_days 49 [some (.inr (.inr (.inl (some 0)))), u1, some (.inl x2), some (.inl x3), u4, u5] [] h Q := by
  refine Wb.call (fun _ _ _ _ => b_Main_days_49 (Lay.o0 L) (Lay.k0_4 L)) (Q1 := Q1) ?_ ?_
  · (first | exact c | (simp only [Option.getD_some, (Lay.r0_4 L)]; exact c))
  · (first | exact k | (simp only [Option.getD_some, (Lay.r0_4 L)]; exact k))
theorem w_Main_days_58 {rod : Nat → Nat × (Nat → Int32)} {d : Nat} {Q : Option MV → MH → Prop} {u0 : Option MV} {u1 : Option MV} {u2 : Option MV} {u3 : Option MV} {u4 : Option MV} {u5 : Option MV} {xs0 : Int32} {h : MH}  (g0 : okl [u0, u1, u2, u3, u4, u5] 5 = true) (k1 : xs0.toInt < 1000 → Wb rod d B_Main_days 72 [u0, u1, u2, u3, u4, some (.inl xs0)] [] h Q) (k2 : ¬ xs0.toInt < 1000 → Wb rod d B_Main_days 68 [u0, u1, u2, u3, u4, some (.inl xs0)] [] h Q) : Wb rod d B_Main_days 58 [u0, u1, u2, u3, u4, u5] [.inl xs0] h Q := by
  refine Wb.br (fun _ _ => b_Main_days_58 g0) (fun c => ?_) (fun c => ?_)
  · have c : (decide (xs0 < (1000 : Int32))) = true := by first | exact c | (simp only [Option.getD_some] at c; exact c)
    (first | exact (k1 (c_ltt c)) | (simp only [Option.getD_some]; exact (k1 (c_ltt c))))
  · have c : (decide (xs0 < (1000 : Int32))) = false := by first | exact c | (simp only [Option.getD_some] at c; exact c)
    (first | exact (k2 (c_ltf c)) | (simp only [Option.getD_some]; exact (k2 (c_ltf c))))
theorem w_Main_days_68 {rod : Nat → Nat × (Nat → Int32)} {d : Nat} {Q : Option MV → MH → Prop} {u0 : Option MV} {u1 : Option MV} {u2 : Option MV} {u3 : Option MV} {u4 : Option MV} {u5 : Option MV} {h : MH}   (k : Wb rod d B_Main_days 74 [u0, u1, u2, u3, u4, u5] [.inl (-1 : Int32)] h Q) : Wb rod d B_Main_days 68 [u0, u1, u2, u3, u4, u5] [] h Q := by
  refine Wb.go (fun r hr q => b_Main_days_68 ?_) k
  (first | exact q | (simp only [Option.getD_some]; exact q))
theorem w_Main_days_72 {rod : Nat → Nat × (Nat → Int32)} {d : Nat} {Q : Option MV → MH → Prop} {u0 : Option MV} {u1 : Option MV} {u2 : Option MV} {u3 : Option MV} {u4 : Option MV} {x5 : Int32} {h : MH}   (k : Wb rod d B_Main_days 74 [u0, u1, u2, u3, u4, some (.inl x5)] [.inl x5] h Q) : Wb rod d B_Main_days 72 [u0, u1, u2, u3, u4, some (.inl x5)] [] h Q := by
  refine Wb.go (fun r hr q => b_Main_days_72 ?_) k
  (first | exact q | (simp only [Option.getD_some]; exact q))
theorem w_Main_days_74 {rod : Nat → Nat × (Nat → Int32)} {d : Nat} {Q : Option MV → MH → Prop} {u0 : Option MV} {u1 : Option MV} {u2 : Option MV} {u3 : Option MV} {u4 : Option MV} {u5 : Option MV} {xs0 : Int32} {h : MH}   (q : Q (some (.inl xs0)) h) : Wb rod d B_Main_days 74 [u0, u1, u2, u3, u4, u5] [.inl xs0] h Q := by
  refine Wb.ret (b_Main_days_74) ?_
  (first | exact q | (simp only [Option.getD_some]; exact q))
