/-! MAKING: a heap grown from h by cells at n and on, told by lists -/
section M67
variable {rod : Nat → Nat × (Nat → Int32)} {d : Nat} {h : MH} {n c : Nat} {S : List (Nat × Nat)} {R : List (Nat × Nat × Nat)} {J : List (Nat × Nat × Int32)}
def look : List (Nat × Nat × Nat) → Nat → Nat → Option Nat
  | [], _, _ => none
  | q :: r, c, j => if q.1 = c ∧ q.2.1 = j then some q.2.2 else look r c j
def lookI : List (Nat × Nat × Int32) → Nat → Nat → Int32
  | [], _, _ => 0
  | q :: r, c, j => if q.1 = c ∧ q.2.1 = j then q.2.2 else lookI r c j
def mkH (h : MH) (n : Nat) (S : List (Nat × Nat)) (R : List (Nat × Nat × Nat)) (J : List (Nat × Nat × Int32)) : MH := (fun b j => if b < n ∨ n + S.length ≤ b then h.1 b j else lookI J (b - n) j, (fun b j => if b < n ∨ n + S.length ≤ b then h.2.1 b j else (look R (b - n) j).map (fun v => n + v), h.2.2 ++ S))
def okm (S : List (Nat × Nat)) (R : List (Nat × Nat × Nat)) (J : List (Nat × Nat × Int32)) : Bool := R.all (fun q => decide (q.1 < S.length)) && J.all (fun q => decide (q.1 < S.length))
theorem look_no : ∀ (R : List (Nat × Nat × Nat)) (m j : Nat), R.all (fun q => decide (q.1 < m)) = true → look R m j = none := by
  intro R
  induction R with
  | nil => intro m j _; rfl
  | cons q r ih =>
    intro m j ok
    simp only [List.all_cons, Bool.and_eq_true, decide_eq_true_eq] at ok
    rw [look, if_neg (by omega)]
    exact ih m j (by simpa using ok.2)
theorem lookI_no : ∀ (R : List (Nat × Nat × Int32)) (m j : Nat), R.all (fun q => decide (q.1 < m)) = true → lookI R m j = 0 := by
  intro R
  induction R with
  | nil => intro m j _; rfl
  | cons q r ih =>
    intro m j ok
    simp only [List.all_cons, Bool.and_eq_true, decide_eq_true_eq] at ok
    rw [lookI, if_neg (by omega)]
    exact ih m j (by simpa using ok.2)
theorem mk_len {m : Nat} (hl : h.2.2.length = n) (hm : S.length = m) : (mkH h n S R J).2.2.length = n + m := by
  show (h.2.2 ++ S).length = n + m
  rw [List.length_append, hl, hm]
theorem mk_n {s : Nat × Nat} (hl : h.2.2.length = n) (ok : okm S R J = true) : sN (mkH h n S R J) s = mkH h n (S ++ [s]) R J := by
  simp only [okm, Bool.and_eq_true] at ok
  have e := mk_len (R := R) (J := J) hl (Eq.refl S.length)
  unfold sN
  rw [e]
  have el : (S ++ [s]).length = S.length + 1 := by rw [List.length_append]; rfl
  refine Prod.ext (funext fun b => funext fun j => ?_) (Prod.ext (funext fun b => funext fun j => ?_) ?_)
  · show (if b = n + S.length then 0 else if b < n ∨ n + S.length ≤ b then h.1 b j else lookI J (b - n) j) = if b < n ∨ n + (S ++ [s]).length ≤ b then h.1 b j else lookI J (b - n) j
    rw [el]
    by_cases q : b = n + S.length
    · rw [if_pos q, if_neg (by omega), show b - n = S.length by omega, lookI_no J _ j ok.2]
    · rw [if_neg q]
      by_cases z : b < n ∨ n + S.length ≤ b
      · rw [if_pos z, if_pos (by omega)]
      · rw [if_neg z, if_neg (by omega)]
  · show (if b = n + S.length then none else if b < n ∨ n + S.length ≤ b then h.2.1 b j else (look R (b - n) j).map (fun v => n + v)) = if b < n ∨ n + (S ++ [s]).length ≤ b then h.2.1 b j else (look R (b - n) j).map (fun v => n + v)
    rw [el]
    by_cases q : b = n + S.length
    · rw [if_pos q, if_neg (by omega), show b - n = S.length by omega, look_no R _ j ok.1]; rfl
    · rw [if_neg q]
      by_cases z : b < n ∨ n + S.length ≤ b
      · rw [if_pos z, if_pos (by omega)]
      · rw [if_neg z, if_neg (by omega)]
  · show h.2.2 ++ S ++ [s] = h.2.2 ++ (S ++ [s])
    rw [List.append_assoc]
theorem mk_r {j v : Nat} (hc : c < S.length) : sR (mkH h n S R J) (n + c) j (some (n + v)) = mkH h n S ((c, j, v) :: R) J := by
  unfold sR
  refine Prod.ext rfl (Prod.ext (funext fun b => funext fun i => ?_) rfl)
  show (if b = n + c ∧ i = j then some (n + v) else if b < n ∨ n + S.length ≤ b then h.2.1 b i else (look R (b - n) i).map (fun v => n + v)) = if b < n ∨ n + S.length ≤ b then h.2.1 b i else (look ((c, j, v) :: R) (b - n) i).map (fun v => n + v)
  by_cases q : b = n + c ∧ i = j
  · rw [if_pos q, if_neg (by omega), look, if_pos (by simp only; omega)]; rfl
  · rw [if_neg q]
    by_cases z : b < n ∨ n + S.length ≤ b
    · rw [if_pos z, if_pos z]
    · rw [if_neg z, if_neg z, look, if_neg (by simp only; omega)]
theorem mk_i {j : Nat} {x : Int32} (hc : c < S.length) : sI (mkH h n S R J) (n + c) j x = mkH h n S R ((c, j, x) :: J) := by
  unfold sI
  refine Prod.ext (funext fun b => funext fun i => ?_) rfl
  show (if b = n + c ∧ i = j then x else if b < n ∨ n + S.length ≤ b then h.1 b i else lookI J (b - n) i) = if b < n ∨ n + S.length ≤ b then h.1 b i else lookI ((c, j, x) :: J) (b - n) i
  by_cases q : b = n + c ∧ i = j
  · rw [if_pos q, if_neg (by omega), lookI, if_pos (by simp only; omega)]
  · rw [if_neg q]
    by_cases z : b < n ∨ n + S.length ≤ b
    · rw [if_pos z, if_pos z]
    · rw [if_neg z, if_neg z, lookI, if_neg (by simp only; omega)]
/-- where it begins -/
theorem mk_start {s : Nat × Nat} (hl : h.2.2.length = n) : sN h s = mkH h n [s] [] [] := by
  unfold sN
  rw [hl]
  refine Prod.ext (funext fun b => funext fun j => ?_) (Prod.ext (funext fun b => funext fun j => ?_) rfl)
  · show (if b = n then 0 else h.1 b j) = if b < n ∨ n + 1 ≤ b then h.1 b j else 0
    by_cases q : b = n
    · rw [if_pos q, if_neg (by omega)]
    · rw [if_neg q, if_pos (by omega)]
  · show (if b = n then none else h.2.1 b j) = if b < n ∨ n + 1 ≤ b then h.2.1 b j else none
    by_cases q : b = n
    · rw [if_pos q, if_neg (by omega)]
    · rw [if_neg q, if_pos (by omega)]
theorem mk_sh {q : Nat × Nat} (hl : h.2.2.length = n) (hc : S[c]? = some q) : (mkH h n S R J).2.2[n + c]? = some q := by
  show (h.2.2 ++ S)[n + c]? = some q
  rw [List.getElem?_append_right (by omega), hl, Nat.add_sub_cancel_left]
  exact hc
theorem mk_gO {k q : Nat} (hl : h.2.2.length = n) (hc : S[c]? = some (k, q)) : gO (mkH h n S R J) (some (n + c)) k = true := gO_of (mk_sh hl hc)
theorem mk_gA {k q : Nat} {i : Int32} (hl : h.2.2.length = n) (hc : S[c]? = some (k, q)) (hi : inB i q = true) : gA (mkH h n S R J) (some (n + c)) k i = true := gA_of (mk_sh hl hc) hi
theorem mk_ref {j v : Nat} (hv : look R c j = some v) (hc : c < S.length) : (mkH h n S R J).2.1 (n + c) j = some (n + v) := by
  show (if n + c < n ∨ n + S.length ≤ n + c then _ else (look R (n + c - n) j).map (fun v => n + v)) = _
  rw [if_neg (by omega), Nat.add_sub_cancel_left, hv]
  rfl
theorem mk_int {j : Nat} (hc : c < S.length) : (mkH h n S R J).1 (n + c) j = lookI J c j := by
  show (if n + c < n ∨ n + S.length ≤ n + c then _ else lookI J (n + c - n) j) = _
  rw [if_neg (by omega), Nat.add_sub_cancel_left]
theorem mk_old {b : Nat} (hb : b < n) : (mkH h n S R J).1 b = h.1 b ∧ (mkH h n S R J).2.1 b = h.2.1 b := ⟨funext fun j => if_pos (Or.inl hb), funext fun j => if_pos (Or.inl hb)⟩
theorem gN_lit {h : MH} {m : Int32} (hm : (decide (0 ≤ m) && decide (m.toNatClampNeg ≤ 7000)) = true) (hl : h.2.2.length < 1000) : gN h m = true := by
  simp only [Bool.and_eq_true, decide_eq_true_eq] at hm
  simp [gN, hm.1, hm.2, hl]
theorem okm_n {s : Nat × Nat} (ok : okm S R J = true) : okm (S ++ [s]) R J = true := by
  simp only [okm, Bool.and_eq_true, List.all_eq_true, decide_eq_true_eq, List.length_append, List.length_singleton] at ok ⊢
  exact ⟨fun q m => by have := ok.1 q m; omega, fun q m => by have := ok.2 q m; omega⟩
theorem okm_r {j v : Nat} (ok : okm S R J = true) (hc : c < S.length) : okm S ((c, j, v) :: R) J = true := by
  simp only [okm, Bool.and_eq_true, List.all_cons, decide_eq_true_eq] at ok ⊢
  exact ⟨⟨hc, ok.1⟩, ok.2⟩
theorem okm_i {j : Nat} {x : Int32} (ok : okm S R J = true) (hc : c < S.length) : okm S R ((c, j, x) :: J) = true := by
  simp only [okm, Bool.and_eq_true, List.all_cons, decide_eq_true_eq] at ok ⊢
  exact ⟨ok.1, hc, ok.2⟩
theorem sh_app {q s : Nat × Nat} (hc : S[c]? = some q) : (S ++ [s])[c]? = some q := by
  rw [List.getElem?_append_left (List.getElem?_eq_some_iff.mp hc).1]
  exact hc
theorem Wb.hp {B : MB} {pc : Nat} {L : ML} {st : List MV} {h1 : MH} (h2 : MH) {Q : Option MV → MH → Prop} (e : h1 = h2) (k : Wb rod d B pc L st h2 Q) : Wb rod d B pc L st h1 Q := e ▸ k
theorem i_Land (hl : h.2.2.length = n) (ok : okm S R J = true) (hc : S[c]? = some (11, 14)) (hb : n + S.length + 9 < 1000) : Wc rod (d + 1) 2 [.inr (.inr (.inl (some (n + c))))] (mkH h n S R J) (fun r h' => r = none ∧ h' = mkH h n ((((((((S ++ [(0, 8)]) ++ [(0, 8)]) ++ [(0, 8)]) ++ [(0, 8)]) ++ [(0, 8)]) ++ [(0, 4)]) ++ [(0, 4)]) ++ [(0, 36)]) ((c, 13, S.length + 7) :: ((c, 12, S.length + 6) :: ((c, 11, S.length + 5) :: ((c, 10, S.length + 4) :: ((c, 9, S.length + 3) :: ((c, 8, S.length + 2) :: ((c, 7, S.length + 1) :: ((c, 6, S.length) :: R)))))))) ((c, 0, 3) :: J)) := by
  have kc0 : c < S.length := (List.getElem?_eq_some_iff.mp hc).1
  have l0 : S.length = S.length := rfl
  refine Wc.en (fun _ _ => e_Land_init) ?_
  refine Wb.go (fun _ _ => b_Land_init_0 rfl (mk_gO hl hc)) ?_
  refine Wb.hp (mkH h n S R ((c, 0, 3) :: J)) (mk_i (by omega)) ?_
  refine Wb.go (fun _ _ => b_Land_init_9 (gN_lit rfl (by rw [mk_len hl l0]; omega))) ?_
  rw [mk_len hl l0, mk_n hl (okm_i ok (by omega))]
  refine Wb.hp (mkH h n (S ++ [(0, 8)]) R ((c, 0, 3) :: J)) rfl ?_
  have l1 : ((S ++ [(0, 8)])).length = S.length + 1 := by rw [List.length_append, l0]; rfl
  refine Wb.go (fun _ _ => b_Land_init_14 (mk_gO hl (sh_app hc))) ?_
  refine Wb.hp (mkH h n (S ++ [(0, 8)]) ((c, 6, S.length) :: R) ((c, 0, 3) :: J)) (mk_r (by omega)) ?_
  have ok14 : okm (S ++ [(0, 8)]) ((c, 6, S.length) :: R) ((c, 0, 3) :: J) = true := (okm_r (okm_n (okm_i ok (by omega))) (by omega))
  refine Wb.go (fun _ _ => b_Land_init_17 (gN_lit rfl (by rw [mk_len hl l1]; omega))) ?_
  rw [mk_len hl l1, mk_n hl ok14]
  refine Wb.hp (mkH h n ((S ++ [(0, 8)]) ++ [(0, 8)]) ((c, 6, S.length) :: R) ((c, 0, 3) :: J)) rfl ?_
  have l2 : (((S ++ [(0, 8)]) ++ [(0, 8)])).length = S.length + 2 := by rw [List.length_append, l1]; rfl
  refine Wb.go (fun _ _ => b_Land_init_22 (mk_gO hl (sh_app (sh_app hc)))) ?_
  refine Wb.hp (mkH h n ((S ++ [(0, 8)]) ++ [(0, 8)]) ((c, 7, S.length + 1) :: ((c, 6, S.length) :: R)) ((c, 0, 3) :: J)) (mk_r (by omega)) ?_
  have ok22 : okm ((S ++ [(0, 8)]) ++ [(0, 8)]) ((c, 7, S.length + 1) :: ((c, 6, S.length) :: R)) ((c, 0, 3) :: J) = true := (okm_r (okm_n ok14) (by omega))
  refine Wb.go (fun _ _ => b_Land_init_25 (gN_lit rfl (by rw [mk_len hl l2]; omega))) ?_
  rw [mk_len hl l2, mk_n hl ok22]
  refine Wb.hp (mkH h n (((S ++ [(0, 8)]) ++ [(0, 8)]) ++ [(0, 8)]) ((c, 7, S.length + 1) :: ((c, 6, S.length) :: R)) ((c, 0, 3) :: J)) rfl ?_
  have l3 : ((((S ++ [(0, 8)]) ++ [(0, 8)]) ++ [(0, 8)])).length = S.length + 3 := by rw [List.length_append, l2]; rfl
  refine Wb.go (fun _ _ => b_Land_init_30 (mk_gO hl (sh_app (sh_app (sh_app hc))))) ?_
  refine Wb.hp (mkH h n (((S ++ [(0, 8)]) ++ [(0, 8)]) ++ [(0, 8)]) ((c, 8, S.length + 2) :: ((c, 7, S.length + 1) :: ((c, 6, S.length) :: R))) ((c, 0, 3) :: J)) (mk_r (by omega)) ?_
  have ok30 : okm (((S ++ [(0, 8)]) ++ [(0, 8)]) ++ [(0, 8)]) ((c, 8, S.length + 2) :: ((c, 7, S.length + 1) :: ((c, 6, S.length) :: R))) ((c, 0, 3) :: J) = true := (okm_r (okm_n ok22) (by omega))
  refine Wb.go (fun _ _ => b_Land_init_33 (gN_lit rfl (by rw [mk_len hl l3]; omega))) ?_
  rw [mk_len hl l3, mk_n hl ok30]
  refine Wb.hp (mkH h n ((((S ++ [(0, 8)]) ++ [(0, 8)]) ++ [(0, 8)]) ++ [(0, 8)]) ((c, 8, S.length + 2) :: ((c, 7, S.length + 1) :: ((c, 6, S.length) :: R))) ((c, 0, 3) :: J)) rfl ?_
  have l4 : (((((S ++ [(0, 8)]) ++ [(0, 8)]) ++ [(0, 8)]) ++ [(0, 8)])).length = S.length + 4 := by rw [List.length_append, l3]; rfl
  refine Wb.go (fun _ _ => b_Land_init_38 (mk_gO hl (sh_app (sh_app (sh_app (sh_app hc)))))) ?_
  refine Wb.hp (mkH h n ((((S ++ [(0, 8)]) ++ [(0, 8)]) ++ [(0, 8)]) ++ [(0, 8)]) ((c, 9, S.length + 3) :: ((c, 8, S.length + 2) :: ((c, 7, S.length + 1) :: ((c, 6, S.length) :: R)))) ((c, 0, 3) :: J)) (mk_r (by omega)) ?_
  have ok38 : okm ((((S ++ [(0, 8)]) ++ [(0, 8)]) ++ [(0, 8)]) ++ [(0, 8)]) ((c, 9, S.length + 3) :: ((c, 8, S.length + 2) :: ((c, 7, S.length + 1) :: ((c, 6, S.length) :: R)))) ((c, 0, 3) :: J) = true := (okm_r (okm_n ok30) (by omega))
  refine Wb.go (fun _ _ => b_Land_init_41 (gN_lit rfl (by rw [mk_len hl l4]; omega))) ?_
  rw [mk_len hl l4, mk_n hl ok38]
  refine Wb.hp (mkH h n (((((S ++ [(0, 8)]) ++ [(0, 8)]) ++ [(0, 8)]) ++ [(0, 8)]) ++ [(0, 8)]) ((c, 9, S.length + 3) :: ((c, 8, S.length + 2) :: ((c, 7, S.length + 1) :: ((c, 6, S.length) :: R)))) ((c, 0, 3) :: J)) rfl ?_
  have l5 : ((((((S ++ [(0, 8)]) ++ [(0, 8)]) ++ [(0, 8)]) ++ [(0, 8)]) ++ [(0, 8)])).length = S.length + 5 := by rw [List.length_append, l4]; rfl
  refine Wb.go (fun _ _ => b_Land_init_46 (mk_gO hl (sh_app (sh_app (sh_app (sh_app (sh_app hc))))))) ?_
  refine Wb.hp (mkH h n (((((S ++ [(0, 8)]) ++ [(0, 8)]) ++ [(0, 8)]) ++ [(0, 8)]) ++ [(0, 8)]) ((c, 10, S.length + 4) :: ((c, 9, S.length + 3) :: ((c, 8, S.length + 2) :: ((c, 7, S.length + 1) :: ((c, 6, S.length) :: R))))) ((c, 0, 3) :: J)) (mk_r (by omega)) ?_
  have ok46 : okm (((((S ++ [(0, 8)]) ++ [(0, 8)]) ++ [(0, 8)]) ++ [(0, 8)]) ++ [(0, 8)]) ((c, 10, S.length + 4) :: ((c, 9, S.length + 3) :: ((c, 8, S.length + 2) :: ((c, 7, S.length + 1) :: ((c, 6, S.length) :: R))))) ((c, 0, 3) :: J) = true := (okm_r (okm_n ok38) (by omega))
  refine Wb.go (fun _ _ => b_Land_init_49 (gN_lit rfl (by rw [mk_len hl l5]; omega))) ?_
  rw [mk_len hl l5, mk_n hl ok46]
  refine Wb.hp (mkH h n ((((((S ++ [(0, 8)]) ++ [(0, 8)]) ++ [(0, 8)]) ++ [(0, 8)]) ++ [(0, 8)]) ++ [(0, 4)]) ((c, 10, S.length + 4) :: ((c, 9, S.length + 3) :: ((c, 8, S.length + 2) :: ((c, 7, S.length + 1) :: ((c, 6, S.length) :: R))))) ((c, 0, 3) :: J)) rfl ?_
  have l6 : (((((((S ++ [(0, 8)]) ++ [(0, 8)]) ++ [(0, 8)]) ++ [(0, 8)]) ++ [(0, 8)]) ++ [(0, 4)])).length = S.length + 6 := by rw [List.length_append, l5]; rfl
  refine Wb.go (fun _ _ => b_Land_init_53 (mk_gO hl (sh_app (sh_app (sh_app (sh_app (sh_app (sh_app hc)))))))) ?_
  refine Wb.hp (mkH h n ((((((S ++ [(0, 8)]) ++ [(0, 8)]) ++ [(0, 8)]) ++ [(0, 8)]) ++ [(0, 8)]) ++ [(0, 4)]) ((c, 11, S.length + 5) :: ((c, 10, S.length + 4) :: ((c, 9, S.length + 3) :: ((c, 8, S.length + 2) :: ((c, 7, S.length + 1) :: ((c, 6, S.length) :: R)))))) ((c, 0, 3) :: J)) (mk_r (by omega)) ?_
  have ok53 : okm ((((((S ++ [(0, 8)]) ++ [(0, 8)]) ++ [(0, 8)]) ++ [(0, 8)]) ++ [(0, 8)]) ++ [(0, 4)]) ((c, 11, S.length + 5) :: ((c, 10, S.length + 4) :: ((c, 9, S.length + 3) :: ((c, 8, S.length + 2) :: ((c, 7, S.length + 1) :: ((c, 6, S.length) :: R)))))) ((c, 0, 3) :: J) = true := (okm_r (okm_n ok46) (by omega))
  refine Wb.go (fun _ _ => b_Land_init_56 (gN_lit rfl (by rw [mk_len hl l6]; omega))) ?_
  rw [mk_len hl l6, mk_n hl ok53]
  refine Wb.hp (mkH h n (((((((S ++ [(0, 8)]) ++ [(0, 8)]) ++ [(0, 8)]) ++ [(0, 8)]) ++ [(0, 8)]) ++ [(0, 4)]) ++ [(0, 4)]) ((c, 11, S.length + 5) :: ((c, 10, S.length + 4) :: ((c, 9, S.length + 3) :: ((c, 8, S.length + 2) :: ((c, 7, S.length + 1) :: ((c, 6, S.length) :: R)))))) ((c, 0, 3) :: J)) rfl ?_
  have l7 : ((((((((S ++ [(0, 8)]) ++ [(0, 8)]) ++ [(0, 8)]) ++ [(0, 8)]) ++ [(0, 8)]) ++ [(0, 4)]) ++ [(0, 4)])).length = S.length + 7 := by rw [List.length_append, l6]; rfl
  refine Wb.go (fun _ _ => b_Land_init_60 (mk_gO hl (sh_app (sh_app (sh_app (sh_app (sh_app (sh_app (sh_app hc))))))))) ?_
  refine Wb.hp (mkH h n (((((((S ++ [(0, 8)]) ++ [(0, 8)]) ++ [(0, 8)]) ++ [(0, 8)]) ++ [(0, 8)]) ++ [(0, 4)]) ++ [(0, 4)]) ((c, 12, S.length + 6) :: ((c, 11, S.length + 5) :: ((c, 10, S.length + 4) :: ((c, 9, S.length + 3) :: ((c, 8, S.length + 2) :: ((c, 7, S.length + 1) :: ((c, 6, S.length) :: R))))))) ((c, 0, 3) :: J)) (mk_r (by omega)) ?_
  have ok60 : okm (((((((S ++ [(0, 8)]) ++ [(0, 8)]) ++ [(0, 8)]) ++ [(0, 8)]) ++ [(0, 8)]) ++ [(0, 4)]) ++ [(0, 4)]) ((c, 12, S.length + 6) :: ((c, 11, S.length + 5) :: ((c, 10, S.length + 4) :: ((c, 9, S.length + 3) :: ((c, 8, S.length + 2) :: ((c, 7, S.length + 1) :: ((c, 6, S.length) :: R))))))) ((c, 0, 3) :: J) = true := (okm_r (okm_n ok53) (by omega))
  refine Wb.go (fun _ _ => b_Land_init_63 (gN_lit rfl (by rw [mk_len hl l7]; omega))) ?_
  rw [mk_len hl l7, mk_n hl ok60]
  refine Wb.hp (mkH h n ((((((((S ++ [(0, 8)]) ++ [(0, 8)]) ++ [(0, 8)]) ++ [(0, 8)]) ++ [(0, 8)]) ++ [(0, 4)]) ++ [(0, 4)]) ++ [(0, 36)]) ((c, 12, S.length + 6) :: ((c, 11, S.length + 5) :: ((c, 10, S.length + 4) :: ((c, 9, S.length + 3) :: ((c, 8, S.length + 2) :: ((c, 7, S.length + 1) :: ((c, 6, S.length) :: R))))))) ((c, 0, 3) :: J)) rfl ?_
  have l8 : (((((((((S ++ [(0, 8)]) ++ [(0, 8)]) ++ [(0, 8)]) ++ [(0, 8)]) ++ [(0, 8)]) ++ [(0, 4)]) ++ [(0, 4)]) ++ [(0, 36)])).length = S.length + 8 := by rw [List.length_append, l7]; rfl
  refine Wb.go (fun _ _ => b_Land_init_68 (mk_gO hl (sh_app (sh_app (sh_app (sh_app (sh_app (sh_app (sh_app (sh_app hc)))))))))) ?_
  refine Wb.hp (mkH h n ((((((((S ++ [(0, 8)]) ++ [(0, 8)]) ++ [(0, 8)]) ++ [(0, 8)]) ++ [(0, 8)]) ++ [(0, 4)]) ++ [(0, 4)]) ++ [(0, 36)]) ((c, 13, S.length + 7) :: ((c, 12, S.length + 6) :: ((c, 11, S.length + 5) :: ((c, 10, S.length + 4) :: ((c, 9, S.length + 3) :: ((c, 8, S.length + 2) :: ((c, 7, S.length + 1) :: ((c, 6, S.length) :: R)))))))) ((c, 0, 3) :: J)) (mk_r (by omega)) ?_
  have ok68 : okm ((((((((S ++ [(0, 8)]) ++ [(0, 8)]) ++ [(0, 8)]) ++ [(0, 8)]) ++ [(0, 8)]) ++ [(0, 4)]) ++ [(0, 4)]) ++ [(0, 36)]) ((c, 13, S.length + 7) :: ((c, 12, S.length + 6) :: ((c, 11, S.length + 5) :: ((c, 10, S.length + 4) :: ((c, 9, S.length + 3) :: ((c, 8, S.length + 2) :: ((c, 7, S.length + 1) :: ((c, 6, S.length) :: R)))))))) ((c, 0, 3) :: J) = true := (okm_r (okm_n ok60) (by omega))
  refine Wb.ret b_Land_init_71 ?_
  exact ⟨rfl, rfl⟩
theorem i_Season (hl : h.2.2.length = n) (ok : okm S R J = true) (hc : S[c]? = some (16, 4)) (hb : n + S.length + 4 < 1000) : Wc rod (d + 1) 3 [.inr (.inr (.inl (some (n + c))))] (mkH h n S R J) (fun r h' => r = none ∧ h' = mkH h n (((S ++ [(0, 40)]) ++ [(0, 40)]) ++ [(0, 40)]) ((c, 3, S.length + 2) :: ((c, 2, S.length + 1) :: ((c, 1, S.length) :: R))) J) := by
  have kc0 : c < S.length := (List.getElem?_eq_some_iff.mp hc).1
  have l0 : S.length = S.length := rfl
  refine Wc.en (fun _ _ => e_Season_init) ?_
  refine Wb.go (fun _ _ => b_Season_init_0 rfl (gN_lit rfl (by rw [mk_len hl l0]; omega))) ?_
  rw [mk_len hl l0, mk_n hl ok]
  refine Wb.hp (mkH h n (S ++ [(0, 40)]) R J) rfl ?_
  have l1 : ((S ++ [(0, 40)])).length = S.length + 1 := by rw [List.length_append, l0]; rfl
  refine Wb.go (fun _ _ => b_Season_init_9 (mk_gO hl (sh_app hc))) ?_
  refine Wb.hp (mkH h n (S ++ [(0, 40)]) ((c, 1, S.length) :: R) J) (mk_r (by omega)) ?_
  refine Wb.go (fun _ _ => b_Season_init_12 (gN_lit rfl (by rw [mk_len hl l1]; omega))) ?_
  rw [mk_len hl l1, mk_n hl (okm_r (okm_n ok) (by omega))]
  refine Wb.hp (mkH h n ((S ++ [(0, 40)]) ++ [(0, 40)]) ((c, 1, S.length) :: R) J) rfl ?_
  have l2 : (((S ++ [(0, 40)]) ++ [(0, 40)])).length = S.length + 2 := by rw [List.length_append, l1]; rfl
  have ok12 : okm ((S ++ [(0, 40)]) ++ [(0, 40)]) ((c, 1, S.length) :: R) J = true := (okm_n (okm_r (okm_n ok) (by omega)))
  refine Wb.go (fun _ _ => b_Season_init_17 (mk_gO hl (sh_app (sh_app hc)))) ?_
  refine Wb.hp (mkH h n ((S ++ [(0, 40)]) ++ [(0, 40)]) ((c, 2, S.length + 1) :: ((c, 1, S.length) :: R)) J) (mk_r (by omega)) ?_
  refine Wb.go (fun _ _ => b_Season_init_20 (gN_lit rfl (by rw [mk_len hl l2]; omega))) ?_
  rw [mk_len hl l2, mk_n hl (okm_r ok12 (by omega))]
  refine Wb.hp (mkH h n (((S ++ [(0, 40)]) ++ [(0, 40)]) ++ [(0, 40)]) ((c, 2, S.length + 1) :: ((c, 1, S.length) :: R)) J) rfl ?_
  have l3 : ((((S ++ [(0, 40)]) ++ [(0, 40)]) ++ [(0, 40)])).length = S.length + 3 := by rw [List.length_append, l2]; rfl
  have ok20 : okm (((S ++ [(0, 40)]) ++ [(0, 40)]) ++ [(0, 40)]) ((c, 2, S.length + 1) :: ((c, 1, S.length) :: R)) J = true := (okm_n (okm_r ok12 (by omega)))
  refine Wb.go (fun _ _ => b_Season_init_25 (mk_gO hl (sh_app (sh_app (sh_app hc))))) ?_
  refine Wb.hp (mkH h n (((S ++ [(0, 40)]) ++ [(0, 40)]) ++ [(0, 40)]) ((c, 3, S.length + 2) :: ((c, 2, S.length + 1) :: ((c, 1, S.length) :: R))) J) (mk_r (by omega)) ?_
  refine Wb.ret b_Season_init_28 ?_
  exact ⟨rfl, rfl⟩
theorem i_Ledger (hl : h.2.2.length = n) (ok : okm S R J = true) (hc : S[c]? = some (12, 3)) (hb : n + S.length + 3 < 1000) : Wc rod (d + 1) 4 [.inr (.inr (.inl (some (n + c))))] (mkH h n S R J) (fun r h' => r = none ∧ h' = mkH h n ((S ++ [(0, 20)]) ++ [(0, 20)]) ((c, 2, S.length + 1) :: ((c, 1, S.length) :: R)) J) := by
  have kc0 : c < S.length := (List.getElem?_eq_some_iff.mp hc).1
  have l0 : S.length = S.length := rfl
  refine Wc.en (fun _ _ => e_Ledger_init) ?_
  refine Wb.go (fun _ _ => b_Ledger_init_0 rfl (gN_lit rfl (by rw [mk_len hl l0]; omega))) ?_
  rw [mk_len hl l0, mk_n hl ok]
  refine Wb.hp (mkH h n (S ++ [(0, 20)]) R J) rfl ?_
  have l1 : ((S ++ [(0, 20)])).length = S.length + 1 := by rw [List.length_append, l0]; rfl
  refine Wb.go (fun _ _ => b_Ledger_init_9 (mk_gO hl (sh_app hc))) ?_
  refine Wb.hp (mkH h n (S ++ [(0, 20)]) ((c, 1, S.length) :: R) J) (mk_r (by omega)) ?_
  refine Wb.go (fun _ _ => b_Ledger_init_12 (gN_lit rfl (by rw [mk_len hl l1]; omega))) ?_
  rw [mk_len hl l1, mk_n hl (okm_r (okm_n ok) (by omega))]
  refine Wb.hp (mkH h n ((S ++ [(0, 20)]) ++ [(0, 20)]) ((c, 1, S.length) :: R) J) rfl ?_
  have l2 : (((S ++ [(0, 20)]) ++ [(0, 20)])).length = S.length + 2 := by rw [List.length_append, l1]; rfl
  have ok12 : okm ((S ++ [(0, 20)]) ++ [(0, 20)]) ((c, 1, S.length) :: R) J = true := (okm_n (okm_r (okm_n ok) (by omega)))
  refine Wb.go (fun _ _ => b_Ledger_init_17 (mk_gO hl (sh_app (sh_app hc)))) ?_
  refine Wb.hp (mkH h n ((S ++ [(0, 20)]) ++ [(0, 20)]) ((c, 2, S.length + 1) :: ((c, 1, S.length) :: R)) J) (mk_r (by omega)) ?_
  refine Wb.ret b_Ledger_init_20 ?_
  exact ⟨rfl, rfl⟩
theorem i_Bargain (hl : h.2.2.length = n) (ok : okm S R J = true) (hc : S[c]? = some (10, 2)) (hb : n + S.length + 2 < 1000) : Wc rod (d + 1) 5 [.inr (.inr (.inl (some (n + c))))] (mkH h n S R J) (fun r h' => r = none ∧ h' = mkH h n (S ++ [(0, 16)]) ((c, 1, S.length) :: R) ((c, 0, 2) :: J)) := by
  have kc0 : c < S.length := (List.getElem?_eq_some_iff.mp hc).1
  have l0 : S.length = S.length := rfl
  refine Wc.en (fun _ _ => e_Bargain_init) ?_
  refine Wb.go (fun _ _ => b_Bargain_init_0 rfl (mk_gO hl hc)) ?_
  refine Wb.hp (mkH h n S R ((c, 0, 2) :: J)) (mk_i (by omega)) ?_
  refine Wb.go (fun _ _ => b_Bargain_init_9 (gN_lit rfl (by rw [mk_len hl l0]; omega))) ?_
  rw [mk_len hl l0, mk_n hl (okm_i ok (by omega))]
  refine Wb.hp (mkH h n (S ++ [(0, 16)]) R ((c, 0, 2) :: J)) rfl ?_
  have l1 : ((S ++ [(0, 16)])).length = S.length + 1 := by rw [List.length_append, l0]; rfl
  refine Wb.go (fun _ _ => b_Bargain_init_14 (mk_gO hl (sh_app hc))) ?_
  refine Wb.hp (mkH h n (S ++ [(0, 16)]) ((c, 1, S.length) :: R) ((c, 0, 2) :: J)) (mk_r (by omega)) ?_
  have ok14 : okm (S ++ [(0, 16)]) ((c, 1, S.length) :: R) ((c, 0, 2) :: J) = true := (okm_r (okm_n (okm_i ok (by omega))) (by omega))
  refine Wb.ret b_Bargain_init_17 ?_
  exact ⟨rfl, rfl⟩
theorem i_Walk (hl : h.2.2.length = n) (ok : okm S R J = true) (hc : S[c]? = some (19, 12)) (hb : n + S.length + 5 < 1000) : Wc rod (d + 1) 7 [.inr (.inr (.inl (some (n + c))))] (mkH h n S R J) (fun r h' => r = none ∧ h' = mkH h n ((((S ++ [(0, 8)]) ++ [(0, 8)]) ++ [(0, 8)]) ++ [(0, 8)]) ((c, 11, S.length + 3) :: ((c, 10, S.length + 2) :: ((c, 9, S.length + 1) :: ((c, 8, S.length) :: R)))) J) := by
  have kc0 : c < S.length := (List.getElem?_eq_some_iff.mp hc).1
  have l0 : S.length = S.length := rfl
  refine Wc.en (fun _ _ => e_Walk_init) ?_
  refine Wb.go (fun _ _ => b_Walk_init_0 rfl (gN_lit rfl (by rw [mk_len hl l0]; omega))) ?_
  rw [mk_len hl l0, mk_n hl ok]
  refine Wb.hp (mkH h n (S ++ [(0, 8)]) R J) rfl ?_
  have l1 : ((S ++ [(0, 8)])).length = S.length + 1 := by rw [List.length_append, l0]; rfl
  refine Wb.go (fun _ _ => b_Walk_init_9 (mk_gO hl (sh_app hc))) ?_
  refine Wb.hp (mkH h n (S ++ [(0, 8)]) ((c, 8, S.length) :: R) J) (mk_r (by omega)) ?_
  refine Wb.go (fun _ _ => b_Walk_init_12 (gN_lit rfl (by rw [mk_len hl l1]; omega))) ?_
  rw [mk_len hl l1, mk_n hl (okm_r (okm_n ok) (by omega))]
  refine Wb.hp (mkH h n ((S ++ [(0, 8)]) ++ [(0, 8)]) ((c, 8, S.length) :: R) J) rfl ?_
  have l2 : (((S ++ [(0, 8)]) ++ [(0, 8)])).length = S.length + 2 := by rw [List.length_append, l1]; rfl
  have ok12 : okm ((S ++ [(0, 8)]) ++ [(0, 8)]) ((c, 8, S.length) :: R) J = true := (okm_n (okm_r (okm_n ok) (by omega)))
  refine Wb.go (fun _ _ => b_Walk_init_17 (mk_gO hl (sh_app (sh_app hc)))) ?_
  refine Wb.hp (mkH h n ((S ++ [(0, 8)]) ++ [(0, 8)]) ((c, 9, S.length + 1) :: ((c, 8, S.length) :: R)) J) (mk_r (by omega)) ?_
  refine Wb.go (fun _ _ => b_Walk_init_20 (gN_lit rfl (by rw [mk_len hl l2]; omega))) ?_
  rw [mk_len hl l2, mk_n hl (okm_r ok12 (by omega))]
  refine Wb.hp (mkH h n (((S ++ [(0, 8)]) ++ [(0, 8)]) ++ [(0, 8)]) ((c, 9, S.length + 1) :: ((c, 8, S.length) :: R)) J) rfl ?_
  have l3 : ((((S ++ [(0, 8)]) ++ [(0, 8)]) ++ [(0, 8)])).length = S.length + 3 := by rw [List.length_append, l2]; rfl
  have ok20 : okm (((S ++ [(0, 8)]) ++ [(0, 8)]) ++ [(0, 8)]) ((c, 9, S.length + 1) :: ((c, 8, S.length) :: R)) J = true := (okm_n (okm_r ok12 (by omega)))
  refine Wb.go (fun _ _ => b_Walk_init_25 (mk_gO hl (sh_app (sh_app (sh_app hc))))) ?_
  refine Wb.hp (mkH h n (((S ++ [(0, 8)]) ++ [(0, 8)]) ++ [(0, 8)]) ((c, 10, S.length + 2) :: ((c, 9, S.length + 1) :: ((c, 8, S.length) :: R))) J) (mk_r (by omega)) ?_
  refine Wb.go (fun _ _ => b_Walk_init_28 (gN_lit rfl (by rw [mk_len hl l3]; omega))) ?_
  rw [mk_len hl l3, mk_n hl (okm_r ok20 (by omega))]
  refine Wb.hp (mkH h n ((((S ++ [(0, 8)]) ++ [(0, 8)]) ++ [(0, 8)]) ++ [(0, 8)]) ((c, 10, S.length + 2) :: ((c, 9, S.length + 1) :: ((c, 8, S.length) :: R))) J) rfl ?_
  have l4 : (((((S ++ [(0, 8)]) ++ [(0, 8)]) ++ [(0, 8)]) ++ [(0, 8)])).length = S.length + 4 := by rw [List.length_append, l3]; rfl
  have ok28 : okm ((((S ++ [(0, 8)]) ++ [(0, 8)]) ++ [(0, 8)]) ++ [(0, 8)]) ((c, 10, S.length + 2) :: ((c, 9, S.length + 1) :: ((c, 8, S.length) :: R))) J = true := (okm_n (okm_r ok20 (by omega)))
  refine Wb.go (fun _ _ => b_Walk_init_33 (mk_gO hl (sh_app (sh_app (sh_app (sh_app hc)))))) ?_
  refine Wb.hp (mkH h n ((((S ++ [(0, 8)]) ++ [(0, 8)]) ++ [(0, 8)]) ++ [(0, 8)]) ((c, 11, S.length + 3) :: ((c, 10, S.length + 2) :: ((c, 9, S.length + 1) :: ((c, 8, S.length) :: R)))) J) (mk_r (by omega)) ?_
  refine Wb.ret b_Walk_init_36 ?_
  exact ⟨rfl, rfl⟩
theorem i_Ways (hl : h.2.2.length = n) (ok : okm S R J = true) (hc : S[c]? = some (20, 8)) (hb : n + S.length + 5 < 1000) : Wc rod (d + 1) 8 [.inr (.inr (.inl (some (n + c))))] (mkH h n S R J) (fun r h' => r = none ∧ h' = mkH h n ((((S ++ [(0, 36)]) ++ [(0, 6)]) ++ [(0, 6)]) ++ [(0, 6)]) ((c, 4, S.length + 3) :: ((c, 3, S.length + 2) :: ((c, 2, S.length + 1) :: ((c, 1, S.length) :: R)))) J) := by
  have kc0 : c < S.length := (List.getElem?_eq_some_iff.mp hc).1
  have l0 : S.length = S.length := rfl
  refine Wc.en (fun _ _ => e_Ways_init) ?_
  refine Wb.go (fun _ _ => b_Ways_init_0 rfl (gN_lit rfl (by rw [mk_len hl l0]; omega))) ?_
  rw [mk_len hl l0, mk_n hl ok]
  refine Wb.hp (mkH h n (S ++ [(0, 36)]) R J) rfl ?_
  have l1 : ((S ++ [(0, 36)])).length = S.length + 1 := by rw [List.length_append, l0]; rfl
  refine Wb.go (fun _ _ => b_Ways_init_9 (mk_gO hl (sh_app hc))) ?_
  refine Wb.hp (mkH h n (S ++ [(0, 36)]) ((c, 1, S.length) :: R) J) (mk_r (by omega)) ?_
  refine Wb.go (fun _ _ => b_Ways_init_12 (gN_lit rfl (by rw [mk_len hl l1]; omega))) ?_
  rw [mk_len hl l1, mk_n hl (okm_r (okm_n ok) (by omega))]
  refine Wb.hp (mkH h n ((S ++ [(0, 36)]) ++ [(0, 6)]) ((c, 1, S.length) :: R) J) rfl ?_
  have l2 : (((S ++ [(0, 36)]) ++ [(0, 6)])).length = S.length + 2 := by rw [List.length_append, l1]; rfl
  have ok12 : okm ((S ++ [(0, 36)]) ++ [(0, 6)]) ((c, 1, S.length) :: R) J = true := (okm_n (okm_r (okm_n ok) (by omega)))
  refine Wb.go (fun _ _ => b_Ways_init_17 (mk_gO hl (sh_app (sh_app hc)))) ?_
  refine Wb.hp (mkH h n ((S ++ [(0, 36)]) ++ [(0, 6)]) ((c, 2, S.length + 1) :: ((c, 1, S.length) :: R)) J) (mk_r (by omega)) ?_
  refine Wb.go (fun _ _ => b_Ways_init_20 (gN_lit rfl (by rw [mk_len hl l2]; omega))) ?_
  rw [mk_len hl l2, mk_n hl (okm_r ok12 (by omega))]
  refine Wb.hp (mkH h n (((S ++ [(0, 36)]) ++ [(0, 6)]) ++ [(0, 6)]) ((c, 2, S.length + 1) :: ((c, 1, S.length) :: R)) J) rfl ?_
  have l3 : ((((S ++ [(0, 36)]) ++ [(0, 6)]) ++ [(0, 6)])).length = S.length + 3 := by rw [List.length_append, l2]; rfl
  have ok20 : okm (((S ++ [(0, 36)]) ++ [(0, 6)]) ++ [(0, 6)]) ((c, 2, S.length + 1) :: ((c, 1, S.length) :: R)) J = true := (okm_n (okm_r ok12 (by omega)))
  refine Wb.go (fun _ _ => b_Ways_init_25 (mk_gO hl (sh_app (sh_app (sh_app hc))))) ?_
  refine Wb.hp (mkH h n (((S ++ [(0, 36)]) ++ [(0, 6)]) ++ [(0, 6)]) ((c, 3, S.length + 2) :: ((c, 2, S.length + 1) :: ((c, 1, S.length) :: R))) J) (mk_r (by omega)) ?_
  refine Wb.go (fun _ _ => b_Ways_init_28 (gN_lit rfl (by rw [mk_len hl l3]; omega))) ?_
  rw [mk_len hl l3, mk_n hl (okm_r ok20 (by omega))]
  refine Wb.hp (mkH h n ((((S ++ [(0, 36)]) ++ [(0, 6)]) ++ [(0, 6)]) ++ [(0, 6)]) ((c, 3, S.length + 2) :: ((c, 2, S.length + 1) :: ((c, 1, S.length) :: R))) J) rfl ?_
  have l4 : (((((S ++ [(0, 36)]) ++ [(0, 6)]) ++ [(0, 6)]) ++ [(0, 6)])).length = S.length + 4 := by rw [List.length_append, l3]; rfl
  have ok28 : okm ((((S ++ [(0, 36)]) ++ [(0, 6)]) ++ [(0, 6)]) ++ [(0, 6)]) ((c, 3, S.length + 2) :: ((c, 2, S.length + 1) :: ((c, 1, S.length) :: R))) J = true := (okm_n (okm_r ok20 (by omega)))
  refine Wb.go (fun _ _ => b_Ways_init_33 (mk_gO hl (sh_app (sh_app (sh_app (sh_app hc)))))) ?_
  refine Wb.hp (mkH h n ((((S ++ [(0, 36)]) ++ [(0, 6)]) ++ [(0, 6)]) ++ [(0, 6)]) ((c, 4, S.length + 3) :: ((c, 3, S.length + 2) :: ((c, 2, S.length + 1) :: ((c, 1, S.length) :: R)))) J) (mk_r (by omega)) ?_
  refine Wb.ret b_Ways_init_36 ?_
  exact ⟨rfl, rfl⟩
theorem i_Purse (hl : h.2.2.length = n) (ok : okm S R J = true) (hc : S[c]? = some (14, 4)) (hb : n + S.length + 3 < 1000) : Wc rod (d + 1) 9 [.inr (.inr (.inl (some (n + c))))] (mkH h n S R J) (fun r h' => r = none ∧ h' = mkH h n ((S ++ [(0, 4)]) ++ [(0, 4)]) ((c, 1, S.length + 1) :: ((c, 0, S.length) :: R)) J) := by
  have kc0 : c < S.length := (List.getElem?_eq_some_iff.mp hc).1
  have l0 : S.length = S.length := rfl
  refine Wc.en (fun _ _ => e_Purse_init) ?_
  refine Wb.go (fun _ _ => b_Purse_init_0 rfl (gN_lit rfl (by rw [mk_len hl l0]; omega))) ?_
  rw [mk_len hl l0, mk_n hl ok]
  refine Wb.hp (mkH h n (S ++ [(0, 4)]) R J) rfl ?_
  have l1 : ((S ++ [(0, 4)])).length = S.length + 1 := by rw [List.length_append, l0]; rfl
  refine Wb.go (fun _ _ => b_Purse_init_8 (mk_gO hl (sh_app hc))) ?_
  refine Wb.hp (mkH h n (S ++ [(0, 4)]) ((c, 0, S.length) :: R) J) (mk_r (by omega)) ?_
  refine Wb.go (fun _ _ => b_Purse_init_11 (gN_lit rfl (by rw [mk_len hl l1]; omega))) ?_
  rw [mk_len hl l1, mk_n hl (okm_r (okm_n ok) (by omega))]
  refine Wb.hp (mkH h n ((S ++ [(0, 4)]) ++ [(0, 4)]) ((c, 0, S.length) :: R) J) rfl ?_
  have l2 : (((S ++ [(0, 4)]) ++ [(0, 4)])).length = S.length + 2 := by rw [List.length_append, l1]; rfl
  have ok11 : okm ((S ++ [(0, 4)]) ++ [(0, 4)]) ((c, 0, S.length) :: R) J = true := (okm_n (okm_r (okm_n ok) (by omega)))
  refine Wb.go (fun _ _ => b_Purse_init_15 (mk_gO hl (sh_app (sh_app hc)))) ?_
  refine Wb.hp (mkH h n ((S ++ [(0, 4)]) ++ [(0, 4)]) ((c, 1, S.length + 1) :: ((c, 0, S.length) :: R)) J) (mk_r (by omega)) ?_
  refine Wb.ret b_Purse_init_18 ?_
  exact ⟨rfl, rfl⟩
theorem i_Sharing (hl : h.2.2.length = n) (ok : okm S R J = true) (hc : S[c]? = some (17, 4)) (hb : n + S.length + 4 < 1000) : Wc rod (d + 1) 10 [.inr (.inr (.inl (some (n + c))))] (mkH h n S R J) (fun r h' => r = none ∧ h' = mkH h n (((S ++ [(0, 4)]) ++ [(0, 4)]) ++ [(0, 16)]) ((c, 3, S.length + 2) :: ((c, 2, S.length + 1) :: ((c, 1, S.length) :: R))) J) := by
  have kc0 : c < S.length := (List.getElem?_eq_some_iff.mp hc).1
  have l0 : S.length = S.length := rfl
  refine Wc.en (fun _ _ => e_Sharing_init) ?_
  refine Wb.go (fun _ _ => b_Sharing_init_0 rfl (gN_lit rfl (by rw [mk_len hl l0]; omega))) ?_
  rw [mk_len hl l0, mk_n hl ok]
  refine Wb.hp (mkH h n (S ++ [(0, 4)]) R J) rfl ?_
  have l1 : ((S ++ [(0, 4)])).length = S.length + 1 := by rw [List.length_append, l0]; rfl
  refine Wb.go (fun _ _ => b_Sharing_init_8 (mk_gO hl (sh_app hc))) ?_
  refine Wb.hp (mkH h n (S ++ [(0, 4)]) ((c, 1, S.length) :: R) J) (mk_r (by omega)) ?_
  refine Wb.go (fun _ _ => b_Sharing_init_11 (gN_lit rfl (by rw [mk_len hl l1]; omega))) ?_
  rw [mk_len hl l1, mk_n hl (okm_r (okm_n ok) (by omega))]
  refine Wb.hp (mkH h n ((S ++ [(0, 4)]) ++ [(0, 4)]) ((c, 1, S.length) :: R) J) rfl ?_
  have l2 : (((S ++ [(0, 4)]) ++ [(0, 4)])).length = S.length + 2 := by rw [List.length_append, l1]; rfl
  have ok11 : okm ((S ++ [(0, 4)]) ++ [(0, 4)]) ((c, 1, S.length) :: R) J = true := (okm_n (okm_r (okm_n ok) (by omega)))
  refine Wb.go (fun _ _ => b_Sharing_init_15 (mk_gO hl (sh_app (sh_app hc)))) ?_
  refine Wb.hp (mkH h n ((S ++ [(0, 4)]) ++ [(0, 4)]) ((c, 2, S.length + 1) :: ((c, 1, S.length) :: R)) J) (mk_r (by omega)) ?_
  refine Wb.go (fun _ _ => b_Sharing_init_18 (gN_lit rfl (by rw [mk_len hl l2]; omega))) ?_
  rw [mk_len hl l2, mk_n hl (okm_r ok11 (by omega))]
  refine Wb.hp (mkH h n (((S ++ [(0, 4)]) ++ [(0, 4)]) ++ [(0, 16)]) ((c, 2, S.length + 1) :: ((c, 1, S.length) :: R)) J) rfl ?_
  have l3 : ((((S ++ [(0, 4)]) ++ [(0, 4)]) ++ [(0, 16)])).length = S.length + 3 := by rw [List.length_append, l2]; rfl
  have ok18 : okm (((S ++ [(0, 4)]) ++ [(0, 4)]) ++ [(0, 16)]) ((c, 2, S.length + 1) :: ((c, 1, S.length) :: R)) J = true := (okm_n (okm_r ok11 (by omega)))
  refine Wb.go (fun _ _ => b_Sharing_init_23 (mk_gO hl (sh_app (sh_app (sh_app hc))))) ?_
  refine Wb.hp (mkH h n (((S ++ [(0, 4)]) ++ [(0, 4)]) ++ [(0, 16)]) ((c, 3, S.length + 2) :: ((c, 2, S.length + 1) :: ((c, 1, S.length) :: R))) J) (mk_r (by omega)) ?_
  refine Wb.ret b_Sharing_init_26 ?_
  exact ⟨rfl, rfl⟩
theorem i_ToldI (hl : h.2.2.length = n) (hb : n + 100 < 1000) : Wc rod (d + 2) 1 [.inr (.inr (.inl (some (n + 0))))] (mkH h n [(18, 9)] [] []) (fun r h' => r = none ∧ h' = mkH h n [(18, 9), (1, 600), (0, 4), (4, 2), (5, 2), (6, 2), (7, 2), (11, 14), (0, 8), (0, 8), (0, 8), (0, 8), (0, 8), (0, 4), (0, 4), (0, 36), (16, 4), (0, 40), (0, 40), (0, 40), (12, 3), (0, 20), (0, 20), (10, 2), (0, 16), (11, 14), (0, 8), (0, 8), (0, 8), (0, 8), (0, 8), (0, 4), (0, 4), (0, 36), (16, 4), (0, 40), (0, 40), (0, 40), (12, 3), (0, 20), (0, 20), (10, 2), (0, 16)] [(6, 1, 41), (41, 1, 42), (5, 1, 38), (38, 2, 40), (38, 1, 39), (4, 1, 34), (34, 3, 37), (34, 2, 36), (34, 1, 35), (3, 1, 25), (25, 13, 33), (25, 12, 32), (25, 11, 31), (25, 10, 30), (25, 9, 29), (25, 8, 28), (25, 7, 27), (25, 6, 26), (6, 0, 23), (23, 1, 24), (5, 0, 20), (20, 2, 22), (20, 1, 21), (4, 0, 16), (16, 3, 19), (16, 2, 18), (16, 1, 17), (3, 0, 7), (7, 13, 15), (7, 12, 14), (7, 11, 13), (7, 10, 12), (7, 9, 11), (7, 8, 10), (7, 7, 9), (7, 6, 8), (0, 8, 6), (0, 7, 5), (0, 6, 4), (0, 5, 3), (0, 4, 2), (0, 0, 1)] [(41, 0, 2), (25, 0, 3), (23, 0, 2), (7, 0, 3), (0, 3, -1)]) := by
  refine Wc.en (fun _ _ => e_Told_init) ?_
  refine Wb.go (fun _ _ => b_Told_init_0 rfl (gN_lit rfl (by rw [mk_len hl (m := 1) rfl]; omega))) ?_
  rw [mk_len hl (m := 1) rfl, mk_n hl rfl]
  refine Wb.hp (mkH h n [(18, 9), (1, 600)] [] []) rfl ?_
  refine Wb.go (fun _ _ => b_Told_init_10 (mk_gO hl (c := 0) rfl)) ?_
  refine Wb.hp (mkH h n [(18, 9), (1, 600)] [(0, 0, 1)] []) (mk_r (by decide)) ?_
  refine Wb.go (fun _ _ => b_Told_init_13 (mk_gO hl (c := 0) rfl)) ?_
  refine Wb.hp (mkH h n [(18, 9), (1, 600)] [(0, 0, 1)] [(0, 3, -1)]) (mk_i (by decide)) ?_
  refine Wb.go (fun _ _ => b_Told_init_18 (gN_lit rfl (by rw [mk_len hl (m := 2) rfl]; omega))) ?_
  rw [mk_len hl (m := 2) rfl, mk_n hl rfl]
  refine Wb.hp (mkH h n [(18, 9), (1, 600), (0, 4)] [(0, 0, 1)] [(0, 3, -1)]) rfl ?_
  refine Wb.go (fun _ _ => b_Told_init_22 (mk_gO hl (c := 0) rfl)) ?_
  refine Wb.hp (mkH h n [(18, 9), (1, 600), (0, 4)] [(0, 4, 2), (0, 0, 1)] [(0, 3, -1)]) (mk_r (by decide)) ?_
  refine Wb.go (fun _ _ => b_Told_init_25 (gN_lit rfl (by rw [mk_len hl (m := 3) rfl]; omega))) ?_
  rw [mk_len hl (m := 3) rfl, mk_n hl rfl]
  refine Wb.hp (mkH h n [(18, 9), (1, 600), (0, 4), (4, 2)] [(0, 4, 2), (0, 0, 1)] [(0, 3, -1)]) rfl ?_
  refine Wb.go (fun _ _ => b_Told_init_30 (mk_gO hl (c := 0) rfl)) ?_
  refine Wb.hp (mkH h n [(18, 9), (1, 600), (0, 4), (4, 2)] [(0, 5, 3), (0, 4, 2), (0, 0, 1)] [(0, 3, -1)]) (mk_r (by decide)) ?_
  refine Wb.go (fun _ _ => b_Told_init_33 (gN_lit rfl (by rw [mk_len hl (m := 4) rfl]; omega))) ?_
  rw [mk_len hl (m := 4) rfl, mk_n hl rfl]
  refine Wb.hp (mkH h n [(18, 9), (1, 600), (0, 4), (4, 2), (5, 2)] [(0, 5, 3), (0, 4, 2), (0, 0, 1)] [(0, 3, -1)]) rfl ?_
  refine Wb.go (fun _ _ => b_Told_init_38 (mk_gO hl (c := 0) rfl)) ?_
  refine Wb.hp (mkH h n [(18, 9), (1, 600), (0, 4), (4, 2), (5, 2)] [(0, 6, 4), (0, 5, 3), (0, 4, 2), (0, 0, 1)] [(0, 3, -1)]) (mk_r (by decide)) ?_
  refine Wb.go (fun _ _ => b_Told_init_41 (gN_lit rfl (by rw [mk_len hl (m := 5) rfl]; omega))) ?_
  rw [mk_len hl (m := 5) rfl, mk_n hl rfl]
  refine Wb.hp (mkH h n [(18, 9), (1, 600), (0, 4), (4, 2), (5, 2), (6, 2)] [(0, 6, 4), (0, 5, 3), (0, 4, 2), (0, 0, 1)] [(0, 3, -1)]) rfl ?_
  refine Wb.go (fun _ _ => b_Told_init_46 (mk_gO hl (c := 0) rfl)) ?_
  refine Wb.hp (mkH h n [(18, 9), (1, 600), (0, 4), (4, 2), (5, 2), (6, 2)] [(0, 7, 5), (0, 6, 4), (0, 5, 3), (0, 4, 2), (0, 0, 1)] [(0, 3, -1)]) (mk_r (by decide)) ?_
  refine Wb.go (fun _ _ => b_Told_init_49 (gN_lit rfl (by rw [mk_len hl (m := 6) rfl]; omega))) ?_
  rw [mk_len hl (m := 6) rfl, mk_n hl rfl]
  refine Wb.hp (mkH h n [(18, 9), (1, 600), (0, 4), (4, 2), (5, 2), (6, 2), (7, 2)] [(0, 7, 5), (0, 6, 4), (0, 5, 3), (0, 4, 2), (0, 0, 1)] [(0, 3, -1)]) rfl ?_
  refine Wb.go (fun _ _ => b_Told_init_54 (mk_gO hl (c := 0) rfl)) ?_
  refine Wb.hp (mkH h n [(18, 9), (1, 600), (0, 4), (4, 2), (5, 2), (6, 2), (7, 2)] [(0, 8, 6), (0, 7, 5), (0, 6, 4), (0, 5, 3), (0, 4, 2), (0, 0, 1)] [(0, 3, -1)]) (mk_r (by decide)) ?_
  refine Wb.go (fun _ _ => b_Told_init_57 rfl) ?_
  refine Wb.br (fun _ _ => b_Told_init_59) (fun c => absurd c (by decide)) (fun _ => ?_)
  refine Wb.go (fun _ _ => b_Told_init_64 (mk_gO hl (c := 0) rfl) (decide_eq_true (by rw [mk_len hl (m := 7) rfl]; omega))) ?_
  rw [mk_len hl (m := 7) rfl, Option.getD_some, mk_ref (S := [(18, 9), (1, 600), (0, 4), (4, 2), (5, 2), (6, 2), (7, 2)]) (c := 0) (j := 5) (v := 3) rfl (by decide), mk_n hl rfl]
  refine Wb.hp (mkH h n [(18, 9), (1, 600), (0, 4), (4, 2), (5, 2), (6, 2), (7, 2), (11, 14)] [(0, 8, 6), (0, 7, 5), (0, 6, 4), (0, 5, 3), (0, 4, 2), (0, 0, 1)] [(0, 3, -1)]) rfl ?_
  refine Wb.call (fun _ _ _ _ => b_Told_init_72 rfl) (i_Land hl rfl rfl (by show n + 8 + _ < 1000; omega)) ?_
  rintro _ _ ⟨rfl, rfl⟩
  refine Wb.hp (mkH h n [(18, 9), (1, 600), (0, 4), (4, 2), (5, 2), (6, 2), (7, 2), (11, 14), (0, 8), (0, 8), (0, 8), (0, 8), (0, 8), (0, 4), (0, 4), (0, 36)] [(7, 13, 15), (7, 12, 14), (7, 11, 13), (7, 10, 12), (7, 9, 11), (7, 8, 10), (7, 7, 9), (7, 6, 8), (0, 8, 6), (0, 7, 5), (0, 6, 4), (0, 5, 3), (0, 4, 2), (0, 0, 1)] [(7, 0, 3), (0, 3, -1)]) rfl ?_
  refine Wb.go (fun _ _ => b_Told_init_76 (mk_gA hl (c := 3) rfl (by decide)) (mk_gO hl (c := 7) rfl)) ?_
  refine Wb.hp (mkH h n [(18, 9), (1, 600), (0, 4), (4, 2), (5, 2), (6, 2), (7, 2), (11, 14), (0, 8), (0, 8), (0, 8), (0, 8), (0, 8), (0, 4), (0, 4), (0, 36)] [(3, 0, 7), (7, 13, 15), (7, 12, 14), (7, 11, 13), (7, 10, 12), (7, 9, 11), (7, 8, 10), (7, 7, 9), (7, 6, 8), (0, 8, 6), (0, 7, 5), (0, 6, 4), (0, 5, 3), (0, 4, 2), (0, 0, 1)] [(7, 0, 3), (0, 3, -1)]) (mk_r (by decide)) ?_
  refine Wb.go (fun _ _ => b_Told_init_77 (mk_gO hl (c := 0) rfl) (decide_eq_true (by rw [mk_len hl (m := 16) rfl]; omega))) ?_
  rw [mk_len hl (m := 16) rfl, Option.getD_some, mk_ref (S := [(18, 9), (1, 600), (0, 4), (4, 2), (5, 2), (6, 2), (7, 2), (11, 14), (0, 8), (0, 8), (0, 8), (0, 8), (0, 8), (0, 4), (0, 4), (0, 36)]) (c := 0) (j := 6) (v := 4) rfl (by decide), mk_n hl rfl]
  refine Wb.hp (mkH h n [(18, 9), (1, 600), (0, 4), (4, 2), (5, 2), (6, 2), (7, 2), (11, 14), (0, 8), (0, 8), (0, 8), (0, 8), (0, 8), (0, 4), (0, 4), (0, 36), (16, 4)] [(3, 0, 7), (7, 13, 15), (7, 12, 14), (7, 11, 13), (7, 10, 12), (7, 9, 11), (7, 8, 10), (7, 7, 9), (7, 6, 8), (0, 8, 6), (0, 7, 5), (0, 6, 4), (0, 5, 3), (0, 4, 2), (0, 0, 1)] [(7, 0, 3), (0, 3, -1)]) rfl ?_
  refine Wb.call (fun _ _ _ _ => b_Told_init_85 rfl) (i_Season hl rfl rfl (by show n + 17 + _ < 1000; omega)) ?_
  rintro _ _ ⟨rfl, rfl⟩
  refine Wb.hp (mkH h n [(18, 9), (1, 600), (0, 4), (4, 2), (5, 2), (6, 2), (7, 2), (11, 14), (0, 8), (0, 8), (0, 8), (0, 8), (0, 8), (0, 4), (0, 4), (0, 36), (16, 4), (0, 40), (0, 40), (0, 40)] [(16, 3, 19), (16, 2, 18), (16, 1, 17), (3, 0, 7), (7, 13, 15), (7, 12, 14), (7, 11, 13), (7, 10, 12), (7, 9, 11), (7, 8, 10), (7, 7, 9), (7, 6, 8), (0, 8, 6), (0, 7, 5), (0, 6, 4), (0, 5, 3), (0, 4, 2), (0, 0, 1)] [(7, 0, 3), (0, 3, -1)]) rfl ?_
  refine Wb.go (fun _ _ => b_Told_init_89 (mk_gA hl (c := 4) rfl (by decide)) (mk_gO hl (c := 16) rfl)) ?_
  refine Wb.hp (mkH h n [(18, 9), (1, 600), (0, 4), (4, 2), (5, 2), (6, 2), (7, 2), (11, 14), (0, 8), (0, 8), (0, 8), (0, 8), (0, 8), (0, 4), (0, 4), (0, 36), (16, 4), (0, 40), (0, 40), (0, 40)] [(4, 0, 16), (16, 3, 19), (16, 2, 18), (16, 1, 17), (3, 0, 7), (7, 13, 15), (7, 12, 14), (7, 11, 13), (7, 10, 12), (7, 9, 11), (7, 8, 10), (7, 7, 9), (7, 6, 8), (0, 8, 6), (0, 7, 5), (0, 6, 4), (0, 5, 3), (0, 4, 2), (0, 0, 1)] [(7, 0, 3), (0, 3, -1)]) (mk_r (by decide)) ?_
  refine Wb.go (fun _ _ => b_Told_init_90 (mk_gO hl (c := 0) rfl) (decide_eq_true (by rw [mk_len hl (m := 20) rfl]; omega))) ?_
  rw [mk_len hl (m := 20) rfl, Option.getD_some, mk_ref (S := [(18, 9), (1, 600), (0, 4), (4, 2), (5, 2), (6, 2), (7, 2), (11, 14), (0, 8), (0, 8), (0, 8), (0, 8), (0, 8), (0, 4), (0, 4), (0, 36), (16, 4), (0, 40), (0, 40), (0, 40)]) (c := 0) (j := 7) (v := 5) rfl (by decide), mk_n hl rfl]
  refine Wb.hp (mkH h n [(18, 9), (1, 600), (0, 4), (4, 2), (5, 2), (6, 2), (7, 2), (11, 14), (0, 8), (0, 8), (0, 8), (0, 8), (0, 8), (0, 4), (0, 4), (0, 36), (16, 4), (0, 40), (0, 40), (0, 40), (12, 3)] [(4, 0, 16), (16, 3, 19), (16, 2, 18), (16, 1, 17), (3, 0, 7), (7, 13, 15), (7, 12, 14), (7, 11, 13), (7, 10, 12), (7, 9, 11), (7, 8, 10), (7, 7, 9), (7, 6, 8), (0, 8, 6), (0, 7, 5), (0, 6, 4), (0, 5, 3), (0, 4, 2), (0, 0, 1)] [(7, 0, 3), (0, 3, -1)]) rfl ?_
  refine Wb.call (fun _ _ _ _ => b_Told_init_98 rfl) (i_Ledger hl rfl rfl (by show n + 21 + _ < 1000; omega)) ?_
  rintro _ _ ⟨rfl, rfl⟩
  refine Wb.hp (mkH h n [(18, 9), (1, 600), (0, 4), (4, 2), (5, 2), (6, 2), (7, 2), (11, 14), (0, 8), (0, 8), (0, 8), (0, 8), (0, 8), (0, 4), (0, 4), (0, 36), (16, 4), (0, 40), (0, 40), (0, 40), (12, 3), (0, 20), (0, 20)] [(20, 2, 22), (20, 1, 21), (4, 0, 16), (16, 3, 19), (16, 2, 18), (16, 1, 17), (3, 0, 7), (7, 13, 15), (7, 12, 14), (7, 11, 13), (7, 10, 12), (7, 9, 11), (7, 8, 10), (7, 7, 9), (7, 6, 8), (0, 8, 6), (0, 7, 5), (0, 6, 4), (0, 5, 3), (0, 4, 2), (0, 0, 1)] [(7, 0, 3), (0, 3, -1)]) rfl ?_
  refine Wb.go (fun _ _ => b_Told_init_102 (mk_gA hl (c := 5) rfl (by decide)) (mk_gO hl (c := 20) rfl)) ?_
  refine Wb.hp (mkH h n [(18, 9), (1, 600), (0, 4), (4, 2), (5, 2), (6, 2), (7, 2), (11, 14), (0, 8), (0, 8), (0, 8), (0, 8), (0, 8), (0, 4), (0, 4), (0, 36), (16, 4), (0, 40), (0, 40), (0, 40), (12, 3), (0, 20), (0, 20)] [(5, 0, 20), (20, 2, 22), (20, 1, 21), (4, 0, 16), (16, 3, 19), (16, 2, 18), (16, 1, 17), (3, 0, 7), (7, 13, 15), (7, 12, 14), (7, 11, 13), (7, 10, 12), (7, 9, 11), (7, 8, 10), (7, 7, 9), (7, 6, 8), (0, 8, 6), (0, 7, 5), (0, 6, 4), (0, 5, 3), (0, 4, 2), (0, 0, 1)] [(7, 0, 3), (0, 3, -1)]) (mk_r (by decide)) ?_
  refine Wb.go (fun _ _ => b_Told_init_103 (mk_gO hl (c := 0) rfl) (decide_eq_true (by rw [mk_len hl (m := 23) rfl]; omega))) ?_
  rw [mk_len hl (m := 23) rfl, Option.getD_some, mk_ref (S := [(18, 9), (1, 600), (0, 4), (4, 2), (5, 2), (6, 2), (7, 2), (11, 14), (0, 8), (0, 8), (0, 8), (0, 8), (0, 8), (0, 4), (0, 4), (0, 36), (16, 4), (0, 40), (0, 40), (0, 40), (12, 3), (0, 20), (0, 20)]) (c := 0) (j := 8) (v := 6) rfl (by decide), mk_n hl rfl]
  refine Wb.hp (mkH h n [(18, 9), (1, 600), (0, 4), (4, 2), (5, 2), (6, 2), (7, 2), (11, 14), (0, 8), (0, 8), (0, 8), (0, 8), (0, 8), (0, 4), (0, 4), (0, 36), (16, 4), (0, 40), (0, 40), (0, 40), (12, 3), (0, 20), (0, 20), (10, 2)] [(5, 0, 20), (20, 2, 22), (20, 1, 21), (4, 0, 16), (16, 3, 19), (16, 2, 18), (16, 1, 17), (3, 0, 7), (7, 13, 15), (7, 12, 14), (7, 11, 13), (7, 10, 12), (7, 9, 11), (7, 8, 10), (7, 7, 9), (7, 6, 8), (0, 8, 6), (0, 7, 5), (0, 6, 4), (0, 5, 3), (0, 4, 2), (0, 0, 1)] [(7, 0, 3), (0, 3, -1)]) rfl ?_
  refine Wb.call (fun _ _ _ _ => b_Told_init_111 rfl) (i_Bargain hl rfl rfl (by show n + 24 + _ < 1000; omega)) ?_
  rintro _ _ ⟨rfl, rfl⟩
  refine Wb.hp (mkH h n [(18, 9), (1, 600), (0, 4), (4, 2), (5, 2), (6, 2), (7, 2), (11, 14), (0, 8), (0, 8), (0, 8), (0, 8), (0, 8), (0, 4), (0, 4), (0, 36), (16, 4), (0, 40), (0, 40), (0, 40), (12, 3), (0, 20), (0, 20), (10, 2), (0, 16)] [(23, 1, 24), (5, 0, 20), (20, 2, 22), (20, 1, 21), (4, 0, 16), (16, 3, 19), (16, 2, 18), (16, 1, 17), (3, 0, 7), (7, 13, 15), (7, 12, 14), (7, 11, 13), (7, 10, 12), (7, 9, 11), (7, 8, 10), (7, 7, 9), (7, 6, 8), (0, 8, 6), (0, 7, 5), (0, 6, 4), (0, 5, 3), (0, 4, 2), (0, 0, 1)] [(23, 0, 2), (7, 0, 3), (0, 3, -1)]) rfl ?_
  refine Wb.go (fun _ _ => b_Told_init_115 (mk_gA hl (c := 6) rfl (by decide)) (mk_gO hl (c := 23) rfl)) ?_
  refine Wb.hp (mkH h n [(18, 9), (1, 600), (0, 4), (4, 2), (5, 2), (6, 2), (7, 2), (11, 14), (0, 8), (0, 8), (0, 8), (0, 8), (0, 8), (0, 4), (0, 4), (0, 36), (16, 4), (0, 40), (0, 40), (0, 40), (12, 3), (0, 20), (0, 20), (10, 2), (0, 16)] [(6, 0, 23), (23, 1, 24), (5, 0, 20), (20, 2, 22), (20, 1, 21), (4, 0, 16), (16, 3, 19), (16, 2, 18), (16, 1, 17), (3, 0, 7), (7, 13, 15), (7, 12, 14), (7, 11, 13), (7, 10, 12), (7, 9, 11), (7, 8, 10), (7, 7, 9), (7, 6, 8), (0, 8, 6), (0, 7, 5), (0, 6, 4), (0, 5, 3), (0, 4, 2), (0, 0, 1)] [(23, 0, 2), (7, 0, 3), (0, 3, -1)]) (mk_r (by decide)) ?_
  refine Wb.go (fun _ _ => b_Told_init_116 rfl) ?_
  refine Wb.br (fun _ _ => b_Told_init_59) (fun c => absurd c (by decide)) (fun _ => ?_)
  refine Wb.go (fun _ _ => b_Told_init_64 (mk_gO hl (c := 0) rfl) (decide_eq_true (by rw [mk_len hl (m := 25) rfl]; omega))) ?_
  rw [mk_len hl (m := 25) rfl, Option.getD_some, mk_ref (S := [(18, 9), (1, 600), (0, 4), (4, 2), (5, 2), (6, 2), (7, 2), (11, 14), (0, 8), (0, 8), (0, 8), (0, 8), (0, 8), (0, 4), (0, 4), (0, 36), (16, 4), (0, 40), (0, 40), (0, 40), (12, 3), (0, 20), (0, 20), (10, 2), (0, 16)]) (c := 0) (j := 5) (v := 3) rfl (by decide), mk_n hl rfl]
  refine Wb.hp (mkH h n [(18, 9), (1, 600), (0, 4), (4, 2), (5, 2), (6, 2), (7, 2), (11, 14), (0, 8), (0, 8), (0, 8), (0, 8), (0, 8), (0, 4), (0, 4), (0, 36), (16, 4), (0, 40), (0, 40), (0, 40), (12, 3), (0, 20), (0, 20), (10, 2), (0, 16), (11, 14)] [(6, 0, 23), (23, 1, 24), (5, 0, 20), (20, 2, 22), (20, 1, 21), (4, 0, 16), (16, 3, 19), (16, 2, 18), (16, 1, 17), (3, 0, 7), (7, 13, 15), (7, 12, 14), (7, 11, 13), (7, 10, 12), (7, 9, 11), (7, 8, 10), (7, 7, 9), (7, 6, 8), (0, 8, 6), (0, 7, 5), (0, 6, 4), (0, 5, 3), (0, 4, 2), (0, 0, 1)] [(23, 0, 2), (7, 0, 3), (0, 3, -1)]) rfl ?_
  refine Wb.call (fun _ _ _ _ => b_Told_init_72 rfl) (i_Land hl rfl rfl (by show n + 26 + _ < 1000; omega)) ?_
  rintro _ _ ⟨rfl, rfl⟩
  refine Wb.hp (mkH h n [(18, 9), (1, 600), (0, 4), (4, 2), (5, 2), (6, 2), (7, 2), (11, 14), (0, 8), (0, 8), (0, 8), (0, 8), (0, 8), (0, 4), (0, 4), (0, 36), (16, 4), (0, 40), (0, 40), (0, 40), (12, 3), (0, 20), (0, 20), (10, 2), (0, 16), (11, 14), (0, 8), (0, 8), (0, 8), (0, 8), (0, 8), (0, 4), (0, 4), (0, 36)] [(25, 13, 33), (25, 12, 32), (25, 11, 31), (25, 10, 30), (25, 9, 29), (25, 8, 28), (25, 7, 27), (25, 6, 26), (6, 0, 23), (23, 1, 24), (5, 0, 20), (20, 2, 22), (20, 1, 21), (4, 0, 16), (16, 3, 19), (16, 2, 18), (16, 1, 17), (3, 0, 7), (7, 13, 15), (7, 12, 14), (7, 11, 13), (7, 10, 12), (7, 9, 11), (7, 8, 10), (7, 7, 9), (7, 6, 8), (0, 8, 6), (0, 7, 5), (0, 6, 4), (0, 5, 3), (0, 4, 2), (0, 0, 1)] [(25, 0, 3), (23, 0, 2), (7, 0, 3), (0, 3, -1)]) rfl ?_
  refine Wb.go (fun _ _ => b_Told_init_76 (mk_gA hl (c := 3) rfl (by decide)) (mk_gO hl (c := 25) rfl)) ?_
  refine Wb.hp (mkH h n [(18, 9), (1, 600), (0, 4), (4, 2), (5, 2), (6, 2), (7, 2), (11, 14), (0, 8), (0, 8), (0, 8), (0, 8), (0, 8), (0, 4), (0, 4), (0, 36), (16, 4), (0, 40), (0, 40), (0, 40), (12, 3), (0, 20), (0, 20), (10, 2), (0, 16), (11, 14), (0, 8), (0, 8), (0, 8), (0, 8), (0, 8), (0, 4), (0, 4), (0, 36)] [(3, 1, 25), (25, 13, 33), (25, 12, 32), (25, 11, 31), (25, 10, 30), (25, 9, 29), (25, 8, 28), (25, 7, 27), (25, 6, 26), (6, 0, 23), (23, 1, 24), (5, 0, 20), (20, 2, 22), (20, 1, 21), (4, 0, 16), (16, 3, 19), (16, 2, 18), (16, 1, 17), (3, 0, 7), (7, 13, 15), (7, 12, 14), (7, 11, 13), (7, 10, 12), (7, 9, 11), (7, 8, 10), (7, 7, 9), (7, 6, 8), (0, 8, 6), (0, 7, 5), (0, 6, 4), (0, 5, 3), (0, 4, 2), (0, 0, 1)] [(25, 0, 3), (23, 0, 2), (7, 0, 3), (0, 3, -1)]) (mk_r (by decide)) ?_
  refine Wb.go (fun _ _ => b_Told_init_77 (mk_gO hl (c := 0) rfl) (decide_eq_true (by rw [mk_len hl (m := 34) rfl]; omega))) ?_
  rw [mk_len hl (m := 34) rfl, Option.getD_some, mk_ref (S := [(18, 9), (1, 600), (0, 4), (4, 2), (5, 2), (6, 2), (7, 2), (11, 14), (0, 8), (0, 8), (0, 8), (0, 8), (0, 8), (0, 4), (0, 4), (0, 36), (16, 4), (0, 40), (0, 40), (0, 40), (12, 3), (0, 20), (0, 20), (10, 2), (0, 16), (11, 14), (0, 8), (0, 8), (0, 8), (0, 8), (0, 8), (0, 4), (0, 4), (0, 36)]) (c := 0) (j := 6) (v := 4) rfl (by decide), mk_n hl rfl]
  refine Wb.hp (mkH h n [(18, 9), (1, 600), (0, 4), (4, 2), (5, 2), (6, 2), (7, 2), (11, 14), (0, 8), (0, 8), (0, 8), (0, 8), (0, 8), (0, 4), (0, 4), (0, 36), (16, 4), (0, 40), (0, 40), (0, 40), (12, 3), (0, 20), (0, 20), (10, 2), (0, 16), (11, 14), (0, 8), (0, 8), (0, 8), (0, 8), (0, 8), (0, 4), (0, 4), (0, 36), (16, 4)] [(3, 1, 25), (25, 13, 33), (25, 12, 32), (25, 11, 31), (25, 10, 30), (25, 9, 29), (25, 8, 28), (25, 7, 27), (25, 6, 26), (6, 0, 23), (23, 1, 24), (5, 0, 20), (20, 2, 22), (20, 1, 21), (4, 0, 16), (16, 3, 19), (16, 2, 18), (16, 1, 17), (3, 0, 7), (7, 13, 15), (7, 12, 14), (7, 11, 13), (7, 10, 12), (7, 9, 11), (7, 8, 10), (7, 7, 9), (7, 6, 8), (0, 8, 6), (0, 7, 5), (0, 6, 4), (0, 5, 3), (0, 4, 2), (0, 0, 1)] [(25, 0, 3), (23, 0, 2), (7, 0, 3), (0, 3, -1)]) rfl ?_
  refine Wb.call (fun _ _ _ _ => b_Told_init_85 rfl) (i_Season hl rfl rfl (by show n + 35 + _ < 1000; omega)) ?_
  rintro _ _ ⟨rfl, rfl⟩
  refine Wb.hp (mkH h n [(18, 9), (1, 600), (0, 4), (4, 2), (5, 2), (6, 2), (7, 2), (11, 14), (0, 8), (0, 8), (0, 8), (0, 8), (0, 8), (0, 4), (0, 4), (0, 36), (16, 4), (0, 40), (0, 40), (0, 40), (12, 3), (0, 20), (0, 20), (10, 2), (0, 16), (11, 14), (0, 8), (0, 8), (0, 8), (0, 8), (0, 8), (0, 4), (0, 4), (0, 36), (16, 4), (0, 40), (0, 40), (0, 40)] [(34, 3, 37), (34, 2, 36), (34, 1, 35), (3, 1, 25), (25, 13, 33), (25, 12, 32), (25, 11, 31), (25, 10, 30), (25, 9, 29), (25, 8, 28), (25, 7, 27), (25, 6, 26), (6, 0, 23), (23, 1, 24), (5, 0, 20), (20, 2, 22), (20, 1, 21), (4, 0, 16), (16, 3, 19), (16, 2, 18), (16, 1, 17), (3, 0, 7), (7, 13, 15), (7, 12, 14), (7, 11, 13), (7, 10, 12), (7, 9, 11), (7, 8, 10), (7, 7, 9), (7, 6, 8), (0, 8, 6), (0, 7, 5), (0, 6, 4), (0, 5, 3), (0, 4, 2), (0, 0, 1)] [(25, 0, 3), (23, 0, 2), (7, 0, 3), (0, 3, -1)]) rfl ?_
  refine Wb.go (fun _ _ => b_Told_init_89 (mk_gA hl (c := 4) rfl (by decide)) (mk_gO hl (c := 34) rfl)) ?_
  refine Wb.hp (mkH h n [(18, 9), (1, 600), (0, 4), (4, 2), (5, 2), (6, 2), (7, 2), (11, 14), (0, 8), (0, 8), (0, 8), (0, 8), (0, 8), (0, 4), (0, 4), (0, 36), (16, 4), (0, 40), (0, 40), (0, 40), (12, 3), (0, 20), (0, 20), (10, 2), (0, 16), (11, 14), (0, 8), (0, 8), (0, 8), (0, 8), (0, 8), (0, 4), (0, 4), (0, 36), (16, 4), (0, 40), (0, 40), (0, 40)] [(4, 1, 34), (34, 3, 37), (34, 2, 36), (34, 1, 35), (3, 1, 25), (25, 13, 33), (25, 12, 32), (25, 11, 31), (25, 10, 30), (25, 9, 29), (25, 8, 28), (25, 7, 27), (25, 6, 26), (6, 0, 23), (23, 1, 24), (5, 0, 20), (20, 2, 22), (20, 1, 21), (4, 0, 16), (16, 3, 19), (16, 2, 18), (16, 1, 17), (3, 0, 7), (7, 13, 15), (7, 12, 14), (7, 11, 13), (7, 10, 12), (7, 9, 11), (7, 8, 10), (7, 7, 9), (7, 6, 8), (0, 8, 6), (0, 7, 5), (0, 6, 4), (0, 5, 3), (0, 4, 2), (0, 0, 1)] [(25, 0, 3), (23, 0, 2), (7, 0, 3), (0, 3, -1)]) (mk_r (by decide)) ?_
  refine Wb.go (fun _ _ => b_Told_init_90 (mk_gO hl (c := 0) rfl) (decide_eq_true (by rw [mk_len hl (m := 38) rfl]; omega))) ?_
  rw [mk_len hl (m := 38) rfl, Option.getD_some, mk_ref (S := [(18, 9), (1, 600), (0, 4), (4, 2), (5, 2), (6, 2), (7, 2), (11, 14), (0, 8), (0, 8), (0, 8), (0, 8), (0, 8), (0, 4), (0, 4), (0, 36), (16, 4), (0, 40), (0, 40), (0, 40), (12, 3), (0, 20), (0, 20), (10, 2), (0, 16), (11, 14), (0, 8), (0, 8), (0, 8), (0, 8), (0, 8), (0, 4), (0, 4), (0, 36), (16, 4), (0, 40), (0, 40), (0, 40)]) (c := 0) (j := 7) (v := 5) rfl (by decide), mk_n hl rfl]
  refine Wb.hp (mkH h n [(18, 9), (1, 600), (0, 4), (4, 2), (5, 2), (6, 2), (7, 2), (11, 14), (0, 8), (0, 8), (0, 8), (0, 8), (0, 8), (0, 4), (0, 4), (0, 36), (16, 4), (0, 40), (0, 40), (0, 40), (12, 3), (0, 20), (0, 20), (10, 2), (0, 16), (11, 14), (0, 8), (0, 8), (0, 8), (0, 8), (0, 8), (0, 4), (0, 4), (0, 36), (16, 4), (0, 40), (0, 40), (0, 40), (12, 3)] [(4, 1, 34), (34, 3, 37), (34, 2, 36), (34, 1, 35), (3, 1, 25), (25, 13, 33), (25, 12, 32), (25, 11, 31), (25, 10, 30), (25, 9, 29), (25, 8, 28), (25, 7, 27), (25, 6, 26), (6, 0, 23), (23, 1, 24), (5, 0, 20), (20, 2, 22), (20, 1, 21), (4, 0, 16), (16, 3, 19), (16, 2, 18), (16, 1, 17), (3, 0, 7), (7, 13, 15), (7, 12, 14), (7, 11, 13), (7, 10, 12), (7, 9, 11), (7, 8, 10), (7, 7, 9), (7, 6, 8), (0, 8, 6), (0, 7, 5), (0, 6, 4), (0, 5, 3), (0, 4, 2), (0, 0, 1)] [(25, 0, 3), (23, 0, 2), (7, 0, 3), (0, 3, -1)]) rfl ?_
  refine Wb.call (fun _ _ _ _ => b_Told_init_98 rfl) (i_Ledger hl rfl rfl (by show n + 39 + _ < 1000; omega)) ?_
  rintro _ _ ⟨rfl, rfl⟩
  refine Wb.hp (mkH h n [(18, 9), (1, 600), (0, 4), (4, 2), (5, 2), (6, 2), (7, 2), (11, 14), (0, 8), (0, 8), (0, 8), (0, 8), (0, 8), (0, 4), (0, 4), (0, 36), (16, 4), (0, 40), (0, 40), (0, 40), (12, 3), (0, 20), (0, 20), (10, 2), (0, 16), (11, 14), (0, 8), (0, 8), (0, 8), (0, 8), (0, 8), (0, 4), (0, 4), (0, 36), (16, 4), (0, 40), (0, 40), (0, 40), (12, 3), (0, 20), (0, 20)] [(38, 2, 40), (38, 1, 39), (4, 1, 34), (34, 3, 37), (34, 2, 36), (34, 1, 35), (3, 1, 25), (25, 13, 33), (25, 12, 32), (25, 11, 31), (25, 10, 30), (25, 9, 29), (25, 8, 28), (25, 7, 27), (25, 6, 26), (6, 0, 23), (23, 1, 24), (5, 0, 20), (20, 2, 22), (20, 1, 21), (4, 0, 16), (16, 3, 19), (16, 2, 18), (16, 1, 17), (3, 0, 7), (7, 13, 15), (7, 12, 14), (7, 11, 13), (7, 10, 12), (7, 9, 11), (7, 8, 10), (7, 7, 9), (7, 6, 8), (0, 8, 6), (0, 7, 5), (0, 6, 4), (0, 5, 3), (0, 4, 2), (0, 0, 1)] [(25, 0, 3), (23, 0, 2), (7, 0, 3), (0, 3, -1)]) rfl ?_
  refine Wb.go (fun _ _ => b_Told_init_102 (mk_gA hl (c := 5) rfl (by decide)) (mk_gO hl (c := 38) rfl)) ?_
  refine Wb.hp (mkH h n [(18, 9), (1, 600), (0, 4), (4, 2), (5, 2), (6, 2), (7, 2), (11, 14), (0, 8), (0, 8), (0, 8), (0, 8), (0, 8), (0, 4), (0, 4), (0, 36), (16, 4), (0, 40), (0, 40), (0, 40), (12, 3), (0, 20), (0, 20), (10, 2), (0, 16), (11, 14), (0, 8), (0, 8), (0, 8), (0, 8), (0, 8), (0, 4), (0, 4), (0, 36), (16, 4), (0, 40), (0, 40), (0, 40), (12, 3), (0, 20), (0, 20)] [(5, 1, 38), (38, 2, 40), (38, 1, 39), (4, 1, 34), (34, 3, 37), (34, 2, 36), (34, 1, 35), (3, 1, 25), (25, 13, 33), (25, 12, 32), (25, 11, 31), (25, 10, 30), (25, 9, 29), (25, 8, 28), (25, 7, 27), (25, 6, 26), (6, 0, 23), (23, 1, 24), (5, 0, 20), (20, 2, 22), (20, 1, 21), (4, 0, 16), (16, 3, 19), (16, 2, 18), (16, 1, 17), (3, 0, 7), (7, 13, 15), (7, 12, 14), (7, 11, 13), (7, 10, 12), (7, 9, 11), (7, 8, 10), (7, 7, 9), (7, 6, 8), (0, 8, 6), (0, 7, 5), (0, 6, 4), (0, 5, 3), (0, 4, 2), (0, 0, 1)] [(25, 0, 3), (23, 0, 2), (7, 0, 3), (0, 3, -1)]) (mk_r (by decide)) ?_
  refine Wb.go (fun _ _ => b_Told_init_103 (mk_gO hl (c := 0) rfl) (decide_eq_true (by rw [mk_len hl (m := 41) rfl]; omega))) ?_
  rw [mk_len hl (m := 41) rfl, Option.getD_some, mk_ref (S := [(18, 9), (1, 600), (0, 4), (4, 2), (5, 2), (6, 2), (7, 2), (11, 14), (0, 8), (0, 8), (0, 8), (0, 8), (0, 8), (0, 4), (0, 4), (0, 36), (16, 4), (0, 40), (0, 40), (0, 40), (12, 3), (0, 20), (0, 20), (10, 2), (0, 16), (11, 14), (0, 8), (0, 8), (0, 8), (0, 8), (0, 8), (0, 4), (0, 4), (0, 36), (16, 4), (0, 40), (0, 40), (0, 40), (12, 3), (0, 20), (0, 20)]) (c := 0) (j := 8) (v := 6) rfl (by decide), mk_n hl rfl]
  refine Wb.hp (mkH h n [(18, 9), (1, 600), (0, 4), (4, 2), (5, 2), (6, 2), (7, 2), (11, 14), (0, 8), (0, 8), (0, 8), (0, 8), (0, 8), (0, 4), (0, 4), (0, 36), (16, 4), (0, 40), (0, 40), (0, 40), (12, 3), (0, 20), (0, 20), (10, 2), (0, 16), (11, 14), (0, 8), (0, 8), (0, 8), (0, 8), (0, 8), (0, 4), (0, 4), (0, 36), (16, 4), (0, 40), (0, 40), (0, 40), (12, 3), (0, 20), (0, 20), (10, 2)] [(5, 1, 38), (38, 2, 40), (38, 1, 39), (4, 1, 34), (34, 3, 37), (34, 2, 36), (34, 1, 35), (3, 1, 25), (25, 13, 33), (25, 12, 32), (25, 11, 31), (25, 10, 30), (25, 9, 29), (25, 8, 28), (25, 7, 27), (25, 6, 26), (6, 0, 23), (23, 1, 24), (5, 0, 20), (20, 2, 22), (20, 1, 21), (4, 0, 16), (16, 3, 19), (16, 2, 18), (16, 1, 17), (3, 0, 7), (7, 13, 15), (7, 12, 14), (7, 11, 13), (7, 10, 12), (7, 9, 11), (7, 8, 10), (7, 7, 9), (7, 6, 8), (0, 8, 6), (0, 7, 5), (0, 6, 4), (0, 5, 3), (0, 4, 2), (0, 0, 1)] [(25, 0, 3), (23, 0, 2), (7, 0, 3), (0, 3, -1)]) rfl ?_
  refine Wb.call (fun _ _ _ _ => b_Told_init_111 rfl) (i_Bargain hl rfl rfl (by show n + 42 + _ < 1000; omega)) ?_
  rintro _ _ ⟨rfl, rfl⟩
  refine Wb.hp (mkH h n [(18, 9), (1, 600), (0, 4), (4, 2), (5, 2), (6, 2), (7, 2), (11, 14), (0, 8), (0, 8), (0, 8), (0, 8), (0, 8), (0, 4), (0, 4), (0, 36), (16, 4), (0, 40), (0, 40), (0, 40), (12, 3), (0, 20), (0, 20), (10, 2), (0, 16), (11, 14), (0, 8), (0, 8), (0, 8), (0, 8), (0, 8), (0, 4), (0, 4), (0, 36), (16, 4), (0, 40), (0, 40), (0, 40), (12, 3), (0, 20), (0, 20), (10, 2), (0, 16)] [(41, 1, 42), (5, 1, 38), (38, 2, 40), (38, 1, 39), (4, 1, 34), (34, 3, 37), (34, 2, 36), (34, 1, 35), (3, 1, 25), (25, 13, 33), (25, 12, 32), (25, 11, 31), (25, 10, 30), (25, 9, 29), (25, 8, 28), (25, 7, 27), (25, 6, 26), (6, 0, 23), (23, 1, 24), (5, 0, 20), (20, 2, 22), (20, 1, 21), (4, 0, 16), (16, 3, 19), (16, 2, 18), (16, 1, 17), (3, 0, 7), (7, 13, 15), (7, 12, 14), (7, 11, 13), (7, 10, 12), (7, 9, 11), (7, 8, 10), (7, 7, 9), (7, 6, 8), (0, 8, 6), (0, 7, 5), (0, 6, 4), (0, 5, 3), (0, 4, 2), (0, 0, 1)] [(41, 0, 2), (25, 0, 3), (23, 0, 2), (7, 0, 3), (0, 3, -1)]) rfl ?_
  refine Wb.go (fun _ _ => b_Told_init_115 (mk_gA hl (c := 6) rfl (by decide)) (mk_gO hl (c := 41) rfl)) ?_
  refine Wb.hp (mkH h n [(18, 9), (1, 600), (0, 4), (4, 2), (5, 2), (6, 2), (7, 2), (11, 14), (0, 8), (0, 8), (0, 8), (0, 8), (0, 8), (0, 4), (0, 4), (0, 36), (16, 4), (0, 40), (0, 40), (0, 40), (12, 3), (0, 20), (0, 20), (10, 2), (0, 16), (11, 14), (0, 8), (0, 8), (0, 8), (0, 8), (0, 8), (0, 4), (0, 4), (0, 36), (16, 4), (0, 40), (0, 40), (0, 40), (12, 3), (0, 20), (0, 20), (10, 2), (0, 16)] [(6, 1, 41), (41, 1, 42), (5, 1, 38), (38, 2, 40), (38, 1, 39), (4, 1, 34), (34, 3, 37), (34, 2, 36), (34, 1, 35), (3, 1, 25), (25, 13, 33), (25, 12, 32), (25, 11, 31), (25, 10, 30), (25, 9, 29), (25, 8, 28), (25, 7, 27), (25, 6, 26), (6, 0, 23), (23, 1, 24), (5, 0, 20), (20, 2, 22), (20, 1, 21), (4, 0, 16), (16, 3, 19), (16, 2, 18), (16, 1, 17), (3, 0, 7), (7, 13, 15), (7, 12, 14), (7, 11, 13), (7, 10, 12), (7, 9, 11), (7, 8, 10), (7, 7, 9), (7, 6, 8), (0, 8, 6), (0, 7, 5), (0, 6, 4), (0, 5, 3), (0, 4, 2), (0, 0, 1)] [(41, 0, 2), (25, 0, 3), (23, 0, 2), (7, 0, 3), (0, 3, -1)]) (mk_r (by decide)) ?_
  refine Wb.go (fun _ _ => b_Told_init_116 rfl) ?_
  refine Wb.br (fun _ _ => b_Told_init_59) (fun _ => ?_) (fun c => absurd c (by decide))
  refine Wb.ret b_Told_init_122 ?_
  exact ⟨rfl, rfl⟩
end M67
