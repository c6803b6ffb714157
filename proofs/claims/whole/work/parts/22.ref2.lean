/-! the reference: joints, fields, bits -/
section REF
variable {X : mc_X} {G : mc_H} {su : Int32} {tr : Int64} {R C U : Nat} {tu tl ki go wa ol hs so sr rs ce cp fa pa : Nat → Int32}
theorem r_end (h : rm G su tr R C U tu tl ki go wa ol hs so sr rs ce cp fa pa) (hs : sh R C) {j : Nat} (hj : j < nJ R C) : mc_ev X 123 0 [.ref 90, .int (nI j), .int 0, .null, .null] [] G = some (some (.int (nI (fs R C j))), G) ∧ mc_ev X 123 0 [.ref 90, .int (nI j), .int 1, .null, .null] [] G = some (some (.int (nI (sn R C j))), G) := by
  have hb := sh_b hs
  by_cases ha : j < nA R C
  · have h1 : nI j < nI (nA R C) := nI_lt ha (by omega)
    have hC : 2 ≤ C := by
      rcases Nat.lt_or_ge C 2 with q | q
      · have e : C - 1 = 0 := by omega
        unfold nA at ha
        rw [e] at ha
        omega
      · exact q
    have h2 : ¬ nI (C - 1) = 0 := nI_ne0 (by omega) (by have := hs.2.2.2.1; omega)
    have h3 : nI j / nI (C - 1) = nI (j / (C - 1)) := pk_div (by omega) (by omega) (by have := hs.2.2.2.1; omega)
    have h4 := md_n (j := j) (d := C - 1) (by omega)
    constructor
    · simp only [e_123, rm_f h, r_across h hs, h1, nI_m1 hs.2.2.1, h2, h3, pk_mul, h4, nI_add, Option.bind_some, Option.toList_some, Option.toList_none, List.cons_append, List.nil_append, List.append_nil, List.length_cons, List.length_nil, true_or, or_true, eq_self, b01_0, b01_1, b01_2, b01_3, b01_4, Nat.zero_le, Nat.reduceAdd, Nat.reduceLeDiff, ↓reduceIte, not_true_eq_false, not_false_eq_true, Bool.false_eq_true]
      unfold fs; rw [if_pos ha]
    · simp only [e_123, rm_f h, r_across h hs, h1, nI_m1 hs.2.2.1, h2, h3, pk_mul, h4, nI_add, nI_1, Option.bind_some, Option.toList_some, Option.toList_none, List.cons_append, List.nil_append, List.append_nil, List.length_cons, List.length_nil, true_or, or_true, eq_self, b01_0, b01_1, b01_2, b01_3, b01_4, Nat.zero_le, Nat.reduceAdd, Nat.reduceLeDiff, ↓reduceIte, not_true_eq_false, not_false_eq_true, Bool.false_eq_true]
      unfold sn; rw [if_pos ha]
  · have h1 : ¬ nI j < nI (nA R C) := nI_nlt (by omega) (by omega)
    have h2 : nI j - nI (nA R C) = nI (j - nA R C) := pk_sub (by omega)
    constructor
    · simp only [e_123, rm_f h, r_across h hs, h1, h2, Option.bind_some, Option.toList_some, Option.toList_none, List.cons_append, List.nil_append, List.append_nil, List.length_cons, List.length_nil, true_or, or_true, eq_self, b01_0, b01_1, b01_2, b01_3, b01_4, Nat.zero_le, Nat.reduceAdd, Nat.reduceLeDiff, ↓reduceIte, not_true_eq_false, not_false_eq_true, Bool.false_eq_true]
      unfold fs; rw [if_neg ha]
    · simp only [e_123, rm_f h, r_across h hs, h1, h2, nI_add, Option.bind_some, Option.toList_some, Option.toList_none, List.cons_append, List.nil_append, List.append_nil, List.length_cons, List.length_nil, true_or, or_true, eq_self, b01_0, b01_1, b01_2, b01_3, b01_4, Nat.zero_le, Nat.reduceAdd, Nat.reduceLeDiff, ↓reduceIte, not_true_eq_false, not_false_eq_true, Bool.false_eq_true]
      unfold sn; rw [if_neg ha]
theorem r_fieldAt (h : rm G su tr R C U tu tl ki go wa ol hs so sr rs ce cp fa pa) (hs : sh R C) (x y : Int32) : mc_ev X 124 0 [.ref 90, .int x, .int y] [] G = some (some (.int (if x < 0 ∨ y < 0 ∨ ¬ x < nI (R - 1) ∨ ¬ y < nI (C - 1) then nI (nF R C - 1) else x * nI (C - 1) + y)), G) := by
  have hb := sh_b hs
  have h1 : nI (nF R C) - 1 = nI (nF R C - 1) := nI_m1 (by omega)
  simp only [e_124, rm_f h, r_fields h hs, nI_m1 hs.1, nI_m1 hs.2.2.1, h1, Option.bind_some, Option.toList_some, Option.toList_none, List.cons_append, List.nil_append, List.append_nil, List.length_cons, List.length_nil, true_or, or_true, eq_self, b01_0, b01_1, b01_2, b01_3, b01_4, Nat.zero_le, Nat.reduceAdd, Nat.reduceLeDiff, ↓reduceIte, not_true_eq_false, not_false_eq_true, Bool.false_eq_true]
  by_cases a1 : x < 0
  · simp only [a1, Option.bind_some, Option.toList_some, Option.toList_none, List.cons_append, List.nil_append, List.append_nil, List.length_cons, List.length_nil, true_or, or_true, eq_self, b01_0, b01_1, b01_2, b01_3, b01_4, Nat.zero_le, Nat.reduceAdd, Nat.reduceLeDiff, ↓reduceIte, not_true_eq_false, not_false_eq_true, Bool.false_eq_true]
  · by_cases a2 : y < 0
    · simp only [a1, a2, Option.bind_some, Option.toList_some, Option.toList_none, List.cons_append, List.nil_append, List.append_nil, List.length_cons, List.length_nil, true_or, or_true, eq_self, b01_0, b01_1, b01_2, b01_3, b01_4, Nat.zero_le, Nat.reduceAdd, Nat.reduceLeDiff, ↓reduceIte, not_true_eq_false, not_false_eq_true, Bool.false_eq_true]
    · by_cases a3 : x < nI (R - 1)
      · by_cases a4 : y < nI (C - 1)
        · simp only [a1, a2, a3, a4, Option.bind_some, Option.toList_some, Option.toList_none, List.cons_append, List.nil_append, List.append_nil, List.length_cons, List.length_nil, true_or, or_true, eq_self, b01_0, b01_1, b01_2, b01_3, b01_4, Nat.zero_le, Nat.reduceAdd, Nat.reduceLeDiff, ↓reduceIte, not_true_eq_false, not_false_eq_true, Bool.false_eq_true, or_self]
        · simp only [a1, a2, a3, a4, Option.bind_some, Option.toList_some, Option.toList_none, List.cons_append, List.nil_append, List.append_nil, List.length_cons, List.length_nil, true_or, or_true, eq_self, b01_0, b01_1, b01_2, b01_3, b01_4, Nat.zero_le, Nat.reduceAdd, Nat.reduceLeDiff, ↓reduceIte, not_true_eq_false, not_false_eq_true, Bool.false_eq_true]
      · simp only [a1, a2, a3, Option.bind_some, Option.toList_some, Option.toList_none, List.cons_append, List.nil_append, List.append_nil, List.length_cons, List.length_nil, true_or, or_true, eq_self, b01_0, b01_1, b01_2, b01_3, b01_4, Nat.zero_le, Nat.reduceAdd, Nat.reduceLeDiff, ↓reduceIte, not_true_eq_false, not_false_eq_true, Bool.false_eq_true]
theorem fld_n {R C : Nat} (hs : sh R C) {r c : Nat} (hr : r ≤ 7) (hc : c ≤ 7) : (if nI r - 1 < 0 ∨ nI c - 1 < 0 ∨ ¬ nI r - 1 < nI (R - 1) ∨ ¬ nI c - 1 < nI (C - 1) then nI (nF R C - 1) else (nI r - 1) * nI (C - 1) + (nI c - 1)) = nI (fld R C r c) := by
  have h6 := hs.2.1
  have h7 := hs.2.2.2.1
  unfold fld
  by_cases a1 : r = 0
  · subst a1
    rw [if_pos (Or.inl (by decide)), if_pos (Or.inl rfl)]
  · by_cases a2 : c = 0
    · subst a2
      rw [if_pos (Or.inr (Or.inl (by decide))), if_pos (Or.inr (Or.inl rfl))]
    · rw [nI_m1 (by omega), nI_m1 (by omega)]
      have p1 : ¬ nI (r - 1) < 0 := nI_pos (by omega)
      have p2 : ¬ nI (c - 1) < 0 := nI_pos (by omega)
      by_cases a3 : R ≤ r
      · rw [if_pos (Or.inr (Or.inr (Or.inl (nI_nlt (by omega) (by omega))))), if_pos (Or.inr (Or.inr (Or.inl a3)))]
      · by_cases a4 : C ≤ c
        · rw [if_pos (Or.inr (Or.inr (Or.inr (nI_nlt (by omega) (by omega))))), if_pos (Or.inr (Or.inr (Or.inr a4)))]
        · have p3 : nI (r - 1) < nI (R - 1) := nI_lt (by omega) (by omega)
          have p4 : nI (c - 1) < nI (C - 1) := nI_lt (by omega) (by omega)
          rw [if_neg (by rintro (q | q | q | q) <;> first | exact p1 q | exact p2 q | exact q p3 | exact q p4), if_neg (by rintro (q | q | q | q) <;> omega), pk_mul, nI_add]
theorem nI_up (c : Nat) : nI c = nI (c + 1) - 1 := (nI_pred c).symm
theorem r_side (h : rm G su tr R C U tu tl ki go wa ol hs so sr rs ce cp fa pa) (hs : sh R C) {j : Nat} (hj : j < nJ R C) : mc_ev X 125 0 [.ref 90, .int (nI j), .int 0, .null, .null, .null] [] G = some (some (.int (nI (s1 R C j))), G) ∧ mc_ev X 125 0 [.ref 90, .int (nI j), .int 1, .null, .null, .null] [] G = some (some (.int (nI (s2 R C j))), G) := by
  have hb := sh_b hs
  have h6 := hs.2.2.2.1
  by_cases ha : j < nA R C
  · have h1 : nI j < nI (nA R C) := nI_lt ha (by omega)
    have hC : 2 ≤ C := by
      rcases Nat.lt_or_ge C 2 with q | q
      · have e : C - 1 = 0 := by omega
        unfold nA at ha
        rw [e] at ha
        omega
      · exact q
    have h2 : ¬ nI (C - 1) = 0 := nI_ne0 (by omega) (by omega)
    have h3 : nI j / nI (C - 1) = nI (j / (C - 1)) := pk_div (by omega) (by omega) (by omega)
    have h4 := md_n (j := j) (d := C - 1) (by omega)
    have b1 : j / (C - 1) < R := Nat.div_lt_of_lt_mul (by rw [Nat.mul_comm]; exact ha)
    have b2 : j % (C - 1) < C - 1 := Nat.mod_lt _ (by omega)
    have hr := hs.2.1
    have f1 := r_fieldAt (X := X) h hs (nI (j / (C - 1)) - 1) (nI (j % (C - 1)))
    have f2 := r_fieldAt (X := X) h hs (nI (j / (C - 1))) (nI (j % (C - 1)))
    rw [nI_up (j % (C - 1)), fld_n hs (by omega) (by omega), ← nI_up] at f1
    rw [nI_up (j / (C - 1)), nI_up (j % (C - 1)), fld_n hs (by omega) (by omega), ← nI_up, ← nI_up] at f2
    constructor
    · simp only [e_125, rm_f h, r_across h hs, h1, nI_m1 hs.2.2.1, h2, h3, pk_mul, h4, f1, Option.bind_some, Option.toList_some, Option.toList_none, List.cons_append, List.nil_append, List.append_nil, List.length_cons, List.length_nil, true_or, or_true, eq_self, b01_0, b01_1, b01_2, b01_3, b01_4, Nat.zero_le, Nat.reduceAdd, Nat.reduceLeDiff, ↓reduceIte, not_true_eq_false, not_false_eq_true, Bool.false_eq_true]
      unfold s1; rw [if_pos ha]
    · simp only [e_125, rm_f h, r_across h hs, h1, nI_m1 hs.2.2.1, h2, h3, pk_mul, h4, f2, Option.bind_some, Option.toList_some, Option.toList_none, List.cons_append, List.nil_append, List.append_nil, List.length_cons, List.length_nil, true_or, or_true, eq_self, b01_0, b01_1, b01_2, b01_3, b01_4, Nat.zero_le, Nat.reduceAdd, Nat.reduceLeDiff, ↓reduceIte, not_true_eq_false, not_false_eq_true, Bool.false_eq_true]
      unfold s2; rw [if_pos ha]
  · have h1 : ¬ nI j < nI (nA R C) := nI_nlt (by omega) (by omega)
    have h0 : nI j - nI (nA R C) = nI (j - nA R C) := pk_sub (by omega)
    have h2 : ¬ nI C = 0 := nI_ne0 (by have := hs.2.2.1; omega) (by omega)
    have h3 : nI (j - nA R C) / nI C = nI ((j - nA R C) / C) := pk_div (by omega) (by have := hs.2.2.1; omega) (by omega)
    have h4 := md_n (j := j - nA R C) (d := C) (by omega)
    have b2 : (j - nA R C) % C < C := Nat.mod_lt _ (by have := hs.2.2.1; omega)
    have hr := hs.2.1
    have b1 : (j - nA R C) / C < R - 1 := Nat.div_lt_of_lt_mul (by rw [Nat.mul_comm]; unfold nJ at hj; unfold nA at ha ⊢; omega)
    have f1 := r_fieldAt (X := X) h hs (nI ((j - nA R C) / C)) (nI ((j - nA R C) % C) - 1)
    have f2 := r_fieldAt (X := X) h hs (nI ((j - nA R C) / C)) (nI ((j - nA R C) % C))
    rw [nI_up ((j - nA R C) / C), fld_n hs (by omega) (by omega), ← nI_up] at f1
    rw [nI_up ((j - nA R C) / C), nI_up ((j - nA R C) % C), fld_n hs (by omega) (by omega), ← nI_up, ← nI_up] at f2
    constructor
    · simp only [e_125, rm_f h, r_across h hs, h1, h0, h2, h3, pk_mul, h4, f1, Option.bind_some, Option.toList_some, Option.toList_none, List.cons_append, List.nil_append, List.append_nil, List.length_cons, List.length_nil, true_or, or_true, eq_self, b01_0, b01_1, b01_2, b01_3, b01_4, Nat.zero_le, Nat.reduceAdd, Nat.reduceLeDiff, ↓reduceIte, not_true_eq_false, not_false_eq_true, Bool.false_eq_true]
      unfold s1; rw [if_neg ha]
    · simp only [e_125, rm_f h, r_across h hs, h1, h0, h2, h3, pk_mul, h4, f2, Option.bind_some, Option.toList_some, Option.toList_none, List.cons_append, List.nil_append, List.append_nil, List.length_cons, List.length_nil, true_or, or_true, eq_self, b01_0, b01_1, b01_2, b01_3, b01_4, Nat.zero_le, Nat.reduceAdd, Nat.reduceLeDiff, ↓reduceIte, not_true_eq_false, not_false_eq_true, Bool.false_eq_true]
      unfold s2; rw [if_neg ha]
theorem r_countsOf (h : rm G su tr R C U tu tl ki go wa ol hs so sr rs ce cp fa pa) (hs : sh R C) {j : Nat} (hj : j < nJ R C) : mc_ev X 126 0 [.ref 90, .int (nI j)] [] G = some (some (.int (ct R C wa ki j)), G) := by
  have hb := sh_b hs
  have hf := fs_b hs hj
  have h24 : j < 24 := by omega
  simp only [e_126, rm_f h, rm_g h, h24, r_end h hs hj, r_worthOf h (i := fs R C j) (by omega), r_worthOf h (i := sn R C j) (by omega), Option.bind_some, Option.toList_some, Option.toList_none, List.cons_append, List.nil_append, List.append_nil, List.length_cons, List.length_nil, true_or, or_true, eq_self, b01_0, b01_1, b01_2, b01_3, b01_4, Nat.zero_le, Nat.reduceAdd, Nat.reduceLeDiff, ↓reduceIte, not_true_eq_false, not_false_eq_true, Bool.false_eq_true]
  rfl
theorem r_amountOf (h : rm G su tr R C U tu tl ki go wa ol hs so sr rs ce cp fa pa) (hs : sh R C) {j : Nat} (hj : j < nJ R C) : mc_ev X 127 0 [.ref 90, .int (nI j), .null] [] G = some (some (.int (if ct R C wa ki j < 0 then -(ct R C wa ki j) else ct R C wa ki j)), G) := by
  simp only [e_127, rm_f h, r_countsOf h hs hj, Option.bind_some, Option.toList_some, Option.toList_none, List.cons_append, List.nil_append, List.append_nil, List.length_cons, List.length_nil, true_or, or_true, eq_self, b01_0, b01_1, b01_2, b01_3, b01_4, Nat.zero_le, Nat.reduceAdd, Nat.reduceLeDiff, ↓reduceIte, not_true_eq_false, not_false_eq_true, Bool.false_eq_true]
  by_cases a : ct R C wa ki j < 0 <;> simp only [a, Option.bind_some, Option.toList_some, Option.toList_none, List.cons_append, List.nil_append, List.append_nil, List.length_cons, List.length_nil, true_or, or_true, eq_self, b01_0, b01_1, b01_2, b01_3, b01_4, Nat.zero_le, Nat.reduceAdd, Nat.reduceLeDiff, ↓reduceIte, not_true_eq_false, not_false_eq_true, Bool.false_eq_true]
theorem r_bitOf {A N i : Nat} (hA : A < 2 ^ 31) (hN : N ≤ 12) (hi : i < N) : mc_ev X 128 0 [.int (nI A), .int (nI i), .int (nI N)] [] G = some (some (.int (nI (bt N A i))), G) := by
  have h1 : nI N - 1 = nI (N - 1) := nI_m1 (by omega)
  have h2 : nI (N - 1) - nI i = nI (N - 1 - i) := pk_sub (by omega)
  simp only [e_128, h1, h2, bit_n hA (d := N - 1 - i) (by omega), Option.bind_some, Option.toList_some, Option.toList_none, List.cons_append, List.nil_append, List.append_nil, List.length_cons, List.length_nil, true_or, or_true, eq_self, b01_0, b01_1, b01_2, b01_3, b01_4, Nat.zero_le, Nat.reduceAdd, Nat.reduceLeDiff, ↓reduceIte, not_true_eq_false, not_false_eq_true, Bool.false_eq_true]
  rfl
end REF
