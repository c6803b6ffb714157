/-! the class itself: tests of arguments, answers -/
theorem sf_n {G : mc_H} {k c : Nat} {fs : List Value} (h : G[k]? = some (.inr (.inr (c, fs)))) {j : Nat} {v : Value} (hj : j < fs.length) (hf : mc_fit (mc_ty c j) v = true) : mc_setf G k c j v = some (G.set k (.inr (.inr (c, fs.set j v)))) := by
  unfold mc_setf
  rw [h]
  dsimp only
  rw [if_pos ⟨rfl, hj, hf⟩]
theorem gs_self {G : mc_H} {k : Nat} {c c0 : mc_C} (h : G[k]? = some c0) : (G.set k c)[k]? = some c := by
  rw [List.getElem?_set_self (List.getElem?_eq_some_iff.mp h).1]
theorem gs_ne {G : mc_H} {k j : Nat} {c : mc_C} (h : k ≠ j) : (G.set k c)[j]? = G[j]? := List.getElem?_set_ne h
theorem ix_yes {i N : Nat} (hi : i < N) (hN : N < 2 ^ 31) : (0 ≤ nI i ∧ nI i ≤ nI N - 1) = True := eq_true ⟨nI_pos' (by omega), nI_le1 hN hi⟩
theorem ix_no {n : Int32} {N : Nat} (h1 : 1 ≤ N) (hN : N < 2 ^ 31) (h : n < 0 ∨ nI N ≤ n) : (0 ≤ n ∧ n ≤ nI N - 1) = False := by
  apply eq_false
  rintro ⟨a, b⟩
  rcases h with h | h
  · exact absurd a (Int32.not_le.mpr h)
  · rw [nI_m1 h1] at b
    rw [Int32.le_iff_toInt_le, nI_toInt (by omega)] at b h
    omega
theorem no_yes {i N : Nat} (hi : i < N) (hN : N < 2 ^ 31) : (nI i < 0 ∨ ¬ nI i < nI N) = False := eq_false (by rintro (q | q); exact nI_pos (by omega) q; exact q (nI_lt hi hN))
theorem no_no {n : Int32} {N : Nat} (h : n < 0 ∨ nI N ≤ n) : (n < 0 ∨ ¬ n < nI N) = True := eq_true (h.imp id (fun q => Int32.not_lt.mpr q))
theorem ix_of (n : Int32) {N : Nat} (hN : N < 2 ^ 31) : (n < 0 ∨ nI N ≤ n) ∨ ∃ j, j < N ∧ n = nI j := by
  rcases pk_ix n hN with h | h | h
  · exact Or.inl (Or.inl h)
  · exact Or.inl (Or.inr h)
  · exact Or.inr h
section TOP
variable {X : mc_X} {G : mc_H} {tr : Int64} {su : Int32}
theorem tp_f (h : tp G tr su) : mc_cls G 0 = some 7 ∧ mc_getf G 0 7 0 = some (.ref 1) ∧ mc_getf G 0 7 1 = some (.ref 10) ∧ mc_getf G 0 7 2 = some (.ref 72) ∧ mc_getf G 0 7 3 = some (.ref 74) ∧ mc_getf G 0 7 4 = some (.ref 77) ∧ mc_getf G 0 7 5 = some (.long tr) ∧ mc_getf G 0 7 6 = some (.int su) := ⟨cl_n h, gf_n h 0, gf_n h 1, gf_n h 2, gf_n h 3, gf_n h 4, gf_n h 5, gf_n h 6⟩
def top (tr : Int64) (su : Int32) : mc_C := .inr (.inr (7, [.ref 1, .ref 10, .ref 72, .ref 74, .ref 77, .long tr, .int su]))
theorem tp_w5 (h : tp G tr su) (t : Int64) : mc_setf G 0 7 5 (.long t) = some (G.set 0 (top t su)) := sf_n h (Nat.le_of_ble_eq_true rfl) rfl
theorem tp_w6 (h : tp G tr su) (s : Int32) : mc_setf G 0 7 6 (.int s) = some (G.set 0 (top tr s)) := sf_n h (Nat.le_of_ble_eq_true rfl) rfl
theorem tp_set (h : tp G tr su) (t : Int64) (s : Int32) : tp (G.set 0 (top t s)) t s := gs_self h
theorem c_refuse (h : tp G tr su) (s : Int32) : mc_ev X 104 0 [.ref 0, .int s] [] G = some (some (.int s), G.set 0 (top tr s)) := by
  simp only [e_104, tp_w6 h, Option.bind_some, Option.toList_some, Option.toList_none, List.cons_append, List.nil_append, List.append_nil, List.length_cons, List.length_nil, true_or, or_true, eq_self, b01_0, b01_1, b01_2, b01_3, b01_4, Nat.zero_le, Nat.reduceAdd, Nat.reduceLeDiff, ↓reduceIte, not_true_eq_false, not_false_eq_true, Bool.false_eq_true]
theorem c_accept (h : tp G tr su) (a : Int32) : mc_ev X 105 0 [.ref 0, .int a] [] G = some (some (.int a), G.set 0 (top tr 0)) := by
  simp only [e_105, tp_w6 h, Option.bind_some, Option.toList_some, Option.toList_none, List.cons_append, List.nil_append, List.append_nil, List.length_cons, List.length_nil, true_or, or_true, eq_self, b01_0, b01_1, b01_2, b01_3, b01_4, Nat.zero_le, Nat.reduceAdd, Nat.reduceLeDiff, ↓reduceIte, not_true_eq_false, not_false_eq_true, Bool.false_eq_true]
theorem c_asNumber (c : Prop) [Decidable c] : mc_ev X 103 0 [.int (if c then 1 else 0)] [] G = some (some (.int (if c then 1 else 0)), G) := by
  simp only [e_103, Option.bind_some, Option.toList_some, Option.toList_none, List.cons_append, List.nil_append, List.append_nil, List.length_cons, List.length_nil, true_or, or_true, eq_self, b01_0, b01_1, b01_2, b01_3, b01_4, Nat.zero_le, Nat.reduceAdd, Nat.reduceLeDiff, ↓reduceIte, not_true_eq_false, not_false_eq_true, Bool.false_eq_true]
  by_cases h : c <;> simp only [h, Option.bind_some, Option.toList_some, Option.toList_none, List.cons_append, List.nil_append, List.append_nil, List.length_cons, List.length_nil, true_or, or_true, eq_self, b01_0, b01_1, b01_2, b01_3, b01_4, Nat.zero_le, Nat.reduceAdd, Nat.reduceLeDiff, ↓reduceIte, not_true_eq_false, not_false_eq_true, Bool.false_eq_true]
theorem c_isNoStrip (n : Int32) : mc_ev X 101 0 [.int n] [] G = some (some (.int (if n < 0 ∨ ¬ n < nI 4 then 1 else 0)), G) := by
  have e : nI 4 = (4 : Int32) := rfl
  simp only [e_101, e, Option.bind_some, Option.toList_some, Option.toList_none, List.cons_append, List.nil_append, List.append_nil, List.length_cons, List.length_nil, true_or, or_true, eq_self, b01_0, b01_1, b01_2, b01_3, b01_4, Nat.zero_le, Nat.reduceAdd, Nat.reduceLeDiff, ↓reduceIte, not_true_eq_false, not_false_eq_true, Bool.false_eq_true]
  by_cases a : n < 0
  · simp only [a, Option.bind_some, Option.toList_some, Option.toList_none, List.cons_append, List.nil_append, List.append_nil, List.length_cons, List.length_nil, true_or, or_true, eq_self, b01_0, b01_1, b01_2, b01_3, b01_4, Nat.zero_le, Nat.reduceAdd, Nat.reduceLeDiff, ↓reduceIte, not_true_eq_false, not_false_eq_true, Bool.false_eq_true]
  · by_cases b : n < 4 <;> simp only [a, b, Option.bind_some, Option.toList_some, Option.toList_none, List.cons_append, List.nil_append, List.append_nil, List.length_cons, List.length_nil, true_or, or_true, eq_self, b01_0, b01_1, b01_2, b01_3, b01_4, Nat.zero_le, Nat.reduceAdd, Nat.reduceLeDiff, ↓reduceIte, not_true_eq_false, not_false_eq_true, Bool.false_eq_true, or_self]
theorem c_isNoSort (n : Int32) : mc_ev X 102 0 [.int n] [] G = some (some (.int (if n < 0 ∨ ¬ n < nI 3 then 1 else 0)), G) := by
  have e : nI 3 = (3 : Int32) := rfl
  simp only [e_102, e, Option.bind_some, Option.toList_some, Option.toList_none, List.cons_append, List.nil_append, List.append_nil, List.length_cons, List.length_nil, true_or, or_true, eq_self, b01_0, b01_1, b01_2, b01_3, b01_4, Nat.zero_le, Nat.reduceAdd, Nat.reduceLeDiff, ↓reduceIte, not_true_eq_false, not_false_eq_true, Bool.false_eq_true]
  by_cases a : n < 0
  · simp only [a, Option.bind_some, Option.toList_some, Option.toList_none, List.cons_append, List.nil_append, List.append_nil, List.length_cons, List.length_nil, true_or, or_true, eq_self, b01_0, b01_1, b01_2, b01_3, b01_4, Nat.zero_le, Nat.reduceAdd, Nat.reduceLeDiff, ↓reduceIte, not_true_eq_false, not_false_eq_true, Bool.false_eq_true]
  · by_cases b : n < 3 <;> simp only [a, b, Option.bind_some, Option.toList_some, Option.toList_none, List.cons_append, List.nil_append, List.append_nil, List.length_cons, List.length_nil, true_or, or_true, eq_self, b01_0, b01_1, b01_2, b01_3, b01_4, Nat.zero_le, Nat.reduceAdd, Nat.reduceLeDiff, ↓reduceIte, not_true_eq_false, not_false_eq_true, Bool.false_eq_true, or_self]
theorem c_isNoWant (n : Int32) : mc_ev X 100 0 [.int n] [] G = some (some (.int (if n < -1000 ∨ 1000 < n then 1 else 0)), G) := by
  simp only [e_100, Option.bind_some, Option.toList_some, Option.toList_none, List.cons_append, List.nil_append, List.append_nil, List.length_cons, List.length_nil, true_or, or_true, eq_self, b01_0, b01_1, b01_2, b01_3, b01_4, Nat.zero_le, Nat.reduceAdd, Nat.reduceLeDiff, ↓reduceIte, not_true_eq_false, not_false_eq_true, Bool.false_eq_true]
  by_cases a : n < -1000
  · simp only [a, Option.bind_some, Option.toList_some, Option.toList_none, List.cons_append, List.nil_append, List.append_nil, List.length_cons, List.length_nil, true_or, or_true, eq_self, b01_0, b01_1, b01_2, b01_3, b01_4, Nat.zero_le, Nat.reduceAdd, Nat.reduceLeDiff, ↓reduceIte, not_true_eq_false, not_false_eq_true, Bool.false_eq_true]
  · by_cases b : 1000 < n <;> simp only [a, b, Option.bind_some, Option.toList_some, Option.toList_none, List.cons_append, List.nil_append, List.append_nil, List.length_cons, List.length_nil, true_or, or_true, eq_self, b01_0, b01_1, b01_2, b01_3, b01_4, Nat.zero_le, Nat.reduceAdd, Nat.reduceLeDiff, ↓reduceIte, not_true_eq_false, not_false_eq_true, Bool.false_eq_true, or_self, or_false, false_or]
variable {R C rim TB OB LB : Nat} {fi se lo hi ks ws : Nat → Int32}
theorem c_isNoNeedle (h0 : tp G tr su) (h : pl G R C rim fi se lo hi TB OB LB ks ws) (n : Int32) : mc_ev X 96 0 [.ref 0, .int n] [] G = some (some (.int (if n < 0 ∨ ¬ n < nI (nN R C) then 1 else 0)), G) := by
  simp only [e_96, tp_f h0, pl_f h, Option.bind_some, Option.toList_some, Option.toList_none, List.cons_append, List.nil_append, List.append_nil, List.length_cons, List.length_nil, true_or, or_true, eq_self, b01_0, b01_1, b01_2, b01_3, b01_4, Nat.zero_le, Nat.reduceAdd, Nat.reduceLeDiff, ↓reduceIte, not_true_eq_false, not_false_eq_true, Bool.false_eq_true]
  by_cases a : n < 0
  · simp only [a, Option.bind_some, Option.toList_some, Option.toList_none, List.cons_append, List.nil_append, List.append_nil, List.length_cons, List.length_nil, true_or, or_true, eq_self, b01_0, b01_1, b01_2, b01_3, b01_4, Nat.zero_le, Nat.reduceAdd, Nat.reduceLeDiff, ↓reduceIte, not_true_eq_false, not_false_eq_true, Bool.false_eq_true]
  · by_cases b : n < nI (nN R C) <;> simp only [a, b, Option.bind_some, Option.toList_some, Option.toList_none, List.cons_append, List.nil_append, List.append_nil, List.length_cons, List.length_nil, true_or, or_true, eq_self, b01_0, b01_1, b01_2, b01_3, b01_4, Nat.zero_le, Nat.reduceAdd, Nat.reduceLeDiff, ↓reduceIte, not_true_eq_false, not_false_eq_true, Bool.false_eq_true, or_self]
theorem c_isNoJoint (h0 : tp G tr su) (h : pl G R C rim fi se lo hi TB OB LB ks ws) (n : Int32) : mc_ev X 97 0 [.ref 0, .int n] [] G = some (some (.int (if n < 0 ∨ ¬ n < nI (nJ R C) then 1 else 0)), G) := by
  simp only [e_97, tp_f h0, pl_f h, Option.bind_some, Option.toList_some, Option.toList_none, List.cons_append, List.nil_append, List.append_nil, List.length_cons, List.length_nil, true_or, or_true, eq_self, b01_0, b01_1, b01_2, b01_3, b01_4, Nat.zero_le, Nat.reduceAdd, Nat.reduceLeDiff, ↓reduceIte, not_true_eq_false, not_false_eq_true, Bool.false_eq_true]
  by_cases a : n < 0
  · simp only [a, Option.bind_some, Option.toList_some, Option.toList_none, List.cons_append, List.nil_append, List.append_nil, List.length_cons, List.length_nil, true_or, or_true, eq_self, b01_0, b01_1, b01_2, b01_3, b01_4, Nat.zero_le, Nat.reduceAdd, Nat.reduceLeDiff, ↓reduceIte, not_true_eq_false, not_false_eq_true, Bool.false_eq_true]
  · by_cases b : n < nI (nJ R C) <;> simp only [a, b, Option.bind_some, Option.toList_some, Option.toList_none, List.cons_append, List.nil_append, List.append_nil, List.length_cons, List.length_nil, true_or, or_true, eq_self, b01_0, b01_1, b01_2, b01_3, b01_4, Nat.zero_le, Nat.reduceAdd, Nat.reduceLeDiff, ↓reduceIte, not_true_eq_false, not_false_eq_true, Bool.false_eq_true, or_self]
theorem c_isNoField (h0 : tp G tr su) (h : pl G R C rim fi se lo hi TB OB LB ks ws) (n : Int32) : mc_ev X 98 0 [.ref 0, .int n] [] G = some (some (.int (if n < 0 ∨ ¬ n < nI (nF R C) then 1 else 0)), G) := by
  simp only [e_98, tp_f h0, pl_f h, Option.bind_some, Option.toList_some, Option.toList_none, List.cons_append, List.nil_append, List.append_nil, List.length_cons, List.length_nil, true_or, or_true, eq_self, b01_0, b01_1, b01_2, b01_3, b01_4, Nat.zero_le, Nat.reduceAdd, Nat.reduceLeDiff, ↓reduceIte, not_true_eq_false, not_false_eq_true, Bool.false_eq_true]
  by_cases a : n < 0
  · simp only [a, Option.bind_some, Option.toList_some, Option.toList_none, List.cons_append, List.nil_append, List.append_nil, List.length_cons, List.length_nil, true_or, or_true, eq_self, b01_0, b01_1, b01_2, b01_3, b01_4, Nat.zero_le, Nat.reduceAdd, Nat.reduceLeDiff, ↓reduceIte, not_true_eq_false, not_false_eq_true, Bool.false_eq_true]
  · by_cases b : n < nI (nF R C) <;> simp only [a, b, Option.bind_some, Option.toList_some, Option.toList_none, List.cons_append, List.nil_append, List.append_nil, List.length_cons, List.length_nil, true_or, or_true, eq_self, b01_0, b01_1, b01_2, b01_3, b01_4, Nat.zero_le, Nat.reduceAdd, Nat.reduceLeDiff, ↓reduceIte, not_true_eq_false, not_false_eq_true, Bool.false_eq_true, or_self]
theorem c_isNoArrangement {L : Nat} {xs : Nat → Int32} (h0 : tp G tr su) (h : pl G R C rim fi se lo hi TB OB LB ks ws) (hs : sh R C) (n : Int32) : mc_ev (mc_X0 L xs) 99 0 [.ref 0, .int n] [] G = some (some (.int (if n < 0 ∨ ¬ n < nI (2 ^ nN R C) then 1 else 0)), G) := by
  simp only [e_99, tp_f h0, pl_f h, c_arrangements h hs, Option.bind_some, Option.toList_some, Option.toList_none, List.cons_append, List.nil_append, List.append_nil, List.length_cons, List.length_nil, true_or, or_true, eq_self, b01_0, b01_1, b01_2, b01_3, b01_4, Nat.zero_le, Nat.reduceAdd, Nat.reduceLeDiff, ↓reduceIte, not_true_eq_false, not_false_eq_true, Bool.false_eq_true]
  by_cases a : n < 0
  · simp only [a, Option.bind_some, Option.toList_some, Option.toList_none, List.cons_append, List.nil_append, List.append_nil, List.length_cons, List.length_nil, true_or, or_true, eq_self, b01_0, b01_1, b01_2, b01_3, b01_4, Nat.zero_le, Nat.reduceAdd, Nat.reduceLeDiff, ↓reduceIte, not_true_eq_false, not_false_eq_true, Bool.false_eq_true]
  · by_cases b : n < nI (2 ^ nN R C) <;> simp only [a, b, Option.bind_some, Option.toList_some, Option.toList_none, List.cons_append, List.nil_append, List.append_nil, List.length_cons, List.length_nil, true_or, or_true, eq_self, b01_0, b01_1, b01_2, b01_3, b01_4, Nat.zero_le, Nat.reduceAdd, Nat.reduceLeDiff, ↓reduceIte, not_true_eq_false, not_false_eq_true, Bool.false_eq_true, or_self]
end TOP
