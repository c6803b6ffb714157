/-! the reference: its cells, what it reads -/
def rm (G : mc_H) (su : Int32) (tr : Int64) (R C U : Nat) (tu tl ki go wa ol hs so sr rs ce cp fa pa : Nat → Int32) : Prop :=
  G[90]? = some (.inr (.inr (8, [.int 0, .int su, .long tr, .int (nI R), .int (nI C), .ref 91, .ref 92, .ref 93, .ref 94, .ref 95, .ref 96, .int (nI U), .ref 97, .ref 98, .ref 99, .ref 100, .ref 101, .ref 102, .ref 103, .ref 104]))) ∧
  G[91]? = some (.inl (0, 12, tu)) ∧ G[92]? = some (.inl (0, 12, tl)) ∧ G[93]? = some (.inl (0, 12, ki)) ∧ G[94]? = some (.inl (1, 12, go)) ∧ G[95]? = some (.inl (0, 24, wa)) ∧ G[96]? = some (.inl (0, 1440, ol)) ∧
  G[97]? = some (.inl (1, 4, hs)) ∧ G[98]? = some (.inl (0, 4, so)) ∧ G[99]? = some (.inl (0, 4, sr)) ∧ G[100]? = some (.inl (0, 16, rs)) ∧ G[101]? = some (.inl (0, 192, ce)) ∧ G[102]? = some (.inl (0, 12, cp)) ∧ G[103]? = some (.inl (0, 64, fa)) ∧ G[104]? = some (.inl (0, 4096, pa))
section REF
variable {X : mc_X} {G : mc_H} {su : Int32} {tr : Int64} {R C U : Nat} {tu tl ki go wa ol hs so sr rs ce cp fa pa : Nat → Int32}
theorem rm_f (h : rm G su tr R C U tu tl ki go wa ol hs so sr rs ce cp fa pa) : mc_cls G 90 = some 8 ∧ (mc_getf G 90 8 0 = some (.int 0) ∧ mc_getf G 90 8 1 = some (.int su) ∧ mc_getf G 90 8 2 = some (.long tr) ∧ mc_getf G 90 8 3 = some (.int (nI R)) ∧ mc_getf G 90 8 4 = some (.int (nI C)) ∧ mc_getf G 90 8 5 = some (.ref 91) ∧ mc_getf G 90 8 6 = some (.ref 92) ∧ mc_getf G 90 8 7 = some (.ref 93) ∧ mc_getf G 90 8 8 = some (.ref 94) ∧ mc_getf G 90 8 9 = some (.ref 95) ∧ mc_getf G 90 8 10 = some (.ref 96) ∧ mc_getf G 90 8 11 = some (.int (nI U)) ∧ mc_getf G 90 8 12 = some (.ref 97) ∧ mc_getf G 90 8 13 = some (.ref 98) ∧ mc_getf G 90 8 14 = some (.ref 99) ∧ mc_getf G 90 8 15 = some (.ref 100) ∧ mc_getf G 90 8 16 = some (.ref 101) ∧ mc_getf G 90 8 17 = some (.ref 102) ∧ mc_getf G 90 8 18 = some (.ref 103) ∧ mc_getf G 90 8 19 = some (.ref 104)) := by
  have h := h.1
  exact ⟨cl_n h, gf_n h 0, gf_n h 1, gf_n h 2, gf_n h 3, gf_n h 4, gf_n h 5, gf_n h 6, gf_n h 7, gf_n h 8, gf_n h 9, gf_n h 10, gf_n h 11, gf_n h 12, gf_n h 13, gf_n h 14, gf_n h 15, gf_n h 16, gf_n h 17, gf_n h 18, gf_n h 19⟩
theorem rm_g (h : rm G su tr R C U tu tl ki go wa ol hs so sr rs ce cp fa pa) : (∀ j, j < 12 → mc_getA X G 0 (.ref 91) (nI j) = some (tu j)) ∧ (∀ j, j < 12 → mc_getA X G 0 (.ref 92) (nI j) = some (tl j)) ∧ (∀ j, j < 12 → mc_getA X G 0 (.ref 93) (nI j) = some (ki j)) ∧ (∀ j, j < 12 → mc_getA X G 1 (.ref 94) (nI j) = some (go j)) ∧ (∀ j, j < 24 → mc_getA X G 0 (.ref 95) (nI j) = some (wa j)) := by
  obtain ⟨-, h1, h2, h3, h4, h5, -⟩ := h
  exact ⟨ga_n h1 (by decide), ga_n h2 (by decide), ga_n h3 (by decide), ga_n h4 (by decide), ga_n h5 (by decide)⟩
theorem set_same {G : mc_H} {k : Nat} {c : mc_C} (h : G[k]? = some c) : G.set k c = G := by
  apply List.ext_getElem?
  intro i
  rw [List.getElem?_set]
  by_cases hk : k = i
  · subst hk
    rw [if_pos rfl, if_pos (List.getElem?_eq_some_iff.mp h).1, h]
  · rw [if_neg hk]
theorem rm_t (h : rm G su tr R C U tu tl ki go wa ol hs so sr rs ce cp fa pa) : mc_setf G 90 8 0 (.int 0) = some G := by
  have h := h.1
  unfold mc_setf
  rw [h]
  dsimp only
  rw [if_pos ⟨rfl, Nat.le_of_ble_eq_true rfl, rfl⟩]
  exact congrArg some (set_same h)
theorem r_in (v a b : Int32) : mc_ev X 112 0 [.int v, .int a, .int b] [] G = some (some (.int (if a ≤ v ∧ v ≤ b then 1 else 0)), G) := by
  simp only [e_112, true_or, or_true]
  by_cases h1 : v < a
  · rw [if_pos h1, if_neg (fun q => absurd q.1 (Int32.not_le.mpr h1))]
  · rw [if_neg h1]
    by_cases h2 : b < v
    · rw [if_pos h2, if_neg (fun q => absurd q.2 (Int32.not_le.mpr h2))]
    · rw [if_neg h2, if_pos ⟨Int32.not_lt.mp h1, Int32.not_lt.mp h2⟩]
theorem r_needles (h : rm G su tr R C U tu tl ki go wa ol hs so sr rs ce cp fa pa) : mc_ev X 113 0 [.ref 90] [] G = some (some (.int (nI (nN R C))), G) := by
  simp only [e_113, rm_f h, Option.bind_some, Option.toList_some, Option.toList_none, List.cons_append, List.nil_append, List.append_nil, List.length_cons, List.length_nil, true_or, or_true, eq_self, b01_0, b01_1, b01_2, b01_3, b01_4, Nat.zero_le, Nat.reduceAdd, Nat.reduceLeDiff, ↓reduceIte, not_true_eq_false, not_false_eq_true, Bool.false_eq_true, pk_mul]; rfl
theorem r_across (h : rm G su tr R C U tu tl ki go wa ol hs so sr rs ce cp fa pa) (hs : sh R C) : mc_ev X 114 0 [.ref 90] [] G = some (some (.int (nI (nA R C))), G) := by
  simp only [e_114, rm_f h, Option.bind_some, Option.toList_some, Option.toList_none, List.cons_append, List.nil_append, List.append_nil, List.length_cons, List.length_nil, true_or, or_true, eq_self, b01_0, b01_1, b01_2, b01_3, b01_4, Nat.zero_le, Nat.reduceAdd, Nat.reduceLeDiff, ↓reduceIte, not_true_eq_false, not_false_eq_true, Bool.false_eq_true, nI_m1 hs.2.2.1, pk_mul]; rfl
theorem r_joints (h : rm G su tr R C U tu tl ki go wa ol hs so sr rs ce cp fa pa) (hs : sh R C) : mc_ev X 115 0 [.ref 90] [] G = some (some (.int (nI (nJ R C))), G) := by
  simp only [e_115, rm_f h, r_across h hs, Option.bind_some, Option.toList_some, Option.toList_none, List.cons_append, List.nil_append, List.append_nil, List.length_cons, List.length_nil, true_or, or_true, eq_self, b01_0, b01_1, b01_2, b01_3, b01_4, Nat.zero_le, Nat.reduceAdd, Nat.reduceLeDiff, ↓reduceIte, not_true_eq_false, not_false_eq_true, Bool.false_eq_true, nI_m1 hs.1, pk_mul, nI_add]; rfl
theorem r_fields (h : rm G su tr R C U tu tl ki go wa ol hs so sr rs ce cp fa pa) (hs : sh R C) : mc_ev X 116 0 [.ref 90] [] G = some (some (.int (nI (nF R C))), G) := by
  simp only [e_116, rm_f h, Option.bind_some, Option.toList_some, Option.toList_none, List.cons_append, List.nil_append, List.append_nil, List.length_cons, List.length_nil, true_or, or_true, eq_self, b01_0, b01_1, b01_2, b01_3, b01_4, Nat.zero_le, Nat.reduceAdd, Nat.reduceLeDiff, ↓reduceIte, not_true_eq_false, not_false_eq_true, Bool.false_eq_true, nI_m1 hs.1, nI_m1 hs.2.2.1, pk_mul, nI_1]; rfl
theorem r_isNeedle (h : rm G su tr R C U tu tl ki go wa ol hs so sr rs ce cp fa pa) (n : Int32) : mc_ev X 117 0 [.ref 90, .int n] [] G = some (some (.int (if 0 ≤ n ∧ n ≤ nI (nN R C) - 1 then 1 else 0)), G) := by
  simp only [e_117, rm_f h, r_needles h, r_in, Option.bind_some, Option.toList_some, Option.toList_none, List.cons_append, List.nil_append, List.append_nil, List.length_cons, List.length_nil, true_or, or_true, eq_self, b01_0, b01_1, b01_2, b01_3, b01_4, Nat.zero_le, Nat.reduceAdd, Nat.reduceLeDiff, ↓reduceIte, not_true_eq_false, not_false_eq_true, Bool.false_eq_true]
theorem r_isJoint (h : rm G su tr R C U tu tl ki go wa ol hs so sr rs ce cp fa pa) (hs : sh R C) (n : Int32) : mc_ev X 118 0 [.ref 90, .int n] [] G = some (some (.int (if 0 ≤ n ∧ n ≤ nI (nJ R C) - 1 then 1 else 0)), G) := by
  simp only [e_118, rm_f h, r_joints h hs, r_in, Option.bind_some, Option.toList_some, Option.toList_none, List.cons_append, List.nil_append, List.append_nil, List.length_cons, List.length_nil, true_or, or_true, eq_self, b01_0, b01_1, b01_2, b01_3, b01_4, Nat.zero_le, Nat.reduceAdd, Nat.reduceLeDiff, ↓reduceIte, not_true_eq_false, not_false_eq_true, Bool.false_eq_true]
theorem r_isHeld (h : rm G su tr R C U tu tl ki go wa ol hs so sr rs ce cp fa pa) {i : Nat} (hi : i < 12) : mc_ev X 120 0 [.ref 90, .int (nI i)] [] G = some (some (.int (if hb ki go i then 1 else 0)), G) := by
  simp only [e_120, rm_f h, rm_g h, hi, Option.bind_some, Option.toList_some, Option.toList_none, List.cons_append, List.nil_append, List.append_nil, List.length_cons, List.length_nil, true_or, or_true, eq_self, b01_0, b01_1, b01_2, b01_3, b01_4, Nat.zero_le, Nat.reduceAdd, Nat.reduceLeDiff, ↓reduceIte, not_true_eq_false, not_false_eq_true, Bool.false_eq_true]
  unfold hb
  by_cases h1 : ki i = 1
  · simp [h1]
  · by_cases h4 : ki i = 4
    · by_cases h5 : go i = 0 <;> simp [h1, h4, h5]
    · simp [h1, h4]
theorem r_pointOf (h : rm G su tr R C U tu tl ki go wa ol hs so sr rs ce cp fa pa) {i : Nat} (hi : i < 12) : mc_ev X 121 0 [.ref 90, .int (nI i)] [] G = some (some (.int (if hb ki go i then tl i else tu i)), G) := by
  simp only [e_121, rm_f h, rm_g h, hi, r_isHeld h hi, Option.bind_some, Option.toList_some, Option.toList_none, List.cons_append, List.nil_append, List.append_nil, List.length_cons, List.length_nil, true_or, or_true, eq_self, b01_0, b01_1, b01_2, b01_3, b01_4, Nat.zero_le, Nat.reduceAdd, Nat.reduceLeDiff, ↓reduceIte, not_true_eq_false, not_false_eq_true, Bool.false_eq_true]
  by_cases h1 : hb ki go i = true <;> simp only [h1, Option.bind_some, Option.toList_some, Option.toList_none, List.cons_append, List.nil_append, List.append_nil, List.length_cons, List.length_nil, true_or, or_true, eq_self, b01_0, b01_1, b01_2, b01_3, b01_4, Nat.zero_le, Nat.reduceAdd, Nat.reduceLeDiff, ↓reduceIte, not_true_eq_false, not_false_eq_true, Bool.false_eq_true]
theorem r_worthOf (h : rm G su tr R C U tu tl ki go wa ol hs so sr rs ce cp fa pa) {i : Nat} (hi : i < 12) : mc_ev X 122 0 [.ref 90, .int (nI i)] [] G = some (some (.int (wo (ki i))), G) := by
  simp only [e_122, rm_f h, rm_g h, hi, Option.bind_some, Option.toList_some, Option.toList_none, List.cons_append, List.nil_append, List.append_nil, List.length_cons, List.length_nil, true_or, or_true, eq_self, b01_0, b01_1, b01_2, b01_3, b01_4, Nat.zero_le, Nat.reduceAdd, Nat.reduceLeDiff, ↓reduceIte, not_true_eq_false, not_false_eq_true, Bool.false_eq_true]
  unfold wo
  by_cases h1 : ki i = 2
  · simp [h1]
  · by_cases h2 : ki i = 3 <;> simp [h1, h2]
end REF
