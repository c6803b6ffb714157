/-! strips: the class's methods -/
theorem fl_up {f : Nat → Int32} (v : Int32) (i : Nat) : upd (fun j => if j < i then v else f j) i v = fun j => if j < i + 1 then v else f j := by
  funext j
  by_cases c : j = i
  · subst c; rw [pk_us, if_pos (by omega)]
  · rw [pk_un c]
    by_cases c2 : j < i
    · rw [if_pos c2, if_pos (by omega)]
    · rw [if_neg c2, if_neg (by omega)]
theorem j_fill {X : mc_X} {G : mc_H} {a n : Nat} {f : Nat → Int32} (h : G[a]? = some (.inl (0, n, f))) (hn : n < 2 ^ 31) (v : Int32) : mc_ev X 179 0 [.ref a, .int v, .null, .null] [] G = some (none, G.set a (.inl (0, n, fun j => if j < n then v else f j))) := by
  have e0 : mc_len X G (.ref a) = some (nI n) := by
    unfold mc_len
    dsimp only
    rw [h]
    rfl
  have h0 : mc_ev X 179 0 [.ref a, .int v, .null, .null] [] G = mc_ev X 179 5 [.ref a, .int v, .int 0, .int (nI n)] [] G := by
    simp only [e_179, e0, Option.bind_some, Option.toList_some, Option.toList_none, List.cons_append, List.nil_append, List.append_nil, List.length_cons, List.length_nil, true_or, or_true, eq_self, b01_0, b01_1, b01_2, b01_3, b01_4, Nat.zero_le, Nat.reduceAdd, Nat.reduceLeDiff, ↓reduceIte, not_true_eq_false, not_false_eq_true, Bool.false_eq_true]
  have hl := ev_loop (X := X) (k := 179) (pc := 5) (fun i => [.ref a, .int v, .int (nI i), .int (nI n)]) (fun i => G.set a (.inl (0, n, fun j => if j < i then v else f j))) n (by
    intro i hin
    have h1 : nI i < nI n := nI_lt hin hn
    have w := sa_n (gs_self (c := .inl (0, n, fun j => if j < i then v else f j)) h) hn i v hin
    rw [List.set_set, fl_up] at w
    rw [h_179_5]
    simp only [e_179, h1, w, nI_1, Option.bind_some, Option.toList_some, Option.toList_none, List.cons_append, List.nil_append, List.append_nil, List.length_cons, List.length_nil, true_or, or_true, eq_self, b01_0, b01_1, b01_2, b01_3, b01_4, Nat.zero_le, Nat.reduceAdd, Nat.reduceLeDiff, ↓reduceIte, not_true_eq_false, not_false_eq_true, Bool.false_eq_true])
  have k2 : ¬ nI n < nI n := nI_nlt (Nat.le_refl _) hn
  have e1 : G.set a (.inl (0, n, fun j => if j < 0 then v else f j)) = G := by
    have : (fun j => if j < 0 then v else f j) = f := by funext j; exact if_neg (by omega)
    rw [this]; exact set_same h
  have hl2 : mc_ev X 179 5 [.ref a, .int v, .int (nI 0), .int (nI n)] [] (G.set a (.inl (0, n, fun j => if j < 0 then v else f j))) = _ := hl
  rw [e1] at hl2
  rw [h0]
  refine Eq.trans hl2 ?_
  rw [h_179_5]
  simp only [e_179, k2, Option.bind_some, Option.toList_some, Option.toList_none, List.cons_append, List.nil_append, List.append_nil, List.length_cons, List.length_nil, true_or, or_true, eq_self, b01_0, b01_1, b01_2, b01_3, b01_4, Nat.zero_le, Nat.reduceAdd, Nat.reduceLeDiff, ↓reduceIte, not_true_eq_false, not_false_eq_true, Bool.false_eq_true]
/-- the cell of a strip -/
def kc (s r : Int32) (c d : Nat) : mc_C := .inr (.inr (6, [.int s, .int r, .ref c, .ref d]))
def sk (G : mc_H) (b c d : Nat) (s r : Int32) (l n : Nat → Int32) : Prop := G[b]? = some (kc s r c d) ∧ G[c]? = some (.inl (0, 4, l)) ∧ G[d]? = some (.inl (0, 48, n))
theorem c12 (u : Nat) : nI u * 12 = nI (u * 12) := pk_mul u 12
theorem look59 {X : mc_X} {ls st : List Value} {G : mc_H} : mc_ev X 59 4 ls (.int 0 :: st) G = mc_ev X 59 32 ls st G ∧ mc_ev X 59 4 ls (.int 1 :: st) G = mc_ev X 59 35 ls st G ∧ mc_ev X 59 4 ls (.int 2 :: st) G = mc_ev X 59 38 ls st G := ⟨ev_look rfl (by decide) rfl, ev_look rfl (by decide) rfl, ev_look rfl (by decide) rfl⟩
/-- a number as its sort has it -/
def asS (m : Nat) (v : Int32) : Int32 := if m = 0 then v.toInt8.toInt32 else if m = 1 then v.toInt16.toInt32 else v
section SK
variable {X : mc_X} {G : mc_H} {b c d : Nat} {s r : Int32} {l n : Nat → Int32}
theorem sk_f (h : sk G b c d s r l n) : (mc_cls G b = some 6 ∧ mc_getf G b 6 0 = some (.int s) ∧ mc_getf G b 6 1 = some (.int r) ∧ mc_getf G b 6 2 = some (.ref c) ∧ mc_getf G b 6 3 = some (.ref d)) ∧ (∀ j, j < 4 → mc_getA X G 0 (.ref c) (nI j) = some (l j)) ∧ (∀ j, j < 48 → mc_getA X G 0 (.ref d) (nI j) = some (n j)) := ⟨⟨cl_n h.1, gf_n h.1 0, gf_n h.1 1, gf_n h.1 2, gf_n h.1 3⟩, ga_n h.2.1 (by decide), ga_n h.2.2 (by decide)⟩
theorem k_isAbsent (h : sk G b c d s r l n) : mc_ev X 49 0 [.ref b] [] G = some (some (.int (if r = -1 then 1 else 0)), G) := by
  simp only [e_49, sk_f (X := X) h, Option.bind_some, Option.toList_some, Option.toList_none, List.cons_append, List.nil_append, List.append_nil, List.length_cons, List.length_nil, true_or, or_true, eq_self, b01_0, b01_1, b01_2, b01_3, b01_4, Nat.zero_le, Nat.reduceAdd, Nat.reduceLeDiff, ↓reduceIte, not_true_eq_false, not_false_eq_true, Bool.false_eq_true]
  by_cases q : r = -1 <;> simp only [q, Option.bind_some, Option.toList_some, Option.toList_none, List.cons_append, List.nil_append, List.append_nil, List.length_cons, List.length_nil, true_or, or_true, eq_self, b01_0, b01_1, b01_2, b01_3, b01_4, Nat.zero_le, Nat.reduceAdd, Nat.reduceLeDiff, ↓reduceIte, not_true_eq_false, not_false_eq_true, Bool.false_eq_true]
theorem k_lacksRow (h : sk G b c d s r l n) (x : Int32) : mc_ev X 51 0 [.ref b, .int x] [] G = some (some (.int (if x < 0 ∨ ¬ x < r then 1 else 0)), G) := by
  simp only [e_51, sk_f (X := X) h, Option.bind_some, Option.toList_some, Option.toList_none, List.cons_append, List.nil_append, List.append_nil, List.length_cons, List.length_nil, true_or, or_true, eq_self, b01_0, b01_1, b01_2, b01_3, b01_4, Nat.zero_le, Nat.reduceAdd, Nat.reduceLeDiff, ↓reduceIte, not_true_eq_false, not_false_eq_true, Bool.false_eq_true]
  by_cases a : x < 0
  · simp only [a, Option.bind_some, Option.toList_some, Option.toList_none, List.cons_append, List.nil_append, List.append_nil, List.length_cons, List.length_nil, true_or, or_true, eq_self, b01_0, b01_1, b01_2, b01_3, b01_4, Nat.zero_le, Nat.reduceAdd, Nat.reduceLeDiff, ↓reduceIte, not_true_eq_false, not_false_eq_true, Bool.false_eq_true]
  · by_cases q : x < r <;> simp only [a, q, Option.bind_some, Option.toList_some, Option.toList_none, List.cons_append, List.nil_append, List.append_nil, List.length_cons, List.length_nil, true_or, or_true, eq_self, b01_0, b01_1, b01_2, b01_3, b01_4, Nat.zero_le, Nat.reduceAdd, Nat.reduceLeDiff, ↓reduceIte, not_true_eq_false, not_false_eq_true, Bool.false_eq_true, or_self]
theorem k_isMissing (h : sk G b c d s r l n) {j : Nat} (hj : j < 4) : mc_ev X 52 0 [.ref b, .int (nI j)] [] G = some (some (.int (if l j = -1 then 1 else 0)), G) := by
  simp only [e_52, sk_f (X := X) h, hj, Option.bind_some, Option.toList_some, Option.toList_none, List.cons_append, List.nil_append, List.append_nil, List.length_cons, List.length_nil, true_or, or_true, eq_self, b01_0, b01_1, b01_2, b01_3, b01_4, Nat.zero_le, Nat.reduceAdd, Nat.reduceLeDiff, ↓reduceIte, not_true_eq_false, not_false_eq_true, Bool.false_eq_true]
  by_cases q : l j = -1 <;> simp only [q, Option.bind_some, Option.toList_some, Option.toList_none, List.cons_append, List.nil_append, List.append_nil, List.length_cons, List.length_nil, true_or, or_true, eq_self, b01_0, b01_1, b01_2, b01_3, b01_4, Nat.zero_le, Nat.reduceAdd, Nat.reduceLeDiff, ↓reduceIte, not_true_eq_false, not_false_eq_true, Bool.false_eq_true]
theorem k_placeOf {j p : Nat} : mc_ev X 54 0 [.ref b, .int (nI j), .int (nI p)] [] G = some (some (.int (nI (j * 12 + p))), G) := by
  simp only [e_54, c12, nI_add, Option.bind_some, Option.toList_some, Option.toList_none, List.cons_append, List.nil_append, List.append_nil, List.length_cons, List.length_nil, true_or, or_true, eq_self, b01_0, b01_1, b01_2, b01_3, b01_4, Nat.zero_le, Nat.reduceAdd, Nat.reduceLeDiff, ↓reduceIte, not_true_eq_false, not_false_eq_true, Bool.false_eq_true]
theorem k_numberAt (h : sk G b c d s r l n) {j p : Nat} (hj : j < 4) (hp : p < 12) : mc_ev X 55 0 [.ref b, .int (nI j), .int (nI p)] [] G = some (some (.int (n (12 * j + p))), G) := by
  have hx : j * 12 + p < 48 := by omega
  simp only [e_55, sk_f (X := X) h, k_placeOf, hx, Option.bind_some, Option.toList_some, Option.toList_none, List.cons_append, List.nil_append, List.append_nil, List.length_cons, List.length_nil, true_or, or_true, eq_self, b01_0, b01_1, b01_2, b01_3, b01_4, Nat.zero_le, Nat.reduceAdd, Nat.reduceLeDiff, ↓reduceIte, not_true_eq_false, not_false_eq_true, Bool.false_eq_true]
  rw [Nat.mul_comm]
theorem k_find1 (h : sk G b c d s r l n) {x : Int32} (y : Int32) (hx : x < 0 ∨ ¬ x < r) : mc_ev X 56 0 [.ref b, .int x, .int y] [] G = some (some (.int (-12)), G) := by
  simp only [e_56, sk_f (X := X) h, k_lacksRow h, hx, Option.bind_some, Option.toList_some, Option.toList_none, List.cons_append, List.nil_append, List.append_nil, List.length_cons, List.length_nil, true_or, or_true, eq_self, b01_0, b01_1, b01_2, b01_3, b01_4, Nat.zero_le, Nat.reduceAdd, Nat.reduceLeDiff, ↓reduceIte, not_true_eq_false, not_false_eq_true, Bool.false_eq_true]
theorem k_find2 (h : sk G b c d s r l n) {j : Nat} (y : Int32) (hj : j < 4) (hx : ¬ (nI j < 0 ∨ ¬ nI j < r)) : mc_ev X 56 0 [.ref b, .int (nI j), .int y] [] G = some (some (.int (if l j = -1 then -11 else if y < 0 ∨ ¬ y < l j then -12 else 0)), G) := by
  simp only [e_56, sk_f (X := X) h, k_lacksRow h, hx, k_isMissing h hj, hj, Option.bind_some, Option.toList_some, Option.toList_none, List.cons_append, List.nil_append, List.append_nil, List.length_cons, List.length_nil, true_or, or_true, eq_self, b01_0, b01_1, b01_2, b01_3, b01_4, Nat.zero_le, Nat.reduceAdd, Nat.reduceLeDiff, ↓reduceIte, not_true_eq_false, not_false_eq_true, Bool.false_eq_true]
  by_cases q : l j = -1
  · simp only [q, Option.bind_some, Option.toList_some, Option.toList_none, List.cons_append, List.nil_append, List.append_nil, List.length_cons, List.length_nil, true_or, or_true, eq_self, b01_0, b01_1, b01_2, b01_3, b01_4, Nat.zero_le, Nat.reduceAdd, Nat.reduceLeDiff, ↓reduceIte, not_true_eq_false, not_false_eq_true, Bool.false_eq_true]
  · by_cases a1 : y < 0
    · simp only [q, a1, Option.bind_some, Option.toList_some, Option.toList_none, List.cons_append, List.nil_append, List.append_nil, List.length_cons, List.length_nil, true_or, or_true, eq_self, b01_0, b01_1, b01_2, b01_3, b01_4, Nat.zero_le, Nat.reduceAdd, Nat.reduceLeDiff, ↓reduceIte, not_true_eq_false, not_false_eq_true, Bool.false_eq_true]
    · by_cases a2 : y < l j <;> simp only [q, a1, a2, Option.bind_some, Option.toList_some, Option.toList_none, List.cons_append, List.nil_append, List.append_nil, List.length_cons, List.length_nil, true_or, or_true, eq_self, b01_0, b01_1, b01_2, b01_3, b01_4, Nat.zero_le, Nat.reduceAdd, Nat.reduceLeDiff, ↓reduceIte, not_true_eq_false, not_false_eq_true, Bool.false_eq_true, or_self]
theorem k_lacksRange (h : sk G b c d s r l n) {j : Nat} (hj : j < 4) (y z : Int32) : mc_ev X 57 0 [.ref b, .int (nI j), .int y, .int z] [] G = some (some (.int (if y < 0 ∨ z < 0 ∨ l j < y ∨ l j - y < z then 1 else 0)), G) := by
  simp only [e_57, sk_f (X := X) h, hj, Option.bind_some, Option.toList_some, Option.toList_none, List.cons_append, List.nil_append, List.append_nil, List.length_cons, List.length_nil, true_or, or_true, eq_self, b01_0, b01_1, b01_2, b01_3, b01_4, Nat.zero_le, Nat.reduceAdd, Nat.reduceLeDiff, ↓reduceIte, not_true_eq_false, not_false_eq_true, Bool.false_eq_true]
  by_cases a1 : y < 0
  · simp only [a1, Option.bind_some, Option.toList_some, Option.toList_none, List.cons_append, List.nil_append, List.append_nil, List.length_cons, List.length_nil, true_or, or_true, eq_self, b01_0, b01_1, b01_2, b01_3, b01_4, Nat.zero_le, Nat.reduceAdd, Nat.reduceLeDiff, ↓reduceIte, not_true_eq_false, not_false_eq_true, Bool.false_eq_true]
  · by_cases a2 : z < 0
    · simp only [a1, a2, Option.bind_some, Option.toList_some, Option.toList_none, List.cons_append, List.nil_append, List.append_nil, List.length_cons, List.length_nil, true_or, or_true, eq_self, b01_0, b01_1, b01_2, b01_3, b01_4, Nat.zero_le, Nat.reduceAdd, Nat.reduceLeDiff, ↓reduceIte, not_true_eq_false, not_false_eq_true, Bool.false_eq_true]
    · by_cases a3 : l j < y
      · simp only [a1, a2, a3, Option.bind_some, Option.toList_some, Option.toList_none, List.cons_append, List.nil_append, List.append_nil, List.length_cons, List.length_nil, true_or, or_true, eq_self, b01_0, b01_1, b01_2, b01_3, b01_4, Nat.zero_le, Nat.reduceAdd, Nat.reduceLeDiff, ↓reduceIte, not_true_eq_false, not_false_eq_true, Bool.false_eq_true]
      · by_cases a4 : l j - y < z <;> simp only [a1, a2, a3, a4, Option.bind_some, Option.toList_some, Option.toList_none, List.cons_append, List.nil_append, List.append_nil, List.length_cons, List.length_nil, true_or, or_true, eq_self, b01_0, b01_1, b01_2, b01_3, b01_4, Nat.zero_le, Nat.reduceAdd, Nat.reduceLeDiff, ↓reduceIte, not_true_eq_false, not_false_eq_true, Bool.false_eq_true, or_self]
theorem k_asSorted (h : sk G b c d s r l n) {m : Nat} (hm : m < 3) (hs : s = nI m) (v : Int32) : mc_ev X 59 0 [.ref b, .int v] [] G = some (some (.int (asS m v)), G) := by
  subst hs
  have hk := sk_f (X := X) h
  rcases (show m = 0 ∨ m = 1 ∨ m = 2 by omega) with rfl | rfl | rfl
  · simp only [show nI 0 = (0 : Int32) from rfl] at hk
    simp only [e_59, hk, look59, Option.bind_some, Option.toList_some, Option.toList_none, List.cons_append, List.nil_append, List.append_nil, List.length_cons, List.length_nil, true_or, or_true, eq_self, b01_0, b01_1, b01_2, b01_3, b01_4, Nat.zero_le, Nat.reduceAdd, Nat.reduceLeDiff, ↓reduceIte, not_true_eq_false, not_false_eq_true, Bool.false_eq_true]
    rfl
  · simp only [show nI 1 = (1 : Int32) from rfl] at hk
    simp only [e_59, hk, look59, Option.bind_some, Option.toList_some, Option.toList_none, List.cons_append, List.nil_append, List.append_nil, List.length_cons, List.length_nil, true_or, or_true, eq_self, b01_0, b01_1, b01_2, b01_3, b01_4, Nat.zero_le, Nat.reduceAdd, Nat.reduceLeDiff, ↓reduceIte, not_true_eq_false, not_false_eq_true, Bool.false_eq_true]
    rfl
  · simp only [show nI 2 = (2 : Int32) from rfl] at hk
    simp only [e_59, hk, look59, Option.bind_some, Option.toList_some, Option.toList_none, List.cons_append, List.nil_append, List.append_nil, List.length_cons, List.length_nil, true_or, or_true, eq_self, b01_0, b01_1, b01_2, b01_3, b01_4, Nat.zero_le, Nat.reduceAdd, Nat.reduceLeDiff, ↓reduceIte, not_true_eq_false, not_false_eq_true, Bool.false_eq_true]
    rfl
theorem k_write (h : sk G b c d s r l n) {m j p : Nat} (hm : m < 3) (hs : s = nI m) (hj : j < 4) (hp : p < 12) (v : Int32) : mc_ev X 58 0 [.ref b, .int (nI j), .int (nI p), .int v] [] G = some (none, G.set d (.inl (0, 48, upd n (12 * j + p) (asS m v)))) := by
  have w := sa_n h.2.2 (by decide) (j * 12 + p) (asS m v) (by omega)
  rw [Nat.mul_comm] at w
  simp only [e_58, sk_f (X := X) h, k_placeOf, k_asSorted h hm hs, Nat.mul_comm j 12, w, Option.bind_some, Option.toList_some, Option.toList_none, List.cons_append, List.nil_append, List.append_nil, List.length_cons, List.length_nil, true_or, or_true, eq_self, b01_0, b01_1, b01_2, b01_3, b01_4, Nat.zero_le, Nat.reduceAdd, Nat.reduceLeDiff, ↓reduceIte, not_true_eq_false, not_false_eq_true, Bool.false_eq_true]
theorem k_begin (h : sk G b c d s r l n) (n1 : b ≠ c) (s' r' : Int32) : mc_ev X 50 0 [.ref b, .int s', .int r'] [] G = some (none, (G.set b (kc s' r' c d)).set c (.inl (0, 4, fun j => if j < 4 then -1 else l j))) := by
  have w1 : mc_setf G b 6 0 (.int s') = some (G.set b (kc s' r c d)) := sf_n h.1 (Nat.le_of_ble_eq_true rfl) rfl
  have g1 : (G.set b (kc s' r c d))[b]? = some (kc s' r c d) := gs_self h.1
  have w2 : mc_setf (G.set b (kc s' r c d)) b 6 1 (.int r') = some ((G.set b (kc s' r c d)).set b (kc s' r' c d)) := sf_n g1 (Nat.le_of_ble_eq_true rfl) rfl
  rw [List.set_set] at w2
  have g2 : (G.set b (kc s' r' c d))[b]? = some (kc s' r' c d) := gs_self h.1
  have g2f : mc_getf (G.set b (kc s' r' c d)) b 6 2 = some (.ref c) := gf_n g2 2
  have g3 : (G.set b (kc s' r' c d))[c]? = some (.inl (0, 4, l)) := (gs_ne n1).trans h.2.1
  simp only [e_50, w1, w2, g2f, j_fill g3 (by decide), Option.bind_some, Option.toList_some, Option.toList_none, List.cons_append, List.nil_append, List.append_nil, List.length_cons, List.length_nil, true_or, or_true, eq_self, b01_0, b01_1, b01_2, b01_3, b01_4, Nat.zero_le, Nat.reduceAdd, Nat.reduceLeDiff, ↓reduceIte, not_true_eq_false, not_false_eq_true, Bool.false_eq_true]
theorem k_renewRow (h : sk G b c d s r l n) (n1 : b ≠ c) (n2 : b ≠ d) (n3 : c ≠ d) {j q : Nat} (hj : j < 4) (hq : q ≤ 12) : ∃ f : Nat → Int32, mc_ev X 53 0 [.ref b, .int (nI j), .int (nI q), .null] [] G = some (none, (G.set c (.inl (0, 4, upd l j (nI q)))).set d (.inl (0, 48, f))) ∧ (∀ p, p < q → f (12 * j + p) = 0) ∧ ∀ p, p < 12 * j ∨ 12 * j + 12 ≤ p → f p = n p := by
  have w0 := sa_n h.2.1 (by decide) j (nI q) hj
  have h1 : sk (G.set c (.inl (0, 4, upd l j (nI q)))) b c d s r (upd l j (nI q)) n := ⟨(gs_ne n1.symm).trans h.1, gs_self h.2.1, (gs_ne n3).trans h.2.2⟩
  have h0 : mc_ev X 53 0 [.ref b, .int (nI j), .int (nI q), .null] [] G = mc_ev X 53 9 [.ref b, .int (nI j), .int (nI q), .int 0] [] (G.set c (.inl (0, 4, upd l j (nI q)))) := by
    simp only [e_53, sk_f (X := X) h, w0, Option.bind_some, Option.toList_some, Option.toList_none, List.cons_append, List.nil_append, List.append_nil, List.length_cons, List.length_nil, true_or, or_true, eq_self, b01_0, b01_1, b01_2, b01_3, b01_4, Nat.zero_le, Nat.reduceAdd, Nat.reduceLeDiff, ↓reduceIte, not_true_eq_false, not_false_eq_true, Bool.false_eq_true]
  obtain ⟨ls, G', ⟨hls, f, hG', hf1, hf2⟩, hev⟩ := ev_inv (X := X) (k := 53) (pc := 9) (fun t ls G' => ls = [.ref b, .int (nI j), .int (nI q), .int (nI t)] ∧ ∃ f : Nat → Int32, G' = (G.set c (.inl (0, 4, upd l j (nI q)))).set d (.inl (0, 48, f)) ∧ (∀ p, p < t → f (12 * j + p) = 0) ∧ ∀ p, p < 12 * j ∨ 12 * j + 12 ≤ p → f p = n p) q (by
    intro t ht ls G' ⟨hls, f, hG', hf1, hf2⟩
    subst hls
    subst hG'
    have k1 : nI t < nI q := nI_lt ht (by omega)
    have h2 : sk ((G.set c (.inl (0, 4, upd l j (nI q)))).set d (.inl (0, 48, f))) b c d s r (upd l j (nI q)) f := ⟨(gs_ne n2.symm).trans h1.1, (gs_ne n3.symm).trans h1.2.1, gs_self h1.2.2⟩
    have w := sa_n h2.2.2 (by decide) (j * 12 + t) 0 (by omega)
    rw [List.set_set] at w
    refine ⟨[.ref b, .int (nI j), .int (nI q), .int (nI (t + 1))], _, ⟨rfl, upd f (j * 12 + t) 0, rfl, ?_, ?_⟩, ?_⟩
    · intro p hp
      by_cases cc : p = t
      · subst cc; rw [Nat.mul_comm, pk_us]
      · rw [pk_un (by omega)]; exact hf1 p (by omega)
    · intro p hp
      rw [pk_un (by omega)]; exact hf2 p hp
    · rw [h_53_9]
      simp only [e_53, k1, sk_f (X := X) h2, k_placeOf, w, nI_1, Option.bind_some, Option.toList_some, Option.toList_none, List.cons_append, List.nil_append, List.append_nil, List.length_cons, List.length_nil, true_or, or_true, eq_self, b01_0, b01_1, b01_2, b01_3, b01_4, Nat.zero_le, Nat.reduceAdd, Nat.reduceLeDiff, ↓reduceIte, not_true_eq_false, not_false_eq_true, Bool.false_eq_true]) [.ref b, .int (nI j), .int (nI q), .int 0] (G.set c (.inl (0, 4, upd l j (nI q)))) ⟨rfl, n, (set_same h1.2.2).symm, fun p hp => absurd hp (by omega), fun p _ => rfl⟩
  subst hls
  subst hG'
  refine ⟨f, ?_, hf1, hf2⟩
  have k2 : ¬ nI q < nI q := nI_nlt (Nat.le_refl _) (by omega)
  rw [h0, hev, h_53_9]
  simp only [e_53, k2, Option.bind_some, Option.toList_some, Option.toList_none, List.cons_append, List.nil_append, List.append_nil, List.length_cons, List.length_nil, true_or, or_true, eq_self, b01_0, b01_1, b01_2, b01_3, b01_4, Nat.zero_le, Nat.reduceAdd, Nat.reduceLeDiff, ↓reduceIte, not_true_eq_false, not_false_eq_true, Bool.false_eq_true]
end SK
section SP
variable {X : mc_X} {G G' : mc_H} {sq : Nat → Option Nat} {sv rv : Nat → Int32} {le nu : Nat → Nat → Int32}
theorem sp_q (h : sp G sq sv rv le nu) {i : Nat} (hin : i < 4) : mc_getQ G 77 (nI i) = some (78 + 3 * i) := by
  unfold mc_getQ
  rw [h.1]
  dsimp only
  rw [if_pos ⟨Or.inr rfl, nI_in hin (by decide)⟩, nI_clamp (by omega)]
  exact h.2.1 i hin
theorem sp_k (h : sp G sq sv rv le nu) {i : Nat} (hin : i < 4) : sk G (78 + 3 * i) (79 + 3 * i) (80 + 3 * i) (sv i) (rv i) (le i) (nu i) := h.2.2 i hin
theorem sp_s (h : sp G sq sv rv le nu) {i : Nat} (hin : i < 4) {s r : Int32} {l n : Nat → Int32} (hk : sk G' (78 + 3 * i) (79 + 3 * i) (80 + 3 * i) s r l n) (ag : ∀ k, 77 ≤ k → k ≤ 89 → k ≠ 78 + 3 * i → k ≠ 79 + 3 * i → k ≠ 80 + 3 * i → G'[k]? = G[k]?) : sp G' sq (upd sv i s) (upd rv i r) (va_up le i l) (va_up nu i n) := by
  refine ⟨(ag 77 (by omega) (by omega) (by omega) (by omega) (by omega)).trans h.1, h.2.1, fun t ht => ?_⟩
  by_cases c : t = i
  · subst c
    rw [pk_us, pk_us, va_up_self, va_up_self]
    exact hk
  · rw [pk_un c, pk_un c, va_up_ne _ _ c, va_up_ne _ _ c]
    obtain ⟨a1, a2, a3⟩ := h.2.2 t ht
    exact ⟨(ag _ (by omega) (by omega) (by omega) (by omega) (by omega)).trans a1, (ag _ (by omega) (by omega) (by omega) (by omega) (by omega)).trans a2, (ag _ (by omega) (by omega) (by omega) (by omega) (by omega)).trans a3⟩
end SP
/-- one strip, in class and reference -/
def rl4 (i : Nat) (sv rv : Int32) (le nu : Nat → Int32) (hs so sr : Int32) (rs ce : Nat → Int32) : Prop :=
  (rv = -1 ∧ hs = 0) ∨ (hs = 1 ∧ ∃ n, n ≤ 4 ∧ rv = nI n ∧ sr = nI n ∧ (∃ m, m < 3 ∧ sv = nI m ∧ so = nI m) ∧ ∀ r, r < n → (le r = -1 ∧ rs (4 * i + r) = -9) ∨ ∃ q, q ≤ 12 ∧ le r = nI q ∧ rs (4 * i + r) = nI q ∧ ∀ k, k < q → nu (12 * r + k) = ce (48 * i + 12 * r + k))
theorem rel4_u {sv rv : Nat → Int32} {le nu : Nat → Nat → Int32} {hs so sr rs ce hs' so' sr' rs' ce' : Nat → Int32} (h : rel4 sv rv le nu hs so sr rs ce) {i : Nat} {s r : Int32} {l n : Nat → Int32} (ho : ∀ t, t < 4 → t ≠ i → hs' t = hs t ∧ so' t = so t ∧ sr' t = sr t ∧ (∀ r, r < 4 → rs' (4 * t + r) = rs (4 * t + r)) ∧ ∀ p, p < 48 → ce' (48 * t + p) = ce (48 * t + p)) (hin : rl4 i s r l n (hs' i) (so' i) (sr' i) rs' ce') : rel4 (upd sv i s) (upd rv i r) (va_up le i l) (va_up nu i n) hs' so' sr' rs' ce' := by
  intro t ht
  by_cases c : t = i
  · subst c
    rw [pk_us, pk_us, va_up_self, va_up_self]
    exact hin
  · rw [pk_un c, pk_un c, va_up_ne _ _ c, va_up_ne _ _ c]
    obtain ⟨o1, o2, o3, o4, o5⟩ := ho t ht c
    rw [o1, o2, o3]
    rcases h t ht with q | ⟨q1, N, q2, q3, q4, q5, q6⟩
    · exact Or.inl q
    · refine Or.inr ⟨q1, N, q2, q3, q4, q5, fun r hr => ?_⟩
      rw [o4 r (by omega)]
      rcases q6 r hr with g | ⟨Q, g1, g2, g3, g4⟩
      · exact Or.inl g
      · refine Or.inr ⟨Q, g1, g2, g3, fun k hk => ?_⟩
        rw [Nat.add_assoc, o5 (12 * r + k) (by omega), ← Nat.add_assoc]
        exact g4 k hk
/-- the class has changed a strip and its status; the reference its own cells -/
theorem inv_st {G G1 G2 : mc_H} {R C rim : Nat} {fi se lo hi : Nat → Int32} {TB OB LB : Nat} {ks ws : Nat → Int32} {stale lw : Int32} {SZ HD HP : Nat} {sts : Nat → Int32} {nx sz : Nat} {kq : Nat → Option Nat} {hT hO hL : Nat → Nat} {hK hW : Nat → Nat → Int32} {sq : Nat → Option Nat} {sv rv : Nat → Int32} {le nu : Nat → Nat → Int32} {di ch : Nat → Int32} {tr : Int64} {su : Int32} {U : Nat} {tu tl ki go wa ol hs so sr rs ce cp fa pa : Nat → Int32} (hpl : pl G R C rim fi se lo hi TB OB LB ks ws) (hpv : pv R C rim fi se lo hi TB OB LB ks ws) (hld : ld G stale SZ HD HP lw sts) (hhs : hy G nx sz kq hT hO hL hK hW) (hpr : pr G di ch) (hsp : sp G1 sq sv rv le nu) (htp : tp G1 tr su) (hrm : rm G2 su tr R C U tu tl ki go wa ol hs so sr rs ce cp fa pa) (ag1 : ∀ k, 1 ≤ k → k < 77 → G1[k]? = G[k]?) (ag2 : ∀ k, k < 90 → G2[k]? = G1[k]?) (hr1 : rel1 R C TB OB LB ks ws tu tl ki go wa) (hr2 : rel2 R C OB LB ks ws stale lw SZ HD HP sts) (hr3 : rel3 R C nx sz U hT hO hL hK hW ol) (hr4 : rel4 sv rv le nu hs so sr rs ce) : Inv G2 := by
  have ag : ∀ k, 1 ≤ k → k < 77 → G2[k]? = G[k]? := fun k a b => (ag2 k (by omega)).trans (ag1 k a b)
  exact inv_mk (pl_ag hpl (fun k a b => ag k (by omega) (by omega))) hpv (ld_ag hld (fun k a b => ag k (by omega) (by omega))) (hy_ag hhs (fun k a b => ag k (by omega) (by omega))) (sp_ag hsp (fun k a b => ag2 k (by omega))) (tp_ag htp (ag2 0 (by omega))) (pr_ag hpr (fun k a b => ag k (by omega) (by omega))) hrm hr1 hr2 hr3 hr4
section REF
variable {X : mc_X} {G : mc_H} {su : Int32} {tr : Int64} {R C U : Nat} {tu tl ki go wa ol hs so sr rs ce cp fa pa : Nat → Int32}
theorem r_no (h : rm G su tr R C U tu tl ki go wa ol hs so sr rs ce cp fa pa) (w : Int32) : mc_ev X 163 0 [.ref 90, .int w] [] G = some (some (.int w), G.set 90 (rmc w tr R C U)) := by
  simp only [e_163, rm_f h, rm_w1 h, Option.bind_some, Option.toList_some, Option.toList_none, List.cons_append, List.nil_append, List.append_nil, List.length_cons, List.length_nil, true_or, or_true, eq_self, b01_0, b01_1, b01_2, b01_3, b01_4, Nat.zero_le, Nat.reduceAdd, Nat.reduceLeDiff, ↓reduceIte, not_true_eq_false, not_false_eq_true, Bool.false_eq_true]
end REF
section ROWS
variable {L : Nat} {xs : Nat → Int32}
/-- a refused call -/
theorem rfu {G : mc_H} {s : Int32} {kx km : Nat} {ax am : List Value} {tr : Int64} {R C U : Nat} (h0 : mc_cls G 90 = some 8) (h1 : mc_ev (mc_X0 L xs) kx 0 ax [] G = some (some (.int s), G.set 0 (top tr s))) (h2 : mc_ev (mc_X0 L xs) km 0 am [] (G.set 0 (top tr s)) = some (some (.int s), (G.set 0 (top tr s)).set 90 (rmc s tr R C U))) (h3 : Inv ((G.set 0 (top tr s)).set 90 (rmc s tr R C U))) : ∃ (v : Int32) (G1 G2 : mc_H), mc_ev (mc_X0 L xs) kx 0 ax [] G = some (some (.int v), G1) ∧ mc_cls G1 90 = some 8 ∧ mc_ev (mc_X0 L xs) km 0 am [] G1 = some (some (.int v), G2) ∧ Inv G2 := by
  refine ⟨s, _, _, h1, ?_, h2, h3⟩
  unfold mc_cls at h0 ⊢
  rw [gs_ne (by decide)]
  exact h0
theorem k34 : (((1 : Int32) = 0) = False) ∧ ((nI 4 = (4 : Int32))) := ⟨eq_false (by decide), rfl⟩
set_option maxHeartbeats 1000000 in
theorem R26 : lw_R26 L xs Inv := by
  intro a o n G hG
  refine inv_elim hG ?_
  intro R C rim fi se lo hi TB OB LB ks ws stale lw SZ HD HP sts nx sz kq hT hO hL hK hW sq sv rv le nu di ch tr su U tu tl ki go wa ol hs so sr rs ce cp fa pa hpl hpv hld hhs hsp htp hpr hrm hr1 hr2 hr3 hr4
  have hC := (rm_f hrm).1
  have hT := fun s => inv_tt hpl hpv hld hhs hsp htp hpr hrm hr1 hr2 hr3 hr4 tr s
  have r1 : ∀ s, rm (G.set 0 (top tr s)) su tr R C U tu tl ki go wa ol hs so sr rs ce cp fa pa := fun s => rm_ag hrm (fun k a b => gs_ne (by omega))
  have f1 := fun s => rm_f (r1 s)
  have g1 := fun s => rm_t (r1 s)
  have w1 := fun s => rm_w1 (r1 s) 0
  have r2 := fun s => rm_set (r1 s) 0 tr R C U
  have f2 := fun s => rm_f (r2 s)
  have n2 : ∀ s w, mc_ev (mc_X0 L xs) 163 0 [.ref 90, .int w] [] ((G.set 0 (top tr s)).set 90 (rmc 0 tr R C U)) = some (some (.int w), (G.set 0 (top tr s)).set 90 (rmc w tr R C U)) := fun s w => by rw [r_no (r2 s) w, List.set_set]
  rcases ix_of a (N := 4) (by decide) with hb | ⟨i, hin, rfl⟩
  · have hx : (0 ≤ a ∧ a ≤ 3) = False := ix_no (N := 4) (by decide) (by decide) hb
    refine rfu hC (s := -1) ?_ ?_ (hT _)
    · simp only [e_87, tp_f htp, c_isNoStrip, no_no hb, c_refuse htp, Option.bind_some, Option.toList_some, Option.toList_none, List.cons_append, List.nil_append, List.append_nil, List.length_cons, List.length_nil, true_or, or_true, eq_self, b01_0, b01_1, b01_2, b01_3, b01_4, Nat.zero_le, Nat.reduceAdd, Nat.reduceLeDiff, ↓reduceIte, not_true_eq_false, not_false_eq_true, Bool.false_eq_true]
    · simp only [e_164, f1, g1, w1, f2, r_in, hx, n2, Option.bind_some, Option.toList_some, Option.toList_none, List.cons_append, List.nil_append, List.append_nil, List.length_cons, List.length_nil, true_or, or_true, eq_self, b01_0, b01_1, b01_2, b01_3, b01_4, Nat.zero_le, Nat.reduceAdd, Nat.reduceLeDiff, ↓reduceIte, not_true_eq_false, not_false_eq_true, Bool.false_eq_true]
  have hno := no_yes (N := 4) hin (by decide)
  have hye : (0 ≤ nI i ∧ nI i ≤ 3) = True := ix_yes (N := 4) hin (by decide)
  rcases ix_of o (N := 3) (by decide) with hb | ⟨m, hm, rfl⟩
  · have hx : (0 ≤ o ∧ o ≤ 2) = False := ix_no (N := 3) (by decide) (by decide) hb
    refine rfu hC (s := -1) ?_ ?_ (hT _)
    · simp only [e_87, tp_f htp, c_isNoStrip, hno, c_isNoSort, no_no hb, c_refuse htp, Option.bind_some, Option.toList_some, Option.toList_none, List.cons_append, List.nil_append, List.append_nil, List.length_cons, List.length_nil, true_or, or_true, eq_self, b01_0, b01_1, b01_2, b01_3, b01_4, Nat.zero_le, Nat.reduceAdd, Nat.reduceLeDiff, ↓reduceIte, not_true_eq_false, not_false_eq_true, Bool.false_eq_true]
    · simp only [e_164, f1, g1, w1, f2, r_in, hye, hx, n2, Option.bind_some, Option.toList_some, Option.toList_none, List.cons_append, List.nil_append, List.append_nil, List.length_cons, List.length_nil, true_or, or_true, eq_self, b01_0, b01_1, b01_2, b01_3, b01_4, Nat.zero_le, Nat.reduceAdd, Nat.reduceLeDiff, ↓reduceIte, not_true_eq_false, not_false_eq_true, Bool.false_eq_true]
  have hno2 := no_yes (N := 3) hm (by decide)
  have hye2 : (0 ≤ nI m ∧ nI m ≤ 2) = True := ix_yes (N := 3) hm (by decide)
  by_cases b4 : 4 < n
  · refine rfu hC (s := -1) ?_ ?_ (hT _)
    · simp only [e_87, tp_f htp, c_isNoStrip, hno, c_isNoSort, hno2, b4, c_refuse htp, Option.bind_some, Option.toList_some, Option.toList_none, List.cons_append, List.nil_append, List.append_nil, List.length_cons, List.length_nil, true_or, or_true, eq_self, b01_0, b01_1, b01_2, b01_3, b01_4, Nat.zero_le, Nat.reduceAdd, Nat.reduceLeDiff, ↓reduceIte, not_true_eq_false, not_false_eq_true, Bool.false_eq_true]
    · simp only [e_164, f1, g1, w1, f2, r_in, hye, hye2, b4, n2, Option.bind_some, Option.toList_some, Option.toList_none, List.cons_append, List.nil_append, List.append_nil, List.length_cons, List.length_nil, true_or, or_true, eq_self, b01_0, b01_1, b01_2, b01_3, b01_4, Nat.zero_le, Nat.reduceAdd, Nat.reduceLeDiff, ↓reduceIte, not_true_eq_false, not_false_eq_true, Bool.false_eq_true]
  by_cases b0 : n < 0
  · refine rfu hC (s := -15) ?_ ?_ (hT _)
    · simp only [e_87, tp_f htp, c_isNoStrip, hno, c_isNoSort, hno2, b4, b0, c_refuse htp, Option.bind_some, Option.toList_some, Option.toList_none, List.cons_append, List.nil_append, List.append_nil, List.length_cons, List.length_nil, true_or, or_true, eq_self, b01_0, b01_1, b01_2, b01_3, b01_4, Nat.zero_le, Nat.reduceAdd, Nat.reduceLeDiff, ↓reduceIte, not_true_eq_false, not_false_eq_true, Bool.false_eq_true]
    · simp only [e_164, f1, g1, w1, f2, r_in, hye, hye2, b4, b0, n2, Option.bind_some, Option.toList_some, Option.toList_none, List.cons_append, List.nil_append, List.append_nil, List.length_cons, List.length_nil, true_or, or_true, eq_self, b01_0, b01_1, b01_2, b01_3, b01_4, Nat.zero_le, Nat.reduceAdd, Nat.reduceLeDiff, ↓reduceIte, not_true_eq_false, not_false_eq_true, Bool.false_eq_true]
  obtain ⟨N, hN, rfl⟩ := nI_of2 (M := 4) (n := 4) rfl b0 (Int32.not_lt.mp b4)
  have hk := sp_k hsp hin
  have bg := k_begin (X := mc_X0 L xs) hk (by omega) (nI m) (nI N)
  have t1 : tp ((G.set (78 + 3 * i) (kc (nI m) (nI N) (79 + 3 * i) (80 + 3 * i))).set (79 + 3 * i) (.inl (0, 4, fun j => if j < 4 then -1 else le i j))) tr su := tp_ag htp (by rw [gs_ne (by omega), gs_ne (by omega)])
  have ac := c_accept (X := mc_X0 L xs) t1 1
  have agX : ∀ k, k ≠ 0 → k ≠ 78 + 3 * i → k ≠ 79 + 3 * i → (((G.set (78 + 3 * i) (kc (nI m) (nI N) (79 + 3 * i) (80 + 3 * i))).set (79 + 3 * i) (.inl (0, 4, fun j => if j < 4 then -1 else le i j))).set 0 (top tr 0))[k]? = G[k]? := fun k a b c => by rw [gs_ne (Ne.symm a), gs_ne (Ne.symm c), gs_ne (Ne.symm b)]
  have hk' : sk (((G.set (78 + 3 * i) (kc (nI m) (nI N) (79 + 3 * i) (80 + 3 * i))).set (79 + 3 * i) (.inl (0, 4, fun j => if j < 4 then -1 else le i j))).set 0 (top tr 0)) (78 + 3 * i) (79 + 3 * i) (80 + 3 * i) (nI m) (nI N) (fun j => if j < 4 then -1 else le i j) (nu i) := by
    refine ⟨?_, ?_, ?_⟩
    · rw [gs_ne (by omega), gs_ne (by omega)]; exact gs_self hk.1
    · rw [gs_ne (by omega)]
      have : (G.set (78 + 3 * i) (kc (nI m) (nI N) (79 + 3 * i) (80 + 3 * i)))[79 + 3 * i]? = some (.inl (0, 4, le i)) := (gs_ne (by omega)).trans hk.2.1
      exact gs_self this
    · exact (agX _ (by omega) (by omega) (by omega)).trans hk.2.2
  have sp' := sp_s hsp hin hk' (fun k a b c d e => agX k (by omega) c d)
  have rA := rm_ag hrm (G' := ((G.set (78 + 3 * i) (kc (nI m) (nI N) (79 + 3 * i) (80 + 3 * i))).set (79 + 3 * i) (.inl (0, 4, fun j => if j < 4 then -1 else le i j))).set 0 (top tr 0)) (fun k a b => agX k (by omega) (by omega) (by omega))
  have tA := tp_set t1 tr 0
  revert rA tA sp' agX ac hk'
  generalize ((G.set (78 + 3 * i) (kc (nI m) (nI N) (79 + 3 * i) (80 + 3 * i))).set (79 + 3 * i) (.inl (0, 4, fun j => if j < 4 then -1 else le i j))).set 0 (top tr 0) = GA
  intro ac agX hk' sp' rA tA
  have rB := rm_set rA 0 tr R C U
  have rC := rm_s97 rB (upd hs i 1)
  have rD := rm_s98 rC (upd so i (nI m))
  have rE := rm_s99 rD (upd sr i (nI N))
  have hl : ∃ f : Nat → Int32, mc_ev (mc_X0 L xs) 164 74 [.ref 90, .int (nI i), .int (nI m), .int (nI N), .int 0] [] ((((GA.set 90 (rmc 0 tr R C U)).set 97 (.inl (1, 4, upd hs i 1))).set 98 (.inl (0, 4, upd so i (nI m)))).set 99 (.inl (0, 4, upd sr i (nI N)))) = some (some (.int 1), ((((GA.set 90 (rmc 0 tr R C U)).set 97 (.inl (1, 4, upd hs i 1))).set 98 (.inl (0, 4, upd so i (nI m)))).set 99 (.inl (0, 4, upd sr i (nI N)))).set 100 (.inl (0, 16, f))) ∧ (∀ r, r < 4 → f (4 * i + r) = -9) ∧ ∀ p, p < 4 * i ∨ 4 * i + 4 ≤ p → f p = rs p := by
    revert rE
    generalize (((GA.set 90 (rmc 0 tr R C U)).set 97 (.inl (1, 4, upd hs i 1))).set 98 (.inl (0, 4, upd so i (nI m)))).set 99 (.inl (0, 4, upd sr i (nI N))) = GE
    intro rE
    obtain ⟨ls, G', ⟨hls, f, hG', hf1, hf2⟩, hev⟩ := ev_inv (X := mc_X0 L xs) (k := 164) (pc := 74) (fun t ls G' => ls = [.ref 90, .int (nI i), .int (nI m), .int (nI N), .int (nI t)] ∧ ∃ f : Nat → Int32, G' = GE.set 100 (.inl (0, 16, f)) ∧ (∀ r, r < t → f (4 * i + r) = -9) ∧ ∀ p, p < 4 * i ∨ 4 * i + 4 ≤ p → f p = rs p) 4 (by
      intro t ht ls G' ⟨hls, f, hG', hf1, hf2⟩
      subst hls
      subst hG'
      have k1 : nI t < 4 := nI_lt (b := 4) ht (by decide)
      have w := rm_w100s rE f (j := 4 * i + t) (by omega) (-9)
      refine ⟨[.ref 90, .int (nI i), .int (nI m), .int (nI N), .int (nI (t + 1))], _, ⟨rfl, upd f (4 * i + t) (-9), rfl, ?_, ?_⟩, ?_⟩
      · intro r hr
        by_cases cc : r = t
        · subst cc; rw [pk_us]
        · rw [pk_un (by omega)]; exact hf1 r (by omega)
      · intro p hp
        rw [pk_un (by omega)]; exact hf2 p hp
      · rw [h_164_74]
        simp only [e_164, k1, rm_f (rm_s100 rE f), cc4, nI_add, w, nI_1, Option.bind_some, Option.toList_some, Option.toList_none, List.cons_append, List.nil_append, List.append_nil, List.length_cons, List.length_nil, true_or, or_true, eq_self, b01_0, b01_1, b01_2, b01_3, b01_4, Nat.zero_le, Nat.reduceAdd, Nat.reduceLeDiff, ↓reduceIte, not_true_eq_false, not_false_eq_true, Bool.false_eq_true]) [.ref 90, .int (nI i), .int (nI m), .int (nI N), .int 0] GE ⟨rfl, rs, (set_same rE.2.2.2.2.2.2.2.2.2.2.1).symm, fun p hp => absurd hp (by omega), fun p _ => rfl⟩
    subst hls
    subst hG'
    refine ⟨f, ?_, hf1, hf2⟩
    have k2 : ¬ nI 4 < 4 := by decide
    rw [hev, h_164_74]
    simp only [e_164, k2, Option.bind_some, Option.toList_some, Option.toList_none, List.cons_append, List.nil_append, List.append_nil, List.length_cons, List.length_nil, true_or, or_true, eq_self, b01_0, b01_1, b01_2, b01_3, b01_4, Nat.zero_le, Nat.reduceAdd, Nat.reduceLeDiff, ↓reduceIte, not_true_eq_false, not_false_eq_true, Bool.false_eq_true]
  obtain ⟨f, l1, l2, l3⟩ := hl
  have hx : mc_ev (mc_X0 L xs) 87 0 [.ref 0, .int (nI i), .int (nI m), .int (nI N)] [] G = some (some (.int 1), GA) := by
    simp only [e_87, tp_f htp, c_isNoStrip, hno, c_isNoSort, hno2, b4, b0, sp_q hsp hin, sk_f (X := mc_X0 L xs) hk, bg, tp_f t1, ac, Option.bind_some, Option.toList_some, Option.toList_none, List.cons_append, List.nil_append, List.append_nil, List.length_cons, List.length_nil, true_or, or_true, eq_self, b01_0, b01_1, b01_2, b01_3, b01_4, Nat.zero_le, Nat.reduceAdd, Nat.reduceLeDiff, ↓reduceIte, not_true_eq_false, not_false_eq_true, Bool.false_eq_true]
  have hm2 : mc_ev (mc_X0 L xs) 164 0 [.ref 90, .int (nI i), .int (nI m), .int (nI N), .null] [] GA = mc_ev (mc_X0 L xs) 164 74 [.ref 90, .int (nI i), .int (nI m), .int (nI N), .int 0] [] ((((GA.set 90 (rmc 0 tr R C U)).set 97 (.inl (1, 4, upd hs i 1))).set 98 (.inl (0, 4, upd so i (nI m)))).set 99 (.inl (0, 4, upd sr i (nI N)))) := by
    simp only [e_164, rm_f rA, rm_t rA, rm_w1 rA 0, rm_f rB, r_in, hye, hye2, b4, b0, vn1, rm_w97a rB hin, rm_f rC, rm_w98a rC hin, rm_f rD, rm_w99a rD hin, rm_f rE, Option.bind_some, Option.toList_some, Option.toList_none, List.cons_append, List.nil_append, List.append_nil, List.length_cons, List.length_nil, true_or, or_true, eq_self, b01_0, b01_1, b01_2, b01_3, b01_4, Nat.zero_le, Nat.reduceAdd, Nat.reduceLeDiff, ↓reduceIte, not_true_eq_false, not_false_eq_true, Bool.false_eq_true]
  refine ⟨1, GA, _, hx, (rm_f rA).1, hm2.trans l1, ?_⟩
  refine inv_st hpl hpv hld hhs hpr sp' tA (rm_s100 rE f) (fun k a b => agX k (by omega) (by omega) (by omega)) (fun k a => by rw [gs_ne (by omega), gs_ne (by omega), gs_ne (by omega), gs_ne (by omega), gs_ne (by omega)]) hr1 hr2 hr3 (rel4_u hr4 (fun t ht c => ⟨pk_un c, pk_un c, pk_un c, fun r hr => l3 _ (by omega), fun p hp => rfl⟩) ?_)
  right
  refine ⟨pk_us, N, hN, rfl, pk_us, ⟨m, hm, rfl, pk_us⟩, fun r hr => Or.inl ⟨if_pos (by omega), l2 r (by omega)⟩⟩
end ROWS
