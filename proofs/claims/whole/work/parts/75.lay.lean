/-! the grid laid out -/
def gcc (a0 a1 a2 a3 a4 a5 : Int32) : mc_C := .inr (.inr (0, [.int a0, .int a1, .int a2, .int a3, .int a4, .int a5, .ref 3, .ref 4, .ref 5, .ref 6]))
def gc (R C J rim : Nat) : mc_C := gcc (nI R) (nI C) (nI (nN R C)) (nI J) (nI (nF R C)) (nI rim)
section GC
variable {G : mc_H} {a0 a1 a2 a3 a4 a5 : Int32}
theorem gcc_f (h : G[2]? = some (gcc a0 a1 a2 a3 a4 a5)) : mc_cls G 2 = some 0 ∧ mc_getf G 2 0 0 = some (.int a0) ∧ mc_getf G 2 0 1 = some (.int a1) ∧ mc_getf G 2 0 2 = some (.int a2) ∧ mc_getf G 2 0 3 = some (.int a3) ∧ mc_getf G 2 0 4 = some (.int a4) ∧ mc_getf G 2 0 5 = some (.int a5) ∧ mc_getf G 2 0 6 = some (.ref 3) ∧ mc_getf G 2 0 7 = some (.ref 4) ∧ mc_getf G 2 0 8 = some (.ref 5) ∧ mc_getf G 2 0 9 = some (.ref 6) := ⟨cl_n h, gf_n h 0, gf_n h 1, gf_n h 2, gf_n h 3, gf_n h 4, gf_n h 5, gf_n h 6, gf_n h 7, gf_n h 8, gf_n h 9⟩
theorem gcc_w0 (h : G[2]? = some (gcc a0 a1 a2 a3 a4 a5)) (x : Int32) : mc_setf G 2 0 0 (.int x) = some (G.set 2 (gcc x a1 a2 a3 a4 a5)) := sf_n h (Nat.le_of_ble_eq_true rfl) rfl
theorem gcc_w1 (h : G[2]? = some (gcc a0 a1 a2 a3 a4 a5)) (x : Int32) : mc_setf G 2 0 1 (.int x) = some (G.set 2 (gcc a0 x a2 a3 a4 a5)) := sf_n h (Nat.le_of_ble_eq_true rfl) rfl
theorem gcc_w2 (h : G[2]? = some (gcc a0 a1 a2 a3 a4 a5)) (x : Int32) : mc_setf G 2 0 2 (.int x) = some (G.set 2 (gcc a0 a1 x a3 a4 a5)) := sf_n h (Nat.le_of_ble_eq_true rfl) rfl
theorem gcc_w3 (h : G[2]? = some (gcc a0 a1 a2 a3 a4 a5)) (x : Int32) : mc_setf G 2 0 3 (.int x) = some (G.set 2 (gcc a0 a1 a2 x a4 a5)) := sf_n h (Nat.le_of_ble_eq_true rfl) rfl
theorem gcc_w4 (h : G[2]? = some (gcc a0 a1 a2 a3 a4 a5)) (x : Int32) : mc_setf G 2 0 4 (.int x) = some (G.set 2 (gcc a0 a1 a2 a3 x a5)) := sf_n h (Nat.le_of_ble_eq_true rfl) rfl
theorem gcc_w5 (h : G[2]? = some (gcc a0 a1 a2 a3 a4 a5)) (x : Int32) : mc_setf G 2 0 5 (.int x) = some (G.set 2 (gcc a0 a1 a2 a3 a4 x)) := sf_n h (Nat.le_of_ble_eq_true rfl) rfl
end GC
def gr (G : mc_H) (R C J rim : Nat) (fi se lo hi : Nat → Int32) : Prop := G[2]? = some (gc R C J rim) ∧ G[3]? = some (.inl (0, 17, fi)) ∧ G[4]? = some (.inl (0, 17, se)) ∧ G[5]? = some (.inl (0, 17, lo)) ∧ G[6]? = some (.inl (0, 17, hi))
section GR
variable {X : mc_X} {G : mc_H} {R C J rim : Nat} {fi se lo hi : Nat → Int32}
theorem gr_s2 (h : gr G R C J rim fi se lo hi) (J' rim' : Nat) : gr (G.set 2 (gc R C J' rim')) R C J' rim' fi se lo hi := ⟨gs_self h.1, (gs_ne (by decide)).trans h.2.1, (gs_ne (by decide)).trans h.2.2.1, (gs_ne (by decide)).trans h.2.2.2.1, (gs_ne (by decide)).trans h.2.2.2.2⟩
theorem gr_s3 (h : gr G R C J rim fi se lo hi) (f : Nat → Int32) : gr (G.set 3 (.inl (0, 17, f))) R C J rim f se lo hi := ⟨(gs_ne (by decide)).trans h.1, gs_self h.2.1, (gs_ne (by decide)).trans h.2.2.1, (gs_ne (by decide)).trans h.2.2.2.1, (gs_ne (by decide)).trans h.2.2.2.2⟩
theorem gr_w3 (h : gr G R C J rim fi se lo hi) {j : Nat} (hj : j < 17) (x : Int32) : mc_setA G 0 3 (nI j) x = some (G.set 3 (.inl (0, 17, upd fi j x))) := sa_n h.2.1 (by decide) j x hj
theorem gr_s4 (h : gr G R C J rim fi se lo hi) (f : Nat → Int32) : gr (G.set 4 (.inl (0, 17, f))) R C J rim fi f lo hi := ⟨(gs_ne (by decide)).trans h.1, (gs_ne (by decide)).trans h.2.1, gs_self h.2.2.1, (gs_ne (by decide)).trans h.2.2.2.1, (gs_ne (by decide)).trans h.2.2.2.2⟩
theorem gr_w4 (h : gr G R C J rim fi se lo hi) {j : Nat} (hj : j < 17) (x : Int32) : mc_setA G 0 4 (nI j) x = some (G.set 4 (.inl (0, 17, upd se j x))) := sa_n h.2.2.1 (by decide) j x hj
theorem gr_s5 (h : gr G R C J rim fi se lo hi) (f : Nat → Int32) : gr (G.set 5 (.inl (0, 17, f))) R C J rim fi se f hi := ⟨(gs_ne (by decide)).trans h.1, (gs_ne (by decide)).trans h.2.1, (gs_ne (by decide)).trans h.2.2.1, gs_self h.2.2.2.1, (gs_ne (by decide)).trans h.2.2.2.2⟩
theorem gr_w5 (h : gr G R C J rim fi se lo hi) {j : Nat} (hj : j < 17) (x : Int32) : mc_setA G 0 5 (nI j) x = some (G.set 5 (.inl (0, 17, upd lo j x))) := sa_n h.2.2.2.1 (by decide) j x hj
theorem gr_s6 (h : gr G R C J rim fi se lo hi) (f : Nat → Int32) : gr (G.set 6 (.inl (0, 17, f))) R C J rim fi se lo f := ⟨(gs_ne (by decide)).trans h.1, (gs_ne (by decide)).trans h.2.1, (gs_ne (by decide)).trans h.2.2.1, (gs_ne (by decide)).trans h.2.2.2.1, gs_self h.2.2.2.2⟩
theorem gr_w6 (h : gr G R C J rim fi se lo hi) {j : Nat} (hj : j < 17) (x : Int32) : mc_setA G 0 6 (nI j) x = some (G.set 6 (.inl (0, 17, upd hi j x))) := sa_n h.2.2.2.2 (by decide) j x hj
theorem c_markRim (h : gr G R C J rim fi se lo hi) (hs : sh R C) {r c : Nat} (hr : r < R) (hc : c < C) (hm : r * C + c < 12) : mc_ev X 2 0 [.ref 2, .int (nI r), .int (nI c)] [] G = some (none, G.set 2 (gc R C J (if r = 0 ∨ r = R - 1 ∨ c = 0 ∨ c = C - 1 then rim ||| 2 ^ (r * C + c) else rim))) := by
  have hR := hs.2.1
  have hC := hs.2.2.2.1
  have g := gcc_f h.1
  have z1 : (nI r = 0) = (r = 0) := nI_is0 (by omega)
  have z2 : (nI r = nI (R - 1)) = (r = R - 1) := propext (nI_eq (by omega) (by omega))
  have z3 : (nI c = 0) = (c = 0) := nI_is0 (by omega)
  have z4 : (nI c = nI (C - 1)) = (c = C - 1) := propext (nI_eq (by omega) (by omega))
  have w : mc_setf G 2 0 5 (.int (nI (rim ||| 2 ^ (r * C + c)))) = some (G.set 2 (gc R C J (rim ||| 2 ^ (r * C + c)))) := gcc_w5 h.1 _
  by_cases b1 : r = 0
  · rw [if_pos (Or.inl b1)]
    simp only [e_2, g, z1, eq_true b1, pk_mul, nI_add, shl1 (l := r * C + c) (by omega), nx_or, w, Option.bind_some, Option.toList_some, Option.toList_none, List.cons_append, List.nil_append, List.append_nil, List.length_cons, List.length_nil, true_or, or_true, eq_self, b01_0, b01_1, b01_2, b01_3, b01_4, Nat.zero_le, Nat.reduceAdd, Nat.reduceLeDiff, ↓reduceIte, not_true_eq_false, not_false_eq_true, Bool.false_eq_true]
  · by_cases b2 : r = R - 1
    · rw [if_pos (Or.inr (Or.inl b2))]
      simp only [e_2, g, z1, b1, nI_m1 hs.1, z2, eq_true b2, pk_mul, nI_add, shl1 (l := r * C + c) (by omega), nx_or, w, Option.bind_some, Option.toList_some, Option.toList_none, List.cons_append, List.nil_append, List.append_nil, List.length_cons, List.length_nil, true_or, or_true, eq_self, b01_0, b01_1, b01_2, b01_3, b01_4, Nat.zero_le, Nat.reduceAdd, Nat.reduceLeDiff, ↓reduceIte, not_true_eq_false, not_false_eq_true, Bool.false_eq_true]
    · by_cases b3 : c = 0
      · rw [if_pos (Or.inr (Or.inr (Or.inl b3)))]
        simp only [e_2, g, z1, b1, nI_m1 hs.1, z2, b2, z3, eq_true b3, pk_mul, nI_add, shl1 (l := r * C + c) (by omega), nx_or, w, Option.bind_some, Option.toList_some, Option.toList_none, List.cons_append, List.nil_append, List.append_nil, List.length_cons, List.length_nil, true_or, or_true, eq_self, b01_0, b01_1, b01_2, b01_3, b01_4, Nat.zero_le, Nat.reduceAdd, Nat.reduceLeDiff, ↓reduceIte, not_true_eq_false, not_false_eq_true, Bool.false_eq_true]
      · by_cases b4 : c = C - 1
        · rw [if_pos (Or.inr (Or.inr (Or.inr b4)))]
          simp only [e_2, g, z1, b1, nI_m1 hs.1, z2, b2, z3, b3, nI_m1 hs.2.2.1, z4, eq_true b4, pk_mul, nI_add, shl1 (l := r * C + c) (by omega), nx_or, w, Option.bind_some, Option.toList_some, Option.toList_none, List.cons_append, List.nil_append, List.append_nil, List.length_cons, List.length_nil, true_or, or_true, eq_self, b01_0, b01_1, b01_2, b01_3, b01_4, Nat.zero_le, Nat.reduceAdd, Nat.reduceLeDiff, ↓reduceIte, not_true_eq_false, not_false_eq_true, Bool.false_eq_true]
        · rw [if_neg (by rintro (q | q | q | q) <;> contradiction), set_same h.1]
          simp only [e_2, g, z1, b1, nI_m1 hs.1, z2, b2, z3, b3, nI_m1 hs.2.2.1, z4, b4, Option.bind_some, Option.toList_some, Option.toList_none, List.cons_append, List.nil_append, List.append_nil, List.length_cons, List.length_nil, true_or, or_true, eq_self, b01_0, b01_1, b01_2, b01_3, b01_4, Nat.zero_le, Nat.reduceAdd, Nat.reduceLeDiff, ↓reduceIte, not_true_eq_false, not_false_eq_true, Bool.false_eq_true]
theorem c_fieldAt0 (h : gr G R C J rim fi se lo hi) (hs : sh R C) (x y : Int32) : mc_ev X 3 0 [.ref 2, .int x, .int y, .null] [] G = some (some (.int (if x < 0 ∨ y < 0 ∨ ¬ x < nI (R - 1) ∨ ¬ y < nI (C - 1) then nI (nF R C - 1) else x * nI (C - 1) + y)), G) := by
  have hb := sh_b hs
  have g := gcc_f h.1
  have h1 : nI (nF R C) - 1 = nI (nF R C - 1) := nI_m1 (by omega)
  by_cases a1 : x < 0
  · simp only [e_3, g, nI_m1 hs.1, nI_m1 hs.2.2.1, h1, a1, Option.bind_some, Option.toList_some, Option.toList_none, List.cons_append, List.nil_append, List.append_nil, List.length_cons, List.length_nil, true_or, or_true, eq_self, b01_0, b01_1, b01_2, b01_3, b01_4, Nat.zero_le, Nat.reduceAdd, Nat.reduceLeDiff, ↓reduceIte, not_true_eq_false, not_false_eq_true, Bool.false_eq_true]
  · by_cases a3 : x < nI (R - 1)
    · by_cases a2 : y < 0
      · simp only [e_3, g, nI_m1 hs.1, nI_m1 hs.2.2.1, h1, a1, a2, a3, Option.bind_some, Option.toList_some, Option.toList_none, List.cons_append, List.nil_append, List.append_nil, List.length_cons, List.length_nil, true_or, or_true, eq_self, b01_0, b01_1, b01_2, b01_3, b01_4, Nat.zero_le, Nat.reduceAdd, Nat.reduceLeDiff, ↓reduceIte, not_true_eq_false, not_false_eq_true, Bool.false_eq_true]
      · by_cases a4 : y < nI (C - 1)
        · simp only [e_3, g, nI_m1 hs.1, nI_m1 hs.2.2.1, h1, a1, a2, a3, a4, Option.bind_some, Option.toList_some, Option.toList_none, List.cons_append, List.nil_append, List.append_nil, List.length_cons, List.length_nil, true_or, or_true, eq_self, b01_0, b01_1, b01_2, b01_3, b01_4, Nat.zero_le, Nat.reduceAdd, Nat.reduceLeDiff, ↓reduceIte, not_true_eq_false, not_false_eq_true, Bool.false_eq_true, or_self]
        · simp only [e_3, g, nI_m1 hs.1, nI_m1 hs.2.2.1, h1, a1, a2, a3, a4, Option.bind_some, Option.toList_some, Option.toList_none, List.cons_append, List.nil_append, List.append_nil, List.length_cons, List.length_nil, true_or, or_true, eq_self, b01_0, b01_1, b01_2, b01_3, b01_4, Nat.zero_le, Nat.reduceAdd, Nat.reduceLeDiff, ↓reduceIte, not_true_eq_false, not_false_eq_true, Bool.false_eq_true]
    · simp only [e_3, g, nI_m1 hs.1, nI_m1 hs.2.2.1, h1, a1, a3, Option.bind_some, Option.toList_some, Option.toList_none, List.cons_append, List.nil_append, List.append_nil, List.length_cons, List.length_nil, true_or, or_true, eq_self, b01_0, b01_1, b01_2, b01_3, b01_4, Nat.zero_le, Nat.reduceAdd, Nat.reduceLeDiff, ↓reduceIte, not_true_eq_false, not_false_eq_true, Bool.false_eq_true]
theorem c_fieldAt (h : gr G R C J rim fi se lo hi) (hs : sh R C) {r c : Nat} (hr : r ≤ 7) (hc : c ≤ 7) : mc_ev X 3 0 [.ref 2, .int (nI r - 1), .int (nI c - 1), .null] [] G = some (some (.int (nI (fld R C r c))), G) := by
  rw [c_fieldAt0 h hs, fld_n hs hr hc]
theorem c_addJoint (h : gr G R C J rim fi se lo hi) (hJ : J < 17) {n s f g : Nat} (hf : f < 12) (hg : g < 12) : ∃ G', mc_ev X 4 0 [.ref 2, .int (nI n), .int (nI s), .int (nI f), .int (nI g)] [] G = some (none, G') ∧ (∀ k, k < 2 ∨ 6 < k → G'[k]? = G[k]?) ∧ gr G' R C (J + 1) rim (upd fi J (nI n)) (upd se J (nI (n + s))) (upd lo J (nI (min f g))) (upd hi J (nI (max f g))) := by
  have h1 := gr_s3 h (upd fi J (nI n))
  have h2 := gr_s4 h1 (upd se J (nI (n + s)))
  have h3 := gr_s5 h2 (upd lo J (nI (min f g)))
  have h4 := gr_s6 h3 (upd hi J (nI (max f g)))
  have h5 := gr_s2 h4 (J + 1) rim
  have k1 : nI J < 17 := nI_lt (b := 17) hJ (by decide)
  have mn : (if nI g < nI f then nI g else nI f) = nI (min f g) := by rw [mn_n (by omega) (by omega), Nat.min_comm]
  have mx : (if nI f < nI g then nI g else nI f) = nI (max f g) := mx_n (by omega) (by omega)
  have w5 : mc_setf ((((G.set 3 (.inl (0, 17, upd fi J (nI n)))).set 4 (.inl (0, 17, upd se J (nI (n + s))))).set 5 (.inl (0, 17, upd lo J (nI (min f g))))).set 6 (.inl (0, 17, upd hi J (nI (max f g))))) 2 0 3 (.int (nI (J + 1))) = some (((((G.set 3 (.inl (0, 17, upd fi J (nI n)))).set 4 (.inl (0, 17, upd se J (nI (n + s))))).set 5 (.inl (0, 17, upd lo J (nI (min f g))))).set 6 (.inl (0, 17, upd hi J (nI (max f g))))).set 2 (gc R C (J + 1) rim)) := gcc_w3 h4.1 _
  refine ⟨_, ?_, ?_, h5⟩
  · simp only [e_4, gcc_f h.1, k1, gr_w3 h hJ, gcc_f h1.1, nI_add, gr_w4 h1 hJ, gcc_f h2.1, mn, gr_w5 h2 hJ, gcc_f h3.1, mx, gr_w6 h3 hJ, gcc_f h4.1, nI_1, w5, Option.bind_some, Option.toList_some, Option.toList_none, List.cons_append, List.nil_append, List.append_nil, List.length_cons, List.length_nil, true_or, or_true, eq_self, b01_0, b01_1, b01_2, b01_3, b01_4, Nat.zero_le, Nat.reduceAdd, Nat.reduceLeDiff, ↓reduceIte, not_true_eq_false, not_false_eq_true, Bool.false_eq_true]
  · intro k hk
    rw [gs_ne (by omega), gs_ne (by omega), gs_ne (by omega), gs_ne (by omega), gs_ne (by omega)]
end GR
/-- the first J joints, the rim among the first m needles -/
def gOK (R C J : Nat) (fi se lo hi : Nat → Int32) : Prop := ∀ j, j < J → fi j = nI (fs R C j) ∧ se j = nI (sn R C j) ∧ lo j = nI (min (s1 R C j) (s2 R C j)) ∧ hi j = nI (max (s1 R C j) (s2 R C j))
def rOK (R C m rim : Nat) : Prop := rim < 2 ^ m ∧ ∀ i, i < m → rim.testBit i = decide (i / C = 0 ∨ i / C = R - 1 ∨ i % C = 0 ∨ i % C = C - 1)
theorem gOK_s {R C J : Nat} {fi se lo hi : Nat → Int32} (h : gOK R C J fi se lo hi) {a b c d : Nat} (ha : a = fs R C J) (hb : b = sn R C J) (hc : c = s1 R C J) (hd : d = s2 R C J) : gOK R C (J + 1) (upd fi J (nI a)) (upd se J (nI b)) (upd lo J (nI (min c d))) (upd hi J (nI (max c d))) := by
  intro j hj
  by_cases e : j = J
  · subst e
    rw [pk_us, pk_us, pk_us, pk_us, ha, hb, hc, hd]
    exact ⟨rfl, rfl, rfl, rfl⟩
  · rw [pk_un e, pk_un e, pk_un e, pk_un e]
    exact h j (by omega)
theorem dm_1 {C r c : Nat} (hc : c < C) : (r * C + c) / C = r ∧ (r * C + c) % C = c := by
  constructor
  · rw [Nat.mul_comm, Nat.mul_add_div (by omega), Nat.div_eq_of_lt hc, Nat.add_zero]
  · rw [Nat.mul_comm, Nat.mul_add_mod, Nat.mod_eq_of_lt hc]
theorem rOK_s {R C rim r c : Nat} (hc : c < C) (h : rOK R C (r * C + c) rim) : rOK R C (r * C + (c + 1)) (if r = 0 ∨ r = R - 1 ∨ c = 0 ∨ c = C - 1 then rim ||| 2 ^ (r * C + c) else rim) := by
  obtain ⟨h1, h2⟩ := h
  obtain ⟨d1, d2⟩ := dm_1 (r := r) hc
  have hp : 2 ^ (r * C + c) < 2 ^ (r * C + c + 1) := Nat.pow_lt_pow_right (by decide) (by omega)
  rw [← Nat.add_assoc]
  by_cases e : r = 0 ∨ r = R - 1 ∨ c = 0 ∨ c = C - 1
  · rw [if_pos e]
    refine ⟨Nat.or_lt_two_pow (by omega) hp, fun i hi => ?_⟩
    rw [Nat.testBit_or, Nat.testBit_two_pow]
    by_cases q : i = r * C + c
    · subst q
      rw [d1, d2, decide_eq_true e, decide_eq_true rfl, Bool.or_true]
    · rw [decide_eq_false (show ¬ r * C + c = i by omega), Bool.or_false]
      exact h2 i (by omega)
  · rw [if_neg e]
    refine ⟨by omega, fun i hi => ?_⟩
    by_cases q : i = r * C + c
    · subst q
      rw [d1, d2, decide_eq_false e, Nat.testBit_lt_two_pow h1]
    · exact h2 i (by omega)
section LAY
variable {X : mc_X} {G : mc_H} {R C : Nat}
theorem lay1 (hs : sh R C) {r : Nat} (hr : r < R) {v0 v1 : Value} : ∀ {G : mc_H} {rim : Nat} {fi se lo hi : Nat → Int32}, gr G R C (r * (C - 1)) rim fi se lo hi → gOK R C (r * (C - 1)) fi se lo hi → rOK R C (r * C) rim → ∃ (G' : mc_H) (rim' : Nat) (fi' se' lo' hi' : Nat → Int32), mc_ev X 1 65 [.ref 2, v0, v1, .int (nI r), .int 0] [] G = mc_ev X 1 65 [.ref 2, v0, v1, .int (nI r), .int (nI C)] [] G' ∧ (∀ k, k < 2 ∨ 6 < k → G'[k]? = G[k]?) ∧ gr G' R C ((r + 1) * (C - 1)) rim' fi' se' lo' hi' ∧ gOK R C ((r + 1) * (C - 1)) fi' se' lo' hi' ∧ rOK R C ((r + 1) * C) rim' := by
  intro G rim fi se lo hi h1 h2 h3
  have hR := hs.2.1
  have hC1 := hs.2.2.1
  have hC := hs.2.2.2.1
  have hN := hs.2.2.2.2
  have hb := sh_b hs
  have hm : (r + 1) * C ≤ R * C := Nat.mul_le_mul_right C (by omega)
  have hm2 : (r + 1) * (C - 1) ≤ R * (C - 1) := Nat.mul_le_mul_right (C - 1) (by omega)
  rw [Nat.succ_mul] at hm hm2
  have hA : R * (C - 1) = nA R C := rfl
  obtain ⟨ls, G', ⟨hls, hag, rim', fi', se', lo', hi', g1, g2, g3⟩, hev⟩ := ev_inv (X := X) (k := 1) (pc := 65) (fun c ls G' => ls = [.ref 2, v0, v1, .int (nI r), .int (nI c)] ∧ (∀ k, k < 2 ∨ 6 < k → G'[k]? = G[k]?) ∧ ∃ (rim' : Nat) (fi' se' lo' hi' : Nat → Int32), gr G' R C (r * (C - 1) + min c (C - 1)) rim' fi' se' lo' hi' ∧ gOK R C (r * (C - 1) + min c (C - 1)) fi' se' lo' hi' ∧ rOK R C (r * C + c) rim') C (by
    intro c hc ls G' ⟨hls, hag, rim', fi', se', lo', hi', g1, g2, g3⟩
    subst hls
    have k1 : nI c < nI C := nI_lt hc (by omega)
    have mr := c_markRim (X := X) g1 hs hr hc (by omega)
    have g1' := gr_s2 g1 (r * (C - 1) + min c (C - 1)) (if r = 0 ∨ r = R - 1 ∨ c = 0 ∨ c = C - 1 then rim' ||| 2 ^ (r * C + c) else rim')
    have g3' := rOK_s hc g3
    by_cases c2 : c < C - 1
    · have k2 : nI c < nI (C - 1) := nI_lt c2 (by omega)
      have em : min c (C - 1) = c := by omega
      have em2 : min (c + 1) (C - 1) = c + 1 := by omega
      rw [em] at g1 g1' g2 mr
      have hJ : r * (C - 1) + c < nA R C := by omega
      obtain ⟨d1, d2⟩ := dm_1 (C := C - 1) (r := r) c2
      have q1 : r * C + c = fs R C (r * (C - 1) + c) := by unfold fs; rw [if_pos hJ, d1, d2]
      have q2 : r * C + c + 1 = sn R C (r * (C - 1) + c) := by unfold sn; rw [if_pos hJ, d1, d2]
      have q3 : fld R C r (c + 1) = s1 R C (r * (C - 1) + c) := by unfold s1; rw [if_pos hJ, d1, d2]
      have q4 : fld R C (r + 1) (c + 1) = s2 R C (r * (C - 1) + c) := by unfold s2; rw [if_pos hJ, d1, d2]
      have hfb := fs_b hs (j := r * (C - 1) + c) (by omega)
      have f1 := c_fieldAt (X := X) g1' hs (r := r) (c := c + 1) (by omega) (by omega)
      have f2 := c_fieldAt (X := X) g1' hs (r := r + 1) (c := c + 1) (by omega) (by omega)
      rw [nI_pred] at f1 f2
      rw [nI_pred] at f2
      obtain ⟨G2, a1, a2, a3⟩ := c_addJoint (X := X) g1' (by omega) (n := r * C + c) (s := 1) (f := fld R C r (c + 1)) (g := fld R C (r + 1) (c + 1)) (by omega) (by omega)
      refine ⟨[.ref 2, v0, v1, .int (nI r), .int (nI (c + 1))], G2, ⟨rfl, ?_, ?_⟩, ?_⟩
      · intro k hk
        rw [a2 k hk, gs_ne (by omega)]; exact hag k hk
      · rw [em2]
        exact ⟨_, _, _, _, _, a3, gOK_s g2 q1 q2 q3 q4, g3'⟩
      · have a1' : mc_ev X 4 0 [.ref 2, .int (nI (r * C + c)), .int 1, .int (nI (fld R C r (c + 1))), .int (nI (fld R C (r + 1) (c + 1)))] [] _ = _ := a1
        rw [h_1_65]
        simp only [e_1, gcc_f g1.1, k1, mr, gcc_f g1'.1, nI_m1 hC1, k2, pk_mul, nI_add, f1, f2, a1', nI_1, Option.bind_some, Option.toList_some, Option.toList_none, List.cons_append, List.nil_append, List.append_nil, List.length_cons, List.length_nil, true_or, or_true, eq_self, b01_0, b01_1, b01_2, b01_3, b01_4, Nat.zero_le, Nat.reduceAdd, Nat.reduceLeDiff, ↓reduceIte, not_true_eq_false, not_false_eq_true, Bool.false_eq_true]
    · have k2 : ¬ nI c < nI (C - 1) := nI_nlt (by omega) (by omega)
      have em : min c (C - 1) = C - 1 := by omega
      have em2 : min (c + 1) (C - 1) = C - 1 := by omega
      rw [em] at g1 g1' g2 mr
      refine ⟨[.ref 2, v0, v1, .int (nI r), .int (nI (c + 1))], G'.set 2 (gc R C (r * (C - 1) + (C - 1)) (if r = 0 ∨ r = R - 1 ∨ c = 0 ∨ c = C - 1 then rim' ||| 2 ^ (r * C + c) else rim')), ⟨rfl, ?_, ?_⟩, ?_⟩
      rotate_left
      · rw [em2]
        exact ⟨_, _, _, _, _, g1', g2, g3'⟩
      · rw [h_1_65]
        simp only [e_1, gcc_f g1.1, k1, mr, gcc_f g1'.1, nI_m1 hC1, k2, nI_1, Option.bind_some, Option.toList_some, Option.toList_none, List.cons_append, List.nil_append, List.append_nil, List.length_cons, List.length_nil, true_or, or_true, eq_self, b01_0, b01_1, b01_2, b01_3, b01_4, Nat.zero_le, Nat.reduceAdd, Nat.reduceLeDiff, ↓reduceIte, not_true_eq_false, not_false_eq_true, Bool.false_eq_true]
      · intro k hk
        rw [gs_ne (by omega)]; exact hag k hk) [.ref 2, v0, v1, .int (nI r), .int 0] G ⟨rfl, fun k _ => rfl, rim, fi, se, lo, hi, by rw [Nat.zero_min, Nat.add_zero]; exact h1, by rw [Nat.zero_min, Nat.add_zero]; exact h2, h3⟩
  subst hls
  have e1 : r * (C - 1) + min C (C - 1) = (r + 1) * (C - 1) := by rw [Nat.succ_mul]; omega
  have e2 : r * C + C = (r + 1) * C := by rw [Nat.succ_mul]
  rw [e1] at g1 g2
  rw [e2] at g3
  exact ⟨G', rim', fi', se', lo', hi', hev, hag, g1, g2, g3⟩
theorem lay2 (hs : sh R C) {r rim : Nat} (hr : r < R - 1) {v0 v1 : Value} : ∀ {G : mc_H} {fi se lo hi : Nat → Int32}, gr G R C (nA R C + r * C) rim fi se lo hi → gOK R C (nA R C + r * C) fi se lo hi → ∃ (G' : mc_H) (fi' se' lo' hi' : Nat → Int32), mc_ev X 1 149 [.ref 2, v0, v1, .int (nI r), .int 0] [] G = mc_ev X 1 149 [.ref 2, v0, v1, .int (nI r), .int (nI C)] [] G' ∧ (∀ k, k < 2 ∨ 6 < k → G'[k]? = G[k]?) ∧ gr G' R C (nA R C + (r + 1) * C) rim fi' se' lo' hi' ∧ gOK R C (nA R C + (r + 1) * C) fi' se' lo' hi' := by
  intro G fi se lo hi h1 h2
  have hR := hs.2.1
  have hC1 := hs.2.2.1
  have hC := hs.2.2.2.1
  have hN := hs.2.2.2.2
  have hb := sh_b hs
  have hm : (r + 1) * C ≤ (R - 1) * C := Nat.mul_le_mul_right C (by omega)
  rw [Nat.succ_mul] at hm
  have hJ2 : nJ R C = nA R C + (R - 1) * C := rfl
  obtain ⟨ls, G', ⟨hls, hag, fi', se', lo', hi', g1, g2⟩, hev⟩ := ev_inv (X := X) (k := 1) (pc := 149) (fun c ls G' => ls = [.ref 2, v0, v1, .int (nI r), .int (nI c)] ∧ (∀ k, k < 2 ∨ 6 < k → G'[k]? = G[k]?) ∧ ∃ (fi' se' lo' hi' : Nat → Int32), gr G' R C (nA R C + r * C + c) rim fi' se' lo' hi' ∧ gOK R C (nA R C + r * C + c) fi' se' lo' hi') C (by
    intro c hc ls G' ⟨hls, hag, fi', se', lo', hi', g1, g2⟩
    subst hls
    have k1 : nI c < nI C := nI_lt hc (by omega)
    obtain ⟨d1, d2⟩ := dm_1 (r := r) hc
    have hJ : ¬ nA R C + r * C + c < nA R C := by omega
    have es : nA R C + r * C + c - nA R C = r * C + c := by omega
    have q1 : r * C + c = fs R C (nA R C + r * C + c) := by unfold fs; rw [if_neg hJ, es]
    have q2 : r * C + c + C = sn R C (nA R C + r * C + c) := by unfold sn; rw [if_neg hJ, es]
    have q3 : fld R C (r + 1) c = s1 R C (nA R C + r * C + c) := by unfold s1; rw [if_neg hJ, es, d1, d2]
    have q4 : fld R C (r + 1) (c + 1) = s2 R C (nA R C + r * C + c) := by unfold s2; rw [if_neg hJ, es, d1, d2]
    have hfb := fs_b hs (j := nA R C + r * C + c) (by omega)
    have f1 := c_fieldAt (X := X) g1 hs (r := r + 1) (c := c) (by omega) (by omega)
    have f2 := c_fieldAt (X := X) g1 hs (r := r + 1) (c := c + 1) (by omega) (by omega)
    rw [nI_pred] at f1
    rw [nI_pred, nI_pred] at f2
    obtain ⟨G2, a1, a2, a3⟩ := c_addJoint (X := X) g1 (by omega) (n := r * C + c) (s := C) (f := fld R C (r + 1) c) (g := fld R C (r + 1) (c + 1)) (by omega) (by omega)
    refine ⟨[.ref 2, v0, v1, .int (nI r), .int (nI (c + 1))], G2, ⟨rfl, ?_, ?_⟩, ?_⟩
    · intro k hk
      rw [a2 k hk]; exact hag k hk
    · exact ⟨_, _, _, _, a3, gOK_s g2 q1 q2 q3 q4⟩
    · rw [h_1_149]
      simp only [e_1, gcc_f g1.1, k1, pk_mul, nI_add, f1, f2, a1, nI_1, Option.bind_some, Option.toList_some, Option.toList_none, List.cons_append, List.nil_append, List.append_nil, List.length_cons, List.length_nil, true_or, or_true, eq_self, b01_0, b01_1, b01_2, b01_3, b01_4, Nat.zero_le, Nat.reduceAdd, Nat.reduceLeDiff, ↓reduceIte, not_true_eq_false, not_false_eq_true, Bool.false_eq_true]) [.ref 2, v0, v1, .int (nI r), .int 0] G ⟨rfl, fun k _ => rfl, fi, se, lo, hi, h1, h2⟩
  subst hls
  have e1 : nA R C + r * C + C = nA R C + (r + 1) * C := by rw [Nat.succ_mul]; omega
  rw [e1] at g1 g2
  exact ⟨G', fi', se', lo', hi', hev, hag, g1, g2⟩
theorem c_layOut (hs : sh R C) {a0 a1 a2 a3 a4 a5 : Int32} {fi se lo hi : Nat → Int32} (h2 : G[2]? = some (gcc a0 a1 a2 a3 a4 a5)) (h3 : G[3]? = some (.inl (0, 17, fi))) (h4 : G[4]? = some (.inl (0, 17, se))) (h5 : G[5]? = some (.inl (0, 17, lo))) (h6 : G[6]? = some (.inl (0, 17, hi))) : ∃ (G' : mc_H) (rim' : Nat) (fi' se' lo' hi' : Nat → Int32), mc_ev X 1 0 [.ref 2, .int (nI R), .int (nI C), .null, .null] [] G = some (none, G') ∧ (∀ k, k < 2 ∨ 6 < k → G'[k]? = G[k]?) ∧ gr G' R C (nJ R C) rim' fi' se' lo' hi' ∧ gOK R C (nJ R C) fi' se' lo' hi' ∧ rOK R C (nN R C) rim' := by
  have hR := hs.2.1
  have hC1 := hs.2.2.1
  have hC := hs.2.2.2.1
  have hb := sh_b hs
  have t0 : ∀ c, (G.set 2 c)[2]? = some c := fun c => gs_self h2
  have w0 := gcc_w0 h2 (nI R)
  have w1 := gcc_w1 (t0 (gcc (nI R) a1 a2 a3 a4 a5)) (nI C)
  have w2 := gcc_w2 (t0 (gcc (nI R) (nI C) a2 a3 a4 a5)) (nI (R * C))
  have w3 := gcc_w4 (t0 (gcc (nI R) (nI C) (nI (R * C)) a3 a4 a5)) (nI ((R - 1) * (C - 1) + 1))
  have w4 := gcc_w3 (t0 (gcc (nI R) (nI C) (nI (R * C)) a3 (nI ((R - 1) * (C - 1) + 1)) a5)) 0
  have w5 := gcc_w5 (t0 (gcc (nI R) (nI C) (nI (R * C)) 0 (nI ((R - 1) * (C - 1) + 1)) a5)) 0
  rw [List.set_set] at w1 w2 w3 w4 w5
  have h0 : mc_ev X 1 0 [.ref 2, .int (nI R), .int (nI C), .null, .null] [] G = mc_ev X 1 54 [.ref 2, .int (nI R), .int (nI C), .int 0, .null] [] (G.set 2 (gc R C 0 0)) := by
    simp only [e_1, w0, w1, gcc_f (t0 (gcc (nI R) (nI C) a2 a3 a4 a5)), pk_mul, w2, gcc_f (t0 (gcc (nI R) (nI C) (nI (R * C)) a3 a4 a5)), nI_m1 hs.1, nI_m1 hC1, nI_1, w3, w4, w5, Option.bind_some, Option.toList_some, Option.toList_none, List.cons_append, List.nil_append, List.append_nil, List.length_cons, List.length_nil, true_or, or_true, eq_self, b01_0, b01_1, b01_2, b01_3, b01_4, Nat.zero_le, Nat.reduceAdd, Nat.reduceLeDiff, ↓reduceIte, not_true_eq_false, not_false_eq_true, Bool.false_eq_true]
    rfl
  have g0 : gr (G.set 2 (gc R C 0 0)) R C 0 0 fi se lo hi := ⟨gs_self h2, (gs_ne (by decide)).trans h3, (gs_ne (by decide)).trans h4, (gs_ne (by decide)).trans h5, (gs_ne (by decide)).trans h6⟩
  obtain ⟨ls, G1, ⟨⟨v, hls⟩, hag, rim', fi1, se1, lo1, hi1, g1, g2, g3⟩, hev⟩ := ev_inv (X := X) (k := 1) (pc := 54) (fun r ls G' => (∃ v, ls = [.ref 2, .int (nI R), .int (nI C), .int (nI r), v]) ∧ (∀ k, k < 2 ∨ 6 < k → G'[k]? = G[k]?) ∧ ∃ (rim' : Nat) (fi' se' lo' hi' : Nat → Int32), gr G' R C (r * (C - 1)) rim' fi' se' lo' hi' ∧ gOK R C (r * (C - 1)) fi' se' lo' hi' ∧ rOK R C (r * C) rim') R (by
    intro r hr ls G' ⟨⟨v, hls⟩, hag, rim', fi', se', lo', hi', g1, g2, g3⟩
    subst hls
    have k1 : nI r < nI R := nI_lt hr (by omega)
    have k2 : ¬ nI C < nI C := nI_nlt (Nat.le_refl _) (by omega)
    obtain ⟨G2, rim2, fi2, se2, lo2, hi2, b1, b2, b3, b4, b5⟩ := lay1 (X := X) hs hr (v0 := .int (nI R)) (v1 := .int (nI C)) g1 g2 g3
    refine ⟨[.ref 2, .int (nI R), .int (nI C), .int (nI (r + 1)), .int (nI C)], G2, ⟨⟨_, rfl⟩, fun k hk => (b2 k hk).trans (hag k hk), rim2, fi2, se2, lo2, hi2, b3, b4, b5⟩, ?_⟩
    rw [h_1_54]
    simp only [e_1, gcc_f g1.1, k1, Option.bind_some, Option.toList_some, Option.toList_none, List.cons_append, List.nil_append, List.append_nil, List.length_cons, List.length_nil, true_or, or_true, eq_self, b01_0, b01_1, b01_2, b01_3, b01_4, Nat.zero_le, Nat.reduceAdd, Nat.reduceLeDiff, ↓reduceIte, not_true_eq_false, not_false_eq_true, Bool.false_eq_true]
    rw [b1, h_1_65]
    simp only [e_1, gcc_f b3.1, k2, nI_1, Option.bind_some, Option.toList_some, Option.toList_none, List.cons_append, List.nil_append, List.append_nil, List.length_cons, List.length_nil, true_or, or_true, eq_self, b01_0, b01_1, b01_2, b01_3, b01_4, Nat.zero_le, Nat.reduceAdd, Nat.reduceLeDiff, ↓reduceIte, not_true_eq_false, not_false_eq_true, Bool.false_eq_true]) [.ref 2, .int (nI R), .int (nI C), .int 0, .null] (G.set 2 (gc R C 0 0)) ⟨⟨_, rfl⟩, fun k hk => gs_ne (by omega), 0, fi, se, lo, hi, by rw [Nat.zero_mul]; exact g0, by rw [Nat.zero_mul]; exact fun j hj => absurd hj (by omega), by rw [Nat.zero_mul]; exact ⟨by decide, fun i hi => absurd hi (by omega)⟩⟩
  subst hls
  have k3 : ¬ nI R < nI R := nI_nlt (Nat.le_refl _) (by omega)
  have h1 : mc_ev X 1 54 [.ref 2, .int (nI R), .int (nI C), .int (nI R), v] [] G1 = mc_ev X 1 136 [.ref 2, .int (nI R), .int (nI C), .int 0, v] [] G1 := by
    rw [h_1_54]
    simp only [e_1, gcc_f g1.1, k3, Option.bind_some, Option.toList_some, Option.toList_none, List.cons_append, List.nil_append, List.append_nil, List.length_cons, List.length_nil, true_or, or_true, eq_self, b01_0, b01_1, b01_2, b01_3, b01_4, Nat.zero_le, Nat.reduceAdd, Nat.reduceLeDiff, ↓reduceIte, not_true_eq_false, not_false_eq_true, Bool.false_eq_true]
  obtain ⟨ls, G3, ⟨⟨v', hls⟩, hag3, fi3, se3, lo3, hi3, g4, g5⟩, hev3⟩ := ev_inv (X := X) (k := 1) (pc := 136) (fun r ls G' => (∃ v, ls = [.ref 2, .int (nI R), .int (nI C), .int (nI r), v]) ∧ (∀ k, k < 2 ∨ 6 < k → G'[k]? = G[k]?) ∧ ∃ (fi' se' lo' hi' : Nat → Int32), gr G' R C (nA R C + r * C) rim' fi' se' lo' hi' ∧ gOK R C (nA R C + r * C) fi' se' lo' hi') (R - 1) (by
    intro r hr ls G' ⟨⟨v, hls⟩, hag, fi', se', lo', hi', g1, g2⟩
    subst hls
    have k1 : nI r < nI (R - 1) := nI_lt hr (by omega)
    have k2 : ¬ nI C < nI C := nI_nlt (Nat.le_refl _) (by omega)
    obtain ⟨G2, fi2, se2, lo2, hi2, b1, b2, b3, b4⟩ := lay2 (X := X) hs hr (v0 := .int (nI R)) (v1 := .int (nI C)) g1 g2
    refine ⟨[.ref 2, .int (nI R), .int (nI C), .int (nI (r + 1)), .int (nI C)], G2, ⟨⟨_, rfl⟩, fun k hk => (b2 k hk).trans (hag k hk), fi2, se2, lo2, hi2, b3, b4⟩, ?_⟩
    rw [h_1_136]
    simp only [e_1, gcc_f g1.1, nI_m1 hs.1, k1, Option.bind_some, Option.toList_some, Option.toList_none, List.cons_append, List.nil_append, List.append_nil, List.length_cons, List.length_nil, true_or, or_true, eq_self, b01_0, b01_1, b01_2, b01_3, b01_4, Nat.zero_le, Nat.reduceAdd, Nat.reduceLeDiff, ↓reduceIte, not_true_eq_false, not_false_eq_true, Bool.false_eq_true]
    rw [b1, h_1_149]
    simp only [e_1, gcc_f b3.1, k2, nI_1, Option.bind_some, Option.toList_some, Option.toList_none, List.cons_append, List.nil_append, List.append_nil, List.length_cons, List.length_nil, true_or, or_true, eq_self, b01_0, b01_1, b01_2, b01_3, b01_4, Nat.zero_le, Nat.reduceAdd, Nat.reduceLeDiff, ↓reduceIte, not_true_eq_false, not_false_eq_true, Bool.false_eq_true]) [.ref 2, .int (nI R), .int (nI C), .int 0, v] G1 ⟨⟨_, rfl⟩, hag, fi1, se1, lo1, hi1, by rw [Nat.zero_mul]; exact g1, by rw [Nat.zero_mul]; exact g2⟩
  subst hls
  have k4 : ¬ nI (R - 1) < nI (R - 1) := nI_nlt (Nat.le_refl _) (by omega)
  refine ⟨G3, rim', fi3, se3, lo3, hi3, ?_, hag3, g4, g5, g3⟩
  rw [h0, hev, h1, hev3, h_1_136]
  simp only [e_1, gcc_f g4.1, nI_m1 hs.1, k4, Option.bind_some, Option.toList_some, Option.toList_none, List.cons_append, List.nil_append, List.append_nil, List.length_cons, List.length_nil, true_or, or_true, eq_self, b01_0, b01_1, b01_2, b01_3, b01_4, Nat.zero_le, Nat.reduceAdd, Nat.reduceLeDiff, ↓reduceIte, not_true_eq_false, not_false_eq_true, Bool.false_eq_true]
end LAY
