/-! the law's loop, over any invariant I of the heap that every call keeps -/
section LAW
variable {L : Nat} {xs : Nat → Int32} {G : mc_H}
theorem lw_x {j : Nat} (hj : j < L) (hL : L ≤ 4096) : mc_getA (mc_X0 L xs) G 0 (.float 3) (nI j) = some (xs j) := by
  unfold mc_getA
  dsimp only
  rw [if_pos ⟨rfl, by decide, nI_in (N := L) hj (by omega)⟩]
  show some (xs (nI j).toNatClampNeg) = _
  rw [nI_clamp (by omega)]
theorem lw_len : mc_len (mc_X0 L xs) G (.float 3) = some (nI L) := rfl
theorem lw_p (i k : Nat) : nI i + nI k = nI (i + k) := nI_add i k
theorem lw_hd {i : Nat} (hL : L ≤ 4096) (hi : i + 8 ≤ L) : ¬ nI L - 8 < nI i := by
  have : nI L - 8 = nI (L - 8) := pk_sub (b := 8) (by omega)
  rw [this]; exact nI_nlt (by omega) (by omega)
theorem lw_ex {i : Nat} (hL : L ≤ 4096) (hi2 : i ≤ 4096) (hi : ¬ i + 8 ≤ L) : nI L - 8 < nI i := by
  rw [Int32.lt_iff_toInt_lt, nI_toInt (by omega)]
  have := pk_sub_toInt (a := L) (b := 8) (by omega) (by decide)
  have e : nI L - 8 = nI L - nI 8 := rfl
  rw [e, this]
  omega
def lw_fr (i : Nat) : List Value := [.float 3, .ref 0, .ref 90, .int (nI i)]
theorem lg_cmp_self (x : Int64) : lg_cmp x x = 0 := by simp [lg_cmp]
set_option maxHeartbeats 2000000 in
theorem lw_c0 {i : Nat} (hL : L ≤ 4096) (hi : i + 8 ≤ L) (hc : xs i &&& 63 = 0) {a0 a1 : Int32} (ha0 : xs (i + 1) = a0) (ha1 : xs (i + 2) = a1) (hG : mc_cls G 0 = some 7) {v : Int32} {G1 G2 : mc_H} (h1 : mc_ev (mc_X0 L xs) 61 0 [.ref 0, .int a0, .int a1] [] G = some (some (.int v), G1)) (h2 : mc_cls G1 90 = some 8) (h3 : mc_ev (mc_X0 L xs) 133 0 [.ref 90, .int a0, .int a1, .null] [] G1 = some (some (.int v), G2)) : mc_ev (mc_X0 L xs) 180 18 (lw_fr i) [] G = mc_ev (mc_X0 L xs) 180 18 (lw_fr (i + 8)) [] G2 := by
  unfold lw_fr
  have l0 := lw_x (xs := xs) (G := G) (j := i) (by omega) hL
  have l1 := lw_x (xs := xs) (G := G) (j := i + 1) (by omega) hL
  have m1 := lw_x (xs := xs) (G := G1) (j := i + 1) (by omega) hL
  have p1 : nI i + 1 = nI (i + 1) := nI_add i 1
  have l2 := lw_x (xs := xs) (G := G) (j := i + 2) (by omega) hL
  have m2 := lw_x (xs := xs) (G := G1) (j := i + 2) (by omega) hL
  have p2 : nI i + 2 = nI (i + 2) := nI_add i 2
  have p8 : nI i + 8 = nI (i + 8) := nI_add i 8
  rw [h_180_18]
  simp only [e_180_0, e_180_1, e_180_14, lw_len, lw_hd hL hi, l0, hc, l1, m1, p1, l2, m2, p2, p8, ha0, ha1, hG, h1, h2, h3, Option.bind_some, Option.toList_some, Option.toList_none, List.cons_append, List.nil_append, List.append_nil, List.length_cons, List.length_nil, true_or, or_true, eq_self, Nat.zero_le, Nat.reduceAdd, Nat.reduceLeDiff, ↓reduceIte]
set_option maxHeartbeats 2000000 in
theorem lw_c1 {i : Nat} (hL : L ≤ 4096) (hi : i + 8 ≤ L) (hc : xs i &&& 63 = 1) {a0 a1 : Int32} (ha0 : xs (i + 1) = a0) (ha1 : xs (i + 2) = a1) (hG : mc_cls G 0 = some 7) {v : Int32} {G1 G2 : mc_H} (h1 : mc_ev (mc_X0 L xs) 62 0 [.ref 0, .int a0, .int a1, .null] [] G = some (some (.int v), G1)) (h2 : mc_cls G1 90 = some 8) (h3 : mc_ev (mc_X0 L xs) 134 0 [.ref 90, .int a0, .int a1, .null, .null, .null] [] G1 = some (some (.int v), G2)) : mc_ev (mc_X0 L xs) 180 18 (lw_fr i) [] G = mc_ev (mc_X0 L xs) 180 18 (lw_fr (i + 8)) [] G2 := by
  unfold lw_fr
  have l0 := lw_x (xs := xs) (G := G) (j := i) (by omega) hL
  have l1 := lw_x (xs := xs) (G := G) (j := i + 1) (by omega) hL
  have m1 := lw_x (xs := xs) (G := G1) (j := i + 1) (by omega) hL
  have p1 : nI i + 1 = nI (i + 1) := nI_add i 1
  have l2 := lw_x (xs := xs) (G := G) (j := i + 2) (by omega) hL
  have m2 := lw_x (xs := xs) (G := G1) (j := i + 2) (by omega) hL
  have p2 : nI i + 2 = nI (i + 2) := nI_add i 2
  have p8 : nI i + 8 = nI (i + 8) := nI_add i 8
  rw [h_180_18]
  simp only [e_180_0, e_180_1, e_180_14, lw_len, lw_hd hL hi, l0, hc, l1, m1, p1, l2, m2, p2, p8, ha0, ha1, hG, h1, h2, h3, Option.bind_some, Option.toList_some, Option.toList_none, List.cons_append, List.nil_append, List.append_nil, List.length_cons, List.length_nil, true_or, or_true, eq_self, Nat.zero_le, Nat.reduceAdd, Nat.reduceLeDiff, ↓reduceIte]
set_option maxHeartbeats 2000000 in
theorem lw_c2 {i : Nat} (hL : L ≤ 4096) (hi : i + 8 ≤ L) (hc : xs i &&& 63 = 2) {a0 a1 : Int32} (ha0 : xs (i + 1) = a0) (ha1 : xs (i + 2) = a1) (hG : mc_cls G 0 = some 7) {v : Int32} {G1 G2 : mc_H} (h1 : mc_ev (mc_X0 L xs) 63 0 [.ref 0, .int a0, .int a1, .null] [] G = some (some (.int v), G1)) (h2 : mc_cls G1 90 = some 8) (h3 : mc_ev (mc_X0 L xs) 135 0 [.ref 90, .int a0, .int a1, .null] [] G1 = some (some (.int v), G2)) : mc_ev (mc_X0 L xs) 180 18 (lw_fr i) [] G = mc_ev (mc_X0 L xs) 180 18 (lw_fr (i + 8)) [] G2 := by
  unfold lw_fr
  have l0 := lw_x (xs := xs) (G := G) (j := i) (by omega) hL
  have l1 := lw_x (xs := xs) (G := G) (j := i + 1) (by omega) hL
  have m1 := lw_x (xs := xs) (G := G1) (j := i + 1) (by omega) hL
  have p1 : nI i + 1 = nI (i + 1) := nI_add i 1
  have l2 := lw_x (xs := xs) (G := G) (j := i + 2) (by omega) hL
  have m2 := lw_x (xs := xs) (G := G1) (j := i + 2) (by omega) hL
  have p2 : nI i + 2 = nI (i + 2) := nI_add i 2
  have p8 : nI i + 8 = nI (i + 8) := nI_add i 8
  rw [h_180_18]
  simp only [e_180_0, e_180_1, e_180_2, e_180_14, lw_len, lw_hd hL hi, l0, hc, l1, m1, p1, l2, m2, p2, p8, ha0, ha1, hG, h1, h2, h3, Option.bind_some, Option.toList_some, Option.toList_none, List.cons_append, List.nil_append, List.append_nil, List.length_cons, List.length_nil, true_or, or_true, eq_self, Nat.zero_le, Nat.reduceAdd, Nat.reduceLeDiff, ↓reduceIte]
set_option maxHeartbeats 2000000 in
theorem lw_c3 {i : Nat} (hL : L ≤ 4096) (hi : i + 8 ≤ L) (hc : xs i &&& 63 = 3) {a0 a1 : Int32} (ha0 : xs (i + 1) = a0) (ha1 : (if xs (i + 2) = 0 then (0 : Int32) else 1) = a1) (hG : mc_cls G 0 = some 7) {v : Int32} {G1 G2 : mc_H} (h1 : mc_ev (mc_X0 L xs) 64 0 [.ref 0, .int a0, .int a1, .null] [] G = some (some (.int v), G1)) (h2 : mc_cls G1 90 = some 8) (h3 : mc_ev (mc_X0 L xs) 136 0 [.ref 90, .int a0, .int a1, .null] [] G1 = some (some (.int v), G2)) : mc_ev (mc_X0 L xs) 180 18 (lw_fr i) [] G = mc_ev (mc_X0 L xs) 180 18 (lw_fr (i + 8)) [] G2 := by
  unfold lw_fr
  have l0 := lw_x (xs := xs) (G := G) (j := i) (by omega) hL
  have l1 := lw_x (xs := xs) (G := G) (j := i + 1) (by omega) hL
  have m1 := lw_x (xs := xs) (G := G1) (j := i + 1) (by omega) hL
  have p1 : nI i + 1 = nI (i + 1) := nI_add i 1
  have l2 := lw_x (xs := xs) (G := G) (j := i + 2) (by omega) hL
  have m2 := lw_x (xs := xs) (G := G1) (j := i + 2) (by omega) hL
  have p2 : nI i + 2 = nI (i + 2) := nI_add i 2
  have p8 : nI i + 8 = nI (i + 8) := nI_add i 8
  rw [h_180_18]
  by_cases cz : xs (i + 2) = 0
  · rw [if_pos cz] at ha1
    subst ha1
    simp only [e_180_0, e_180_2, e_180_14, lw_len, lw_hd hL hi, l0, hc, l1, m1, p1, l2, m2, p2, p8, ha0, cz, hG, h1, h2, h3, Option.bind_some, Option.toList_some, Option.toList_none, List.cons_append, List.nil_append, List.append_nil, List.length_cons, List.length_nil, true_or, or_true, eq_self, Nat.zero_le, Nat.reduceAdd, Nat.reduceLeDiff, ↓reduceIte]
  · rw [if_neg cz] at ha1
    subst ha1
    simp only [e_180_0, e_180_2, e_180_14, lw_len, lw_hd hL hi, l0, hc, l1, m1, p1, l2, m2, p2, p8, ha0, cz, hG, h1, h2, h3, Option.bind_some, Option.toList_some, Option.toList_none, List.cons_append, List.nil_append, List.append_nil, List.length_cons, List.length_nil, true_or, or_true, eq_self, Nat.zero_le, Nat.reduceAdd, Nat.reduceLeDiff, ↓reduceIte]
set_option maxHeartbeats 2000000 in
theorem lw_c4 {i : Nat} (hL : L ≤ 4096) (hi : i + 8 ≤ L) (hc : xs i &&& 63 = 4) {a0 : Int32} (ha0 : xs (i + 1) = a0) (hG : mc_cls G 0 = some 7) {v : Int32} {G1 G2 : mc_H} (h1 : mc_ev (mc_X0 L xs) 65 0 [.ref 0, .int a0, .null] [] G = some (some (.int v), G1)) (h2 : mc_cls G1 90 = some 8) (h3 : mc_ev (mc_X0 L xs) 137 0 [.ref 90, .int a0, .null] [] G1 = some (some (.int v), G2)) : mc_ev (mc_X0 L xs) 180 18 (lw_fr i) [] G = mc_ev (mc_X0 L xs) 180 18 (lw_fr (i + 8)) [] G2 := by
  unfold lw_fr
  have l0 := lw_x (xs := xs) (G := G) (j := i) (by omega) hL
  have l1 := lw_x (xs := xs) (G := G) (j := i + 1) (by omega) hL
  have m1 := lw_x (xs := xs) (G := G1) (j := i + 1) (by omega) hL
  have p1 : nI i + 1 = nI (i + 1) := nI_add i 1
  have p8 : nI i + 8 = nI (i + 8) := nI_add i 8
  rw [h_180_18]
  simp only [e_180_0, e_180_2, e_180_3, e_180_14, lw_len, lw_hd hL hi, l0, hc, l1, m1, p1, p8, ha0, hG, h1, h2, h3, Option.bind_some, Option.toList_some, Option.toList_none, List.cons_append, List.nil_append, List.append_nil, List.length_cons, List.length_nil, true_or, or_true, eq_self, Nat.zero_le, Nat.reduceAdd, Nat.reduceLeDiff, ↓reduceIte]
set_option maxHeartbeats 2000000 in
theorem lw_c5 {i : Nat} (hL : L ≤ 4096) (hi : i + 8 ≤ L) (hc : xs i &&& 63 = 5) {a0 : Int32} (ha0 : xs (i + 1) = a0) (hG : mc_cls G 0 = some 7) {v : Int32} {G1 G2 : mc_H} (h1 : mc_ev (mc_X0 L xs) 66 0 [.ref 0, .int a0, .null] [] G = some (some (.int v), G1)) (h2 : mc_cls G1 90 = some 8) (h3 : mc_ev (mc_X0 L xs) 138 0 [.ref 90, .int a0, .null, .null] [] G1 = some (some (.int v), G2)) : mc_ev (mc_X0 L xs) 180 18 (lw_fr i) [] G = mc_ev (mc_X0 L xs) 180 18 (lw_fr (i + 8)) [] G2 := by
  unfold lw_fr
  have l0 := lw_x (xs := xs) (G := G) (j := i) (by omega) hL
  have l1 := lw_x (xs := xs) (G := G) (j := i + 1) (by omega) hL
  have m1 := lw_x (xs := xs) (G := G1) (j := i + 1) (by omega) hL
  have p1 : nI i + 1 = nI (i + 1) := nI_add i 1
  have p8 : nI i + 8 = nI (i + 8) := nI_add i 8
  rw [h_180_18]
  simp only [e_180_0, e_180_3, e_180_14, lw_len, lw_hd hL hi, l0, hc, l1, m1, p1, p8, ha0, hG, h1, h2, h3, Option.bind_some, Option.toList_some, Option.toList_none, List.cons_append, List.nil_append, List.append_nil, List.length_cons, List.length_nil, true_or, or_true, eq_self, Nat.zero_le, Nat.reduceAdd, Nat.reduceLeDiff, ↓reduceIte]
set_option maxHeartbeats 2000000 in
theorem lw_c6 {i : Nat} (hL : L ≤ 4096) (hi : i + 8 ≤ L) (hc : xs i &&& 63 = 6) {a0 a1 : Int32} (ha0 : xs (i + 1) = a0) (ha1 : xs (i + 2) = a1) (hG : mc_cls G 0 = some 7) {v : Int32} {G1 G2 : mc_H} (h1 : mc_ev (mc_X0 L xs) 67 0 [.ref 0, .int a0, .int a1, .null] [] G = some (some (.int v), G1)) (h2 : mc_cls G1 90 = some 8) (h3 : mc_ev (mc_X0 L xs) 139 0 [.ref 90, .int a0, .int a1, .null] [] G1 = some (some (.int v), G2)) : mc_ev (mc_X0 L xs) 180 18 (lw_fr i) [] G = mc_ev (mc_X0 L xs) 180 18 (lw_fr (i + 8)) [] G2 := by
  unfold lw_fr
  have l0 := lw_x (xs := xs) (G := G) (j := i) (by omega) hL
  have l1 := lw_x (xs := xs) (G := G) (j := i + 1) (by omega) hL
  have m1 := lw_x (xs := xs) (G := G1) (j := i + 1) (by omega) hL
  have p1 : nI i + 1 = nI (i + 1) := nI_add i 1
  have l2 := lw_x (xs := xs) (G := G) (j := i + 2) (by omega) hL
  have m2 := lw_x (xs := xs) (G := G1) (j := i + 2) (by omega) hL
  have p2 : nI i + 2 = nI (i + 2) := nI_add i 2
  have p8 : nI i + 8 = nI (i + 8) := nI_add i 8
  rw [h_180_18]
  simp only [e_180_0, e_180_3, e_180_14, lw_len, lw_hd hL hi, l0, hc, l1, m1, p1, l2, m2, p2, p8, ha0, ha1, hG, h1, h2, h3, Option.bind_some, Option.toList_some, Option.toList_none, List.cons_append, List.nil_append, List.append_nil, List.length_cons, List.length_nil, true_or, or_true, eq_self, Nat.zero_le, Nat.reduceAdd, Nat.reduceLeDiff, ↓reduceIte]
set_option maxHeartbeats 2000000 in
theorem lw_c7 {i : Nat} (hL : L ≤ 4096) (hi : i + 8 ≤ L) (hc : xs i &&& 63 = 7) {a0 : Int32} (ha0 : xs (i + 1) = a0) (hG : mc_cls G 0 = some 7) {v : Int32} {G1 G2 : mc_H} (h1 : mc_ev (mc_X0 L xs) 68 0 [.ref 0, .int a0, .null] [] G = some (some (.int v), G1)) (h2 : mc_cls G1 90 = some 8) (h3 : mc_ev (mc_X0 L xs) 140 0 [.ref 90, .int a0, .null] [] G1 = some (some (.int v), G2)) : mc_ev (mc_X0 L xs) 180 18 (lw_fr i) [] G = mc_ev (mc_X0 L xs) 180 18 (lw_fr (i + 8)) [] G2 := by
  unfold lw_fr
  have l0 := lw_x (xs := xs) (G := G) (j := i) (by omega) hL
  have l1 := lw_x (xs := xs) (G := G) (j := i + 1) (by omega) hL
  have m1 := lw_x (xs := xs) (G := G1) (j := i + 1) (by omega) hL
  have p1 : nI i + 1 = nI (i + 1) := nI_add i 1
  have p8 : nI i + 8 = nI (i + 8) := nI_add i 8
  rw [h_180_18]
  simp only [e_180_0, e_180_3, e_180_4, e_180_14, lw_len, lw_hd hL hi, l0, hc, l1, m1, p1, p8, ha0, hG, h1, h2, h3, Option.bind_some, Option.toList_some, Option.toList_none, List.cons_append, List.nil_append, List.append_nil, List.length_cons, List.length_nil, true_or, or_true, eq_self, Nat.zero_le, Nat.reduceAdd, Nat.reduceLeDiff, ↓reduceIte]
set_option maxHeartbeats 2000000 in
theorem lw_c8 {i : Nat} (hL : L ≤ 4096) (hi : i + 8 ≤ L) (hc : xs i &&& 63 = 8)  (hG : mc_cls G 0 = some 7) {v : Int32} {G1 G2 : mc_H} (h1 : mc_ev (mc_X0 L xs) 69 0 [.ref 0, .null, .null] [] G = some (some (.int v), G1)) (h2 : mc_cls G1 90 = some 8) (h3 : mc_ev (mc_X0 L xs) 141 0 [.ref 90, .null, .null, .null, .null] [] G1 = some (some (.int v), G2)) : mc_ev (mc_X0 L xs) 180 18 (lw_fr i) [] G = mc_ev (mc_X0 L xs) 180 18 (lw_fr (i + 8)) [] G2 := by
  unfold lw_fr
  have l0 := lw_x (xs := xs) (G := G) (j := i) (by omega) hL
  have p8 : nI i + 8 = nI (i + 8) := nI_add i 8
  rw [h_180_18]
  simp only [e_180_0, e_180_4, e_180_14, lw_len, lw_hd hL hi, l0, hc, p8, hG, h1, h2, h3, Option.bind_some, Option.toList_some, Option.toList_none, List.cons_append, List.nil_append, List.append_nil, List.length_cons, List.length_nil, true_or, or_true, eq_self, Nat.zero_le, Nat.reduceAdd, Nat.reduceLeDiff, ↓reduceIte]
set_option maxHeartbeats 2000000 in
theorem lw_c9 {i : Nat} (hL : L ≤ 4096) (hi : i + 8 ≤ L) (hc : xs i &&& 63 = 9)  (hG : mc_cls G 0 = some 7) {v : Int32} {G1 G2 : mc_H} (h1 : mc_ev (mc_X0 L xs) 70 0 [.ref 0] [] G = some (some (.int v), G1)) (h2 : mc_cls G1 90 = some 8) (h3 : mc_ev (mc_X0 L xs) 142 0 [.ref 90, .null, .null] [] G1 = some (some (.int v), G2)) : mc_ev (mc_X0 L xs) 180 18 (lw_fr i) [] G = mc_ev (mc_X0 L xs) 180 18 (lw_fr (i + 8)) [] G2 := by
  unfold lw_fr
  have l0 := lw_x (xs := xs) (G := G) (j := i) (by omega) hL
  have p8 : nI i + 8 = nI (i + 8) := nI_add i 8
  rw [h_180_18]
  simp only [e_180_0, e_180_4, e_180_14, lw_len, lw_hd hL hi, l0, hc, p8, hG, h1, h2, h3, Option.bind_some, Option.toList_some, Option.toList_none, List.cons_append, List.nil_append, List.append_nil, List.length_cons, List.length_nil, true_or, or_true, eq_self, Nat.zero_le, Nat.reduceAdd, Nat.reduceLeDiff, ↓reduceIte]
set_option maxHeartbeats 2000000 in
theorem lw_c10 {i : Nat} (hL : L ≤ 4096) (hi : i + 8 ≤ L) (hc : xs i &&& 63 = 10) {a0 : Int32} (ha0 : xs (i + 1) = a0) (hG : mc_cls G 0 = some 7) {v : Int32} {G1 G2 : mc_H} (h1 : mc_ev (mc_X0 L xs) 71 0 [.ref 0, .int a0, .null] [] G = some (some (.int v), G1)) (h2 : mc_cls G1 90 = some 8) (h3 : mc_ev (mc_X0 L xs) 143 0 [.ref 90, .int a0, .null] [] G1 = some (some (.int v), G2)) : mc_ev (mc_X0 L xs) 180 18 (lw_fr i) [] G = mc_ev (mc_X0 L xs) 180 18 (lw_fr (i + 8)) [] G2 := by
  unfold lw_fr
  have l0 := lw_x (xs := xs) (G := G) (j := i) (by omega) hL
  have l1 := lw_x (xs := xs) (G := G) (j := i + 1) (by omega) hL
  have m1 := lw_x (xs := xs) (G := G1) (j := i + 1) (by omega) hL
  have p1 : nI i + 1 = nI (i + 1) := nI_add i 1
  have p8 : nI i + 8 = nI (i + 8) := nI_add i 8
  rw [h_180_18]
  simp only [e_180_0, e_180_4, e_180_14, lw_len, lw_hd hL hi, l0, hc, l1, m1, p1, p8, ha0, hG, h1, h2, h3, Option.bind_some, Option.toList_some, Option.toList_none, List.cons_append, List.nil_append, List.append_nil, List.length_cons, List.length_nil, true_or, or_true, eq_self, Nat.zero_le, Nat.reduceAdd, Nat.reduceLeDiff, ↓reduceIte]
set_option maxHeartbeats 2000000 in
theorem lw_c11 {i : Nat} (hL : L ≤ 4096) (hi : i + 8 ≤ L) (hc : xs i &&& 63 = 11) {a0 : Int32} (ha0 : xs (i + 1) = a0) (hG : mc_cls G 0 = some 7) {v : Int32} {G1 G2 : mc_H} (h1 : mc_ev (mc_X0 L xs) 72 0 [.ref 0, .int a0, .null] [] G = some (some (.int v), G1)) (h2 : mc_cls G1 90 = some 8) (h3 : mc_ev (mc_X0 L xs) 144 0 [.ref 90, .int a0] [] G1 = some (some (.int v), G2)) : mc_ev (mc_X0 L xs) 180 18 (lw_fr i) [] G = mc_ev (mc_X0 L xs) 180 18 (lw_fr (i + 8)) [] G2 := by
  unfold lw_fr
  have l0 := lw_x (xs := xs) (G := G) (j := i) (by omega) hL
  have l1 := lw_x (xs := xs) (G := G) (j := i + 1) (by omega) hL
  have m1 := lw_x (xs := xs) (G := G1) (j := i + 1) (by omega) hL
  have p1 : nI i + 1 = nI (i + 1) := nI_add i 1
  have p8 : nI i + 8 = nI (i + 8) := nI_add i 8
  rw [h_180_18]
  simp only [e_180_0, e_180_4, e_180_14, lw_len, lw_hd hL hi, l0, hc, l1, m1, p1, p8, ha0, hG, h1, h2, h3, Option.bind_some, Option.toList_some, Option.toList_none, List.cons_append, List.nil_append, List.append_nil, List.length_cons, List.length_nil, true_or, or_true, eq_self, Nat.zero_le, Nat.reduceAdd, Nat.reduceLeDiff, ↓reduceIte]
set_option maxHeartbeats 2000000 in
theorem lw_c12 {i : Nat} (hL : L ≤ 4096) (hi : i + 8 ≤ L) (hc : xs i &&& 63 = 12) {a0 a1 : Int32} (ha0 : xs (i + 1) = a0) (ha1 : xs (i + 2) = a1) (hG : mc_cls G 0 = some 7) {v : Int32} {G1 G2 : mc_H} (h1 : mc_ev (mc_X0 L xs) 73 0 [.ref 0, .int a0, .int a1] [] G = some (some (.int v), G1)) (h2 : mc_cls G1 90 = some 8) (h3 : mc_ev (mc_X0 L xs) 145 0 [.ref 90, .int a0, .int a1] [] G1 = some (some (.int v), G2)) : mc_ev (mc_X0 L xs) 180 18 (lw_fr i) [] G = mc_ev (mc_X0 L xs) 180 18 (lw_fr (i + 8)) [] G2 := by
  unfold lw_fr
  have l0 := lw_x (xs := xs) (G := G) (j := i) (by omega) hL
  have l1 := lw_x (xs := xs) (G := G) (j := i + 1) (by omega) hL
  have m1 := lw_x (xs := xs) (G := G1) (j := i + 1) (by omega) hL
  have p1 : nI i + 1 = nI (i + 1) := nI_add i 1
  have l2 := lw_x (xs := xs) (G := G) (j := i + 2) (by omega) hL
  have m2 := lw_x (xs := xs) (G := G1) (j := i + 2) (by omega) hL
  have p2 : nI i + 2 = nI (i + 2) := nI_add i 2
  have p8 : nI i + 8 = nI (i + 8) := nI_add i 8
  rw [h_180_18]
  simp only [e_180_0, e_180_4, e_180_5, e_180_14, lw_len, lw_hd hL hi, l0, hc, l1, m1, p1, l2, m2, p2, p8, ha0, ha1, hG, h1, h2, h3, Option.bind_some, Option.toList_some, Option.toList_none, List.cons_append, List.nil_append, List.append_nil, List.length_cons, List.length_nil, true_or, or_true, eq_self, Nat.zero_le, Nat.reduceAdd, Nat.reduceLeDiff, ↓reduceIte]
set_option maxHeartbeats 2000000 in
theorem lw_c13 {i : Nat} (hL : L ≤ 4096) (hi : i + 8 ≤ L) (hc : xs i &&& 63 = 13) {a0 a1 : Int32} (ha0 : xs (i + 1) = a0) (ha1 : xs (i + 2) = a1) (hG : mc_cls G 0 = some 7) {v : Int32} {G1 G2 : mc_H} (h1 : mc_ev (mc_X0 L xs) 74 0 [.ref 0, .int a0, .int a1] [] G = some (some (.int v), G1)) (h2 : mc_cls G1 90 = some 8) (h3 : mc_ev (mc_X0 L xs) 146 0 [.ref 90, .int a0, .int a1, .null, .null, .null, .null, .null, .null] [] G1 = some (some (.int v), G2)) : mc_ev (mc_X0 L xs) 180 18 (lw_fr i) [] G = mc_ev (mc_X0 L xs) 180 18 (lw_fr (i + 8)) [] G2 := by
  unfold lw_fr
  have l0 := lw_x (xs := xs) (G := G) (j := i) (by omega) hL
  have l1 := lw_x (xs := xs) (G := G) (j := i + 1) (by omega) hL
  have m1 := lw_x (xs := xs) (G := G1) (j := i + 1) (by omega) hL
  have p1 : nI i + 1 = nI (i + 1) := nI_add i 1
  have l2 := lw_x (xs := xs) (G := G) (j := i + 2) (by omega) hL
  have m2 := lw_x (xs := xs) (G := G1) (j := i + 2) (by omega) hL
  have p2 : nI i + 2 = nI (i + 2) := nI_add i 2
  have p8 : nI i + 8 = nI (i + 8) := nI_add i 8
  rw [h_180_18]
  simp only [e_180_0, e_180_5, e_180_14, lw_len, lw_hd hL hi, l0, hc, l1, m1, p1, l2, m2, p2, p8, ha0, ha1, hG, h1, h2, h3, Option.bind_some, Option.toList_some, Option.toList_none, List.cons_append, List.nil_append, List.append_nil, List.length_cons, List.length_nil, true_or, or_true, eq_self, Nat.zero_le, Nat.reduceAdd, Nat.reduceLeDiff, ↓reduceIte]
set_option maxHeartbeats 2000000 in
theorem lw_c14 {i : Nat} (hL : L ≤ 4096) (hi : i + 8 ≤ L) (hc : xs i &&& 63 = 14)  (hG : mc_cls G 0 = some 7) {v : Int32} {G1 G2 : mc_H} (h1 : mc_ev (mc_X0 L xs) 75 0 [.ref 0] [] G = some (some (.int v), G1)) (h2 : mc_cls G1 90 = some 8) (h3 : mc_ev (mc_X0 L xs) 147 0 [.ref 90] [] G1 = some (some (.int v), G2)) : mc_ev (mc_X0 L xs) 180 18 (lw_fr i) [] G = mc_ev (mc_X0 L xs) 180 18 (lw_fr (i + 8)) [] G2 := by
  unfold lw_fr
  have l0 := lw_x (xs := xs) (G := G) (j := i) (by omega) hL
  have p8 : nI i + 8 = nI (i + 8) := nI_add i 8
  rw [h_180_18]
  simp only [e_180_0, e_180_5, e_180_14, lw_len, lw_hd hL hi, l0, hc, p8, hG, h1, h2, h3, Option.bind_some, Option.toList_some, Option.toList_none, List.cons_append, List.nil_append, List.append_nil, List.length_cons, List.length_nil, true_or, or_true, eq_self, Nat.zero_le, Nat.reduceAdd, Nat.reduceLeDiff, ↓reduceIte]
set_option maxHeartbeats 2000000 in
theorem lw_c15 {i : Nat} (hL : L ≤ 4096) (hi : i + 8 ≤ L) (hc : xs i &&& 63 = 15) {a0 : Int32} (ha0 : xs (i + 1) = a0) (hG : mc_cls G 0 = some 7) {v : Int32} {G1 G2 : mc_H} (h1 : mc_ev (mc_X0 L xs) 76 0 [.ref 0, .int a0] [] G = some (some (.int v), G1)) (h2 : mc_cls G1 90 = some 8) (h3 : mc_ev (mc_X0 L xs) 149 0 [.ref 90, .int a0] [] G1 = some (some (.int v), G2)) : mc_ev (mc_X0 L xs) 180 18 (lw_fr i) [] G = mc_ev (mc_X0 L xs) 180 18 (lw_fr (i + 8)) [] G2 := by
  unfold lw_fr
  have l0 := lw_x (xs := xs) (G := G) (j := i) (by omega) hL
  have l1 := lw_x (xs := xs) (G := G) (j := i + 1) (by omega) hL
  have m1 := lw_x (xs := xs) (G := G1) (j := i + 1) (by omega) hL
  have p1 : nI i + 1 = nI (i + 1) := nI_add i 1
  have p8 : nI i + 8 = nI (i + 8) := nI_add i 8
  rw [h_180_18]
  simp only [e_180_0, e_180_5, e_180_6, e_180_14, lw_len, lw_hd hL hi, l0, hc, l1, m1, p1, p8, ha0, hG, h1, h2, h3, Option.bind_some, Option.toList_some, Option.toList_none, List.cons_append, List.nil_append, List.append_nil, List.length_cons, List.length_nil, true_or, or_true, eq_self, Nat.zero_le, Nat.reduceAdd, Nat.reduceLeDiff, ↓reduceIte]
set_option maxHeartbeats 2000000 in
theorem lw_c16 {i : Nat} (hL : L ≤ 4096) (hi : i + 8 ≤ L) (hc : xs i &&& 63 = 16) {a0 a1 : Int32} (ha0 : xs (i + 1) = a0) (ha1 : xs (i + 2) = a1) (hG : mc_cls G 0 = some 7) {v : Int32} {G1 G2 : mc_H} (h1 : mc_ev (mc_X0 L xs) 77 0 [.ref 0, .int a0, .int a1] [] G = some (some (.int v), G1)) (h2 : mc_cls G1 90 = some 8) (h3 : mc_ev (mc_X0 L xs) 151 0 [.ref 90, .int a0, .int a1] [] G1 = some (some (.int v), G2)) : mc_ev (mc_X0 L xs) 180 18 (lw_fr i) [] G = mc_ev (mc_X0 L xs) 180 18 (lw_fr (i + 8)) [] G2 := by
  unfold lw_fr
  have l0 := lw_x (xs := xs) (G := G) (j := i) (by omega) hL
  have l1 := lw_x (xs := xs) (G := G) (j := i + 1) (by omega) hL
  have m1 := lw_x (xs := xs) (G := G1) (j := i + 1) (by omega) hL
  have p1 : nI i + 1 = nI (i + 1) := nI_add i 1
  have l2 := lw_x (xs := xs) (G := G) (j := i + 2) (by omega) hL
  have m2 := lw_x (xs := xs) (G := G1) (j := i + 2) (by omega) hL
  have p2 : nI i + 2 = nI (i + 2) := nI_add i 2
  have p8 : nI i + 8 = nI (i + 8) := nI_add i 8
  rw [h_180_18]
  simp only [e_180_0, e_180_6, e_180_14, lw_len, lw_hd hL hi, l0, hc, l1, m1, p1, l2, m2, p2, p8, ha0, ha1, hG, h1, h2, h3, Option.bind_some, Option.toList_some, Option.toList_none, List.cons_append, List.nil_append, List.append_nil, List.length_cons, List.length_nil, true_or, or_true, eq_self, Nat.zero_le, Nat.reduceAdd, Nat.reduceLeDiff, ↓reduceIte]
set_option maxHeartbeats 2000000 in
theorem lw_c17 {i : Nat} (hL : L ≤ 4096) (hi : i + 8 ≤ L) (hc : xs i &&& 63 = 17)  (hG : mc_cls G 0 = some 7) {v : Int32} {G1 G2 : mc_H} (h1 : mc_ev (mc_X0 L xs) 78 0 [.ref 0] [] G = some (some (.int v), G1)) (h2 : mc_cls G1 90 = some 8) (h3 : mc_ev (mc_X0 L xs) 152 0 [.ref 90, .null, .null, .null, .null, .null] [] G1 = some (some (.int v), G2)) : mc_ev (mc_X0 L xs) 180 18 (lw_fr i) [] G = mc_ev (mc_X0 L xs) 180 18 (lw_fr (i + 8)) [] G2 := by
  unfold lw_fr
  have l0 := lw_x (xs := xs) (G := G) (j := i) (by omega) hL
  have p8 : nI i + 8 = nI (i + 8) := nI_add i 8
  rw [h_180_18]
  simp only [e_180_0, e_180_6, e_180_14, lw_len, lw_hd hL hi, l0, hc, p8, hG, h1, h2, h3, Option.bind_some, Option.toList_some, Option.toList_none, List.cons_append, List.nil_append, List.append_nil, List.length_cons, List.length_nil, true_or, or_true, eq_self, Nat.zero_le, Nat.reduceAdd, Nat.reduceLeDiff, ↓reduceIte]
set_option maxHeartbeats 2000000 in
theorem lw_c18 {i : Nat} (hL : L ≤ 4096) (hi : i + 8 ≤ L) (hc : xs i &&& 63 = 18) {a0 : Int32} (ha0 : xs (i + 1) = a0) (hG : mc_cls G 0 = some 7) {v : Int32} {G1 G2 : mc_H} (h1 : mc_ev (mc_X0 L xs) 79 0 [.ref 0, .int a0] [] G = some (some (.int v), G1)) (h2 : mc_cls G1 90 = some 8) (h3 : mc_ev (mc_X0 L xs) 153 0 [.ref 90, .int a0] [] G1 = some (some (.int v), G2)) : mc_ev (mc_X0 L xs) 180 18 (lw_fr i) [] G = mc_ev (mc_X0 L xs) 180 18 (lw_fr (i + 8)) [] G2 := by
  unfold lw_fr
  have l0 := lw_x (xs := xs) (G := G) (j := i) (by omega) hL
  have l1 := lw_x (xs := xs) (G := G) (j := i + 1) (by omega) hL
  have m1 := lw_x (xs := xs) (G := G1) (j := i + 1) (by omega) hL
  have p1 : nI i + 1 = nI (i + 1) := nI_add i 1
  have p8 : nI i + 8 = nI (i + 8) := nI_add i 8
  rw [h_180_18]
  simp only [e_180_0, e_180_6, e_180_7, e_180_14, lw_len, lw_hd hL hi, l0, hc, l1, m1, p1, p8, ha0, hG, h1, h2, h3, Option.bind_some, Option.toList_some, Option.toList_none, List.cons_append, List.nil_append, List.append_nil, List.length_cons, List.length_nil, true_or, or_true, eq_self, Nat.zero_le, Nat.reduceAdd, Nat.reduceLeDiff, ↓reduceIte]
set_option maxHeartbeats 2000000 in
theorem lw_c19 {i : Nat} (hL : L ≤ 4096) (hi : i + 8 ≤ L) (hc : xs i &&& 63 = 19)  (hG : mc_cls G 0 = some 7) {v : Int32} {G1 G2 : mc_H} (h1 : mc_ev (mc_X0 L xs) 80 0 [.ref 0] [] G = some (some (.int v), G1)) (h2 : mc_cls G1 90 = some 8) (h3 : mc_ev (mc_X0 L xs) 155 0 [.ref 90] [] G1 = some (some (.int v), G2)) : mc_ev (mc_X0 L xs) 180 18 (lw_fr i) [] G = mc_ev (mc_X0 L xs) 180 18 (lw_fr (i + 8)) [] G2 := by
  unfold lw_fr
  have l0 := lw_x (xs := xs) (G := G) (j := i) (by omega) hL
  have p8 : nI i + 8 = nI (i + 8) := nI_add i 8
  rw [h_180_18]
  simp only [e_180_0, e_180_7, e_180_14, lw_len, lw_hd hL hi, l0, hc, p8, hG, h1, h2, h3, Option.bind_some, Option.toList_some, Option.toList_none, List.cons_append, List.nil_append, List.append_nil, List.length_cons, List.length_nil, true_or, or_true, eq_self, Nat.zero_le, Nat.reduceAdd, Nat.reduceLeDiff, ↓reduceIte]
set_option maxHeartbeats 2000000 in
theorem lw_c20 {i : Nat} (hL : L ≤ 4096) (hi : i + 8 ≤ L) (hc : xs i &&& 63 = 20)  (hG : mc_cls G 0 = some 7) {v : Int32} {G1 G2 : mc_H} (h1 : mc_ev (mc_X0 L xs) 81 0 [.ref 0, .null] [] G = some (some (.int v), G1)) (h2 : mc_cls G1 90 = some 8) (h3 : mc_ev (mc_X0 L xs) 157 0 [.ref 90] [] G1 = some (some (.int v), G2)) : mc_ev (mc_X0 L xs) 180 18 (lw_fr i) [] G = mc_ev (mc_X0 L xs) 180 18 (lw_fr (i + 8)) [] G2 := by
  unfold lw_fr
  have l0 := lw_x (xs := xs) (G := G) (j := i) (by omega) hL
  have p8 : nI i + 8 = nI (i + 8) := nI_add i 8
  rw [h_180_18]
  simp only [e_180_0, e_180_7, e_180_14, lw_len, lw_hd hL hi, l0, hc, p8, hG, h1, h2, h3, Option.bind_some, Option.toList_some, Option.toList_none, List.cons_append, List.nil_append, List.append_nil, List.length_cons, List.length_nil, true_or, or_true, eq_self, Nat.zero_le, Nat.reduceAdd, Nat.reduceLeDiff, ↓reduceIte]
set_option maxHeartbeats 2000000 in
theorem lw_c21 {i : Nat} (hL : L ≤ 4096) (hi : i + 8 ≤ L) (hc : xs i &&& 63 = 21) {a0 : Int32} (ha0 : xs (i + 1) = a0) (hG : mc_cls G 0 = some 7) {v : Int32} {G1 G2 : mc_H} (h1 : mc_ev (mc_X0 L xs) 82 0 [.ref 0, .int a0, .null] [] G = some (some (.int v), G1)) (h2 : mc_cls G1 90 = some 8) (h3 : mc_ev (mc_X0 L xs) 158 0 [.ref 90, .int a0] [] G1 = some (some (.int v), G2)) : mc_ev (mc_X0 L xs) 180 18 (lw_fr i) [] G = mc_ev (mc_X0 L xs) 180 18 (lw_fr (i + 8)) [] G2 := by
  unfold lw_fr
  have l0 := lw_x (xs := xs) (G := G) (j := i) (by omega) hL
  have l1 := lw_x (xs := xs) (G := G) (j := i + 1) (by omega) hL
  have m1 := lw_x (xs := xs) (G := G1) (j := i + 1) (by omega) hL
  have p1 : nI i + 1 = nI (i + 1) := nI_add i 1
  have p8 : nI i + 8 = nI (i + 8) := nI_add i 8
  rw [h_180_18]
  simp only [e_180_0, e_180_7, e_180_14, lw_len, lw_hd hL hi, l0, hc, l1, m1, p1, p8, ha0, hG, h1, h2, h3, Option.bind_some, Option.toList_some, Option.toList_none, List.cons_append, List.nil_append, List.append_nil, List.length_cons, List.length_nil, true_or, or_true, eq_self, Nat.zero_le, Nat.reduceAdd, Nat.reduceLeDiff, ↓reduceIte]
set_option maxHeartbeats 2000000 in
theorem lw_c22 {i : Nat} (hL : L ≤ 4096) (hi : i + 8 ≤ L) (hc : xs i &&& 63 = 22) {a0 : Int32} (ha0 : xs (i + 1) = a0) (hG : mc_cls G 0 = some 7) {v : Int32} {G1 G2 : mc_H} (h1 : mc_ev (mc_X0 L xs) 83 0 [.ref 0, .int a0, .null, .null] [] G = some (some (.int v), G1)) (h2 : mc_cls G1 90 = some 8) (h3 : mc_ev (mc_X0 L xs) 159 0 [.ref 90, .int a0, .null, .null, .null, .null, .null] [] G1 = some (some (.int v), G2)) : mc_ev (mc_X0 L xs) 180 18 (lw_fr i) [] G = mc_ev (mc_X0 L xs) 180 18 (lw_fr (i + 8)) [] G2 := by
  unfold lw_fr
  have l0 := lw_x (xs := xs) (G := G) (j := i) (by omega) hL
  have l1 := lw_x (xs := xs) (G := G) (j := i + 1) (by omega) hL
  have m1 := lw_x (xs := xs) (G := G1) (j := i + 1) (by omega) hL
  have p1 : nI i + 1 = nI (i + 1) := nI_add i 1
  have p8 : nI i + 8 = nI (i + 8) := nI_add i 8
  rw [h_180_18]
  simp only [e_180_0, e_180_7, e_180_14, lw_len, lw_hd hL hi, l0, hc, l1, m1, p1, p8, ha0, hG, h1, h2, h3, Option.bind_some, Option.toList_some, Option.toList_none, List.cons_append, List.nil_append, List.append_nil, List.length_cons, List.length_nil, true_or, or_true, eq_self, Nat.zero_le, Nat.reduceAdd, Nat.reduceLeDiff, ↓reduceIte]
set_option maxHeartbeats 2000000 in
theorem lw_c23 {i : Nat} (hL : L ≤ 4096) (hi : i + 8 ≤ L) (hc : xs i &&& 63 = 23) {a0 : Int32} (ha0 : xs (i + 1) = a0) (hG : mc_cls G 0 = some 7) {v : Int32} {G1 G2 : mc_H} (h1 : mc_ev (mc_X0 L xs) 84 0 [.ref 0, .int a0] [] G = some (some (.int v), G1)) (h2 : mc_cls G1 90 = some 8) (h3 : mc_ev (mc_X0 L xs) 160 0 [.ref 90, .int a0] [] G1 = some (some (.int v), G2)) : mc_ev (mc_X0 L xs) 180 18 (lw_fr i) [] G = mc_ev (mc_X0 L xs) 180 18 (lw_fr (i + 8)) [] G2 := by
  unfold lw_fr
  have l0 := lw_x (xs := xs) (G := G) (j := i) (by omega) hL
  have l1 := lw_x (xs := xs) (G := G) (j := i + 1) (by omega) hL
  have m1 := lw_x (xs := xs) (G := G1) (j := i + 1) (by omega) hL
  have p1 : nI i + 1 = nI (i + 1) := nI_add i 1
  have p8 : nI i + 8 = nI (i + 8) := nI_add i 8
  rw [h_180_18]
  simp only [e_180_0, e_180_7, e_180_8, e_180_14, lw_len, lw_hd hL hi, l0, hc, l1, m1, p1, p8, ha0, hG, h1, h2, h3, Option.bind_some, Option.toList_some, Option.toList_none, List.cons_append, List.nil_append, List.append_nil, List.length_cons, List.length_nil, true_or, or_true, eq_self, Nat.zero_le, Nat.reduceAdd, Nat.reduceLeDiff, ↓reduceIte]
set_option maxHeartbeats 2000000 in
theorem lw_c24 {i : Nat} (hL : L ≤ 4096) (hi : i + 8 ≤ L) (hc : xs i &&& 63 = 24) {a0 a1 : Int32} (ha0 : xs (i + 1) = a0) (ha1 : xs (i + 2) = a1) (hG : mc_cls G 0 = some 7) {v : Int32} {G1 G2 : mc_H} (h1 : mc_ev (mc_X0 L xs) 85 0 [.ref 0, .int a0, .int a1] [] G = some (some (.int v), G1)) (h2 : mc_cls G1 90 = some 8) (h3 : mc_ev (mc_X0 L xs) 161 0 [.ref 90, .int a0, .int a1] [] G1 = some (some (.int v), G2)) : mc_ev (mc_X0 L xs) 180 18 (lw_fr i) [] G = mc_ev (mc_X0 L xs) 180 18 (lw_fr (i + 8)) [] G2 := by
  unfold lw_fr
  have l0 := lw_x (xs := xs) (G := G) (j := i) (by omega) hL
  have l1 := lw_x (xs := xs) (G := G) (j := i + 1) (by omega) hL
  have m1 := lw_x (xs := xs) (G := G1) (j := i + 1) (by omega) hL
  have p1 : nI i + 1 = nI (i + 1) := nI_add i 1
  have l2 := lw_x (xs := xs) (G := G) (j := i + 2) (by omega) hL
  have m2 := lw_x (xs := xs) (G := G1) (j := i + 2) (by omega) hL
  have p2 : nI i + 2 = nI (i + 2) := nI_add i 2
  have p8 : nI i + 8 = nI (i + 8) := nI_add i 8
  rw [h_180_18]
  simp only [e_180_0, e_180_8, e_180_14, lw_len, lw_hd hL hi, l0, hc, l1, m1, p1, l2, m2, p2, p8, ha0, ha1, hG, h1, h2, h3, Option.bind_some, Option.toList_some, Option.toList_none, List.cons_append, List.nil_append, List.append_nil, List.length_cons, List.length_nil, true_or, or_true, eq_self, Nat.zero_le, Nat.reduceAdd, Nat.reduceLeDiff, ↓reduceIte]
set_option maxHeartbeats 2000000 in
theorem lw_c25 {i : Nat} (hL : L ≤ 4096) (hi : i + 8 ≤ L) (hc : xs i &&& 63 = 25) {a0 : Int32} (ha0 : xs (i + 1) = a0) (hG : mc_cls G 0 = some 7) {v : Int32} {G1 G2 : mc_H} (h1 : mc_ev (mc_X0 L xs) 86 0 [.ref 0, .int a0] [] G = some (some (.int v), G1)) (h2 : mc_cls G1 90 = some 8) (h3 : mc_ev (mc_X0 L xs) 162 0 [.ref 90, .int a0, .null, .null, .null] [] G1 = some (some (.int v), G2)) : mc_ev (mc_X0 L xs) 180 18 (lw_fr i) [] G = mc_ev (mc_X0 L xs) 180 18 (lw_fr (i + 8)) [] G2 := by
  unfold lw_fr
  have l0 := lw_x (xs := xs) (G := G) (j := i) (by omega) hL
  have l1 := lw_x (xs := xs) (G := G) (j := i + 1) (by omega) hL
  have m1 := lw_x (xs := xs) (G := G1) (j := i + 1) (by omega) hL
  have p1 : nI i + 1 = nI (i + 1) := nI_add i 1
  have p8 : nI i + 8 = nI (i + 8) := nI_add i 8
  rw [h_180_18]
  simp only [e_180_0, e_180_8, e_180_14, lw_len, lw_hd hL hi, l0, hc, l1, m1, p1, p8, ha0, hG, h1, h2, h3, Option.bind_some, Option.toList_some, Option.toList_none, List.cons_append, List.nil_append, List.append_nil, List.length_cons, List.length_nil, true_or, or_true, eq_self, Nat.zero_le, Nat.reduceAdd, Nat.reduceLeDiff, ↓reduceIte]
set_option maxHeartbeats 2000000 in
theorem lw_c26 {i : Nat} (hL : L ≤ 4096) (hi : i + 8 ≤ L) (hc : xs i &&& 63 = 26) {a0 a1 a2 : Int32} (ha0 : xs (i + 1) = a0) (ha1 : xs (i + 2) = a1) (ha2 : xs (i + 3) = a2) (hG : mc_cls G 0 = some 7) {v : Int32} {G1 G2 : mc_H} (h1 : mc_ev (mc_X0 L xs) 87 0 [.ref 0, .int a0, .int a1, .int a2] [] G = some (some (.int v), G1)) (h2 : mc_cls G1 90 = some 8) (h3 : mc_ev (mc_X0 L xs) 164 0 [.ref 90, .int a0, .int a1, .int a2, .null] [] G1 = some (some (.int v), G2)) : mc_ev (mc_X0 L xs) 180 18 (lw_fr i) [] G = mc_ev (mc_X0 L xs) 180 18 (lw_fr (i + 8)) [] G2 := by
  unfold lw_fr
  have l0 := lw_x (xs := xs) (G := G) (j := i) (by omega) hL
  have l1 := lw_x (xs := xs) (G := G) (j := i + 1) (by omega) hL
  have m1 := lw_x (xs := xs) (G := G1) (j := i + 1) (by omega) hL
  have p1 : nI i + 1 = nI (i + 1) := nI_add i 1
  have l2 := lw_x (xs := xs) (G := G) (j := i + 2) (by omega) hL
  have m2 := lw_x (xs := xs) (G := G1) (j := i + 2) (by omega) hL
  have p2 : nI i + 2 = nI (i + 2) := nI_add i 2
  have l3 := lw_x (xs := xs) (G := G) (j := i + 3) (by omega) hL
  have m3 := lw_x (xs := xs) (G := G1) (j := i + 3) (by omega) hL
  have p3 : nI i + 3 = nI (i + 3) := nI_add i 3
  have p8 : nI i + 8 = nI (i + 8) := nI_add i 8
  rw [h_180_18]
  simp only [e_180_0, e_180_8, e_180_9, e_180_14, lw_len, lw_hd hL hi, l0, hc, l1, m1, p1, l2, m2, p2, l3, m3, p3, p8, ha0, ha1, ha2, hG, h1, h2, h3, Option.bind_some, Option.toList_some, Option.toList_none, List.cons_append, List.nil_append, List.append_nil, List.length_cons, List.length_nil, true_or, or_true, eq_self, Nat.zero_le, Nat.reduceAdd, Nat.reduceLeDiff, ↓reduceIte]
set_option maxHeartbeats 2000000 in
theorem lw_c27 {i : Nat} (hL : L ≤ 4096) (hi : i + 8 ≤ L) (hc : xs i &&& 63 = 27) {a0 a1 a2 : Int32} (ha0 : xs (i + 1) = a0) (ha1 : xs (i + 2) = a1) (ha2 : xs (i + 3) = a2) (hG : mc_cls G 0 = some 7) {v : Int32} {G1 G2 : mc_H} (h1 : mc_ev (mc_X0 L xs) 88 0 [.ref 0, .int a0, .int a1, .int a2] [] G = some (some (.int v), G1)) (h2 : mc_cls G1 90 = some 8) (h3 : mc_ev (mc_X0 L xs) 165 0 [.ref 90, .int a0, .int a1, .int a2, .null] [] G1 = some (some (.int v), G2)) : mc_ev (mc_X0 L xs) 180 18 (lw_fr i) [] G = mc_ev (mc_X0 L xs) 180 18 (lw_fr (i + 8)) [] G2 := by
  unfold lw_fr
  have l0 := lw_x (xs := xs) (G := G) (j := i) (by omega) hL
  have l1 := lw_x (xs := xs) (G := G) (j := i + 1) (by omega) hL
  have m1 := lw_x (xs := xs) (G := G1) (j := i + 1) (by omega) hL
  have p1 : nI i + 1 = nI (i + 1) := nI_add i 1
  have l2 := lw_x (xs := xs) (G := G) (j := i + 2) (by omega) hL
  have m2 := lw_x (xs := xs) (G := G1) (j := i + 2) (by omega) hL
  have p2 : nI i + 2 = nI (i + 2) := nI_add i 2
  have l3 := lw_x (xs := xs) (G := G) (j := i + 3) (by omega) hL
  have m3 := lw_x (xs := xs) (G := G1) (j := i + 3) (by omega) hL
  have p3 : nI i + 3 = nI (i + 3) := nI_add i 3
  have p8 : nI i + 8 = nI (i + 8) := nI_add i 8
  rw [h_180_18]
  simp only [e_180_0, e_180_9, e_180_10, e_180_14, lw_len, lw_hd hL hi, l0, hc, l1, m1, p1, l2, m2, p2, l3, m3, p3, p8, ha0, ha1, ha2, hG, h1, h2, h3, Option.bind_some, Option.toList_some, Option.toList_none, List.cons_append, List.nil_append, List.append_nil, List.length_cons, List.length_nil, true_or, or_true, eq_self, Nat.zero_le, Nat.reduceAdd, Nat.reduceLeDiff, ↓reduceIte]
set_option maxHeartbeats 2000000 in
theorem lw_c28 {i : Nat} (hL : L ≤ 4096) (hi : i + 8 ≤ L) (hc : xs i &&& 63 = 28) {a0 a1 a2 a3 a4 : Int32} (ha0 : xs (i + 1) = a0) (ha1 : xs (i + 2) = a1) (ha2 : xs (i + 3) = a2) (ha3 : xs (i + 4) = a3) (ha4 : xs (i + 5) = a4) (hG : mc_cls G 0 = some 7) {v : Int32} {G1 G2 : mc_H} (h1 : mc_ev (mc_X0 L xs) 89 0 [.ref 0, .int a0, .int a1, .int a2, .int a3, .int a4, .null] [] G = some (some (.int v), G1)) (h2 : mc_cls G1 90 = some 8) (h3 : mc_ev (mc_X0 L xs) 167 0 [.ref 90, .int a0, .int a1, .int a2, .int a3, .int a4] [] G1 = some (some (.int v), G2)) : mc_ev (mc_X0 L xs) 180 18 (lw_fr i) [] G = mc_ev (mc_X0 L xs) 180 18 (lw_fr (i + 8)) [] G2 := by
  unfold lw_fr
  have l0 := lw_x (xs := xs) (G := G) (j := i) (by omega) hL
  have l1 := lw_x (xs := xs) (G := G) (j := i + 1) (by omega) hL
  have m1 := lw_x (xs := xs) (G := G1) (j := i + 1) (by omega) hL
  have p1 : nI i + 1 = nI (i + 1) := nI_add i 1
  have l2 := lw_x (xs := xs) (G := G) (j := i + 2) (by omega) hL
  have m2 := lw_x (xs := xs) (G := G1) (j := i + 2) (by omega) hL
  have p2 : nI i + 2 = nI (i + 2) := nI_add i 2
  have l3 := lw_x (xs := xs) (G := G) (j := i + 3) (by omega) hL
  have m3 := lw_x (xs := xs) (G := G1) (j := i + 3) (by omega) hL
  have p3 : nI i + 3 = nI (i + 3) := nI_add i 3
  have l4 := lw_x (xs := xs) (G := G) (j := i + 4) (by omega) hL
  have m4 := lw_x (xs := xs) (G := G1) (j := i + 4) (by omega) hL
  have p4 : nI i + 4 = nI (i + 4) := nI_add i 4
  have l5 := lw_x (xs := xs) (G := G) (j := i + 5) (by omega) hL
  have m5 := lw_x (xs := xs) (G := G1) (j := i + 5) (by omega) hL
  have p5 : nI i + 5 = nI (i + 5) := nI_add i 5
  have p8 : nI i + 8 = nI (i + 8) := nI_add i 8
  rw [h_180_18]
  simp only [e_180_0, e_180_10, e_180_11, e_180_14, lw_len, lw_hd hL hi, l0, hc, l1, m1, p1, l2, m2, p2, l3, m3, p3, l4, m4, p4, l5, m5, p5, p8, ha0, ha1, ha2, ha3, ha4, hG, h1, h2, h3, Option.bind_some, Option.toList_some, Option.toList_none, List.cons_append, List.nil_append, List.append_nil, List.length_cons, List.length_nil, true_or, or_true, eq_self, Nat.zero_le, Nat.reduceAdd, Nat.reduceLeDiff, ↓reduceIte]
set_option maxHeartbeats 2000000 in
theorem lw_c29 {i : Nat} (hL : L ≤ 4096) (hi : i + 8 ≤ L) (hc : xs i &&& 63 = 29) {a0 a1 a2 a3 : Int32} (ha0 : xs (i + 1) = a0) (ha1 : xs (i + 2) = a1) (ha2 : xs (i + 3) = a2) (ha3 : xs (i + 4) = a3) (hG : mc_cls G 0 = some 7) {v : Int32} {G1 G2 : mc_H} (h1 : mc_ev (mc_X0 L xs) 90 0 [.ref 0, .int a0, .int a1, .int a2, .int a3] [] G = some (some (.int v), G1)) (h2 : mc_cls G1 90 = some 8) (h3 : mc_ev (mc_X0 L xs) 168 0 [.ref 90, .int a0, .int a1, .int a2, .int a3] [] G1 = some (some (.int v), G2)) : mc_ev (mc_X0 L xs) 180 18 (lw_fr i) [] G = mc_ev (mc_X0 L xs) 180 18 (lw_fr (i + 8)) [] G2 := by
  unfold lw_fr
  have l0 := lw_x (xs := xs) (G := G) (j := i) (by omega) hL
  have l1 := lw_x (xs := xs) (G := G) (j := i + 1) (by omega) hL
  have m1 := lw_x (xs := xs) (G := G1) (j := i + 1) (by omega) hL
  have p1 : nI i + 1 = nI (i + 1) := nI_add i 1
  have l2 := lw_x (xs := xs) (G := G) (j := i + 2) (by omega) hL
  have m2 := lw_x (xs := xs) (G := G1) (j := i + 2) (by omega) hL
  have p2 : nI i + 2 = nI (i + 2) := nI_add i 2
  have l3 := lw_x (xs := xs) (G := G) (j := i + 3) (by omega) hL
  have m3 := lw_x (xs := xs) (G := G1) (j := i + 3) (by omega) hL
  have p3 : nI i + 3 = nI (i + 3) := nI_add i 3
  have l4 := lw_x (xs := xs) (G := G) (j := i + 4) (by omega) hL
  have m4 := lw_x (xs := xs) (G := G1) (j := i + 4) (by omega) hL
  have p4 : nI i + 4 = nI (i + 4) := nI_add i 4
  have p8 : nI i + 8 = nI (i + 8) := nI_add i 8
  rw [h_180_18]
  simp only [e_180_0, e_180_11, e_180_14, lw_len, lw_hd hL hi, l0, hc, l1, m1, p1, l2, m2, p2, l3, m3, p3, l4, m4, p4, p8, ha0, ha1, ha2, ha3, hG, h1, h2, h3, Option.bind_some, Option.toList_some, Option.toList_none, List.cons_append, List.nil_append, List.append_nil, List.length_cons, List.length_nil, true_or, or_true, eq_self, Nat.zero_le, Nat.reduceAdd, Nat.reduceLeDiff, ↓reduceIte]
set_option maxHeartbeats 2000000 in
theorem lw_c30 {i : Nat} (hL : L ≤ 4096) (hi : i + 8 ≤ L) (hc : xs i &&& 63 = 30) {a0 a1 a2 a3 a4 a5 a6 : Int32} (ha0 : xs (i + 1) = a0) (ha1 : xs (i + 2) = a1) (ha2 : xs (i + 3) = a2) (ha3 : xs (i + 4) = a3) (ha4 : xs (i + 5) = a4) (ha5 : xs (i + 6) = a5) (ha6 : xs (i + 7) = a6) (hG : mc_cls G 0 = some 7) {v : Int32} {G1 G2 : mc_H} (h1 : mc_ev (mc_X0 L xs) 91 0 [.ref 0, .int a0, .int a1, .int a2, .int a3, .int a4, .int a5, .int a6, .null, .null, .null] [] G = some (some (.int v), G1)) (h2 : mc_cls G1 90 = some 8) (h3 : mc_ev (mc_X0 L xs) 170 0 [.ref 90, .int a0, .int a1, .int a2, .int a3, .int a4, .int a5, .int a6, .null, .null, .null] [] G1 = some (some (.int v), G2)) : mc_ev (mc_X0 L xs) 180 18 (lw_fr i) [] G = mc_ev (mc_X0 L xs) 180 18 (lw_fr (i + 8)) [] G2 := by
  unfold lw_fr
  have l0 := lw_x (xs := xs) (G := G) (j := i) (by omega) hL
  have l1 := lw_x (xs := xs) (G := G) (j := i + 1) (by omega) hL
  have m1 := lw_x (xs := xs) (G := G1) (j := i + 1) (by omega) hL
  have p1 : nI i + 1 = nI (i + 1) := nI_add i 1
  have l2 := lw_x (xs := xs) (G := G) (j := i + 2) (by omega) hL
  have m2 := lw_x (xs := xs) (G := G1) (j := i + 2) (by omega) hL
  have p2 : nI i + 2 = nI (i + 2) := nI_add i 2
  have l3 := lw_x (xs := xs) (G := G) (j := i + 3) (by omega) hL
  have m3 := lw_x (xs := xs) (G := G1) (j := i + 3) (by omega) hL
  have p3 : nI i + 3 = nI (i + 3) := nI_add i 3
  have l4 := lw_x (xs := xs) (G := G) (j := i + 4) (by omega) hL
  have m4 := lw_x (xs := xs) (G := G1) (j := i + 4) (by omega) hL
  have p4 : nI i + 4 = nI (i + 4) := nI_add i 4
  have l5 := lw_x (xs := xs) (G := G) (j := i + 5) (by omega) hL
  have m5 := lw_x (xs := xs) (G := G1) (j := i + 5) (by omega) hL
  have p5 : nI i + 5 = nI (i + 5) := nI_add i 5
  have l6 := lw_x (xs := xs) (G := G) (j := i + 6) (by omega) hL
  have m6 := lw_x (xs := xs) (G := G1) (j := i + 6) (by omega) hL
  have p6 : nI i + 6 = nI (i + 6) := nI_add i 6
  have l7 := lw_x (xs := xs) (G := G) (j := i + 7) (by omega) hL
  have m7 := lw_x (xs := xs) (G := G1) (j := i + 7) (by omega) hL
  have p7 : nI i + 7 = nI (i + 7) := nI_add i 7
  have p8 : nI i + 8 = nI (i + 8) := nI_add i 8
  rw [h_180_18]
  simp only [e_180_0, e_180_11, e_180_12, e_180_13, e_180_14, lw_len, lw_hd hL hi, l0, hc, l1, m1, p1, l2, m2, p2, l3, m3, p3, l4, m4, p4, l5, m5, p5, l6, m6, p6, l7, m7, p7, p8, ha0, ha1, ha2, ha3, ha4, ha5, ha6, hG, h1, h2, h3, Option.bind_some, Option.toList_some, Option.toList_none, List.cons_append, List.nil_append, List.append_nil, List.length_cons, List.length_nil, true_or, or_true, eq_self, Nat.zero_le, Nat.reduceAdd, Nat.reduceLeDiff, ↓reduceIte]
set_option maxHeartbeats 2000000 in
theorem lw_c31 {i : Nat} (hL : L ≤ 4096) (hi : i + 8 ≤ L) (hc : xs i &&& 63 = 31) {a0 a1 a2 a3 : Int32} (ha0 : xs (i + 1) = a0) (ha1 : xs (i + 2) = a1) (ha2 : xs (i + 3) = a2) (ha3 : xs (i + 4) = a3) (hG : mc_cls G 0 = some 7) {v : Int32} {G1 G2 : mc_H} (h1 : mc_ev (mc_X0 L xs) 92 0 [.ref 0, .int a0, .int a1, .int a2, .int a3, .null, .null] [] G = some (some (.int v), G1)) (h2 : mc_cls G1 90 = some 8) (h3 : mc_ev (mc_X0 L xs) 171 0 [.ref 90, .int a0, .int a1, .int a2, .int a3, .null] [] G1 = some (some (.int v), G2)) : mc_ev (mc_X0 L xs) 180 18 (lw_fr i) [] G = mc_ev (mc_X0 L xs) 180 18 (lw_fr (i + 8)) [] G2 := by
  unfold lw_fr
  have l0 := lw_x (xs := xs) (G := G) (j := i) (by omega) hL
  have l1 := lw_x (xs := xs) (G := G) (j := i + 1) (by omega) hL
  have m1 := lw_x (xs := xs) (G := G1) (j := i + 1) (by omega) hL
  have p1 : nI i + 1 = nI (i + 1) := nI_add i 1
  have l2 := lw_x (xs := xs) (G := G) (j := i + 2) (by omega) hL
  have m2 := lw_x (xs := xs) (G := G1) (j := i + 2) (by omega) hL
  have p2 : nI i + 2 = nI (i + 2) := nI_add i 2
  have l3 := lw_x (xs := xs) (G := G) (j := i + 3) (by omega) hL
  have m3 := lw_x (xs := xs) (G := G1) (j := i + 3) (by omega) hL
  have p3 : nI i + 3 = nI (i + 3) := nI_add i 3
  have l4 := lw_x (xs := xs) (G := G) (j := i + 4) (by omega) hL
  have m4 := lw_x (xs := xs) (G := G1) (j := i + 4) (by omega) hL
  have p4 : nI i + 4 = nI (i + 4) := nI_add i 4
  have p8 : nI i + 8 = nI (i + 8) := nI_add i 8
  rw [h_180_18]
  simp only [e_180_0, e_180_13, e_180_14, lw_len, lw_hd hL hi, l0, hc, l1, m1, p1, l2, m2, p2, l3, m3, p3, l4, m4, p4, p8, ha0, ha1, ha2, ha3, hG, h1, h2, h3, Option.bind_some, Option.toList_some, Option.toList_none, List.cons_append, List.nil_append, List.append_nil, List.length_cons, List.length_nil, true_or, or_true, eq_self, Nat.zero_le, Nat.reduceAdd, Nat.reduceLeDiff, ↓reduceIte]
set_option maxHeartbeats 2000000 in
theorem lw_c32 {i : Nat} (hL : L ≤ 4096) (hi : i + 8 ≤ L) (hc : xs i &&& 63 = 32) {a0 : Int32} (ha0 : xs (i + 1) = a0) (hG : mc_cls G 0 = some 7) {v : Int32} {G1 G2 : mc_H} (h1 : mc_ev (mc_X0 L xs) 93 0 [.ref 0, .int a0] [] G = some (some (.int v), G1)) (h2 : mc_cls G1 90 = some 8) (h3 : mc_ev (mc_X0 L xs) 172 0 [.ref 90, .int a0, .null, .null, .null] [] G1 = some (some (.int v), G2)) : mc_ev (mc_X0 L xs) 180 18 (lw_fr i) [] G = mc_ev (mc_X0 L xs) 180 18 (lw_fr (i + 8)) [] G2 := by
  unfold lw_fr
  have l0 := lw_x (xs := xs) (G := G) (j := i) (by omega) hL
  have l1 := lw_x (xs := xs) (G := G) (j := i + 1) (by omega) hL
  have m1 := lw_x (xs := xs) (G := G1) (j := i + 1) (by omega) hL
  have p1 : nI i + 1 = nI (i + 1) := nI_add i 1
  have p8 : nI i + 8 = nI (i + 8) := nI_add i 8
  rw [h_180_18]
  simp only [e_180_0, e_180_13, e_180_14, lw_len, lw_hd hL hi, l0, hc, l1, m1, p1, p8, ha0, hG, h1, h2, h3, Option.bind_some, Option.toList_some, Option.toList_none, List.cons_append, List.nil_append, List.append_nil, List.length_cons, List.length_nil, true_or, or_true, eq_self, Nat.zero_le, Nat.reduceAdd, Nat.reduceLeDiff, ↓reduceIte]
set_option maxHeartbeats 2000000 in
theorem lw_c33 {i : Nat} (hL : L ≤ 4096) (hi : i + 8 ≤ L) (hc : xs i &&& 63 = 33)  (hG : mc_cls G 0 = some 7) {v : Int64} {G1 G2 : mc_H} (h1 : mc_ev (mc_X0 L xs) 94 0 [.ref 0] [] G = some (some (.long v), G1)) (h2 : mc_cls G1 90 = some 8) (h3 : mc_ev (mc_X0 L xs) 173 0 [.ref 90] [] G1 = some (some (.long v), G2)) : mc_ev (mc_X0 L xs) 180 18 (lw_fr i) [] G = mc_ev (mc_X0 L xs) 180 18 (lw_fr (i + 8)) [] G2 := by
  unfold lw_fr
  have l0 := lw_x (xs := xs) (G := G) (j := i) (by omega) hL
  have p8 : nI i + 8 = nI (i + 8) := nI_add i 8
  rw [h_180_18]
  simp only [e_180_0, e_180_14, lw_len, lw_hd hL hi, l0, hc, p8, hG, h1, h2, h3, lg_cmp_self, Option.bind_some, Option.toList_some, Option.toList_none, List.cons_append, List.nil_append, List.append_nil, List.length_cons, List.length_nil, true_or, or_true, eq_self, Nat.zero_le, Nat.reduceAdd, Nat.reduceLeDiff, ↓reduceIte]
set_option maxHeartbeats 2000000 in
theorem lw_c34 {i : Nat} (hL : L ≤ 4096) (hi : i + 8 ≤ L) (hc : xs i &&& 63 = 34)  (hG : mc_cls G 0 = some 7) {v : Int32} {G1 G2 : mc_H} (h1 : mc_ev (mc_X0 L xs) 95 0 [.ref 0] [] G = some (some (.int v), G1)) (h2 : mc_cls G1 90 = some 8) (h3 : mc_ev (mc_X0 L xs) 174 0 [.ref 90] [] G1 = some (some (.int v), G2)) : mc_ev (mc_X0 L xs) 180 18 (lw_fr i) [] G = mc_ev (mc_X0 L xs) 180 18 (lw_fr (i + 8)) [] G2 := by
  unfold lw_fr
  have l0 := lw_x (xs := xs) (G := G) (j := i) (by omega) hL
  have p8 : nI i + 8 = nI (i + 8) := nI_add i 8
  rw [h_180_18]
  simp only [e_180_0, e_180_14, lw_len, lw_hd hL hi, l0, hc, p8, hG, h1, h2, h3, Option.bind_some, Option.toList_some, Option.toList_none, List.cons_append, List.nil_append, List.append_nil, List.length_cons, List.length_nil, true_or, or_true, eq_self, Nat.zero_le, Nat.reduceAdd, Nat.reduceLeDiff, ↓reduceIte]
theorem lw_cd {i m : Nat} (hL : L ≤ 4096) (hi : i + 8 ≤ L) (hc : xs i &&& 63 = nI m) (hm : 34 < m) (hm2 : m < 64) : mc_ev (mc_X0 L xs) 180 18 (lw_fr i) [] G = mc_ev (mc_X0 L xs) 180 18 (lw_fr (i + 8)) [] G := by
  unfold lw_fr
  have l0 := lw_x (xs := xs) (G := G) (j := i) (by omega) hL
  have p8 : nI i + 8 = nI (i + 8) := nI_add i 8
  have hd : ((nI m).toInt < 0 ∨ 34 < (nI m).toInt) = True := eq_true (Or.inr (by rw [nI_toInt (by omega)]; omega))
  rw [h_180_18]
  simp only [e_180_0, e_180_14, lw_len, lw_hd hL hi, l0, hc, hd, p8, Option.bind_some, Option.toList_some, Option.toList_none, List.cons_append, List.nil_append, List.append_nil, List.length_cons, List.length_nil, true_or, or_true, eq_self, Nat.zero_le, Nat.reduceAdd, Nat.reduceLeDiff, ↓reduceIte]
theorem lw_out {i : Nat} (hL : L ≤ 4096) (hi2 : i ≤ 4096) (hi : ¬ i + 8 ≤ L) : mc_ev (mc_X0 L xs) 180 18 (lw_fr i) [] G = some (some (.int 1), G) := by
  unfold lw_fr
  rw [h_180_18]
  simp only [e_180_0, e_180_14, lw_len, lw_ex hL hi2 hi, Option.bind_some, Option.toList_some, Option.toList_none, List.cons_append, List.nil_append, List.append_nil, List.length_cons, List.length_nil, true_or, or_true, eq_self, Nat.zero_le, Nat.reduceAdd, Nat.reduceLeDiff, ↓reduceIte]
/-- what each method owes -/
def lw_R0 (L : Nat) (xs : Nat → Int32) (I : mc_H → Prop) : Prop := ∀ (a0 a1 : Int32) (G : mc_H), I G → ∃ (v : Int32) (G1 G2 : mc_H), mc_ev (mc_X0 L xs) 61 0 [.ref 0, .int a0, .int a1] [] G = some (some (.int v), G1) ∧ mc_cls G1 90 = some 8 ∧ mc_ev (mc_X0 L xs) 133 0 [.ref 90, .int a0, .int a1, .null] [] G1 = some (some (.int v), G2) ∧ I G2
def lw_R1 (L : Nat) (xs : Nat → Int32) (I : mc_H → Prop) : Prop := ∀ (a0 a1 : Int32) (G : mc_H), I G → ∃ (v : Int32) (G1 G2 : mc_H), mc_ev (mc_X0 L xs) 62 0 [.ref 0, .int a0, .int a1, .null] [] G = some (some (.int v), G1) ∧ mc_cls G1 90 = some 8 ∧ mc_ev (mc_X0 L xs) 134 0 [.ref 90, .int a0, .int a1, .null, .null, .null] [] G1 = some (some (.int v), G2) ∧ I G2
def lw_R2 (L : Nat) (xs : Nat → Int32) (I : mc_H → Prop) : Prop := ∀ (a0 a1 : Int32) (G : mc_H), I G → ∃ (v : Int32) (G1 G2 : mc_H), mc_ev (mc_X0 L xs) 63 0 [.ref 0, .int a0, .int a1, .null] [] G = some (some (.int v), G1) ∧ mc_cls G1 90 = some 8 ∧ mc_ev (mc_X0 L xs) 135 0 [.ref 90, .int a0, .int a1, .null] [] G1 = some (some (.int v), G2) ∧ I G2
def lw_R3 (L : Nat) (xs : Nat → Int32) (I : mc_H → Prop) : Prop := ∀ (a0 a1 : Int32) (G : mc_H), I G → (a1 = 0 ∨ a1 = 1) → ∃ (v : Int32) (G1 G2 : mc_H), mc_ev (mc_X0 L xs) 64 0 [.ref 0, .int a0, .int a1, .null] [] G = some (some (.int v), G1) ∧ mc_cls G1 90 = some 8 ∧ mc_ev (mc_X0 L xs) 136 0 [.ref 90, .int a0, .int a1, .null] [] G1 = some (some (.int v), G2) ∧ I G2
def lw_R4 (L : Nat) (xs : Nat → Int32) (I : mc_H → Prop) : Prop := ∀ (a0 : Int32) (G : mc_H), I G → ∃ (v : Int32) (G1 G2 : mc_H), mc_ev (mc_X0 L xs) 65 0 [.ref 0, .int a0, .null] [] G = some (some (.int v), G1) ∧ mc_cls G1 90 = some 8 ∧ mc_ev (mc_X0 L xs) 137 0 [.ref 90, .int a0, .null] [] G1 = some (some (.int v), G2) ∧ I G2
def lw_R5 (L : Nat) (xs : Nat → Int32) (I : mc_H → Prop) : Prop := ∀ (a0 : Int32) (G : mc_H), I G → ∃ (v : Int32) (G1 G2 : mc_H), mc_ev (mc_X0 L xs) 66 0 [.ref 0, .int a0, .null] [] G = some (some (.int v), G1) ∧ mc_cls G1 90 = some 8 ∧ mc_ev (mc_X0 L xs) 138 0 [.ref 90, .int a0, .null, .null] [] G1 = some (some (.int v), G2) ∧ I G2
def lw_R6 (L : Nat) (xs : Nat → Int32) (I : mc_H → Prop) : Prop := ∀ (a0 a1 : Int32) (G : mc_H), I G → ∃ (v : Int32) (G1 G2 : mc_H), mc_ev (mc_X0 L xs) 67 0 [.ref 0, .int a0, .int a1, .null] [] G = some (some (.int v), G1) ∧ mc_cls G1 90 = some 8 ∧ mc_ev (mc_X0 L xs) 139 0 [.ref 90, .int a0, .int a1, .null] [] G1 = some (some (.int v), G2) ∧ I G2
def lw_R7 (L : Nat) (xs : Nat → Int32) (I : mc_H → Prop) : Prop := ∀ (a0 : Int32) (G : mc_H), I G → ∃ (v : Int32) (G1 G2 : mc_H), mc_ev (mc_X0 L xs) 68 0 [.ref 0, .int a0, .null] [] G = some (some (.int v), G1) ∧ mc_cls G1 90 = some 8 ∧ mc_ev (mc_X0 L xs) 140 0 [.ref 90, .int a0, .null] [] G1 = some (some (.int v), G2) ∧ I G2
def lw_R8 (L : Nat) (xs : Nat → Int32) (I : mc_H → Prop) : Prop := ∀ (G : mc_H), I G → ∃ (v : Int32) (G1 G2 : mc_H), mc_ev (mc_X0 L xs) 69 0 [.ref 0, .null, .null] [] G = some (some (.int v), G1) ∧ mc_cls G1 90 = some 8 ∧ mc_ev (mc_X0 L xs) 141 0 [.ref 90, .null, .null, .null, .null] [] G1 = some (some (.int v), G2) ∧ I G2
def lw_R9 (L : Nat) (xs : Nat → Int32) (I : mc_H → Prop) : Prop := ∀ (G : mc_H), I G → ∃ (v : Int32) (G1 G2 : mc_H), mc_ev (mc_X0 L xs) 70 0 [.ref 0] [] G = some (some (.int v), G1) ∧ mc_cls G1 90 = some 8 ∧ mc_ev (mc_X0 L xs) 142 0 [.ref 90, .null, .null] [] G1 = some (some (.int v), G2) ∧ I G2
def lw_R10 (L : Nat) (xs : Nat → Int32) (I : mc_H → Prop) : Prop := ∀ (a0 : Int32) (G : mc_H), I G → ∃ (v : Int32) (G1 G2 : mc_H), mc_ev (mc_X0 L xs) 71 0 [.ref 0, .int a0, .null] [] G = some (some (.int v), G1) ∧ mc_cls G1 90 = some 8 ∧ mc_ev (mc_X0 L xs) 143 0 [.ref 90, .int a0, .null] [] G1 = some (some (.int v), G2) ∧ I G2
def lw_R11 (L : Nat) (xs : Nat → Int32) (I : mc_H → Prop) : Prop := ∀ (a0 : Int32) (G : mc_H), I G → ∃ (v : Int32) (G1 G2 : mc_H), mc_ev (mc_X0 L xs) 72 0 [.ref 0, .int a0, .null] [] G = some (some (.int v), G1) ∧ mc_cls G1 90 = some 8 ∧ mc_ev (mc_X0 L xs) 144 0 [.ref 90, .int a0] [] G1 = some (some (.int v), G2) ∧ I G2
def lw_R12 (L : Nat) (xs : Nat → Int32) (I : mc_H → Prop) : Prop := ∀ (a0 a1 : Int32) (G : mc_H), I G → ∃ (v : Int32) (G1 G2 : mc_H), mc_ev (mc_X0 L xs) 73 0 [.ref 0, .int a0, .int a1] [] G = some (some (.int v), G1) ∧ mc_cls G1 90 = some 8 ∧ mc_ev (mc_X0 L xs) 145 0 [.ref 90, .int a0, .int a1] [] G1 = some (some (.int v), G2) ∧ I G2
def lw_R13 (L : Nat) (xs : Nat → Int32) (I : mc_H → Prop) : Prop := ∀ (a0 a1 : Int32) (G : mc_H), I G → ∃ (v : Int32) (G1 G2 : mc_H), mc_ev (mc_X0 L xs) 74 0 [.ref 0, .int a0, .int a1] [] G = some (some (.int v), G1) ∧ mc_cls G1 90 = some 8 ∧ mc_ev (mc_X0 L xs) 146 0 [.ref 90, .int a0, .int a1, .null, .null, .null, .null, .null, .null] [] G1 = some (some (.int v), G2) ∧ I G2
def lw_R14 (L : Nat) (xs : Nat → Int32) (I : mc_H → Prop) : Prop := ∀ (G : mc_H), I G → ∃ (v : Int32) (G1 G2 : mc_H), mc_ev (mc_X0 L xs) 75 0 [.ref 0] [] G = some (some (.int v), G1) ∧ mc_cls G1 90 = some 8 ∧ mc_ev (mc_X0 L xs) 147 0 [.ref 90] [] G1 = some (some (.int v), G2) ∧ I G2
def lw_R15 (L : Nat) (xs : Nat → Int32) (I : mc_H → Prop) : Prop := ∀ (a0 : Int32) (G : mc_H), I G → ∃ (v : Int32) (G1 G2 : mc_H), mc_ev (mc_X0 L xs) 76 0 [.ref 0, .int a0] [] G = some (some (.int v), G1) ∧ mc_cls G1 90 = some 8 ∧ mc_ev (mc_X0 L xs) 149 0 [.ref 90, .int a0] [] G1 = some (some (.int v), G2) ∧ I G2
def lw_R16 (L : Nat) (xs : Nat → Int32) (I : mc_H → Prop) : Prop := ∀ (a0 a1 : Int32) (G : mc_H), I G → ∃ (v : Int32) (G1 G2 : mc_H), mc_ev (mc_X0 L xs) 77 0 [.ref 0, .int a0, .int a1] [] G = some (some (.int v), G1) ∧ mc_cls G1 90 = some 8 ∧ mc_ev (mc_X0 L xs) 151 0 [.ref 90, .int a0, .int a1] [] G1 = some (some (.int v), G2) ∧ I G2
def lw_R17 (L : Nat) (xs : Nat → Int32) (I : mc_H → Prop) : Prop := ∀ (G : mc_H), I G → ∃ (v : Int32) (G1 G2 : mc_H), mc_ev (mc_X0 L xs) 78 0 [.ref 0] [] G = some (some (.int v), G1) ∧ mc_cls G1 90 = some 8 ∧ mc_ev (mc_X0 L xs) 152 0 [.ref 90, .null, .null, .null, .null, .null] [] G1 = some (some (.int v), G2) ∧ I G2
def lw_R18 (L : Nat) (xs : Nat → Int32) (I : mc_H → Prop) : Prop := ∀ (a0 : Int32) (G : mc_H), I G → ∃ (v : Int32) (G1 G2 : mc_H), mc_ev (mc_X0 L xs) 79 0 [.ref 0, .int a0] [] G = some (some (.int v), G1) ∧ mc_cls G1 90 = some 8 ∧ mc_ev (mc_X0 L xs) 153 0 [.ref 90, .int a0] [] G1 = some (some (.int v), G2) ∧ I G2
def lw_R19 (L : Nat) (xs : Nat → Int32) (I : mc_H → Prop) : Prop := ∀ (G : mc_H), I G → ∃ (v : Int32) (G1 G2 : mc_H), mc_ev (mc_X0 L xs) 80 0 [.ref 0] [] G = some (some (.int v), G1) ∧ mc_cls G1 90 = some 8 ∧ mc_ev (mc_X0 L xs) 155 0 [.ref 90] [] G1 = some (some (.int v), G2) ∧ I G2
def lw_R20 (L : Nat) (xs : Nat → Int32) (I : mc_H → Prop) : Prop := ∀ (G : mc_H), I G → ∃ (v : Int32) (G1 G2 : mc_H), mc_ev (mc_X0 L xs) 81 0 [.ref 0, .null] [] G = some (some (.int v), G1) ∧ mc_cls G1 90 = some 8 ∧ mc_ev (mc_X0 L xs) 157 0 [.ref 90] [] G1 = some (some (.int v), G2) ∧ I G2
def lw_R21 (L : Nat) (xs : Nat → Int32) (I : mc_H → Prop) : Prop := ∀ (a0 : Int32) (G : mc_H), I G → ∃ (v : Int32) (G1 G2 : mc_H), mc_ev (mc_X0 L xs) 82 0 [.ref 0, .int a0, .null] [] G = some (some (.int v), G1) ∧ mc_cls G1 90 = some 8 ∧ mc_ev (mc_X0 L xs) 158 0 [.ref 90, .int a0] [] G1 = some (some (.int v), G2) ∧ I G2
def lw_R22 (L : Nat) (xs : Nat → Int32) (I : mc_H → Prop) : Prop := ∀ (a0 : Int32) (G : mc_H), I G → ∃ (v : Int32) (G1 G2 : mc_H), mc_ev (mc_X0 L xs) 83 0 [.ref 0, .int a0, .null, .null] [] G = some (some (.int v), G1) ∧ mc_cls G1 90 = some 8 ∧ mc_ev (mc_X0 L xs) 159 0 [.ref 90, .int a0, .null, .null, .null, .null, .null] [] G1 = some (some (.int v), G2) ∧ I G2
def lw_R23 (L : Nat) (xs : Nat → Int32) (I : mc_H → Prop) : Prop := ∀ (a0 : Int32) (G : mc_H), I G → ∃ (v : Int32) (G1 G2 : mc_H), mc_ev (mc_X0 L xs) 84 0 [.ref 0, .int a0] [] G = some (some (.int v), G1) ∧ mc_cls G1 90 = some 8 ∧ mc_ev (mc_X0 L xs) 160 0 [.ref 90, .int a0] [] G1 = some (some (.int v), G2) ∧ I G2
def lw_R24 (L : Nat) (xs : Nat → Int32) (I : mc_H → Prop) : Prop := ∀ (a0 a1 : Int32) (G : mc_H), I G → ∃ (v : Int32) (G1 G2 : mc_H), mc_ev (mc_X0 L xs) 85 0 [.ref 0, .int a0, .int a1] [] G = some (some (.int v), G1) ∧ mc_cls G1 90 = some 8 ∧ mc_ev (mc_X0 L xs) 161 0 [.ref 90, .int a0, .int a1] [] G1 = some (some (.int v), G2) ∧ I G2
def lw_R25 (L : Nat) (xs : Nat → Int32) (I : mc_H → Prop) : Prop := ∀ (a0 : Int32) (G : mc_H), I G → ∃ (v : Int32) (G1 G2 : mc_H), mc_ev (mc_X0 L xs) 86 0 [.ref 0, .int a0] [] G = some (some (.int v), G1) ∧ mc_cls G1 90 = some 8 ∧ mc_ev (mc_X0 L xs) 162 0 [.ref 90, .int a0, .null, .null, .null] [] G1 = some (some (.int v), G2) ∧ I G2
def lw_R26 (L : Nat) (xs : Nat → Int32) (I : mc_H → Prop) : Prop := ∀ (a0 a1 a2 : Int32) (G : mc_H), I G → ∃ (v : Int32) (G1 G2 : mc_H), mc_ev (mc_X0 L xs) 87 0 [.ref 0, .int a0, .int a1, .int a2] [] G = some (some (.int v), G1) ∧ mc_cls G1 90 = some 8 ∧ mc_ev (mc_X0 L xs) 164 0 [.ref 90, .int a0, .int a1, .int a2, .null] [] G1 = some (some (.int v), G2) ∧ I G2
def lw_R27 (L : Nat) (xs : Nat → Int32) (I : mc_H → Prop) : Prop := ∀ (a0 a1 a2 : Int32) (G : mc_H), I G → ∃ (v : Int32) (G1 G2 : mc_H), mc_ev (mc_X0 L xs) 88 0 [.ref 0, .int a0, .int a1, .int a2] [] G = some (some (.int v), G1) ∧ mc_cls G1 90 = some 8 ∧ mc_ev (mc_X0 L xs) 165 0 [.ref 90, .int a0, .int a1, .int a2, .null] [] G1 = some (some (.int v), G2) ∧ I G2
def lw_R28 (L : Nat) (xs : Nat → Int32) (I : mc_H → Prop) : Prop := ∀ (a0 a1 a2 a3 a4 : Int32) (G : mc_H), I G → ∃ (v : Int32) (G1 G2 : mc_H), mc_ev (mc_X0 L xs) 89 0 [.ref 0, .int a0, .int a1, .int a2, .int a3, .int a4, .null] [] G = some (some (.int v), G1) ∧ mc_cls G1 90 = some 8 ∧ mc_ev (mc_X0 L xs) 167 0 [.ref 90, .int a0, .int a1, .int a2, .int a3, .int a4] [] G1 = some (some (.int v), G2) ∧ I G2
def lw_R29 (L : Nat) (xs : Nat → Int32) (I : mc_H → Prop) : Prop := ∀ (a0 a1 a2 a3 : Int32) (G : mc_H), I G → ∃ (v : Int32) (G1 G2 : mc_H), mc_ev (mc_X0 L xs) 90 0 [.ref 0, .int a0, .int a1, .int a2, .int a3] [] G = some (some (.int v), G1) ∧ mc_cls G1 90 = some 8 ∧ mc_ev (mc_X0 L xs) 168 0 [.ref 90, .int a0, .int a1, .int a2, .int a3] [] G1 = some (some (.int v), G2) ∧ I G2
def lw_R30 (L : Nat) (xs : Nat → Int32) (I : mc_H → Prop) : Prop := ∀ (a0 a1 a2 a3 a4 a5 a6 : Int32) (G : mc_H), I G → ∃ (v : Int32) (G1 G2 : mc_H), mc_ev (mc_X0 L xs) 91 0 [.ref 0, .int a0, .int a1, .int a2, .int a3, .int a4, .int a5, .int a6, .null, .null, .null] [] G = some (some (.int v), G1) ∧ mc_cls G1 90 = some 8 ∧ mc_ev (mc_X0 L xs) 170 0 [.ref 90, .int a0, .int a1, .int a2, .int a3, .int a4, .int a5, .int a6, .null, .null, .null] [] G1 = some (some (.int v), G2) ∧ I G2
def lw_R31 (L : Nat) (xs : Nat → Int32) (I : mc_H → Prop) : Prop := ∀ (a0 a1 a2 a3 : Int32) (G : mc_H), I G → ∃ (v : Int32) (G1 G2 : mc_H), mc_ev (mc_X0 L xs) 92 0 [.ref 0, .int a0, .int a1, .int a2, .int a3, .null, .null] [] G = some (some (.int v), G1) ∧ mc_cls G1 90 = some 8 ∧ mc_ev (mc_X0 L xs) 171 0 [.ref 90, .int a0, .int a1, .int a2, .int a3, .null] [] G1 = some (some (.int v), G2) ∧ I G2
def lw_R32 (L : Nat) (xs : Nat → Int32) (I : mc_H → Prop) : Prop := ∀ (a0 : Int32) (G : mc_H), I G → ∃ (v : Int32) (G1 G2 : mc_H), mc_ev (mc_X0 L xs) 93 0 [.ref 0, .int a0] [] G = some (some (.int v), G1) ∧ mc_cls G1 90 = some 8 ∧ mc_ev (mc_X0 L xs) 172 0 [.ref 90, .int a0, .null, .null, .null] [] G1 = some (some (.int v), G2) ∧ I G2
def lw_R33 (L : Nat) (xs : Nat → Int32) (I : mc_H → Prop) : Prop := ∀ (G : mc_H), I G → ∃ (v : Int64) (G1 G2 : mc_H), mc_ev (mc_X0 L xs) 94 0 [.ref 0] [] G = some (some (.long v), G1) ∧ mc_cls G1 90 = some 8 ∧ mc_ev (mc_X0 L xs) 173 0 [.ref 90] [] G1 = some (some (.long v), G2) ∧ I G2
def lw_R34 (L : Nat) (xs : Nat → Int32) (I : mc_H → Prop) : Prop := ∀ (G : mc_H), I G → ∃ (v : Int32) (G1 G2 : mc_H), mc_ev (mc_X0 L xs) 95 0 [.ref 0] [] G = some (some (.int v), G1) ∧ mc_cls G1 90 = some 8 ∧ mc_ev (mc_X0 L xs) 174 0 [.ref 90] [] G1 = some (some (.int v), G2) ∧ I G2
theorem lw_loop (I : mc_H → Prop) (hL : L ≤ 4096) (h7 : ∀ G, I G → mc_cls G 0 = some 7) (r0 : lw_R0 L xs I) (r1 : lw_R1 L xs I) (r2 : lw_R2 L xs I) (r3 : lw_R3 L xs I) (r4 : lw_R4 L xs I) (r5 : lw_R5 L xs I) (r6 : lw_R6 L xs I) (r7 : lw_R7 L xs I) (r8 : lw_R8 L xs I) (r9 : lw_R9 L xs I) (r10 : lw_R10 L xs I) (r11 : lw_R11 L xs I) (r12 : lw_R12 L xs I) (r13 : lw_R13 L xs I) (r14 : lw_R14 L xs I) (r15 : lw_R15 L xs I) (r16 : lw_R16 L xs I) (r17 : lw_R17 L xs I) (r18 : lw_R18 L xs I) (r19 : lw_R19 L xs I) (r20 : lw_R20 L xs I) (r21 : lw_R21 L xs I) (r22 : lw_R22 L xs I) (r23 : lw_R23 L xs I) (r24 : lw_R24 L xs I) (r25 : lw_R25 L xs I) (r26 : lw_R26 L xs I) (r27 : lw_R27 L xs I) (r28 : lw_R28 L xs I) (r29 : lw_R29 L xs I) (r30 : lw_R30 L xs I) (r31 : lw_R31 L xs I) (r32 : lw_R32 L xs I) (r33 : lw_R33 L xs I) (r34 : lw_R34 L xs I) : ∀ (r i : Nat) (G : mc_H), i ≤ 4096 → L ≤ i + 8 * r → I G → ∃ Gf, mc_ev (mc_X0 L xs) 180 18 (lw_fr i) [] G = some (some (.int 1), Gf) ∧ I Gf := by
  intro r
  induction r with
  | zero =>
    intro i G hi hr hG
    exact ⟨G, lw_out hL hi (by omega), hG⟩
  | succ r ih =>
    intro i G hi hr hG
    by_cases hi8 : i + 8 ≤ L
    · obtain ⟨m, hm, e⟩ := pk_andE (xs i) (m := 63) 6 (by decide)
      have h0 := h7 G hG
      have hn : i + 8 ≤ 4096 := by omega
      have hr2 : L ≤ i + 8 + 8 * r := by omega
      rcases (show m = 0 ∨ m = 1 ∨ m = 2 ∨ m = 3 ∨ m = 4 ∨ m = 5 ∨ m = 6 ∨ m = 7 ∨ m = 8 ∨ m = 9 ∨ m = 10 ∨ m = 11 ∨ m = 12 ∨ m = 13 ∨ m = 14 ∨ m = 15 ∨ m = 16 ∨ m = 17 ∨ m = 18 ∨ m = 19 ∨ m = 20 ∨ m = 21 ∨ m = 22 ∨ m = 23 ∨ m = 24 ∨ m = 25 ∨ m = 26 ∨ m = 27 ∨ m = 28 ∨ m = 29 ∨ m = 30 ∨ m = 31 ∨ m = 32 ∨ m = 33 ∨ m = 34 ∨ 34 < m by omega) with rfl | rfl | rfl | rfl | rfl | rfl | rfl | rfl | rfl | rfl | rfl | rfl | rfl | rfl | rfl | rfl | rfl | rfl | rfl | rfl | rfl | rfl | rfl | rfl | rfl | rfl | rfl | rfl | rfl | rfl | rfl | rfl | rfl | rfl | rfl | hm34
      · obtain ⟨v, G1, G2, q1, q2, q3, q4⟩ := r0 (xs (i + 1)) (xs (i + 2)) G hG 
        rw [lw_c0 hL hi8 e rfl rfl h0 q1 q2 q3]
        exact ih (i + 8) G2 hn hr2 q4
      · obtain ⟨v, G1, G2, q1, q2, q3, q4⟩ := r1 (xs (i + 1)) (xs (i + 2)) G hG 
        rw [lw_c1 hL hi8 e rfl rfl h0 q1 q2 q3]
        exact ih (i + 8) G2 hn hr2 q4
      · obtain ⟨v, G1, G2, q1, q2, q3, q4⟩ := r2 (xs (i + 1)) (xs (i + 2)) G hG 
        rw [lw_c2 hL hi8 e rfl rfl h0 q1 q2 q3]
        exact ih (i + 8) G2 hn hr2 q4
      · obtain ⟨v, G1, G2, q1, q2, q3, q4⟩ := r3 (xs (i + 1)) (if xs (i + 2) = 0 then 0 else 1) G hG (by split <;> simp)
        rw [lw_c3 hL hi8 e rfl rfl h0 q1 q2 q3]
        exact ih (i + 8) G2 hn hr2 q4
      · obtain ⟨v, G1, G2, q1, q2, q3, q4⟩ := r4 (xs (i + 1)) G hG 
        rw [lw_c4 hL hi8 e rfl h0 q1 q2 q3]
        exact ih (i + 8) G2 hn hr2 q4
      · obtain ⟨v, G1, G2, q1, q2, q3, q4⟩ := r5 (xs (i + 1)) G hG 
        rw [lw_c5 hL hi8 e rfl h0 q1 q2 q3]
        exact ih (i + 8) G2 hn hr2 q4
      · obtain ⟨v, G1, G2, q1, q2, q3, q4⟩ := r6 (xs (i + 1)) (xs (i + 2)) G hG 
        rw [lw_c6 hL hi8 e rfl rfl h0 q1 q2 q3]
        exact ih (i + 8) G2 hn hr2 q4
      · obtain ⟨v, G1, G2, q1, q2, q3, q4⟩ := r7 (xs (i + 1)) G hG 
        rw [lw_c7 hL hi8 e rfl h0 q1 q2 q3]
        exact ih (i + 8) G2 hn hr2 q4
      · obtain ⟨v, G1, G2, q1, q2, q3, q4⟩ := r8  G hG 
        rw [lw_c8 hL hi8 e  h0 q1 q2 q3]
        exact ih (i + 8) G2 hn hr2 q4
      · obtain ⟨v, G1, G2, q1, q2, q3, q4⟩ := r9  G hG 
        rw [lw_c9 hL hi8 e  h0 q1 q2 q3]
        exact ih (i + 8) G2 hn hr2 q4
      · obtain ⟨v, G1, G2, q1, q2, q3, q4⟩ := r10 (xs (i + 1)) G hG 
        rw [lw_c10 hL hi8 e rfl h0 q1 q2 q3]
        exact ih (i + 8) G2 hn hr2 q4
      · obtain ⟨v, G1, G2, q1, q2, q3, q4⟩ := r11 (xs (i + 1)) G hG 
        rw [lw_c11 hL hi8 e rfl h0 q1 q2 q3]
        exact ih (i + 8) G2 hn hr2 q4
      · obtain ⟨v, G1, G2, q1, q2, q3, q4⟩ := r12 (xs (i + 1)) (xs (i + 2)) G hG 
        rw [lw_c12 hL hi8 e rfl rfl h0 q1 q2 q3]
        exact ih (i + 8) G2 hn hr2 q4
      · obtain ⟨v, G1, G2, q1, q2, q3, q4⟩ := r13 (xs (i + 1)) (xs (i + 2)) G hG 
        rw [lw_c13 hL hi8 e rfl rfl h0 q1 q2 q3]
        exact ih (i + 8) G2 hn hr2 q4
      · obtain ⟨v, G1, G2, q1, q2, q3, q4⟩ := r14  G hG 
        rw [lw_c14 hL hi8 e  h0 q1 q2 q3]
        exact ih (i + 8) G2 hn hr2 q4
      · obtain ⟨v, G1, G2, q1, q2, q3, q4⟩ := r15 (xs (i + 1)) G hG 
        rw [lw_c15 hL hi8 e rfl h0 q1 q2 q3]
        exact ih (i + 8) G2 hn hr2 q4
      · obtain ⟨v, G1, G2, q1, q2, q3, q4⟩ := r16 (xs (i + 1)) (xs (i + 2)) G hG 
        rw [lw_c16 hL hi8 e rfl rfl h0 q1 q2 q3]
        exact ih (i + 8) G2 hn hr2 q4
      · obtain ⟨v, G1, G2, q1, q2, q3, q4⟩ := r17  G hG 
        rw [lw_c17 hL hi8 e  h0 q1 q2 q3]
        exact ih (i + 8) G2 hn hr2 q4
      · obtain ⟨v, G1, G2, q1, q2, q3, q4⟩ := r18 (xs (i + 1)) G hG 
        rw [lw_c18 hL hi8 e rfl h0 q1 q2 q3]
        exact ih (i + 8) G2 hn hr2 q4
      · obtain ⟨v, G1, G2, q1, q2, q3, q4⟩ := r19  G hG 
        rw [lw_c19 hL hi8 e  h0 q1 q2 q3]
        exact ih (i + 8) G2 hn hr2 q4
      · obtain ⟨v, G1, G2, q1, q2, q3, q4⟩ := r20  G hG 
        rw [lw_c20 hL hi8 e  h0 q1 q2 q3]
        exact ih (i + 8) G2 hn hr2 q4
      · obtain ⟨v, G1, G2, q1, q2, q3, q4⟩ := r21 (xs (i + 1)) G hG 
        rw [lw_c21 hL hi8 e rfl h0 q1 q2 q3]
        exact ih (i + 8) G2 hn hr2 q4
      · obtain ⟨v, G1, G2, q1, q2, q3, q4⟩ := r22 (xs (i + 1)) G hG 
        rw [lw_c22 hL hi8 e rfl h0 q1 q2 q3]
        exact ih (i + 8) G2 hn hr2 q4
      · obtain ⟨v, G1, G2, q1, q2, q3, q4⟩ := r23 (xs (i + 1)) G hG 
        rw [lw_c23 hL hi8 e rfl h0 q1 q2 q3]
        exact ih (i + 8) G2 hn hr2 q4
      · obtain ⟨v, G1, G2, q1, q2, q3, q4⟩ := r24 (xs (i + 1)) (xs (i + 2)) G hG 
        rw [lw_c24 hL hi8 e rfl rfl h0 q1 q2 q3]
        exact ih (i + 8) G2 hn hr2 q4
      · obtain ⟨v, G1, G2, q1, q2, q3, q4⟩ := r25 (xs (i + 1)) G hG 
        rw [lw_c25 hL hi8 e rfl h0 q1 q2 q3]
        exact ih (i + 8) G2 hn hr2 q4
      · obtain ⟨v, G1, G2, q1, q2, q3, q4⟩ := r26 (xs (i + 1)) (xs (i + 2)) (xs (i + 3)) G hG 
        rw [lw_c26 hL hi8 e rfl rfl rfl h0 q1 q2 q3]
        exact ih (i + 8) G2 hn hr2 q4
      · obtain ⟨v, G1, G2, q1, q2, q3, q4⟩ := r27 (xs (i + 1)) (xs (i + 2)) (xs (i + 3)) G hG 
        rw [lw_c27 hL hi8 e rfl rfl rfl h0 q1 q2 q3]
        exact ih (i + 8) G2 hn hr2 q4
      · obtain ⟨v, G1, G2, q1, q2, q3, q4⟩ := r28 (xs (i + 1)) (xs (i + 2)) (xs (i + 3)) (xs (i + 4)) (xs (i + 5)) G hG 
        rw [lw_c28 hL hi8 e rfl rfl rfl rfl rfl h0 q1 q2 q3]
        exact ih (i + 8) G2 hn hr2 q4
      · obtain ⟨v, G1, G2, q1, q2, q3, q4⟩ := r29 (xs (i + 1)) (xs (i + 2)) (xs (i + 3)) (xs (i + 4)) G hG 
        rw [lw_c29 hL hi8 e rfl rfl rfl rfl h0 q1 q2 q3]
        exact ih (i + 8) G2 hn hr2 q4
      · obtain ⟨v, G1, G2, q1, q2, q3, q4⟩ := r30 (xs (i + 1)) (xs (i + 2)) (xs (i + 3)) (xs (i + 4)) (xs (i + 5)) (xs (i + 6)) (xs (i + 7)) G hG 
        rw [lw_c30 hL hi8 e rfl rfl rfl rfl rfl rfl rfl h0 q1 q2 q3]
        exact ih (i + 8) G2 hn hr2 q4
      · obtain ⟨v, G1, G2, q1, q2, q3, q4⟩ := r31 (xs (i + 1)) (xs (i + 2)) (xs (i + 3)) (xs (i + 4)) G hG 
        rw [lw_c31 hL hi8 e rfl rfl rfl rfl h0 q1 q2 q3]
        exact ih (i + 8) G2 hn hr2 q4
      · obtain ⟨v, G1, G2, q1, q2, q3, q4⟩ := r32 (xs (i + 1)) G hG 
        rw [lw_c32 hL hi8 e rfl h0 q1 q2 q3]
        exact ih (i + 8) G2 hn hr2 q4
      · obtain ⟨v, G1, G2, q1, q2, q3, q4⟩ := r33  G hG 
        rw [lw_c33 hL hi8 e  h0 q1 q2 q3]
        exact ih (i + 8) G2 hn hr2 q4
      · obtain ⟨v, G1, G2, q1, q2, q3, q4⟩ := r34  G hG 
        rw [lw_c34 hL hi8 e  h0 q1 q2 q3]
        exact ih (i + 8) G2 hn hr2 q4
      · rw [lw_cd hL hi8 e hm34 hm]
        exact ih (i + 8) G hn hr2 hG
    · exact ⟨G, lw_out hL hi hi8, hG⟩
end LAW
