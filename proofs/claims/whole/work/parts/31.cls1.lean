/-! the class: the plate, what it reads -/
def pl (G : mc_H) (R C rim : Nat) (fi se lo hi : Nat → Int32) (TB OB LB : Nat) (ks ws : Nat → Int32) : Prop :=
  G[1]? = some (.inr (.inr (4, [.ref 2, .ref 7]))) ∧ G[2]? = some (.inr (.inr (0, [.int (nI R), .int (nI C), .int (nI (nN R C)), .int (nI (nJ R C)), .int (nI (nF R C)), .int (nI rim), .ref 3, .ref 4, .ref 5, .ref 6]))) ∧
  G[3]? = some (.inl (0, 17, fi)) ∧ G[4]? = some (.inl (0, 17, se)) ∧ G[5]? = some (.inl (0, 17, lo)) ∧ G[6]? = some (.inl (0, 17, hi)) ∧ G[7]? = some (.inr (.inr (5, [.int (nI TB), .int (nI OB), .int (nI LB), .ref 8, .ref 9]))) ∧ G[8]? = some (.inl (0, 12, ks)) ∧ G[9]? = some (.inl (0, 17, ws))
/-- the grid is laid out, bits, kinds and wants are as they may be -/
def pv (R C rim : Nat) (fi se lo hi : Nat → Int32) (TB OB LB : Nat) (ks ws : Nat → Int32) : Prop :=
  sh R C ∧ TB < 2 ^ nN R C ∧ OB < 2 ^ nN R C ∧ LB < 2 ^ nN R C ∧ (∀ j, j < nJ R C → fi j = nI (fs R C j) ∧ se j = nI (sn R C j) ∧ lo j = nI (min (s1 R C j) (s2 R C j)) ∧ hi j = nI (max (s1 R C j) (s2 R C j))) ∧ (∀ i, i < 12 → ∃ m, m < 5 ∧ ks i = nI m) ∧ (∀ j, j < 17 → -1000 ≤ ws j ∧ ws j ≤ 1000) ∧
  (∀ i, i < nN R C → rim / 2 ^ i % 2 = if i / C = 0 ∨ i / C = R - 1 ∨ i % C = 0 ∨ i % C = C - 1 then 1 else 0) ∧ rim < 4096 ∧ (∀ i, i < nN R C → bt (nN R C) LB i = 1 → ks i = 4)
section CLS
variable {L : Nat} {xs : Nat → Int32} {G : mc_H} {R C rim TB OB LB : Nat} {fi se lo hi ks ws : Nat → Int32}
theorem pl_f (h : pl G R C rim fi se lo hi TB OB LB ks ws) : (mc_cls G 1 = some 4 ∧ mc_cls G 2 = some 0 ∧ mc_cls G 7 = some 5) ∧ (mc_getf G 1 4 0 = some (.ref 2) ∧ mc_getf G 1 4 1 = some (.ref 7)) ∧ (mc_getf G 2 0 0 = some (.int (nI R)) ∧ mc_getf G 2 0 1 = some (.int (nI C)) ∧ mc_getf G 2 0 2 = some (.int (nI (nN R C))) ∧ mc_getf G 2 0 3 = some (.int (nI (nJ R C))) ∧ mc_getf G 2 0 4 = some (.int (nI (nF R C))) ∧ mc_getf G 2 0 5 = some (.int (nI rim)) ∧ mc_getf G 2 0 6 = some (.ref 3) ∧ mc_getf G 2 0 7 = some (.ref 4) ∧ mc_getf G 2 0 8 = some (.ref 5) ∧ mc_getf G 2 0 9 = some (.ref 6)) ∧ (mc_getf G 7 5 0 = some (.int (nI TB)) ∧ mc_getf G 7 5 1 = some (.int (nI OB)) ∧ mc_getf G 7 5 2 = some (.int (nI LB)) ∧ mc_getf G 7 5 3 = some (.ref 8) ∧ mc_getf G 7 5 4 = some (.ref 9)) := by
  obtain ⟨h1, h2, h3, h4, h5, h6, h7, h8, h9⟩ := h
  exact ⟨⟨cl_n h1, cl_n h2, cl_n h7⟩, ⟨gf_n h1 0, gf_n h1 1⟩, ⟨gf_n h2 0, gf_n h2 1, gf_n h2 2, gf_n h2 3, gf_n h2 4, gf_n h2 5, gf_n h2 6, gf_n h2 7, gf_n h2 8, gf_n h2 9⟩, gf_n h7 0, gf_n h7 1, gf_n h7 2, gf_n h7 3, gf_n h7 4⟩
theorem pl_g {X : mc_X} (h : pl G R C rim fi se lo hi TB OB LB ks ws) : (∀ j, j < 17 → mc_getA X G 0 (.ref 3) (nI j) = some (fi j)) ∧ (∀ j, j < 17 → mc_getA X G 0 (.ref 4) (nI j) = some (se j)) ∧ (∀ j, j < 17 → mc_getA X G 0 (.ref 5) (nI j) = some (lo j)) ∧ (∀ j, j < 17 → mc_getA X G 0 (.ref 6) (nI j) = some (hi j)) ∧ (∀ j, j < 12 → mc_getA X G 0 (.ref 8) (nI j) = some (ks j)) ∧ (∀ j, j < 17 → mc_getA X G 0 (.ref 9) (nI j) = some (ws j)) := by
  obtain ⟨h1, h2, h3, h4, h5, h6, h7, h8, h9⟩ := h
  exact ⟨ga_n h3 (by decide), ga_n h4 (by decide), ga_n h5 (by decide), ga_n h6 (by decide), ga_n h8 (by decide), ga_n h9 (by decide)⟩
theorem wo_t : ∀ m, m < 5 → mc_t0 m = wo (nI m) := by decide +kernel
theorem tb_0 {m : Nat} (hm : m < 5) : mc_getA (mc_X0 L xs) G 0 (.float 0) (nI m) = some (wo (nI m)) := by
  unfold mc_getA
  dsimp only
  rw [if_pos ⟨rfl, by decide, nI_in (N := 5) hm (by decide)⟩]
  show some (mc_t0 (nI m).toNatClampNeg) = _
  rw [nI_clamp (by omega), wo_t m hm]
theorem tb_k (hp : pv R C rim fi se lo hi TB OB LB ks ws) {i : Nat} (hi : i < 12) : mc_getA (mc_X0 L xs) G 0 (.float 0) (ks i) = some (wo (ks i)) := by
  obtain ⟨m, hm, e⟩ := hp.2.2.2.2.2.1 i hi
  rw [e]; exact tb_0 hm
/-- who is let go, told, turned: as the reference has it -/
def gB (N B i : Nat) : Int32 := nI (bt N B i)
theorem gB0 (N B i : Nat) : (gB N B i = 0) = (bt N B i = 0) := nI_is0 (by have := bt_lt N B i; omega)
theorem c_arrangements (h : pl G R C rim fi se lo hi TB OB LB ks ws) (hs : sh R C) : mc_ev (mc_X0 L xs) 27 0 [.ref 1] [] G = some (some (.int (nI (2 ^ nN R C))), G) := by
  have hb1 := sh_b hs
  have h1 : (1 : Int32) <<< (nI (nN R C) &&& 31) = nI (2 ^ nN R C) := by
    have := pk_shlN (n := 1) (nI (nN R C) &&& 31) (nN R C) (sh31 _ (by omega)) (by
      have : 2 ^ nN R C ≤ 2 ^ 12 := Nat.pow_le_pow_right (by decide) hb1.2.1
      omega)
    rw [Nat.one_mul] at this
    exact this
  simp only [e_27, pl_f h, h1, Option.bind_some, Option.toList_some, Option.toList_none, List.cons_append, List.nil_append, List.append_nil, List.length_cons, List.length_nil, true_or, or_true, eq_self, b01_0, b01_1, b01_2, b01_3, b01_4, Nat.zero_le, Nat.reduceAdd, Nat.reduceLeDiff, ↓reduceIte, not_true_eq_false, not_false_eq_true, Bool.false_eq_true]
theorem c_bitOf (h : pl G R C rim fi se lo hi TB OB LB ks ws) (hs : sh R C) {i : Nat} (hi : i < nN R C) : mc_ev (mc_X0 L xs) 28 0 [.ref 1, .int (nI i)] [] G = some (some (.int (nI (2 ^ (nN R C - 1 - i)))), G) := by
  have hb1 := sh_b hs
  have h1 : nI (nN R C) - 1 = nI (nN R C - 1) := nI_m1 (by omega)
  have h2 : nI (nN R C - 1) - nI i = nI (nN R C - 1 - i) := pk_sub (by omega)
  have h3 : (1 : Int32) <<< (nI (nN R C - 1 - i) &&& 31) = nI (2 ^ (nN R C - 1 - i)) := by
    have := pk_shlN (n := 1) (nI (nN R C - 1 - i) &&& 31) (nN R C - 1 - i) (sh31 _ (by omega)) (by
      have : 2 ^ (nN R C - 1 - i) ≤ 2 ^ 12 := Nat.pow_le_pow_right (by decide) (by omega)
      omega)
    rw [Nat.one_mul] at this
    exact this
  simp only [e_28, pl_f h, h1, h2, h3, Option.bind_some, Option.toList_some, Option.toList_none, List.cons_append, List.nil_append, List.append_nil, List.length_cons, List.length_nil, true_or, or_true, eq_self, b01_0, b01_1, b01_2, b01_3, b01_4, Nat.zero_le, Nat.reduceAdd, Nat.reduceLeDiff, ↓reduceIte, not_true_eq_false, not_false_eq_true, Bool.false_eq_true]
theorem c_bitIn (h : pl G R C rim fi se lo hi TB OB LB ks ws) (hs : sh R C) {i B : Nat} (hi : i < nN R C) (hB : B < 2 ^ 31) : mc_ev (mc_X0 L xs) 29 0 [.ref 1, .int (nI B), .int (nI i)] [] G = some (some (.int (nI (bt (nN R C) B i))), G) := by
  have hb1 := sh_b hs
  have h1 : nI (nN R C) - 1 = nI (nN R C - 1) := nI_m1 (by omega)
  have h2 : nI (nN R C - 1) - nI i = nI (nN R C - 1 - i) := pk_sub (by omega)
  simp only [e_29, pl_f h, h1, h2, bit_n hB (d := nN R C - 1 - i) (by omega), Option.bind_some, Option.toList_some, Option.toList_none, List.cons_append, List.nil_append, List.append_nil, List.length_cons, List.length_nil, true_or, or_true, eq_self, b01_0, b01_1, b01_2, b01_3, b01_4, Nat.zero_le, Nat.reduceAdd, Nat.reduceLeDiff, ↓reduceIte, not_true_eq_false, not_false_eq_true, Bool.false_eq_true]
  rfl
theorem c_withBit (h : pl G R C rim fi se lo hi TB OB LB ks ws) (hs : sh R C) {i B : Nat} {on : Bool} (hi : i < nN R C) : mc_ev (mc_X0 L xs) 30 0 [.ref 1, .int (nI B), .int (nI i), .int (if on then 1 else 0)] [] G = some (some (.int (nI (sb (nN R C) B i on))), G) := by
  simp only [e_30, pl_f h, c_bitOf h hs hi, nx_or, nx_cpl, nx_and, Option.bind_some, Option.toList_some, Option.toList_none, List.cons_append, List.nil_append, List.append_nil, List.length_cons, List.length_nil, true_or, or_true, eq_self, b01_0, b01_1, b01_2, b01_3, b01_4, Nat.zero_le, Nat.reduceAdd, Nat.reduceLeDiff, ↓reduceIte, not_true_eq_false, not_false_eq_true, Bool.false_eq_true]
  cases on <;> simp only [Option.bind_some, Option.toList_some, Option.toList_none, List.cons_append, List.nil_append, List.append_nil, List.length_cons, List.length_nil, true_or, or_true, eq_self, b01_0, b01_1, b01_2, b01_3, b01_4, Nat.zero_le, Nat.reduceAdd, Nat.reduceLeDiff, ↓reduceIte, not_true_eq_false, not_false_eq_true, Bool.false_eq_true] <;> rfl
theorem lt31 {N B : Nat} (hN : N ≤ 12) (h : B < 2 ^ N) : B < 2 ^ 31 := Nat.lt_of_lt_of_le h (Nat.pow_le_pow_right (by decide) (by omega))
theorem c_isHeld (h : pl G R C rim fi se lo hi TB OB LB ks ws) (hp : pv R C rim fi se lo hi TB OB LB ks ws) {i : Nat} (hi : i < nN R C) : mc_ev (mc_X0 L xs) 31 0 [.ref 1, .int (nI i), .null] [] G = some (some (.int (if hb ks (gB (nN R C) LB) i then 1 else 0)), G) := by
  have hb1 := sh_b hp.1
  have h12 : i < 12 := by omega
  have hz : (nI (bt (nN R C) LB i) = 0) = (bt (nN R C) LB i = 0) := nI_is0 (by have := bt_lt (nN R C) LB i; omega)
  simp only [e_31, pl_f h, pl_g h, h12, c_bitIn h hp.1 hi (lt31 hb1.2.1 hp.2.2.2.1), hz, Option.bind_some, Option.toList_some, Option.toList_none, List.cons_append, List.nil_append, List.append_nil, List.length_cons, List.length_nil, true_or, or_true, eq_self, b01_0, b01_1, b01_2, b01_3, b01_4, Nat.zero_le, Nat.reduceAdd, Nat.reduceLeDiff, ↓reduceIte, not_true_eq_false, not_false_eq_true, Bool.false_eq_true]
  unfold hb
  have g0 := gB0 (nN R C) LB i
  by_cases h1 : ks i = 1
  · simp [h1]
  · by_cases h4 : ks i = 4
    · by_cases h5 : bt (nN R C) LB i = 0 <;> simp [h1, h4, h5, g0]
    · simp [h1, h4]
/-- the held ones -/
def hH (R C LB : Nat) (ks : Nat → Int32) : Nat := hB (nN R C) (hb ks (gB (nN R C) LB)) (nN R C)
theorem hH_lt {R C LB : Nat} {ks : Nat → Int32} : hH R C LB ks < 2 ^ nN R C := hB_lt _ (Nat.le_refl _)
theorem hH_bt {R C LB : Nat} {ks : Nat → Int32} (hs : sh R C) {i : Nat} (hi : i < nN R C) : bt (nN R C) (hH R C LB ks) i = (hb ks (gB (nN R C) LB) i).toNat := by
  unfold hH
  rw [hB_bt (sh_b hs).2.1 _ (Nat.le_refl _) i hi, if_pos hi]
theorem c_heldBits (h : pl G R C rim fi se lo hi TB OB LB ks ws) (hp : pv R C rim fi se lo hi TB OB LB ks ws) : mc_ev (mc_X0 L xs) 32 0 [.ref 1, .null, .null] [] G = some (some (.int (nI (hH R C LB ks))), G) := by
  have hb1 := sh_b hp.1
  have h0 : mc_ev (mc_X0 L xs) 32 0 [.ref 1, .null, .null] [] G = mc_ev (mc_X0 L xs) 32 4 [.ref 1, .int 0, .int 0] [] G := by
    simp only [e_32, Option.bind_some, Option.toList_some, Option.toList_none, List.cons_append, List.nil_append, List.append_nil, List.length_cons, List.length_nil, true_or, or_true, eq_self, b01_0, b01_1, b01_2, b01_3, b01_4, Nat.zero_le, Nat.reduceAdd, Nat.reduceLeDiff, ↓reduceIte, not_true_eq_false, not_false_eq_true, Bool.false_eq_true]
  have hl := ev_loop (X := mc_X0 L xs) (k := 32) (pc := 4) (fun i => [.ref 1, .int (nI (hB (nN R C) (hb ks (gB (nN R C) LB)) i)), .int (nI i)]) (fun _ => G) (nN R C) (by
    intro i hi
    have h1 : nI i < nI (nN R C) := nI_lt hi (by omega)
    rw [h_32_4]
    simp only [e_32, pl_f h, h1, c_isHeld h hp hi, c_withBit h hp.1 hi, nI_1, Option.bind_some, Option.toList_some, Option.toList_none, List.cons_append, List.nil_append, List.append_nil, List.length_cons, List.length_nil, true_or, or_true, eq_self, b01_0, b01_1, b01_2, b01_3, b01_4, Nat.zero_le, Nat.reduceAdd, Nat.reduceLeDiff, ↓reduceIte, not_true_eq_false, not_false_eq_true, Bool.false_eq_true]
    rfl)
  have h2 : ¬ nI (nN R C) < nI (nN R C) := nI_nlt (Nat.le_refl _) (by omega)
  rw [h0]
  refine Eq.trans hl ?_
  rw [h_32_4]
  simp only [e_32, pl_f h, h2, Option.bind_some, Option.toList_some, Option.toList_none, List.cons_append, List.nil_append, List.append_nil, List.length_cons, List.length_nil, true_or, or_true, eq_self, b01_0, b01_1, b01_2, b01_3, b01_4, Nat.zero_le, Nat.reduceAdd, Nat.reduceLeDiff, ↓reduceIte, not_true_eq_false, not_false_eq_true, Bool.false_eq_true]
  rfl
/-- the arrangement now -/
def pN1 (R C TB OB LB : Nat) (ks : Nat → Int32) : Nat := mx TB OB (hH R C LB ks)
theorem c_pointing (h : pl G R C rim fi se lo hi TB OB LB ks ws) (hp : pv R C rim fi se lo hi TB OB LB ks ws) : mc_ev (mc_X0 L xs) 33 0 [.ref 1, .null] [] G = some (some (.int (nI (pN1 R C TB OB LB ks))), G) := by
  simp only [e_33, pl_f h, c_heldBits h hp, nx_cpl, nx_and, nx_or, Option.bind_some, Option.toList_some, Option.toList_none, List.cons_append, List.nil_append, List.append_nil, List.length_cons, List.length_nil, true_or, or_true, eq_self, b01_0, b01_1, b01_2, b01_3, b01_4, Nat.zero_le, Nat.reduceAdd, Nat.reduceLeDiff, ↓reduceIte, not_true_eq_false, not_false_eq_true, Bool.false_eq_true]
  rfl
theorem c_countOf (h : pl G R C rim fi se lo hi TB OB LB ks ws) (hp : pv R C rim fi se lo hi TB OB LB ks ws) {j : Nat} (hj : j < nJ R C) : mc_ev (mc_X0 L xs) 34 0 [.ref 1, .int (nI j), .null, .null] [] G = some (some (.int (ct R C ws ks j)), G) := by
  have hb1 := sh_b hp.1
  have hf := fs_b hp.1 hj
  have h17 : j < 17 := by omega
  have hg := hp.2.2.2.2.1 j hj
  obtain ⟨hg1, hg2, -⟩ := hg
  have i1 : fs R C j < 12 := by omega
  have i2 : sn R C j < 12 := by omega
  simp only [e_34, pl_f h, pl_g h, h17, hg1, hg2, i1, i2, tb_k hp i1, tb_k hp i2, Option.bind_some, Option.toList_some, Option.toList_none, List.cons_append, List.nil_append, List.append_nil, List.length_cons, List.length_nil, true_or, or_true, eq_self, b01_0, b01_1, b01_2, b01_3, b01_4, Nat.zero_le, Nat.reduceAdd, Nat.reduceLeDiff, ↓reduceIte, not_true_eq_false, not_false_eq_true, Bool.false_eq_true]
  rfl
theorem c_amountOf (h : pl G R C rim fi se lo hi TB OB LB ks ws) (hp : pv R C rim fi se lo hi TB OB LB ks ws) {j : Nat} (hj : j < nJ R C) : mc_ev (mc_X0 L xs) 35 0 [.ref 1, .int (nI j)] [] G = some (some (.int (if 0 ≤ ct R C ws ks j then ct R C ws ks j else 0 - ct R C ws ks j)), G) := by
  simp only [e_35, pl_f h, c_countOf h hp hj, Option.bind_some, Option.toList_some, Option.toList_none, List.cons_append, List.nil_append, List.append_nil, List.length_cons, List.length_nil, true_or, or_true, eq_self, b01_0, b01_1, b01_2, b01_3, b01_4, Nat.zero_le, Nat.reduceAdd, Nat.reduceLeDiff, ↓reduceIte, not_true_eq_false, not_false_eq_true, Bool.false_eq_true]
/-- is joint j unmet in arrangement A -/
def unB (R C : Nat) (ws ks : Nat → Int32) (A j : Nat) : Bool := if bt (nN R C) A (fs R C j) = bt (nN R C) A (sn R C j) then decide (ct R C ws ks j < 0) else decide (0 < ct R C ws ks j)
theorem c_isUnmet (h : pl G R C rim fi se lo hi TB OB LB ks ws) (hp : pv R C rim fi se lo hi TB OB LB ks ws) {j A : Nat} (hj : j < nJ R C) (hA : A < 2 ^ 31) : mc_ev (mc_X0 L xs) 36 0 [.ref 1, .int (nI j), .int (nI A), .null, .null] [] G = some (some (.int (if unB R C ws ks A j then 1 else 0)), G) := by
  have hb1 := sh_b hp.1
  have hf := fs_b hp.1 hj
  have h17 : j < 17 := by omega
  obtain ⟨hg1, hg2, -⟩ := hp.2.2.2.2.1 j hj
  have b1 := bt_lt (nN R C) A (fs R C j)
  have b2 := bt_lt (nN R C) A (sn R C j)
  have h2 : (nI (bt (nN R C) A (fs R C j)) = nI (bt (nN R C) A (sn R C j))) = (bt (nN R C) A (fs R C j) = bt (nN R C) A (sn R C j)) := propext (nI_eq (by omega) (by omega))
  simp only [e_36, pl_f h, pl_g h, h17, hg1, hg2, c_bitIn h hp.1 (i := fs R C j) (B := A) (by omega) hA, c_bitIn h hp.1 (i := sn R C j) (B := A) (by omega) hA, c_countOf h hp hj, h2, Option.bind_some, Option.toList_some, Option.toList_none, List.cons_append, List.nil_append, List.append_nil, List.length_cons, List.length_nil, true_or, or_true, eq_self, b01_0, b01_1, b01_2, b01_3, b01_4, Nat.zero_le, Nat.reduceAdd, Nat.reduceLeDiff, ↓reduceIte, not_true_eq_false, not_false_eq_true, Bool.false_eq_true]
  unfold unB
  by_cases al : bt (nN R C) A (fs R C j) = bt (nN R C) A (sn R C j)
  · by_cases c : ct R C ws ks j < 0 <;> simp only [al, c, Option.bind_some, Option.toList_some, Option.toList_none, List.cons_append, List.nil_append, List.append_nil, List.length_cons, List.length_nil, true_or, or_true, eq_self, b01_0, b01_1, b01_2, b01_3, b01_4, Nat.zero_le, Nat.reduceAdd, Nat.reduceLeDiff, ↓reduceIte, not_true_eq_false, not_false_eq_true, Bool.false_eq_true, decide_true, decide_false]
  · by_cases c : 0 < ct R C ws ks j <;> simp only [al, c, Option.bind_some, Option.toList_some, Option.toList_none, List.cons_append, List.nil_append, List.append_nil, List.length_cons, List.length_nil, true_or, or_true, eq_self, b01_0, b01_1, b01_2, b01_3, b01_4, Nat.zero_le, Nat.reduceAdd, Nat.reduceLeDiff, ↓reduceIte, not_true_eq_false, not_false_eq_true, Bool.false_eq_true, decide_true, decide_false]
end CLS
