/-! the class: sums over joints and needles -/
def am (c : Int32) : Int32 := if 0 ≤ c then c else 0 - c
theorem tm_un (c : Int32) (al : Prop) [Decidable al] : (if (if al then decide (c < 0) else decide (0 < c)) = true then am c else 0) = tm c al := by
  unfold tm am
  by_cases a : al
  · by_cases h : c < 0
    · have h2 : ¬ 0 ≤ c := Int32.not_le.mpr h
      simp [a, h, h2]
    · simp [a, h]
  · by_cases h : 0 < c
    · have h2 : 0 ≤ c := Int32.le_of_lt h
      simp [a, h, h2]
    · simp [a, h]
theorem tm_unB (R C : Nat) (ws ks : Nat → Int32) (A j : Nat) : (if unB R C ws ks A j then am (ct R C ws ks j) else 0) = tm (ct R C ws ks j) (bt (nN R C) A (fs R C j) = bt (nN R C) A (sn R C j)) := tm_un _ _
def toB (R C j n : Nat) : Bool := decide (fs R C j = n ∨ sn R C j = n)
/-- by how much the strain is more, when needle n is turned in arrangement A -/
def dl (R C : Nat) (ws ks : Nat → Int32) (A n j : Nat) : Int32 := if toB R C j n then (if unB R C ws ks A j then -(am (ct R C ws ks j)) else am (ct R C ws ks j)) else 0
def mrI (R C TB OB LB : Nat) (ks ws : Nat → Int32) (n : Nat) : Int32 := if hb ks (gB (nN R C) LB) n then 0 else bx_sum (dl R C ws ks (pN1 R C TB OB LB ks) n) (nJ R C)
def ffst (ok : Nat → Bool) : Nat → Nat → Int32
  | 0, _ => -9
  | r + 1, a => if ok a then nI a else ffst ok r (a + 1)
def tfN (R C : Nat) (ws ks : Nat → Int32) : Nat → Nat
  | 0 => 0
  | j + 1 => if ct R C ws ks j < 0 then (tfN R C ws ks j ^^^ 2 ^ min (s1 R C j) (s2 R C j)) ^^^ 2 ^ max (s1 R C j) (s2 R C j) else tfN R C ws ks j
section CLS
variable {L : Nat} {xs : Nat → Int32} {G : mc_H} {R C rim TB OB LB : Nat} {fi se lo hi ks ws : Nat → Int32}
theorem c_strainOf (h : pl G R C rim fi se lo hi TB OB LB ks ws) (hp : pv R C rim fi se lo hi TB OB LB ks ws) {A : Nat} (hA : A < 2 ^ 31) : mc_ev (mc_X0 L xs) 37 0 [.ref 1, .int (nI A), .null, .null] [] G = some (some (.int (stA R C ws ks A)), G) := by
  have hb1 := sh_b hp.1
  have h0 : mc_ev (mc_X0 L xs) 37 0 [.ref 1, .int (nI A), .null, .null] [] G = mc_ev (mc_X0 L xs) 37 4 [.ref 1, .int (nI A), .int 0, .int 0] [] G := by
    simp only [e_37, Option.bind_some, Option.toList_some, Option.toList_none, List.cons_append, List.nil_append, List.append_nil, List.length_cons, List.length_nil, true_or, or_true, eq_self, b01_0, b01_1, b01_2, b01_3, b01_4, Nat.zero_le, Nat.reduceAdd, Nat.reduceLeDiff, ↓reduceIte, not_true_eq_false, not_false_eq_true, Bool.false_eq_true]
  have hl := ev_loop (X := mc_X0 L xs) (k := 37) (pc := 4) (fun i => [.ref 1, .int (nI A), .int (bx_sum (fun j => tm (ct R C ws ks j) (bt (nN R C) A (fs R C j) = bt (nN R C) A (sn R C j))) i), .int (nI i)]) (fun _ => G) (nJ R C) (by
    intro i hi
    have h1 : nI i < nI (nJ R C) := nI_lt hi (by omega)
    rw [h_37_4]
    simp only [e_37, pl_f h, h1, c_isUnmet h hp hi hA, c_amountOf h hp hi, nI_1, Option.bind_some, Option.toList_some, Option.toList_none, List.cons_append, List.nil_append, List.append_nil, List.length_cons, List.length_nil, true_or, or_true, eq_self, b01_0, b01_1, b01_2, b01_3, b01_4, Nat.zero_le, Nat.reduceAdd, Nat.reduceLeDiff, ↓reduceIte, not_true_eq_false, not_false_eq_true, Bool.false_eq_true]
    show _ = mc_ev (mc_X0 L xs) 37 4 [.ref 1, .int (nI A), .int (bx_sum (fun j => tm (ct R C ws ks j) (bt (nN R C) A (fs R C j) = bt (nN R C) A (sn R C j))) i + tm (ct R C ws ks i) (bt (nN R C) A (fs R C i) = bt (nN R C) A (sn R C i))), .int (nI (i + 1))] [] G
    rw [← tm_unB]
    unfold am
    cases unB R C ws ks A i <;> simp only [Option.bind_some, Option.toList_some, Option.toList_none, List.cons_append, List.nil_append, List.append_nil, List.length_cons, List.length_nil, true_or, or_true, eq_self, b01_0, b01_1, b01_2, b01_3, b01_4, Nat.zero_le, Nat.reduceAdd, Nat.reduceLeDiff, ↓reduceIte, not_true_eq_false, not_false_eq_true, Bool.false_eq_true, Int32.add_zero])
  have h2 : ¬ nI (nJ R C) < nI (nJ R C) := nI_nlt (Nat.le_refl _) (by omega)
  rw [h0]
  refine Eq.trans hl ?_
  rw [h_37_4]
  simp only [e_37, pl_f h, h2, Option.bind_some, Option.toList_some, Option.toList_none, List.cons_append, List.nil_append, List.append_nil, List.length_cons, List.length_nil, true_or, or_true, eq_self, b01_0, b01_1, b01_2, b01_3, b01_4, Nat.zero_le, Nat.reduceAdd, Nat.reduceLeDiff, ↓reduceIte, not_true_eq_false, not_false_eq_true, Bool.false_eq_true]
  rfl
theorem pN1_lt (hp : pv R C rim fi se lo hi TB OB LB ks ws) : pN1 R C TB OB LB ks < 2 ^ nN R C := mx_lt hp.2.1 hp.2.2.1
theorem pN1_31 (hp : pv R C rim fi se lo hi TB OB LB ks ws) : pN1 R C TB OB LB ks < 2 ^ 31 := lt31 (sh_b hp.1).2.1 (pN1_lt hp)
theorem c_strainNow (h : pl G R C rim fi se lo hi TB OB LB ks ws) (hp : pv R C rim fi se lo hi TB OB LB ks ws) : mc_ev (mc_X0 L xs) 38 0 [.ref 1] [] G = some (some (.int (stA R C ws ks (pN1 R C TB OB LB ks))), G) := by
  simp only [e_38, pl_f h, c_pointing h hp, c_strainOf h hp (pN1_31 hp), Option.bind_some, Option.toList_some, Option.toList_none, List.cons_append, List.nil_append, List.append_nil, List.length_cons, List.length_nil, true_or, or_true, eq_self, b01_0, b01_1, b01_2, b01_3, b01_4, Nat.zero_le, Nat.reduceAdd, Nat.reduceLeDiff, ↓reduceIte, not_true_eq_false, not_false_eq_true, Bool.false_eq_true]
theorem c_touches (h : pl G R C rim fi se lo hi TB OB LB ks ws) (hp : pv R C rim fi se lo hi TB OB LB ks ws) {j n : Nat} (hj : j < nJ R C) (hn : n < 12) : mc_ev (mc_X0 L xs) 39 0 [.ref 1, .int (nI j), .int (nI n)] [] G = some (some (.int (if toB R C j n then 1 else 0)), G) := by
  have hb1 := sh_b hp.1
  have hf := fs_b hp.1 hj
  have h17 : j < 17 := by omega
  obtain ⟨hg1, hg2, -⟩ := hp.2.2.2.2.1 j hj
  have e1 : (nI (fs R C j) = nI n) = (fs R C j = n) := propext (nI_eq (by omega) (by omega))
  have e2 : (nI (sn R C j) = nI n) = (sn R C j = n) := propext (nI_eq (by omega) (by omega))
  simp only [e_39, pl_f h, pl_g h, h17, hg1, hg2, e1, e2, Option.bind_some, Option.toList_some, Option.toList_none, List.cons_append, List.nil_append, List.append_nil, List.length_cons, List.length_nil, true_or, or_true, eq_self, b01_0, b01_1, b01_2, b01_3, b01_4, Nat.zero_le, Nat.reduceAdd, Nat.reduceLeDiff, ↓reduceIte, not_true_eq_false, not_false_eq_true, Bool.false_eq_true]
  unfold toB
  by_cases a : fs R C j = n
  · simp [a]
  · by_cases b : sn R C j = n <;> simp [a, b]
theorem c_moreByTurning (h : pl G R C rim fi se lo hi TB OB LB ks ws) (hp : pv R C rim fi se lo hi TB OB LB ks ws) {n : Nat} (hn : n < nN R C) : mc_ev (mc_X0 L xs) 40 0 [.ref 1, .int (nI n), .null, .null, .null] [] G = some (some (.int (mrI R C TB OB LB ks ws n)), G) := by
  have hb1 := sh_b hp.1
  unfold mrI
  cases hh : hb ks (gB (nN R C) LB) n with
  | true => simp only [e_40, pl_f h, c_isHeld h hp hn, hh, Option.bind_some, Option.toList_some, Option.toList_none, List.cons_append, List.nil_append, List.append_nil, List.length_cons, List.length_nil, true_or, or_true, eq_self, b01_0, b01_1, b01_2, b01_3, b01_4, Nat.zero_le, Nat.reduceAdd, Nat.reduceLeDiff, ↓reduceIte, not_true_eq_false, not_false_eq_true, Bool.false_eq_true]
  | false =>
  have h0 : mc_ev (mc_X0 L xs) 40 0 [.ref 1, .int (nI n), .null, .null, .null] [] G = mc_ev (mc_X0 L xs) 40 20 [.ref 1, .int (nI n), .int (nI (pN1 R C TB OB LB ks)), .int 0, .int 0] [] G := by
    simp only [e_40, pl_f h, c_isHeld h hp hn, hh, c_pointing h hp, Option.bind_some, Option.toList_some, Option.toList_none, List.cons_append, List.nil_append, List.append_nil, List.length_cons, List.length_nil, true_or, or_true, eq_self, b01_0, b01_1, b01_2, b01_3, b01_4, Nat.zero_le, Nat.reduceAdd, Nat.reduceLeDiff, ↓reduceIte, not_true_eq_false, not_false_eq_true, Bool.false_eq_true]
  have hl := ev_loop (X := mc_X0 L xs) (k := 40) (pc := 20) (fun i => [.ref 1, .int (nI n), .int (nI (pN1 R C TB OB LB ks)), .int (bx_sum (dl R C ws ks (pN1 R C TB OB LB ks) n) i), .int (nI i)]) (fun _ => G) (nJ R C) (by
    intro i hi
    have h1 : nI i < nI (nJ R C) := nI_lt hi (by omega)
    rw [h_40_20]
    simp only [e_40, pl_f h, h1, c_touches h hp hi (n := n) (by omega), c_isUnmet h hp hi (pN1_31 hp), c_amountOf h hp hi, nI_1, Option.bind_some, Option.toList_some, Option.toList_none, List.cons_append, List.nil_append, List.append_nil, List.length_cons, List.length_nil, true_or, or_true, eq_self, b01_0, b01_1, b01_2, b01_3, b01_4, Nat.zero_le, Nat.reduceAdd, Nat.reduceLeDiff, ↓reduceIte, not_true_eq_false, not_false_eq_true, Bool.false_eq_true]
    show _ = mc_ev (mc_X0 L xs) 40 20 [.ref 1, .int (nI n), .int (nI (pN1 R C TB OB LB ks)), .int (bx_sum (dl R C ws ks (pN1 R C TB OB LB ks) n) i + dl R C ws ks (pN1 R C TB OB LB ks) n i), .int (nI (i + 1))] [] G
    unfold dl am
    cases toB R C i n with
    | false => simp only [Option.bind_some, Option.toList_some, Option.toList_none, List.cons_append, List.nil_append, List.append_nil, List.length_cons, List.length_nil, true_or, or_true, eq_self, b01_0, b01_1, b01_2, b01_3, b01_4, Nat.zero_le, Nat.reduceAdd, Nat.reduceLeDiff, ↓reduceIte, not_true_eq_false, not_false_eq_true, Bool.false_eq_true, Int32.add_zero]
    | true => cases unB R C ws ks (pN1 R C TB OB LB ks) i <;> simp only [Option.bind_some, Option.toList_some, Option.toList_none, List.cons_append, List.nil_append, List.append_nil, List.length_cons, List.length_nil, true_or, or_true, eq_self, b01_0, b01_1, b01_2, b01_3, b01_4, Nat.zero_le, Nat.reduceAdd, Nat.reduceLeDiff, ↓reduceIte, not_true_eq_false, not_false_eq_true, Bool.false_eq_true])
  have h2 : ¬ nI (nJ R C) < nI (nJ R C) := nI_nlt (Nat.le_refl _) (by omega)
  rw [h0]
  refine Eq.trans hl ?_
  rw [h_40_20]
  simp only [e_40, pl_f h, h2, Option.bind_some, Option.toList_some, Option.toList_none, List.cons_append, List.nil_append, List.append_nil, List.length_cons, List.length_nil, true_or, or_true, eq_self, b01_0, b01_1, b01_2, b01_3, b01_4, Nat.zero_le, Nat.reduceAdd, Nat.reduceLeDiff, ↓reduceIte, not_true_eq_false, not_false_eq_true, Bool.false_eq_true]
theorem c_firstToRelax (h : pl G R C rim fi se lo hi TB OB LB ks ws) (hp : pv R C rim fi se lo hi TB OB LB ks ws) : mc_ev (mc_X0 L xs) 41 0 [.ref 1, .null] [] G = some (some (.int (ffst (fun n => decide (mrI R C TB OB LB ks ws n < 0)) (nN R C) 0)), G) := by
  have hb1 := sh_b hp.1
  have h0 : mc_ev (mc_X0 L xs) 41 0 [.ref 1, .null] [] G = mc_ev (mc_X0 L xs) 41 2 [.ref 1, .int 0] [] G := by
    simp only [e_41, Option.bind_some, Option.toList_some, Option.toList_none, List.cons_append, List.nil_append, List.append_nil, List.length_cons, List.length_nil, true_or, or_true, eq_self, b01_0, b01_1, b01_2, b01_3, b01_4, Nat.zero_le, Nat.reduceAdd, Nat.reduceLeDiff, ↓reduceIte, not_true_eq_false, not_false_eq_true, Bool.false_eq_true]
  have key : ∀ r a, a + r = nN R C → mc_ev (mc_X0 L xs) 41 2 [.ref 1, .int (nI a)] [] G = some (some (.int (ffst (fun n => decide (mrI R C TB OB LB ks ws n < 0)) r a)), G) := by
    intro r
    induction r with
    | zero =>
      intro a ha
      have h2 : ¬ nI a < nI (nN R C) := nI_nlt (by omega) (by omega)
      rw [h_41_2]
      simp only [e_41, pl_f h, h2, Option.bind_some, Option.toList_some, Option.toList_none, List.cons_append, List.nil_append, List.append_nil, List.length_cons, List.length_nil, true_or, or_true, eq_self, b01_0, b01_1, b01_2, b01_3, b01_4, Nat.zero_le, Nat.reduceAdd, Nat.reduceLeDiff, ↓reduceIte, not_true_eq_false, not_false_eq_true, Bool.false_eq_true]
      rfl
    | succ r ih =>
      intro a ha
      have h1 : nI a < nI (nN R C) := nI_lt (by omega) (by omega)
      rw [h_41_2]
      simp only [e_41, pl_f h, h1, c_moreByTurning h hp (n := a) (by omega), nI_1, Option.bind_some, Option.toList_some, Option.toList_none, List.cons_append, List.nil_append, List.append_nil, List.length_cons, List.length_nil, true_or, or_true, eq_self, b01_0, b01_1, b01_2, b01_3, b01_4, Nat.zero_le, Nat.reduceAdd, Nat.reduceLeDiff, ↓reduceIte, not_true_eq_false, not_false_eq_true, Bool.false_eq_true]
      show _ = some (some (Value.int (if decide (mrI R C TB OB LB ks ws a < 0) = true then nI a else ffst (fun n => decide (mrI R C TB OB LB ks ws n < 0)) r (a + 1))), G)
      by_cases c : mrI R C TB OB LB ks ws a < 0
      · simp only [c, Option.bind_some, Option.toList_some, Option.toList_none, List.cons_append, List.nil_append, List.append_nil, List.length_cons, List.length_nil, true_or, or_true, eq_self, b01_0, b01_1, b01_2, b01_3, b01_4, Nat.zero_le, Nat.reduceAdd, Nat.reduceLeDiff, ↓reduceIte, not_true_eq_false, not_false_eq_true, Bool.false_eq_true, decide_true]
      · simp only [c, Option.bind_some, Option.toList_some, Option.toList_none, List.cons_append, List.nil_append, List.append_nil, List.length_cons, List.length_nil, true_or, or_true, eq_self, b01_0, b01_1, b01_2, b01_3, b01_4, Nat.zero_le, Nat.reduceAdd, Nat.reduceLeDiff, ↓reduceIte, not_true_eq_false, not_false_eq_true, Bool.false_eq_true, decide_false]; exact ih (a + 1) (by omega)
  rw [h0]
  exact key _ 0 (by omega)
theorem shl1 {l : Nat} (hl : l < 31) : (1 : Int32) <<< (nI l &&& 31) = nI (2 ^ l) := by
  have := pk_shlN (n := 1) (nI l &&& 31) l (sh31 _ (by omega)) (by
    have : 2 ^ l ≤ 2 ^ 30 := Nat.pow_le_pow_right (by decide) (by omega)
    omega)
  rw [Nat.one_mul] at this
  exact this
theorem c_troubledFields (h : pl G R C rim fi se lo hi TB OB LB ks ws) (hp : pv R C rim fi se lo hi TB OB LB ks ws) : mc_ev (mc_X0 L xs) 44 0 [.ref 1, .null, .null] [] G = some (some (.int (nI (tfN R C ws ks (nJ R C)))), G) := by
  have hb1 := sh_b hp.1
  have h0 : mc_ev (mc_X0 L xs) 44 0 [.ref 1, .null, .null] [] G = mc_ev (mc_X0 L xs) 44 4 [.ref 1, .int 0, .int 0] [] G := by
    simp only [e_44, Option.bind_some, Option.toList_some, Option.toList_none, List.cons_append, List.nil_append, List.append_nil, List.length_cons, List.length_nil, true_or, or_true, eq_self, b01_0, b01_1, b01_2, b01_3, b01_4, Nat.zero_le, Nat.reduceAdd, Nat.reduceLeDiff, ↓reduceIte, not_true_eq_false, not_false_eq_true, Bool.false_eq_true]
  have hl := ev_loop (X := mc_X0 L xs) (k := 44) (pc := 4) (fun i => [.ref 1, .int (nI (tfN R C ws ks i)), .int (nI i)]) (fun _ => G) (nJ R C) (by
    intro i hi
    have h1 : nI i < nI (nJ R C) := nI_lt hi (by omega)
    have h17 : i < 17 := by omega
    have hf := fs_b hp.1 hi
    obtain ⟨-, -, hg3, hg4⟩ := hp.2.2.2.2.1 i hi
    rw [h_44_4]
    simp only [e_44, pl_f h, pl_g h, h17, h1, c_countOf h hp hi, hg3, hg4, shl1 (l := min (s1 R C i) (s2 R C i)) (by omega), shl1 (l := max (s1 R C i) (s2 R C i)) (by omega), nx_xor, nI_1, Option.bind_some, Option.toList_some, Option.toList_none, List.cons_append, List.nil_append, List.append_nil, List.length_cons, List.length_nil, true_or, or_true, eq_self, b01_0, b01_1, b01_2, b01_3, b01_4, Nat.zero_le, Nat.reduceAdd, Nat.reduceLeDiff, ↓reduceIte, not_true_eq_false, not_false_eq_true, Bool.false_eq_true]
    show _ = mc_ev (mc_X0 L xs) 44 4 [.ref 1, .int (nI (if ct R C ws ks i < 0 then (tfN R C ws ks i ^^^ 2 ^ min (s1 R C i) (s2 R C i)) ^^^ 2 ^ max (s1 R C i) (s2 R C i) else tfN R C ws ks i)), .int (nI (i + 1))] [] G
    by_cases c : ct R C ws ks i < 0 <;> simp only [c, Option.bind_some, Option.toList_some, Option.toList_none, List.cons_append, List.nil_append, List.append_nil, List.length_cons, List.length_nil, true_or, or_true, eq_self, b01_0, b01_1, b01_2, b01_3, b01_4, Nat.zero_le, Nat.reduceAdd, Nat.reduceLeDiff, ↓reduceIte, not_true_eq_false, not_false_eq_true, Bool.false_eq_true])
  have h2 : ¬ nI (nJ R C) < nI (nJ R C) := nI_nlt (Nat.le_refl _) (by omega)
  rw [h0]
  refine Eq.trans hl ?_
  rw [h_44_4]
  simp only [e_44, pl_f h, h2, Option.bind_some, Option.toList_some, Option.toList_none, List.cons_append, List.nil_append, List.append_nil, List.length_cons, List.length_nil, true_or, or_true, eq_self, b01_0, b01_1, b01_2, b01_3, b01_4, Nat.zero_le, Nat.reduceAdd, Nat.reduceLeDiff, ↓reduceIte, not_true_eq_false, not_false_eq_true, Bool.false_eq_true]
end CLS
