/-! rows: troubled -/
theorem nsum_cg {f g : Nat → Nat} : ∀ n, (∀ j, j < n → f j = g j) → nsum f n = nsum g n
  | 0, _ => rfl
  | n + 1, h => by
    show nsum f n + f n = nsum g n + g n
    rw [nsum_cg n (fun j hj => h j (by omega)), h n (by omega)]
theorem trB_cg {R C : Nat} {wa ki ws ks : Nat → Int32} (hs : sh R C) (hk : ∀ i, i < nN R C → ki i = ks i) (hw : ∀ j, j < nJ R C → wa j = ws j) (f : Nat) : trB R C wa ki f = trB R C ws ks f := by
  unfold trB
  rw [nsum_cg (f := trq R C wa ki f) (g := trq R C ws ks f) _ (fun j hj => by unfold trq; rw [ct_cg hs hk hw hj])]
theorem tf_lt {R C : Nat} {ws ks : Nat → Int32} (hs : sh R C) : ∀ n, n ≤ nJ R C → tfN R C ws ks n < 2 ^ 7
  | 0, _ => by show 0 < _; decide
  | j + 1, h => by
    have ih := tf_lt (ws := ws) (ks := ks) hs j (by omega)
    have hf := fs_b hs (show j < nJ R C by omega)
    have hb1 := sh_b hs
    show (if ct R C ws ks j < 0 then (tfN R C ws ks j ^^^ 2 ^ min (s1 R C j) (s2 R C j)) ^^^ 2 ^ max (s1 R C j) (s2 R C j) else tfN R C ws ks j) < 2 ^ 7
    split
    · exact Nat.xor_lt_two_pow (Nat.xor_lt_two_pow ih (Nat.pow_lt_pow_right (by decide) (by omega))) (Nat.pow_lt_pow_right (by decide) (by omega))
    · exact ih
theorem tf_bit {R C : Nat} {ws ks : Nat → Int32} (f : Nat) : ∀ n, (tfN R C ws ks n).testBit f = decide (nsum (trq R C ws ks f) n % 2 = 1)
  | 0 => by show (0 : Nat).testBit f = decide (0 % 2 = 1); rw [Nat.zero_testBit]; rfl
  | j + 1 => by
    have ih := tf_bit (R := R) (C := C) (ws := ws) (ks := ks) f j
    have e : nsum (trq R C ws ks f) (j + 1) = nsum (trq R C ws ks f) j + trq R C ws ks f j := rfl
    rw [e]
    clear e
    generalize nsum (trq R C ws ks f) j = m at ih ⊢
    show (if ct R C ws ks j < 0 then (tfN R C ws ks j ^^^ 2 ^ min (s1 R C j) (s2 R C j)) ^^^ 2 ^ max (s1 R C j) (s2 R C j) else tfN R C ws ks j).testBit f = _
    unfold trq
    by_cases c : ct R C ws ks j < 0
    · rw [if_pos c, if_pos c, Nat.testBit_xor, Nat.testBit_xor, ih, Nat.testBit_two_pow, Nat.testBit_two_pow]
      by_cases a1 : s1 R C j = f <;> by_cases a2 : s2 R C j = f
      · rw [a1, a2, Nat.min_self, Nat.max_self]
        have : (m + (1 + 1)) % 2 = m % 2 := by omega
        simp [this]
      · rw [if_pos a1, if_neg a2]
        have h2 : (decide (min (s1 R C j) (s2 R C j) = f) ^^ decide (max (s1 R C j) (s2 R C j) = f)) = true := by
          rcases Nat.le_total (s1 R C j) (s2 R C j) with q | q
          · rw [Nat.min_eq_left q, Nat.max_eq_right q]; simp [a1, a2]
          · rw [Nat.min_eq_right q, Nat.max_eq_left q]; simp [a1, a2]
        rw [Bool.xor_assoc, h2]
        rcases (show m % 2 = 0 ∨ m % 2 = 1 by omega) with q | q
        · have : (m + (1 + 0)) % 2 = 1 := by omega
          simp [q, this]
        · have : (m + (1 + 0)) % 2 = 0 := by omega
          simp [q, this]
      · rw [if_neg a1, if_pos a2]
        have h2 : (decide (min (s1 R C j) (s2 R C j) = f) ^^ decide (max (s1 R C j) (s2 R C j) = f)) = true := by
          rcases Nat.le_total (s1 R C j) (s2 R C j) with q | q
          · rw [Nat.min_eq_left q, Nat.max_eq_right q]; simp [a1, a2]
          · rw [Nat.min_eq_right q, Nat.max_eq_left q]; simp [a1, a2]
        rw [Bool.xor_assoc, h2]
        rcases (show m % 2 = 0 ∨ m % 2 = 1 by omega) with q | q
        · have : (m + (0 + 1)) % 2 = 1 := by omega
          simp [q, this]
        · have : (m + (0 + 1)) % 2 = 0 := by omega
          simp [q, this]
      · rw [if_neg a1, if_neg a2]
        have h2 : (decide (min (s1 R C j) (s2 R C j) = f) ^^ decide (max (s1 R C j) (s2 R C j) = f)) = false := by
          rcases Nat.le_total (s1 R C j) (s2 R C j) with q | q
          · rw [Nat.min_eq_left q, Nat.max_eq_right q]; simp [a1, a2]
          · rw [Nat.min_eq_right q, Nat.max_eq_left q]; simp [a1, a2]
        rw [Bool.xor_assoc, h2]
        simp
    · rw [if_neg c, if_neg c, ih, Nat.add_zero]
section ROWS
variable {L : Nat} {xs : Nat → Int32}
theorem R15 : lw_R15 L xs Inv := by
  intro a G hG
  refine inv_elim hG ?_
  intro R C rim fi se lo hi TB OB LB ks ws stale lw SZ HD HP sts nx sz kq hT hO hL hK hW sq sv rv le nu di ch tr su U tu tl ki go wa ol hs so sr rs ce cp fa pa hpl hpv hld hhs hsp htp hpr hrm hr1 hr2 hr3 hr4
  have hb1 := sh_b hpv.1
  rcases ix_of a (N := nF R C) (by omega) with hb | ⟨f, hf, rfl⟩
  · refine rd hG (v := -1) ?_ ?_
    · simp only [e_76, tp_f htp, c_isNoField htp hpl, no_no hb, Option.bind_some, Option.toList_some, Option.toList_none, List.cons_append, List.nil_append, List.append_nil, List.length_cons, List.length_nil, true_or, or_true, eq_self, b01_0, b01_1, b01_2, b01_3, b01_4, Nat.zero_le, Nat.reduceAdd, Nat.reduceLeDiff, ↓reduceIte, not_true_eq_false, not_false_eq_true, Bool.false_eq_true]
    · simp only [e_149, rm_f hrm, rm_t hrm, r_fields hrm hpv.1, r_in, ix_no hb1.2.2.2.2.1 (by omega) hb, Option.bind_some, Option.toList_some, Option.toList_none, List.cons_append, List.nil_append, List.append_nil, List.length_cons, List.length_nil, true_or, or_true, eq_self, b01_0, b01_1, b01_2, b01_3, b01_4, Nat.zero_le, Nat.reduceAdd, Nat.reduceLeDiff, ↓reduceIte, not_true_eq_false, not_false_eq_true, Bool.false_eq_true]
  · have h7 := tf_lt (ws := ws) (ks := ks) hpv.1 (nJ R C) (Nat.le_refl _)
    have e1 : tfN R C ws ks (nJ R C) / 2 ^ f % 2 = (trB R C wa ki f).toNat := by
      rw [trB_cg (wa := wa) (ki := ki) (ws := ws) (ks := ks) hpv.1 (fun i hi => (hr1.1 i hi).2.2.2) hr1.2 f]
      have := tf_bit (R := R) (C := C) (ws := ws) (ks := ks) f (nJ R C)
      rw [Nat.testBit_eq_decide_div_mod_eq] at this
      unfold trB
      rw [← this]
      have := Nat.mod_lt (tfN R C ws ks (nJ R C) / 2 ^ f) (y := 2) (by decide)
      rcases (show tfN R C ws ks (nJ R C) / 2 ^ f % 2 = 0 ∨ tfN R C ws ks (nJ R C) / 2 ^ f % 2 = 1 by omega) with q | q <;> rw [q] <;> rfl
    refine rd hG (v := nI (tfN R C ws ks (nJ R C) / 2 ^ f % 2)) ?_ ?_
    · simp only [e_76, tp_f htp, pl_f hpl, c_isNoField htp hpl, no_yes hf (N := nF R C) (by omega), c_troubledFields hpl hpv, bit_n (A := tfN R C ws ks (nJ R C)) (d := f) (by omega) (by omega), Option.bind_some, Option.toList_some, Option.toList_none, List.cons_append, List.nil_append, List.append_nil, List.length_cons, List.length_nil, true_or, or_true, eq_self, b01_0, b01_1, b01_2, b01_3, b01_4, Nat.zero_le, Nat.reduceAdd, Nat.reduceLeDiff, ↓reduceIte, not_true_eq_false, not_false_eq_true, Bool.false_eq_true]
    · rw [e1]
      simp only [e_149, rm_f hrm, rm_t hrm, r_fields hrm hpv.1, r_in, ix_yes hf (N := nF R C) (by omega), r_isTroubled hrm hpv.1 (f := f) (by omega), Option.bind_some, Option.toList_some, Option.toList_none, List.cons_append, List.nil_append, List.append_nil, List.length_cons, List.length_nil, true_or, or_true, eq_self, b01_0, b01_1, b01_2, b01_3, b01_4, Nat.zero_le, Nat.reduceAdd, Nat.reduceLeDiff, ↓reduceIte, not_true_eq_false, not_false_eq_true, Bool.false_eq_true]
      cases trB R C wa ki f <;> simp only [Option.bind_some, Option.toList_some, Option.toList_none, List.cons_append, List.nil_append, List.append_nil, List.length_cons, List.length_nil, true_or, or_true, eq_self, b01_0, b01_1, b01_2, b01_3, b01_4, Nat.zero_le, Nat.reduceAdd, Nat.reduceLeDiff, ↓reduceIte, not_true_eq_false, not_false_eq_true, Bool.false_eq_true] <;> rfl
end ROWS
