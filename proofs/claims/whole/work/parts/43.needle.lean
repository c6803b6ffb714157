/-! rows: needle -/
theorem k_in4 : ((0 ≤ (0 : Int32) ∧ (0 : Int32) ≤ 4) = True) ∧ ((0 ≤ (1 : Int32) ∧ (1 : Int32) ≤ 4) = True) ∧ ((0 ≤ (2 : Int32) ∧ (2 : Int32) ≤ 4) = True) ∧ ((0 ≤ (3 : Int32) ∧ (3 : Int32) ≤ 4) = True) ∧ ((0 ≤ (4 : Int32) ∧ (4 : Int32) ≤ 4) = True) ∧ (((2 : Int32) = 1) = False) ∧ (((3 : Int32) = 0) = False) ∧ (((3 : Int32) = 1) = False) ∧ (((3 : Int32) = 2) = False) ∧ (((4 : Int32) = 0) = False) ∧ (((4 : Int32) = 1) = False) ∧ (((4 : Int32) = 2) = False) ∧ (((4 : Int32) = 3) = False) :=
  ⟨eq_true (by decide +kernel), eq_true (by decide +kernel), eq_true (by decide +kernel), eq_true (by decide +kernel), eq_true (by decide +kernel), eq_false (by decide +kernel), eq_false (by decide +kernel), eq_false (by decide +kernel), eq_false (by decide +kernel), eq_false (by decide +kernel), eq_false (by decide +kernel), eq_false (by decide +kernel), eq_false (by decide +kernel)⟩
section ROWS
variable {L : Nat} {xs : Nat → Int32}
theorem bI (N B i : Nat) : nI (bt N B i) = gB N B i := rfl
theorem toI (n : Int32) (k : Nat) (hk : k < 2 ^ 31) : (n = nI k) ∨ n.toInt ≠ k := by
  by_cases h : n.toInt = k
  · left; apply Int32.toInt_inj.mp; rw [h, nI_toInt hk]
  · exact Or.inr h
theorem R12 : lw_R12 L xs Inv := by
  intro a w G hG
  refine inv_elim hG ?_
  intro R C rim fi se lo hi TB OB LB ks ws stale lw SZ HD HP sts nx sz kq hT hO hL hK hW sq sv rv le nu di ch tr su U tu tl ki go wa ol hs so sr rs ce cp fa pa hpl hpv hld hhs hsp htp hpr hrm hr1 hr2 hr3 hr4
  have hb1 := sh_b hpv.1
  rcases ix_of a (N := nN R C) (by omega) with hb | ⟨i, hi, rfl⟩
  · refine rd hG (v := -1) ?_ ?_
    · simp only [e_73, tp_f htp, c_isNoNeedle htp hpl, no_no hb, Option.bind_some, Option.toList_some, Option.toList_none, List.cons_append, List.nil_append, List.append_nil, List.length_cons, List.length_nil, true_or, or_true, eq_self, b01_0, b01_1, b01_2, b01_3, b01_4, Nat.zero_le, Nat.reduceAdd, Nat.reduceLeDiff, ↓reduceIte, not_true_eq_false, not_false_eq_true, Bool.false_eq_true]
    · simp only [e_145, rm_f hrm, rm_t hrm, r_isNeedle hrm, ix_no hb1.1 (by omega) hb, Option.bind_some, Option.toList_some, Option.toList_none, List.cons_append, List.nil_append, List.append_nil, List.length_cons, List.length_nil, true_or, or_true, eq_self, b01_0, b01_1, b01_2, b01_3, b01_4, Nat.zero_le, Nat.reduceAdd, Nat.reduceLeDiff, ↓reduceIte, not_true_eq_false, not_false_eq_true, Bool.false_eq_true]
  · obtain ⟨q1, q2, q3, q4⟩ := hr1.1 i hi
    have h12 : i < 12 := by omega
    have hh := hb_cg (ki := ki) (go := go) (ks := ks) (gs := gB (nN R C) LB) q4 q3
    rcases ix_of w (N := 5) (by decide) with hw | ⟨k, hk, rfl⟩
    · refine rd hG (v := -1) ?_ ?_
      · have ho : (w.toInt < 0 ∨ 4 < w.toInt) = True := by
          apply eq_true
          rcases hw with hw | hw
          · left; simpa using Int32.lt_iff_toInt_lt.mp hw
          · right; have := Int32.le_iff_toInt_le.mp hw; rw [nI_toInt (by decide)] at this; omega
        simp only [e_73, tp_f htp, c_isNoNeedle htp hpl, no_yes hi (N := nN R C) (by omega), ho, Option.bind_some, Option.toList_some, Option.toList_none, List.cons_append, List.nil_append, List.append_nil, List.length_cons, List.length_nil, true_or, or_true, eq_self, b01_0, b01_1, b01_2, b01_3, b01_4, Nat.zero_le, Nat.reduceAdd, Nat.reduceLeDiff, ↓reduceIte, not_true_eq_false, not_false_eq_true, Bool.false_eq_true]
      · have e5 : (4 : Int32) = nI 5 - 1 := rfl
        simp only [e_145, rm_f hrm, rm_t hrm, r_isNeedle hrm, ix_yes hi (N := nN R C) (by omega), r_in, e5, ix_no (N := 5) (by decide) (by decide) hw, Option.bind_some, Option.toList_some, Option.toList_none, List.cons_append, List.nil_append, List.append_nil, List.length_cons, List.length_nil, true_or, or_true, eq_self, b01_0, b01_1, b01_2, b01_3, b01_4, Nat.zero_le, Nat.reduceAdd, Nat.reduceLeDiff, ↓reduceIte, not_true_eq_false, not_false_eq_true, Bool.false_eq_true]
    · have t31 := lt31 hb1.2.1 hpv.2.1
      have o31 := lt31 hb1.2.1 hpv.2.2.1
      have l31 := lt31 hb1.2.1 hpv.2.2.2.1
      rcases (show k = 0 ∨ k = 1 ∨ k = 2 ∨ k = 3 ∨ k = 4 by omega) with rfl | rfl | rfl | rfl | rfl
      · refine rd hG (v := tu i) ?_ ?_
        · simp only [show nI 0 = (0 : Int32) from rfl, e_73, tp_f htp, pl_f hpl, c_isNoNeedle htp hpl, no_yes hi (N := nN R C) (by omega), c_bitIn hpl hpv.1 hi t31, bI, ← q1, Option.bind_some, Option.toList_some, Option.toList_none, List.cons_append, List.nil_append, List.append_nil, List.length_cons, List.length_nil, true_or, or_true, eq_self, b01_0, b01_1, b01_2, b01_3, b01_4, Nat.zero_le, Nat.reduceAdd, Nat.reduceLeDiff, ↓reduceIte, not_true_eq_false, not_false_eq_true, Bool.false_eq_true]
        · simp only [show nI 0 = (0 : Int32) from rfl, e_145, rm_f hrm, rm_t hrm, rm_g hrm, h12, r_isNeedle hrm, ix_yes hi (N := nN R C) (by omega), r_in, k_in4, b01_5, Option.bind_some, Option.toList_some, Option.toList_none, List.cons_append, List.nil_append, List.append_nil, List.length_cons, List.length_nil, true_or, or_true, eq_self, b01_0, b01_1, b01_2, b01_3, b01_4, Nat.zero_le, Nat.reduceAdd, Nat.reduceLeDiff, ↓reduceIte, not_true_eq_false, not_false_eq_true, Bool.false_eq_true]
      · refine rd hG (v := tl i) ?_ ?_
        · simp only [show nI 1 = (1 : Int32) from rfl, e_73, tp_f htp, pl_f hpl, c_isNoNeedle htp hpl, no_yes hi (N := nN R C) (by omega), c_bitIn hpl hpv.1 hi o31, bI, ← q2, Option.bind_some, Option.toList_some, Option.toList_none, List.cons_append, List.nil_append, List.append_nil, List.length_cons, List.length_nil, true_or, or_true, eq_self, b01_0, b01_1, b01_2, b01_3, b01_4, Nat.zero_le, Nat.reduceAdd, Nat.reduceLeDiff, ↓reduceIte, not_true_eq_false, not_false_eq_true, Bool.false_eq_true]
        · simp only [show nI 1 = (1 : Int32) from rfl, e_145, rm_f hrm, rm_t hrm, rm_g hrm, h12, r_isNeedle hrm, ix_yes hi (N := nN R C) (by omega), r_in, k_in4, b01_5, Option.bind_some, Option.toList_some, Option.toList_none, List.cons_append, List.nil_append, List.append_nil, List.length_cons, List.length_nil, true_or, or_true, eq_self, b01_0, b01_1, b01_2, b01_3, b01_4, Nat.zero_le, Nat.reduceAdd, Nat.reduceLeDiff, ↓reduceIte, not_true_eq_false, not_false_eq_true, Bool.false_eq_true]
      · refine rd hG (v := ki i) ?_ ?_
        · simp only [show nI 2 = (2 : Int32) from rfl, e_73, tp_f htp, pl_f hpl, pl_g hpl, h12, c_isNoNeedle htp hpl, no_yes hi (N := nN R C) (by omega), ← q4, Option.bind_some, Option.toList_some, Option.toList_none, List.cons_append, List.nil_append, List.append_nil, List.length_cons, List.length_nil, true_or, or_true, eq_self, b01_0, b01_1, b01_2, b01_3, b01_4, Nat.zero_le, Nat.reduceAdd, Nat.reduceLeDiff, ↓reduceIte, not_true_eq_false, not_false_eq_true, Bool.false_eq_true]
        · simp only [show nI 2 = (2 : Int32) from rfl, e_145, rm_f hrm, rm_t hrm, rm_g hrm, h12, r_isNeedle hrm, ix_yes hi (N := nN R C) (by omega), r_in, k_in4, b01_5, Option.bind_some, Option.toList_some, Option.toList_none, List.cons_append, List.nil_append, List.append_nil, List.length_cons, List.length_nil, true_or, or_true, eq_self, b01_0, b01_1, b01_2, b01_3, b01_4, Nat.zero_le, Nat.reduceAdd, Nat.reduceLeDiff, ↓reduceIte, not_true_eq_false, not_false_eq_true, Bool.false_eq_true]
      · refine rd hG (v := go i) ?_ ?_
        · simp only [show nI 3 = (3 : Int32) from rfl, e_73, tp_f htp, pl_f hpl, c_isNoNeedle htp hpl, no_yes hi (N := nN R C) (by omega), c_bitIn hpl hpv.1 hi l31, bI, ← q3, Option.bind_some, Option.toList_some, Option.toList_none, List.cons_append, List.nil_append, List.append_nil, List.length_cons, List.length_nil, true_or, or_true, eq_self, b01_0, b01_1, b01_2, b01_3, b01_4, Nat.zero_le, Nat.reduceAdd, Nat.reduceLeDiff, ↓reduceIte, not_true_eq_false, not_false_eq_true, Bool.false_eq_true]
        · simp only [show nI 3 = (3 : Int32) from rfl, e_145, rm_f hrm, rm_t hrm, rm_g hrm, h12, r_isNeedle hrm, ix_yes hi (N := nN R C) (by omega), r_in, k_in4, b01_5, Option.bind_some, Option.toList_some, Option.toList_none, List.cons_append, List.nil_append, List.append_nil, List.length_cons, List.length_nil, true_or, or_true, eq_self, b01_0, b01_1, b01_2, b01_3, b01_4, Nat.zero_le, Nat.reduceAdd, Nat.reduceLeDiff, ↓reduceIte, not_true_eq_false, not_false_eq_true, Bool.false_eq_true]
          rw [q3]
          unfold gB
          rcases bt_b (nN R C) LB i with q | q <;> rw [q] <;> rfl
      · refine rd hG (v := if hb ki go i then 1 else 0) ?_ ?_
        · simp only [show nI 4 = (4 : Int32) from rfl, e_73, tp_f htp, pl_f hpl, c_isNoNeedle htp hpl, no_yes hi (N := nN R C) (by omega), c_isHeld hpl hpv hi, ← hh, c_asNumber, Option.bind_some, Option.toList_some, Option.toList_none, List.cons_append, List.nil_append, List.append_nil, List.length_cons, List.length_nil, true_or, or_true, eq_self, b01_0, b01_1, b01_2, b01_3, b01_4, Nat.zero_le, Nat.reduceAdd, Nat.reduceLeDiff, ↓reduceIte, not_true_eq_false, not_false_eq_true, Bool.false_eq_true]
        · simp only [show nI 4 = (4 : Int32) from rfl, e_145, rm_f hrm, rm_t hrm, rm_g hrm, h12, r_isNeedle hrm, ix_yes hi (N := nN R C) (by omega), r_in, k_in4, r_isHeld hrm h12, Option.bind_some, Option.toList_some, Option.toList_none, List.cons_append, List.nil_append, List.append_nil, List.length_cons, List.length_nil, true_or, or_true, eq_self, b01_0, b01_1, b01_2, b01_3, b01_4, Nat.zero_le, Nat.reduceAdd, Nat.reduceLeDiff, ↓reduceIte, not_true_eq_false, not_false_eq_true, Bool.false_eq_true]
          cases hb ki go i <;> simp only [Option.bind_some, Option.toList_some, Option.toList_none, List.cons_append, List.nil_append, List.append_nil, List.length_cons, List.length_nil, true_or, or_true, eq_self, b01_0, b01_1, b01_2, b01_3, b01_4, Nat.zero_le, Nat.reduceAdd, Nat.reduceLeDiff, ↓reduceIte, not_true_eq_false, not_false_eq_true, Bool.false_eq_true]
end ROWS
