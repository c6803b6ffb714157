/-! rows of the methods that only read -/
section ROWS
variable {L : Nat} {xs : Nat → Int32}
/-- the same heap again -/
theorem rd {G : mc_H} {v : Int32} {kx km : Nat} {ax am : List Value} (hG : Inv G) (h1 : mc_ev (mc_X0 L xs) kx 0 ax [] G = some (some (.int v), G)) (h2 : mc_ev (mc_X0 L xs) km 0 am [] G = some (some (.int v), G)) : ∃ (v : Int32) (G1 G2 : mc_H), mc_ev (mc_X0 L xs) kx 0 ax [] G = some (some (.int v), G1) ∧ mc_cls G1 90 = some 8 ∧ mc_ev (mc_X0 L xs) km 0 am [] G1 = some (some (.int v), G2) ∧ Inv G2 := by
  refine ⟨v, G, G, h1, ?_, h2, hG⟩
  refine inv_elim hG ?_
  intro R C rim fi se lo hi TB OB LB ks ws stale lw SZ HD HP sts nx sz kq hT hO hL hK hW sq sv rv le nu di ch tr su U tu tl ki go wa ol hs so sr rs ce cp fa pa hpl hpv hld hhs hsp htp hpr hrm hr1 hr2 hr3 hr4
  exact (rm_f hrm).1
theorem R14 : lw_R14 L xs Inv := by
  intro G hG
  refine inv_elim hG ?_
  intro R C rim fi se lo hi TB OB LB ks ws stale lw SZ HD HP sts nx sz kq hT hO hL hK hW sq sv rv le nu di ch tr su U tu tl ki go wa ol hs so sr rs ce cp fa pa hpl hpv hld hhs hsp htp hpr hrm hr1 hr2 hr3 hr4
  refine rd hG (v := stA R C ws ks (pN1 R C TB OB LB ks)) ?_ ?_
  · simp only [e_75, tp_f htp, pl_f hpl, c_strainNow hpl hpv, Option.bind_some, Option.toList_some, Option.toList_none, List.cons_append, List.nil_append, List.append_nil, List.length_cons, List.length_nil, true_or, or_true, eq_self, b01_0, b01_1, b01_2, b01_3, b01_4, Nat.zero_le, Nat.reduceAdd, Nat.reduceLeDiff, ↓reduceIte, not_true_eq_false, not_false_eq_true, Bool.false_eq_true]
  · have e1 := stA_cg (wa := wa) (ki := ki) (ws := ws) (ks := ks) hpv.1 (fun i hi => (hr1.1 i hi).2.2.2) hr1.2 (pN1 R C TB OB LB ks)
    simp only [e_147, rm_f hrm, rm_t hrm, r_now hrm hpv.1, now_eq hpv hr1, r_strainOf hrm hpv.1 (pN1_31 hpv), e1, Option.bind_some, Option.toList_some, Option.toList_none, List.cons_append, List.nil_append, List.append_nil, List.length_cons, List.length_nil, true_or, or_true, eq_self, b01_0, b01_1, b01_2, b01_3, b01_4, Nat.zero_le, Nat.reduceAdd, Nat.reduceLeDiff, ↓reduceIte, not_true_eq_false, not_false_eq_true, Bool.false_eq_true]
theorem R33 : lw_R33 L xs Inv := by
  intro G hG
  refine inv_elim hG ?_
  intro R C rim fi se lo hi TB OB LB ks ws stale lw SZ HD HP sts nx sz kq hT hO hL hK hW sq sv rv le nu di ch tr su U tu tl ki go wa ol hs so sr rs ce cp fa pa hpl hpv hld hhs hsp htp hpr hrm hr1 hr2 hr3 hr4
  refine ⟨tr, G, G, ?_, (rm_f hrm).1, ?_, hG⟩
  · simp only [e_94, tp_f htp, Option.bind_some, Option.toList_some, Option.toList_none, List.cons_append, List.nil_append, List.append_nil, List.length_cons, List.length_nil, true_or, or_true, eq_self, b01_0, b01_1, b01_2, b01_3, b01_4, Nat.zero_le, Nat.reduceAdd, Nat.reduceLeDiff, ↓reduceIte, not_true_eq_false, not_false_eq_true, Bool.false_eq_true]
  · simp only [e_173, rm_f hrm, rm_t hrm, Option.bind_some, Option.toList_some, Option.toList_none, List.cons_append, List.nil_append, List.append_nil, List.length_cons, List.length_nil, true_or, or_true, eq_self, b01_0, b01_1, b01_2, b01_3, b01_4, Nat.zero_le, Nat.reduceAdd, Nat.reduceLeDiff, ↓reduceIte, not_true_eq_false, not_false_eq_true, Bool.false_eq_true]
theorem R34 : lw_R34 L xs Inv := by
  intro G hG
  refine inv_elim hG ?_
  intro R C rim fi se lo hi TB OB LB ks ws stale lw SZ HD HP sts nx sz kq hT hO hL hK hW sq sv rv le nu di ch tr su U tu tl ki go wa ol hs so sr rs ce cp fa pa hpl hpv hld hhs hsp htp hpr hrm hr1 hr2 hr3 hr4
  refine rd hG (v := su) ?_ ?_
  · simp only [e_95, tp_f htp, Option.bind_some, Option.toList_some, Option.toList_none, List.cons_append, List.nil_append, List.append_nil, List.length_cons, List.length_nil, true_or, or_true, eq_self, b01_0, b01_1, b01_2, b01_3, b01_4, Nat.zero_le, Nat.reduceAdd, Nat.reduceLeDiff, ↓reduceIte, not_true_eq_false, not_false_eq_true, Bool.false_eq_true]
  · simp only [e_174, rm_f hrm, rm_t hrm, Option.bind_some, Option.toList_some, Option.toList_none, List.cons_append, List.nil_append, List.append_nil, List.length_cons, List.length_nil, true_or, or_true, eq_self, b01_0, b01_1, b01_2, b01_3, b01_4, Nat.zero_le, Nat.reduceAdd, Nat.reduceLeDiff, ↓reduceIte, not_true_eq_false, not_false_eq_true, Bool.false_eq_true]
theorem R18 : lw_R18 L xs Inv := by
  intro a G hG
  refine inv_elim hG ?_
  intro R C rim fi se lo hi TB OB LB ks ws stale lw SZ HD HP sts nx sz kq hT hO hL hK hW sq sv rv le nu di ch tr su U tu tl ki go wa ol hs so sr rs ce cp fa pa hpl hpv hld hhs hsp htp hpr hrm hr1 hr2 hr3 hr4
  have hp2 := pN hpv.1
  rcases ix_of a (N := 2 ^ nN R C) (by omega) with hb | ⟨A, hA, rfl⟩
  · refine rd hG (v := -1) ?_ ?_
    · simp only [e_79, tp_f htp, c_isNoArrangement htp hpl hpv.1, no_no hb, Option.bind_some, Option.toList_some, Option.toList_none, List.cons_append, List.nil_append, List.append_nil, List.length_cons, List.length_nil, true_or, or_true, eq_self, b01_0, b01_1, b01_2, b01_3, b01_4, Nat.zero_le, Nat.reduceAdd, Nat.reduceLeDiff, ↓reduceIte, not_true_eq_false, not_false_eq_true, Bool.false_eq_true]
    · simp only [e_153, rm_f hrm, rm_t hrm, r_all hrm hpv.1, r_in, ix_no (Nat.one_le_two_pow) (by omega) hb, Option.bind_some, Option.toList_some, Option.toList_none, List.cons_append, List.nil_append, List.append_nil, List.length_cons, List.length_nil, true_or, or_true, eq_self, b01_0, b01_1, b01_2, b01_3, b01_4, Nat.zero_le, Nat.reduceAdd, Nat.reduceLeDiff, ↓reduceIte, not_true_eq_false, not_false_eq_true, Bool.false_eq_true]
  · refine rd hG (v := stA R C ws ks A) ?_ ?_
    · simp only [e_79, tp_f htp, pl_f hpl, c_isNoArrangement htp hpl hpv.1, no_yes hA (by omega), c_strainOf hpl hpv (A := A) (by omega), Option.bind_some, Option.toList_some, Option.toList_none, List.cons_append, List.nil_append, List.append_nil, List.length_cons, List.length_nil, true_or, or_true, eq_self, b01_0, b01_1, b01_2, b01_3, b01_4, Nat.zero_le, Nat.reduceAdd, Nat.reduceLeDiff, ↓reduceIte, not_true_eq_false, not_false_eq_true, Bool.false_eq_true]
    · have e1 := stA_cg (wa := wa) (ki := ki) (ws := ws) (ks := ks) hpv.1 (fun i hi => (hr1.1 i hi).2.2.2) hr1.2 A
      simp only [e_153, rm_f hrm, rm_t hrm, r_all hrm hpv.1, r_in, ix_yes hA (by omega), r_strainOf hrm hpv.1 (A := A) (by omega), e1, Option.bind_some, Option.toList_some, Option.toList_none, List.cons_append, List.nil_append, List.append_nil, List.length_cons, List.length_nil, true_or, or_true, eq_self, b01_0, b01_1, b01_2, b01_3, b01_4, Nat.zero_le, Nat.reduceAdd, Nat.reduceLeDiff, ↓reduceIte, not_true_eq_false, not_false_eq_true, Bool.false_eq_true]
end ROWS
