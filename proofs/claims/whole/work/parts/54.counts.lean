/-! rows: counts, draw -/
/-- only the landscape was surveyed -/
theorem inv_ld {G : mc_H} {R C rim : Nat} {fi se lo hi : Nat → Int32} {TB OB LB : Nat} {ks ws : Nat → Int32} {stale lw : Int32} {SZ HD HP : Nat} {sts : Nat → Int32} {nx sz : Nat} {kq : Nat → Option Nat} {hT hO hL : Nat → Nat} {hK hW : Nat → Nat → Int32} {sq : Nat → Option Nat} {sv rv : Nat → Int32} {le nu : Nat → Nat → Int32} {di ch : Nat → Int32} {tr : Int64} {su : Int32} {U : Nat} {tu tl ki go wa ol hs so sr rs ce cp fa pa : Nat → Int32} (hpl : pl G R C rim fi se lo hi TB OB LB ks ws) (hpv : pv R C rim fi se lo hi TB OB LB ks ws) (hld : ld G stale SZ HD HP lw sts) (hhs : hy G nx sz kq hT hO hL hK hW) (hsp : sp G sq sv rv le nu) (htp : tp G tr su) (hpr : pr G di ch) (hrm : rm G su tr R C U tu tl ki go wa ol hs so sr rs ce cp fa pa) (hr1 : rel1 R C TB OB LB ks ws tu tl ki go wa) (hr2 : rel2 R C OB LB ks ws stale lw SZ HD HP sts) (hr3 : rel3 R C nx sz U hT hO hL hK hW ol) (hr4 : rel4 sv rv le nu hs so sr rs ce) {G' : mc_H} {F : Nat → Int32} {l' : Int32} (ag : ∀ k, k ≠ 72 → k ≠ 73 → G'[k]? = G[k]?) (hl : ld G' 0 (2 ^ nN R C) (hH R C LB ks) (OB &&& hH R C LB ks) l' F) (hF : ∀ a, a < 2 ^ nN R C → F a = stA R C ws ks a) (hl' : l' = (if nxI (mbB (hH R C LB ks) (OB &&& hH R C LB ks)) F (-1) (2 ^ nN R C) = 10000000 then -9 else nxI (mbB (hH R C LB ks) (OB &&& hH R C LB ks)) F (-1) (2 ^ nN R C))) : Inv G' :=
  inv_mk (pl_ag hpl (fun k a b => ag k (by omega) (by omega))) hpv hl (hy_ag hhs (fun k a b => ag k (by omega) (by omega))) (sp_ag hsp (fun k a b => ag k (by omega) (by omega))) (tp_ag htp (ag 0 (by decide) (by decide))) (pr_ag hpr (fun k a b => ag k (by omega) (by omega))) (rm_ag hrm (fun k a b => ag k (by omega) (by omega))) hr1 ⟨Or.inr ⟨rfl, rfl, rfl, rfl, hF, hl'⟩, pN hpv.1, Nat.lt_of_le_of_lt Nat.and_le_left (Nat.lt_of_lt_of_le hpv.2.2.1 (pN hpv.1))⟩ hr3 hr4
section ROWS
variable {L : Nat} {xs : Nat → Int32}
theorem R24 : lw_R24 L xs Inv := by
  intro v i G hG
  refine inv_elim hG ?_
  intro R C rim fi se lo hi TB OB LB ks ws stale lw SZ HD HP sts nx sz kq hT hO hL hK hW sq sv rv le nu di ch tr su U tu tl ki go wa ol hs so sr rs ce cp fa pa hpl hpv hld hhs hsp htp hpr hrm hr1 hr2 hr3 hr4
  have hpn := pN hpv.1
  by_cases cv : v < 0
  · refine rd hG (v := -1) ?_ ?_
    · simp only [e_85, cv, Option.bind_some, Option.toList_some, Option.toList_none, List.cons_append, List.nil_append, List.append_nil, List.length_cons, List.length_nil, true_or, or_true, eq_self, b01_0, b01_1, b01_2, b01_3, b01_4, Nat.zero_le, Nat.reduceAdd, Nat.reduceLeDiff, ↓reduceIte, not_true_eq_false, not_false_eq_true, Bool.false_eq_true]
    · simp only [e_161, rm_f hrm, rm_t hrm, cv, Option.bind_some, Option.toList_some, Option.toList_none, List.cons_append, List.nil_append, List.append_nil, List.length_cons, List.length_nil, true_or, or_true, eq_self, b01_0, b01_1, b01_2, b01_3, b01_4, Nat.zero_le, Nat.reduceAdd, Nat.reduceLeDiff, ↓reduceIte, not_true_eq_false, not_false_eq_true, Bool.false_eq_true]
  by_cases ci : i < 0
  · refine rd hG (v := -1) ?_ ?_
    · simp only [e_85, cv, ci, Option.bind_some, Option.toList_some, Option.toList_none, List.cons_append, List.nil_append, List.append_nil, List.length_cons, List.length_nil, true_or, or_true, eq_self, b01_0, b01_1, b01_2, b01_3, b01_4, Nat.zero_le, Nat.reduceAdd, Nat.reduceLeDiff, ↓reduceIte, not_true_eq_false, not_false_eq_true, Bool.false_eq_true]
    · simp only [e_161, rm_f hrm, rm_t hrm, cv, ci, Option.bind_some, Option.toList_some, Option.toList_none, List.cons_append, List.nil_append, List.append_nil, List.length_cons, List.length_nil, true_or, or_true, eq_self, b01_0, b01_1, b01_2, b01_3, b01_4, Nat.zero_le, Nat.reduceAdd, Nat.reduceLeDiff, ↓reduceIte, not_true_eq_false, not_false_eq_true, Bool.false_eq_true]
  obtain ⟨G', F, l', q1, q2, q3, q4, q5⟩ := c_surveyed (L := L) (xs := xs) htp hpl hpv hld hr2
  have hrm' := rm_ag hrm (G' := G') (fun k a b => q2 k (by omega) (by omega))
  have hP : OB &&& hH R C LB ks < 4096 := Nat.lt_of_le_of_lt Nat.and_le_left (Nat.lt_of_lt_of_le hpv.2.2.1 hpn)
  have hk := c_pick (X := mc_X0 L xs) q3 hpn hP v i
  have hf := r_find (X := mc_X0 L xs) hrm' hpv.1 v i
  have ec : scan (fun a => mbB (hH R C LB ks) (OB &&& hH R C LB ks) a && decide (F a = v)) i (2 ^ nN R C) 0 0 = scan (okV R C ki go tl wa v) i (2 ^ nN R C) 0 0 := by
    apply scan_cg
    intro b h1 h2
    have hb2 : b < 2 ^ nN R C := by omega
    unfold okV
    rw [mb_may hpv hr1 hb2, q4 b hb2, stA_cg (wa := wa) (ki := ki) (ws := ws) (ks := ks) hpv.1 (fun i hi => (hr1.1 i hi).2.2.2) hr1.2 b]
  rw [fdR_pos ci, ← ec] at hf
  refine ⟨pkR (scan (fun a => mbB (hH R C LB ks) (OB &&& hH R C LB ks) a && decide (F a = v)) i (2 ^ nN R C) 0 0), G', G', ?_, (rm_f hrm').1, ?_, inv_ld hpl hpv hld hhs hsp htp hpr hrm hr1 hr2 hr3 hr4 q2 q3 q4 q5⟩
  · simp only [e_85, cv, ci, tp_f htp, q1, ld_f (X := mc_X0 L xs) q3, hk, Option.bind_some, Option.toList_some, Option.toList_none, List.cons_append, List.nil_append, List.append_nil, List.length_cons, List.length_nil, true_or, or_true, eq_self, b01_0, b01_1, b01_2, b01_3, b01_4, Nat.zero_le, Nat.reduceAdd, Nat.reduceLeDiff, ↓reduceIte, not_true_eq_false, not_false_eq_true, Bool.false_eq_true]
  · simp only [e_161, rm_f hrm', rm_t hrm', cv, ci, hf, Option.bind_some, Option.toList_some, Option.toList_none, List.cons_append, List.nil_append, List.append_nil, List.length_cons, List.length_nil, true_or, or_true, eq_self, b01_0, b01_1, b01_2, b01_3, b01_4, Nat.zero_le, Nat.reduceAdd, Nat.reduceLeDiff, ↓reduceIte, not_true_eq_false, not_false_eq_true, Bool.false_eq_true]
theorem R23 : lw_R23 L xs Inv := by
  intro v G hG
  refine inv_elim hG ?_
  intro R C rim fi se lo hi TB OB LB ks ws stale lw SZ HD HP sts nx sz kq hT hO hL hK hW sq sv rv le nu di ch tr su U tu tl ki go wa ol hs so sr rs ce cp fa pa hpl hpv hld hhs hsp htp hpr hrm hr1 hr2 hr3 hr4
  have hpn := pN hpv.1
  by_cases cv : v < 0
  · refine rd hG (v := -1) ?_ ?_
    · simp only [e_84, cv, Option.bind_some, Option.toList_some, Option.toList_none, List.cons_append, List.nil_append, List.append_nil, List.length_cons, List.length_nil, true_or, or_true, eq_self, b01_0, b01_1, b01_2, b01_3, b01_4, Nat.zero_le, Nat.reduceAdd, Nat.reduceLeDiff, ↓reduceIte, not_true_eq_false, not_false_eq_true, Bool.false_eq_true]
    · simp only [e_160, rm_f hrm, rm_t hrm, cv, Option.bind_some, Option.toList_some, Option.toList_none, List.cons_append, List.nil_append, List.append_nil, List.length_cons, List.length_nil, true_or, or_true, eq_self, b01_0, b01_1, b01_2, b01_3, b01_4, Nat.zero_le, Nat.reduceAdd, Nat.reduceLeDiff, ↓reduceIte, not_true_eq_false, not_false_eq_true, Bool.false_eq_true]
  obtain ⟨G', F, l', q1, q2, q3, q4, q5⟩ := c_surveyed (L := L) (xs := xs) htp hpl hpv hld hr2
  have hrm' := rm_ag hrm (G' := G') (fun k a b => q2 k (by omega) (by omega))
  have hP : OB &&& hH R C LB ks < 4096 := Nat.lt_of_le_of_lt Nat.and_le_left (Nat.lt_of_lt_of_le hpv.2.2.1 hpn)
  have hk := c_countWith (X := mc_X0 L xs) q3 hpn hP v
  have hf := r_find (X := mc_X0 L xs) hrm' hpv.1 v (-1)
  have ec : cntB (fun a => mbB (hH R C LB ks) (OB &&& hH R C LB ks) a && decide (F a = v)) (2 ^ nN R C) = cntB (okV R C ki go tl wa v) (2 ^ nN R C) := by
    apply cntB_cg
    intro b hb2
    unfold okV
    rw [mb_may hpv hr1 hb2, q4 b hb2, stA_cg (wa := wa) (ki := ki) (ws := ws) (ks := ks) hpv.1 (fun i hi => (hr1.1 i hi).2.2.2) hr1.2 b]
  rw [fdR_neg (by decide) hpn, ← ec] at hf
  refine ⟨nI (cntB (fun a => mbB (hH R C LB ks) (OB &&& hH R C LB ks) a && decide (F a = v)) (2 ^ nN R C)), G', G', ?_, (rm_f hrm').1, ?_, inv_ld hpl hpv hld hhs hsp htp hpr hrm hr1 hr2 hr3 hr4 q2 q3 q4 q5⟩
  · simp only [e_84, cv, tp_f htp, q1, ld_f (X := mc_X0 L xs) q3, hk, Option.bind_some, Option.toList_some, Option.toList_none, List.cons_append, List.nil_append, List.append_nil, List.length_cons, List.length_nil, true_or, or_true, eq_self, b01_0, b01_1, b01_2, b01_3, b01_4, Nat.zero_le, Nat.reduceAdd, Nat.reduceLeDiff, ↓reduceIte, not_true_eq_false, not_false_eq_true, Bool.false_eq_true]
  · simp only [e_160, rm_f hrm', rm_t hrm', cv, hf, Option.bind_some, Option.toList_some, Option.toList_none, List.cons_append, List.nil_append, List.append_nil, List.length_cons, List.length_nil, true_or, or_true, eq_self, b01_0, b01_1, b01_2, b01_3, b01_4, Nat.zero_le, Nat.reduceAdd, Nat.reduceLeDiff, ↓reduceIte, not_true_eq_false, not_false_eq_true, Bool.false_eq_true]
end ROWS
