/-! rows: least, many, best, above -/
section RS
variable {R C TB OB LB rim : Nat} {ks ws tu tl ki go wa fi se lo hi F : Nat → Int32} {l' : Int32}
theorem st_b2 (hp : pv R C rim fi se lo hi TB OB LB ks ws) (h1 : rel1 R C TB OB LB ks ws tu tl ki go wa) (a : Nat) : 0 ≤ (stA R C wa ki a).toInt ∧ (stA R C wa ki a).toInt ≤ 68000 := by
  rw [stA_cg (wa := wa) (ki := ki) (ws := ws) (ks := ks) hp.1 (fun i hi => (h1.1 i hi).2.2.2) h1.2 a]
  exact stA_b hp a
theorem st_cg2 (hp : pv R C rim fi se lo hi TB OB LB ks ws) (h1 : rel1 R C TB OB LB ks ws tu tl ki go wa) (q4 : ∀ a, a < 2 ^ nN R C → F a = stA R C ws ks a) : ∀ a, a < 2 ^ nN R C → mbB (hH R C LB ks) (OB &&& hH R C LB ks) a = mA R C ki go tl a ∧ F a = stA R C wa ki a := fun a ha => ⟨mb_may hp h1 ha, (q4 a ha).trans (stA_cg (wa := wa) (ki := ki) (ws := ws) (ks := ks) hp.1 (fun i hi => (h1.1 i hi).2.2.2) h1.2 a).symm⟩
theorem low_eq (hp : pv R C rim fi se lo hi TB OB LB ks ws) (h1 : rel1 R C TB OB LB ks ws tu tl ki go wa) (q4 : ∀ a, a < 2 ^ nN R C → F a = stA R C ws ks a) (q5 : l' = (if nxI (mbB (hH R C LB ks) (OB &&& hH R C LB ks)) F (-1) (2 ^ nN R C) = 10000000 then -9 else nxI (mbB (hH R C LB ks) (OB &&& hH R C LB ks)) F (-1) (2 ^ nN R C))) : l' = lsI (mA R C ki go tl) (stA R C wa ki) (2 ^ nN R C) := by
  rw [q5, nxI_cg _ (st_cg2 hp h1 q4), nx_ab' (st_b2 hp h1)]
  rcases ls_ab (may := mA R C ki go tl) (st_b2 hp h1) (2 ^ nN R C) with ⟨q0, -⟩ | ⟨q1, -⟩
  · have hlt : OB &&& hH R C LB ks < 2 ^ nN R C := Nat.lt_of_le_of_lt Nat.and_le_left hp.2.2.1
    have e1 := q0 _ hlt
    have e2 := mb_may hp h1 hlt
    rw [show mayB (nN R C) ki go tl (OB &&& hH R C LB ks) = false from e1] at e2
    have e3 : mbB (hH R C LB ks) (OB &&& hH R C LB ks) (OB &&& hH R C LB ks) = true := by
      unfold mbB
      rw [Nat.and_assoc, Nat.and_self]
      simp
    rw [e3] at e2
    cases e2
  · exact q1
end RS
section ROWS
variable {L : Nat} {xs : Nat → Int32}
theorem R25 : lw_R25 L xs Inv := by
  intro v G hG
  refine inv_elim hG ?_
  intro R C rim fi se lo hi TB OB LB ks ws stale lw SZ HD HP sts nx sz kq hT hO hL hK hW sq sv rv le nu di ch tr su U tu tl ki go wa ol hs so sr rs ce cp fa pa hpl hpv hld hhs hsp htp hpr hrm hr1 hr2 hr3 hr4
  have hpn := pN hpv.1
  obtain ⟨G', F, l', q1, q2, q3, q4, q5⟩ := c_surveyed (L := L) (xs := xs) htp hpl hpv hld hr2
  have hrm' := rm_ag hrm (G' := G') (fun k a b => q2 k (by omega) (by omega))
  have hP : OB &&& hH R C LB ks < 4096 := Nat.lt_of_le_of_lt Nat.and_le_left (Nat.lt_of_lt_of_le hpv.2.2.1 hpn)
  have hk := c_nextAfter (X := mc_X0 L xs) q3 hpn hP v
  rw [nxI_cg _ (st_cg2 hpv hr1 q4), nx_ab' (st_b2 hpv hr1)] at hk
  refine ⟨abI (mA R C ki go tl) (stA R C wa ki) v (2 ^ nN R C), G', G', ?_, (rm_f hrm').1, r_above hrm' hpv.1 v, inv_ld hpl hpv hld hhs hsp htp hpr hrm hr1 hr2 hr3 hr4 q2 q3 q4 q5⟩
  simp only [e_86, tp_f htp, q1, ld_f (X := mc_X0 L xs) q3, hk, Option.bind_some, Option.toList_some, Option.toList_none, List.cons_append, List.nil_append, List.append_nil, List.length_cons, List.length_nil, true_or, or_true, eq_self, b01_0, b01_1, b01_2, b01_3, b01_4, Nat.zero_le, Nat.reduceAdd, Nat.reduceLeDiff, ↓reduceIte, not_true_eq_false, not_false_eq_true, Bool.false_eq_true]
theorem R19 : lw_R19 L xs Inv := by
  intro G hG
  refine inv_elim hG ?_
  intro R C rim fi se lo hi TB OB LB ks ws stale lw SZ HD HP sts nx sz kq hT hO hL hK hW sq sv rv le nu di ch tr su U tu tl ki go wa ol hs so sr rs ce cp fa pa hpl hpv hld hhs hsp htp hpr hrm hr1 hr2 hr3 hr4
  obtain ⟨G', F, l', q1, q2, q3, q4, q5⟩ := c_surveyed (L := L) (xs := xs) htp hpl hpv hld hr2
  have hrm' := rm_ag hrm (G' := G') (fun k a b => q2 k (by omega) (by omega))
  have hlw := low_eq hpv hr1 q4 q5
  refine ⟨l', G', G', ?_, (rm_f hrm').1, ?_, inv_ld hpl hpv hld hhs hsp htp hpr hrm hr1 hr2 hr3 hr4 q2 q3 q4 q5⟩
  · simp only [e_80, tp_f htp, q1, ld_f (X := mc_X0 L xs) q3, Option.bind_some, Option.toList_some, Option.toList_none, List.cons_append, List.nil_append, List.append_nil, List.length_cons, List.length_nil, true_or, or_true, eq_self, b01_0, b01_1, b01_2, b01_3, b01_4, Nat.zero_le, Nat.reduceAdd, Nat.reduceLeDiff, ↓reduceIte, not_true_eq_false, not_false_eq_true, Bool.false_eq_true]
  · simp only [e_155, rm_f hrm', rm_t hrm', r_leastOf hrm' hpv.1, ← hlw, Option.bind_some, Option.toList_some, Option.toList_none, List.cons_append, List.nil_append, List.append_nil, List.length_cons, List.length_nil, true_or, or_true, eq_self, b01_0, b01_1, b01_2, b01_3, b01_4, Nat.zero_le, Nat.reduceAdd, Nat.reduceLeDiff, ↓reduceIte, not_true_eq_false, not_false_eq_true, Bool.false_eq_true]
theorem R20 : lw_R20 L xs Inv := by
  intro G hG
  refine inv_elim hG ?_
  intro R C rim fi se lo hi TB OB LB ks ws stale lw SZ HD HP sts nx sz kq hT hO hL hK hW sq sv rv le nu di ch tr su U tu tl ki go wa ol hs so sr rs ce cp fa pa hpl hpv hld hhs hsp htp hpr hrm hr1 hr2 hr3 hr4
  have hpn := pN hpv.1
  obtain ⟨G', F, l', q1, q2, q3, q4, q5⟩ := c_surveyed (L := L) (xs := xs) htp hpl hpv hld hr2
  have hrm' := rm_ag hrm (G' := G') (fun k a b => q2 k (by omega) (by omega))
  have hlw := low_eq hpv hr1 q4 q5
  have hP : OB &&& hH R C LB ks < 4096 := Nat.lt_of_le_of_lt Nat.and_le_left (Nat.lt_of_lt_of_le hpv.2.2.1 hpn)
  have hk := c_countWith (X := mc_X0 L xs) q3 hpn hP l'
  have hf := r_find (X := mc_X0 L xs) hrm' hpv.1 l' (-1)
  have ec : cntB (fun a => mbB (hH R C LB ks) (OB &&& hH R C LB ks) a && decide (F a = l')) (2 ^ nN R C) = cntB (okV R C ki go tl wa l') (2 ^ nN R C) := by
    apply cntB_cg
    intro b hb2
    unfold okV
    rw [(st_cg2 hpv hr1 q4 b hb2).1, (st_cg2 hpv hr1 q4 b hb2).2]
  rw [fdR_neg (by decide) hpn, ← ec] at hf
  refine ⟨nI (cntB (fun a => mbB (hH R C LB ks) (OB &&& hH R C LB ks) a && decide (F a = l')) (2 ^ nN R C)), G', G', ?_, (rm_f hrm').1, ?_, inv_ld hpl hpv hld hhs hsp htp hpr hrm hr1 hr2 hr3 hr4 q2 q3 q4 q5⟩
  · simp only [e_81, tp_f htp, q1, ld_f (X := mc_X0 L xs) q3, hk, Option.bind_some, Option.toList_some, Option.toList_none, List.cons_append, List.nil_append, List.append_nil, List.length_cons, List.length_nil, true_or, or_true, eq_self, b01_0, b01_1, b01_2, b01_3, b01_4, Nat.zero_le, Nat.reduceAdd, Nat.reduceLeDiff, ↓reduceIte, not_true_eq_false, not_false_eq_true, Bool.false_eq_true]
  · simp only [e_157, rm_f hrm', rm_t hrm', r_leastOf hrm' hpv.1, ← hlw, hf, Option.bind_some, Option.toList_some, Option.toList_none, List.cons_append, List.nil_append, List.append_nil, List.length_cons, List.length_nil, true_or, or_true, eq_self, b01_0, b01_1, b01_2, b01_3, b01_4, Nat.zero_le, Nat.reduceAdd, Nat.reduceLeDiff, ↓reduceIte, not_true_eq_false, not_false_eq_true, Bool.false_eq_true]
theorem R21 : lw_R21 L xs Inv := by
  intro i G hG
  refine inv_elim hG ?_
  intro R C rim fi se lo hi TB OB LB ks ws stale lw SZ HD HP sts nx sz kq hT hO hL hK hW sq sv rv le nu di ch tr su U tu tl ki go wa ol hs so sr rs ce cp fa pa hpl hpv hld hhs hsp htp hpr hrm hr1 hr2 hr3 hr4
  have hpn := pN hpv.1
  by_cases ci : i < 0
  · refine rd hG (v := -1) ?_ ?_
    · simp only [e_82, ci, Option.bind_some, Option.toList_some, Option.toList_none, List.cons_append, List.nil_append, List.append_nil, List.length_cons, List.length_nil, true_or, or_true, eq_self, b01_0, b01_1, b01_2, b01_3, b01_4, Nat.zero_le, Nat.reduceAdd, Nat.reduceLeDiff, ↓reduceIte, not_true_eq_false, not_false_eq_true, Bool.false_eq_true]
    · simp only [e_158, rm_f hrm, rm_t hrm, ci, Option.bind_some, Option.toList_some, Option.toList_none, List.cons_append, List.nil_append, List.append_nil, List.length_cons, List.length_nil, true_or, or_true, eq_self, b01_0, b01_1, b01_2, b01_3, b01_4, Nat.zero_le, Nat.reduceAdd, Nat.reduceLeDiff, ↓reduceIte, not_true_eq_false, not_false_eq_true, Bool.false_eq_true]
  obtain ⟨G', F, l', q1, q2, q3, q4, q5⟩ := c_surveyed (L := L) (xs := xs) htp hpl hpv hld hr2
  have hrm' := rm_ag hrm (G' := G') (fun k a b => q2 k (by omega) (by omega))
  have hlw := low_eq hpv hr1 q4 q5
  have hP : OB &&& hH R C LB ks < 4096 := Nat.lt_of_le_of_lt Nat.and_le_left (Nat.lt_of_lt_of_le hpv.2.2.1 hpn)
  have hk := c_pick (X := mc_X0 L xs) q3 hpn hP l' i
  have hf := r_find (X := mc_X0 L xs) hrm' hpv.1 l' i
  have ec : scan (fun a => mbB (hH R C LB ks) (OB &&& hH R C LB ks) a && decide (F a = l')) i (2 ^ nN R C) 0 0 = scan (okV R C ki go tl wa l') i (2 ^ nN R C) 0 0 := by
    apply scan_cg
    intro b h1 h2
    have hb2 : b < 2 ^ nN R C := by omega
    unfold okV
    rw [(st_cg2 hpv hr1 q4 b hb2).1, (st_cg2 hpv hr1 q4 b hb2).2]
  rw [fdR_pos ci, ← ec] at hf
  refine ⟨pkR (scan (fun a => mbB (hH R C LB ks) (OB &&& hH R C LB ks) a && decide (F a = l')) i (2 ^ nN R C) 0 0), G', G', ?_, (rm_f hrm').1, ?_, inv_ld hpl hpv hld hhs hsp htp hpr hrm hr1 hr2 hr3 hr4 q2 q3 q4 q5⟩
  · simp only [e_82, ci, tp_f htp, q1, ld_f (X := mc_X0 L xs) q3, hk, Option.bind_some, Option.toList_some, Option.toList_none, List.cons_append, List.nil_append, List.append_nil, List.length_cons, List.length_nil, true_or, or_true, eq_self, b01_0, b01_1, b01_2, b01_3, b01_4, Nat.zero_le, Nat.reduceAdd, Nat.reduceLeDiff, ↓reduceIte, not_true_eq_false, not_false_eq_true, Bool.false_eq_true]
  · simp only [e_158, rm_f hrm', rm_t hrm', ci, r_leastOf hrm' hpv.1, ← hlw, hf, Option.bind_some, Option.toList_some, Option.toList_none, List.cons_append, List.nil_append, List.append_nil, List.length_cons, List.length_nil, true_or, or_true, eq_self, b01_0, b01_1, b01_2, b01_3, b01_4, Nat.zero_le, Nat.reduceAdd, Nat.reduceLeDiff, ↓reduceIte, not_true_eq_false, not_false_eq_true, Bool.false_eq_true]
end ROWS
