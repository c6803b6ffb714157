/-! changes of the plate -/
section PL
variable {X : mc_X} {G : mc_H} {R C rim TB OB LB : Nat} {fi se lo hi ks ws : Nat → Int32}
theorem pl_s7 (h : pl G R C rim fi se lo hi TB OB LB ks ws) (T O L : Nat) : pl (G.set 7 (sc T O L 8 9)) R C rim fi se lo hi T O L ks ws := by
  obtain ⟨h1, h2, h3, h4, h5, h6, h7, h8, h9⟩ := h
  exact ⟨(gs_ne (by decide)).trans h1, (gs_ne (by decide)).trans h2, (gs_ne (by decide)).trans h3, (gs_ne (by decide)).trans h4, (gs_ne (by decide)).trans h5, (gs_ne (by decide)).trans h6, gs_self h7, (gs_ne (by decide)).trans h8, (gs_ne (by decide)).trans h9⟩
theorem pl_s8 (h : pl G R C rim fi se lo hi TB OB LB ks ws) (f : Nat → Int32) : pl (G.set 8 (.inl (0, 12, f))) R C rim fi se lo hi TB OB LB f ws := by
  obtain ⟨h1, h2, h3, h4, h5, h6, h7, h8, h9⟩ := h
  exact ⟨(gs_ne (by decide)).trans h1, (gs_ne (by decide)).trans h2, (gs_ne (by decide)).trans h3, (gs_ne (by decide)).trans h4, (gs_ne (by decide)).trans h5, (gs_ne (by decide)).trans h6, (gs_ne (by decide)).trans h7, gs_self h8, (gs_ne (by decide)).trans h9⟩
theorem pl_s9 (h : pl G R C rim fi se lo hi TB OB LB ks ws) (f : Nat → Int32) : pl (G.set 9 (.inl (0, 17, f))) R C rim fi se lo hi TB OB LB ks f := by
  obtain ⟨h1, h2, h3, h4, h5, h6, h7, h8, h9⟩ := h
  exact ⟨(gs_ne (by decide)).trans h1, (gs_ne (by decide)).trans h2, (gs_ne (by decide)).trans h3, (gs_ne (by decide)).trans h4, (gs_ne (by decide)).trans h5, (gs_ne (by decide)).trans h6, (gs_ne (by decide)).trans h7, (gs_ne (by decide)).trans h8, gs_self h9⟩
theorem pl_w8 (h : pl G R C rim fi se lo hi TB OB LB ks ws) {j : Nat} (hj : j < 12) (x : Int32) : mc_setA G 0 8 (nI j) x = some (G.set 8 (.inl (0, 12, upd ks j x))) := sa_n h.2.2.2.2.2.2.2.1 (by decide) j x hj
theorem pl_w9 (h : pl G R C rim fi se lo hi TB OB LB ks ws) {j : Nat} (hj : j < 17) (x : Int32) : mc_setA G 0 9 (nI j) x = some (G.set 9 (.inl (0, 17, upd ws j x))) := sa_n h.2.2.2.2.2.2.2.2 (by decide) j x hj
theorem pl_wT (h : pl G R C rim fi se lo hi TB OB LB ks ws) (v : Nat) : mc_setf G 7 5 0 (.int (nI v)) = some (G.set 7 (sc v OB LB 8 9)) := se_w0 (pl_se h) v
theorem pl_wO (h : pl G R C rim fi se lo hi TB OB LB ks ws) (v : Nat) : mc_setf G 7 5 1 (.int (nI v)) = some (G.set 7 (sc TB v LB 8 9)) := se_w1 (pl_se h) v
theorem pl_wL (h : pl G R C rim fi se lo hi TB OB LB ks ws) (v : Nat) : mc_setf G 7 5 2 (.int (nI v)) = some (G.set 7 (sc TB OB v 8 9)) := se_w2 (pl_se h) v
end PL
section PL
variable {L : Nat} {xs : Nat → Int32} {G : mc_H} {R C rim TB OB LB : Nat} {fi se lo hi ks ws : Nat → Int32}
theorem c_withBit1 (h : pl G R C rim fi se lo hi TB OB LB ks ws) (hs : sh R C) {i B : Nat} (hin : i < nN R C) : mc_ev (mc_X0 L xs) 30 0 [.ref 1, .int (nI B), .int (nI i), .int 1] [] G = some (some (.int (nI (sb (nN R C) B i true))), G) := c_withBit (on := true) h hs hin
theorem c_withBit0 (h : pl G R C rim fi se lo hi TB OB LB ks ws) (hs : sh R C) {i B : Nat} (hin : i < nN R C) : mc_ev (mc_X0 L xs) 30 0 [.ref 1, .int (nI B), .int (nI i), .int 0] [] G = some (some (.int (nI (sb (nN R C) B i false))), G) := c_withBit (on := false) h hs hin
end PL
/-- the class has kept and changed cells 7, 8, 9; then the reference has changed its own -/
theorem inv_kr {G G1 G2 G4 : mc_H} {R C rim : Nat} {fi se lo hi : Nat → Int32} {TB OB LB : Nat} {ks ws : Nat → Int32} {stale lw : Int32} {SZ HD HP : Nat} {sts : Nat → Int32} {nx sz : Nat} {kq : Nat → Option Nat} {hT hO hL : Nat → Nat} {hK hW : Nat → Nat → Int32} {sq : Nat → Option Nat} {sv rv : Nat → Int32} {le nu : Nat → Nat → Int32} {di ch : Nat → Int32} {tr : Int64} {su : Int32} {U : Nat} {tu tl ki go wa ol hs so sr rs ce cp fa pa : Nat → Int32} (hpl : pl G2 R C rim fi se lo hi TB OB LB ks ws) (hpv : pv R C rim fi se lo hi TB OB LB ks ws) (hld : ld G1 stale SZ HD HP lw sts) (hhs : hy G1 nx sz kq hT hO hL hK hW) (hsp : sp G sq sv rv le nu) (htp : tp G tr su) (hpr : pr G di ch) (ag1 : ∀ j, j < 10 ∨ 73 ≤ j → G1[j]? = G[j]?) (ag2 : ∀ j, j ≠ 7 → j ≠ 8 → j ≠ 9 → G2[j]? = G1[j]?) (hrm : rm G4 su tr R C U tu tl ki go wa ol hs so sr rs ce cp fa pa) (ag4 : ∀ k, k < 90 → G4[k]? = G2[k]?) (hr1 : rel1 R C TB OB LB ks ws tu tl ki go wa) (hr2 : rel2 R C OB LB ks ws stale lw SZ HD HP sts) (hr3 : rel3 R C nx sz U hT hO hL hK hW ol) (hr4 : rel4 sv rv le nu hs so sr rs ce) : Inv G4 := by
  have a41 : ∀ k, k < 90 → k ≠ 7 → k ≠ 8 → k ≠ 9 → G4[k]? = G1[k]? := fun k a b c d => (ag4 k a).trans (ag2 k b c d)
  have a40 : ∀ k, k < 90 → k ≠ 7 → k ≠ 8 → k ≠ 9 → (k < 10 ∨ 73 ≤ k) → G4[k]? = G[k]? := fun k a b c d e => (a41 k a b c d).trans (ag1 k e)
  exact inv_mk (pl_ag hpl (fun k a b => ag4 k (by omega))) hpv (ld_ag hld (fun k a b => a41 k (by omega) (by omega) (by omega) (by omega))) (hy_ag hhs (fun k a b => a41 k (by omega) (by omega) (by omega) (by omega))) (sp_ag hsp (fun k a b => a40 k (by omega) (by omega) (by omega) (by omega) (by omega))) (tp_ag htp (a40 0 (by omega) (by omega) (by omega) (by omega) (by omega))) (pr_ag hpr (fun k a b => a40 k (by omega) (by omega) (by omega) (by omega) (by omega))) hrm hr1 hr2 hr3 hr4
/-- a joint or not: there may be none -/
theorem jx_of (n : Int32) {N : Nat} (hN : N < 2 ^ 31) : ((n < 0 ∨ ¬ n < nI N) = True ∧ (0 ≤ n ∧ n ≤ nI N - 1) = False) ∨ ∃ j, j < N ∧ n = nI j := by
  rcases Nat.eq_zero_or_pos N with h0 | h1
  · left
    subst h0
    have na : nI 0 = 0 := rfl
    refine ⟨eq_true (by rw [na]; by_cases q : n < 0; exact Or.inl q; exact Or.inr q), eq_false ?_⟩
    rw [na]; rintro ⟨q1, q2⟩
    have := Int32.le_iff_toInt_le.mp q1
    have := Int32.le_iff_toInt_le.mp q2
    rw [show ((0 : Int32) - 1).toInt = -1 from rfl] at this
    rw [show (0 : Int32).toInt = 0 from rfl] at *
    omega
  · rcases ix_of n hN with hb | h
    · exact Or.inl ⟨no_no hb, ix_no h1 hN hb⟩
    · exact Or.inr h
theorem vn0 : vp_nar .boolean 0 = 0 := by decide
theorem vnB (on : Bool) : vp_nar .boolean (if on then 1 else 0) = if on then 1 else 0 := by cases on <;> decide
theorem vn1 : vp_nar .boolean 1 = 1 := by decide
section ROWS
variable {L : Nat} {xs : Nat → Int32}
set_option maxHeartbeats 1000000 in
theorem R2 : lw_R2 L xs Inv := by
  intro a v G hG
  refine inv_elim hG ?_
  intro R C rim fi se lo hi TB OB LB ks ws stale lw SZ HD HP sts nx sz kq hT hO hL hK hW sq sv rv le nu di ch tr su U tu tl ki go wa ol hs so sr rs ce cp fa pa hpl hpv hld hhs hsp htp hpr hrm hr1 hr2 hr3 hr4
  have hb1 := sh_b hpv.1
  have hU : U ≤ 20 := by rw [hr3.1]; exact hhs.2.2.2.2.2
  rcases ix_of a (N := nN R C) (by omega) with hb | ⟨i, hin, rfl⟩
  · refine rd hG (v := -1) ?_ ?_
    · simp only [e_63, tp_f htp, c_isNoNeedle htp hpl, no_no hb, Option.bind_some, Option.toList_some, Option.toList_none, List.cons_append, List.nil_append, List.append_nil, List.length_cons, List.length_nil, true_or, or_true, eq_self, b01_0, b01_1, b01_2, b01_3, b01_4, Nat.zero_le, Nat.reduceAdd, Nat.reduceLeDiff, ↓reduceIte, not_true_eq_false, not_false_eq_true, Bool.false_eq_true]
    · simp only [e_135, rm_f hrm, rm_t hrm, r_isNeedle hrm, ix_no hb1.1 (by omega) hb, Option.bind_some, Option.toList_some, Option.toList_none, List.cons_append, List.nil_append, List.append_nil, List.length_cons, List.length_nil, true_or, or_true, eq_self, b01_0, b01_1, b01_2, b01_3, b01_4, Nat.zero_le, Nat.reduceAdd, Nat.reduceLeDiff, ↓reduceIte, not_true_eq_false, not_false_eq_true, Bool.false_eq_true]
  have h12 : i < 12 := by omega
  have hno := no_yes hin (N := nN R C) (by omega)
  have hyes := ix_yes hin (N := nN R C) (by omega)
  rcases ix_of v (N := 2) (by decide) with hv | ⟨w, hw, rfl⟩
  · refine rd hG (v := -1) ?_ ?_
    · rcases hv with hv | hv
      · simp only [e_63, tp_f htp, c_isNoNeedle htp hpl, hno, hv, Option.bind_some, Option.toList_some, Option.toList_none, List.cons_append, List.nil_append, List.append_nil, List.length_cons, List.length_nil, true_or, or_true, eq_self, b01_0, b01_1, b01_2, b01_3, b01_4, Nat.zero_le, Nat.reduceAdd, Nat.reduceLeDiff, ↓reduceIte, not_true_eq_false, not_false_eq_true, Bool.false_eq_true]
      · have v0 : ¬ v < 0 := fun q => absurd (Int32.lt_of_le_of_lt hv q) (by decide)
        have v1 : (1 : Int32) < v := Int32.lt_of_lt_of_le (by decide) hv
        simp only [e_63, tp_f htp, c_isNoNeedle htp hpl, hno, v0, v1, Option.bind_some, Option.toList_some, Option.toList_none, List.cons_append, List.nil_append, List.append_nil, List.length_cons, List.length_nil, true_or, or_true, eq_self, b01_0, b01_1, b01_2, b01_3, b01_4, Nat.zero_le, Nat.reduceAdd, Nat.reduceLeDiff, ↓reduceIte, not_true_eq_false, not_false_eq_true, Bool.false_eq_true]
    · have e5 : (1 : Int32) = nI 2 - 1 := rfl
      have hx := ix_no (N := 2) (by decide) (by decide) hv
      rw [← e5] at hx
      simp only [e_135, rm_f hrm, rm_t hrm, r_isNeedle hrm, hyes, r_in, hx, Option.bind_some, Option.toList_some, Option.toList_none, List.cons_append, List.nil_append, List.append_nil, List.length_cons, List.length_nil, true_or, or_true, eq_self, b01_0, b01_1, b01_2, b01_3, b01_4, Nat.zero_le, Nat.reduceAdd, Nat.reduceLeDiff, ↓reduceIte, not_true_eq_false, not_false_eq_true, Bool.false_eq_true]
  obtain ⟨G1, q1, q2, q3, q4⟩ := c_keepAndReshape (X := mc_X0 L xs) htp hld hhs hpl
  have p1 := pl_ag hpl (G' := G1) (fun k a b => q2 k (by omega))
  have t1 := tp_ag htp (q2 0 (by omega))
  have hrm2 := rm_ag hrm (G' := G1.set 7 (sc TB (sb (nN R C) OB i (decide (w = 1))) LB 8 9)) (fun k a b => (gs_ne (by omega)).trans (q2 k (by omega)))
  obtain ⟨G3, f, k1, k2, k3, k4, k5, k6⟩ := r_keeps (X := mc_X0 L xs) hrm2 hU
  have hpv2 : pv R C rim fi se lo hi TB (sb (nN R C) OB i (decide (w = 1))) LB ks ws := ⟨hpv.1, hpv.2.1, sb_lt hin hpv.2.2.1, hpv.2.2.2⟩
  refine ⟨nI (bt (nN R C) OB i), G1.set 7 (sc TB (sb (nN R C) OB i (decide (w = 1))) LB 8 9), G3.set 92 (.inl (0, 12, upd tl i (nI w))), ?_, (rm_f hrm2).1, ?_, ?_⟩
  · have v0 : ¬ nI w < 0 := nI_pos (by omega)
    have v1 : ¬ (1 : Int32) < nI w := nI_nlt (a := 1) (b := w) (by omega) (by decide)
    have vw : (nI w = 1) = (w = 1) := nI_is1 (by omega)
    simp only [e_63, tp_f htp, c_isNoNeedle htp hpl, hno, v0, v1, q1, tp_f t1, pl_f p1, c_bitIn p1 hpv.1 hin (lt31 hb1.2.1 hpv.2.2.1), vw, Option.bind_some, Option.toList_some, Option.toList_none, List.cons_append, List.nil_append, List.append_nil, List.length_cons, List.length_nil, true_or, or_true, eq_self, b01_0, b01_1, b01_2, b01_3, b01_4, Nat.zero_le, Nat.reduceAdd, Nat.reduceLeDiff, ↓reduceIte, not_true_eq_false, not_false_eq_true, Bool.false_eq_true]
    by_cases c : w = 1
    · simp only [c, e_63, tp_f t1, pl_f p1, c_withBit1 p1 hpv.1 hin, pl_wO p1, decide_true, Option.bind_some, Option.toList_some, Option.toList_none, List.cons_append, List.nil_append, List.append_nil, List.length_cons, List.length_nil, true_or, or_true, eq_self, b01_0, b01_1, b01_2, b01_3, b01_4, Nat.zero_le, Nat.reduceAdd, Nat.reduceLeDiff, ↓reduceIte, not_true_eq_false, not_false_eq_true, Bool.false_eq_true]
    · simp only [c, e_63, tp_f t1, pl_f p1, c_withBit0 p1 hpv.1 hin, pl_wO p1, decide_false, Option.bind_some, Option.toList_some, Option.toList_none, List.cons_append, List.nil_append, List.append_nil, List.length_cons, List.length_nil, true_or, or_true, eq_self, b01_0, b01_1, b01_2, b01_3, b01_4, Nat.zero_le, Nat.reduceAdd, Nat.reduceLeDiff, ↓reduceIte, not_true_eq_false, not_false_eq_true, Bool.false_eq_true]
  · have vi : (0 ≤ nI w ∧ nI w ≤ 1) = True := ix_yes (N := 2) hw (by decide)
    have hq : tl i = nI (bt (nN R C) OB i) := (hr1.1 i hin).2.1
    simp only [e_135, rm_f hrm2, rm_t hrm2, r_isNeedle hrm2, hyes, r_in, vi, k1, rm_f k3, rm_a (X := mc_X0 L xs) k3, h12, rm_w92a k3 h12, hq, Option.bind_some, Option.toList_some, Option.toList_none, List.cons_append, List.nil_append, List.append_nil, List.length_cons, List.length_nil, true_or, or_true, eq_self, b01_0, b01_1, b01_2, b01_3, b01_4, Nat.zero_le, Nat.reduceAdd, Nat.reduceLeDiff, ↓reduceIte, not_true_eq_false, not_false_eq_true, Bool.false_eq_true]
  · refine inv_kr (pl_s7 p1 TB _ LB) hpv2 q3 q4 hsp htp hpr q2 (fun j a b c => gs_ne (by omega)) (rm_s92 k3 _) (fun k a => (gs_ne (by omega)).trans (k2 k (by omega) (by omega))) ⟨fun k hk => ?_, hr1.2⟩ ⟨Or.inl rfl, hr2.2⟩ (rel3_keep hpv hr1 hr3 hhs.2.2.2.2.1 hhs.2.2.2.2.2 k4 k5 k6) hr4
    obtain ⟨e1, e2, e3, e4⟩ := hr1.1 k hk
    refine ⟨e1, ?_, e3, e4⟩
    unfold gB
    rw [sb_bt hb1.2.1 hin hk]
    by_cases c : k = i
    · subst c
      rw [pk_us, if_pos rfl]
      rcases (show w = 0 ∨ w = 1 by omega) with rfl | rfl <;> rfl
    · rw [pk_un c, if_neg c]; exact e2
set_option maxHeartbeats 1000000 in
theorem R3 : lw_R3 L xs Inv := by
  intro a v G hG hv
  obtain ⟨on, rfl⟩ : ∃ on : Bool, v = if on then 1 else 0 := by
    rcases hv with rfl | rfl
    · exact ⟨false, rfl⟩
    · exact ⟨true, rfl⟩
  refine inv_elim hG ?_
  intro R C rim fi se lo hi TB OB LB ks ws stale lw SZ HD HP sts nx sz kq hT hO hL hK hW sq sv rv le nu di ch tr su U tu tl ki go wa ol hs so sr rs ce cp fa pa hpl hpv hld hhs hsp htp hpr hrm hr1 hr2 hr3 hr4
  have hb1 := sh_b hpv.1
  have hU : U ≤ 20 := by rw [hr3.1]; exact hhs.2.2.2.2.2
  rcases ix_of a (N := nN R C) (by omega) with hb | ⟨i, hin, rfl⟩
  · refine rd hG (v := -1) ?_ ?_
    · simp only [e_64, tp_f htp, c_isNoNeedle htp hpl, no_no hb, Option.bind_some, Option.toList_some, Option.toList_none, List.cons_append, List.nil_append, List.append_nil, List.length_cons, List.length_nil, true_or, or_true, eq_self, b01_0, b01_1, b01_2, b01_3, b01_4, Nat.zero_le, Nat.reduceAdd, Nat.reduceLeDiff, ↓reduceIte, not_true_eq_false, not_false_eq_true, Bool.false_eq_true]
    · simp only [e_136, rm_f hrm, rm_t hrm, r_isNeedle hrm, ix_no hb1.1 (by omega) hb, Option.bind_some, Option.toList_some, Option.toList_none, List.cons_append, List.nil_append, List.append_nil, List.length_cons, List.length_nil, true_or, or_true, eq_self, b01_0, b01_1, b01_2, b01_3, b01_4, Nat.zero_le, Nat.reduceAdd, Nat.reduceLeDiff, ↓reduceIte, not_true_eq_false, not_false_eq_true, Bool.false_eq_true]
  have h12 : i < 12 := by omega
  have hno := no_yes hin (N := nN R C) (by omega)
  have hyes := ix_yes hin (N := nN R C) (by omega)
  obtain ⟨z1, z2, z3, z4⟩ := hr1.1 i hin
  by_cases hk4 : ks i = 4
  case neg =>
    refine rd hG (v := -1) ?_ ?_
    · simp only [e_64, tp_f htp, c_isNoNeedle htp hpl, hno, pl_f hpl, pl_g hpl, h12, hk4, Option.bind_some, Option.toList_some, Option.toList_none, List.cons_append, List.nil_append, List.append_nil, List.length_cons, List.length_nil, true_or, or_true, eq_self, b01_0, b01_1, b01_2, b01_3, b01_4, Nat.zero_le, Nat.reduceAdd, Nat.reduceLeDiff, ↓reduceIte, not_true_eq_false, not_false_eq_true, Bool.false_eq_true]
    · simp only [e_136, rm_f hrm, rm_t hrm, r_isNeedle hrm, hyes, rm_g hrm, h12, z4, hk4, Option.bind_some, Option.toList_some, Option.toList_none, List.cons_append, List.nil_append, List.append_nil, List.length_cons, List.length_nil, true_or, or_true, eq_self, b01_0, b01_1, b01_2, b01_3, b01_4, Nat.zero_le, Nat.reduceAdd, Nat.reduceLeDiff, ↓reduceIte, not_true_eq_false, not_false_eq_true, Bool.false_eq_true]
  obtain ⟨G1, q1, q2, q3, q4⟩ := c_keepAndReshape (X := mc_X0 L xs) htp hld hhs hpl
  have p1 := pl_ag hpl (G' := G1) (fun k a b => q2 k (by omega))
  have t1 := tp_ag htp (q2 0 (by omega))
  have hrm2 := rm_ag hrm (G' := G1.set 7 (sc TB OB (sb (nN R C) LB i on) 8 9)) (fun k a b => (gs_ne (by omega)).trans (q2 k (by omega)))
  obtain ⟨G3, f, k1, k2, k3, k4, k5, k6⟩ := r_keeps (X := mc_X0 L xs) hrm2 hU
  obtain ⟨y1, y2, y3, y4, y5, y6, y7, y8, y9, y10⟩ := hpv
  have hpv : pv R C rim fi se lo hi TB OB LB ks ws := ⟨y1, y2, y3, y4, y5, y6, y7, y8, y9, y10⟩
  have hpv2 : pv R C rim fi se lo hi TB OB (sb (nN R C) LB i on) ks ws := ⟨y1, y2, y3, sb_lt hin y4, y5, y6, y7, y8, y9, fun k hk hb => by
    rw [sb_bt hb1.2.1 hin hk] at hb
    by_cases c : k = i
    · subst c; exact hk4
    · rw [if_neg c] at hb; exact y10 k hk hb⟩
  have hg1 : ((if go i = 0 then (0 : Int32) else 1)) = nI (bt (nN R C) LB i) := by
    rw [z3]
    unfold gB
    rcases bt_b (nN R C) LB i with q | q <;> rw [q] <;> rfl
  refine ⟨nI (bt (nN R C) LB i), G1.set 7 (sc TB OB (sb (nN R C) LB i on) 8 9), G3.set 94 (.inl (1, 12, upd go i (if on then 1 else 0))), ?_, (rm_f hrm2).1, ?_, ?_⟩
  · simp only [e_64, tp_f htp, c_isNoNeedle htp hpl, hno, pl_f hpl, pl_g hpl, h12, hk4, q1, tp_f t1, pl_f p1, c_bitIn p1 hpv.1 hin (lt31 hb1.2.1 y4), c_withBit p1 hpv.1 hin, pl_wL p1, Option.bind_some, Option.toList_some, Option.toList_none, List.cons_append, List.nil_append, List.append_nil, List.length_cons, List.length_nil, true_or, or_true, eq_self, b01_0, b01_1, b01_2, b01_3, b01_4, Nat.zero_le, Nat.reduceAdd, Nat.reduceLeDiff, ↓reduceIte, not_true_eq_false, not_false_eq_true, Bool.false_eq_true]
  · rw [← hg1]
    by_cases c : go i = 0 <;> simp only [e_136, rm_f hrm2, rm_t hrm2, r_isNeedle hrm2, hyes, rm_g hrm2, h12, z4, hk4, k1, rm_f k3, rm_a (X := mc_X0 L xs) k3, c, vnB, rm_w94a k3 h12, Option.bind_some, Option.toList_some, Option.toList_none, List.cons_append, List.nil_append, List.append_nil, List.length_cons, List.length_nil, true_or, or_true, eq_self, b01_0, b01_1, b01_2, b01_3, b01_4, Nat.zero_le, Nat.reduceAdd, Nat.reduceLeDiff, ↓reduceIte, not_true_eq_false, not_false_eq_true, Bool.false_eq_true]
  · refine inv_kr (pl_s7 p1 TB OB _) hpv2 q3 q4 hsp htp hpr q2 (fun j a b c => gs_ne (by omega)) (rm_s94 k3 _) (fun k a => (gs_ne (by omega)).trans (k2 k (by omega) (by omega))) ⟨fun k hk => ?_, hr1.2⟩ ⟨Or.inl rfl, hr2.2⟩ (rel3_keep hpv hr1 hr3 hhs.2.2.2.2.1 hhs.2.2.2.2.2 k4 k5 k6) hr4
    obtain ⟨e1, e2, e3, e4⟩ := hr1.1 k hk
    refine ⟨e1, e2, ?_, e4⟩
    unfold gB
    rw [sb_bt hb1.2.1 hin hk]
    by_cases c : k = i
    · subst c
      rw [pk_us, if_pos rfl]
      cases on <;> rfl
    · rw [pk_un c, if_neg c]; exact e3
set_option maxHeartbeats 1000000 in
theorem R6 : lw_R6 L xs Inv := by
  intro a v G hG
  refine inv_elim hG ?_
  intro R C rim fi se lo hi TB OB LB ks ws stale lw SZ HD HP sts nx sz kq hT hO hL hK hW sq sv rv le nu di ch tr su U tu tl ki go wa ol hs so sr rs ce cp fa pa hpl hpv hld hhs hsp htp hpr hrm hr1 hr2 hr3 hr4
  have hb1 := sh_b hpv.1
  have hU : U ≤ 20 := by rw [hr3.1]; exact hhs.2.2.2.2.2
  rcases jx_of a (N := nJ R C) (by omega) with ⟨cx, cm⟩ | ⟨j, hj, rfl⟩
  · refine rd hG (v := -1000000) ?_ ?_
    · simp only [e_67, tp_f htp, c_isNoJoint htp hpl, cx, Option.bind_some, Option.toList_some, Option.toList_none, List.cons_append, List.nil_append, List.append_nil, List.length_cons, List.length_nil, true_or, or_true, eq_self, b01_0, b01_1, b01_2, b01_3, b01_4, Nat.zero_le, Nat.reduceAdd, Nat.reduceLeDiff, ↓reduceIte, not_true_eq_false, not_false_eq_true, Bool.false_eq_true]
    · simp only [e_139, rm_f hrm, rm_t hrm, r_isJoint hrm hpv.1, cm, Option.bind_some, Option.toList_some, Option.toList_none, List.cons_append, List.nil_append, List.append_nil, List.length_cons, List.length_nil, true_or, or_true, eq_self, b01_0, b01_1, b01_2, b01_3, b01_4, Nat.zero_le, Nat.reduceAdd, Nat.reduceLeDiff, ↓reduceIte, not_true_eq_false, not_false_eq_true, Bool.false_eq_true]
  have hno := no_yes hj (N := nJ R C) (by omega)
  have hyes := ix_yes hj (N := nJ R C) (by omega)
  have h17 : j < 17 := by omega
  have h24 : j < 24 := by omega
  by_cases hv : v < -1000 ∨ 1000 < v
  · have hv2 : (-1000 ≤ v ∧ v ≤ 1000) = False := eq_false (by
      rintro ⟨a, b⟩
      rcases hv with q | q
      · exact absurd a (Int32.not_le.mpr q)
      · exact absurd b (Int32.not_le.mpr q))
    refine rd hG (v := -1000000) ?_ ?_
    · simp only [e_67, tp_f htp, c_isNoJoint htp hpl, hno, c_isNoWant, hv, Option.bind_some, Option.toList_some, Option.toList_none, List.cons_append, List.nil_append, List.append_nil, List.length_cons, List.length_nil, true_or, or_true, eq_self, b01_0, b01_1, b01_2, b01_3, b01_4, Nat.zero_le, Nat.reduceAdd, Nat.reduceLeDiff, ↓reduceIte, not_true_eq_false, not_false_eq_true, Bool.false_eq_true]
    · simp only [e_139, rm_f hrm, rm_t hrm, r_isJoint hrm hpv.1, hyes, r_in, hv2, Option.bind_some, Option.toList_some, Option.toList_none, List.cons_append, List.nil_append, List.append_nil, List.length_cons, List.length_nil, true_or, or_true, eq_self, b01_0, b01_1, b01_2, b01_3, b01_4, Nat.zero_le, Nat.reduceAdd, Nat.reduceLeDiff, ↓reduceIte, not_true_eq_false, not_false_eq_true, Bool.false_eq_true]
  have hv1 : -1000 ≤ v ∧ v ≤ 1000 := ⟨Int32.not_lt.mp (fun q => hv (Or.inl q)), Int32.not_lt.mp (fun q => hv (Or.inr q))⟩
  obtain ⟨G1, q1, q2, q3, q4⟩ := c_keepAndReshape (X := mc_X0 L xs) htp hld hhs hpl
  have p1 := pl_ag hpl (G' := G1) (fun k a b => q2 k (by omega))
  have t1 := tp_ag htp (q2 0 (by omega))
  have hrm2 := rm_ag hrm (G' := G1.set 9 (.inl (0, 17, upd ws j v))) (fun k a b => (gs_ne (by omega)).trans (q2 k (by omega)))
  obtain ⟨G3, f, k1, k2, k3, k4, k5, k6⟩ := r_keeps (X := mc_X0 L xs) hrm2 hU
  obtain ⟨y1, y2, y3, y4, y5, y6, y7, y8, y9, y10⟩ := hpv
  have hpv : pv R C rim fi se lo hi TB OB LB ks ws := ⟨y1, y2, y3, y4, y5, y6, y7, y8, y9, y10⟩
  have hpv2 : pv R C rim fi se lo hi TB OB LB ks (upd ws j v) := ⟨y1, y2, y3, y4, y5, y6, fun k hk => by
    by_cases c : k = j
    · subst c; rw [pk_us]; exact hv1
    · rw [pk_un c]; exact y7 k hk, y8, y9, y10⟩
  refine ⟨ws j, G1.set 9 (.inl (0, 17, upd ws j v)), G3.set 95 (.inl (0, 24, upd wa j v)), ?_, (rm_f hrm2).1, ?_, ?_⟩
  · simp only [e_67, tp_f htp, c_isNoJoint htp hpl, hno, c_isNoWant, hv, q1, tp_f t1, pl_f p1, pl_g p1, h17, pl_w9 p1 h17, Option.bind_some, Option.toList_some, Option.toList_none, List.cons_append, List.nil_append, List.append_nil, List.length_cons, List.length_nil, true_or, or_true, eq_self, b01_0, b01_1, b01_2, b01_3, b01_4, Nat.zero_le, Nat.reduceAdd, Nat.reduceLeDiff, ↓reduceIte, not_true_eq_false, not_false_eq_true, Bool.false_eq_true]
  · have hv2 : (-1000 ≤ v ∧ v ≤ 1000) = True := eq_true hv1
    simp only [e_139, rm_f hrm2, rm_t hrm2, r_isJoint hrm2 hpv.1, hyes, r_in, hv2, k1, rm_f k3, rm_a (X := mc_X0 L xs) k3, h24, rm_w95a k3 h24, hr1.2 j hj, Option.bind_some, Option.toList_some, Option.toList_none, List.cons_append, List.nil_append, List.append_nil, List.length_cons, List.length_nil, true_or, or_true, eq_self, b01_0, b01_1, b01_2, b01_3, b01_4, Nat.zero_le, Nat.reduceAdd, Nat.reduceLeDiff, ↓reduceIte, not_true_eq_false, not_false_eq_true, Bool.false_eq_true]
  · refine inv_kr (pl_s9 p1 _) hpv2 q3 q4 hsp htp hpr q2 (fun j a b c => gs_ne (by omega)) (rm_s95 k3 _) (fun k a => (gs_ne (by omega)).trans (k2 k (by omega) (by omega))) ⟨hr1.1, fun k hk => ?_⟩ ⟨Or.inl rfl, hr2.2⟩ (rel3_keep hpv hr1 hr3 hhs.2.2.2.2.1 hhs.2.2.2.2.2 k4 k5 k6) hr4
    by_cases c : k = j
    · subst c; rw [pk_us, pk_us]
    · rw [pk_un c, pk_un c]; exact hr1.2 k hk
end ROWS
