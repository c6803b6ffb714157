/-! rows: point, worth -/
theorem inv_mk {G : mc_H} {R C rim : Nat} {fi se lo hi : Nat → Int32} {TB OB LB : Nat} {ks ws : Nat → Int32} {stale lw : Int32} {SZ HD HP : Nat} {sts : Nat → Int32} {nx sz : Nat} {kq : Nat → Option Nat} {hT hO hL : Nat → Nat} {hK hW : Nat → Nat → Int32} {sq : Nat → Option Nat} {sv rv : Nat → Int32} {le nu : Nat → Nat → Int32} {di ch : Nat → Int32} {tr : Int64} {su : Int32} {U : Nat} {tu tl ki go wa ol hs so sr rs ce cp fa pa : Nat → Int32} (hpl : pl G R C rim fi se lo hi TB OB LB ks ws) (hpv : pv R C rim fi se lo hi TB OB LB ks ws) (hld : ld G stale SZ HD HP lw sts) (hhs : hy G nx sz kq hT hO hL hK hW) (hsp : sp G sq sv rv le nu) (htp : tp G tr su) (hpr : pr G di ch) (hrm : rm G su tr R C U tu tl ki go wa ol hs so sr rs ce cp fa pa) (hr1 : rel1 R C TB OB LB ks ws tu tl ki go wa) (hr2 : rel2 R C OB LB ks ws stale lw SZ HD HP sts) (hr3 : rel3 R C nx sz U hT hO hL hK hW ol) (hr4 : rel4 sv rv le nu hs so sr rs ce) : Inv G := ⟨R, C, rim, fi, se, lo, hi, TB, OB, LB, ks, ws, stale, lw, SZ, HD, HP, sts, nx, sz, kq, hT, hO, hL, hK, hW, sq, sv, rv, le, nu, di, ch, tr, su, U, tu, tl, ki, go, wa, ol, hs, so, sr, rs, ce, cp, fa, pa, hpl, hpv, hld, hhs, hsp, htp, hpr, hrm, hr1, hr2, hr3, hr4⟩
/-- the reference's own cell -/
def rmc (su : Int32) (tr : Int64) (R C U : Nat) : mc_C := .inr (.inr (8, [.int 0, .int su, .long tr, .int (nI R), .int (nI C), .ref 91, .ref 92, .ref 93, .ref 94, .ref 95, .ref 96, .int (nI U), .ref 97, .ref 98, .ref 99, .ref 100, .ref 101, .ref 102, .ref 103, .ref 104]))
section W
variable {G : mc_H} {su : Int32} {tr : Int64} {R C U : Nat} {tu tl ki go wa ol hs so sr rs ce cp fa pa : Nat → Int32}
theorem rm_w1 (h : rm G su tr R C U tu tl ki go wa ol hs so sr rs ce cp fa pa) (s : Int32) : mc_setf G 90 8 1 (.int s) = some (G.set 90 (rmc s tr R C U)) := sf_n h.1 (Nat.le_of_ble_eq_true rfl) rfl
theorem rm_w2 (h : rm G su tr R C U tu tl ki go wa ol hs so sr rs ce cp fa pa) (t : Int64) : mc_setf G 90 8 2 (.long t) = some (G.set 90 (rmc su t R C U)) := sf_n h.1 (Nat.le_of_ble_eq_true rfl) rfl
theorem rm_w11 (h : rm G su tr R C U tu tl ki go wa ol hs so sr rs ce cp fa pa) (u : Nat) : mc_setf G 90 8 11 (.int (nI u)) = some (G.set 90 (rmc su tr R C u)) := sf_n h.1 (Nat.le_of_ble_eq_true rfl) rfl
theorem rm_set (h : rm G su tr R C U tu tl ki go wa ol hs so sr rs ce cp fa pa) (su' : Int32) (tr' : Int64) (R' C' U' : Nat) : rm (G.set 90 (rmc su' tr' R' C' U')) su' tr' R' C' U' tu tl ki go wa ol hs so sr rs ce cp fa pa := by
  obtain ⟨h1, h2, h3, h4, h5, h6, h7, h8, h9, h10, h11, h12, h13, h14, h15⟩ := h
  exact ⟨gs_self h1, (gs_ne (by decide)).trans h2, (gs_ne (by decide)).trans h3, (gs_ne (by decide)).trans h4, (gs_ne (by decide)).trans h5, (gs_ne (by decide)).trans h6, (gs_ne (by decide)).trans h7, (gs_ne (by decide)).trans h8, (gs_ne (by decide)).trans h9, (gs_ne (by decide)).trans h10, (gs_ne (by decide)).trans h11, (gs_ne (by decide)).trans h12, (gs_ne (by decide)).trans h13, (gs_ne (by decide)).trans h14, (gs_ne (by decide)).trans h15⟩
end W
theorem tb_1 {L : Nat} {xs : Nat → Int32} {G : mc_H} {m : Nat} (hm : m < 5) : mc_getA (mc_X0 L xs) G 0 (.float 1) (nI m) = some (mc_t1 m) := by
  unfold mc_getA
  dsimp only
  rw [if_pos ⟨rfl, by decide, nI_in (N := 5) hm (by decide)⟩]
  show some (mc_t1 (nI m).toNatClampNeg) = _
  rw [nI_clamp (by omega)]
theorem tb_2 {L : Nat} {xs : Nat → Int32} {G : mc_H} {m : Nat} (hm : m < 5) : mc_getA (mc_X0 L xs) G 0 (.float 2) (nI m) = some (mc_t2 m) := by
  unfold mc_getA
  dsimp only
  rw [if_pos ⟨rfl, by decide, nI_in (N := 5) hm (by decide)⟩]
  show some (mc_t2 (nI m).toNatClampNeg) = _
  rw [nI_clamp (by omega)]
section ROWS
variable {L : Nat} {xs : Nat → Int32}
theorem k_eq5 : (∀ a, a < 5 → ∀ b, b < 5 → ((nI a = nI b) = (a = b))) := fun a ha b hb => propext (nI_eq (by omega) (by omega))
theorem wo_k : wo (nI 0) = 1 ∧ wo (nI 1) = 1 ∧ wo (nI 2) = 2 ∧ wo (nI 3) = 0 ∧ wo (nI 4) = 1 := by decide +kernel
theorem k_1 {n : Nat} (h : n < 5) : (nI n = 1) = (n = 1) := nI_is1 (by omega)
theorem k_2 {n : Nat} (h : n < 5) : (nI n = 2) = (n = 2) := propext (nI_eq (b := 2) (by omega) (by decide))
theorem k_3 {n : Nat} (h : n < 5) : (nI n = 3) = (n = 3) := propext (nI_eq (b := 3) (by omega) (by decide))
theorem k_4 {n : Nat} (h : n < 5) : (nI n = 4) = (n = 4) := propext (nI_eq (b := 4) (by omega) (by decide))
/-- only the traces and the findings changed -/
theorem inv_tt {G : mc_H} {R C rim : Nat} {fi se lo hi : Nat → Int32} {TB OB LB : Nat} {ks ws : Nat → Int32} {stale lw : Int32} {SZ HD HP : Nat} {sts : Nat → Int32} {nx sz : Nat} {kq : Nat → Option Nat} {hT hO hL : Nat → Nat} {hK hW : Nat → Nat → Int32} {sq : Nat → Option Nat} {sv rv : Nat → Int32} {le nu : Nat → Nat → Int32} {di ch : Nat → Int32} {tr : Int64} {su : Int32} {U : Nat} {tu tl ki go wa ol hs so sr rs ce cp fa pa : Nat → Int32} (hpl : pl G R C rim fi se lo hi TB OB LB ks ws) (hpv : pv R C rim fi se lo hi TB OB LB ks ws) (hld : ld G stale SZ HD HP lw sts) (hhs : hy G nx sz kq hT hO hL hK hW) (hsp : sp G sq sv rv le nu) (htp : tp G tr su) (hpr : pr G di ch) (hrm : rm G su tr R C U tu tl ki go wa ol hs so sr rs ce cp fa pa) (hr1 : rel1 R C TB OB LB ks ws tu tl ki go wa) (hr2 : rel2 R C OB LB ks ws stale lw SZ HD HP sts) (hr3 : rel3 R C nx sz U hT hO hL hK hW ol) (hr4 : rel4 sv rv le nu hs so sr rs ce) (tr' : Int64) (su' : Int32) : Inv ((G.set 0 (top tr' su')).set 90 (rmc su' tr' R C U)) := by
  have ag : ∀ k, k ≠ 0 → k ≠ 90 → ((G.set 0 (top tr' su')).set 90 (rmc su' tr' R C U))[k]? = G[k]? := fun k h0 h9 => (gs_ne (Ne.symm h9)).trans (gs_ne (Ne.symm h0))
  exact inv_mk (pl_ag hpl (fun k a b => ag k (by omega) (by omega))) hpv (ld_ag hld (fun k a b => ag k (by omega) (by omega))) (hy_ag hhs (fun k a b => ag k (by omega) (by omega))) (sp_ag hsp (fun k a b => ag k (by omega) (by omega))) (tp_ag (tp_set htp tr' su') (gs_ne (by decide))) (pr_ag hpr (fun k a b => ag k (by omega) (by omega))) (rm_set (rm_ag hrm (fun k a b => gs_ne (by omega))) su' tr' R C U) hr1 hr2 hr3 hr4
set_option maxHeartbeats 2000000 in
theorem R11 : lw_R11 L xs Inv := by
  intro a G hG
  refine inv_elim hG ?_
  intro R C rim fi se lo hi TB OB LB ks ws stale lw SZ HD HP sts nx sz kq hT hO hL hK hW sq sv rv le nu di ch tr su U tu tl ki go wa ol hs so sr rs ce cp fa pa hpl hpv hld hhs hsp htp hpr hrm hr1 hr2 hr3 hr4
  have hb1 := sh_b hpv.1
  rcases ix_of a (N := nN R C) (by omega) with hb | ⟨i, hi, rfl⟩
  · refine rd hG (v := -1) ?_ ?_
    · simp only [e_72, tp_f htp, c_isNoNeedle htp hpl, no_no hb, Option.bind_some, Option.toList_some, Option.toList_none, List.cons_append, List.nil_append, List.append_nil, List.length_cons, List.length_nil, true_or, or_true, eq_self, b01_0, b01_1, b01_2, b01_3, b01_4, Nat.zero_le, Nat.reduceAdd, Nat.reduceLeDiff, ↓reduceIte, not_true_eq_false, not_false_eq_true, Bool.false_eq_true]
    · simp only [e_144, rm_f hrm, rm_t hrm, r_isNeedle hrm, ix_no hb1.1 (by omega) hb, Option.bind_some, Option.toList_some, Option.toList_none, List.cons_append, List.nil_append, List.append_nil, List.length_cons, List.length_nil, true_or, or_true, eq_self, b01_0, b01_1, b01_2, b01_3, b01_4, Nat.zero_le, Nat.reduceAdd, Nat.reduceLeDiff, ↓reduceIte, not_true_eq_false, not_false_eq_true, Bool.false_eq_true]
  · obtain ⟨q1, q2, q3, q4⟩ := hr1.1 i hi
    have h12 : i < 12 := by omega
    obtain ⟨m, hm, hk⟩ := hpv.2.2.2.2.2.1 i h12
    have hki : ki i = nI m := q4.trans hk
    have htp1 : ∀ t, tp (G.set 0 (top t su)) t su := fun t => tp_set htp t su
    have hrm1 : ∀ t, rm (G.set 0 (top t su)) su tr R C U tu tl ki go wa ol hs so sr rs ce cp fa pa := fun t => rm_ag hrm (fun k a b => gs_ne (by omega))
    have e1 : (mc_t2 m).toInt64 = (if nI m = 2 then 12000 else if nI m = 3 then 100000 else (1000 : Int64)) := by
      rcases (show m = 0 ∨ m = 1 ∨ m = 2 ∨ m = 3 ∨ m = 4 by omega) with rfl | rfl | rfl | rfl | rfl <;> decide +kernel
    refine ⟨wo (nI m), G.set 0 (top (tr + (mc_t2 m).toInt64) su), (G.set 0 (top (tr + (mc_t2 m).toInt64) su)).set 90 (rmc su (tr + (mc_t2 m).toInt64) R C U), ?_, (rm_f (hrm1 _)).1, ?_, ?_⟩
    · simp only [e_72, tp_f htp, pl_f hpl, pl_g hpl, h12, hk, c_isNoNeedle htp hpl, no_yes hi (N := nN R C) (by omega), tb_2 hm, tp_w5 htp, tb_0 hm, Option.bind_some, Option.toList_some, Option.toList_none, List.cons_append, List.nil_append, List.append_nil, List.length_cons, List.length_nil, true_or, or_true, eq_self, b01_0, b01_1, b01_2, b01_3, b01_4, Nat.zero_le, Nat.reduceAdd, Nat.reduceLeDiff, ↓reduceIte, not_true_eq_false, not_false_eq_true, Bool.false_eq_true]
    · have h1 := hrm1 (tr + (mc_t2 m).toInt64)
      have h2 := fun t => rm_set h1 su t R C U
      have w1 := fun t => r_worthOf (X := mc_X0 L xs) (h2 t) h12
      have w2 := fun t => (rm_f (h2 t)).1
      have hg := rm_g (X := mc_X0 L xs) h1
      simp only [e_144, rm_f h1, rm_t h1, hg, h12, hki, r_isNeedle h1, ix_yes hi (N := nN R C) (by omega), rm_w2 h1, w1, w2, Option.bind_some, Option.toList_some, Option.toList_none, List.cons_append, List.nil_append, List.append_nil, List.length_cons, List.length_nil, true_or, or_true, eq_self, b01_0, b01_1, b01_2, b01_3, b01_4, Nat.zero_le, Nat.reduceAdd, Nat.reduceLeDiff, ↓reduceIte, not_true_eq_false, not_false_eq_true, Bool.false_eq_true]
      rw [e1]
      by_cases c2 : nI m = 2
      · simp only [c2, w1, w2, hki, Option.bind_some, Option.toList_some, Option.toList_none, List.cons_append, List.nil_append, List.append_nil, List.length_cons, List.length_nil, true_or, or_true, eq_self, b01_0, b01_1, b01_2, b01_3, b01_4, Nat.zero_le, Nat.reduceAdd, Nat.reduceLeDiff, ↓reduceIte, not_true_eq_false, not_false_eq_true, Bool.false_eq_true]
      · by_cases c3 : nI m = 3 <;> simp only [c2, c3, w1, w2, hki, k_in4, Option.bind_some, Option.toList_some, Option.toList_none, List.cons_append, List.nil_append, List.append_nil, List.length_cons, List.length_nil, true_or, or_true, eq_self, b01_0, b01_1, b01_2, b01_3, b01_4, Nat.zero_le, Nat.reduceAdd, Nat.reduceLeDiff, ↓reduceIte, not_true_eq_false, not_false_eq_true, Bool.false_eq_true]
    · exact inv_tt hpl hpv hld hhs hsp htp hpr hrm hr1 hr2 hr3 hr4 _ _
set_option maxHeartbeats 2000000 in
theorem R10 : lw_R10 L xs Inv := by
  intro a G hG
  refine inv_elim hG ?_
  intro R C rim fi se lo hi TB OB LB ks ws stale lw SZ HD HP sts nx sz kq hT hO hL hK hW sq sv rv le nu di ch tr su U tu tl ki go wa ol hs so sr rs ce cp fa pa hpl hpv hld hhs hsp htp hpr hrm hr1 hr2 hr3 hr4
  have hb1 := sh_b hpv.1
  rcases ix_of a (N := nN R C) (by omega) with hb | ⟨i, hi, rfl⟩
  · refine rd hG (v := -1) ?_ ?_
    · simp only [e_71, tp_f htp, c_isNoNeedle htp hpl, no_no hb, Option.bind_some, Option.toList_some, Option.toList_none, List.cons_append, List.nil_append, List.append_nil, List.length_cons, List.length_nil, true_or, or_true, eq_self, b01_0, b01_1, b01_2, b01_3, b01_4, Nat.zero_le, Nat.reduceAdd, Nat.reduceLeDiff, ↓reduceIte, not_true_eq_false, not_false_eq_true, Bool.false_eq_true]
    · simp only [e_143, rm_f hrm, rm_t hrm, r_isNeedle hrm, ix_no hb1.1 (by omega) hb, Option.bind_some, Option.toList_some, Option.toList_none, List.cons_append, List.nil_append, List.append_nil, List.length_cons, List.length_nil, true_or, or_true, eq_self, b01_0, b01_1, b01_2, b01_3, b01_4, Nat.zero_le, Nat.reduceAdd, Nat.reduceLeDiff, ↓reduceIte, not_true_eq_false, not_false_eq_true, Bool.false_eq_true]
  · obtain ⟨q1, q2, q3, q4⟩ := hr1.1 i hi
    have h12 : i < 12 := by omega
    have l31 := lt31 hb1.2.1 hpv.2.2.2.1
    obtain ⟨m, hm, hk⟩ := hpv.2.2.2.2.2.1 i h12
    have hki : ki i = nI m := q4.trans hk
    have hrm1 : ∀ t, rm (G.set 0 (top t su)) su tr R C U tu tl ki go wa ol hs so sr rs ce cp fa pa := fun t => rm_ag hrm (fun k a b => gs_ne (by omega))
    have hpl1 : ∀ t, pl (G.set 0 (top t su)) R C rim fi se lo _ TB OB LB ks ws := fun t => pl_ag hpl (fun k a b => gs_ne (by omega))
    have htp1 : ∀ t, tp (G.set 0 (top t su)) t su := fun t => tp_set htp t su
    have f1 := fun t => (pl_f (hpl1 t)).1.1
    have f2 := fun t => c_pointing (L := L) (xs := xs) (hpl1 t) hpv
    have f3 := fun t => c_bitIn (L := L) (xs := xs) (hpl1 t) hpv.1 hi (pN1_31 hpv)
    have f4 := fun t => (tp_f (htp1 t))
    have hz : (nI (bt (nN R C) LB i) = 1) = (bt (nN R C) LB i = 1) := nI_is1 (by have := bt_lt (nN R C) LB i; omega)
    have hgo : go i = nI (bt (nN R C) LB i) := q3
    have hz0 : (nI (bt (nN R C) LB i) = 0) = (bt (nN R C) LB i = 0) := nI_is0 (by have := bt_lt (nN R C) LB i; omega)
    let D : Int64 := if bt (nN R C) LB i = 1 then 101 else (mc_t1 m).toInt64
    have hD : D = (if nI m = 1 then 10 else if nI m = 4 then (if bt (nN R C) LB i = 0 then 110 else 101) else (1 : Int64)) := by
      show (if bt (nN R C) LB i = 1 then 101 else (mc_t1 m).toInt64) = _
      rcases bt_b (nN R C) LB i with q | q
      · rw [q]
        rcases (show m = 0 ∨ m = 1 ∨ m = 2 ∨ m = 3 ∨ m = 4 by omega) with rfl | rfl | rfl | rfl | rfl <;> decide +kernel
      · have h4 : nI m = 4 := hk.symm.trans (hpv.2.2.2.2.2.2.2.2.2 i hi q)
        rw [q, h4, if_pos rfl]
        decide +kernel
    refine ⟨nI (bt (nN R C) (pN1 R C TB OB LB ks) i), G.set 0 (top (tr + D) su), (G.set 0 (top (tr + D) su)).set 90 (rmc su (tr + D) R C U), ?_, (rm_f (hrm1 _)).1, ?_, ?_⟩
    · simp only [e_71, tp_f htp, pl_f hpl, pl_g hpl, h12, hk, c_isNoNeedle htp hpl, no_yes hi (N := nN R C) (by omega), c_bitIn hpl hpv.1 hi l31, hz, tb_1 hm, tp_w5 htp, Option.bind_some, Option.toList_some, Option.toList_none, List.cons_append, List.nil_append, List.append_nil, List.length_cons, List.length_nil, true_or, or_true, eq_self, b01_0, b01_1, b01_2, b01_3, b01_4, Nat.zero_le, Nat.reduceAdd, Nat.reduceLeDiff, ↓reduceIte, not_true_eq_false, not_false_eq_true, Bool.false_eq_true]
      show _ = some (some (Value.int (nI (bt (nN R C) (pN1 R C TB OB LB ks) i))), G.set 0 (top (tr + (if bt (nN R C) LB i = 1 then 101 else (mc_t1 m).toInt64)) su))
      by_cases c : bt (nN R C) LB i = 1 <;> simp only [c, e_71, f1, f2, f3, f4, tb_1 hm, tp_w5 htp, Option.bind_some, Option.toList_some, Option.toList_none, List.cons_append, List.nil_append, List.append_nil, List.length_cons, List.length_nil, true_or, or_true, eq_self, b01_0, b01_1, b01_2, b01_3, b01_4, Nat.zero_le, Nat.reduceAdd, Nat.reduceLeDiff, ↓reduceIte, not_true_eq_false, not_false_eq_true, Bool.false_eq_true]
    · have h1 := hrm1 (tr + D)
      have h2 := fun t => rm_set h1 su t R C U
      have w1 := fun t => r_pointOf (X := mc_X0 L xs) (h2 t) h12
      have w2 := fun t => (rm_f (h2 t)).1
      have hg := rm_g (X := mc_X0 L xs) h1
      simp only [e_143, rm_f h1, rm_t h1, hg, h12, hki, hgo, hz0, r_isNeedle h1, ix_yes hi (N := nN R C) (by omega), rm_w2 h1, w1, w2, pt_eq hpv hr1 hi, Option.bind_some, Option.toList_some, Option.toList_none, List.cons_append, List.nil_append, List.append_nil, List.length_cons, List.length_nil, true_or, or_true, eq_self, b01_0, b01_1, b01_2, b01_3, b01_4, Nat.zero_le, Nat.reduceAdd, Nat.reduceLeDiff, ↓reduceIte, not_true_eq_false, not_false_eq_true, Bool.false_eq_true]
      rw [hD]
      by_cases c1 : nI m = 1
      · simp only [c1, w1, w2, pt_eq hpv hr1 hi, k_in4, Option.bind_some, Option.toList_some, Option.toList_none, List.cons_append, List.nil_append, List.append_nil, List.length_cons, List.length_nil, true_or, or_true, eq_self, b01_0, b01_1, b01_2, b01_3, b01_4, Nat.zero_le, Nat.reduceAdd, Nat.reduceLeDiff, ↓reduceIte, not_true_eq_false, not_false_eq_true, Bool.false_eq_true]
      · by_cases c4 : nI m = 4
        · by_cases c0 : bt (nN R C) LB i = 0 <;> simp only [c1, c4, c0, w1, w2, pt_eq hpv hr1 hi, k_in4, Option.bind_some, Option.toList_some, Option.toList_none, List.cons_append, List.nil_append, List.append_nil, List.length_cons, List.length_nil, true_or, or_true, eq_self, b01_0, b01_1, b01_2, b01_3, b01_4, Nat.zero_le, Nat.reduceAdd, Nat.reduceLeDiff, ↓reduceIte, not_true_eq_false, not_false_eq_true, Bool.false_eq_true]
        · simp only [c1, c4, w1, w2, pt_eq hpv hr1 hi, k_in4, Option.bind_some, Option.toList_some, Option.toList_none, List.cons_append, List.nil_append, List.append_nil, List.length_cons, List.length_nil, true_or, or_true, eq_self, b01_0, b01_1, b01_2, b01_3, b01_4, Nat.zero_le, Nat.reduceAdd, Nat.reduceLeDiff, ↓reduceIte, not_true_eq_false, not_false_eq_true, Bool.false_eq_true]
    · exact inv_tt hpl hpv hld hhs hsp htp hpr hrm hr1 hr2 hr3 hr4 _ _
end ROWS
