/-! rows: turn, gauge, arrange -/
theorem om_n {b : Nat} (h : b < 2) : (1 : Int32) - nI b = nI (1 - b) := pk_sub (a := 1) (b := b) (by omega)
section RS
variable {R C TB OB LB rim : Nat} {ks ws tu tl ki go wa fi se lo hi : Nat → Int32}
theorem rel1_turn (hs : sh R C) (h1 : rel1 R C TB OB LB ks ws tu tl ki go wa) {i : Nat} (hin : i < nN R C) : rel1 R C (fl (nN R C) TB i) OB LB ks ws (upd tu i (1 - tu i)) tl ki go wa := by
  refine ⟨fun k hk => ?_, h1.2⟩
  obtain ⟨e1, e2, e3, e4⟩ := h1.1 k hk
  refine ⟨?_, e2, e3, e4⟩
  unfold gB at e1 ⊢
  rw [fl_bt hin hk]
  by_cases c : k = i
  · subst c
    rw [pk_us, if_pos rfl, e1, om_n (bt_lt _ _ _)]
  · rw [pk_un c, if_neg c]; exact e1
theorem pv_T (hp : pv R C rim fi se lo hi TB OB LB ks ws) {T : Nat} (hT : T < 2 ^ nN R C) : pv R C rim fi se lo hi T OB LB ks ws := ⟨hp.1, hT, hp.2.2⟩
end RS
section REF
variable {X : mc_X} {G : mc_H} {R C TB OB LB rim : Nat} {ks ws fi se lo hi : Nat → Int32} {su : Int32} {tr : Int64} {U : Nat} {tu tl ki go wa ol hs so sr rs ce cp fa pa : Nat → Int32}
/-- the reference's arrangement now, and its strain -/
theorem r_nowS (h : rm G su tr R C U tu tl ki go wa ol hs so sr rs ce cp fa pa) (hp : pv R C rim fi se lo hi TB OB LB ks ws) (h1 : rel1 R C TB OB LB ks ws tu tl ki go wa) : mc_ev X 130 0 [.ref 90, .null, .null] [] G = some (some (.int (nI (pN1 R C TB OB LB ks))), G) ∧ mc_ev X 129 0 [.ref 90, .int (nI (pN1 R C TB OB LB ks)), .null, .null, .null, .null, .null] [] G = some (some (.int (stA R C ws ks (pN1 R C TB OB LB ks))), G) := by
  have e1 := stA_cg (wa := wa) (ki := ki) (ws := ws) (ks := ks) hp.1 (fun i hin => (h1.1 i hin).2.2.2) h1.2 (pN1 R C TB OB LB ks)
  refine ⟨?_, ?_⟩
  · rw [r_now h hp.1, now_eq hp h1]
  · rw [r_strainOf h hp.1 (pN1_31 hp), e1]
end REF
section ROWS
variable {L : Nat} {xs : Nat → Int32}
set_option maxHeartbeats 1000000 in
theorem R4 : lw_R4 L xs Inv := by
  intro a G hG
  refine inv_elim hG ?_
  intro R C rim fi se lo hi TB OB LB ks ws stale lw SZ HD HP sts nx sz kq hT hO hL hK hW sq sv rv le nu di ch tr su U tu tl ki go wa ol hs so sr rs ce cp fa pa hpl hpv hld hhs hsp htp hpr hrm hr1 hr2 hr3 hr4
  have hb1 := sh_b hpv.1
  have hU : U ≤ 20 := by rw [hr3.1]; exact hhs.2.2.2.2.2
  rcases ix_of a (N := nN R C) (by omega) with hb | ⟨i, hin, rfl⟩
  · refine rd hG (v := -1000000) ?_ ?_
    · simp only [e_65, tp_f htp, c_isNoNeedle htp hpl, no_no hb, Option.bind_some, Option.toList_some, Option.toList_none, List.cons_append, List.nil_append, List.append_nil, List.length_cons, List.length_nil, true_or, or_true, eq_self, b01_0, b01_1, b01_2, b01_3, b01_4, Nat.zero_le, Nat.reduceAdd, Nat.reduceLeDiff, ↓reduceIte, not_true_eq_false, not_false_eq_true, Bool.false_eq_true]
    · simp only [e_137, rm_f hrm, rm_t hrm, r_isNeedle hrm, ix_no hb1.1 (by omega) hb, Option.bind_some, Option.toList_some, Option.toList_none, List.cons_append, List.nil_append, List.append_nil, List.length_cons, List.length_nil, true_or, or_true, eq_self, b01_0, b01_1, b01_2, b01_3, b01_4, Nat.zero_le, Nat.reduceAdd, Nat.reduceLeDiff, ↓reduceIte, not_true_eq_false, not_false_eq_true, Bool.false_eq_true]
  have h12 : i < 12 := by omega
  have hno := no_yes hin (N := nN R C) (by omega)
  have hyes := ix_yes hin (N := nN R C) (by omega)
  obtain ⟨G1, q1, q2, q4⟩ := c_keep (X := mc_X0 L xs) hhs hpl
  have p1 := pl_ag hpl (G' := G1) (fun k a b => q2 k (by omega))
  have t1 := tp_ag htp (q2 0 (by omega))
  have l1 := ld_ag hld (G' := G1) (fun k a b => q2 k (by omega))
  have hrm2 := rm_ag hrm (G' := G1.set 7 (sc (fl (nN R C) TB i) OB LB 8 9)) (fun k a b => (gs_ne (by omega)).trans (q2 k (by omega)))
  obtain ⟨G3, f, k1, k2, k3, k4, k5, k6⟩ := r_keeps (X := mc_X0 L xs) hrm2 hU
  have k3' := rm_s91 k3 (upd tu i (1 - tu i))
  have hpv2 := pv_T hpv (fl_lt hin hpv.2.1)
  have hr1' := rel1_turn hpv.1 hr1 hin
  refine ⟨mrI R C TB OB LB ks ws i, G1.set 7 (sc (fl (nN R C) TB i) OB LB 8 9), G3.set 91 (.inl (0, 12, upd tu i (1 - tu i))), ?_, (rm_f hrm2).1, ?_, ?_⟩
  · simp only [e_65, tp_f htp, c_isNoNeedle htp hpl, hno, pl_f hpl, hy_f hhs, q1, tp_f t1, pl_f p1, c_moreByTurning p1 hpv hin, c_turnOver p1 hpv.1 hin, Option.bind_some, Option.toList_some, Option.toList_none, List.cons_append, List.nil_append, List.append_nil, List.length_cons, List.length_nil, true_or, or_true, eq_self, b01_0, b01_1, b01_2, b01_3, b01_4, Nat.zero_le, Nat.reduceAdd, Nat.reduceLeDiff, ↓reduceIte, not_true_eq_false, not_false_eq_true, Bool.false_eq_true]
  · have ee : ∀ x y : Int32, x + y - x = y := fun x y => by grind
    simp only [e_137, rm_f hrm2, rm_t hrm2, r_isNeedle hrm2, hyes, k1, rm_f k3, r_nowS k3 hpv hr1, rm_a (X := mc_X0 L xs) k3, h12, rm_w91a k3 h12, rm_f k3', r_nowS k3' hpv2 hr1', turn_more hpv hin, ee, Option.bind_some, Option.toList_some, Option.toList_none, List.cons_append, List.nil_append, List.append_nil, List.length_cons, List.length_nil, true_or, or_true, eq_self, b01_0, b01_1, b01_2, b01_3, b01_4, Nat.zero_le, Nat.reduceAdd, Nat.reduceLeDiff, ↓reduceIte, not_true_eq_false, not_false_eq_true, Bool.false_eq_true]
  · exact inv_kr (pl_s7 p1 _ OB LB) hpv2 l1 q4 hsp htp hpr (fun j hj => q2 j (by omega)) (fun j a b c => gs_ne (by omega)) k3' (fun k a => (gs_ne (by omega)).trans (k2 k (by omega) (by omega))) hr1' hr2 (rel3_keep hpv hr1 hr3 hhs.2.2.2.2.1 hhs.2.2.2.2.2 k4 k5 k6) hr4
end ROWS
theorem ng_b {x : Int32} (h : -1000 ≤ x ∧ x ≤ 1000) : -1000 ≤ -x ∧ -x ≤ 1000 := by
  have a1 : -1000 ≤ x.toInt := Int32.le_iff_toInt_le.mp h.1
  have a2 : x.toInt ≤ 1000 := Int32.le_iff_toInt_le.mp h.2
  have e := neg_sm (a := x) (by omega) (by omega)
  constructor
  · apply Int32.le_iff_toInt_le.mpr
    rw [e]
    show (-1000 : Int) ≤ -x.toInt
    omega
  · apply Int32.le_iff_toInt_le.mpr
    rw [e]
    show -x.toInt ≤ (1000 : Int)
    omega
section PL
variable {L : Nat} {xs : Nat → Int32} {G : mc_H} {R C rim TB OB LB : Nat} {fi se lo hi ks ws : Nat → Int32}
theorem c_negate (h : pl G R C rim fi se lo hi TB OB LB ks ws) (hp : pv R C rim fi se lo hi TB OB LB ks ws) {n : Nat} (hn : n < nN R C) : ∃ f : Nat → Int32, mc_ev (mc_X0 L xs) 43 0 [.ref 1, .int (nI n), .null] [] G = some (none, G.set 9 (.inl (0, 17, f))) ∧ pv R C rim fi se lo hi TB OB LB ks f ∧ ∀ j, j < nJ R C → f j = if toB R C j n then -(ws j) else ws j := by
  have hb1 := sh_b hp.1
  have h0 : mc_ev (mc_X0 L xs) 43 0 [.ref 1, .int (nI n), .null] [] G = mc_ev (mc_X0 L xs) 43 2 [.ref 1, .int (nI n), .int 0] [] G := by
    simp only [e_43, Option.bind_some, Option.toList_some, Option.toList_none, List.cons_append, List.nil_append, List.append_nil, List.length_cons, List.length_nil, true_or, or_true, eq_self, b01_0, b01_1, b01_2, b01_3, b01_4, Nat.zero_le, Nat.reduceAdd, Nat.reduceLeDiff, ↓reduceIte, not_true_eq_false, not_false_eq_true, Bool.false_eq_true]
  obtain ⟨ls, G', ⟨hls, f, hG', hf0, hf1, hf2⟩, hev⟩ := ev_inv (X := mc_X0 L xs) (k := 43) (pc := 2) (fun t ls G' => ls = [.ref 1, .int (nI n), .int (nI t)] ∧ ∃ f : Nat → Int32, G' = G.set 9 (.inl (0, 17, f)) ∧ pv R C rim fi se lo hi TB OB LB ks f ∧ (∀ j, j < t → f j = if toB R C j n then -(ws j) else ws j) ∧ ∀ j, t ≤ j → f j = ws j) (nJ R C) (by
    intro t ht ls G' ⟨hls, f, hG', hf0, hf1, hf2⟩
    subst hls
    subst hG'
    have k1 : nI t < nI (nJ R C) := nI_lt ht (by omega)
    have h17 : t < 17 := by omega
    have p1 := pl_s9 h f
    have w := pl_w9 p1 h17 (-(f t))
    rw [List.set_set] at w
    by_cases c : toB R C t n = true
    · refine ⟨[.ref 1, .int (nI n), .int (nI (t + 1))], G.set 9 (.inl (0, 17, upd f t (-(f t)))), ⟨rfl, _, rfl, ?_, ?_, ?_⟩, ?_⟩
      · obtain ⟨y1, y2, y3, y4, y5, y6, y7, y8, y9, y10⟩ := hf0
        refine ⟨y1, y2, y3, y4, y5, y6, fun k hk => ?_, y8, y9, y10⟩
        by_cases c : k = t
        · subst c; rw [pk_us]; exact ng_b (y7 k hk)
        · rw [pk_un c]; exact y7 k hk
      · intro j hj
        by_cases c2 : j = t
        · subst c2; rw [pk_us, if_pos c, hf2 j (Nat.le_refl _)]
        · rw [pk_un c2]; exact hf1 j (by omega)
      · intro j hj
        rw [pk_un (by omega)]; exact hf2 j (by omega)
      · rw [h_43_2]
        simp only [e_43, pl_f p1, k1, c_touches p1 hf0 ht (n := n) (by omega), c, pl_g p1, h17, w, nI_1, Option.bind_some, Option.toList_some, Option.toList_none, List.cons_append, List.nil_append, List.append_nil, List.length_cons, List.length_nil, true_or, or_true, eq_self, b01_0, b01_1, b01_2, b01_3, b01_4, Nat.zero_le, Nat.reduceAdd, Nat.reduceLeDiff, ↓reduceIte, not_true_eq_false, not_false_eq_true, Bool.false_eq_true]
    · refine ⟨[.ref 1, .int (nI n), .int (nI (t + 1))], G.set 9 (.inl (0, 17, f)), ⟨rfl, _, rfl, hf0, ?_, ?_⟩, ?_⟩
      · intro j hj
        by_cases c2 : j = t
        · subst c2; rw [if_neg c]; exact hf2 j (Nat.le_refl _)
        · exact hf1 j (by omega)
      · intro j hj
        exact hf2 j (by omega)
      · rw [h_43_2]
        simp only [e_43, pl_f p1, k1, c_touches p1 hf0 ht (n := n) (by omega), c, nI_1, Option.bind_some, Option.toList_some, Option.toList_none, List.cons_append, List.nil_append, List.append_nil, List.length_cons, List.length_nil, true_or, or_true, eq_self, b01_0, b01_1, b01_2, b01_3, b01_4, Nat.zero_le, Nat.reduceAdd, Nat.reduceLeDiff, ↓reduceIte, not_true_eq_false, not_false_eq_true, Bool.false_eq_true]) [.ref 1, .int (nI n), .int 0] G ⟨rfl, ws, (set_same h.2.2.2.2.2.2.2.2).symm, hp, fun j hj => absurd hj (by omega), fun j _ => rfl⟩
  subst hls
  subst hG'
  refine ⟨f, ?_, hf0, hf1⟩
  have k2 : ¬ nI (nJ R C) < nI (nJ R C) := nI_nlt (Nat.le_refl _) (by omega)
  rw [h0, hev, h_43_2]
  simp only [e_43, pl_f (pl_s9 h f), k2, Option.bind_some, Option.toList_some, Option.toList_none, List.cons_append, List.nil_append, List.append_nil, List.length_cons, List.length_nil, true_or, or_true, eq_self, b01_0, b01_1, b01_2, b01_3, b01_4, Nat.zero_le, Nat.reduceAdd, Nat.reduceLeDiff, ↓reduceIte, not_true_eq_false, not_false_eq_true, Bool.false_eq_true]
end PL
section REF
variable {X : mc_X} {G : mc_H} {su : Int32} {tr : Int64} {R C U : Nat} {tu tl ki go wa ol hs so sr rs ce cp fa pa : Nat → Int32}
theorem r_gaugeL (h : rm G su tr R C U tu tl ki go wa ol hs so sr rs ce cp fa pa) (hs : sh R C) {n : Nat} (hn : n < nN R C) (v : Value) : ∃ f : Nat → Int32, mc_ev X 138 45 [.ref 90, .int (nI n), v, .int 0] [] G = mc_ev X 138 101 [.ref 90, .int (nI n), v, .int (nI (nJ R C))] [] (G.set 95 (.inl (0, 24, f))) ∧ ∀ j, j < nJ R C → f j = if toB R C j n then -(wa j) else wa j := by
  have hb1 := sh_b hs
  obtain ⟨ls, G', ⟨hls, f, hG', hf1, hf2⟩, hev⟩ := ev_inv (X := X) (k := 138) (pc := 45) (fun t ls G' => ls = [.ref 90, .int (nI n), v, .int (nI t)] ∧ ∃ f : Nat → Int32, G' = G.set 95 (.inl (0, 24, f)) ∧ (∀ j, j < t → f j = if toB R C j n then -(wa j) else wa j) ∧ ∀ j, t ≤ j → f j = wa j) (nJ R C) (by
    intro t ht ls G' ⟨hls, f, hG', hf1, hf2⟩
    subst hls
    subst hG'
    have k1 : nI t < nI (nJ R C) := nI_lt ht (by omega)
    have h24 : t < 24 := by omega
    have hf := fs_b hs ht
    have p1 := rm_s95 h f
    have w := fun x => rm_w95s h f h24 x
    have z1 : (nI (fs R C t) = nI n) = (fs R C t = n) := propext (nI_eq (by omega) (by omega))
    have z2 : (nI (sn R C t) = nI n) = (sn R C t = n) := propext (nI_eq (by omega) (by omega))
    refine ⟨[.ref 90, .int (nI n), v, .int (nI (t + 1))], G.set 95 (.inl (0, 24, upd f t (if toB R C t n then -(f t) else f t))), ⟨rfl, _, rfl, ?_, ?_⟩, ?_⟩
    · intro j hj
      by_cases c2 : j = t
      · subst c2; rw [pk_us, hf2 j (Nat.le_refl _)]
      · rw [pk_un c2]; exact hf1 j (by omega)
    · intro j hj
      rw [pk_un (by omega)]; exact hf2 j (by omega)
    · rw [h_138_45]
      unfold toB
      by_cases c1 : fs R C t = n
      · simp only [e_138, rm_f p1, r_joints p1 hs, k1, r_end p1 hs ht, z1, c1, rm_a (X := X) p1, h24, w, nI_1, Option.bind_some, Option.toList_some, Option.toList_none, List.cons_append, List.nil_append, List.append_nil, List.length_cons, List.length_nil, true_or, or_true, eq_self, b01_0, b01_1, b01_2, b01_3, b01_4, Nat.zero_le, Nat.reduceAdd, Nat.reduceLeDiff, ↓reduceIte, not_true_eq_false, not_false_eq_true, Bool.false_eq_true, decide_true]
      · by_cases c2 : sn R C t = n
        · simp only [e_138, rm_f p1, r_joints p1 hs, k1, r_end p1 hs ht, z1, z2, c1, c2, rm_a (X := X) p1, h24, w, nI_1, Option.bind_some, Option.toList_some, Option.toList_none, List.cons_append, List.nil_append, List.append_nil, List.length_cons, List.length_nil, true_or, or_true, eq_self, b01_0, b01_1, b01_2, b01_3, b01_4, Nat.zero_le, Nat.reduceAdd, Nat.reduceLeDiff, ↓reduceIte, not_true_eq_false, not_false_eq_true, Bool.false_eq_true, decide_true]
        · simp only [e_138, rm_f p1, r_joints p1 hs, k1, r_end p1 hs ht, z1, z2, c1, c2, rm_a (X := X) p1, h24, w, nI_1, Option.bind_some, Option.toList_some, Option.toList_none, List.cons_append, List.nil_append, List.append_nil, List.length_cons, List.length_nil, true_or, or_true, eq_self, b01_0, b01_1, b01_2, b01_3, b01_4, Nat.zero_le, Nat.reduceAdd, Nat.reduceLeDiff, ↓reduceIte, not_true_eq_false, not_false_eq_true, Bool.false_eq_true, or_self, decide_false]) [.ref 90, .int (nI n), v, .int 0] G ⟨rfl, wa, (set_same h.2.2.2.2.2.1).symm, fun j hj => absurd hj (by omega), fun j _ => rfl⟩
  subst hls
  subst hG'
  refine ⟨f, ?_, hf1⟩
  have k2 : ¬ nI (nJ R C) < nI (nJ R C) := nI_nlt (Nat.le_refl _) (by omega)
  have p1 := rm_s95 h f
  rw [hev, h_138_45]
  simp only [e_138, rm_f p1, r_joints p1 hs, k2, Option.bind_some, Option.toList_some, Option.toList_none, List.cons_append, List.nil_append, List.append_nil, List.length_cons, List.length_nil, true_or, or_true, eq_self, b01_0, b01_1, b01_2, b01_3, b01_4, Nat.zero_le, Nat.reduceAdd, Nat.reduceLeDiff, ↓reduceIte, not_true_eq_false, not_false_eq_true, Bool.false_eq_true]
/-- turns as arrangement A has them, but for those that are held -/
def arF (N A : Nat) (tu ki go : Nat → Int32) (n j : Nat) : Int32 := if j < n then (if hb ki go j then tu j else nI (bt N A j)) else tu j
theorem r_arrangeL (h : rm G su tr R C U tu tl ki go wa ol hs so sr rs ce cp fa pa) (hs : sh R C) {A : Nat} (hA : A < 2 ^ 31) : mc_ev X 140 27 [.ref 90, .int (nI A), .int 0] [] G = mc_ev X 140 73 [.ref 90, .int (nI A), .int (nI (nN R C))] [] (G.set 91 (.inl (0, 12, arF (nN R C) A tu ki go (nN R C)))) := by
  have hb1 := sh_b hs
  have hl := ev_loop (X := X) (k := 140) (pc := 27) (fun i => [.ref 90, .int (nI A), .int (nI i)]) (fun i => G.set 91 (.inl (0, 12, arF (nN R C) A tu ki go i))) (nN R C) (by
    intro i hin
    have h1 : nI i < nI (nN R C) := nI_lt hin (by omega)
    have h12 : i < 12 := by omega
    have p1 := rm_s91 h (arF (nN R C) A tu ki go i)
    have w := fun x => rm_w91s h (arF (nN R C) A tu ki go i) h12 x
    have e0 : arF (nN R C) A tu ki go i i = tu i := if_neg (by omega)
    have e1 : upd (arF (nN R C) A tu ki go i) i (if hb ki go i then tu i else nI (bt (nN R C) A i)) = arF (nN R C) A tu ki go (i + 1) := by
      funext j
      by_cases c : j = i
      · subst c; rw [pk_us]; unfold arF; rw [if_pos (show j < j + 1 by omega)]
      · rw [pk_un c]; unfold arF
        by_cases c2 : j < i
        · rw [if_pos c2, if_pos (show j < i + 1 by omega)]
        · rw [if_neg c2, if_neg (show ¬ j < i + 1 by omega)]
    rw [h_140_27]
    simp only [e_140, rm_f p1, r_needles p1, h1, r_isHeld p1 h12, Option.bind_some, Option.toList_some, Option.toList_none, List.cons_append, List.nil_append, List.append_nil, List.length_cons, List.length_nil, true_or, or_true, eq_self, b01_0, b01_1, b01_2, b01_3, b01_4, Nat.zero_le, Nat.reduceAdd, Nat.reduceLeDiff, ↓reduceIte, not_true_eq_false, not_false_eq_true, Bool.false_eq_true]
    rw [← e1]
    cases hb ki go i <;> simp only [e_140, rm_f p1, r_needles p1, r_bitOf hA hb1.2.1 hin, rm_a (X := X) p1, h12, e0, w, nI_1, Option.bind_some, Option.toList_some, Option.toList_none, List.cons_append, List.nil_append, List.append_nil, List.length_cons, List.length_nil, true_or, or_true, eq_self, b01_0, b01_1, b01_2, b01_3, b01_4, Nat.zero_le, Nat.reduceAdd, Nat.reduceLeDiff, ↓reduceIte, not_true_eq_false, not_false_eq_true, Bool.false_eq_true])
  have k2 : ¬ nI (nN R C) < nI (nN R C) := nI_nlt (Nat.le_refl _) (by omega)
  have p1 := rm_s91 h (arF (nN R C) A tu ki go (nN R C))
  have e0 : G.set 91 (.inl (0, 12, arF (nN R C) A tu ki go 0)) = G := by
    have : arF (nN R C) A tu ki go 0 = tu := by funext j; exact if_neg (by omega)
    rw [this]; exact set_same h.2.1
  have hl2 : mc_ev X 140 27 [.ref 90, .int (nI A), .int (nI 0)] [] (G.set 91 (.inl (0, 12, arF (nN R C) A tu ki go 0))) = _ := hl
  rw [e0] at hl2
  refine Eq.trans hl2 ?_
  rw [h_140_27]
  simp only [e_140, rm_f p1, r_needles p1, k2, Option.bind_some, Option.toList_some, Option.toList_none, List.cons_append, List.nil_append, List.append_nil, List.length_cons, List.length_nil, true_or, or_true, eq_self, b01_0, b01_1, b01_2, b01_3, b01_4, Nat.zero_le, Nat.reduceAdd, Nat.reduceLeDiff, ↓reduceIte, not_true_eq_false, not_false_eq_true, Bool.false_eq_true]
end REF
section ROWS
variable {L : Nat} {xs : Nat → Int32}
set_option maxHeartbeats 1000000 in
theorem R5 : lw_R5 L xs Inv := by
  intro a G hG
  refine inv_elim hG ?_
  intro R C rim fi se lo hi TB OB LB ks ws stale lw SZ HD HP sts nx sz kq hT hO hL hK hW sq sv rv le nu di ch tr su U tu tl ki go wa ol hs so sr rs ce cp fa pa hpl hpv hld hhs hsp htp hpr hrm hr1 hr2 hr3 hr4
  have hb1 := sh_b hpv.1
  have hU : U ≤ 20 := by rw [hr3.1]; exact hhs.2.2.2.2.2
  rcases ix_of a (N := nN R C) (by omega) with hb | ⟨i, hin, rfl⟩
  · refine rd hG (v := -1000000) ?_ ?_
    · simp only [e_66, tp_f htp, c_isNoNeedle htp hpl, no_no hb, Option.bind_some, Option.toList_some, Option.toList_none, List.cons_append, List.nil_append, List.append_nil, List.length_cons, List.length_nil, true_or, or_true, eq_self, b01_0, b01_1, b01_2, b01_3, b01_4, Nat.zero_le, Nat.reduceAdd, Nat.reduceLeDiff, ↓reduceIte, not_true_eq_false, not_false_eq_true, Bool.false_eq_true]
    · simp only [e_138, rm_f hrm, rm_t hrm, r_isNeedle hrm, ix_no hb1.1 (by omega) hb, Option.bind_some, Option.toList_some, Option.toList_none, List.cons_append, List.nil_append, List.append_nil, List.length_cons, List.length_nil, true_or, or_true, eq_self, b01_0, b01_1, b01_2, b01_3, b01_4, Nat.zero_le, Nat.reduceAdd, Nat.reduceLeDiff, ↓reduceIte, not_true_eq_false, not_false_eq_true, Bool.false_eq_true]
  have h12 : i < 12 := by omega
  have hno := no_yes hin (N := nN R C) (by omega)
  have hyes := ix_yes hin (N := nN R C) (by omega)
  obtain ⟨G1, q1, q2, q3, q4⟩ := c_keepAndReshape (X := mc_X0 L xs) htp hld hhs hpl
  have p1 := pl_ag hpl (G' := G1) (fun k a b => q2 k (by omega))
  have t1 := tp_ag htp (q2 0 (by omega))
  have p2 := pl_s7 p1 (fl (nN R C) TB i) OB LB
  have t2 : tp (G1.set 7 (sc (fl (nN R C) TB i) OB LB 8 9)) tr su := tp_ag t1 (gs_ne (by decide))
  have hpv2 := pv_T hpv (fl_lt hin hpv.2.1)
  obtain ⟨f, n1, n2, n3⟩ := c_negate (L := L) (xs := xs) p2 hpv2 hin
  have p3 := pl_s9 p2 f
  have t3 : tp ((G1.set 7 (sc (fl (nN R C) TB i) OB LB 8 9)).set 9 (.inl (0, 17, f))) tr su := tp_ag t2 (gs_ne (by decide))
  have hrm2 := rm_ag hrm (G' := (G1.set 7 (sc (fl (nN R C) TB i) OB LB 8 9)).set 9 (.inl (0, 17, f))) (fun k a b => (gs_ne (by omega)).trans ((gs_ne (by omega)).trans (q2 k (by omega))))
  obtain ⟨G3, f', k1, k2, k3, k4, k5, k6⟩ := r_keeps (X := mc_X0 L xs) hrm2 hU
  have k3' := rm_s91 k3 (upd tu i (1 - tu i))
  obtain ⟨f2, m1, m2⟩ := r_gaugeL (X := mc_X0 L xs) k3' hpv.1 hin (.int (stA R C ws ks (pN1 R C TB OB LB ks)))
  have k4' := rm_s95 k3' f2
  have hr1' : rel1 R C (fl (nN R C) TB i) OB LB ks f (upd tu i (1 - tu i)) tl ki go f2 := ⟨(rel1_turn hpv.1 hr1 hin).1, fun j hj => by rw [m2 j hj, n3 j hj, hr1.2 j hj]⟩
  refine ⟨stA R C f ks (pN1 R C (fl (nN R C) TB i) OB LB ks) - stA R C ws ks (pN1 R C TB OB LB ks), (G1.set 7 (sc (fl (nN R C) TB i) OB LB 8 9)).set 9 (.inl (0, 17, f)), (G3.set 91 (.inl (0, 12, upd tu i (1 - tu i)))).set 95 (.inl (0, 24, f2)), ?_, (rm_f hrm2).1, ?_, ?_⟩
  · simp only [e_66, tp_f htp, c_isNoNeedle htp hpl, hno, q1, tp_f t1, pl_f p1, c_strainNow p1 hpv, c_turnOver p1 hpv.1 hin, tp_f t2, pl_f p2, n1, tp_f t3, pl_f p3, c_strainNow p3 n2, Option.bind_some, Option.toList_some, Option.toList_none, List.cons_append, List.nil_append, List.append_nil, List.length_cons, List.length_nil, true_or, or_true, eq_self, b01_0, b01_1, b01_2, b01_3, b01_4, Nat.zero_le, Nat.reduceAdd, Nat.reduceLeDiff, ↓reduceIte, not_true_eq_false, not_false_eq_true, Bool.false_eq_true]
  · simp only [e_138, rm_f hrm2, rm_t hrm2, r_isNeedle hrm2, hyes, k1, rm_f k3, r_nowS k3 hpv hr1, rm_a (X := mc_X0 L xs) k3, h12, rm_w91a k3 h12, m1, rm_f k4', r_nowS k4' n2 hr1', Option.bind_some, Option.toList_some, Option.toList_none, List.cons_append, List.nil_append, List.append_nil, List.length_cons, List.length_nil, true_or, or_true, eq_self, b01_0, b01_1, b01_2, b01_3, b01_4, Nat.zero_le, Nat.reduceAdd, Nat.reduceLeDiff, ↓reduceIte, not_true_eq_false, not_false_eq_true, Bool.false_eq_true]
  · exact inv_kr p3 n2 q3 q4 hsp htp hpr q2 (fun j a b c => (gs_ne (by omega)).trans (gs_ne (by omega))) k4' (fun k a => (gs_ne (by omega)).trans ((gs_ne (by omega)).trans (k2 k (by omega) (by omega)))) hr1' ⟨Or.inl rfl, hr2.2⟩ (rel3_keep hpv hr1 hr3 hhs.2.2.2.2.1 hhs.2.2.2.2.2 k4 k5 k6) hr4
set_option maxHeartbeats 1000000 in
theorem R7 : lw_R7 L xs Inv := by
  intro a G hG
  refine inv_elim hG ?_
  intro R C rim fi se lo hi TB OB LB ks ws stale lw SZ HD HP sts nx sz kq hT hO hL hK hW sq sv rv le nu di ch tr su U tu tl ki go wa ol hs so sr rs ce cp fa pa hpl hpv hld hhs hsp htp hpr hrm hr1 hr2 hr3 hr4
  have hb1 := sh_b hpv.1
  have hp2 := pN hpv.1
  have hU : U ≤ 20 := by rw [hr3.1]; exact hhs.2.2.2.2.2
  rcases ix_of a (N := 2 ^ nN R C) (by omega) with hb | ⟨A, hA, rfl⟩
  · refine rd hG (v := -1) ?_ ?_
    · simp only [e_68, tp_f htp, c_isNoArrangement htp hpl hpv.1, no_no hb, Option.bind_some, Option.toList_some, Option.toList_none, List.cons_append, List.nil_append, List.append_nil, List.length_cons, List.length_nil, true_or, or_true, eq_self, b01_0, b01_1, b01_2, b01_3, b01_4, Nat.zero_le, Nat.reduceAdd, Nat.reduceLeDiff, ↓reduceIte, not_true_eq_false, not_false_eq_true, Bool.false_eq_true]
    · simp only [e_140, rm_f hrm, rm_t hrm, r_all hrm hpv.1, r_in, ix_no (Nat.one_le_two_pow) (by omega) hb, Option.bind_some, Option.toList_some, Option.toList_none, List.cons_append, List.nil_append, List.append_nil, List.length_cons, List.length_nil, true_or, or_true, eq_self, b01_0, b01_1, b01_2, b01_3, b01_4, Nat.zero_le, Nat.reduceAdd, Nat.reduceLeDiff, ↓reduceIte, not_true_eq_false, not_false_eq_true, Bool.false_eq_true]
  obtain ⟨G1, q1, q2, q4⟩ := c_keep (X := mc_X0 L xs) hhs hpl
  have p1 := pl_ag hpl (G' := G1) (fun k a b => q2 k (by omega))
  have t1 := tp_ag htp (q2 0 (by omega))
  have l1 := ld_ag hld (G' := G1) (fun k a b => q2 k (by omega))
  have hT : mx A TB (hH R C LB ks) < 2 ^ nN R C := mx_lt hA hpv.2.1
  have p2 := pl_s7 p1 (mx A TB (hH R C LB ks)) OB LB
  have t2 : tp (G1.set 7 (sc (mx A TB (hH R C LB ks)) OB LB 8 9)) tr su := tp_ag t1 (gs_ne (by decide))
  have hpv2 := pv_T hpv hT
  have hrm2 := rm_ag hrm (G' := G1.set 7 (sc (mx A TB (hH R C LB ks)) OB LB 8 9)) (fun k a b => (gs_ne (by omega)).trans (q2 k (by omega)))
  obtain ⟨G3, f, k1, k2, k3, k4, k5, k6⟩ := r_keeps (X := mc_X0 L xs) hrm2 hU
  have m1 := r_arrangeL (X := mc_X0 L xs) k3 hpv.1 (A := A) (by omega)
  have k3' := rm_s91 k3 (arF (nN R C) A tu ki go (nN R C))
  have hr1' : rel1 R C (mx A TB (hH R C LB ks)) OB LB ks ws (arF (nN R C) A tu ki go (nN R C)) tl ki go wa := by
    refine ⟨fun k hk => ?_, hr1.2⟩
    obtain ⟨e1, e2, e3, e4⟩ := hr1.1 k hk
    refine ⟨?_, e2, e3, e4⟩
    have e5 : hb ki go k = hb ks (gB (nN R C) LB) k := hb_cg e4 e3
    unfold arF
    rw [if_pos hk, e5, e1]
    unfold gB
    rw [mx_bt hb1.2.1 hk, hH_bt hpv.1 hk]
    show _ = nI (if (hb ks (gB (nN R C) LB) k).toNat = 1 then bt (nN R C) TB k else bt (nN R C) A k)
    show (if hb ks (gB (nN R C) LB) k = true then _ else _) = _
    cases hb ks (gB (nN R C) LB) k <;> rfl
  refine ⟨stA R C ws ks (pN1 R C (mx A TB (hH R C LB ks)) OB LB ks), G1.set 7 (sc (mx A TB (hH R C LB ks)) OB LB 8 9), G3.set 91 (.inl (0, 12, arF (nN R C) A tu ki go (nN R C))), ?_, (rm_f hrm2).1, ?_, ?_⟩
  · have w := pl_wT p1 (mx A TB (hH R C LB ks))
    have em : (TB &&& hH R C LB ks) ||| (A &&& cpl (hH R C LB ks)) = mx A TB (hH R C LB ks) := Nat.or_comm _ _
    simp only [e_68, tp_f htp, c_isNoArrangement htp hpl hpv.1, no_yes hA (by omega), pl_f hpl, hy_f hhs, q1, tp_f t1, pl_f p1, c_heldBits p1 hpv, nx_cpl, nx_and, nx_or, em, w, tp_f t2, pl_f p2, c_strainNow p2 hpv2, Option.bind_some, Option.toList_some, Option.toList_none, List.cons_append, List.nil_append, List.append_nil, List.length_cons, List.length_nil, true_or, or_true, eq_self, b01_0, b01_1, b01_2, b01_3, b01_4, Nat.zero_le, Nat.reduceAdd, Nat.reduceLeDiff, ↓reduceIte, not_true_eq_false, not_false_eq_true, Bool.false_eq_true]
  · simp only [e_140, rm_f hrm2, rm_t hrm2, r_all hrm2 hpv.1, r_in, ix_yes hA (by omega), k1, m1, rm_f k3', r_nowS k3' hpv2 hr1', Option.bind_some, Option.toList_some, Option.toList_none, List.cons_append, List.nil_append, List.append_nil, List.length_cons, List.length_nil, true_or, or_true, eq_self, b01_0, b01_1, b01_2, b01_3, b01_4, Nat.zero_le, Nat.reduceAdd, Nat.reduceLeDiff, ↓reduceIte, not_true_eq_false, not_false_eq_true, Bool.false_eq_true]
  · exact inv_kr p2 hpv2 l1 q4 hsp htp hpr (fun j hj => q2 j (by omega)) (fun j a b c => gs_ne (by omega)) k3' (fun k a => (gs_ne (by omega)).trans (k2 k (by omega) (by omega))) hr1' hr2 (rel3_keep hpv hr1 hr3 hhs.2.2.2.2.1 hhs.2.2.2.2.2 k4 k5 k6) hr4
end ROWS
