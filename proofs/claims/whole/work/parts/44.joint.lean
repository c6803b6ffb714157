/-! rows: joint -/
section RS
variable {R C TB OB LB rim : Nat} {ks ws tu tl ki go wa fi se lo hi : Nat → Int32}
theorem pt_eq (hp : pv R C rim fi se lo hi TB OB LB ks ws) (h1 : rel1 R C TB OB LB ks ws tu tl ki go wa) {i : Nat} (hi : i < nN R C) : (if hb ki go i then tl i else tu i) = nI (bt (nN R C) (pN1 R C TB OB LB ks) i) := by
  obtain ⟨e1, e2, e3, e4⟩ := h1.1 i hi
  unfold pN1
  rw [mx_bt (sh_b hp.1).2.1 hi, hH_bt hp.1 hi, hb_cg e4 e3, e1, e2]
  cases hb ks (gB (nN R C) LB) i <;> simp [gB]
end RS
theorem mn_n {a b : Nat} (ha : a < 2 ^ 31) (hb : b < 2 ^ 31) : (if nI a < nI b then nI a else nI b) = nI (min a b) := by
  by_cases h : a < b
  · rw [if_pos (nI_lt h hb), Nat.min_eq_left (by omega)]
  · rw [if_neg (nI_nlt (by omega) ha), Nat.min_eq_right (by omega)]
theorem mx_n {a b : Nat} (ha : a < 2 ^ 31) (hb : b < 2 ^ 31) : (if nI a < nI b then nI b else nI a) = nI (max a b) := by
  by_cases h : a < b
  · rw [if_pos (nI_lt h hb), Nat.max_eq_right (by omega)]
  · rw [if_neg (nI_nlt (by omega) ha), Nat.max_eq_left (by omega)]
theorem am_n (c : Int32) : (if c < 0 then -c else c) = am c := by
  unfold am
  by_cases h : c < 0
  · rw [if_pos h, if_neg (Int32.not_le.mpr h), Int32.zero_sub]
  · rw [if_neg h, if_pos (Int32.not_lt.mp h)]
theorem out_w {w : Int32} {N : Nat} (h1 : 1 ≤ N) (hN : N < 2 ^ 31) (hw : w < 0 ∨ nI N ≤ w) : w.toInt < 0 ∨ (N : Int) - 1 < w.toInt := by
  rcases hw with hw | hw
  · left; simpa using Int32.lt_iff_toInt_lt.mp hw
  · right; have := Int32.le_iff_toInt_le.mp hw; rw [nI_toInt hN] at this; omega
section REF
variable {X : mc_X} {G : mc_H} {su : Int32} {tr : Int64} {R C U : Nat} {tu tl ki go wa ol hs so sr rs ce cp fa pa : Nat → Int32}
theorem r_jointP (h : rm G su tr R C U tu tl ki go wa ol hs so sr rs ce cp fa pa) (hs : sh R C) {j k : Nat} (hj : j < nJ R C) (hk : k < 7) : mc_ev X 146 0 [.ref 90, .int (nI j), .int (nI k), .null, .null, .null, .null, .null, .null] [] G = mc_ev X 146 85 [.ref 90, .int (nI j), .int (nI k), .int (nI (fs R C j)), .int (nI (sn R C j)), .int (nI (s1 R C j)), .int (nI (s2 R C j)), .int (if (if hb ki go (fs R C j) then tl (fs R C j) else tu (fs R C j)) = (if hb ki go (sn R C j) then tl (sn R C j) else tu (sn R C j)) then 1 else 0), .int (ct R C wa ki j)] [.int (nI k)] G := by
  have hb1 := sh_b hs
  have hf := fs_b hs hj
  have e6 : (6 : Int32) = nI 7 - 1 := rfl
  simp only [e_146, rm_f h, rm_t h, r_isJoint h hs, ix_yes hj (N := nJ R C) (by omega), r_in, e6, ix_yes hk (N := 7) (by decide), r_end h hs hj, r_side h hs hj, r_pointOf h (i := fs R C j) (by omega), r_pointOf h (i := sn R C j) (by omega), r_countsOf h hs hj, Option.bind_some, Option.toList_some, Option.toList_none, List.cons_append, List.nil_append, List.append_nil, List.length_cons, List.length_nil, true_or, or_true, eq_self, b01_0, b01_1, b01_2, b01_3, b01_4, Nat.zero_le, Nat.reduceAdd, Nat.reduceLeDiff, ↓reduceIte, not_true_eq_false, not_false_eq_true, Bool.false_eq_true]
  by_cases c : (if hb ki go (fs R C j) then tl (fs R C j) else tu (fs R C j)) = (if hb ki go (sn R C j) then tl (sn R C j) else tu (sn R C j)) <;> simp only [c, Option.bind_some, Option.toList_some, Option.toList_none, List.cons_append, List.nil_append, List.append_nil, List.length_cons, List.length_nil, true_or, or_true, eq_self, b01_0, b01_1, b01_2, b01_3, b01_4, Nat.zero_le, Nat.reduceAdd, Nat.reduceLeDiff, ↓reduceIte, not_true_eq_false, not_false_eq_true, Bool.false_eq_true]
end REF
section ROWS
variable {L : Nat} {xs : Nat → Int32}
set_option maxHeartbeats 1000000 in
theorem R13 : lw_R13 L xs Inv := by
  intro a w G hG
  refine inv_elim hG ?_
  intro R C rim fi se lo hi TB OB LB ks ws stale lw SZ HD HP sts nx sz kq hT hO hL hK hW sq sv rv le nu di ch tr su U tu tl ki go wa ol hs so sr rs ce cp fa pa hpl hpv hld hhs hsp htp hpr hrm hr1 hr2 hr3 hr4
  have hb1 := sh_b hpv.1
  rcases Nat.eq_zero_or_pos (nJ R C) with hJ0 | hJ1
  · have na : nI (nJ R C) = 0 := by rw [hJ0]; rfl
    have cx : (a < 0 ∨ ¬ a < nI (nJ R C)) = True := eq_true (by rw [na]; by_cases q : a < 0; exact Or.inl q; exact Or.inr q)
    have cm : (0 ≤ a ∧ a ≤ nI (nJ R C) - 1) = False := eq_false (by
      rw [na]; rintro ⟨q1, q2⟩
      have := Int32.le_iff_toInt_le.mp q1
      have := Int32.le_iff_toInt_le.mp q2
      rw [show ((0 : Int32) - 1).toInt = -1 from rfl] at this
      rw [show (0 : Int32).toInt = 0 from rfl] at *
      omega)
    refine rd hG (v := -1) ?_ ?_
    · simp only [e_74, tp_f htp, c_isNoJoint htp hpl, cx, Option.bind_some, Option.toList_some, Option.toList_none, List.cons_append, List.nil_append, List.append_nil, List.length_cons, List.length_nil, true_or, or_true, eq_self, b01_0, b01_1, b01_2, b01_3, b01_4, Nat.zero_le, Nat.reduceAdd, Nat.reduceLeDiff, ↓reduceIte, not_true_eq_false, not_false_eq_true, Bool.false_eq_true]
    · simp only [e_146, rm_f hrm, rm_t hrm, r_isJoint hrm hpv.1, cm, Option.bind_some, Option.toList_some, Option.toList_none, List.cons_append, List.nil_append, List.append_nil, List.length_cons, List.length_nil, true_or, or_true, eq_self, b01_0, b01_1, b01_2, b01_3, b01_4, Nat.zero_le, Nat.reduceAdd, Nat.reduceLeDiff, ↓reduceIte, not_true_eq_false, not_false_eq_true, Bool.false_eq_true]
  rcases ix_of a (N := nJ R C) (by omega) with hb | ⟨j, hj, rfl⟩
  · refine rd hG (v := -1) ?_ ?_
    · simp only [e_74, tp_f htp, c_isNoJoint htp hpl, no_no hb, Option.bind_some, Option.toList_some, Option.toList_none, List.cons_append, List.nil_append, List.append_nil, List.length_cons, List.length_nil, true_or, or_true, eq_self, b01_0, b01_1, b01_2, b01_3, b01_4, Nat.zero_le, Nat.reduceAdd, Nat.reduceLeDiff, ↓reduceIte, not_true_eq_false, not_false_eq_true, Bool.false_eq_true]
    · simp only [e_146, rm_f hrm, rm_t hrm, r_isJoint hrm hpv.1, ix_no hJ1 (by omega) hb, Option.bind_some, Option.toList_some, Option.toList_none, List.cons_append, List.nil_append, List.append_nil, List.length_cons, List.length_nil, true_or, or_true, eq_self, b01_0, b01_1, b01_2, b01_3, b01_4, Nat.zero_le, Nat.reduceAdd, Nat.reduceLeDiff, ↓reduceIte, not_true_eq_false, not_false_eq_true, Bool.false_eq_true]
  · have hf := fs_b hpv.1 hj
    have h17 : j < 17 := by omega
    have h24 : j < 24 := by omega
    obtain ⟨hg1, hg2, hg3, hg4⟩ := hpv.2.2.2.2.1 j hj
    have hc := ct_cg (wa := wa) (ki := ki) (ws := ws) (ks := ks) hpv.1 (fun i hi => (hr1.1 i hi).2.2.2) hr1.2 hj
    have hno := no_yes hj (N := nJ R C) (by omega)
    rcases ix_of w (N := 7) (by decide) with hw | ⟨k, hk, rfl⟩
    · have ho : (w.toInt < 0 ∨ 6 < w.toInt) = True := eq_true (out_w (N := 7) (by decide) (by decide) hw)
      have e6 : (6 : Int32) = nI 7 - 1 := rfl
      refine rd hG (v := -1) ?_ ?_
      · simp only [e_74, tp_f htp, c_isNoJoint htp hpl, hno, ho, Option.bind_some, Option.toList_some, Option.toList_none, List.cons_append, List.nil_append, List.append_nil, List.length_cons, List.length_nil, true_or, or_true, eq_self, b01_0, b01_1, b01_2, b01_3, b01_4, Nat.zero_le, Nat.reduceAdd, Nat.reduceLeDiff, ↓reduceIte, not_true_eq_false, not_false_eq_true, Bool.false_eq_true]
      · simp only [e_146, rm_f hrm, rm_t hrm, r_isJoint hrm hpv.1, ix_yes hj (N := nJ R C) (by omega), r_in, e6, ix_no (N := 7) (by decide) (by decide) hw, Option.bind_some, Option.toList_some, Option.toList_none, List.cons_append, List.nil_append, List.append_nil, List.length_cons, List.length_nil, true_or, or_true, eq_self, b01_0, b01_1, b01_2, b01_3, b01_4, Nat.zero_le, Nat.reduceAdd, Nat.reduceLeDiff, ↓reduceIte, not_true_eq_false, not_false_eq_true, Bool.false_eq_true]
    · have rp := r_jointP (X := mc_X0 L xs) hrm hpv.1 hj hk
      rcases (show k = 0 ∨ k = 1 ∨ k = 2 ∨ k = 3 ∨ k = 4 ∨ k = 5 ∨ k = 6 by omega) with rfl | rfl | rfl | rfl | rfl | rfl | rfl
      · refine rd hG (v := nI (fs R C j)) ?_ (rp.trans ?_)
        · simp only [show nI 0 = (0 : Int32) from rfl, e_74, tp_f htp, pl_f hpl, pl_g hpl, h17, hg1, c_isNoJoint htp hpl, hno, Option.bind_some, Option.toList_some, Option.toList_none, List.cons_append, List.nil_append, List.append_nil, List.length_cons, List.length_nil, true_or, or_true, eq_self, b01_0, b01_1, b01_2, b01_3, b01_4, Nat.zero_le, Nat.reduceAdd, Nat.reduceLeDiff, ↓reduceIte, not_true_eq_false, not_false_eq_true, Bool.false_eq_true]
        · simp only [show nI 0 = (0 : Int32) from rfl, e_146, Option.bind_some, Option.toList_some, Option.toList_none, List.cons_append, List.nil_append, List.append_nil, List.length_cons, List.length_nil, true_or, or_true, eq_self, b01_0, b01_1, b01_2, b01_3, b01_4, Nat.zero_le, Nat.reduceAdd, Nat.reduceLeDiff, ↓reduceIte, not_true_eq_false, not_false_eq_true, Bool.false_eq_true]
      · refine rd hG (v := nI (sn R C j)) ?_ (rp.trans ?_)
        · simp only [show nI 1 = (1 : Int32) from rfl, e_74, tp_f htp, pl_f hpl, pl_g hpl, h17, hg2, c_isNoJoint htp hpl, hno, Option.bind_some, Option.toList_some, Option.toList_none, List.cons_append, List.nil_append, List.append_nil, List.length_cons, List.length_nil, true_or, or_true, eq_self, b01_0, b01_1, b01_2, b01_3, b01_4, Nat.zero_le, Nat.reduceAdd, Nat.reduceLeDiff, ↓reduceIte, not_true_eq_false, not_false_eq_true, Bool.false_eq_true]
        · simp only [show nI 1 = (1 : Int32) from rfl, e_146, Option.bind_some, Option.toList_some, Option.toList_none, List.cons_append, List.nil_append, List.append_nil, List.length_cons, List.length_nil, true_or, or_true, eq_self, b01_0, b01_1, b01_2, b01_3, b01_4, Nat.zero_le, Nat.reduceAdd, Nat.reduceLeDiff, ↓reduceIte, not_true_eq_false, not_false_eq_true, Bool.false_eq_true]
      · refine rd hG (v := nI (min (s1 R C j) (s2 R C j))) ?_ (rp.trans ?_)
        · simp only [show nI 2 = (2 : Int32) from rfl, e_74, tp_f htp, pl_f hpl, pl_g hpl, h17, hg3, c_isNoJoint htp hpl, hno, Option.bind_some, Option.toList_some, Option.toList_none, List.cons_append, List.nil_append, List.append_nil, List.length_cons, List.length_nil, true_or, or_true, eq_self, b01_0, b01_1, b01_2, b01_3, b01_4, Nat.zero_le, Nat.reduceAdd, Nat.reduceLeDiff, ↓reduceIte, not_true_eq_false, not_false_eq_true, Bool.false_eq_true]
        · rw [← mn_n (by omega) (by omega)]
          by_cases c : nI (s1 R C j) < nI (s2 R C j) <;> simp only [show nI 2 = (2 : Int32) from rfl, e_146, c, Option.bind_some, Option.toList_some, Option.toList_none, List.cons_append, List.nil_append, List.append_nil, List.length_cons, List.length_nil, true_or, or_true, eq_self, b01_0, b01_1, b01_2, b01_3, b01_4, Nat.zero_le, Nat.reduceAdd, Nat.reduceLeDiff, ↓reduceIte, not_true_eq_false, not_false_eq_true, Bool.false_eq_true]
      · refine rd hG (v := nI (max (s1 R C j) (s2 R C j))) ?_ (rp.trans ?_)
        · simp only [show nI 3 = (3 : Int32) from rfl, e_74, tp_f htp, pl_f hpl, pl_g hpl, h17, hg4, c_isNoJoint htp hpl, hno, Option.bind_some, Option.toList_some, Option.toList_none, List.cons_append, List.nil_append, List.append_nil, List.length_cons, List.length_nil, true_or, or_true, eq_self, b01_0, b01_1, b01_2, b01_3, b01_4, Nat.zero_le, Nat.reduceAdd, Nat.reduceLeDiff, ↓reduceIte, not_true_eq_false, not_false_eq_true, Bool.false_eq_true]
        · rw [← mx_n (by omega) (by omega)]
          by_cases c : nI (s1 R C j) < nI (s2 R C j) <;> simp only [show nI 3 = (3 : Int32) from rfl, e_146, c, Option.bind_some, Option.toList_some, Option.toList_none, List.cons_append, List.nil_append, List.append_nil, List.length_cons, List.length_nil, true_or, or_true, eq_self, b01_0, b01_1, b01_2, b01_3, b01_4, Nat.zero_le, Nat.reduceAdd, Nat.reduceLeDiff, ↓reduceIte, not_true_eq_false, not_false_eq_true, Bool.false_eq_true]
      · refine rd hG (v := ws j + 1000) ?_ (rp.trans ?_)
        · simp only [show nI 4 = (4 : Int32) from rfl, e_74, tp_f htp, pl_f hpl, pl_g hpl, h17, c_isNoJoint htp hpl, hno, Option.bind_some, Option.toList_some, Option.toList_none, List.cons_append, List.nil_append, List.append_nil, List.length_cons, List.length_nil, true_or, or_true, eq_self, b01_0, b01_1, b01_2, b01_3, b01_4, Nat.zero_le, Nat.reduceAdd, Nat.reduceLeDiff, ↓reduceIte, not_true_eq_false, not_false_eq_true, Bool.false_eq_true]
        · simp only [show nI 4 = (4 : Int32) from rfl, e_146, rm_f hrm, rm_g hrm, h24, hr1.2 j hj, Option.bind_some, Option.toList_some, Option.toList_none, List.cons_append, List.nil_append, List.append_nil, List.length_cons, List.length_nil, true_or, or_true, eq_self, b01_0, b01_1, b01_2, b01_3, b01_4, Nat.zero_le, Nat.reduceAdd, Nat.reduceLeDiff, ↓reduceIte, not_true_eq_false, not_false_eq_true, Bool.false_eq_true]
      · refine rd hG (v := if unB R C ws ks (pN1 R C TB OB LB ks) j then 1 else 0) ?_ (rp.trans ?_)
        · simp only [show nI 5 = (5 : Int32) from rfl, e_74, tp_f htp, pl_f hpl, c_isNoJoint htp hpl, hno, c_pointing hpl hpv, c_isUnmet hpl hpv hj (pN1_31 hpv), c_asNumber, Option.bind_some, Option.toList_some, Option.toList_none, List.cons_append, List.nil_append, List.append_nil, List.length_cons, List.length_nil, true_or, or_true, eq_self, b01_0, b01_1, b01_2, b01_3, b01_4, Nat.zero_le, Nat.reduceAdd, Nat.reduceLeDiff, ↓reduceIte, not_true_eq_false, not_false_eq_true, Bool.false_eq_true]
        · have b1 := bt_lt (nN R C) (pN1 R C TB OB LB ks) (fs R C j)
          have b2 := bt_lt (nN R C) (pN1 R C TB OB LB ks) (sn R C j)
          have h2 : (nI (bt (nN R C) (pN1 R C TB OB LB ks) (fs R C j)) = nI (bt (nN R C) (pN1 R C TB OB LB ks) (sn R C j))) = (bt (nN R C) (pN1 R C TB OB LB ks) (fs R C j) = bt (nN R C) (pN1 R C TB OB LB ks) (sn R C j)) := propext (nI_eq (by omega) (by omega))
          simp only [show nI 5 = (5 : Int32) from rfl, e_146, pt_eq hpv hr1 (i := fs R C j) (by omega), pt_eq hpv hr1 (i := sn R C j) hf.2.1, h2, hc, Option.bind_some, Option.toList_some, Option.toList_none, List.cons_append, List.nil_append, List.append_nil, List.length_cons, List.length_nil, true_or, or_true, eq_self, b01_0, b01_1, b01_2, b01_3, b01_4, Nat.zero_le, Nat.reduceAdd, Nat.reduceLeDiff, ↓reduceIte, not_true_eq_false, not_false_eq_true, Bool.false_eq_true]
          unfold unB
          by_cases al : bt (nN R C) (pN1 R C TB OB LB ks) (fs R C j) = bt (nN R C) (pN1 R C TB OB LB ks) (sn R C j)
          · by_cases c1 : 0 < ct R C ws ks j
            · have c2 : ¬ ct R C ws ks j < 0 := Int32.not_lt.mpr (Int32.le_of_lt c1)
              simp only [al, c1, c2, Option.bind_some, Option.toList_some, Option.toList_none, List.cons_append, List.nil_append, List.append_nil, List.length_cons, List.length_nil, true_or, or_true, eq_self, b01_0, b01_1, b01_2, b01_3, b01_4, Nat.zero_le, Nat.reduceAdd, Nat.reduceLeDiff, ↓reduceIte, not_true_eq_false, not_false_eq_true, Bool.false_eq_true, decide_false]
            · by_cases c2 : ct R C ws ks j < 0 <;> simp only [al, c1, c2, Option.bind_some, Option.toList_some, Option.toList_none, List.cons_append, List.nil_append, List.append_nil, List.length_cons, List.length_nil, true_or, or_true, eq_self, b01_0, b01_1, b01_2, b01_3, b01_4, Nat.zero_le, Nat.reduceAdd, Nat.reduceLeDiff, ↓reduceIte, not_true_eq_false, not_false_eq_true, Bool.false_eq_true, decide_true, decide_false]
          · by_cases c1 : 0 < ct R C ws ks j
            · simp only [al, c1, Option.bind_some, Option.toList_some, Option.toList_none, List.cons_append, List.nil_append, List.append_nil, List.length_cons, List.length_nil, true_or, or_true, eq_self, b01_0, b01_1, b01_2, b01_3, b01_4, Nat.zero_le, Nat.reduceAdd, Nat.reduceLeDiff, ↓reduceIte, not_true_eq_false, not_false_eq_true, Bool.false_eq_true, decide_true]
            · by_cases c2 : ct R C ws ks j < 0 <;> simp only [al, c1, c2, Option.bind_some, Option.toList_some, Option.toList_none, List.cons_append, List.nil_append, List.append_nil, List.length_cons, List.length_nil, true_or, or_true, eq_self, b01_0, b01_1, b01_2, b01_3, b01_4, Nat.zero_le, Nat.reduceAdd, Nat.reduceLeDiff, ↓reduceIte, not_true_eq_false, not_false_eq_true, Bool.false_eq_true, decide_true, decide_false]
      · refine rd hG (v := am (ct R C ws ks j)) ?_ (rp.trans ?_)
        · simp only [show nI 6 = (6 : Int32) from rfl, e_74, tp_f htp, pl_f hpl, c_isNoJoint htp hpl, hno, c_amountOf hpl hpv hj, Option.bind_some, Option.toList_some, Option.toList_none, List.cons_append, List.nil_append, List.append_nil, List.length_cons, List.length_nil, true_or, or_true, eq_self, b01_0, b01_1, b01_2, b01_3, b01_4, Nat.zero_le, Nat.reduceAdd, Nat.reduceLeDiff, ↓reduceIte, not_true_eq_false, not_false_eq_true, Bool.false_eq_true]
          rfl
        · have h6 : ((nI 6).toInt < 0 ∨ 5 < (nI 6).toInt) = True := eq_true (Or.inr (by decide))
          simp only [e_146, h6, rm_f hrm, r_amountOf hrm hpv.1 hj, hc, am_n, Option.bind_some, Option.toList_some, Option.toList_none, List.cons_append, List.nil_append, List.append_nil, List.length_cons, List.length_nil, true_or, or_true, eq_self, b01_0, b01_1, b01_2, b01_3, b01_4, Nat.zero_le, Nat.reduceAdd, Nat.reduceLeDiff, ↓reduceIte, not_true_eq_false, not_false_eq_true, Bool.false_eq_true]
end ROWS
