/-! rows: sure, the row -/
theorem any_in {f : Nat → Bool} : ∀ n a, a < n → f a = true → anyB f n = true
  | n + 1, a, h, hf => by
    show (anyB f n || f n) = true
    by_cases c : a = n
    · subst c; rw [hf, Bool.or_true]
    · rw [any_in n a (by omega) hf, Bool.true_or]
theorem any_cg {f g : Nat → Bool} : ∀ n, (∀ a, a < n → f a = g a) → anyB f n = anyB g n
  | 0, _ => rfl
  | n + 1, h => by
    show (anyB f n || f n) = (anyB g n || g n)
    rw [any_cg n (fun a ha => h a (by omega)), h n (by omega)]
theorem ls_att {may : Nat → Bool} {st : Nat → Int32} : ∀ n, lsI may st n = 2147483647 ∨ ∃ a, a < n ∧ may a = true ∧ st a = lsI may st n
  | 0 => Or.inl rfl
  | a + 1 => by
    have ih := ls_att (may := may) (st := st) a
    have e1 : lsI may st (a + 1) = if may a then (if st a < lsI may st a then st a else lsI may st a) else lsI may st a := rfl
    have up : lsI may st (a + 1) = lsI may st a → lsI may st (a + 1) = 2147483647 ∨ ∃ b, b < a + 1 ∧ may b = true ∧ st b = lsI may st (a + 1) := by
      intro e
      rw [e]
      rcases ih with q | ⟨b, q1, q2, q3⟩
      · exact Or.inl q
      · exact Or.inr ⟨b, by omega, q2, q3⟩
    cases hm : may a with
    | false => exact up (by rw [e1, hm]; rfl)
    | true =>
      by_cases c : st a < lsI may st a
      · exact Or.inr ⟨a, by omega, hm, by rw [e1, hm, if_pos rfl, if_pos c]⟩
      · exact up (by rw [e1, hm, if_pos rfl, if_neg c])
theorem sm_bt {N a i k : Nat} : smB (2 ^ (N - 1 - i)) (2 ^ (N - 1 - k)) a = decide (bt N a i = bt N a k) := by
  unfold smB
  have e1 : decide (a &&& 2 ^ (N - 1 - i) = 0) = !a.testBit (N - 1 - i) := by
    apply Bool.eq_iff_iff.mpr
    rw [decide_eq_true_iff, and_p0]
    cases a.testBit (N - 1 - i) <;> simp
  have e2 : decide (a &&& 2 ^ (N - 1 - k) = 0) = !a.testBit (N - 1 - k) := by
    apply Bool.eq_iff_iff.mpr
    rw [decide_eq_true_iff, and_p0]
    cases a.testBit (N - 1 - k) <;> simp
  rw [e1, e2, bt_tb, bt_tb]
  cases a.testBit (N - 1 - i) <;> cases a.testBit (N - 1 - k) <;> rfl
section ROWS
variable {L : Nat} {xs : Nat → Int32}
theorem R22 : lw_R22 L xs Inv := by
  intro a G hG
  refine inv_elim hG ?_
  intro R C rim fi se lo hi TB OB LB ks ws stale lw SZ HD HP sts nx sz kq hT hO hL hK hW sq sv rv le nu di ch tr su U tu tl ki go wa ol hs so sr rs ce cp fa pa hpl hpv hld hhs hsp htp hpr hrm hr1 hr2 hr3 hr4
  have hb1 := sh_b hpv.1
  have hpn := pN hpv.1
  have hbad : (a < 0 ∨ ¬ a < nI (nJ R C)) = True → (0 ≤ a ∧ a ≤ nI (nJ R C) - 1) = False → ∃ (v : Int32) (G1 G2 : mc_H), mc_ev (mc_X0 L xs) 83 0 [.ref 0, .int a, .null, .null] [] G = some (some (.int v), G1) ∧ mc_cls G1 90 = some 8 ∧ mc_ev (mc_X0 L xs) 159 0 [.ref 90, .int a, .null, .null, .null, .null, .null] [] G1 = some (some (.int v), G2) ∧ Inv G2 := by
    intro cx cm
    refine rd hG (v := -1000000) ?_ ?_
    · simp only [e_83, tp_f htp, c_isNoJoint htp hpl, cx, Option.bind_some, Option.toList_some, Option.toList_none, List.cons_append, List.nil_append, List.append_nil, List.length_cons, List.length_nil, true_or, or_true, eq_self, b01_0, b01_1, b01_2, b01_3, b01_4, Nat.zero_le, Nat.reduceAdd, Nat.reduceLeDiff, ↓reduceIte, not_true_eq_false, not_false_eq_true, Bool.false_eq_true]
    · simp only [e_159, rm_f hrm, rm_t hrm, r_isJoint hrm hpv.1, cm, Option.bind_some, Option.toList_some, Option.toList_none, List.cons_append, List.nil_append, List.append_nil, List.length_cons, List.length_nil, true_or, or_true, eq_self, b01_0, b01_1, b01_2, b01_3, b01_4, Nat.zero_le, Nat.reduceAdd, Nat.reduceLeDiff, ↓reduceIte, not_true_eq_false, not_false_eq_true, Bool.false_eq_true]
  rcases Nat.eq_zero_or_pos (nJ R C) with hJ0 | hJ1
  · have na : nI (nJ R C) = 0 := by rw [hJ0]; rfl
    refine hbad (eq_true (by rw [na]; by_cases q : a < 0; exact Or.inl q; exact Or.inr q)) (eq_false (by
      rw [na]; rintro ⟨q1, q2⟩
      have := Int32.le_iff_toInt_le.mp q1
      have := Int32.le_iff_toInt_le.mp q2
      rw [show ((0 : Int32) - 1).toInt = -1 from rfl] at this
      rw [show (0 : Int32).toInt = 0 from rfl] at *
      omega))
  rcases ix_of a (N := nJ R C) (by omega) with hb | ⟨j, hj, rfl⟩
  · exact hbad (no_no hb) (ix_no hJ1 (by omega) hb)
  · have hf := fs_b hpv.1 hj
    have h17 : j < 17 := by omega
    obtain ⟨hg1, hg2, -⟩ := hpv.2.2.2.2.1 j hj
    obtain ⟨G', F, l', q1, q2, q3, q4, q5⟩ := c_surveyed (L := L) (xs := xs) htp hpl hpv hld hr2
    have hrm' := rm_ag hrm (G' := G') (fun k a b => q2 k (by omega) (by omega))
    have hlw := low_eq hpv hr1 q4 q5
    have hP : OB &&& hH R C LB ks < 4096 := Nat.lt_of_le_of_lt Nat.and_le_left (Nat.lt_of_lt_of_le hpv.2.2.1 hpn)
    have hk := c_agreement (X := mc_X0 L xs) q3 hpn hP (2 ^ (nN R C - 1 - fs R C j)) (2 ^ (nN R C - 1 - sn R C j))
    have hs := r_sure (X := mc_X0 L xs) hrm' hpv.1 hj
    rw [← hlw] at hs
    let g1 : Nat → Bool := fun b => okV R C ki go tl wa l' b && decide (bt (nN R C) b (fs R C j) = bt (nN R C) b (sn R C j))
    let g2 : Nat → Bool := fun b => okV R C ki go tl wa l' b && !decide (bt (nN R C) b (fs R C j) = bt (nN R C) b (sn R C j))
    have ok1 : ∀ b, b < 2 ^ nN R C → (mbB (hH R C LB ks) (OB &&& hH R C LB ks) b && decide (F b = l')) = okV R C ki go tl wa l' b := by
      intro b hb2
      unfold okV
      rw [(st_cg2 hpv hr1 q4 b hb2).1, (st_cg2 hpv hr1 q4 b hb2).2]
    rw [any_cg (g := g1) _ (fun b hb2 => by show ((mbB _ _ b && decide (F b = l')) && _) = _; rw [ok1 b hb2, sm_bt]), any_cg (f := fun a => (mbB (hH R C LB ks) (OB &&& hH R C LB ks) a && decide (F a = l')) && !smB (2 ^ (nN R C - 1 - fs R C j)) (2 ^ (nN R C - 1 - sn R C j)) a) (g := g2) _ (fun b hb2 => by show ((mbB _ _ b && decide (F b = l')) && _) = _; rw [ok1 b hb2, sm_bt])] at hk
    rw [any_all (f := g2) _ (fun b _ => by show (!_ || _) = !(_ && !_); cases okV R C ki go tl wa l' b <;> simp), any_all (f := g1) _ (fun b _ => by show (!_ || !_) = !(_ && _); cases okV R C ki go tl wa l' b <;> simp)] at hs
    have hor : anyB g1 (2 ^ nN R C) = true ∨ anyB g2 (2 ^ nN R C) = true := by
      rcases ls_att (may := mA R C ki go tl) (st := stA R C wa ki) (2 ^ nN R C) with q | ⟨b, b1, b2, b3⟩
      · rcases ls_ab (may := mA R C ki go tl) (st_b2 hpv hr1) (2 ^ nN R C) with ⟨z0, z1, z2⟩ | ⟨z1, z2, z3⟩
        · have hlt : OB &&& hH R C LB ks < 2 ^ nN R C := Nat.lt_of_le_of_lt Nat.and_le_left hpv.2.2.1
          have w1 := z0 _ hlt
          have w2 := mb_may hpv hr1 hlt
          rw [show mayB (nN R C) ki go tl (OB &&& hH R C LB ks) = false from w1] at w2
          have w3 : mbB (hH R C LB ks) (OB &&& hH R C LB ks) (OB &&& hH R C LB ks) = true := by
            unfold mbB
            rw [Nat.and_assoc, Nat.and_self]
            simp
          rw [w3] at w2
          cases w2
        · rw [q] at z3
          exact absurd z3 (by decide)
      · have bo : okV R C ki go tl wa l' b = true := by
          unfold okV
          rw [hlw, ← b3]
          rw [show mayB (nN R C) ki go tl b = true from b2]
          simp
        by_cases c : bt (nN R C) b (fs R C j) = bt (nN R C) b (sn R C j)
        · left; exact any_in _ b b1 (by show (_ && _) = true; rw [bo]; simp [c])
        · right; exact any_in _ b b1 (by show (_ && !_) = true; rw [bo]; simp [c])
    have ev : (if anyB g1 (2 ^ nN R C) = anyB g2 (2 ^ nN R C) then (0 : Int32) else if anyB g1 (2 ^ nN R C) then 1 else -1) = (if (!anyB g2 (2 ^ nN R C)) = true then 1 else if (!anyB g1 (2 ^ nN R C)) = true then -1 else 0) := by
      revert hor
      cases anyB g1 (2 ^ nN R C) <;> cases anyB g2 (2 ^ nN R C) <;> simp
    rw [ev] at hk
    refine ⟨_, G', G', ?_, (rm_f hrm').1, hs, inv_ld hpl hpv hld hhs hsp htp hpr hrm hr1 hr2 hr3 hr4 q2 q3 q4 q5⟩
    simp only [e_83, tp_f htp, pl_f hpl, pl_g hpl, h17, hg1, hg2, c_isNoJoint htp hpl, no_yes hj (N := nJ R C) (by omega), c_bitOf hpl hpv.1 (i := fs R C j) (by omega), c_bitOf hpl hpv.1 (i := sn R C j) hf.2.1, q1, ld_f (X := mc_X0 L xs) q3, hk, Option.bind_some, Option.toList_some, Option.toList_none, List.cons_append, List.nil_append, List.append_nil, List.length_cons, List.length_nil, true_or, or_true, eq_self, b01_0, b01_1, b01_2, b01_3, b01_4, Nat.zero_le, Nat.reduceAdd, Nat.reduceLeDiff, ↓reduceIte, not_true_eq_false, not_false_eq_true, Bool.false_eq_true]
end ROWS
