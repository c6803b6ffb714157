/-! the reference: sums over joints, needles, arrangements -/
section REF
variable {X : mc_X} {G : mc_H} {su : Int32} {tr : Int64} {R C U : Nat} {tu tl ki go wa ol hs so sr rs ce cp fa pa : Nat → Int32}
set_option maxHeartbeats 1000000 in
theorem r_strainOf (h : rm G su tr R C U tu tl ki go wa ol hs so sr rs ce cp fa pa) (hs : sh R C) {A : Nat} (hA : A < 2 ^ 31) : mc_ev X 129 0 [.ref 90, .int (nI A), .null, .null, .null, .null, .null] [] G = some (some (.int (stA R C wa ki A)), G) := by
  have hb := sh_b hs
  have h0 : mc_ev X 129 0 [.ref 90, .int (nI A), .null, .null, .null, .null, .null] [] G = mc_ev X 129 10 [.ref 90, .int (nI A), .int 0, .int (nI (nN R C)), .int 0, .null, .null] [] G := by
    simp only [e_129, rm_f h, r_needles h, Option.bind_some, Option.toList_some, Option.toList_none, List.cons_append, List.nil_append, List.append_nil, List.length_cons, List.length_nil, true_or, or_true, eq_self, b01_0, b01_1, b01_2, b01_3, b01_4, Nat.zero_le, Nat.reduceAdd, Nat.reduceLeDiff, ↓reduceIte, not_true_eq_false, not_false_eq_true, Bool.false_eq_true]
  let T : Nat → Int32 := fun j => tm (ct R C wa ki j) (bt (nN R C) A (fs R C j) = bt (nN R C) A (sn R C j))
  obtain ⟨ls', G', ⟨hG, v5, v6, hl⟩, he⟩ := ev_inv (X := X) (k := 129) (pc := 10) (fun i ls G' => G' = G ∧ ∃ v5 v6, ls = [.ref 90, .int (nI A), .int (bx_sum T i), .int (nI (nN R C)), .int (nI i), v5, v6]) (nJ R C) (by
    rintro i hi ls G' ⟨rfl, v5, v6, rfl⟩
    refine ⟨[.ref 90, .int (nI A), .int (bx_sum T i + T i), .int (nI (nN R C)), .int (nI (i + 1)), .int (if bt (nN R C) A (fs R C i) = bt (nN R C) A (sn R C i) then 1 else 0), .int (ct R C wa ki i)], G', ⟨rfl, _, _, rfl⟩, ?_⟩
    have hf := fs_b hs hi
    have h1 : nI i < nI (nJ R C) := nI_lt hi (by omega)
    have b1 := bt_lt (nN R C) A (fs R C i)
    have b2 := bt_lt (nN R C) A (sn R C i)
    have h2 : (nI (bt (nN R C) A (fs R C i)) = nI (bt (nN R C) A (sn R C i))) = (bt (nN R C) A (fs R C i) = bt (nN R C) A (sn R C i)) := propext (nI_eq (by omega) (by omega))
    rw [h_129_10]
    simp only [e_129, rm_f h, r_joints h hs, h1, r_end h hs hi, r_bitOf (X := X) (G := G') hA hb.2.1 (i := fs R C i) (by omega), r_bitOf (X := X) (G := G') hA hb.2.1 (i := sn R C i) (by omega), r_countsOf h hs hi, h2, nI_1, Option.bind_some, Option.toList_some, Option.toList_none, List.cons_append, List.nil_append, List.append_nil, List.length_cons, List.length_nil, true_or, or_true, eq_self, b01_0, b01_1, b01_2, b01_3, b01_4, Nat.zero_le, Nat.reduceAdd, Nat.reduceLeDiff, ↓reduceIte, not_true_eq_false, not_false_eq_true, Bool.false_eq_true]
    show _ = mc_ev X 129 10 [.ref 90, .int (nI A), .int (bx_sum T i + tm (ct R C wa ki i) (bt (nN R C) A (fs R C i) = bt (nN R C) A (sn R C i))), .int (nI (nN R C)), .int (nI (i + 1)), .int (if bt (nN R C) A (fs R C i) = bt (nN R C) A (sn R C i) then 1 else 0), .int (ct R C wa ki i)] [] G'
    unfold tm
    by_cases al : bt (nN R C) A (fs R C i) = bt (nN R C) A (sn R C i)
    · by_cases c1 : 0 < ct R C wa ki i
      · have c2 : ¬ ct R C wa ki i < 0 := Int32.not_lt.mpr (Int32.le_of_lt c1)
        simp only [al, c1, c2, Option.bind_some, Option.toList_some, Option.toList_none, List.cons_append, List.nil_append, List.append_nil, List.length_cons, List.length_nil, true_or, or_true, eq_self, b01_0, b01_1, b01_2, b01_3, b01_4, Nat.zero_le, Nat.reduceAdd, Nat.reduceLeDiff, ↓reduceIte, not_true_eq_false, not_false_eq_true, Bool.false_eq_true, and_false, and_true]
      · by_cases c2 : ct R C wa ki i < 0
        · simp only [al, c1, c2, Option.bind_some, Option.toList_some, Option.toList_none, List.cons_append, List.nil_append, List.append_nil, List.length_cons, List.length_nil, true_or, or_true, eq_self, b01_0, b01_1, b01_2, b01_3, b01_4, Nat.zero_le, Nat.reduceAdd, Nat.reduceLeDiff, ↓reduceIte, not_true_eq_false, not_false_eq_true, Bool.false_eq_true, and_false, and_true]
        · simp only [al, c1, c2, Option.bind_some, Option.toList_some, Option.toList_none, List.cons_append, List.nil_append, List.append_nil, List.length_cons, List.length_nil, true_or, or_true, eq_self, b01_0, b01_1, b01_2, b01_3, b01_4, Nat.zero_le, Nat.reduceAdd, Nat.reduceLeDiff, ↓reduceIte, not_true_eq_false, not_false_eq_true, Bool.false_eq_true, and_false, and_true]
    · by_cases c1 : 0 < ct R C wa ki i
      · simp only [al, c1, Option.bind_some, Option.toList_some, Option.toList_none, List.cons_append, List.nil_append, List.append_nil, List.length_cons, List.length_nil, true_or, or_true, eq_self, b01_0, b01_1, b01_2, b01_3, b01_4, Nat.zero_le, Nat.reduceAdd, Nat.reduceLeDiff, ↓reduceIte, not_true_eq_false, not_false_eq_true, Bool.false_eq_true, and_false, and_true]
      · by_cases c2 : ct R C wa ki i < 0
        · simp only [al, c1, c2, Option.bind_some, Option.toList_some, Option.toList_none, List.cons_append, List.nil_append, List.append_nil, List.length_cons, List.length_nil, true_or, or_true, eq_self, b01_0, b01_1, b01_2, b01_3, b01_4, Nat.zero_le, Nat.reduceAdd, Nat.reduceLeDiff, ↓reduceIte, not_true_eq_false, not_false_eq_true, Bool.false_eq_true, and_false, and_true]
        · simp only [al, c1, c2, Option.bind_some, Option.toList_some, Option.toList_none, List.cons_append, List.nil_append, List.append_nil, List.length_cons, List.length_nil, true_or, or_true, eq_self, b01_0, b01_1, b01_2, b01_3, b01_4, Nat.zero_le, Nat.reduceAdd, Nat.reduceLeDiff, ↓reduceIte, not_true_eq_false, not_false_eq_true, Bool.false_eq_true, and_false, and_true]) _ _ ⟨rfl, .null, .null, rfl⟩
  subst hG hl
  have h2 : ¬ nI (nJ R C) < nI (nJ R C) := nI_nlt (Nat.le_refl _) (by omega)
  rw [h0]
  refine Eq.trans he ?_
  rw [h_129_10]
  simp only [e_129, rm_f h, r_joints h hs, h2, Option.bind_some, Option.toList_some, Option.toList_none, List.cons_append, List.nil_append, List.append_nil, List.length_cons, List.length_nil, true_or, or_true, eq_self, b01_0, b01_1, b01_2, b01_3, b01_4, Nat.zero_le, Nat.reduceAdd, Nat.reduceLeDiff, ↓reduceIte, not_true_eq_false, not_false_eq_true, Bool.false_eq_true]
  rfl
theorem r_now (h : rm G su tr R C U tu tl ki go wa ol hs so sr rs ce cp fa pa) (hs : sh R C) : mc_ev X 130 0 [.ref 90, .null, .null] [] G = some (some (.int (nwI (fun i => if hb ki go i then tl i else tu i) (nN R C))), G) := by
  have hb1 := sh_b hs
  have h0 : mc_ev X 130 0 [.ref 90, .null, .null] [] G = mc_ev X 130 4 [.ref 90, .int 0, .int 0] [] G := by
    simp only [e_130, Option.bind_some, Option.toList_some, Option.toList_none, List.cons_append, List.nil_append, List.append_nil, List.length_cons, List.length_nil, true_or, or_true, eq_self, b01_0, b01_1, b01_2, b01_3, b01_4, Nat.zero_le, Nat.reduceAdd, Nat.reduceLeDiff, ↓reduceIte, not_true_eq_false, not_false_eq_true, Bool.false_eq_true]
  have hl := ev_loop (X := X) (k := 130) (pc := 4) (fun i => [.ref 90, .int (nwI (fun i => if hb ki go i then tl i else tu i) i), .int (nI i)]) (fun _ => G) (nN R C) (by
    intro i hi
    have h1 : nI i < nI (nN R C) := nI_lt hi (by omega)
    rw [h_130_4]
    simp only [e_130, rm_f h, r_needles h, h1, r_pointOf h (i := i) (by omega), nI_1, Option.bind_some, Option.toList_some, Option.toList_none, List.cons_append, List.nil_append, List.append_nil, List.length_cons, List.length_nil, true_or, or_true, eq_self, b01_0, b01_1, b01_2, b01_3, b01_4, Nat.zero_le, Nat.reduceAdd, Nat.reduceLeDiff, ↓reduceIte, not_true_eq_false, not_false_eq_true, Bool.false_eq_true]
    rfl)
  have h2 : ¬ nI (nN R C) < nI (nN R C) := nI_nlt (Nat.le_refl _) (by omega)
  rw [h0]
  refine Eq.trans hl ?_
  rw [h_130_4]
  simp only [e_130, rm_f h, r_needles h, h2, Option.bind_some, Option.toList_some, Option.toList_none, List.cons_append, List.nil_append, List.append_nil, List.length_cons, List.length_nil, true_or, or_true, eq_self, b01_0, b01_1, b01_2, b01_3, b01_4, Nat.zero_le, Nat.reduceAdd, Nat.reduceLeDiff, ↓reduceIte, not_true_eq_false, not_false_eq_true, Bool.false_eq_true]
theorem and01 (a b : Bool) : ((if a then (1 : Int32) else 0) &&& (if b then (1 : Int32) else 0)) = if (a && b) then 1 else 0 := by cases a <;> cases b <;> decide
theorem r_mayBe (h : rm G su tr R C U tu tl ki go wa ol hs so sr rs ce cp fa pa) (hs : sh R C) {A : Nat} (hA : A < 2 ^ 31) : mc_ev X 131 0 [.ref 90, .int (nI A), .null, .null] [] G = some (some (.int (if mayB (nN R C) ki go tl A then 1 else 0)), G) := by
  have hb1 := sh_b hs
  have h0 : mc_ev X 131 0 [.ref 90, .int (nI A), .null, .null] [] G = mc_ev X 131 4 [.ref 90, .int (nI A), .int 1, .int 0] [] G := by
    simp only [e_131, Option.bind_some, Option.toList_some, Option.toList_none, List.cons_append, List.nil_append, List.append_nil, List.length_cons, List.length_nil, true_or, or_true, eq_self, b01_0, b01_1, b01_2, b01_3, b01_4, Nat.zero_le, Nat.reduceAdd, Nat.reduceLeDiff, ↓reduceIte, not_true_eq_false, not_false_eq_true, Bool.false_eq_true]
  let ok : Nat → Bool := fun n => !hb ki go n || decide (nI (bt (nN R C) A n) = tl n)
  have hl := ev_loop (X := X) (k := 131) (pc := 4) (fun i => [.ref 90, .int (nI A), .int (if allB ok i then 1 else 0), .int (nI i)]) (fun _ => G) (nN R C) (by
    intro i hi
    have h1 : nI i < nI (nN R C) := nI_lt hi (by omega)
    have h12 : i < 12 := by omega
    rw [h_131_4]
    simp only [e_131, rm_f h, rm_g h, h12, r_needles h, h1, r_isHeld h h12, r_bitOf (X := X) (G := G) hA hb1.2.1 hi, nI_1, Option.bind_some, Option.toList_some, Option.toList_none, List.cons_append, List.nil_append, List.append_nil, List.length_cons, List.length_nil, true_or, or_true, eq_self, b01_0, b01_1, b01_2, b01_3, b01_4, Nat.zero_le, Nat.reduceAdd, Nat.reduceLeDiff, ↓reduceIte, not_true_eq_false, not_false_eq_true, Bool.false_eq_true]
    have e : allB ok (i + 1) = (allB ok i && ok i) := rfl
    rw [e, ← and01]
    have e2 : ok i = (!hb ki go i || decide (nI (bt (nN R C) A i) = tl i)) := rfl
    rw [e2]
    cases a : hb ki go i with
    | false => simp only [Bool.not_false, Bool.true_or, Option.bind_some, Option.toList_some, Option.toList_none, List.cons_append, List.nil_append, List.append_nil, List.length_cons, List.length_nil, true_or, or_true, eq_self, b01_0, b01_1, b01_2, b01_3, b01_4, Nat.zero_le, Nat.reduceAdd, Nat.reduceLeDiff, ↓reduceIte, not_true_eq_false, not_false_eq_true, Bool.false_eq_true, Bool.false_eq_true]
    | true =>
      by_cases c : nI (bt (nN R C) A i) = tl i
      · simp only [c, Option.bind_some, Option.toList_some, Option.toList_none, List.cons_append, List.nil_append, List.append_nil, List.length_cons, List.length_nil, true_or, or_true, eq_self, b01_0, b01_1, b01_2, b01_3, b01_4, Nat.zero_le, Nat.reduceAdd, Nat.reduceLeDiff, ↓reduceIte, not_true_eq_false, not_false_eq_true, Bool.false_eq_true, decide_true, Bool.or_true]
      · simp only [c, Option.bind_some, Option.toList_some, Option.toList_none, List.cons_append, List.nil_append, List.append_nil, List.length_cons, List.length_nil, true_or, or_true, eq_self, b01_0, b01_1, b01_2, b01_3, b01_4, Nat.zero_le, Nat.reduceAdd, Nat.reduceLeDiff, ↓reduceIte, not_true_eq_false, not_false_eq_true, Bool.false_eq_true, decide_false, Bool.or_false, Bool.not_true, Bool.false_eq_true])
  have h2 : ¬ nI (nN R C) < nI (nN R C) := nI_nlt (Nat.le_refl _) (by omega)
  rw [h0]
  refine Eq.trans hl ?_
  rw [h_131_4]
  simp only [e_131, rm_f h, r_needles h, h2, Option.bind_some, Option.toList_some, Option.toList_none, List.cons_append, List.nil_append, List.append_nil, List.length_cons, List.length_nil, true_or, or_true, eq_self, b01_0, b01_1, b01_2, b01_3, b01_4, Nat.zero_le, Nat.reduceAdd, Nat.reduceLeDiff, ↓reduceIte, not_true_eq_false, not_false_eq_true, Bool.false_eq_true]
  rfl
theorem r_all (h : rm G su tr R C U tu tl ki go wa ol hs so sr rs ce cp fa pa) (hs : sh R C) : mc_ev X 132 0 [.ref 90] [] G = some (some (.int (nI (2 ^ nN R C))), G) := by
  have hb1 := sh_b hs
  have h1 : (1 : Int32) <<< (nI (nN R C) &&& 31) = nI (2 ^ nN R C) := by
    have := pk_shlN (n := 1) (nI (nN R C) &&& 31) (nN R C) (sh31 _ (by omega)) (by
      have : 2 ^ nN R C ≤ 2 ^ 12 := Nat.pow_le_pow_right (by decide) hb1.2.1
      omega)
    rw [Nat.one_mul] at this
    exact this
  simp only [e_132, rm_f h, r_needles h, h1, Option.bind_some, Option.toList_some, Option.toList_none, List.cons_append, List.nil_append, List.append_nil, List.length_cons, List.length_nil, true_or, or_true, eq_self, b01_0, b01_1, b01_2, b01_3, b01_4, Nat.zero_le, Nat.reduceAdd, Nat.reduceLeDiff, ↓reduceIte, not_true_eq_false, not_false_eq_true, Bool.false_eq_true]
end REF
