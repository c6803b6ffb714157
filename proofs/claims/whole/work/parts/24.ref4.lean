/-! the reference: searches among arrangements -/
section REF
variable {X : mc_X} {G : mc_H} {su : Int32} {tr : Int64} {R C U : Nat} {tu tl ki go wa ol hs so sr rs ce cp fa pa : Nat → Int32}
set_option maxHeartbeats 1000000 in
theorem r_isTroubled (h : rm G su tr R C U tu tl ki go wa ol hs so sr rs ce cp fa pa) (hs : sh R C) {f : Nat} (hf : f < 64) : mc_ev X 148 0 [.ref 90, .int (nI f), .null, .null] [] G = some (some (.int (if trB R C wa ki f then 1 else 0)), G) := by
  have hb1 := sh_b hs
  have h0 : mc_ev X 148 0 [.ref 90, .int (nI f), .null, .null] [] G = mc_ev X 148 4 [.ref 90, .int (nI f), .int 0, .int 0] [] G := by
    simp only [e_148, Option.bind_some, Option.toList_some, Option.toList_none, List.cons_append, List.nil_append, List.append_nil, List.length_cons, List.length_nil, true_or, or_true, eq_self, b01_0, b01_1, b01_2, b01_3, b01_4, Nat.zero_le, Nat.reduceAdd, Nat.reduceLeDiff, ↓reduceIte, not_true_eq_false, not_false_eq_true, Bool.false_eq_true]
  have hl := ev_loop (X := X) (k := 148) (pc := 4) (fun i => [.ref 90, .int (nI f), .int (nI (nsum (trq R C wa ki f) i)), .int (nI i)]) (fun _ => G) (nJ R C) (by
    intro i hi
    have h1 : nI i < nI (nJ R C) := nI_lt hi (by omega)
    have hfb := fs_b hs hi
    have e1 : (nI (s1 R C i) = nI f) = (s1 R C i = f) := propext (nI_eq (by omega) (by omega))
    have e2 : (nI (s2 R C i) = nI f) = (s2 R C i = f) := propext (nI_eq (by omega) (by omega))
    rw [h_148_4]
    simp only [e_148, rm_f h, r_joints h hs, h1, r_countsOf h hs hi, r_side h hs hi, e1, e2, nI_1, Int32.add_zero, Option.bind_some, Option.toList_some, Option.toList_none, List.cons_append, List.nil_append, List.append_nil, List.length_cons, List.length_nil, true_or, or_true, eq_self, b01_0, b01_1, b01_2, b01_3, b01_4, Nat.zero_le, Nat.reduceAdd, Nat.reduceLeDiff, ↓reduceIte, not_true_eq_false, not_false_eq_true, Bool.false_eq_true]
    have e3 : nsum (trq R C wa ki f) (i + 1) = nsum (trq R C wa ki f) i + trq R C wa ki f i := rfl
    rw [e3]
    unfold trq
    by_cases c : ct R C wa ki i < 0
    · by_cases a1 : s1 R C i = f <;> by_cases a2 : s2 R C i = f <;> simp only [c, a1, a2, Option.bind_some, Option.toList_some, Option.toList_none, List.cons_append, List.nil_append, List.append_nil, List.length_cons, List.length_nil, true_or, or_true, eq_self, b01_0, b01_1, b01_2, b01_3, b01_4, Nat.zero_le, Nat.reduceAdd, Nat.reduceLeDiff, ↓reduceIte, not_true_eq_false, not_false_eq_true, Bool.false_eq_true, nI_1, Int32.add_zero, Nat.add_zero, Nat.zero_add, Nat.add_assoc]
    · simp only [c, Option.bind_some, Option.toList_some, Option.toList_none, List.cons_append, List.nil_append, List.append_nil, List.length_cons, List.length_nil, true_or, or_true, eq_self, b01_0, b01_1, b01_2, b01_3, b01_4, Nat.zero_le, Nat.reduceAdd, Nat.reduceLeDiff, ↓reduceIte, not_true_eq_false, not_false_eq_true, Bool.false_eq_true, Nat.add_zero])
  have h2 : ¬ nI (nJ R C) < nI (nJ R C) := nI_nlt (Nat.le_refl _) (by omega)
  have hn : nsum (trq R C wa ki f) (nJ R C) ≤ 2 * nJ R C := nsum_le (trq_le R C wa ki f) _
  have h3 : nsum (trq R C wa ki f) (nJ R C) % 2 < 2 := Nat.mod_lt _ (by decide)
  rw [h0]
  refine Eq.trans hl ?_
  rw [h_148_4]
  simp only [e_148, rm_f h, r_joints h hs, h2, b01_5, dv2 (n := nsum (trq R C wa ki f) (nJ R C)) (by omega), ml2, md_n (j := nsum (trq R C wa ki f) (nJ R C)) (d := 2) (by omega), nI_is1 (n := nsum (trq R C wa ki f) (nJ R C) % 2) (by omega), Option.bind_some, Option.toList_some, Option.toList_none, List.cons_append, List.nil_append, List.append_nil, List.length_cons, List.length_nil, true_or, or_true, eq_self, b01_0, b01_1, b01_2, b01_3, b01_4, Nat.zero_le, Nat.reduceAdd, Nat.reduceLeDiff, ↓reduceIte, not_true_eq_false, not_false_eq_true, Bool.false_eq_true]
  unfold trB
  by_cases c : nsum (trq R C wa ki f) (nJ R C) % 2 = 1 <;> simp only [c, Option.bind_some, Option.toList_some, Option.toList_none, List.cons_append, List.nil_append, List.append_nil, List.length_cons, List.length_nil, true_or, or_true, eq_self, b01_0, b01_1, b01_2, b01_3, b01_4, Nat.zero_le, Nat.reduceAdd, Nat.reduceLeDiff, ↓reduceIte, not_true_eq_false, not_false_eq_true, Bool.false_eq_true, decide_true, decide_false]
abbrev mA (R C : Nat) (ki go tl : Nat → Int32) : Nat → Bool := mayB (nN R C) ki go tl
theorem pN {R C : Nat} (hs : sh R C) : 2 ^ nN R C ≤ 4096 := Nat.pow_le_pow_right (n := 2) (by decide) (sh_b hs).2.1
set_option maxHeartbeats 1000000 in
theorem r_leastOf (h : rm G su tr R C U tu tl ki go wa ol hs so sr rs ce cp fa pa) (hs : sh R C) : mc_ev X 154 0 [.ref 90, .null, .null, .null] [] G = some (some (.int (lsI (mA R C ki go tl) (stA R C wa ki) (2 ^ nN R C))), G) := by
  have hp := pN hs
  have h0 : mc_ev X 154 0 [.ref 90, .null, .null, .null] [] G = mc_ev X 154 5 [.ref 90, .int 2147483647, .int 0, .null] [] G := by
    simp only [e_154, Option.bind_some, Option.toList_some, Option.toList_none, List.cons_append, List.nil_append, List.append_nil, List.length_cons, List.length_nil, true_or, or_true, eq_self, b01_0, b01_1, b01_2, b01_3, b01_4, Nat.zero_le, Nat.reduceAdd, Nat.reduceLeDiff, ↓reduceIte, not_true_eq_false, not_false_eq_true, Bool.false_eq_true]
  obtain ⟨ls', G', ⟨hG, v3, hl⟩, he⟩ := ev_inv (X := X) (k := 154) (pc := 5) (fun i ls G' => G' = G ∧ ∃ v3, ls = [.ref 90, .int (lsI (mA R C ki go tl) (stA R C wa ki) i), .int (nI i), v3]) (2 ^ nN R C) (by
    rintro i hi ls G' ⟨rfl, v3, rfl⟩
    have h1 : nI i < nI (2 ^ nN R C) := nI_lt hi (by omega)
    rw [h_154_5]
    simp only [e_154, rm_f h, r_all h hs, h1, r_mayBe h hs (A := i) (by omega), r_strainOf h hs (A := i) (by omega), nI_1, Option.bind_some, Option.toList_some, Option.toList_none, List.cons_append, List.nil_append, List.append_nil, List.length_cons, List.length_nil, true_or, or_true, eq_self, b01_0, b01_1, b01_2, b01_3, b01_4, Nat.zero_le, Nat.reduceAdd, Nat.reduceLeDiff, ↓reduceIte, not_true_eq_false, not_false_eq_true, Bool.false_eq_true]
    cases hm : mayB (nN R C) ki go tl i with
    | false =>
      refine ⟨_, G', ⟨rfl, v3, rfl⟩, ?_⟩
      have e1 : lsI (mA R C ki go tl) (stA R C wa ki) (i + 1) = lsI (mA R C ki go tl) (stA R C wa ki) i := by show (if mayB (nN R C) ki go tl i then _ else _) = _; rw [hm]; rfl
      simp only [e1, Option.bind_some, Option.toList_some, Option.toList_none, List.cons_append, List.nil_append, List.append_nil, List.length_cons, List.length_nil, true_or, or_true, eq_self, b01_0, b01_1, b01_2, b01_3, b01_4, Nat.zero_le, Nat.reduceAdd, Nat.reduceLeDiff, ↓reduceIte, not_true_eq_false, not_false_eq_true, Bool.false_eq_true]
    | true =>
      refine ⟨_, G', ⟨rfl, .int (stA R C wa ki i), rfl⟩, ?_⟩
      have e1 : lsI (mA R C ki go tl) (stA R C wa ki) (i + 1) = if stA R C wa ki i < lsI (mA R C ki go tl) (stA R C wa ki) i then stA R C wa ki i else lsI (mA R C ki go tl) (stA R C wa ki) i := by show (if mayB (nN R C) ki go tl i then _ else _) = _; rw [hm]; rfl
      rw [e1]
      by_cases c : stA R C wa ki i < lsI (mA R C ki go tl) (stA R C wa ki) i <;> simp only [c, Option.bind_some, Option.toList_some, Option.toList_none, List.cons_append, List.nil_append, List.append_nil, List.length_cons, List.length_nil, true_or, or_true, eq_self, b01_0, b01_1, b01_2, b01_3, b01_4, Nat.zero_le, Nat.reduceAdd, Nat.reduceLeDiff, ↓reduceIte, not_true_eq_false, not_false_eq_true, Bool.false_eq_true]) _ _ ⟨rfl, .null, rfl⟩
  subst hG hl
  have h2 : ¬ nI (2 ^ nN R C) < nI (2 ^ nN R C) := nI_nlt (Nat.le_refl _) (by omega)
  rw [h0]
  refine Eq.trans he ?_
  rw [h_154_5]
  simp only [e_154, rm_f h, r_all h hs, h2, Option.bind_some, Option.toList_some, Option.toList_none, List.cons_append, List.nil_append, List.append_nil, List.length_cons, List.length_nil, true_or, or_true, eq_self, b01_0, b01_1, b01_2, b01_3, b01_4, Nat.zero_le, Nat.reduceAdd, Nat.reduceLeDiff, ↓reduceIte, not_true_eq_false, not_false_eq_true, Bool.false_eq_true]
def okV (R C : Nat) (ki go tl wa : Nat → Int32) (v : Int32) (a : Nat) : Bool := mayB (nN R C) ki go tl a && decide (stA R C wa ki a = v)
set_option maxHeartbeats 1000000 in
theorem r_find (h : rm G su tr R C U tu tl ki go wa ol hs so sr rs ce cp fa pa) (hs : sh R C) (v i : Int32) : mc_ev X 156 0 [.ref 90, .int v, .int i, .null, .null] [] G = some (some (.int (fdR i (scan (okV R C ki go tl wa v) i (2 ^ nN R C) 0 0))), G) := by
  have hp := pN hs
  have h0 : mc_ev X 156 0 [.ref 90, .int v, .int i, .null, .null] [] G = mc_ev X 156 5 [.ref 90, .int v, .int i, .int 0, .int 0] [] G := by
    simp only [e_156, Option.bind_some, Option.toList_some, Option.toList_none, List.cons_append, List.nil_append, List.append_nil, List.length_cons, List.length_nil, true_or, or_true, eq_self, b01_0, b01_1, b01_2, b01_3, b01_4, Nat.zero_le, Nat.reduceAdd, Nat.reduceLeDiff, ↓reduceIte, not_true_eq_false, not_false_eq_true, Bool.false_eq_true]
  have key : ∀ r a n, a + r = 2 ^ nN R C → mc_ev X 156 5 [.ref 90, .int v, .int i, .int (nI n), .int (nI a)] [] G = some (some (.int (fdR i (scan (okV R C ki go tl wa v) i r a n))), G) := by
    intro r
    induction r with
    | zero =>
      intro a n ha
      have h2 : ¬ nI a < nI (2 ^ nN R C) := nI_nlt (by omega) (by omega)
      rw [h_156_5]
      simp only [e_156, rm_f h, r_all h hs, h2, Option.bind_some, Option.toList_some, Option.toList_none, List.cons_append, List.nil_append, List.append_nil, List.length_cons, List.length_nil, true_or, or_true, eq_self, b01_0, b01_1, b01_2, b01_3, b01_4, Nat.zero_le, Nat.reduceAdd, Nat.reduceLeDiff, ↓reduceIte, not_true_eq_false, not_false_eq_true, Bool.false_eq_true]
      show _ = some (some (Value.int (if i < 0 then nI n else -9)), G)
      by_cases c : i < 0 <;> simp only [c, Option.bind_some, Option.toList_some, Option.toList_none, List.cons_append, List.nil_append, List.append_nil, List.length_cons, List.length_nil, true_or, or_true, eq_self, b01_0, b01_1, b01_2, b01_3, b01_4, Nat.zero_le, Nat.reduceAdd, Nat.reduceLeDiff, ↓reduceIte, not_true_eq_false, not_false_eq_true, Bool.false_eq_true]
    | succ r ih =>
      intro a n ha
      have h1 : nI a < nI (2 ^ nN R C) := nI_lt (by omega) (by omega)
      rw [h_156_5]
      simp only [e_156, rm_f h, r_all h hs, h1, r_mayBe h hs (A := a) (by omega), r_strainOf h hs (A := a) (by omega), nI_1, Option.bind_some, Option.toList_some, Option.toList_none, List.cons_append, List.nil_append, List.append_nil, List.length_cons, List.length_nil, true_or, or_true, eq_self, b01_0, b01_1, b01_2, b01_3, b01_4, Nat.zero_le, Nat.reduceAdd, Nat.reduceLeDiff, ↓reduceIte, not_true_eq_false, not_false_eq_true, Bool.false_eq_true]
      show _ = some (some (Value.int (fdR i (if okV R C ki go tl wa v a then (if nI n = i then (some a, n) else scan (okV R C ki go tl wa v) i r (a + 1) (n + 1)) else scan (okV R C ki go tl wa v) i r (a + 1) n))), G)
      unfold okV
      cases hm : mayB (nN R C) ki go tl a with
      | false => simp only [Bool.false_and, Option.bind_some, Option.toList_some, Option.toList_none, List.cons_append, List.nil_append, List.append_nil, List.length_cons, List.length_nil, true_or, or_true, eq_self, b01_0, b01_1, b01_2, b01_3, b01_4, Nat.zero_le, Nat.reduceAdd, Nat.reduceLeDiff, ↓reduceIte, not_true_eq_false, not_false_eq_true, Bool.false_eq_true]; exact ih (a + 1) n (by omega)
      | true =>
        by_cases c : stA R C wa ki a = v
        · by_cases c2 : nI n = i
          · simp only [c, c2, Option.bind_some, Option.toList_some, Option.toList_none, List.cons_append, List.nil_append, List.append_nil, List.length_cons, List.length_nil, true_or, or_true, eq_self, b01_0, b01_1, b01_2, b01_3, b01_4, Nat.zero_le, Nat.reduceAdd, Nat.reduceLeDiff, ↓reduceIte, not_true_eq_false, not_false_eq_true, Bool.false_eq_true, Bool.true_and, decide_true]; rfl
          · simp only [c, c2, Option.bind_some, Option.toList_some, Option.toList_none, List.cons_append, List.nil_append, List.append_nil, List.length_cons, List.length_nil, true_or, or_true, eq_self, b01_0, b01_1, b01_2, b01_3, b01_4, Nat.zero_le, Nat.reduceAdd, Nat.reduceLeDiff, ↓reduceIte, not_true_eq_false, not_false_eq_true, Bool.false_eq_true, Bool.true_and, decide_true]; exact ih (a + 1) (n + 1) (by omega)
        · simp only [c, Option.bind_some, Option.toList_some, Option.toList_none, List.cons_append, List.nil_append, List.append_nil, List.length_cons, List.length_nil, true_or, or_true, eq_self, b01_0, b01_1, b01_2, b01_3, b01_4, Nat.zero_le, Nat.reduceAdd, Nat.reduceLeDiff, ↓reduceIte, not_true_eq_false, not_false_eq_true, Bool.false_eq_true, Bool.true_and, decide_false]; exact ih (a + 1) n (by omega)
  rw [h0]
  exact key _ 0 0 (by omega)
set_option maxHeartbeats 1000000 in
theorem r_above (h : rm G su tr R C U tu tl ki go wa ol hs so sr rs ce cp fa pa) (hs : sh R C) (v : Int32) : mc_ev X 162 0 [.ref 90, .int v, .null, .null, .null] [] G = some (some (.int (abI (mA R C ki go tl) (stA R C wa ki) v (2 ^ nN R C))), G) := by
  have hp := pN hs
  have h0 : mc_ev X 162 0 [.ref 90, .int v, .null, .null, .null] [] G = mc_ev X 162 10 [.ref 90, .int v, .int (-9), .int 0, .null] [] G := by
    simp only [e_162, rm_t h, Option.bind_some, Option.toList_some, Option.toList_none, List.cons_append, List.nil_append, List.append_nil, List.length_cons, List.length_nil, true_or, or_true, eq_self, b01_0, b01_1, b01_2, b01_3, b01_4, Nat.zero_le, Nat.reduceAdd, Nat.reduceLeDiff, ↓reduceIte, not_true_eq_false, not_false_eq_true, Bool.false_eq_true]
  obtain ⟨ls', G', ⟨hG, v3, hl⟩, he⟩ := ev_inv (X := X) (k := 162) (pc := 10) (fun i ls G' => G' = G ∧ ∃ v3, ls = [.ref 90, .int v, .int (abI (mA R C ki go tl) (stA R C wa ki) v i), .int (nI i), v3]) (2 ^ nN R C) (by
    rintro i hi ls G' ⟨rfl, v3, rfl⟩
    have h1 : nI i < nI (2 ^ nN R C) := nI_lt hi (by omega)
    rw [h_162_10]
    simp only [e_162, rm_f h, r_all h hs, h1, r_mayBe h hs (A := i) (by omega), r_strainOf h hs (A := i) (by omega), nI_1, Option.bind_some, Option.toList_some, Option.toList_none, List.cons_append, List.nil_append, List.append_nil, List.length_cons, List.length_nil, true_or, or_true, eq_self, b01_0, b01_1, b01_2, b01_3, b01_4, Nat.zero_le, Nat.reduceAdd, Nat.reduceLeDiff, ↓reduceIte, not_true_eq_false, not_false_eq_true, Bool.false_eq_true]
    cases hm : mayB (nN R C) ki go tl i with
    | false =>
      refine ⟨_, G', ⟨rfl, v3, rfl⟩, ?_⟩
      have e1 : abI (mA R C ki go tl) (stA R C wa ki) v (i + 1) = abI (mA R C ki go tl) (stA R C wa ki) v i := by show (if mayB (nN R C) ki go tl i then _ else _) = _; rw [hm]; rfl
      simp only [e1, Option.bind_some, Option.toList_some, Option.toList_none, List.cons_append, List.nil_append, List.append_nil, List.length_cons, List.length_nil, true_or, or_true, eq_self, b01_0, b01_1, b01_2, b01_3, b01_4, Nat.zero_le, Nat.reduceAdd, Nat.reduceLeDiff, ↓reduceIte, not_true_eq_false, not_false_eq_true, Bool.false_eq_true]
    | true =>
      refine ⟨_, G', ⟨rfl, .int (stA R C wa ki i), rfl⟩, ?_⟩
      have e1 : abI (mA R C ki go tl) (stA R C wa ki) v (i + 1) = if v < stA R C wa ki i ∧ (abI (mA R C ki go tl) (stA R C wa ki) v i = -9 ∨ stA R C wa ki i < abI (mA R C ki go tl) (stA R C wa ki) v i) then stA R C wa ki i else abI (mA R C ki go tl) (stA R C wa ki) v i := by show (if mayB (nN R C) ki go tl i then _ else _) = _; rw [hm]; rfl
      rw [e1]
      generalize abI (mA R C ki go tl) (stA R C wa ki) v i = q
      by_cases c1 : v < stA R C wa ki i
      · by_cases c2 : q = -9
        · simp only [c1, c2, Option.bind_some, Option.toList_some, Option.toList_none, List.cons_append, List.nil_append, List.append_nil, List.length_cons, List.length_nil, true_or, or_true, eq_self, b01_0, b01_1, b01_2, b01_3, b01_4, Nat.zero_le, Nat.reduceAdd, Nat.reduceLeDiff, ↓reduceIte, not_true_eq_false, not_false_eq_true, Bool.false_eq_true, and_true]
        · by_cases c3 : stA R C wa ki i < q <;> simp only [c1, c2, c3, Option.bind_some, Option.toList_some, Option.toList_none, List.cons_append, List.nil_append, List.append_nil, List.length_cons, List.length_nil, true_or, or_true, eq_self, b01_0, b01_1, b01_2, b01_3, b01_4, Nat.zero_le, Nat.reduceAdd, Nat.reduceLeDiff, ↓reduceIte, not_true_eq_false, not_false_eq_true, Bool.false_eq_true, and_true, or_false, false_or, and_false]
      · simp only [c1, Option.bind_some, Option.toList_some, Option.toList_none, List.cons_append, List.nil_append, List.append_nil, List.length_cons, List.length_nil, true_or, or_true, eq_self, b01_0, b01_1, b01_2, b01_3, b01_4, Nat.zero_le, Nat.reduceAdd, Nat.reduceLeDiff, ↓reduceIte, not_true_eq_false, not_false_eq_true, Bool.false_eq_true, false_and]) _ _ ⟨rfl, .null, rfl⟩
  subst hG hl
  have h2 : ¬ nI (2 ^ nN R C) < nI (2 ^ nN R C) := nI_nlt (Nat.le_refl _) (by omega)
  rw [h0]
  refine Eq.trans he ?_
  rw [h_162_10]
  simp only [e_162, rm_f h, r_all h hs, h2, Option.bind_some, Option.toList_some, Option.toList_none, List.cons_append, List.nil_append, List.append_nil, List.length_cons, List.length_nil, true_or, or_true, eq_self, b01_0, b01_1, b01_2, b01_3, b01_4, Nat.zero_le, Nat.reduceAdd, Nat.reduceLeDiff, ↓reduceIte, not_true_eq_false, not_false_eq_true, Bool.false_eq_true]
def alB (R C : Nat) (ki go tl wa : Nat → Int32) (v : Int32) (j a : Nat) : Bool := !okV R C ki go tl wa v a || decide (bt (nN R C) a (fs R C j) = bt (nN R C) a (sn R C j))
def dfB (R C : Nat) (ki go tl wa : Nat → Int32) (v : Int32) (j a : Nat) : Bool := !okV R C ki go tl wa v a || !decide (bt (nN R C) a (fs R C j) = bt (nN R C) a (sn R C j))
set_option maxHeartbeats 2000000 in
theorem r_sure (h : rm G su tr R C U tu tl ki go wa ol hs so sr rs ce cp fa pa) (hs : sh R C) {j : Nat} (hj : j < nJ R C) : mc_ev X 159 0 [.ref 90, .int (nI j), .null, .null, .null, .null, .null] [] G = some (some (.int (if allB (alB R C ki go tl wa (lsI (mA R C ki go tl) (stA R C wa ki) (2 ^ nN R C)) j) (2 ^ nN R C) then 1 else if allB (dfB R C ki go tl wa (lsI (mA R C ki go tl) (stA R C wa ki) (2 ^ nN R C)) j) (2 ^ nN R C) then -1 else 0)), G) := by
  have hp := pN hs
  have hb1 := sh_b hs
  have hf := fs_b hs hj
  have hj1 : (0 ≤ nI j ∧ nI j ≤ nI (nJ R C) - 1) = True := eq_true ⟨nI_pos' (by omega), nI_le1 (by omega) hj⟩
  generalize hL : lsI (mA R C ki go tl) (stA R C wa ki) (2 ^ nN R C) = LE
  have h0 : mc_ev X 159 0 [.ref 90, .int (nI j), .null, .null, .null, .null, .null] [] G = mc_ev X 159 29 [.ref 90, .int (nI j), .int LE, .int 1, .int 1, .int 0, .null] [] G := by
    simp only [e_159, rm_f h, rm_t h, r_isJoint h hs, hj1, r_leastOf h hs, hL, Option.bind_some, Option.toList_some, Option.toList_none, List.cons_append, List.nil_append, List.append_nil, List.length_cons, List.length_nil, true_or, or_true, eq_self, b01_0, b01_1, b01_2, b01_3, b01_4, Nat.zero_le, Nat.reduceAdd, Nat.reduceLeDiff, ↓reduceIte, not_true_eq_false, not_false_eq_true, Bool.false_eq_true]
  obtain ⟨ls', G', ⟨hG, v3, hl⟩, he⟩ := ev_inv (X := X) (k := 159) (pc := 29) (fun i ls G' => G' = G ∧ ∃ v3, ls = [.ref 90, .int (nI j), .int LE, .int (if allB (alB R C ki go tl wa LE j) i then 1 else 0), .int (if allB (dfB R C ki go tl wa LE j) i then 1 else 0), .int (nI i), v3]) (2 ^ nN R C) (by
    rintro i hi ls G' ⟨rfl, v3, rfl⟩
    have h1 : nI i < nI (2 ^ nN R C) := nI_lt hi (by omega)
    have b1 := bt_lt (nN R C) i (fs R C j)
    have b2 := bt_lt (nN R C) i (sn R C j)
    have h2 : (nI (bt (nN R C) i (fs R C j)) = nI (bt (nN R C) i (sn R C j))) = (bt (nN R C) i (fs R C j) = bt (nN R C) i (sn R C j)) := propext (nI_eq (by omega) (by omega))
    rw [h_159_29]
    simp only [e_159, rm_f h, r_all h hs, h1, r_mayBe h hs (A := i) (by omega), r_strainOf h hs (A := i) (by omega), r_needles h, r_end h hs hj, r_bitOf (X := X) (G := G') (A := i) (by omega) hb1.2.1 (i := fs R C j) (by omega), r_bitOf (X := X) (G := G') (A := i) (by omega) hb1.2.1 (i := sn R C j) (by omega), h2, nI_1, Option.bind_some, Option.toList_some, Option.toList_none, List.cons_append, List.nil_append, List.append_nil, List.length_cons, List.length_nil, true_or, or_true, eq_self, b01_0, b01_1, b01_2, b01_3, b01_4, Nat.zero_le, Nat.reduceAdd, Nat.reduceLeDiff, ↓reduceIte, not_true_eq_false, not_false_eq_true, Bool.false_eq_true]
    have ea : allB (alB R C ki go tl wa LE j) (i + 1) = (allB (alB R C ki go tl wa LE j) i && alB R C ki go tl wa LE j i) := rfl
    have ed : allB (dfB R C ki go tl wa LE j) (i + 1) = (allB (dfB R C ki go tl wa LE j) i && dfB R C ki go tl wa LE j i) := rfl
    rw [ea, ed]
    unfold alB dfB okV
    cases hm : mayB (nN R C) ki go tl i with
    | false =>
      refine ⟨_, G', ⟨rfl, v3, rfl⟩, ?_⟩
      simp only [Bool.false_and, Bool.not_false, Bool.true_or, Bool.and_true, Option.bind_some, Option.toList_some, Option.toList_none, List.cons_append, List.nil_append, List.append_nil, List.length_cons, List.length_nil, true_or, or_true, eq_self, b01_0, b01_1, b01_2, b01_3, b01_4, Nat.zero_le, Nat.reduceAdd, Nat.reduceLeDiff, ↓reduceIte, not_true_eq_false, not_false_eq_true, Bool.false_eq_true]
    | true =>
      by_cases c : stA R C wa ki i = LE
      · refine ⟨_, G', ⟨rfl, .int (if bt (nN R C) i (fs R C j) = bt (nN R C) i (sn R C j) then 1 else 0), rfl⟩, ?_⟩
        rw [← and01, ← and01]
        by_cases c2 : bt (nN R C) i (fs R C j) = bt (nN R C) i (sn R C j) <;> simp only [c, c2, Option.bind_some, Option.toList_some, Option.toList_none, List.cons_append, List.nil_append, List.append_nil, List.length_cons, List.length_nil, true_or, or_true, eq_self, b01_0, b01_1, b01_2, b01_3, b01_4, Nat.zero_le, Nat.reduceAdd, Nat.reduceLeDiff, ↓reduceIte, not_true_eq_false, not_false_eq_true, Bool.false_eq_true, Bool.true_and, decide_true, decide_false, Bool.not_true, Bool.not_false, Bool.false_or]
      · refine ⟨_, G', ⟨rfl, v3, rfl⟩, ?_⟩
        simp only [c, Option.bind_some, Option.toList_some, Option.toList_none, List.cons_append, List.nil_append, List.append_nil, List.length_cons, List.length_nil, true_or, or_true, eq_self, b01_0, b01_1, b01_2, b01_3, b01_4, Nat.zero_le, Nat.reduceAdd, Nat.reduceLeDiff, ↓reduceIte, not_true_eq_false, not_false_eq_true, Bool.false_eq_true, Bool.true_and, decide_false, Bool.not_false, Bool.true_or, Bool.and_true]) _ _ ⟨rfl, .null, rfl⟩
  subst hG hl
  have h2 : ¬ nI (2 ^ nN R C) < nI (2 ^ nN R C) := nI_nlt (Nat.le_refl _) (by omega)
  rw [h0]
  refine Eq.trans he ?_
  rw [h_159_29]
  simp only [e_159, rm_f h, r_all h hs, h2, Option.bind_some, Option.toList_some, Option.toList_none, List.cons_append, List.nil_append, List.append_nil, List.length_cons, List.length_nil, true_or, or_true, eq_self, b01_0, b01_1, b01_2, b01_3, b01_4, Nat.zero_le, Nat.reduceAdd, Nat.reduceLeDiff, ↓reduceIte, not_true_eq_false, not_false_eq_true, Bool.false_eq_true]
  cases allB (alB R C ki go tl wa LE j) (2 ^ nN R C) <;> cases allB (dfB R C ki go tl wa LE j) (2 ^ nN R C) <;> simp only [Option.bind_some, Option.toList_some, Option.toList_none, List.cons_append, List.nil_append, List.append_nil, List.length_cons, List.length_nil, true_or, or_true, eq_self, b01_0, b01_1, b01_2, b01_3, b01_4, Nat.zero_le, Nat.reduceAdd, Nat.reduceLeDiff, ↓reduceIte, not_true_eq_false, not_false_eq_true, Bool.false_eq_true]
end REF
