/-! the class: the landscape, what it reads -/
def ld (G : mc_H) (stale : Int32) (SZ HD HP : Nat) (lw : Int32) (sts : Nat → Int32) : Prop :=
  G[72]? = some (.inr (.inr (2, [.ref 73, .int stale, .int (nI SZ), .int (nI HD), .int (nI HP), .int lw]))) ∧ G[73]? = some (.inl (0, 4096, sts))
def mbB (HD HP a : Nat) : Bool := decide (a &&& HD = HP)
def cntB (ok : Nat → Bool) : Nat → Nat
  | 0 => 0
  | a + 1 => if ok a then cntB ok a + 1 else cntB ok a
theorem cntB_le (ok : Nat → Bool) : ∀ a, cntB ok a ≤ a
  | 0 => Nat.le_refl 0
  | a + 1 => by
    have := cntB_le ok a
    show (if ok a then cntB ok a + 1 else cntB ok a) ≤ a + 1
    split <;> omega
def nxI (may : Nat → Bool) (st : Nat → Int32) (v : Int32) : Nat → Int32
  | 0 => 10000000
  | a + 1 => if v < st a ∧ st a < nxI may st v a ∧ may a = true then st a else nxI may st v a
def anyB (ok : Nat → Bool) : Nat → Bool
  | 0 => false
  | a + 1 => anyB ok a || ok a
theorem or01 (a b : Bool) : ((if a then (1 : Int32) else 0) ||| (if b then (1 : Int32) else 0)) = if (a || b) then 1 else 0 := by cases a <;> cases b <;> decide
section CLS
variable {X : mc_X} {G : mc_H} {stale lw : Int32} {SZ HD HP : Nat} {sts : Nat → Int32}
theorem ld_f (h : ld G stale SZ HD HP lw sts) : mc_cls G 72 = some 2 ∧ mc_getf G 72 2 0 = some (.ref 73) ∧ mc_getf G 72 2 1 = some (.int stale) ∧ mc_getf G 72 2 2 = some (.int (nI SZ)) ∧ mc_getf G 72 2 3 = some (.int (nI HD)) ∧ mc_getf G 72 2 4 = some (.int (nI HP)) ∧ mc_getf G 72 2 5 = some (.int lw) ∧ (∀ j, j < 4096 → mc_getA X G 0 (.ref 73) (nI j) = some (sts j)) := by
  obtain ⟨h1, h2⟩ := h
  exact ⟨cl_n h1, gf_n h1 0, gf_n h1 1, gf_n h1 2, gf_n h1 3, gf_n h1 4, gf_n h1 5, ga_n h2 (by decide)⟩
theorem c_mayBe (h : ld G stale SZ HD HP lw sts) {a : Nat} (ha : a < 4096) (hP : HP < 4096) : mc_ev X 13 0 [.ref 72, .int (nI a)] [] G = some (some (.int (if mbB HD HP a then 1 else 0)), G) := by
  have e1 : (nI (a &&& HD) = nI HP) = (a &&& HD = HP) := propext (nI_eq (Nat.lt_of_le_of_lt Nat.and_le_left (by omega)) (by omega))
  simp only [e_13, ld_f (X := X) h, nx_and, e1, Option.bind_some, Option.toList_some, Option.toList_none, List.cons_append, List.nil_append, List.append_nil, List.length_cons, List.length_nil, true_or, or_true, eq_self, b01_0, b01_1, b01_2, b01_3, b01_4, Nat.zero_le, Nat.reduceAdd, Nat.reduceLeDiff, ↓reduceIte, not_true_eq_false, not_false_eq_true, Bool.false_eq_true]
  unfold mbB
  by_cases c : a &&& HD = HP <;> simp only [c, Option.bind_some, Option.toList_some, Option.toList_none, List.cons_append, List.nil_append, List.append_nil, List.length_cons, List.length_nil, true_or, or_true, eq_self, b01_0, b01_1, b01_2, b01_3, b01_4, Nat.zero_le, Nat.reduceAdd, Nat.reduceLeDiff, ↓reduceIte, not_true_eq_false, not_false_eq_true, Bool.false_eq_true, decide_true, decide_false]
theorem c_countWith (h : ld G stale SZ HD HP lw sts) (hS : SZ ≤ 4096) (hP : HP < 4096) (v : Int32) : mc_ev X 14 0 [.ref 72, .int v, .null, .null] [] G = some (some (.int (nI (cntB (fun a => mbB HD HP a && decide (sts a = v)) SZ))), G) := by
  have h0 : mc_ev X 14 0 [.ref 72, .int v, .null, .null] [] G = mc_ev X 14 4 [.ref 72, .int v, .int 0, .int 0] [] G := by
    simp only [e_14, Option.bind_some, Option.toList_some, Option.toList_none, List.cons_append, List.nil_append, List.append_nil, List.length_cons, List.length_nil, true_or, or_true, eq_self, b01_0, b01_1, b01_2, b01_3, b01_4, Nat.zero_le, Nat.reduceAdd, Nat.reduceLeDiff, ↓reduceIte, not_true_eq_false, not_false_eq_true, Bool.false_eq_true]
  have hl := ev_loop (X := X) (k := 14) (pc := 4) (fun i => [.ref 72, .int v, .int (nI (cntB (fun a => mbB HD HP a && decide (sts a = v)) i)), .int (nI i)]) (fun _ => G) SZ (by
    intro i hi
    have h1 : nI i < nI SZ := nI_lt hi (by omega)
    have h4 : i < 4096 := by omega
    rw [h_14_4]
    simp only [e_14, ld_f (X := X) h, h1, h4, c_mayBe h h4 hP, nI_1, Option.bind_some, Option.toList_some, Option.toList_none, List.cons_append, List.nil_append, List.append_nil, List.length_cons, List.length_nil, true_or, or_true, eq_self, b01_0, b01_1, b01_2, b01_3, b01_4, Nat.zero_le, Nat.reduceAdd, Nat.reduceLeDiff, ↓reduceIte, not_true_eq_false, not_false_eq_true, Bool.false_eq_true]
    show _ = mc_ev X 14 4 [.ref 72, .int v, .int (nI (if (mbB HD HP i && decide (sts i = v)) = true then cntB (fun a => mbB HD HP a && decide (sts a = v)) i + 1 else cntB (fun a => mbB HD HP a && decide (sts a = v)) i)), .int (nI (i + 1))] [] G
    by_cases c : sts i = v
    · cases mbB HD HP i <;> simp only [c, Option.bind_some, Option.toList_some, Option.toList_none, List.cons_append, List.nil_append, List.append_nil, List.length_cons, List.length_nil, true_or, or_true, eq_self, b01_0, b01_1, b01_2, b01_3, b01_4, Nat.zero_le, Nat.reduceAdd, Nat.reduceLeDiff, ↓reduceIte, not_true_eq_false, not_false_eq_true, Bool.false_eq_true, Bool.true_and, Bool.false_and, decide_true]
    · simp only [c, Option.bind_some, Option.toList_some, Option.toList_none, List.cons_append, List.nil_append, List.append_nil, List.length_cons, List.length_nil, true_or, or_true, eq_self, b01_0, b01_1, b01_2, b01_3, b01_4, Nat.zero_le, Nat.reduceAdd, Nat.reduceLeDiff, ↓reduceIte, not_true_eq_false, not_false_eq_true, Bool.false_eq_true, decide_false, Bool.and_false])
  have h2 : ¬ nI SZ < nI SZ := nI_nlt (Nat.le_refl _) (by omega)
  rw [h0]
  refine Eq.trans hl ?_
  rw [h_14_4]
  simp only [e_14, ld_f (X := X) h, h2, Option.bind_some, Option.toList_some, Option.toList_none, List.cons_append, List.nil_append, List.append_nil, List.length_cons, List.length_nil, true_or, or_true, eq_self, b01_0, b01_1, b01_2, b01_3, b01_4, Nat.zero_le, Nat.reduceAdd, Nat.reduceLeDiff, ↓reduceIte, not_true_eq_false, not_false_eq_true, Bool.false_eq_true]
def pkR (q : Option Nat × Nat) : Int32 := match q.1 with
  | some b => nI b
  | none => -9
theorem c_pick (h : ld G stale SZ HD HP lw sts) (hS : SZ ≤ 4096) (hP : HP < 4096) (v i : Int32) : mc_ev X 15 0 [.ref 72, .int v, .int i, .null, .null] [] G = some (some (.int (pkR (scan (fun a => mbB HD HP a && decide (sts a = v)) i SZ 0 0))), G) := by
  have h0 : mc_ev X 15 0 [.ref 72, .int v, .int i, .null, .null] [] G = mc_ev X 15 5 [.ref 72, .int v, .int i, .int 0, .int 0] [] G := by
    simp only [e_15, Option.bind_some, Option.toList_some, Option.toList_none, List.cons_append, List.nil_append, List.append_nil, List.length_cons, List.length_nil, true_or, or_true, eq_self, b01_0, b01_1, b01_2, b01_3, b01_4, Nat.zero_le, Nat.reduceAdd, Nat.reduceLeDiff, ↓reduceIte, not_true_eq_false, not_false_eq_true, Bool.false_eq_true]
  have key : ∀ r a n, a + r = SZ → mc_ev X 15 5 [.ref 72, .int v, .int i, .int (nI n), .int (nI a)] [] G = some (some (.int (pkR (scan (fun a => mbB HD HP a && decide (sts a = v)) i r a n))), G) := by
    intro r
    induction r with
    | zero =>
      intro a n ha
      have h2 : ¬ nI a < nI SZ := nI_nlt (by omega) (by omega)
      rw [h_15_5]
      simp only [e_15, ld_f (X := X) h, h2, Option.bind_some, Option.toList_some, Option.toList_none, List.cons_append, List.nil_append, List.append_nil, List.length_cons, List.length_nil, true_or, or_true, eq_self, b01_0, b01_1, b01_2, b01_3, b01_4, Nat.zero_le, Nat.reduceAdd, Nat.reduceLeDiff, ↓reduceIte, not_true_eq_false, not_false_eq_true, Bool.false_eq_true]
      rfl
    | succ r ih =>
      intro a n ha
      have h1 : nI a < nI SZ := nI_lt (by omega) (by omega)
      have h4 : a < 4096 := by omega
      rw [h_15_5]
      simp only [e_15, ld_f (X := X) h, h1, h4, c_mayBe h h4 hP, nI_1, Option.bind_some, Option.toList_some, Option.toList_none, List.cons_append, List.nil_append, List.append_nil, List.length_cons, List.length_nil, true_or, or_true, eq_self, b01_0, b01_1, b01_2, b01_3, b01_4, Nat.zero_le, Nat.reduceAdd, Nat.reduceLeDiff, ↓reduceIte, not_true_eq_false, not_false_eq_true, Bool.false_eq_true]
      show _ = some (some (Value.int (pkR (if (mbB HD HP a && decide (sts a = v)) = true then (if nI n = i then (some a, n) else scan (fun a => mbB HD HP a && decide (sts a = v)) i r (a + 1) (n + 1)) else scan (fun a => mbB HD HP a && decide (sts a = v)) i r (a + 1) n))), G)
      by_cases c : sts a = v
      · cases mbB HD HP a with
        | false => simp only [c, Option.bind_some, Option.toList_some, Option.toList_none, List.cons_append, List.nil_append, List.append_nil, List.length_cons, List.length_nil, true_or, or_true, eq_self, b01_0, b01_1, b01_2, b01_3, b01_4, Nat.zero_le, Nat.reduceAdd, Nat.reduceLeDiff, ↓reduceIte, not_true_eq_false, not_false_eq_true, Bool.false_eq_true, Bool.false_and]; exact ih (a + 1) n (by omega)
        | true =>
          by_cases c2 : nI n = i
          · simp only [c, c2, Option.bind_some, Option.toList_some, Option.toList_none, List.cons_append, List.nil_append, List.append_nil, List.length_cons, List.length_nil, true_or, or_true, eq_self, b01_0, b01_1, b01_2, b01_3, b01_4, Nat.zero_le, Nat.reduceAdd, Nat.reduceLeDiff, ↓reduceIte, not_true_eq_false, not_false_eq_true, Bool.false_eq_true, Bool.true_and, decide_true]; rfl
          · simp only [c, c2, Option.bind_some, Option.toList_some, Option.toList_none, List.cons_append, List.nil_append, List.append_nil, List.length_cons, List.length_nil, true_or, or_true, eq_self, b01_0, b01_1, b01_2, b01_3, b01_4, Nat.zero_le, Nat.reduceAdd, Nat.reduceLeDiff, ↓reduceIte, not_true_eq_false, not_false_eq_true, Bool.false_eq_true, Bool.true_and, decide_true]; exact ih (a + 1) (n + 1) (by omega)
      · simp only [c, Option.bind_some, Option.toList_some, Option.toList_none, List.cons_append, List.nil_append, List.append_nil, List.length_cons, List.length_nil, true_or, or_true, eq_self, b01_0, b01_1, b01_2, b01_3, b01_4, Nat.zero_le, Nat.reduceAdd, Nat.reduceLeDiff, ↓reduceIte, not_true_eq_false, not_false_eq_true, Bool.false_eq_true, decide_false, Bool.and_false]; exact ih (a + 1) n (by omega)
  rw [h0]
  exact key _ 0 0 (by omega)
theorem c_nextAfter (h : ld G stale SZ HD HP lw sts) (hS : SZ ≤ 4096) (hP : HP < 4096) (v : Int32) : mc_ev X 16 0 [.ref 72, .int v, .null, .null] [] G = some (some (.int (if nxI (mbB HD HP) sts v SZ = 10000000 then -9 else nxI (mbB HD HP) sts v SZ)), G) := by
  have h0 : mc_ev X 16 0 [.ref 72, .int v, .null, .null] [] G = mc_ev X 16 5 [.ref 72, .int v, .int 10000000, .int 0] [] G := by
    simp only [e_16, Option.bind_some, Option.toList_some, Option.toList_none, List.cons_append, List.nil_append, List.append_nil, List.length_cons, List.length_nil, true_or, or_true, eq_self, b01_0, b01_1, b01_2, b01_3, b01_4, Nat.zero_le, Nat.reduceAdd, Nat.reduceLeDiff, ↓reduceIte, not_true_eq_false, not_false_eq_true, Bool.false_eq_true]
  have hl := ev_loop (X := X) (k := 16) (pc := 5) (fun i => [.ref 72, .int v, .int (nxI (mbB HD HP) sts v i), .int (nI i)]) (fun _ => G) SZ (by
    intro i hi
    have h1 : nI i < nI SZ := nI_lt hi (by omega)
    have h4 : i < 4096 := by omega
    rw [h_16_5]
    simp only [e_16, ld_f (X := X) h, h1, h4, c_mayBe h h4 hP, nI_1, Option.bind_some, Option.toList_some, Option.toList_none, List.cons_append, List.nil_append, List.append_nil, List.length_cons, List.length_nil, true_or, or_true, eq_self, b01_0, b01_1, b01_2, b01_3, b01_4, Nat.zero_le, Nat.reduceAdd, Nat.reduceLeDiff, ↓reduceIte, not_true_eq_false, not_false_eq_true, Bool.false_eq_true]
    show _ = mc_ev X 16 5 [.ref 72, .int v, .int (if v < sts i ∧ sts i < nxI (mbB HD HP) sts v i ∧ mbB HD HP i = true then sts i else nxI (mbB HD HP) sts v i), .int (nI (i + 1))] [] G
    generalize nxI (mbB HD HP) sts v i = q
    by_cases c1 : v < sts i
    · by_cases c2 : sts i < q
      · cases mbB HD HP i <;> simp only [c1, c2, Option.bind_some, Option.toList_some, Option.toList_none, List.cons_append, List.nil_append, List.append_nil, List.length_cons, List.length_nil, true_or, or_true, eq_self, b01_0, b01_1, b01_2, b01_3, b01_4, Nat.zero_le, Nat.reduceAdd, Nat.reduceLeDiff, ↓reduceIte, not_true_eq_false, not_false_eq_true, Bool.false_eq_true, and_true, and_false]
      · simp only [c1, c2, Option.bind_some, Option.toList_some, Option.toList_none, List.cons_append, List.nil_append, List.append_nil, List.length_cons, List.length_nil, true_or, or_true, eq_self, b01_0, b01_1, b01_2, b01_3, b01_4, Nat.zero_le, Nat.reduceAdd, Nat.reduceLeDiff, ↓reduceIte, not_true_eq_false, not_false_eq_true, Bool.false_eq_true, false_and, and_false]
    · simp only [c1, Option.bind_some, Option.toList_some, Option.toList_none, List.cons_append, List.nil_append, List.append_nil, List.length_cons, List.length_nil, true_or, or_true, eq_self, b01_0, b01_1, b01_2, b01_3, b01_4, Nat.zero_le, Nat.reduceAdd, Nat.reduceLeDiff, ↓reduceIte, not_true_eq_false, not_false_eq_true, Bool.false_eq_true, false_and])
  have h2 : ¬ nI SZ < nI SZ := nI_nlt (Nat.le_refl _) (by omega)
  rw [h0]
  refine Eq.trans hl ?_
  rw [h_16_5]
  simp only [e_16, ld_f (X := X) h, h2, Option.bind_some, Option.toList_some, Option.toList_none, List.cons_append, List.nil_append, List.append_nil, List.length_cons, List.length_nil, true_or, or_true, eq_self, b01_0, b01_1, b01_2, b01_3, b01_4, Nat.zero_le, Nat.reduceAdd, Nat.reduceLeDiff, ↓reduceIte, not_true_eq_false, not_false_eq_true, Bool.false_eq_true]
  by_cases c : nxI (mbB HD HP) sts v SZ = 10000000 <;> simp only [c, Option.bind_some, Option.toList_some, Option.toList_none, List.cons_append, List.nil_append, List.append_nil, List.length_cons, List.length_nil, true_or, or_true, eq_self, b01_0, b01_1, b01_2, b01_3, b01_4, Nat.zero_le, Nat.reduceAdd, Nat.reduceLeDiff, ↓reduceIte, not_true_eq_false, not_false_eq_true, Bool.false_eq_true]
end CLS
