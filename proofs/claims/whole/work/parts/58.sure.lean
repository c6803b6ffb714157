/-! rows: sure -/
def smB (p q a : Nat) : Bool := decide (a &&& p = 0) == decide (a &&& q = 0)
section CLS
variable {X : mc_X} {G : mc_H} {stale lw : Int32} {SZ HD HP : Nat} {sts : Nat → Int32}
set_option maxHeartbeats 1000000 in
theorem c_agreement (h : ld G stale SZ HD HP lw sts) (hS : SZ ≤ 4096) (hP : HP < 4096) (p q : Nat) : mc_ev X 17 0 [.ref 72, .int (nI p), .int (nI q), .null, .null, .null, .null] [] G = some (some (.int (if anyB (fun a => (mbB HD HP a && decide (sts a = lw)) && smB p q a) SZ = anyB (fun a => (mbB HD HP a && decide (sts a = lw)) && !smB p q a) SZ then 0 else if anyB (fun a => (mbB HD HP a && decide (sts a = lw)) && smB p q a) SZ then 1 else -1)), G) := by
  have h0 : mc_ev X 17 0 [.ref 72, .int (nI p), .int (nI q), .null, .null, .null, .null] [] G = mc_ev X 17 8 [.ref 72, .int (nI p), .int (nI q), .int 0, .int 0, .int 0, .null] [] G := by
    simp only [e_17, Option.bind_some, Option.toList_some, Option.toList_none, List.cons_append, List.nil_append, List.append_nil, List.length_cons, List.length_nil, true_or, or_true, eq_self, b01_0, b01_1, b01_2, b01_3, b01_4, Nat.zero_le, Nat.reduceAdd, Nat.reduceLeDiff, ↓reduceIte, not_true_eq_false, not_false_eq_true, Bool.false_eq_true]
  let f1 : Nat → Bool := fun a => (mbB HD HP a && decide (sts a = lw)) && smB p q a
  let f2 : Nat → Bool := fun a => (mbB HD HP a && decide (sts a = lw)) && !smB p q a
  obtain ⟨ls', G', ⟨hG, v, hl⟩, he⟩ := ev_inv (X := X) (k := 17) (pc := 8) (fun i ls G' => G' = G ∧ ∃ v, ls = [.ref 72, .int (nI p), .int (nI q), .int (if anyB f1 i then 1 else 0), .int (if anyB f2 i then 1 else 0), .int (nI i), v]) SZ (by
    rintro i hi ls G' ⟨rfl, v, rfl⟩
    have h1 : nI i < nI SZ := nI_lt hi (by omega)
    have h4 : i < 4096 := by omega
    have z1 : (nI (i &&& p) = 0) = (i &&& p = 0) := nI_is0 (Nat.lt_of_le_of_lt Nat.and_le_left (by omega))
    have z2 : (nI (i &&& q) = 0) = (i &&& q = 0) := nI_is0 (Nat.lt_of_le_of_lt Nat.and_le_left (by omega))
    have e1 : anyB f1 (i + 1) = (anyB f1 i || ((mbB HD HP i && decide (sts i = lw)) && smB p q i)) := rfl
    have e2 : anyB f2 (i + 1) = (anyB f2 i || ((mbB HD HP i && decide (sts i = lw)) && !smB p q i)) := rfl
    rw [h_17_8]
    simp only [e_17, ld_f (X := X) h, h1, h4, c_mayBe h h4 hP, nx_and, z1, z2, nI_1, Option.bind_some, Option.toList_some, Option.toList_none, List.cons_append, List.nil_append, List.append_nil, List.length_cons, List.length_nil, true_or, or_true, eq_self, b01_0, b01_1, b01_2, b01_3, b01_4, Nat.zero_le, Nat.reduceAdd, Nat.reduceLeDiff, ↓reduceIte, not_true_eq_false, not_false_eq_true, Bool.false_eq_true]
    rw [e1, e2]
    by_cases c : sts i = lw
    · cases hm : mbB HD HP i with
      | false =>
        refine ⟨_, G', ⟨rfl, v, rfl⟩, ?_⟩
        simp only [c, Option.bind_some, Option.toList_some, Option.toList_none, List.cons_append, List.nil_append, List.append_nil, List.length_cons, List.length_nil, true_or, or_true, eq_self, b01_0, b01_1, b01_2, b01_3, b01_4, Nat.zero_le, Nat.reduceAdd, Nat.reduceLeDiff, ↓reduceIte, not_true_eq_false, not_false_eq_true, Bool.false_eq_true, Bool.false_and, Bool.or_false]
      | true =>
        refine ⟨_, G', ⟨rfl, .int (if smB p q i then 1 else 0), rfl⟩, ?_⟩
        rw [← or01, ← or01]
        unfold smB
        by_cases c1 : i &&& p = 0 <;> by_cases c2 : i &&& q = 0 <;> simp [c, c1, c2, e_17, nI_1, b01_2]
    · refine ⟨_, G', ⟨rfl, v, rfl⟩, ?_⟩
      simp only [c, Option.bind_some, Option.toList_some, Option.toList_none, List.cons_append, List.nil_append, List.append_nil, List.length_cons, List.length_nil, true_or, or_true, eq_self, b01_0, b01_1, b01_2, b01_3, b01_4, Nat.zero_le, Nat.reduceAdd, Nat.reduceLeDiff, ↓reduceIte, not_true_eq_false, not_false_eq_true, Bool.false_eq_true, decide_false, Bool.and_false, Bool.false_and, Bool.or_false]) _ _ ⟨rfl, .null, rfl⟩
  subst hG hl
  have h2 : ¬ nI SZ < nI SZ := nI_nlt (Nat.le_refl _) (by omega)
  rw [h0]
  refine Eq.trans he ?_
  rw [h_17_8]
  simp only [e_17, ld_f (X := X) h, h2, Option.bind_some, Option.toList_some, Option.toList_none, List.cons_append, List.nil_append, List.append_nil, List.length_cons, List.length_nil, true_or, or_true, eq_self, b01_0, b01_1, b01_2, b01_3, b01_4, Nat.zero_le, Nat.reduceAdd, Nat.reduceLeDiff, ↓reduceIte, not_true_eq_false, not_false_eq_true, Bool.false_eq_true]
  show _ = some (some (Value.int (if anyB f1 SZ = anyB f2 SZ then 0 else if anyB f1 SZ then 1 else -1)), G')
  cases anyB f1 SZ <;> cases anyB f2 SZ <;> simp [b01_2]
end CLS
theorem any_all {f g : Nat → Bool} : ∀ n, (∀ a, a < n → g a = !f a) → allB g n = !anyB f n
  | 0, _ => rfl
  | n + 1, h => by
    show (allB g n && g n) = !(anyB f n || f n)
    rw [any_all n (fun a ha => h a (by omega)), h n (by omega), Bool.not_or]
