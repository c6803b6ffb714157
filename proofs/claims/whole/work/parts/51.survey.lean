/-! the class: the survey of the landscape -/
def ldc (stale : Int32) (SZ HD HP : Nat) (lw : Int32) : mc_C := .inr (.inr (2, [.ref 73, .int stale, .int (nI SZ), .int (nI HD), .int (nI HP), .int lw]))
section LD
variable {G : mc_H} {stale lw : Int32} {SZ HD HP : Nat} {sts : Nat → Int32}
theorem ld_w1 (h : ld G stale SZ HD HP lw sts) (s : Int32) (hs : s = 0 ∨ s = 1) : mc_setf G 72 2 1 (.int s) = some (G.set 72 (ldc s SZ HD HP lw)) := sf_n h.1 (Nat.le_of_ble_eq_true rfl) (by rcases hs with rfl | rfl <;> rfl)
theorem ld_w2 (h : ld G stale SZ HD HP lw sts) (s : Nat) : mc_setf G 72 2 2 (.int (nI s)) = some (G.set 72 (ldc stale s HD HP lw)) := sf_n h.1 (Nat.le_of_ble_eq_true rfl) rfl
theorem ld_w3 (h : ld G stale SZ HD HP lw sts) (s : Nat) : mc_setf G 72 2 3 (.int (nI s)) = some (G.set 72 (ldc stale SZ s HP lw)) := sf_n h.1 (Nat.le_of_ble_eq_true rfl) rfl
theorem ld_w4 (h : ld G stale SZ HD HP lw sts) (s : Nat) : mc_setf G 72 2 4 (.int (nI s)) = some (G.set 72 (ldc stale SZ HD s lw)) := sf_n h.1 (Nat.le_of_ble_eq_true rfl) rfl
theorem ld_w5 (h : ld G stale SZ HD HP lw sts) (s : Int32) : mc_setf G 72 2 5 (.int s) = some (G.set 72 (ldc stale SZ HD HP s)) := sf_n h.1 (Nat.le_of_ble_eq_true rfl) rfl
theorem ld_set (h : ld G stale SZ HD HP lw sts) (s' : Int32) (S' H' P' : Nat) (l' : Int32) : ld (G.set 72 (ldc s' S' H' P' l')) s' S' H' P' l' sts := ⟨gs_self h.1, (gs_ne (by decide)).trans h.2⟩
theorem ld_arr (h : ld G stale SZ HD HP lw sts) (f : Nat → Int32) : ld (G.set 73 (.inl (0, 4096, f))) stale SZ HD HP lw f := ⟨(gs_ne (by decide)).trans h.1, gs_self h.2⟩
end LD
section CLS
variable {L : Nat} {xs : Nat → Int32} {G : mc_H} {R C rim TB OB LB : Nat} {fi se lo hi ks ws : Nat → Int32} {stale lw : Int32} {SZ HD HP : Nat} {sts : Nat → Int32}
set_option maxHeartbeats 2000000 in
theorem c_addNeedle (h : pl G R C rim fi se lo hi TB OB LB ks ws) (hp : pv R C rim fi se lo hi TB OB LB ks ws) (hl : ld G stale SZ HD HP lw sts) {n : Nat} (hn : n < nN R C) : ∃ F : Nat → Int32, mc_ev (mc_X0 L xs) 12 0 [.ref 72, .ref 1, .int (nI n), .null, .null, .null, .null, .null, .null, .null, .null] [] G = some (none, G.set 73 (.inl (0, 4096, F))) ∧ (∀ k, k < 2 ^ (nN R C - 1 - n) → F k = sts k) ∧ ∀ k, k < 2 ^ (nN R C - 1 - n) → F (2 ^ (nN R C - 1 - n) + k) = fdV (fdS R C ws ks n (nJ R C)) (sts k) k := by
  have hb1 := sh_b hp.1
  have hbit : 2 ^ (nN R C - 1 - n) ≤ 2 ^ 11 := Nat.pow_le_pow_right (by decide) (by omega)
  have hpos := Nat.two_pow_pos (nN R C - 1 - n)
  have h0 : mc_ev (mc_X0 L xs) 12 0 [.ref 72, .ref 1, .int (nI n), .null, .null, .null, .null, .null, .null, .null, .null] [] G = mc_ev (mc_X0 L xs) 12 24 [.ref 72, .ref 1, .int (nI n), .int (nI (2 ^ (nN R C - 1 - n))), .int 0, .int 0, .int 0, .int 0, .int 0, .int 0, .null] [] G := by
    simp only [e_12, pl_f h, c_bitOf h hp.1 hn, Option.bind_some, Option.toList_some, Option.toList_none, List.cons_append, List.nil_append, List.append_nil, List.length_cons, List.length_nil, true_or, or_true, eq_self, b01_0, b01_1, b01_2, b01_3, b01_4, Nat.zero_le, Nat.reduceAdd, Nat.reduceLeDiff, ↓reduceIte, not_true_eq_false, not_false_eq_true, Bool.false_eq_true]
  have hl1 := ev_loop (X := mc_X0 L xs) (k := 12) (pc := 24) (fun j => [.ref 72, .ref 1, .int (nI n), .int (nI (2 ^ (nN R C - 1 - n))), .int (fdS R C ws ks n j).1, .int (nI (fdS R C ws ks n j).2.1), .int (fdS R C ws ks n j).2.2.1, .int (nI (fdS R C ws ks n j).2.2.2.1), .int (fdS R C ws ks n j).2.2.2.2, .int (nI j), .null]) (fun _ => G) (nJ R C) (by
    intro j hj
    have h1 : nI j < nI (nJ R C) := nI_lt hj (by omega)
    have h17 : j < 17 := by omega
    have hf := fs_b hp.1 hj
    obtain ⟨hg1, hg2, -⟩ := hp.2.2.2.2.1 j hj
    have e1 : (nI (fs R C j) = nI n) = (fs R C j = n) := propext (nI_eq (by omega) (by omega))
    have e2 : fdS R C ws ks n (j + 1) = if fs R C j = n then (if toB R C j n then (fdS R C ws ks n j).1 + ct R C ws ks j else (fdS R C ws ks n j).1, (fdS R C ws ks n j).2.2.2.1, (fdS R C ws ks n j).2.2.2.2, 2 ^ (nN R C - 1 - sn R C j), 2 * ct R C ws ks j) else (if toB R C j n then (fdS R C ws ks n j).1 + ct R C ws ks j else (fdS R C ws ks n j).1, (fdS R C ws ks n j).2) := rfl
    rw [h_12_24]
    simp only [e_12, pl_f h, pl_g h, h17, h1, hg1, hg2, e1, c_touches h hp hj (n := n) (by omega), c_countOf h hp hj, c_bitOf h hp.1 (i := sn R C j) hf.2.1, nI_1, Option.bind_some, Option.toList_some, Option.toList_none, List.cons_append, List.nil_append, List.append_nil, List.length_cons, List.length_nil, true_or, or_true, eq_self, b01_0, b01_1, b01_2, b01_3, b01_4, Nat.zero_le, Nat.reduceAdd, Nat.reduceLeDiff, ↓reduceIte, not_true_eq_false, not_false_eq_true, Bool.false_eq_true]
    rw [e2]
    cases ht : toB R C j n <;> by_cases c : fs R C j = n <;> simp only [c, Option.bind_some, Option.toList_some, Option.toList_none, List.cons_append, List.nil_append, List.append_nil, List.length_cons, List.length_nil, true_or, or_true, eq_self, b01_0, b01_1, b01_2, b01_3, b01_4, Nat.zero_le, Nat.reduceAdd, Nat.reduceLeDiff, ↓reduceIte, not_true_eq_false, not_false_eq_true, Bool.false_eq_true])
  generalize hS : fdS R C ws ks n (nJ R C) = S at *
  obtain ⟨m, nb, nt, xb, xt⟩ := S
  have h2 : ¬ nI (nJ R C) < nI (nJ R C) := nI_nlt (Nat.le_refl _) (by omega)
  have h3 : mc_ev (mc_X0 L xs) 12 24 [.ref 72, .ref 1, .int (nI n), .int (nI (2 ^ (nN R C - 1 - n))), .int m, .int (nI nb), .int nt, .int (nI xb), .int xt, .int (nI (nJ R C)), .null] [] G = mc_ev (mc_X0 L xs) 12 114 [.ref 72, .ref 1, .int (nI n), .int (nI (2 ^ (nN R C - 1 - n))), .int m, .int (nI nb), .int nt, .int (nI xb), .int xt, .int 0, .null] [] G := by
    rw [h_12_24]
    simp only [e_12, pl_f h, h2, Option.bind_some, Option.toList_some, Option.toList_none, List.cons_append, List.nil_append, List.append_nil, List.length_cons, List.length_nil, true_or, or_true, eq_self, b01_0, b01_1, b01_2, b01_3, b01_4, Nat.zero_le, Nat.reduceAdd, Nat.reduceLeDiff, ↓reduceIte, not_true_eq_false, not_false_eq_true, Bool.false_eq_true]
  generalize hbe : 2 ^ (nN R C - 1 - n) = bit at *
  let gA : Nat → Nat → Int32 := fun a k => if bit ≤ k ∧ k < bit + a then fdV (m, nb, nt, xb, xt) (sts (k - bit)) (k - bit) else sts k
  have g0 : gA 0 = sts := by funext k; show (if bit ≤ k ∧ k < bit + 0 then _ else _) = _; rw [if_neg (by omega)]
  obtain ⟨ls', G', ⟨hG', v, hls⟩, he⟩ := ev_inv (X := mc_X0 L xs) (k := 12) (pc := 114) (fun a ls G' => G' = G.set 73 (.inl (0, 4096, gA a)) ∧ ∃ v, ls = [.ref 72, .ref 1, .int (nI n), .int (nI bit), .int m, .int (nI nb), .int nt, .int (nI xb), .int xt, .int (nI a), v]) bit (by
    rintro a ha ls G' ⟨rfl, v, rfl⟩
    have hla := ld_arr hl (gA a)
    have q1 : nI a < nI bit := nI_lt ha (by omega)
    have q2 : a < 4096 := by omega
    have q3 : bit + a < 4096 := by omega
    have gaa : gA a a = sts a := by show (if bit ≤ a ∧ a < bit + a then _ else _) = _; rw [if_neg (by omega)]
    have z1 : (nI (a &&& nb) = 0) = (a &&& nb = 0) := nI_is0 (Nat.lt_of_le_of_lt Nat.and_le_left (by omega))
    have z2 : (nI (a &&& xb) = 0) = (a &&& xb = 0) := nI_is0 (Nat.lt_of_le_of_lt Nat.and_le_left (by omega))
    have sA := fun x => sa_n (t := 0) (k := 73) hla.2 (by decide) (bit + a) x q3
    have up : ∀ x, x = fdV (m, nb, nt, xb, xt) (sts a) a → (G.set 73 (.inl (0, 4096, gA a))).set 73 (.inl (0, 4096, upd (gA a) (bit + a) x)) = G.set 73 (.inl (0, 4096, gA (a + 1))) := by
      intro x hx
      rw [List.set_set]
      congr 3
      congr 1
      congr 1
      funext k
      unfold upd
      show (if k = bit + a then x else (if bit ≤ k ∧ k < bit + a then _ else _)) = (if bit ≤ k ∧ k < bit + (a + 1) then _ else _)
      by_cases c : k = bit + a
      · subst c
        rw [if_pos rfl, if_pos (by omega), hx, show bit + a - bit = a by omega]
      · rw [if_neg c]
        by_cases c2 : bit ≤ k ∧ k < bit + a
        · rw [if_pos c2, if_pos (by omega)]
        · rw [if_neg c2, if_neg (by omega)]
    refine ⟨[.ref 72, .ref 1, .int (nI n), .int (nI bit), .int m, .int (nI nb), .int nt, .int (nI xb), .int xt, .int (nI (a + 1)), .int (fdV (m, nb, nt, xb, xt) (sts a) a)], _, ⟨rfl, _, rfl⟩, ?_⟩
    rw [← up _ rfl]
    rw [h_12_114]
    simp only [e_12, ld_f (X := mc_X0 L xs) hla, q1, q2, gaa, nx_and, z1, z2, nI_add, sA, nI_1, Option.bind_some, Option.toList_some, Option.toList_none, List.cons_append, List.nil_append, List.append_nil, List.length_cons, List.length_nil, true_or, or_true, eq_self, b01_0, b01_1, b01_2, b01_3, b01_4, Nat.zero_le, Nat.reduceAdd, Nat.reduceLeDiff, ↓reduceIte, not_true_eq_false, not_false_eq_true, Bool.false_eq_true]
    unfold fdV
    by_cases c1 : a &&& nb = 0 <;> by_cases c2 : a &&& xb = 0 <;> simp only [c1, c2, Option.bind_some, Option.toList_some, Option.toList_none, List.cons_append, List.nil_append, List.append_nil, List.length_cons, List.length_nil, true_or, or_true, eq_self, b01_0, b01_1, b01_2, b01_3, b01_4, Nat.zero_le, Nat.reduceAdd, Nat.reduceLeDiff, ↓reduceIte, not_true_eq_false, not_false_eq_true, Bool.false_eq_true, ld_f (X := mc_X0 L xs) hla, sA, e_12, nI_1, nI_add]) _ _ ⟨rfl, .null, rfl⟩
  subst hG' hls
  rw [g0, set_same hl.2] at he
  refine ⟨gA bit, ?_, ?_, ?_⟩
  · rw [h0]
    refine Eq.trans hl1 ?_
    refine Eq.trans h3 (Eq.trans he ?_)
    have h4 : ¬ nI bit < nI bit := nI_nlt (Nat.le_refl _) (by omega)
    rw [h_12_114]
    simp only [e_12, h4, Option.bind_some, Option.toList_some, Option.toList_none, List.cons_append, List.nil_append, List.append_nil, List.length_cons, List.length_nil, true_or, or_true, eq_self, b01_0, b01_1, b01_2, b01_3, b01_4, Nat.zero_le, Nat.reduceAdd, Nat.reduceLeDiff, ↓reduceIte, not_true_eq_false, not_false_eq_true, Bool.false_eq_true]
  · intro k hk
    show (if bit ≤ k ∧ k < bit + bit then _ else _) = _
    rw [if_neg (by omega)]
  · intro k hk
    show (if bit ≤ bit + k ∧ bit + k < bit + bit then _ else _) = _
    rw [if_pos (by omega), show bit + k - bit = k by omega]
end CLS
