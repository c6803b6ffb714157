/-! the class: settings taken over, kept -/
def sc (T O L a b : Nat) : mc_C := .inr (.inr (5, [.int (nI T), .int (nI O), .int (nI L), .ref a, .ref b]))
def sg (G : mc_H) (k a b T O L : Nat) (K W : Nat → Int32) : Prop := G[k]? = some (sc T O L a b) ∧ G[a]? = some (.inl (0, 12, K)) ∧ G[b]? = some (.inl (0, 17, W))
section SE
variable {X : mc_X} {G G' : mc_H} {k a b T O L : Nat} {K W : Nat → Int32}
theorem se_f (h : sg G k a b T O L K W) : mc_cls G k = some 5 ∧ mc_getf G k 5 0 = some (.int (nI T)) ∧ mc_getf G k 5 1 = some (.int (nI O)) ∧ mc_getf G k 5 2 = some (.int (nI L)) ∧ mc_getf G k 5 3 = some (.ref a) ∧ mc_getf G k 5 4 = some (.ref b) := ⟨cl_n h.1, gf_n h.1 0, gf_n h.1 1, gf_n h.1 2, gf_n h.1 3, gf_n h.1 4⟩
theorem se_w0 (h : sg G k a b T O L K W) (v : Nat) : mc_setf G k 5 0 (.int (nI v)) = some (G.set k (sc v O L a b)) := sf_n h.1 (Nat.le_of_ble_eq_true rfl) rfl
theorem se_w1 (h : sg G k a b T O L K W) (v : Nat) : mc_setf G k 5 1 (.int (nI v)) = some (G.set k (sc T v L a b)) := sf_n h.1 (Nat.le_of_ble_eq_true rfl) rfl
theorem se_w2 (h : sg G k a b T O L K W) (v : Nat) : mc_setf G k 5 2 (.int (nI v)) = some (G.set k (sc T O v a b)) := sf_n h.1 (Nat.le_of_ble_eq_true rfl) rfl
theorem se_set (h : sg G k a b T O L K W) (h1 : k ≠ a) (h2 : k ≠ b) (T' O' L' : Nat) : sg (G.set k (sc T' O' L' a b)) k a b T' O' L' K W := ⟨gs_self h.1, (gs_ne h1).trans h.2.1, (gs_ne h2).trans h.2.2⟩
theorem se_ag (h : sg G k a b T O L K W) (h1 : G'[k]? = G[k]?) (h2 : G'[a]? = G[a]?) (h3 : G'[b]? = G[b]?) : sg G' k a b T O L K W := ⟨h1.trans h.1, h2.trans h.2.1, h3.trans h.2.2⟩
theorem cp_n {a0 a1 n0 n1 sp dp n : Nat} {f g : Nat → Int32} (h0 : G[a0]? = some (.inl (0, n0, f))) (h1 : G[a1]? = some (.inl (0, n1, g))) (hs : sp + n ≤ n0) (hd : dp + n ≤ n1) (b0 : n0 < 2 ^ 31) (b1 : n1 < 2 ^ 31) : mc_cpy G a0 a1 (nI sp) (nI dp) (nI n) = some (G.set a1 (.inl (0, n1, va_cpy f g sp dp n))) := by
  unfold mc_cpy
  rw [h0, h1]
  dsimp only
  rw [nI_clamp (n := sp) (by omega), nI_clamp (n := dp) (by omega), nI_clamp (n := n) (by omega), if_pos ⟨rfl, rfl, nI_pos (by omega), nI_pos (by omega), nI_pos (by omega), hs, hd⟩]
theorem c_takeOver {s a' b' T' O' L' : Nat} {K' W' : Nat → Int32} (h : sg G k a b T O L K W) (g : sg G s a' b' T' O' L' K' W') (n1 : k ≠ a) (n2 : k ≠ b) (n3 : k ≠ s) (n4 : k ≠ a') (n5 : k ≠ b') (n6 : a ≠ b) (n7 : a ≠ s) (n8 : a ≠ b') : ∃ G', mc_ev X 47 0 [.ref k, .ref s] [] G = some (none, G') ∧ (∀ j, j ≠ k → j ≠ a → j ≠ b → G'[j]? = G[j]?) ∧ sg G' k a b T' O' L' (va_cpy K' K 0 0 12) (va_cpy W' W 0 0 17) := by
  have e0 := se_w0 h T'
  have h1 := se_set h n1 n2 T' O L
  have g1 := se_ag (G' := G.set k (sc T' O L a b)) g (gs_ne n3) (gs_ne n4) (gs_ne n5)
  have e1 := se_w1 h1 O'
  rw [List.set_set] at e1
  have h2 := se_set h n1 n2 T' O' L
  have g2 := se_ag (G' := G.set k (sc T' O' L a b)) g (gs_ne n3) (gs_ne n4) (gs_ne n5)
  have e2 := se_w2 h2 L'
  rw [List.set_set] at e2
  have h3 := se_set h n1 n2 T' O' L'
  have g3 := se_ag (G' := G.set k (sc T' O' L' a b)) g (gs_ne n3) (gs_ne n4) (gs_ne n5)
  have e3 : mc_cpy (G.set k (sc T' O' L' a b)) a' a 0 0 12 = _ := cp_n (sp := 0) (dp := 0) (n := 12) g3.2.1 h3.2.1 (by decide) (by decide) (by decide) (by decide)
  have h4 : sg ((G.set k (sc T' O' L' a b)).set a (.inl (0, 12, va_cpy K' K 0 0 12))) k a b T' O' L' (va_cpy K' K 0 0 12) W := ⟨(gs_ne n1.symm).trans h3.1, gs_self h3.2.1, (gs_ne n6).trans h3.2.2⟩
  have g4 : ((G.set k (sc T' O' L' a b)).set a (.inl (0, 12, va_cpy K' K 0 0 12)))[s]? = some (sc T' O' L' a' b') := (gs_ne n7).trans g3.1
  have g5 : ((G.set k (sc T' O' L' a b)).set a (.inl (0, 12, va_cpy K' K 0 0 12)))[b']? = some (.inl (0, 17, W')) := (gs_ne n8).trans g3.2.2
  have e4 : mc_cpy ((G.set k (sc T' O' L' a b)).set a (.inl (0, 12, va_cpy K' K 0 0 12))) b' b 0 0 17 = _ := cp_n (sp := 0) (dp := 0) (n := 17) g5 h4.2.2 (by decide) (by decide) (by decide) (by decide)
  refine ⟨((G.set k (sc T' O' L' a b)).set a (.inl (0, 12, va_cpy K' K 0 0 12))).set b (.inl (0, 17, va_cpy W' W 0 0 17)), ?_, ?_, ?_⟩
  · have g4f := gf_n g4 4
    have g4f' : mc_getf ((G.set k (sc T' O' L' a b)).set a (.inl (0, 12, va_cpy K' K 0 0 12))) s 5 4 = some (.ref b') := g4f
    simp only [e_47, se_f g, e0, se_f g1, e1, se_f g2, e2, se_f g3, se_f h3, e3, g4f', se_f h4, e4, Option.bind_some, Option.toList_some, Option.toList_none, List.cons_append, List.nil_append, List.append_nil, List.length_cons, List.length_nil, true_or, or_true, eq_self, b01_0, b01_1, b01_2, b01_3, b01_4, Nat.zero_le, Nat.reduceAdd, Nat.reduceLeDiff, ↓reduceIte, not_true_eq_false, not_false_eq_true, Bool.false_eq_true]
  · intro j j1 j2 j3
    rw [gs_ne (Ne.symm j3), gs_ne (Ne.symm j2), gs_ne (Ne.symm j1)]
  · exact ⟨(gs_ne n2.symm).trans h4.1, (gs_ne n6.symm).trans h4.2.1, gs_self h4.2.2⟩
end SE
def hc (nx sz : Nat) : mc_C := .inr (.inr (1, [.ref 11, .int (nI nx), .int (nI sz)]))
theorem rem20 {n : Nat} (h : n < 2 ^ 31) : nI n - nI n / 20 * 20 = nI (n % 20) := pk_rem (d := 20) h (by decide) (by decide)
theorem k20 : (((20 : Int32) = 0) = False) ∧ (((12 : Int32) = 0) = False) := ⟨eq_false (by decide +kernel), eq_false (by decide +kernel)⟩
theorem mn_20 {n : Nat} (h : n < 2 ^ 31) : (if (20 : Int32) < nI n then (20 : Int32) else nI n) = nI (min n 20) := by
  have := mn_n (a := 20) (b := n) (by decide) h
  rw [Nat.min_comm] at this
  exact this
section HY
variable {X : mc_X} {G : mc_H} {nx sz : Nat} {kq : Nat → Option Nat} {hT hO hL : Nat → Nat} {hK hW : Nat → Nat → Int32}
theorem hy_se (h : hy G nx sz kq hT hO hL hK hW) {i : Nat} (hi : i < 20) : sg G (12 + 3 * i) (13 + 3 * i) (14 + 3 * i) (hT i) (hO i) (hL i) (hK i) (hW i) := h.2.2.2.1 i hi
theorem hy_q (h : hy G nx sz kq hT hO hL hK hW) {i : Nat} (hi : i < 20) : mc_getQ G 11 (nI i) = some (12 + 3 * i) := by
  unfold mc_getQ
  rw [h.2.1]
  dsimp only
  rw [if_pos ⟨Or.inl rfl, nI_in hi (by decide)⟩, nI_clamp (by omega)]
  exact h.2.2.1 i hi
theorem hy_w1 (h : G[10]? = some (hc nx sz)) (v : Nat) : mc_setf G 10 1 1 (.int (nI v)) = some (G.set 10 (hc v sz)) := sf_n h (Nat.le_of_ble_eq_true rfl) rfl
theorem hy_w2 (h : G[10]? = some (hc nx sz)) (v : Nat) : mc_setf G 10 1 2 (.int (nI v)) = some (G.set 10 (hc nx v)) := sf_n h (Nat.le_of_ble_eq_true rfl) rfl
theorem hc_f (h : G[10]? = some (hc nx sz)) : mc_cls G 10 = some 1 ∧ mc_getf G 10 1 0 = some (.ref 11) ∧ mc_getf G 10 1 1 = some (.int (nI nx)) ∧ mc_getf G 10 1 2 = some (.int (nI sz)) := ⟨cl_n h, gf_n h 0, gf_n h 1, gf_n h 2⟩
variable {R C rim TB OB LB : Nat} {fi se lo hi ks ws : Nat → Int32}
theorem pl_se (h : pl G R C rim fi se lo hi TB OB LB ks ws) : sg G 7 8 9 TB OB LB ks ws := ⟨h.2.2.2.2.2.2.1, h.2.2.2.2.2.2.2.1, h.2.2.2.2.2.2.2.2⟩
theorem c_keep (h : hy G nx sz kq hT hO hL hK hW) (hp : pl G R C rim fi se lo hi TB OB LB ks ws) : ∃ G', mc_ev X 7 0 [.ref 10, .ref 7] [] G = some (none, G') ∧ (∀ j, j < 10 ∨ 72 ≤ j → G'[j]? = G[j]?) ∧ hy G' ((nx + 1) % 20) (min (sz + 1) 20) kq (va_up hT nx TB) (va_up hO nx OB) (va_up hL nx LB) (va_up hK nx (va_cpy ks (hK nx) 0 0 12)) (va_up hW nx (va_cpy ws (hW nx) 0 0 17)) := by
  have hnx := h.2.2.2.2.1
  have hsz := h.2.2.2.2.2
  obtain ⟨G1, q1, q2, q3⟩ := c_takeOver (X := X) (hy_se h hnx) (pl_se hp) (by omega) (by omega) (by omega) (by omega) (by omega) (by omega) (by omega) (by omega)
  have t1 : G1[10]? = some (hc nx sz) := (q2 10 (by omega) (by omega) (by omega)).trans h.1
  have e1 := hy_w1 t1 ((nx + 1) % 20)
  have t2 : (G1.set 10 (hc ((nx + 1) % 20) sz))[10]? = some (hc ((nx + 1) % 20) sz) := gs_self t1
  have e2 := hy_w2 t2 (min (sz + 1) 20)
  rw [List.set_set] at e2
  have ag : ∀ j, j ≠ 10 → j ≠ 12 + 3 * nx → j ≠ 13 + 3 * nx → j ≠ 14 + 3 * nx → (G1.set 10 (hc ((nx + 1) % 20) (min (sz + 1) 20)))[j]? = G[j]? := by
    intro j j0 j1 j2 j3
    rw [gs_ne (Ne.symm j0)]
    exact q2 j j1 j2 j3
  refine ⟨G1.set 10 (hc ((nx + 1) % 20) (min (sz + 1) 20)), ?_, ?_, ?_⟩
  · simp only [e_7, hy_f h, hy_q h hnx, se_f (hy_se h hnx), q1, hc_f t1, nI_1, k20, rem20 (n := nx + 1) (by omega), e1, hc_f t2, mn_20 (n := sz + 1) (by omega), e2, Option.bind_some, Option.toList_some, Option.toList_none, List.cons_append, List.nil_append, List.append_nil, List.length_cons, List.length_nil, true_or, or_true, eq_self, b01_0, b01_1, b01_2, b01_3, b01_4, Nat.zero_le, Nat.reduceAdd, Nat.reduceLeDiff, ↓reduceIte, not_true_eq_false, not_false_eq_true, Bool.false_eq_true]
  · intro j hj
    exact ag j (by omega) (by omega) (by omega) (by omega)
  · refine ⟨gs_self t1, (ag 11 (by omega) (by omega) (by omega) (by omega)).trans h.2.1, h.2.2.1, fun i hi => ?_, Nat.mod_lt _ (by decide), Nat.min_le_right _ _⟩
    by_cases c : i = nx
    · subst c
      rw [va_up_self, va_up_self, va_up_self, va_up_self, va_up_self]
      exact ⟨(gs_ne (by omega)).trans q3.1, (gs_ne (by omega)).trans q3.2.1, (gs_ne (by omega)).trans q3.2.2⟩
    · rw [va_up_ne _ _ c, va_up_ne _ _ c, va_up_ne _ _ c, va_up_ne _ _ c, va_up_ne _ _ c]
      obtain ⟨a1, a2, a3⟩ := h.2.2.2.1 i hi
      exact ⟨(ag _ (by omega) (by omega) (by omega) (by omega)).trans a1, (ag _ (by omega) (by omega) (by omega) (by omega)).trans a2, (ag _ (by omega) (by omega) (by omega) (by omega)).trans a3⟩
end HY
section LD
variable {X : mc_X} {G : mc_H} {stale lw : Int32} {SZ HD HP : Nat} {sts : Nat → Int32}
def lc (stale : Int32) (SZ HD HP : Nat) (lw : Int32) : mc_C := .inr (.inr (2, [.ref 73, .int stale, .int (nI SZ), .int (nI HD), .int (nI HP), .int lw]))
theorem ld_x1 (h : ld G stale SZ HD HP lw sts) : mc_setf G 72 2 1 (.int 1) = some (G.set 72 (lc 1 SZ HD HP lw)) := sf_n h.1 (Nat.le_of_ble_eq_true rfl) rfl
theorem ld_xs (h : ld G stale SZ HD HP lw sts) (s : Int32) : ld (G.set 72 (lc s SZ HD HP lw)) s SZ HD HP lw sts := ⟨gs_self h.1, (gs_ne (by decide)).trans h.2⟩
variable {tr : Int64} {su : Int32} {nx sz : Nat} {kq : Nat → Option Nat} {hT hO hL : Nat → Nat} {hK hW : Nat → Nat → Int32} {R C rim TB OB LB : Nat} {fi se lo hi ks ws : Nat → Int32}
theorem c_keepAndReshape (h0 : tp G tr su) (hl : ld G stale SZ HD HP lw sts) (h : hy G nx sz kq hT hO hL hK hW) (hp : pl G R C rim fi se lo hi TB OB LB ks ws) : ∃ G', mc_ev X 109 0 [.ref 0] [] G = some (none, G') ∧ (∀ j, j < 10 ∨ 73 ≤ j → G'[j]? = G[j]?) ∧ ld G' 1 SZ HD HP lw sts ∧ hy G' ((nx + 1) % 20) (min (sz + 1) 20) kq (va_up hT nx TB) (va_up hO nx OB) (va_up hL nx LB) (va_up hK nx (va_cpy ks (hK nx) 0 0 12)) (va_up hW nx (va_cpy ws (hW nx) 0 0 17)) := by
  obtain ⟨G1, q1, q2, q3⟩ := c_keep (X := X) h hp
  have t0 := tp_ag h0 (q2 0 (by omega))
  have l1 := ld_ag hl (G' := G1) (fun k a b => q2 k (by omega))
  refine ⟨G1.set 72 (lc 1 SZ HD HP lw), ?_, ?_, ld_xs l1 1, ?_⟩
  · simp only [e_109, tp_f h0, pl_f hp, hy_f h, q1, tp_f t0, ld_x1 l1, Option.bind_some, Option.toList_some, Option.toList_none, List.cons_append, List.nil_append, List.append_nil, List.length_cons, List.length_nil, true_or, or_true, eq_self, b01_0, b01_1, b01_2, b01_3, b01_4, Nat.zero_le, Nat.reduceAdd, Nat.reduceLeDiff, ↓reduceIte, not_true_eq_false, not_false_eq_true, Bool.false_eq_true]
  · intro j hj
    rw [gs_ne (by omega)]
    exact q2 j (by omega)
  · exact hy_ag q3 (fun k a b => gs_ne (by omega))
end LD
