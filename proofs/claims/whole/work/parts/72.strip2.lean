/-! rows: row, put, item -/
theorem cc48 (u : Nat) : (48 : Int32) * nI u = nI (48 * u) := pk_mul 48 u
theorem cc12 (u : Nat) : (12 : Int32) * nI u = nI (12 * u) := pk_mul 12 u
theorem n_m1 {n : Nat} (h : n < 2 ^ 31) : (nI n = -1) = False := eq_false (fun q => nI_pos h (by rw [q]; decide))
theorem n_m9 {n : Nat} (h : n < 2 ^ 31) : (nI n = -9) = False := eq_false (fun q => nI_pos h (by rw [q]; decide))
section ROWS
variable {L : Nat} {xs : Nat → Int32}
set_option maxHeartbeats 1000000 in
theorem R27 : lw_R27 L xs Inv := by
  intro a x n G hG
  refine inv_elim hG ?_
  intro R C rim fi se lo hi TB OB LB ks ws stale lw SZ HD HP sts nx sz kq hT hO hL hK hW sq sv rv le nu di ch tr su U tu tl ki go wa ol hs so sr rs ce cp fa pa hpl hpv hld hhs hsp htp hpr hrm hr1 hr2 hr3 hr4
  have hC := (rm_f hrm).1
  have hTT := fun s => inv_tt hpl hpv hld hhs hsp htp hpr hrm hr1 hr2 hr3 hr4 tr s
  have r1 : ∀ s, rm (G.set 0 (top tr s)) su tr R C U tu tl ki go wa ol hs so sr rs ce cp fa pa := fun s => rm_ag hrm (fun k a b => gs_ne (by omega))
  have f1 := fun s => rm_f (r1 s)
  have g1 := fun s => rm_t (r1 s)
  have w1 := fun s => rm_w1 (r1 s) 0
  have r2 := fun s => rm_set (r1 s) 0 tr R C U
  have f2 := fun s => rm_f (r2 s)
  have a2 := fun s => rm_a (X := mc_X0 L xs) (r2 s)
  have n2 : ∀ s w, mc_ev (mc_X0 L xs) 163 0 [.ref 90, .int w] [] ((G.set 0 (top tr s)).set 90 (rmc 0 tr R C U)) = some (some (.int w), (G.set 0 (top tr s)).set 90 (rmc w tr R C U)) := fun s w => by rw [r_no (r2 s) w, List.set_set]
  rcases ix_of a (N := 4) (by decide) with hb | ⟨i, hin, rfl⟩
  · have hx : (0 ≤ a ∧ a ≤ 3) = False := ix_no (N := 4) (by decide) (by decide) hb
    refine rfu hC (s := -1) ?_ ?_ (hTT _)
    · simp only [e_88, tp_f htp, c_isNoStrip, no_no hb, c_refuse htp, Option.bind_some, Option.toList_some, Option.toList_none, List.cons_append, List.nil_append, List.append_nil, List.length_cons, List.length_nil, true_or, or_true, eq_self, b01_0, b01_1, b01_2, b01_3, b01_4, Nat.zero_le, Nat.reduceAdd, Nat.reduceLeDiff, ↓reduceIte, not_true_eq_false, not_false_eq_true, Bool.false_eq_true]
    · simp only [e_165, f1, g1, w1, f2, r_in, hx, n2, Option.bind_some, Option.toList_some, Option.toList_none, List.cons_append, List.nil_append, List.append_nil, List.length_cons, List.length_nil, true_or, or_true, eq_self, b01_0, b01_1, b01_2, b01_3, b01_4, Nat.zero_le, Nat.reduceAdd, Nat.reduceLeDiff, ↓reduceIte, not_true_eq_false, not_false_eq_true, Bool.false_eq_true]
  have hno := no_yes (N := 4) hin (by decide)
  have hye : (0 ≤ nI i ∧ nI i ≤ 3) = True := ix_yes (N := 4) hin (by decide)
  by_cases b12 : 12 < n
  · refine rfu hC (s := -1) ?_ ?_ (hTT _)
    · simp only [e_88, tp_f htp, c_isNoStrip, hno, b12, c_refuse htp, Option.bind_some, Option.toList_some, Option.toList_none, List.cons_append, List.nil_append, List.append_nil, List.length_cons, List.length_nil, true_or, or_true, eq_self, b01_0, b01_1, b01_2, b01_3, b01_4, Nat.zero_le, Nat.reduceAdd, Nat.reduceLeDiff, ↓reduceIte, not_true_eq_false, not_false_eq_true, Bool.false_eq_true]
    · simp only [e_165, f1, g1, w1, f2, r_in, hye, b12, n2, Option.bind_some, Option.toList_some, Option.toList_none, List.cons_append, List.nil_append, List.append_nil, List.length_cons, List.length_nil, true_or, or_true, eq_self, b01_0, b01_1, b01_2, b01_3, b01_4, Nat.zero_le, Nat.reduceAdd, Nat.reduceLeDiff, ↓reduceIte, not_true_eq_false, not_false_eq_true, Bool.false_eq_true]
  have hk := sp_k hsp hin
  have hkf := sk_f (X := mc_X0 L xs) hk
  rcases hr4 i hin with ⟨ab, h0⟩ | ⟨h1, N, hN, e1, e2, ⟨m, hm, e3, e4⟩, hrow⟩
  · refine rfu hC (s := -11) ?_ ?_ (hTT _)
    · simp only [e_88, tp_f htp, c_isNoStrip, hno, b12, sp_q hsp hin, hkf, k_isAbsent hk, ab, c_refuse htp, Option.bind_some, Option.toList_some, Option.toList_none, List.cons_append, List.nil_append, List.append_nil, List.length_cons, List.length_nil, true_or, or_true, eq_self, b01_0, b01_1, b01_2, b01_3, b01_4, Nat.zero_le, Nat.reduceAdd, Nat.reduceLeDiff, ↓reduceIte, not_true_eq_false, not_false_eq_true, Bool.false_eq_true]
    · simp only [e_165, f1, g1, w1, f2, r_in, hye, b12, a2, hin, h0, n2, Option.bind_some, Option.toList_some, Option.toList_none, List.cons_append, List.nil_append, List.append_nil, List.length_cons, List.length_nil, true_or, or_true, eq_self, b01_0, b01_1, b01_2, b01_3, b01_4, Nat.zero_le, Nat.reduceAdd, Nat.reduceLeDiff, ↓reduceIte, not_true_eq_false, not_false_eq_true, Bool.false_eq_true]
  have ea := n_m1 (n := N) (by omega)
  rcases jx_of x (N := N) (by omega) with ⟨cx, cm⟩ | ⟨r, hr, rfl⟩
  · refine rfu hC (s := -12) ?_ ?_ (hTT _)
    · simp only [e_88, tp_f htp, c_isNoStrip, hno, b12, sp_q hsp hin, hkf, k_isAbsent hk, e1, ea, k_lacksRow hk, cx, c_refuse htp, Option.bind_some, Option.toList_some, Option.toList_none, List.cons_append, List.nil_append, List.append_nil, List.length_cons, List.length_nil, true_or, or_true, eq_self, b01_0, b01_1, b01_2, b01_3, b01_4, Nat.zero_le, Nat.reduceAdd, Nat.reduceLeDiff, ↓reduceIte, not_true_eq_false, not_false_eq_true, Bool.false_eq_true]
    · simp only [e_165, f1, g1, w1, f2, r_in, hye, b12, a2, hin, h1, e2, cm, n2, Option.bind_some, Option.toList_some, Option.toList_none, List.cons_append, List.nil_append, List.append_nil, List.length_cons, List.length_nil, true_or, or_true, eq_self, b01_0, b01_1, b01_2, b01_3, b01_4, Nat.zero_le, Nat.reduceAdd, Nat.reduceLeDiff, ↓reduceIte, not_true_eq_false, not_false_eq_true, Bool.false_eq_true]
  have cx := no_yes (N := N) hr (by omega)
  have cm := ix_yes (N := N) hr (by omega)
  by_cases b0 : n < 0
  · refine rfu hC (s := -15) ?_ ?_ (hTT _)
    · simp only [e_88, tp_f htp, c_isNoStrip, hno, b12, sp_q hsp hin, hkf, k_isAbsent hk, e1, ea, k_lacksRow hk, cx, b0, c_refuse htp, Option.bind_some, Option.toList_some, Option.toList_none, List.cons_append, List.nil_append, List.append_nil, List.length_cons, List.length_nil, true_or, or_true, eq_self, b01_0, b01_1, b01_2, b01_3, b01_4, Nat.zero_le, Nat.reduceAdd, Nat.reduceLeDiff, ↓reduceIte, not_true_eq_false, not_false_eq_true, Bool.false_eq_true]
    · simp only [e_165, f1, g1, w1, f2, r_in, hye, b12, a2, hin, h1, e2, cm, b0, n2, Option.bind_some, Option.toList_some, Option.toList_none, List.cons_append, List.nil_append, List.append_nil, List.length_cons, List.length_nil, true_or, or_true, eq_self, b01_0, b01_1, b01_2, b01_3, b01_4, Nat.zero_le, Nat.reduceAdd, Nat.reduceLeDiff, ↓reduceIte, not_true_eq_false, not_false_eq_true, Bool.false_eq_true]
  obtain ⟨q, hq, rfl⟩ := nI_of2 (M := 12) (n := 12) rfl b0 (Int32.not_lt.mp b12)
  obtain ⟨f, rn, rf1, rf2⟩ := k_renewRow (X := mc_X0 L xs) hk (by omega) (by omega) (by omega) (j := r) (q := q) (by omega) hq
  have t1 : tp ((G.set (79 + 3 * i) (.inl (0, 4, upd (le i) r (nI q)))).set (80 + 3 * i) (.inl (0, 48, f))) tr su := tp_ag htp (by rw [gs_ne (by omega), gs_ne (by omega)])
  have ac := c_accept (X := mc_X0 L xs) t1 1
  have agX : ∀ k, k ≠ 0 → k ≠ 79 + 3 * i → k ≠ 80 + 3 * i → (((G.set (79 + 3 * i) (.inl (0, 4, upd (le i) r (nI q)))).set (80 + 3 * i) (.inl (0, 48, f))).set 0 (top tr 0))[k]? = G[k]? := fun k a b c => by rw [gs_ne (Ne.symm a), gs_ne (Ne.symm c), gs_ne (Ne.symm b)]
  have hk' : sk (((G.set (79 + 3 * i) (.inl (0, 4, upd (le i) r (nI q)))).set (80 + 3 * i) (.inl (0, 48, f))).set 0 (top tr 0)) (78 + 3 * i) (79 + 3 * i) (80 + 3 * i) (sv i) (rv i) (upd (le i) r (nI q)) f := by
    refine ⟨(agX _ (by omega) (by omega) (by omega)).trans hk.1, ?_, ?_⟩
    · rw [gs_ne (by omega), gs_ne (by omega)]; exact gs_self hk.2.1
    · rw [gs_ne (by omega)]
      have : (G.set (79 + 3 * i) (.inl (0, 4, upd (le i) r (nI q))))[80 + 3 * i]? = some (.inl (0, 48, nu i)) := (gs_ne (by omega)).trans hk.2.2
      exact gs_self this
  have sp' := sp_s hsp hin hk' (fun k a b c d e => agX k (by omega) d e)
  have rA := rm_ag hrm (G' := ((G.set (79 + 3 * i) (.inl (0, 4, upd (le i) r (nI q)))).set (80 + 3 * i) (.inl (0, 48, f))).set 0 (top tr 0)) (fun k a b => agX k (by omega) (by omega) (by omega))
  have tA := tp_set t1 tr 0
  have hx : mc_ev (mc_X0 L xs) 88 0 [.ref 0, .int (nI i), .int (nI r), .int (nI q)] [] G = some (some (.int 1), ((G.set (79 + 3 * i) (.inl (0, 4, upd (le i) r (nI q)))).set (80 + 3 * i) (.inl (0, 48, f))).set 0 (top tr 0)) := by
    simp only [e_88, tp_f htp, c_isNoStrip, hno, b12, sp_q hsp hin, hkf, k_isAbsent hk, e1, ea, k_lacksRow hk, cx, b0, rn, tp_f t1, ac, Option.bind_some, Option.toList_some, Option.toList_none, List.cons_append, List.nil_append, List.append_nil, List.length_cons, List.length_nil, true_or, or_true, eq_self, b01_0, b01_1, b01_2, b01_3, b01_4, Nat.zero_le, Nat.reduceAdd, Nat.reduceLeDiff, ↓reduceIte, not_true_eq_false, not_false_eq_true, Bool.false_eq_true]
  clear ac hk' t1
  revert rA tA sp' agX hx
  generalize ((G.set (79 + 3 * i) (.inl (0, 4, upd (le i) r (nI q)))).set (80 + 3 * i) (.inl (0, 48, f))).set 0 (top tr 0) = GA
  intro agX sp' rA tA hx
  have rB := rm_set rA 0 tr R C U
  have rE := rm_s100 rB (upd rs (4 * i + r) (nI q))
  have hl : ∃ g : Nat → Int32, mc_ev (mc_X0 L xs) 165 95 [.ref 90, .int (nI i), .int (nI r), .int (nI q), .int 0] [] ((GA.set 90 (rmc 0 tr R C U)).set 100 (.inl (0, 16, upd rs (4 * i + r) (nI q)))) = some (some (.int 1), ((GA.set 90 (rmc 0 tr R C U)).set 100 (.inl (0, 16, upd rs (4 * i + r) (nI q)))).set 101 (.inl (0, 192, g))) ∧ (∀ p, p < 12 → g (48 * i + 12 * r + p) = 0) ∧ ∀ p, p < 48 * i + 12 * r ∨ 48 * i + 12 * r + 12 ≤ p → g p = ce p := by
    revert rE
    generalize (GA.set 90 (rmc 0 tr R C U)).set 100 (.inl (0, 16, upd rs (4 * i + r) (nI q))) = GE
    intro rE
    obtain ⟨ls, G', ⟨hls, g, hG', hf1, hf2⟩, hev⟩ := ev_inv (X := mc_X0 L xs) (k := 165) (pc := 95) (fun t ls G' => ls = [.ref 90, .int (nI i), .int (nI r), .int (nI q), .int (nI t)] ∧ ∃ g : Nat → Int32, G' = GE.set 101 (.inl (0, 192, g)) ∧ (∀ p, p < t → g (48 * i + 12 * r + p) = 0) ∧ ∀ p, p < 48 * i + 12 * r ∨ 48 * i + 12 * r + 12 ≤ p → g p = ce p) 12 (by
      intro t ht ls G' ⟨hls, g, hG', hf1, hf2⟩
      subst hls
      subst hG'
      have k1 : nI t < 12 := nI_lt (b := 12) ht (by decide)
      have w := rm_w101s rE g (j := 48 * i + 12 * r + t) (by omega) 0
      refine ⟨[.ref 90, .int (nI i), .int (nI r), .int (nI q), .int (nI (t + 1))], _, ⟨rfl, upd g (48 * i + 12 * r + t) 0, rfl, ?_, ?_⟩, ?_⟩
      · intro p hp
        by_cases cc : p = t
        · subst cc; rw [pk_us]
        · rw [pk_un (by omega)]; exact hf1 p (by omega)
      · intro p hp
        rw [pk_un (by omega)]; exact hf2 p hp
      · rw [h_165_95]
        simp only [e_165, k1, rm_f (rm_s101 rE g), cc48, cc12, nI_add, w, nI_1, Option.bind_some, Option.toList_some, Option.toList_none, List.cons_append, List.nil_append, List.append_nil, List.length_cons, List.length_nil, true_or, or_true, eq_self, b01_0, b01_1, b01_2, b01_3, b01_4, Nat.zero_le, Nat.reduceAdd, Nat.reduceLeDiff, ↓reduceIte, not_true_eq_false, not_false_eq_true, Bool.false_eq_true]) [.ref 90, .int (nI i), .int (nI r), .int (nI q), .int 0] GE ⟨rfl, ce, (set_same rE.2.2.2.2.2.2.2.2.2.2.2.1).symm, fun p hp => absurd hp (by omega), fun p _ => rfl⟩
    subst hls
    subst hG'
    refine ⟨g, ?_, hf1, hf2⟩
    have k2 : ¬ nI 12 < 12 := by decide
    rw [hev, h_165_95]
    simp only [e_165, k2, Option.bind_some, Option.toList_some, Option.toList_none, List.cons_append, List.nil_append, List.append_nil, List.length_cons, List.length_nil, true_or, or_true, eq_self, b01_0, b01_1, b01_2, b01_3, b01_4, Nat.zero_le, Nat.reduceAdd, Nat.reduceLeDiff, ↓reduceIte, not_true_eq_false, not_false_eq_true, Bool.false_eq_true]
  obtain ⟨g, l1, l2, l3⟩ := hl
  have hm2 : mc_ev (mc_X0 L xs) 165 0 [.ref 90, .int (nI i), .int (nI r), .int (nI q), .null] [] GA = mc_ev (mc_X0 L xs) 165 95 [.ref 90, .int (nI i), .int (nI r), .int (nI q), .int 0] [] ((GA.set 90 (rmc 0 tr R C U)).set 100 (.inl (0, 16, upd rs (4 * i + r) (nI q)))) := by
    have aB := rm_a (X := mc_X0 L xs) rB
    simp only [e_165, rm_f rA, rm_t rA, rm_w1 rA 0, rm_f rB, r_in, hye, b12, aB, hin, h1, e2, cm, b0, cc4, nI_add, rm_w100a rB (j := 4 * i + r) (by omega), Option.bind_some, Option.toList_some, Option.toList_none, List.cons_append, List.nil_append, List.append_nil, List.length_cons, List.length_nil, true_or, or_true, eq_self, b01_0, b01_1, b01_2, b01_3, b01_4, Nat.zero_le, Nat.reduceAdd, Nat.reduceLeDiff, ↓reduceIte, not_true_eq_false, not_false_eq_true, Bool.false_eq_true]
  refine ⟨1, GA, _, hx, (rm_f rA).1, hm2.trans l1, ?_⟩
  refine inv_st hpl hpv hld hhs hpr sp' tA (rm_s101 rE g) (fun k a b => agX k (by omega) (by omega) (by omega)) (fun k a => by rw [gs_ne (by omega), gs_ne (by omega), gs_ne (by omega)]) hr1 hr2 hr3 (rel4_u hr4 (fun t ht c => ⟨rfl, rfl, rfl, fun r hr => pk_un (by omega), fun p hp => l3 _ (by omega)⟩) ?_)
  right
  refine ⟨h1, N, hN, e1, e2, ⟨m, hm, e3, e4⟩, fun r' hr' => ?_⟩
  by_cases c : r' = r
  · subst c
    right
    refine ⟨q, hq, pk_us, pk_us, fun k hk => ?_⟩
    rw [rf1 k hk, l2 k (by omega)]
  · rw [pk_un c, pk_un (by omega)]
    rcases hrow r' hr' with g1 | ⟨Q, g1, g2, g3, g4⟩
    · exact Or.inl g1
    · refine Or.inr ⟨Q, g1, g2, g3, fun k hk => ?_⟩
      rw [rf2 _ (by omega), l3 _ (by omega)]
      exact g4 k hk
/-- a place in a strip: what is wrong with it, or where it is -/
theorem fp_cases {G : mc_H} {tr : Int64} {su : Int32} {R C U : Nat} {tu tl ki go wa ol hs so sr rs ce cp fa pa : Nat → Int32} {sq : Nat → Option Nat} {sv rv : Nat → Int32} {le nu : Nat → Nat → Int32} (htp : tp G tr su) (hsp : sp G sq sv rv le nu) (hr4 : rel4 sv rv le nu hs so sr rs ce) (a o x y : Int32) :
    (∃ w : Int32, (w = -1 ∨ w = -11 ∨ w = -12 ∨ w = -13) ∧ mc_ev (mc_X0 L xs) 106 0 [.ref 0, .int a, .int o, .int x, .int y] [] G = some (some (.int w), G) ∧ ∀ G' : mc_H, rm G' su tr R C U tu tl ki go wa ol hs so sr rs ce cp fa pa → mc_ev (mc_X0 L xs) 166 0 [.ref 90, .int a, .int o, .int x, .int y, .null] [] G' = some (some (.int w), G')) ∨
    (∃ i m N r q k : Nat, i < 4 ∧ m < 3 ∧ N ≤ 4 ∧ r < N ∧ q ≤ 12 ∧ k < q ∧ a = nI i ∧ o = nI m ∧ x = nI r ∧ y = nI k ∧ hs i = 1 ∧ rv i = nI N ∧ sr i = nI N ∧ sv i = nI m ∧ so i = nI m ∧ le i r = nI q ∧ rs (4 * i + r) = nI q ∧ (∀ k, k < q → nu i (12 * r + k) = ce (48 * i + 12 * r + k)) ∧ mc_ev (mc_X0 L xs) 106 0 [.ref 0, .int a, .int o, .int x, .int y] [] G = some (some (.int 0), G) ∧ ∀ G' : mc_H, rm G' su tr R C U tu tl ki go wa ol hs so sr rs ce cp fa pa → mc_ev (mc_X0 L xs) 166 0 [.ref 90, .int a, .int o, .int x, .int y, .null] [] G' = some (some (.int 0), G')) := by
  rcases ix_of a (N := 4) (by decide) with hb | ⟨i, hin, rfl⟩
  · have hx : (0 ≤ a ∧ a ≤ 3) = False := ix_no (N := 4) (by decide) (by decide) hb
    refine Or.inl ⟨-1, by simp, ?_, fun G' hrm => ?_⟩
    · simp only [e_106, tp_f htp, c_isNoStrip, no_no hb, Option.bind_some, Option.toList_some, Option.toList_none, List.cons_append, List.nil_append, List.append_nil, List.length_cons, List.length_nil, true_or, or_true, eq_self, b01_0, b01_1, b01_2, b01_3, b01_4, Nat.zero_le, Nat.reduceAdd, Nat.reduceLeDiff, ↓reduceIte, not_true_eq_false, not_false_eq_true, Bool.false_eq_true]
    · simp only [e_166, rm_f hrm, r_in, hx, Option.bind_some, Option.toList_some, Option.toList_none, List.cons_append, List.nil_append, List.append_nil, List.length_cons, List.length_nil, true_or, or_true, eq_self, b01_0, b01_1, b01_2, b01_3, b01_4, Nat.zero_le, Nat.reduceAdd, Nat.reduceLeDiff, ↓reduceIte, not_true_eq_false, not_false_eq_true, Bool.false_eq_true]
  have hno := no_yes (N := 4) hin (by decide)
  have hye : (0 ≤ nI i ∧ nI i ≤ 3) = True := ix_yes (N := 4) hin (by decide)
  rcases ix_of o (N := 3) (by decide) with hb | ⟨m', hm', rfl⟩
  · have hx : (0 ≤ o ∧ o ≤ 2) = False := ix_no (N := 3) (by decide) (by decide) hb
    refine Or.inl ⟨-1, by simp, ?_, fun G' hrm => ?_⟩
    · simp only [e_106, tp_f htp, c_isNoStrip, hno, c_isNoSort, no_no hb, Option.bind_some, Option.toList_some, Option.toList_none, List.cons_append, List.nil_append, List.append_nil, List.length_cons, List.length_nil, true_or, or_true, eq_self, b01_0, b01_1, b01_2, b01_3, b01_4, Nat.zero_le, Nat.reduceAdd, Nat.reduceLeDiff, ↓reduceIte, not_true_eq_false, not_false_eq_true, Bool.false_eq_true]
    · simp only [e_166, rm_f hrm, r_in, hye, hx, Option.bind_some, Option.toList_some, Option.toList_none, List.cons_append, List.nil_append, List.append_nil, List.length_cons, List.length_nil, true_or, or_true, eq_self, b01_0, b01_1, b01_2, b01_3, b01_4, Nat.zero_le, Nat.reduceAdd, Nat.reduceLeDiff, ↓reduceIte, not_true_eq_false, not_false_eq_true, Bool.false_eq_true]
  have hno2 := no_yes (N := 3) hm' (by decide)
  have hye2 : (0 ≤ nI m' ∧ nI m' ≤ 2) = True := ix_yes (N := 3) hm' (by decide)
  have hk := sp_k hsp hin
  have hkf := sk_f (X := mc_X0 L xs) hk
  rcases hr4 i hin with ⟨ab, h0⟩ | ⟨h1, N, hN, e1, e2, ⟨m, hm, e3, e4⟩, hrow⟩
  · refine Or.inl ⟨-11, by simp, ?_, fun G' hrm => ?_⟩
    · simp only [e_106, tp_f htp, c_isNoStrip, hno, c_isNoSort, hno2, sp_q hsp hin, hkf, k_isAbsent hk, ab, Option.bind_some, Option.toList_some, Option.toList_none, List.cons_append, List.nil_append, List.append_nil, List.length_cons, List.length_nil, true_or, or_true, eq_self, b01_0, b01_1, b01_2, b01_3, b01_4, Nat.zero_le, Nat.reduceAdd, Nat.reduceLeDiff, ↓reduceIte, not_true_eq_false, not_false_eq_true, Bool.false_eq_true]
    · simp only [e_166, rm_f hrm, r_in, hye, hye2, rm_a (X := mc_X0 L xs) hrm, hin, h0, Option.bind_some, Option.toList_some, Option.toList_none, List.cons_append, List.nil_append, List.append_nil, List.length_cons, List.length_nil, true_or, or_true, eq_self, b01_0, b01_1, b01_2, b01_3, b01_4, Nat.zero_le, Nat.reduceAdd, Nat.reduceLeDiff, ↓reduceIte, not_true_eq_false, not_false_eq_true, Bool.false_eq_true]
  have ea := n_m1 (n := N) (by omega)
  by_cases cm : m = m'
  case neg =>
    have cs : (nI m = nI m') = False := eq_false (fun q => cm ((nI_eq (by omega) (by omega)).mp q))
    refine Or.inl ⟨-13, by simp, ?_, fun G' hrm => ?_⟩
    · simp only [e_106, tp_f htp, c_isNoStrip, hno, c_isNoSort, hno2, sp_q hsp hin, hkf, k_isAbsent hk, e1, ea, e3, cs, Option.bind_some, Option.toList_some, Option.toList_none, List.cons_append, List.nil_append, List.append_nil, List.length_cons, List.length_nil, true_or, or_true, eq_self, b01_0, b01_1, b01_2, b01_3, b01_4, Nat.zero_le, Nat.reduceAdd, Nat.reduceLeDiff, ↓reduceIte, not_true_eq_false, not_false_eq_true, Bool.false_eq_true]
    · simp only [e_166, rm_f hrm, r_in, hye, hye2, rm_a (X := mc_X0 L xs) hrm, hin, h1, e4, cs, Option.bind_some, Option.toList_some, Option.toList_none, List.cons_append, List.nil_append, List.append_nil, List.length_cons, List.length_nil, true_or, or_true, eq_self, b01_0, b01_1, b01_2, b01_3, b01_4, Nat.zero_le, Nat.reduceAdd, Nat.reduceLeDiff, ↓reduceIte, not_true_eq_false, not_false_eq_true, Bool.false_eq_true]
  subst cm
  rcases jx_of x (N := N) (by omega) with ⟨cx, cm⟩ | ⟨r, hr, rfl⟩
  · have kf := k_find1 (X := mc_X0 L xs) hk y (x := x) (by rw [e1]; exact of_eq_true cx)
    refine Or.inl ⟨-12, by simp, ?_, fun G' hrm => ?_⟩
    · simp only [e_106, tp_f htp, c_isNoStrip, hno, c_isNoSort, hno2, sp_q hsp hin, hkf, k_isAbsent hk, e1, ea, e3, kf, Option.bind_some, Option.toList_some, Option.toList_none, List.cons_append, List.nil_append, List.append_nil, List.length_cons, List.length_nil, true_or, or_true, eq_self, b01_0, b01_1, b01_2, b01_3, b01_4, Nat.zero_le, Nat.reduceAdd, Nat.reduceLeDiff, ↓reduceIte, not_true_eq_false, not_false_eq_true, Bool.false_eq_true]
    · simp only [e_166, rm_f hrm, r_in, hye, hye2, rm_a (X := mc_X0 L xs) hrm, hin, h1, e4, e2, cm, Option.bind_some, Option.toList_some, Option.toList_none, List.cons_append, List.nil_append, List.append_nil, List.length_cons, List.length_nil, true_or, or_true, eq_self, b01_0, b01_1, b01_2, b01_3, b01_4, Nat.zero_le, Nat.reduceAdd, Nat.reduceLeDiff, ↓reduceIte, not_true_eq_false, not_false_eq_true, Bool.false_eq_true]
  have cx := no_yes (N := N) hr (by omega)
  have cm := ix_yes (N := N) hr (by omega)
  have kf := k_find2 (X := mc_X0 L xs) hk y (j := r) (by omega) (by rw [e1, cx]; exact id)
  rcases hrow r hr with ⟨g1, g2⟩ | ⟨q, g1, g2, g3, g4⟩
  · rw [g1, if_pos rfl] at kf
    refine Or.inl ⟨-11, by simp, ?_, fun G' hrm => ?_⟩
    · simp only [e_106, tp_f htp, c_isNoStrip, hno, c_isNoSort, hno2, sp_q hsp hin, hkf, k_isAbsent hk, e1, ea, e3, kf, Option.bind_some, Option.toList_some, Option.toList_none, List.cons_append, List.nil_append, List.append_nil, List.length_cons, List.length_nil, true_or, or_true, eq_self, b01_0, b01_1, b01_2, b01_3, b01_4, Nat.zero_le, Nat.reduceAdd, Nat.reduceLeDiff, ↓reduceIte, not_true_eq_false, not_false_eq_true, Bool.false_eq_true]
    · have a16 := (rm_a (X := mc_X0 L xs) hrm).2.2.2.2.2.2.2.2.2.1 (4 * i + r) (by omega)
      simp only [e_166, rm_f hrm, r_in, hye, hye2, rm_a (X := mc_X0 L xs) hrm, hin, h1, e4, e2, cm, cc4, nI_add, a16, g2, Option.bind_some, Option.toList_some, Option.toList_none, List.cons_append, List.nil_append, List.append_nil, List.length_cons, List.length_nil, true_or, or_true, eq_self, b01_0, b01_1, b01_2, b01_3, b01_4, Nat.zero_le, Nat.reduceAdd, Nat.reduceLeDiff, ↓reduceIte, not_true_eq_false, not_false_eq_true, Bool.false_eq_true]
  rw [g2, if_neg (of_eq_false (n_m1 (n := q) (by omega)))] at kf
  have e9 := n_m9 (n := q) (by omega)
  rcases jx_of y (N := q) (by omega) with ⟨cy, cn⟩ | ⟨k, hk2, rfl⟩
  · rw [if_pos (of_eq_true cy)] at kf
    refine Or.inl ⟨-12, by simp, ?_, fun G' hrm => ?_⟩
    · simp only [e_106, tp_f htp, c_isNoStrip, hno, c_isNoSort, hno2, sp_q hsp hin, hkf, k_isAbsent hk, e1, ea, e3, kf, Option.bind_some, Option.toList_some, Option.toList_none, List.cons_append, List.nil_append, List.append_nil, List.length_cons, List.length_nil, true_or, or_true, eq_self, b01_0, b01_1, b01_2, b01_3, b01_4, Nat.zero_le, Nat.reduceAdd, Nat.reduceLeDiff, ↓reduceIte, not_true_eq_false, not_false_eq_true, Bool.false_eq_true]
    · have a16 := (rm_a (X := mc_X0 L xs) hrm).2.2.2.2.2.2.2.2.2.1 (4 * i + r) (by omega)
      simp only [e_166, rm_f hrm, r_in, hye, hye2, rm_a (X := mc_X0 L xs) hrm, hin, h1, e4, e2, cm, cc4, nI_add, a16, g3, e9, cn, Option.bind_some, Option.toList_some, Option.toList_none, List.cons_append, List.nil_append, List.append_nil, List.length_cons, List.length_nil, true_or, or_true, eq_self, b01_0, b01_1, b01_2, b01_3, b01_4, Nat.zero_le, Nat.reduceAdd, Nat.reduceLeDiff, ↓reduceIte, not_true_eq_false, not_false_eq_true, Bool.false_eq_true]
  have cy := no_yes (N := q) hk2 (by omega)
  have cn := ix_yes (N := q) hk2 (by omega)
  rw [if_neg (of_eq_false cy)] at kf
  refine Or.inr ⟨i, m, N, r, q, k, hin, hm, hN, hr, g1, hk2, rfl, rfl, rfl, rfl, h1, e1, e2, e3, e4, g2, g3, g4, ?_, fun G' hrm => ?_⟩
  · simp only [e_106, tp_f htp, c_isNoStrip, hno, c_isNoSort, hno2, sp_q hsp hin, hkf, k_isAbsent hk, e1, ea, e3, kf, Option.bind_some, Option.toList_some, Option.toList_none, List.cons_append, List.nil_append, List.append_nil, List.length_cons, List.length_nil, true_or, or_true, eq_self, b01_0, b01_1, b01_2, b01_3, b01_4, Nat.zero_le, Nat.reduceAdd, Nat.reduceLeDiff, ↓reduceIte, not_true_eq_false, not_false_eq_true, Bool.false_eq_true]
  · have a16 := (rm_a (X := mc_X0 L xs) hrm).2.2.2.2.2.2.2.2.2.1 (4 * i + r) (by omega)
    simp only [e_166, rm_f hrm, r_in, hye, hye2, rm_a (X := mc_X0 L xs) hrm, hin, h1, e4, e2, cm, cc4, nI_add, a16, g3, e9, cn, Option.bind_some, Option.toList_some, Option.toList_none, List.cons_append, List.nil_append, List.append_nil, List.length_cons, List.length_nil, true_or, or_true, eq_self, b01_0, b01_1, b01_2, b01_3, b01_4, Nat.zero_le, Nat.reduceAdd, Nat.reduceLeDiff, ↓reduceIte, not_true_eq_false, not_false_eq_true, Bool.false_eq_true]
theorem kneg {w : Int32} (h : w = -1 ∨ w = -11 ∨ w = -12 ∨ w = -13) : (w = 0) = False ∧ (w < 0) = True := by
  rcases h with rfl | rfl | rfl | rfl <;> exact ⟨eq_false (by decide), eq_true (by decide)⟩
theorem k00 : ((0 : Int32) < 0) = False := eq_false (by decide)
set_option maxHeartbeats 1000000 in
theorem R28 : lw_R28 L xs Inv := by
  intro a o x y v G hG
  refine inv_elim hG ?_
  intro R C rim fi se lo hi TB OB LB ks ws stale lw SZ HD HP sts nx sz kq hT hO hL hK hW sq sv rv le nu di ch tr su U tu tl ki go wa ol hs so sr rs ce cp fa pa hpl hpv hld hhs hsp htp hpr hrm hr1 hr2 hr3 hr4
  have hC := (rm_f hrm).1
  have hTT := fun s => inv_tt hpl hpv hld hhs hsp htp hpr hrm hr1 hr2 hr3 hr4 tr s
  have r1 : ∀ s, rm (G.set 0 (top tr s)) su tr R C U tu tl ki go wa ol hs so sr rs ce cp fa pa := fun s => rm_ag hrm (fun k a b => gs_ne (by omega))
  have f1 := fun s => rm_f (r1 s)
  have g1 := fun s => rm_t (r1 s)
  have w1 := fun s => rm_w1 (r1 s) 0
  have r2 := fun s => rm_set (r1 s) 0 tr R C U
  have f2 := fun s => rm_f (r2 s)
  have a2 := fun s => rm_a (X := mc_X0 L xs) (r2 s)
  have n2 : ∀ s w, mc_ev (mc_X0 L xs) 163 0 [.ref 90, .int w] [] ((G.set 0 (top tr s)).set 90 (rmc 0 tr R C U)) = some (some (.int w), (G.set 0 (top tr s)).set 90 (rmc w tr R C U)) := fun s w => by rw [r_no (r2 s) w, List.set_set]
  rcases fp_cases (L := L) (xs := xs) (su := su) (tr := tr) (R := R) (C := C) (U := U) (tu := tu) (tl := tl) (ki := ki) (go := go) (wa := wa) (ol := ol) (cp := cp) (fa := fa) (pa := pa) htp hsp hr4 a o x y with ⟨w, hw, c1, c2⟩ | ⟨i, m, N, r, q, k, hin, hm, hN, hr, hq, hkq, rfl, rfl, rfl, rfl, h1, e1, e2, e3, e4, g2, g3, g4, c1, c2⟩
  · refine rfu hC (s := w) ?_ ?_ (hTT _)
    · simp only [e_89, tp_f htp, c1, kneg hw, c_refuse htp, Option.bind_some, Option.toList_some, Option.toList_none, List.cons_append, List.nil_append, List.append_nil, List.length_cons, List.length_nil, true_or, or_true, eq_self, b01_0, b01_1, b01_2, b01_3, b01_4, Nat.zero_le, Nat.reduceAdd, Nat.reduceLeDiff, ↓reduceIte, not_true_eq_false, not_false_eq_true, Bool.false_eq_true]
    · have rw1 := rm_set (r1 w) w tr R C U
      simp only [e_167, f1, g1, c2 _ (r1 w), rm_w1 (r1 w), rm_f rw1, kneg hw, Option.bind_some, Option.toList_some, Option.toList_none, List.cons_append, List.nil_append, List.append_nil, List.length_cons, List.length_nil, true_or, or_true, eq_self, b01_0, b01_1, b01_2, b01_3, b01_4, Nat.zero_le, Nat.reduceAdd, Nat.reduceLeDiff, ↓reduceIte, not_true_eq_false, not_false_eq_true, Bool.false_eq_true]
  have hk := sp_k hsp hin
  have hkf := sk_f (X := mc_X0 L xs) hk
  have wr := k_write (X := mc_X0 L xs) hk hm e3 (j := r) (p := k) (by omega) (by omega) v
  have t1 : tp (G.set (80 + 3 * i) (.inl (0, 48, upd (nu i) (12 * r + k) (asS m v)))) tr su := tp_ag htp (gs_ne (by omega))
  have ac := c_accept (X := mc_X0 L xs) t1 1
  have agX : ∀ k', k' ≠ 0 → k' ≠ 80 + 3 * i → ((G.set (80 + 3 * i) (.inl (0, 48, upd (nu i) (12 * r + k) (asS m v)))).set 0 (top tr 0))[k']? = G[k']? := fun k a b => by rw [gs_ne (Ne.symm a), gs_ne (Ne.symm b)]
  have hk' : sk ((G.set (80 + 3 * i) (.inl (0, 48, upd (nu i) (12 * r + k) (asS m v)))).set 0 (top tr 0)) (78 + 3 * i) (79 + 3 * i) (80 + 3 * i) (sv i) (rv i) (le i) (upd (nu i) (12 * r + k) (asS m v)) := by
    refine ⟨(agX _ (by omega) (by omega)).trans hk.1, (agX _ (by omega) (by omega)).trans hk.2.1, ?_⟩
    rw [gs_ne (by omega)]; exact gs_self hk.2.2
  have sp' := sp_s hsp hin hk' (fun k a b c d e => agX k (by omega) e)
  have rA := rm_ag hrm (G' := (G.set (80 + 3 * i) (.inl (0, 48, upd (nu i) (12 * r + k) (asS m v)))).set 0 (top tr 0)) (fun k a b => agX k (by omega) (by omega))
  have tA := tp_set t1 tr 0
  have hx : mc_ev (mc_X0 L xs) 89 0 [.ref 0, .int (nI i), .int (nI m), .int (nI r), .int (nI k), .int v, .null] [] G = some (some (.int 1), (G.set (80 + 3 * i) (.inl (0, 48, upd (nu i) (12 * r + k) (asS m v)))).set 0 (top tr 0)) := by
    simp only [e_89, tp_f htp, c1, sp_q hsp hin, hkf, wr, tp_f t1, ac, Option.bind_some, Option.toList_some, Option.toList_none, List.cons_append, List.nil_append, List.append_nil, List.length_cons, List.length_nil, true_or, or_true, eq_self, b01_0, b01_1, b01_2, b01_3, b01_4, Nat.zero_le, Nat.reduceAdd, Nat.reduceLeDiff, ↓reduceIte, not_true_eq_false, not_false_eq_true, Bool.false_eq_true]
  clear ac hk' t1
  revert rA tA sp' agX hx
  generalize (G.set (80 + 3 * i) (.inl (0, 48, upd (nu i) (12 * r + k) (asS m v)))).set 0 (top tr 0) = GA
  intro agX sp' rA tA hx
  have rB := rm_set rA 0 tr R C U
  have rE := rm_s101 rB (upd ce (48 * i + 12 * r + k) (asS m v))
  have hm2 : mc_ev (mc_X0 L xs) 167 0 [.ref 90, .int (nI i), .int (nI m), .int (nI r), .int (nI k), .int v] [] GA = some (some (.int 1), (GA.set 90 (rmc 0 tr R C U)).set 101 (.inl (0, 192, upd ce (48 * i + 12 * r + k) (asS m v)))) := by
    have ww := fun z => rm_w101a rB (j := 48 * i + 12 * r + k) (by omega) z
    have m0 : (nI m = 0) = (m = 0) := nI_is0 (by omega)
    have m1 : (nI m = 1) = (m = 1) := nI_is1 (by omega)
    simp only [e_167, rm_f rA, rm_t rA, c2 _ rA, rm_w1 rA 0, rm_f rB, k00, cc48, cc12, nI_add, m0, m1, Option.bind_some, Option.toList_some, Option.toList_none, List.cons_append, List.nil_append, List.append_nil, List.length_cons, List.length_nil, true_or, or_true, eq_self, b01_0, b01_1, b01_2, b01_3, b01_4, Nat.zero_le, Nat.reduceAdd, Nat.reduceLeDiff, ↓reduceIte, not_true_eq_false, not_false_eq_true, Bool.false_eq_true]
    unfold asS
    by_cases z0 : m = 0
    · simp only [eq_true z0, e_167, ww, Option.bind_some, Option.toList_some, Option.toList_none, List.cons_append, List.nil_append, List.append_nil, List.length_cons, List.length_nil, true_or, or_true, eq_self, b01_0, b01_1, b01_2, b01_3, b01_4, Nat.zero_le, Nat.reduceAdd, Nat.reduceLeDiff, ↓reduceIte, not_true_eq_false, not_false_eq_true, Bool.false_eq_true]
    · by_cases z1 : m = 1
      · simp only [z0, eq_true z1, e_167, ww, Option.bind_some, Option.toList_some, Option.toList_none, List.cons_append, List.nil_append, List.append_nil, List.length_cons, List.length_nil, true_or, or_true, eq_self, b01_0, b01_1, b01_2, b01_3, b01_4, Nat.zero_le, Nat.reduceAdd, Nat.reduceLeDiff, ↓reduceIte, not_true_eq_false, not_false_eq_true, Bool.false_eq_true]
      · simp only [z0, z1, e_167, ww, Option.bind_some, Option.toList_some, Option.toList_none, List.cons_append, List.nil_append, List.append_nil, List.length_cons, List.length_nil, true_or, or_true, eq_self, b01_0, b01_1, b01_2, b01_3, b01_4, Nat.zero_le, Nat.reduceAdd, Nat.reduceLeDiff, ↓reduceIte, not_true_eq_false, not_false_eq_true, Bool.false_eq_true]
  refine ⟨1, GA, _, hx, (rm_f rA).1, hm2, ?_⟩
  refine inv_st hpl hpv hld hhs hpr sp' tA rE (fun k a b => agX k (by omega) (by omega)) (fun k a => by rw [gs_ne (by omega), gs_ne (by omega)]) hr1 hr2 hr3 (rel4_u hr4 (fun t ht c => ⟨rfl, rfl, rfl, fun r hr => rfl, fun p hp => pk_un (by omega)⟩) ?_)
  rcases hr4 i hin with ⟨ab, h0⟩ | ⟨h1', N', hN', e1', e2', e34, hrow⟩
  · rw [h1] at h0; cases h0
  right
  refine ⟨h1, N', hN', e1', e2', e34, fun r' hr' => ?_⟩
  rcases hrow r' hr' with g1 | ⟨Q, y1, y2, y3, y4⟩
  · exact Or.inl g1
  · refine Or.inr ⟨Q, y1, y2, y3, fun k' hk => ?_⟩
    by_cases c : 12 * r' + k' = 12 * r + k
    · rw [c, pk_us, show 48 * i + 12 * r' + k' = 48 * i + 12 * r + k by omega, pk_us]
    · rw [pk_un c, pk_un (by omega)]; exact y4 k' hk
set_option maxHeartbeats 1000000 in
theorem R29 : lw_R29 L xs Inv := by
  intro a o x y G hG
  refine inv_elim hG ?_
  intro R C rim fi se lo hi TB OB LB ks ws stale lw SZ HD HP sts nx sz kq hT hO hL hK hW sq sv rv le nu di ch tr su U tu tl ki go wa ol hs so sr rs ce cp fa pa hpl hpv hld hhs hsp htp hpr hrm hr1 hr2 hr3 hr4
  have hC := (rm_f hrm).1
  have hTT := fun s => inv_tt hpl hpv hld hhs hsp htp hpr hrm hr1 hr2 hr3 hr4 tr s
  have r1 : ∀ s, rm (G.set 0 (top tr s)) su tr R C U tu tl ki go wa ol hs so sr rs ce cp fa pa := fun s => rm_ag hrm (fun k a b => gs_ne (by omega))
  have f1 := fun s => rm_f (r1 s)
  have g1 := fun s => rm_t (r1 s)
  have w1 := fun s => rm_w1 (r1 s) 0
  have r2 := fun s => rm_set (r1 s) 0 tr R C U
  have f2 := fun s => rm_f (r2 s)
  have a2 := fun s => rm_a (X := mc_X0 L xs) (r2 s)
  have n2 : ∀ s w, mc_ev (mc_X0 L xs) 163 0 [.ref 90, .int w] [] ((G.set 0 (top tr s)).set 90 (rmc 0 tr R C U)) = some (some (.int w), (G.set 0 (top tr s)).set 90 (rmc w tr R C U)) := fun s w => by rw [r_no (r2 s) w, List.set_set]
  rcases fp_cases (L := L) (xs := xs) (su := su) (tr := tr) (R := R) (C := C) (U := U) (tu := tu) (tl := tl) (ki := ki) (go := go) (wa := wa) (ol := ol) (cp := cp) (fa := fa) (pa := pa) htp hsp hr4 a o x y with ⟨w, hw, c1, c2⟩ | ⟨i, m, N, r, q, k, hin, hm, hN, hr, hq, hkq, rfl, rfl, rfl, rfl, h1, e1, e2, e3, e4, g2, g3, g4, c1, c2⟩
  · have rw1 := rm_set (r1 w) w tr R C U
    have t1 := tp_set htp tr w
    refine ⟨0, G.set 0 (top tr w), (G.set 0 (top tr w)).set 90 (rmc w tr R C U), ?_, (f1 w).1, ?_, hTT w⟩
    · simp only [e_90, tp_f htp, c1, tp_w6 htp, tp_f t1, kneg hw, Option.bind_some, Option.toList_some, Option.toList_none, List.cons_append, List.nil_append, List.append_nil, List.length_cons, List.length_nil, true_or, or_true, eq_self, b01_0, b01_1, b01_2, b01_3, b01_4, Nat.zero_le, Nat.reduceAdd, Nat.reduceLeDiff, ↓reduceIte, not_true_eq_false, not_false_eq_true, Bool.false_eq_true]
    · simp only [e_168, f1, g1, c2 _ (r1 w), rm_w1 (r1 w), rm_f rw1, kneg hw, Option.bind_some, Option.toList_some, Option.toList_none, List.cons_append, List.nil_append, List.append_nil, List.length_cons, List.length_nil, true_or, or_true, eq_self, b01_0, b01_1, b01_2, b01_3, b01_4, Nat.zero_le, Nat.reduceAdd, Nat.reduceLeDiff, ↓reduceIte, not_true_eq_false, not_false_eq_true, Bool.false_eq_true]
  have t1 := tp_set htp tr 0
  have sp1 := sp_ag hsp (G' := G.set 0 (top tr 0)) (fun k a b => gs_ne (by omega))
  have hk := sp_k sp1 hin
  have hkf := sk_f (X := mc_X0 L xs) hk
  have a192 := (a2 0).2.2.2.2.2.2.2.2.2.2.1 (48 * i + 12 * r + k) (by omega)
  refine ⟨nu i (12 * r + k), G.set 0 (top tr 0), (G.set 0 (top tr 0)).set 90 (rmc 0 tr R C U), ?_, (f1 0).1, ?_, hTT 0⟩
  · simp only [e_90, tp_f htp, c1, tp_w6 htp, tp_f t1, sp_q sp1 hin, hkf, k_numberAt hk (j := r) (p := k) (by omega) (by omega), Option.bind_some, Option.toList_some, Option.toList_none, List.cons_append, List.nil_append, List.append_nil, List.length_cons, List.length_nil, true_or, or_true, eq_self, b01_0, b01_1, b01_2, b01_3, b01_4, Nat.zero_le, Nat.reduceAdd, Nat.reduceLeDiff, ↓reduceIte, not_true_eq_false, not_false_eq_true, Bool.false_eq_true]
  · simp only [e_168, f1, g1, c2 _ (r1 0), w1, f2, k00, cc48, cc12, nI_add, a192, g4 k hkq, Option.bind_some, Option.toList_some, Option.toList_none, List.cons_append, List.nil_append, List.append_nil, List.length_cons, List.length_nil, true_or, or_true, eq_self, b01_0, b01_1, b01_2, b01_3, b01_4, Nat.zero_le, Nat.reduceAdd, Nat.reduceLeDiff, ↓reduceIte, not_true_eq_false, not_false_eq_true, Bool.false_eq_true]
end ROWS
