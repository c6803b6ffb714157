/-! rows: copy -/
theorem rg_cases {q : Nat} (hq : q ≤ 12) (y n : Int32) : ((y < 0 ∨ n < 0 ∨ nI q < y ∨ nI q - y < n) = True ∧ ∀ (X : mc_X) (G : mc_H), mc_ev X 169 0 [.int y, .int n, .int (nI q)] [] G = some (some (.int 0), G)) ∨ ∃ p t : Nat, p + t ≤ q ∧ y = nI p ∧ n = nI t ∧ (y < 0 ∨ n < 0 ∨ nI q < y ∨ nI q - y < n) = False ∧ ∀ (X : mc_X) (G : mc_H), mc_ev X 169 0 [.int y, .int n, .int (nI q)] [] G = some (some (.int 1), G) := by
  by_cases c1 : y < 0
  · refine Or.inl ⟨eq_true (Or.inl c1), fun X G => ?_⟩
    simp only [e_169, c1, Option.bind_some, Option.toList_some, Option.toList_none, List.cons_append, List.nil_append, List.append_nil, List.length_cons, List.length_nil, true_or, or_true, eq_self, b01_0, b01_1, b01_2, b01_3, b01_4, Nat.zero_le, Nat.reduceAdd, Nat.reduceLeDiff, ↓reduceIte, not_true_eq_false, not_false_eq_true, Bool.false_eq_true]
  by_cases c2 : n < 0
  · refine Or.inl ⟨eq_true (Or.inr (Or.inl c2)), fun X G => ?_⟩
    simp only [e_169, c1, c2, Option.bind_some, Option.toList_some, Option.toList_none, List.cons_append, List.nil_append, List.append_nil, List.length_cons, List.length_nil, true_or, or_true, eq_self, b01_0, b01_1, b01_2, b01_3, b01_4, Nat.zero_le, Nat.reduceAdd, Nat.reduceLeDiff, ↓reduceIte, not_true_eq_false, not_false_eq_true, Bool.false_eq_true]
  obtain ⟨p, hp, rfl⟩ := nI_of c1
  obtain ⟨t, ht, rfl⟩ := nI_of c2
  have lc : (0 < lg_cmp (lN (p + t)) (lN q)) = (q < p + t) := propext ((lg_cmp_gt _ _).trans (pk_lLT (by omega) (by omega)))
  by_cases c3 : q < p + t
  · refine Or.inl ⟨eq_true (Or.inr (Or.inr ?_)), fun X G => ?_⟩
    · by_cases c4 : q < p
      · exact Or.inl (nI_lt c4 hp)
      · right
        rw [pk_sub (by omega)]
        exact nI_lt (by omega) ht
    · simp only [e_169, c1, c2, nI_l hp, nI_l ht, nI_l (n := q) (by omega), lN_add, lc, c3, Option.bind_some, Option.toList_some, Option.toList_none, List.cons_append, List.nil_append, List.append_nil, List.length_cons, List.length_nil, true_or, or_true, eq_self, b01_0, b01_1, b01_2, b01_3, b01_4, Nat.zero_le, Nat.reduceAdd, Nat.reduceLeDiff, ↓reduceIte, not_true_eq_false, not_false_eq_true, Bool.false_eq_true]
  · refine Or.inr ⟨p, t, by omega, rfl, rfl, eq_false ?_, fun X G => ?_⟩
    · rintro (h | h | h | h)
      · exact c1 h
      · exact c2 h
      · exact nI_nlt (a := q) (b := p) (by omega) (by omega) h
      · rw [pk_sub (by omega)] at h
        exact nI_nlt (a := q - p) (b := t) (by omega) (by omega) h
    · simp only [e_169, c1, c2, nI_l hp, nI_l ht, nI_l (n := q) (by omega), lN_add, lc, c3, Option.bind_some, Option.toList_some, Option.toList_none, List.cons_append, List.nil_append, List.append_nil, List.length_cons, List.length_nil, true_or, or_true, eq_self, b01_0, b01_1, b01_2, b01_3, b01_4, Nat.zero_le, Nat.reduceAdd, Nat.reduceLeDiff, ↓reduceIte, not_true_eq_false, not_false_eq_true, Bool.false_eq_true]
theorem klit : (((-1 : Int32) = 0) = False) ∧ (((-11 : Int32) = 0) = False) ∧ (((-12 : Int32) = 0) = False) ∧ (((-13 : Int32) = 0) = False) := ⟨eq_false (by decide), eq_false (by decide), eq_false (by decide), eq_false (by decide)⟩
section REF
variable {X : mc_X} {G : mc_H} {su : Int32} {tr : Int64} {R C U : Nat} {tu tl ki go wa ol hs so sr rs ce cp fa pa : Nat → Int32}
theorem r_copy1 (h : rm G su tr R C U tu tl ki go wa ol hs so sr rs ce cp fa pa) {i i' r r' p p' q q' t : Nat} (hi : i < 4) (hr : r < 4) (hpt : p + t ≤ q) (hq : q ≤ 12) : ∃ f : Nat → Int32, mc_ev X 170 205 [.ref 90, .int (nI i), .int (nI r), .int (nI p), .int (nI i'), .int (nI r'), .int (nI p'), .int (nI t), .int (nI q), .int (nI q'), .int 0] [] G = mc_ev X 170 247 [.ref 90, .int (nI i), .int (nI r), .int (nI p), .int (nI i'), .int (nI r'), .int (nI p'), .int (nI t), .int (nI q), .int (nI q'), .int 0] [] (G.set 102 (.inl (0, 12, f))) ∧ ∀ k, k < t → f k = ce (48 * i + 12 * r + p + k) := by
  obtain ⟨ls, G', ⟨hls, f, hG', hf⟩, hev⟩ := ev_inv (X := X) (k := 170) (pc := 205) (fun n ls G' => ls = [.ref 90, .int (nI i), .int (nI r), .int (nI p), .int (nI i'), .int (nI r'), .int (nI p'), .int (nI t), .int (nI q), .int (nI q'), .int (nI n)] ∧ ∃ f : Nat → Int32, G' = G.set 102 (.inl (0, 12, f)) ∧ ∀ k, k < n → f k = ce (48 * i + 12 * r + p + k)) t (by
    intro n hn ls G' ⟨hls, f, hG', hf⟩
    subst hls
    subst hG'
    have k1 : nI n < nI t := nI_lt hn (by omega)
    have p1 := rm_s102 h f
    have a1 := (rm_a (X := X) p1).2.2.2.2.2.2.2.2.2.2.1 (48 * i + 12 * r + p + n) (by omega)
    have w := fun z => rm_w102s h f (j := n) (by omega) z
    refine ⟨[.ref 90, .int (nI i), .int (nI r), .int (nI p), .int (nI i'), .int (nI r'), .int (nI p'), .int (nI t), .int (nI q), .int (nI q'), .int (nI (n + 1))], G.set 102 (.inl (0, 12, upd f n (ce (48 * i + 12 * r + p + n)))), ⟨rfl, _, rfl, ?_⟩, ?_⟩
    · intro k hk
      by_cases cc : k = n
      · subst cc; rw [pk_us]
      · rw [pk_un cc]; exact hf k (by omega)
    · rw [h_170_205]
      simp only [e_170, k1, rm_f p1, cc48, cc12, nI_add, a1, w, nI_1, Option.bind_some, Option.toList_some, Option.toList_none, List.cons_append, List.nil_append, List.append_nil, List.length_cons, List.length_nil, true_or, or_true, eq_self, b01_0, b01_1, b01_2, b01_3, b01_4, Nat.zero_le, Nat.reduceAdd, Nat.reduceLeDiff, ↓reduceIte, not_true_eq_false, not_false_eq_true, Bool.false_eq_true]) [.ref 90, .int (nI i), .int (nI r), .int (nI p), .int (nI i'), .int (nI r'), .int (nI p'), .int (nI t), .int (nI q), .int (nI q'), .int 0] G ⟨rfl, cp, (set_same h.2.2.2.2.2.2.2.2.2.2.2.2.1).symm, fun k hk => absurd hk (by omega)⟩
  subst hls
  subst hG'
  refine ⟨f, ?_, hf⟩
  have k2 : ¬ nI t < nI t := nI_nlt (Nat.le_refl _) (by omega)
  rw [hev, h_170_205]
  simp only [e_170, k2, Option.bind_some, Option.toList_some, Option.toList_none, List.cons_append, List.nil_append, List.append_nil, List.length_cons, List.length_nil, true_or, or_true, eq_self, b01_0, b01_1, b01_2, b01_3, b01_4, Nat.zero_le, Nat.reduceAdd, Nat.reduceLeDiff, ↓reduceIte, not_true_eq_false, not_false_eq_true, Bool.false_eq_true]
theorem r_copy2 (h : rm G su tr R C U tu tl ki go wa ol hs so sr rs ce cp fa pa) {i i' r r' p p' q q' t : Nat} (hi : i' < 4) (hr : r' < 4) (hpt : p' + t ≤ q') (hq : q' ≤ 12) : ∃ g : Nat → Int32, mc_ev X 170 247 [.ref 90, .int (nI i), .int (nI r), .int (nI p), .int (nI i'), .int (nI r'), .int (nI p'), .int (nI t), .int (nI q), .int (nI q'), .int 0] [] G = some (some (.int (nI t)), G.set 101 (.inl (0, 192, g))) ∧ (∀ k, k < t → g (48 * i' + 12 * r' + p' + k) = cp k) ∧ ∀ P, P < 48 * i' + 12 * r' + p' ∨ 48 * i' + 12 * r' + p' + t ≤ P → g P = ce P := by
  obtain ⟨ls, G', ⟨hls, f, hG', hf1, hf2⟩, hev⟩ := ev_inv (X := X) (k := 170) (pc := 247) (fun n ls G' => ls = [.ref 90, .int (nI i), .int (nI r), .int (nI p), .int (nI i'), .int (nI r'), .int (nI p'), .int (nI t), .int (nI q), .int (nI q'), .int (nI n)] ∧ ∃ g : Nat → Int32, G' = G.set 101 (.inl (0, 192, g)) ∧ (∀ k, k < n → g (48 * i' + 12 * r' + p' + k) = cp k) ∧ ∀ P, P < 48 * i' + 12 * r' + p' ∨ 48 * i' + 12 * r' + p' + t ≤ P → g P = ce P) t (by
    intro n hn ls G' ⟨hls, f, hG', hf1, hf2⟩
    subst hls
    subst hG'
    have k1 : nI n < nI t := nI_lt hn (by omega)
    have p1 := rm_s101 h f
    have a1 := (rm_a (X := X) p1).2.2.2.2.2.2.2.2.2.2.2.1 n (by omega)
    have w := fun z => rm_w101s h f (j := 48 * i' + 12 * r' + p' + n) (by omega) z
    refine ⟨[.ref 90, .int (nI i), .int (nI r), .int (nI p), .int (nI i'), .int (nI r'), .int (nI p'), .int (nI t), .int (nI q), .int (nI q'), .int (nI (n + 1))], G.set 101 (.inl (0, 192, upd f (48 * i' + 12 * r' + p' + n) (cp n))), ⟨rfl, _, rfl, ?_, ?_⟩, ?_⟩
    · intro k hk
      by_cases cc : k = n
      · subst cc; rw [pk_us]
      · rw [pk_un (by omega)]; exact hf1 k (by omega)
    · intro P hP
      rw [pk_un (by omega)]; exact hf2 P hP
    · rw [h_170_247]
      simp only [e_170, k1, rm_f p1, cc48, cc12, nI_add, a1, w, nI_1, Option.bind_some, Option.toList_some, Option.toList_none, List.cons_append, List.nil_append, List.append_nil, List.length_cons, List.length_nil, true_or, or_true, eq_self, b01_0, b01_1, b01_2, b01_3, b01_4, Nat.zero_le, Nat.reduceAdd, Nat.reduceLeDiff, ↓reduceIte, not_true_eq_false, not_false_eq_true, Bool.false_eq_true]) [.ref 90, .int (nI i), .int (nI r), .int (nI p), .int (nI i'), .int (nI r'), .int (nI p'), .int (nI t), .int (nI q), .int (nI q'), .int 0] G ⟨rfl, ce, (set_same h.2.2.2.2.2.2.2.2.2.2.2.1).symm, fun k hk => absurd hk (by omega), fun P _ => rfl⟩
  subst hls
  subst hG'
  refine ⟨f, ?_, hf1, hf2⟩
  have k2 : ¬ nI t < nI t := nI_nlt (Nat.le_refl _) (by omega)
  rw [hev, h_170_247]
  simp only [e_170, k2, Option.bind_some, Option.toList_some, Option.toList_none, List.cons_append, List.nil_append, List.append_nil, List.length_cons, List.length_nil, true_or, or_true, eq_self, b01_0, b01_1, b01_2, b01_3, b01_4, Nat.zero_le, Nat.reduceAdd, Nat.reduceLeDiff, ↓reduceIte, not_true_eq_false, not_false_eq_true, Bool.false_eq_true]
end REF
section ROWS
variable {L : Nat} {xs : Nat → Int32}
set_option maxHeartbeats 4000000 in
theorem R30 : lw_R30 L xs Inv := by
  intro a x y b s z n G hG
  refine inv_elim hG ?_
  intro R C rim fi se lo hi TB OB LB ks ws stale lw SZ HD HP sts nx sz kq hT hO hL hK hW sq sv rv le nu di ch tr su U tu tl ki go wa ol hs so sr rs ce cp fa pa hpl hpv hld hhs hsp htp hpr hrm hr1 hr2 hr3 hr4
  have hC := (rm_f hrm).1
  have hTT := fun s => inv_tt hpl hpv hld hhs hsp htp hpr hrm hr1 hr2 hr3 hr4 tr s
  have r1 : ∀ s, rm (G.set 0 (top tr s)) su tr R C U tu tl ki go wa ol hs so sr rs ce cp fa pa := fun s => rm_ag hrm (fun k a b => gs_ne (by omega))
  have f1 := fun s => rm_f (r1 s)
  have g1 := fun s => rm_t (r1 s)
  have w1 := fun s => rm_w1 (r1 s) 0
  have r2 := fun s => rm_set (r1 s) 0 tr R C U
  have f2 := fun s => rm_f (r2 s)
  have a2 := fun s => rm_a (X := mc_X0 L xs) (r2 s)
  have n2 : ∀ s w, mc_ev (mc_X0 L xs) 163 0 [.ref 90, .int w] [] ((G.set 0 (top tr s)).set 90 (rmc 0 tr R C U)) = some (some (.int w), (G.set 0 (top tr s)).set 90 (rmc w tr R C U)) := fun s w => by rw [r_no (r2 s) w, List.set_set]
  rcases ix_of a (N := 4) (by decide) with hb | ⟨i, hin, rfl⟩
  · have hx : (0 ≤ a ∧ a ≤ 3) = False := ix_no (N := 4) (by decide) (by decide) hb
    refine rfu hC (s := -1) ?_ ?_ (hTT _)
    · simp only [e_91, tp_f htp, c_isNoStrip, no_no hb, c_refuse htp, Option.bind_some, Option.toList_some, Option.toList_none, List.cons_append, List.nil_append, List.append_nil, List.length_cons, List.length_nil, true_or, or_true, eq_self, b01_0, b01_1, b01_2, b01_3, b01_4, Nat.zero_le, Nat.reduceAdd, Nat.reduceLeDiff, ↓reduceIte, not_true_eq_false, not_false_eq_true, Bool.false_eq_true]
    · simp only [e_170, f1, g1, w1, f2, r_in, hx, n2, Option.bind_some, Option.toList_some, Option.toList_none, List.cons_append, List.nil_append, List.append_nil, List.length_cons, List.length_nil, true_or, or_true, eq_self, b01_0, b01_1, b01_2, b01_3, b01_4, Nat.zero_le, Nat.reduceAdd, Nat.reduceLeDiff, ↓reduceIte, not_true_eq_false, not_false_eq_true, Bool.false_eq_true]
  have hno := no_yes (N := 4) hin (by decide)
  have hye : (0 ≤ nI i ∧ nI i ≤ 3) = True := ix_yes (N := 4) hin (by decide)
  rcases ix_of b (N := 4) (by decide) with hb | ⟨i', hin', rfl⟩
  · have hx : (0 ≤ b ∧ b ≤ 3) = False := ix_no (N := 4) (by decide) (by decide) hb
    refine rfu hC (s := -1) ?_ ?_ (hTT _)
    · simp only [e_91, tp_f htp, c_isNoStrip, hno, no_no hb, c_refuse htp, Option.bind_some, Option.toList_some, Option.toList_none, List.cons_append, List.nil_append, List.append_nil, List.length_cons, List.length_nil, true_or, or_true, eq_self, b01_0, b01_1, b01_2, b01_3, b01_4, Nat.zero_le, Nat.reduceAdd, Nat.reduceLeDiff, ↓reduceIte, not_true_eq_false, not_false_eq_true, Bool.false_eq_true]
    · simp only [e_170, f1, g1, w1, f2, r_in, hye, hx, n2, Option.bind_some, Option.toList_some, Option.toList_none, List.cons_append, List.nil_append, List.append_nil, List.length_cons, List.length_nil, true_or, or_true, eq_self, b01_0, b01_1, b01_2, b01_3, b01_4, Nat.zero_le, Nat.reduceAdd, Nat.reduceLeDiff, ↓reduceIte, not_true_eq_false, not_false_eq_true, Bool.false_eq_true]
  have hno' := no_yes (N := 4) hin' (by decide)
  have hye' : (0 ≤ nI i' ∧ nI i' ≤ 3) = True := ix_yes (N := 4) hin' (by decide)
  have hk := sp_k hsp hin
  have hk' := sp_k hsp hin'
  have hkf := sk_f (X := mc_X0 L xs) hk
  have hkf' := sk_f (X := mc_X0 L xs) hk'
  rcases hr4 i hin with ⟨ab, h0⟩ | ⟨h1, N, hN, e1, e2, ⟨m, hm, e3, e4⟩, hrow⟩
  · have c107 : mc_ev (mc_X0 L xs) 107 0 [.ref (78 + 3 * i), .int x, .ref (78 + 3 * i'), .int s] [] G = some (some (.int (-11)), G) := by
      simp only [e_107, hkf, k_isAbsent hk, ab, Option.bind_some, Option.toList_some, Option.toList_none, List.cons_append, List.nil_append, List.append_nil, List.length_cons, List.length_nil, true_or, or_true, eq_self, b01_0, b01_1, b01_2, b01_3, b01_4, Nat.zero_le, Nat.reduceAdd, Nat.reduceLeDiff, ↓reduceIte, not_true_eq_false, not_false_eq_true, Bool.false_eq_true]
    refine rfu hC (s := -11) ?_ ?_ (hTT _)
    · simp only [e_91, tp_f htp, c_isNoStrip, hno, hno', sp_q hsp hin, sp_q hsp hin', c107, klit, c_refuse htp, Option.bind_some, Option.toList_some, Option.toList_none, List.cons_append, List.nil_append, List.append_nil, List.length_cons, List.length_nil, true_or, or_true, eq_self, b01_0, b01_1, b01_2, b01_3, b01_4, Nat.zero_le, Nat.reduceAdd, Nat.reduceLeDiff, ↓reduceIte, not_true_eq_false, not_false_eq_true, Bool.false_eq_true]
    · simp only [e_170, f1, g1, w1, f2, r_in, hye, hye', a2, hin, h0, n2, Option.bind_some, Option.toList_some, Option.toList_none, List.cons_append, List.nil_append, List.append_nil, List.length_cons, List.length_nil, true_or, or_true, eq_self, b01_0, b01_1, b01_2, b01_3, b01_4, Nat.zero_le, Nat.reduceAdd, Nat.reduceLeDiff, ↓reduceIte, not_true_eq_false, not_false_eq_true, Bool.false_eq_true]
  have ea := n_m1 (n := N) (by omega)
  rcases hr4 i' hin' with ⟨ab, h0⟩ | ⟨h1', N', hN', e1', e2', ⟨m', hm', e3', e4'⟩, hrow'⟩
  · have c107 : mc_ev (mc_X0 L xs) 107 0 [.ref (78 + 3 * i), .int x, .ref (78 + 3 * i'), .int s] [] G = some (some (.int (-11)), G) := by
      simp only [e_107, hkf, hkf', k_isAbsent hk, k_isAbsent hk', e1, ea, ab, Option.bind_some, Option.toList_some, Option.toList_none, List.cons_append, List.nil_append, List.append_nil, List.length_cons, List.length_nil, true_or, or_true, eq_self, b01_0, b01_1, b01_2, b01_3, b01_4, Nat.zero_le, Nat.reduceAdd, Nat.reduceLeDiff, ↓reduceIte, not_true_eq_false, not_false_eq_true, Bool.false_eq_true]
    refine rfu hC (s := -11) ?_ ?_ (hTT _)
    · simp only [e_91, tp_f htp, c_isNoStrip, hno, hno', sp_q hsp hin, sp_q hsp hin', c107, klit, c_refuse htp, Option.bind_some, Option.toList_some, Option.toList_none, List.cons_append, List.nil_append, List.append_nil, List.length_cons, List.length_nil, true_or, or_true, eq_self, b01_0, b01_1, b01_2, b01_3, b01_4, Nat.zero_le, Nat.reduceAdd, Nat.reduceLeDiff, ↓reduceIte, not_true_eq_false, not_false_eq_true, Bool.false_eq_true]
    · simp only [e_170, f1, g1, w1, f2, r_in, hye, hye', a2, hin, hin', h1, h0, n2, Option.bind_some, Option.toList_some, Option.toList_none, List.cons_append, List.nil_append, List.append_nil, List.length_cons, List.length_nil, true_or, or_true, eq_self, b01_0, b01_1, b01_2, b01_3, b01_4, Nat.zero_le, Nat.reduceAdd, Nat.reduceLeDiff, ↓reduceIte, not_true_eq_false, not_false_eq_true, Bool.false_eq_true]
  have ea' := n_m1 (n := N') (by omega)
  by_cases cm : m = m'
  case neg =>
    have cs : (nI m = nI m') = False := eq_false (fun q => cm ((nI_eq (by omega) (by omega)).mp q))
    have c107 : mc_ev (mc_X0 L xs) 107 0 [.ref (78 + 3 * i), .int x, .ref (78 + 3 * i'), .int s] [] G = some (some (.int (-13)), G) := by
      simp only [e_107, hkf, hkf', k_isAbsent hk, k_isAbsent hk', e1, e1', ea, ea', e3, e3', cs, Option.bind_some, Option.toList_some, Option.toList_none, List.cons_append, List.nil_append, List.append_nil, List.length_cons, List.length_nil, true_or, or_true, eq_self, b01_0, b01_1, b01_2, b01_3, b01_4, Nat.zero_le, Nat.reduceAdd, Nat.reduceLeDiff, ↓reduceIte, not_true_eq_false, not_false_eq_true, Bool.false_eq_true]
    refine rfu hC (s := -13) ?_ ?_ (hTT _)
    · simp only [e_91, tp_f htp, c_isNoStrip, hno, hno', sp_q hsp hin, sp_q hsp hin', c107, klit, c_refuse htp, Option.bind_some, Option.toList_some, Option.toList_none, List.cons_append, List.nil_append, List.append_nil, List.length_cons, List.length_nil, true_or, or_true, eq_self, b01_0, b01_1, b01_2, b01_3, b01_4, Nat.zero_le, Nat.reduceAdd, Nat.reduceLeDiff, ↓reduceIte, not_true_eq_false, not_false_eq_true, Bool.false_eq_true]
    · simp only [e_170, f1, g1, w1, f2, r_in, hye, hye', a2, hin, hin', h1, h1', e4, e4', cs, n2, Option.bind_some, Option.toList_some, Option.toList_none, List.cons_append, List.nil_append, List.append_nil, List.length_cons, List.length_nil, true_or, or_true, eq_self, b01_0, b01_1, b01_2, b01_3, b01_4, Nat.zero_le, Nat.reduceAdd, Nat.reduceLeDiff, ↓reduceIte, not_true_eq_false, not_false_eq_true, Bool.false_eq_true]
  subst cm
  rcases jx_of x (N := N) (by omega) with ⟨cx, cm⟩ | ⟨r, hr, rfl⟩
  · have c107 : mc_ev (mc_X0 L xs) 107 0 [.ref (78 + 3 * i), .int x, .ref (78 + 3 * i'), .int s] [] G = some (some (.int (-12)), G) := by
      simp only [e_107, hkf, hkf', k_isAbsent hk, k_isAbsent hk', e1, e1', ea, ea', e3, e3', k_lacksRow hk, cx, Option.bind_some, Option.toList_some, Option.toList_none, List.cons_append, List.nil_append, List.append_nil, List.length_cons, List.length_nil, true_or, or_true, eq_self, b01_0, b01_1, b01_2, b01_3, b01_4, Nat.zero_le, Nat.reduceAdd, Nat.reduceLeDiff, ↓reduceIte, not_true_eq_false, not_false_eq_true, Bool.false_eq_true]
    refine rfu hC (s := -12) ?_ ?_ (hTT _)
    · simp only [e_91, tp_f htp, c_isNoStrip, hno, hno', sp_q hsp hin, sp_q hsp hin', c107, klit, c_refuse htp, Option.bind_some, Option.toList_some, Option.toList_none, List.cons_append, List.nil_append, List.append_nil, List.length_cons, List.length_nil, true_or, or_true, eq_self, b01_0, b01_1, b01_2, b01_3, b01_4, Nat.zero_le, Nat.reduceAdd, Nat.reduceLeDiff, ↓reduceIte, not_true_eq_false, not_false_eq_true, Bool.false_eq_true]
    · simp only [e_170, f1, g1, w1, f2, r_in, hye, hye', a2, hin, hin', h1, h1', e4, e4', e2, cm, n2, Option.bind_some, Option.toList_some, Option.toList_none, List.cons_append, List.nil_append, List.append_nil, List.length_cons, List.length_nil, true_or, or_true, eq_self, b01_0, b01_1, b01_2, b01_3, b01_4, Nat.zero_le, Nat.reduceAdd, Nat.reduceLeDiff, ↓reduceIte, not_true_eq_false, not_false_eq_true, Bool.false_eq_true]
  have cx := no_yes (N := N) hr (by omega)
  have cm := ix_yes (N := N) hr (by omega)
  rcases jx_of s (N := N') (by omega) with ⟨cx', cm'⟩ | ⟨r', hr', rfl⟩
  · have c107 : mc_ev (mc_X0 L xs) 107 0 [.ref (78 + 3 * i), .int (nI r), .ref (78 + 3 * i'), .int s] [] G = some (some (.int (-12)), G) := by
      simp only [e_107, hkf, hkf', k_isAbsent hk, k_isAbsent hk', e1, e1', ea, ea', e3, e3', k_lacksRow hk, k_lacksRow hk', cx, cx', Option.bind_some, Option.toList_some, Option.toList_none, List.cons_append, List.nil_append, List.append_nil, List.length_cons, List.length_nil, true_or, or_true, eq_self, b01_0, b01_1, b01_2, b01_3, b01_4, Nat.zero_le, Nat.reduceAdd, Nat.reduceLeDiff, ↓reduceIte, not_true_eq_false, not_false_eq_true, Bool.false_eq_true]
    refine rfu hC (s := -12) ?_ ?_ (hTT _)
    · simp only [e_91, tp_f htp, c_isNoStrip, hno, hno', sp_q hsp hin, sp_q hsp hin', c107, klit, c_refuse htp, Option.bind_some, Option.toList_some, Option.toList_none, List.cons_append, List.nil_append, List.append_nil, List.length_cons, List.length_nil, true_or, or_true, eq_self, b01_0, b01_1, b01_2, b01_3, b01_4, Nat.zero_le, Nat.reduceAdd, Nat.reduceLeDiff, ↓reduceIte, not_true_eq_false, not_false_eq_true, Bool.false_eq_true]
    · simp only [e_170, f1, g1, w1, f2, r_in, hye, hye', a2, hin, hin', h1, h1', e4, e4', e2, cm, e2', cm', n2, Option.bind_some, Option.toList_some, Option.toList_none, List.cons_append, List.nil_append, List.append_nil, List.length_cons, List.length_nil, true_or, or_true, eq_self, b01_0, b01_1, b01_2, b01_3, b01_4, Nat.zero_le, Nat.reduceAdd, Nat.reduceLeDiff, ↓reduceIte, not_true_eq_false, not_false_eq_true, Bool.false_eq_true]
  have cx' := no_yes (N := N') hr' (by omega)
  have cm' := ix_yes (N := N') hr' (by omega)
  have a16 := fun s => (a2 s).2.2.2.2.2.2.2.2.2.1 (4 * i + r) (by omega)
  have a16' := fun s => (a2 s).2.2.2.2.2.2.2.2.2.1 (4 * i' + r') (by omega)
  rcases hrow r hr with ⟨g1', g2⟩ | ⟨q, q1, q2, q3, q4⟩
  · have c107 : mc_ev (mc_X0 L xs) 107 0 [.ref (78 + 3 * i), .int (nI r), .ref (78 + 3 * i'), .int (nI r')] [] G = some (some (.int (-11)), G) := by
      simp only [e_107, hkf, hkf', k_isAbsent hk, k_isAbsent hk', e1, e1', ea, ea', e3, e3', k_lacksRow hk, k_lacksRow hk', cx, cx', k_isMissing hk (j := r) (by omega), g1', Option.bind_some, Option.toList_some, Option.toList_none, List.cons_append, List.nil_append, List.append_nil, List.length_cons, List.length_nil, true_or, or_true, eq_self, b01_0, b01_1, b01_2, b01_3, b01_4, Nat.zero_le, Nat.reduceAdd, Nat.reduceLeDiff, ↓reduceIte, not_true_eq_false, not_false_eq_true, Bool.false_eq_true]
    refine rfu hC (s := -11) ?_ ?_ (hTT _)
    · simp only [e_91, tp_f htp, c_isNoStrip, hno, hno', sp_q hsp hin, sp_q hsp hin', c107, klit, c_refuse htp, Option.bind_some, Option.toList_some, Option.toList_none, List.cons_append, List.nil_append, List.append_nil, List.length_cons, List.length_nil, true_or, or_true, eq_self, b01_0, b01_1, b01_2, b01_3, b01_4, Nat.zero_le, Nat.reduceAdd, Nat.reduceLeDiff, ↓reduceIte, not_true_eq_false, not_false_eq_true, Bool.false_eq_true]
    · simp only [e_170, f1, g1, w1, f2, r_in, hye, hye', a2, hin, hin', h1, h1', e4, e4', e2, cm, e2', cm', cc4, nI_add, a16, a16', g2, n2, Option.bind_some, Option.toList_some, Option.toList_none, List.cons_append, List.nil_append, List.append_nil, List.length_cons, List.length_nil, true_or, or_true, eq_self, b01_0, b01_1, b01_2, b01_3, b01_4, Nat.zero_le, Nat.reduceAdd, Nat.reduceLeDiff, ↓reduceIte, not_true_eq_false, not_false_eq_true, Bool.false_eq_true]
  have eq1 := n_m1 (n := q) (by omega)
  have eq9 := n_m9 (n := q) (by omega)
  rcases hrow' r' hr' with ⟨g1', g2⟩ | ⟨q', q1', q2', q3', q4'⟩
  · have c107 : mc_ev (mc_X0 L xs) 107 0 [.ref (78 + 3 * i), .int (nI r), .ref (78 + 3 * i'), .int (nI r')] [] G = some (some (.int (-11)), G) := by
      simp only [e_107, hkf, hkf', k_isAbsent hk, k_isAbsent hk', e1, e1', ea, ea', e3, e3', k_lacksRow hk, k_lacksRow hk', cx, cx', k_isMissing hk (j := r) (by omega), k_isMissing hk' (j := r') (by omega), q2, eq1, g1', Option.bind_some, Option.toList_some, Option.toList_none, List.cons_append, List.nil_append, List.append_nil, List.length_cons, List.length_nil, true_or, or_true, eq_self, b01_0, b01_1, b01_2, b01_3, b01_4, Nat.zero_le, Nat.reduceAdd, Nat.reduceLeDiff, ↓reduceIte, not_true_eq_false, not_false_eq_true, Bool.false_eq_true]
    refine rfu hC (s := -11) ?_ ?_ (hTT _)
    · simp only [e_91, tp_f htp, c_isNoStrip, hno, hno', sp_q hsp hin, sp_q hsp hin', c107, klit, c_refuse htp, Option.bind_some, Option.toList_some, Option.toList_none, List.cons_append, List.nil_append, List.append_nil, List.length_cons, List.length_nil, true_or, or_true, eq_self, b01_0, b01_1, b01_2, b01_3, b01_4, Nat.zero_le, Nat.reduceAdd, Nat.reduceLeDiff, ↓reduceIte, not_true_eq_false, not_false_eq_true, Bool.false_eq_true]
    · simp only [e_170, f1, g1, w1, f2, r_in, hye, hye', a2, hin, hin', h1, h1', e4, e4', e2, cm, e2', cm', cc4, nI_add, a16, a16', q3, eq9, g2, n2, Option.bind_some, Option.toList_some, Option.toList_none, List.cons_append, List.nil_append, List.append_nil, List.length_cons, List.length_nil, true_or, or_true, eq_self, b01_0, b01_1, b01_2, b01_3, b01_4, Nat.zero_le, Nat.reduceAdd, Nat.reduceLeDiff, ↓reduceIte, not_true_eq_false, not_false_eq_true, Bool.false_eq_true]
  have eq1' := n_m1 (n := q') (by omega)
  have eq9' := n_m9 (n := q') (by omega)
  have c107 : mc_ev (mc_X0 L xs) 107 0 [.ref (78 + 3 * i), .int (nI r), .ref (78 + 3 * i'), .int (nI r')] [] G = some (some (.int 0), G) := by
    simp only [e_107, hkf, hkf', k_isAbsent hk, k_isAbsent hk', e1, e1', ea, ea', e3, e3', k_lacksRow hk, k_lacksRow hk', cx, cx', k_isMissing hk (j := r) (by omega), k_isMissing hk' (j := r') (by omega), q2, eq1, q2', eq1', Option.bind_some, Option.toList_some, Option.toList_none, List.cons_append, List.nil_append, List.append_nil, List.length_cons, List.length_nil, true_or, or_true, eq_self, b01_0, b01_1, b01_2, b01_3, b01_4, Nat.zero_le, Nat.reduceAdd, Nat.reduceLeDiff, ↓reduceIte, not_true_eq_false, not_false_eq_true, Bool.false_eq_true]
  rcases rg_cases q1 y n with ⟨y1, y2⟩ | ⟨p, t, hpt, rfl, rfl, y1, y2⟩
  · refine rfu hC (s := -12) ?_ ?_ (hTT _)
    · simp only [e_91, tp_f htp, c_isNoStrip, hno, hno', sp_q hsp hin, sp_q hsp hin', c107, hkf, k_lacksRange hk (j := r) (by omega), q2, y1, c_refuse htp, Option.bind_some, Option.toList_some, Option.toList_none, List.cons_append, List.nil_append, List.append_nil, List.length_cons, List.length_nil, true_or, or_true, eq_self, b01_0, b01_1, b01_2, b01_3, b01_4, Nat.zero_le, Nat.reduceAdd, Nat.reduceLeDiff, ↓reduceIte, not_true_eq_false, not_false_eq_true, Bool.false_eq_true]
    · simp only [e_170, f1, g1, w1, f2, r_in, hye, hye', a2, hin, hin', h1, h1', e4, e4', e2, cm, e2', cm', cc4, nI_add, a16, a16', q3, eq9, q3', eq9', y2, n2, Option.bind_some, Option.toList_some, Option.toList_none, List.cons_append, List.nil_append, List.append_nil, List.length_cons, List.length_nil, true_or, or_true, eq_self, b01_0, b01_1, b01_2, b01_3, b01_4, Nat.zero_le, Nat.reduceAdd, Nat.reduceLeDiff, ↓reduceIte, not_true_eq_false, not_false_eq_true, Bool.false_eq_true]
  rcases rg_cases q1' z (nI t) with ⟨z1, z2⟩ | ⟨p', t', hpt', rfl, ht', z1, z2⟩
  · refine rfu hC (s := -12) ?_ ?_ (hTT _)
    · simp only [e_91, tp_f htp, c_isNoStrip, hno, hno', sp_q hsp hin, sp_q hsp hin', c107, hkf, hkf', k_lacksRange hk (j := r) (by omega), k_lacksRange hk' (j := r') (by omega), q2, y1, q2', z1, c_refuse htp, Option.bind_some, Option.toList_some, Option.toList_none, List.cons_append, List.nil_append, List.append_nil, List.length_cons, List.length_nil, true_or, or_true, eq_self, b01_0, b01_1, b01_2, b01_3, b01_4, Nat.zero_le, Nat.reduceAdd, Nat.reduceLeDiff, ↓reduceIte, not_true_eq_false, not_false_eq_true, Bool.false_eq_true]
    · simp only [e_170, f1, g1, w1, f2, r_in, hye, hye', a2, hin, hin', h1, h1', e4, e4', e2, cm, e2', cm', cc4, nI_add, a16, a16', q3, eq9, q3', eq9', y2, z2, n2, Option.bind_some, Option.toList_some, Option.toList_none, List.cons_append, List.nil_append, List.append_nil, List.length_cons, List.length_nil, true_or, or_true, eq_self, b01_0, b01_1, b01_2, b01_3, b01_4, Nat.zero_le, Nat.reduceAdd, Nat.reduceLeDiff, ↓reduceIte, not_true_eq_false, not_false_eq_true, Bool.false_eq_true]
  have htt : t' = t := ((nI_eq (by omega) (by omega)).mp ht').symm
  subst htt
  have cp1 := cp_n hk.2.2 hk'.2.2 (sp := r * 12 + p) (dp := r' * 12 + p') (n := t') (by omega) (by omega) (by decide) (by decide)
  have t1 : tp (G.set (80 + 3 * i') (.inl (0, 48, va_cpy (nu i) (nu i') (r * 12 + p) (r' * 12 + p') t'))) tr su := tp_ag htp (gs_ne (by omega))
  have ac := c_accept (X := mc_X0 L xs) t1 (nI t')
  have agX : ∀ k, k ≠ 0 → k ≠ 80 + 3 * i' → ((G.set (80 + 3 * i') (.inl (0, 48, va_cpy (nu i) (nu i') (r * 12 + p) (r' * 12 + p') t'))).set 0 (top tr 0))[k]? = G[k]? := fun k a b => by rw [gs_ne (Ne.symm a), gs_ne (Ne.symm b)]
  have hkN : sk ((G.set (80 + 3 * i') (.inl (0, 48, va_cpy (nu i) (nu i') (r * 12 + p) (r' * 12 + p') t'))).set 0 (top tr 0)) (78 + 3 * i') (79 + 3 * i') (80 + 3 * i') (sv i') (rv i') (le i') (va_cpy (nu i) (nu i') (r * 12 + p) (r' * 12 + p') t') := by
    refine ⟨(agX _ (by omega) (by omega)).trans hk'.1, (agX _ (by omega) (by omega)).trans hk'.2.1, ?_⟩
    rw [gs_ne (by omega)]; exact gs_self hk'.2.2
  have sp' := sp_s hsp hin' hkN (fun k a b c d e => agX k (by omega) e)
  have rA := rm_ag hrm (G' := (G.set (80 + 3 * i') (.inl (0, 48, va_cpy (nu i) (nu i') (r * 12 + p) (r' * 12 + p') t'))).set 0 (top tr 0)) (fun k a b => agX k (by omega) (by omega))
  have tA := tp_set t1 tr 0
  have hx : mc_ev (mc_X0 L xs) 91 0 [.ref 0, .int (nI i), .int (nI r), .int (nI p), .int (nI i'), .int (nI r'), .int (nI p'), .int (nI t'), .null, .null, .null] [] G = some (some (.int (nI t')), (G.set (80 + 3 * i') (.inl (0, 48, va_cpy (nu i) (nu i') (r * 12 + p) (r' * 12 + p') t'))).set 0 (top tr 0)) := by
    simp only [e_91, tp_f htp, c_isNoStrip, hno, hno', sp_q hsp hin, sp_q hsp hin', c107, hkf, hkf', k_lacksRange hk (j := r) (by omega), k_lacksRange hk' (j := r') (by omega), q2, y1, q2', z1, k_placeOf, cp1, tp_f t1, ac, Option.bind_some, Option.toList_some, Option.toList_none, List.cons_append, List.nil_append, List.append_nil, List.length_cons, List.length_nil, true_or, or_true, eq_self, b01_0, b01_1, b01_2, b01_3, b01_4, Nat.zero_le, Nat.reduceAdd, Nat.reduceLeDiff, ↓reduceIte, not_true_eq_false, not_false_eq_true, Bool.false_eq_true]
  clear ac hkN t1 cp1
  revert rA tA sp' agX hx
  generalize (G.set (80 + 3 * i') (.inl (0, 48, va_cpy (nu i) (nu i') (r * 12 + p) (r' * 12 + p') t'))).set 0 (top tr 0) = GA
  intro agX sp' rA tA hx
  have rB := rm_set rA 0 tr R C U
  have aB := rm_a (X := mc_X0 L xs) rB
  have b16 := aB.2.2.2.2.2.2.2.2.2.1 (4 * i + r) (by omega)
  have b16' := aB.2.2.2.2.2.2.2.2.2.1 (4 * i' + r') (by omega)
  have hm2 : mc_ev (mc_X0 L xs) 170 0 [.ref 90, .int (nI i), .int (nI r), .int (nI p), .int (nI i'), .int (nI r'), .int (nI p'), .int (nI t'), .null, .null, .null] [] GA = mc_ev (mc_X0 L xs) 170 205 [.ref 90, .int (nI i), .int (nI r), .int (nI p), .int (nI i'), .int (nI r'), .int (nI p'), .int (nI t'), .int (nI q), .int (nI q'), .int 0] [] (GA.set 90 (rmc 0 tr R C U)) := by
    simp only [e_170, rm_f rA, rm_t rA, rm_w1 rA 0, rm_f rB, r_in, hye, hye', aB, hin, hin', h1, h1', e4, e4', e2, cm, e2', cm', cc4, nI_add, b16, b16', q3, eq9, q3', eq9', y2, z2, Option.bind_some, Option.toList_some, Option.toList_none, List.cons_append, List.nil_append, List.append_nil, List.length_cons, List.length_nil, true_or, or_true, eq_self, b01_0, b01_1, b01_2, b01_3, b01_4, Nat.zero_le, Nat.reduceAdd, Nat.reduceLeDiff, ↓reduceIte, not_true_eq_false, not_false_eq_true, Bool.false_eq_true]
  obtain ⟨f, l1, l2⟩ := r_copy1 (X := mc_X0 L xs) rB (i := i) (i' := i') (r := r) (r' := r') (p := p) (p' := p') (q := q) (q' := q') (t := t') hin (by omega) hpt q1
  have rC := rm_s102 rB f
  obtain ⟨g, l3, l4, l5⟩ := r_copy2 (X := mc_X0 L xs) rC (i := i) (i' := i') (r := r) (r' := r') (p := p) (p' := p') (q := q) (q' := q') (t := t') hin' (by omega) hpt' q1'
  refine ⟨nI t', GA, _, hx, (rm_f rA).1, hm2.trans (l1.trans l3), ?_⟩
  refine inv_st hpl hpv hld hhs hpr sp' tA (rm_s101 rC g) (fun k a b => agX k (by omega) (by omega)) (fun k a => by rw [gs_ne (by omega), gs_ne (by omega), gs_ne (by omega)]) hr1 hr2 hr3 (rel4_u hr4 (fun t ht c => ⟨rfl, rfl, rfl, fun r hr => rfl, fun P hP => l5 _ (by omega)⟩) ?_)
  right
  refine ⟨h1', N', hN', e1', e2', ⟨m, hm, e3', e4'⟩, fun s hs => ?_⟩
  rcases hrow' s hs with g1 | ⟨Q, x1, x2, x3, x4⟩
  · exact Or.inl g1
  refine Or.inr ⟨Q, x1, x2, x3, fun k hk => ?_⟩
  by_cases c : r' * 12 + p' ≤ 12 * s + k ∧ 12 * s + k < r' * 12 + p' + t'
  · have es : s = r' := by omega
    subst es
    rw [pk_cpy_in c.1 c.2]
    have e5 := l4 (k - p') (by omega)
    have e6 := l2 (k - p') (by omega)
    rw [show 48 * i' + 12 * s + k = 48 * i' + 12 * s + p' + (k - p') by omega, e5, e6, show r * 12 + p + (12 * s + k - (s * 12 + p')) = 12 * r + (p + (k - p')) by omega, q4 _ (by omega)]
    congr 1
    omega
  · rw [pk_cpy_out (by omega), l5 _ (by omega)]
    exact x4 k hk
end ROWS
