/-! rows: plate -/
section SE
variable {X : mc_X} {G : mc_H} {T O L : Nat} {K W : Nat → Int32}
theorem c_reset (h : sg G 7 8 9 T O L K W) : mc_ev X 46 0 [.ref 7] [] G = some (none, ((G.set 7 (sc 0 0 0 8 9)).set 8 (.inl (0, 12, fun j => if j < 12 then 0 else K j))).set 9 (.inl (0, 17, fun j => if j < 17 then 0 else W j))) := by
  have w0 : mc_setf G 7 5 0 (.int 0) = some (G.set 7 (sc 0 O L 8 9)) := se_w0 h 0
  have h1 := se_set h (by decide) (by decide) 0 O L
  have w1 : mc_setf (G.set 7 (sc 0 O L 8 9)) 7 5 1 (.int 0) = some ((G.set 7 (sc 0 O L 8 9)).set 7 (sc 0 0 L 8 9)) := se_w1 h1 0
  rw [List.set_set] at w1
  have h2 := se_set h (by decide) (by decide) 0 0 L
  have w2 : mc_setf (G.set 7 (sc 0 0 L 8 9)) 7 5 2 (.int 0) = some ((G.set 7 (sc 0 0 L 8 9)).set 7 (sc 0 0 0 8 9)) := se_w2 h2 0
  rw [List.set_set] at w2
  have h3 := se_set h (by decide) (by decide) 0 0 0
  have f1 := j_fill (X := X) h3.2.1 (by decide) 0
  have h4 : sg ((G.set 7 (sc 0 0 0 8 9)).set 8 (.inl (0, 12, fun j => if j < 12 then 0 else K j))) 7 8 9 0 0 0 (fun j => if j < 12 then 0 else K j) W := ⟨(gs_ne (by decide)).trans h3.1, gs_self h3.2.1, (gs_ne (by decide)).trans h3.2.2⟩
  have f2 := j_fill (X := X) h4.2.2 (by decide) 0
  simp only [e_46, w0, w1, w2, se_f h3, f1, se_f h4, f2, Option.bind_some, Option.toList_some, Option.toList_none, List.cons_append, List.nil_append, List.append_nil, List.length_cons, List.length_nil, true_or, or_true, eq_self, b01_0, b01_1, b01_2, b01_3, b01_4, Nat.zero_le, Nat.reduceAdd, Nat.reduceLeDiff, ↓reduceIte, not_true_eq_false, not_false_eq_true, Bool.false_eq_true]
end SE
section REF
variable {X : mc_X} {G : mc_H} {su : Int32} {tr : Int64} {R C U : Nat} {tu tl ki go wa ol hs so sr rs ce cp fa pa : Nat → Int32}
theorem rm_w3 (h : rm G su tr R C U tu tl ki go wa ol hs so sr rs ce cp fa pa) (r : Nat) : mc_setf G 90 8 3 (.int (nI r)) = some (G.set 90 (rmc su tr r C U)) := sf_n h.1 (Nat.le_of_ble_eq_true rfl) rfl
theorem rm_w4 (h : rm G su tr R C U tu tl ki go wa ol hs so sr rs ce cp fa pa) (c : Nat) : mc_setf G 90 8 4 (.int (nI c)) = some (G.set 90 (rmc su tr R c U)) := sf_n h.1 (Nat.le_of_ble_eq_true rfl) rfl
theorem r_plate1 (h : rm G su tr R C U tu tl ki go wa ol hs so sr rs ce cp fa pa) (v0 v1 : Value) : ∃ (G' : mc_H) (a b c d : Nat → Int32), mc_ev X 133 47 [.ref 90, v0, v1, .int 0] [] G = mc_ev X 133 89 [.ref 90, v0, v1, .int 0] [] G' ∧ (∀ k, k < 90 → G'[k]? = G[k]?) ∧ rm G' su tr R C U a b c d wa ol hs so sr rs ce cp fa pa ∧ ∀ i, i < 12 → a i = 0 ∧ b i = 0 ∧ c i = 0 ∧ d i = 0 := by
  obtain ⟨ls, G', ⟨hls, hag, a, b, c, d, hr, hf⟩, hev⟩ := ev_inv (X := X) (k := 133) (pc := 47) (fun n ls G' => ls = [.ref 90, v0, v1, .int (nI n)] ∧ (∀ k, k < 90 → G'[k]? = G[k]?) ∧ ∃ (a b c d : Nat → Int32), rm G' su tr R C U a b c d wa ol hs so sr rs ce cp fa pa ∧ ∀ i, i < n → a i = 0 ∧ b i = 0 ∧ c i = 0 ∧ d i = 0) 12 (by
    intro n hn ls G' ⟨hls, hag, a, b, c, d, hr, hf⟩
    subst hls
    have k1 : nI n < 12 := nI_lt (b := 12) hn (by decide)
    have r1 := rm_s91 hr (upd a n 0)
    have r2 := rm_s92 r1 (upd b n 0)
    have r3 := rm_s93 r2 (upd c n 0)
    have r4 := rm_s94 r3 (upd d n 0)
    refine ⟨[.ref 90, v0, v1, .int (nI (n + 1))], _, ⟨rfl, fun k hk => ?_, _, _, _, _, r4, ?_⟩, ?_⟩
    · rw [gs_ne (by omega), gs_ne (by omega), gs_ne (by omega), gs_ne (by omega)]; exact hag k hk
    · intro i hi
      by_cases cc : i = n
      · subst cc
        rw [pk_us, pk_us, pk_us, pk_us]
        exact ⟨rfl, rfl, rfl, rfl⟩
      · rw [pk_un cc, pk_un cc, pk_un cc, pk_un cc]
        exact hf i (by omega)
    · rw [h_133_47]
      simp only [e_133, k1, rm_f hr, rm_w91a hr hn, rm_f r1, rm_w92a r1 hn, rm_f r2, rm_w93a r2 hn, rm_f r3, vn0, rm_w94a r3 hn, nI_1, Option.bind_some, Option.toList_some, Option.toList_none, List.cons_append, List.nil_append, List.append_nil, List.length_cons, List.length_nil, true_or, or_true, eq_self, b01_0, b01_1, b01_2, b01_3, b01_4, Nat.zero_le, Nat.reduceAdd, Nat.reduceLeDiff, ↓reduceIte, not_true_eq_false, not_false_eq_true, Bool.false_eq_true]) [.ref 90, v0, v1, .int 0] G ⟨rfl, fun k _ => rfl, tu, tl, ki, go, h, fun i hi => absurd hi (by omega)⟩
  subst hls
  refine ⟨G', a, b, c, d, ?_, hag, hr, hf⟩
  have k2 : ¬ nI 12 < 12 := by decide
  rw [hev, h_133_47]
  simp only [e_133, k2, Option.bind_some, Option.toList_some, Option.toList_none, List.cons_append, List.nil_append, List.append_nil, List.length_cons, List.length_nil, true_or, or_true, eq_self, b01_0, b01_1, b01_2, b01_3, b01_4, Nat.zero_le, Nat.reduceAdd, Nat.reduceLeDiff, ↓reduceIte, not_true_eq_false, not_false_eq_true, Bool.false_eq_true]
theorem r_plate2 (h : rm G su tr R C U tu tl ki go wa ol hs so sr rs ce cp fa pa) (hs' : sh R C) (v0 v1 : Value) : ∃ (f : Nat → Int32), mc_ev X 133 89 [.ref 90, v0, v1, .int 0] [] G = some (some (.int (nI (nJ R C))), (G.set 95 (.inl (0, 24, f))).set 90 (rmc su tr R C 0)) ∧ ∀ i, i < 24 → f i = 0 := by
  obtain ⟨ls, G', ⟨hls, f, hG', hf⟩, hev⟩ := ev_inv (X := X) (k := 133) (pc := 89) (fun n ls G' => ls = [.ref 90, v0, v1, .int (nI n)] ∧ ∃ f : Nat → Int32, G' = G.set 95 (.inl (0, 24, f)) ∧ ∀ i, i < n → f i = 0) 24 (by
    intro n hn ls G' ⟨hls, f, hG', hf⟩
    subst hls
    subst hG'
    have k1 : nI n < 24 := nI_lt (b := 24) hn (by decide)
    have r1 := rm_s95 h f
    refine ⟨[.ref 90, v0, v1, .int (nI (n + 1))], G.set 95 (.inl (0, 24, upd f n 0)), ⟨rfl, _, rfl, ?_⟩, ?_⟩
    · intro i hi
      by_cases cc : i = n
      · subst cc; rw [pk_us]
      · rw [pk_un cc]; exact hf i (by omega)
    · rw [h_133_89]
      simp only [e_133, k1, rm_f r1, nI_1, rm_w95s h f hn, Option.bind_some, Option.toList_some, Option.toList_none, List.cons_append, List.nil_append, List.append_nil, List.length_cons, List.length_nil, true_or, or_true, eq_self, b01_0, b01_1, b01_2, b01_3, b01_4, Nat.zero_le, Nat.reduceAdd, Nat.reduceLeDiff, ↓reduceIte, not_true_eq_false, not_false_eq_true, Bool.false_eq_true]) [.ref 90, v0, v1, .int 0] G ⟨rfl, wa, (set_same h.2.2.2.2.2.1).symm, fun i hi => absurd hi (by omega)⟩
  subst hls
  subst hG'
  refine ⟨f, ?_, hf⟩
  have k2 : ¬ nI 24 < 24 := by decide
  have r1 := rm_s95 h f
  have r2 := rm_set r1 su tr R C 0
  have w : mc_setf (G.set 95 (.inl (0, 24, f))) 90 8 11 (.int 0) = some ((G.set 95 (.inl (0, 24, f))).set 90 (rmc su tr R C 0)) := rm_w11 r1 0
  rw [hev, h_133_89]
  simp only [e_133, k2, rm_f r1, w, rm_f r2, r_joints r2 hs', Option.bind_some, Option.toList_some, Option.toList_none, List.cons_append, List.nil_append, List.append_nil, List.length_cons, List.length_nil, true_or, or_true, eq_self, b01_0, b01_1, b01_2, b01_3, b01_4, Nat.zero_le, Nat.reduceAdd, Nat.reduceLeDiff, ↓reduceIte, not_true_eq_false, not_false_eq_true, Bool.false_eq_true]
end REF
theorem sd_of (a : Int32) : (a < 1 ∧ (1 ≤ a ∧ a ≤ 6) = False) ∨ (¬ a < 1 ∧ 6 < a ∧ (1 ≤ a ∧ a ≤ 6) = False) ∨ ∃ r : Nat, 1 ≤ r ∧ r ≤ 6 ∧ a = nI r ∧ ¬ a < 1 ∧ ¬ 6 < a ∧ (1 ≤ a ∧ a ≤ 6) = True := by
  by_cases c1 : a < 1
  · exact Or.inl ⟨c1, eq_false (fun q => absurd q.1 (Int32.not_le.mpr c1))⟩
  · by_cases c2 : 6 < a
    · exact Or.inr (Or.inl ⟨c1, c2, eq_false (fun q => absurd q.2 (Int32.not_le.mpr c2))⟩)
    · right; right
      have h1 := Int32.not_lt.mp c1
      have h0 : ¬ a < 0 := fun q => absurd (Int32.lt_of_le_of_lt h1 q) (by decide)
      obtain ⟨r, hr, rfl⟩ := nI_of2 (M := 6) (n := 6) rfl h0 (Int32.not_lt.mp c2)
      refine ⟨r, ?_, hr, rfl, c1, c2, eq_true ⟨h1, Int32.not_lt.mp c2⟩⟩
      rcases Nat.eq_zero_or_pos r with q | q
      · subst q; exact absurd (by decide : nI 0 < 1) c1
      · exact q
section ROWS
variable {L : Nat} {xs : Nat → Int32}
set_option maxHeartbeats 4000000 in
theorem R0 : lw_R0 L xs Inv := by
  intro a b G hG
  refine inv_elim hG ?_
  intro R C rim fi se lo hi TB OB LB ks ws stale lw SZ HD HP sts nx sz kq hT hO hL hK hW sq sv rv le nu di ch tr su U tu tl ki go wa ol hs so sr rs ce cp fa pa hpl hpv hld hhs hsp htp hpr hrm hr1 hr2 hr3 hr4
  rcases sd_of a with ⟨a1, a2⟩ | ⟨a0, a1, a2⟩ | ⟨R', hR1, hR6, rfl, a1, a2, a3⟩
  · refine rd hG (v := -1) ?_ ?_
    · simp only [e_61, a1, Option.bind_some, Option.toList_some, Option.toList_none, List.cons_append, List.nil_append, List.append_nil, List.length_cons, List.length_nil, true_or, or_true, eq_self, b01_0, b01_1, b01_2, b01_3, b01_4, Nat.zero_le, Nat.reduceAdd, Nat.reduceLeDiff, ↓reduceIte, not_true_eq_false, not_false_eq_true, Bool.false_eq_true]
    · simp only [e_133, rm_f hrm, rm_t hrm, r_in, a2, Option.bind_some, Option.toList_some, Option.toList_none, List.cons_append, List.nil_append, List.append_nil, List.length_cons, List.length_nil, true_or, or_true, eq_self, b01_0, b01_1, b01_2, b01_3, b01_4, Nat.zero_le, Nat.reduceAdd, Nat.reduceLeDiff, ↓reduceIte, not_true_eq_false, not_false_eq_true, Bool.false_eq_true]
  · refine rd hG (v := -1) ?_ ?_
    · simp only [e_61, a0, a1, Option.bind_some, Option.toList_some, Option.toList_none, List.cons_append, List.nil_append, List.append_nil, List.length_cons, List.length_nil, true_or, or_true, eq_self, b01_0, b01_1, b01_2, b01_3, b01_4, Nat.zero_le, Nat.reduceAdd, Nat.reduceLeDiff, ↓reduceIte, not_true_eq_false, not_false_eq_true, Bool.false_eq_true]
    · simp only [e_133, rm_f hrm, rm_t hrm, r_in, a2, Option.bind_some, Option.toList_some, Option.toList_none, List.cons_append, List.nil_append, List.append_nil, List.length_cons, List.length_nil, true_or, or_true, eq_self, b01_0, b01_1, b01_2, b01_3, b01_4, Nat.zero_le, Nat.reduceAdd, Nat.reduceLeDiff, ↓reduceIte, not_true_eq_false, not_false_eq_true, Bool.false_eq_true]
  rcases sd_of b with ⟨b1, b2⟩ | ⟨b0, b1, b2⟩ | ⟨C', hC1, hC6, rfl, b1, b2, b3⟩
  · refine rd hG (v := -1) ?_ ?_
    · simp only [e_61, a1, a2, b1, Option.bind_some, Option.toList_some, Option.toList_none, List.cons_append, List.nil_append, List.append_nil, List.length_cons, List.length_nil, true_or, or_true, eq_self, b01_0, b01_1, b01_2, b01_3, b01_4, Nat.zero_le, Nat.reduceAdd, Nat.reduceLeDiff, ↓reduceIte, not_true_eq_false, not_false_eq_true, Bool.false_eq_true]
    · simp only [e_133, rm_f hrm, rm_t hrm, r_in, a3, b2, Option.bind_some, Option.toList_some, Option.toList_none, List.cons_append, List.nil_append, List.append_nil, List.length_cons, List.length_nil, true_or, or_true, eq_self, b01_0, b01_1, b01_2, b01_3, b01_4, Nat.zero_le, Nat.reduceAdd, Nat.reduceLeDiff, ↓reduceIte, not_true_eq_false, not_false_eq_true, Bool.false_eq_true]
  · refine rd hG (v := -1) ?_ ?_
    · simp only [e_61, a1, a2, b0, b1, Option.bind_some, Option.toList_some, Option.toList_none, List.cons_append, List.nil_append, List.append_nil, List.length_cons, List.length_nil, true_or, or_true, eq_self, b01_0, b01_1, b01_2, b01_3, b01_4, Nat.zero_le, Nat.reduceAdd, Nat.reduceLeDiff, ↓reduceIte, not_true_eq_false, not_false_eq_true, Bool.false_eq_true]
    · simp only [e_133, rm_f hrm, rm_t hrm, r_in, a3, b2, Option.bind_some, Option.toList_some, Option.toList_none, List.cons_append, List.nil_append, List.append_nil, List.length_cons, List.length_nil, true_or, or_true, eq_self, b01_0, b01_1, b01_2, b01_3, b01_4, Nat.zero_le, Nat.reduceAdd, Nat.reduceLeDiff, ↓reduceIte, not_true_eq_false, not_false_eq_true, Bool.false_eq_true]
  have hb36 : R' * C' ≤ 36 := (Nat.mul_le_mul hR6 hC6 : R' * C' ≤ 6 * 6)
  have e12 : ((12 : Int32) < nI (R' * C')) = (12 < R' * C') := propext (nI_ltI (a := 12) (by decide) (by omega))
  by_cases c12 : 12 < R' * C'
  · refine rd hG (v := -1) ?_ ?_
    · simp only [e_61, a1, a2, b1, b2, pk_mul, e12, c12, Option.bind_some, Option.toList_some, Option.toList_none, List.cons_append, List.nil_append, List.append_nil, List.length_cons, List.length_nil, true_or, or_true, eq_self, b01_0, b01_1, b01_2, b01_3, b01_4, Nat.zero_le, Nat.reduceAdd, Nat.reduceLeDiff, ↓reduceIte, not_true_eq_false, not_false_eq_true, Bool.false_eq_true]
    · simp only [e_133, rm_f hrm, rm_t hrm, r_in, a3, b3, pk_mul, e12, c12, Option.bind_some, Option.toList_some, Option.toList_none, List.cons_append, List.nil_append, List.append_nil, List.length_cons, List.length_nil, true_or, or_true, eq_self, b01_0, b01_1, b01_2, b01_3, b01_4, Nat.zero_le, Nat.reduceAdd, Nat.reduceLeDiff, ↓reduceIte, not_true_eq_false, not_false_eq_true, Bool.false_eq_true]
  have hs : sh R' C' := ⟨hR1, hR6, hC1, hC6, by omega⟩
  have hb1 := sh_b hs
  have hpl0 := hpl
  obtain ⟨l1, l2, l3, l4, l5, l6, l7, l8, l9⟩ := hpl0
  obtain ⟨G1, rim', fi', se', lo', hi', q1, q2, q3, q4, q5⟩ := c_layOut (X := mc_X0 L xs) hs l2 l3 l4 l5 l6
  have t1 := tp_ag htp (q2 0 (by omega))
  have sg1 : sg G1 7 8 9 TB OB LB ks ws := ⟨(q2 7 (by omega)).trans l7, (q2 8 (by omega)).trans l8, (q2 9 (by omega)).trans l9⟩
  have g11 : G1[1]? = some (.inr (.inr (4, [.ref 2, .ref 7]))) := (q2 1 (by omega)).trans l1
  have f11 : mc_cls G1 1 = some 4 ∧ mc_getf G1 1 4 0 = some (.ref 2) ∧ mc_getf G1 1 4 1 = some (.ref 7) := ⟨cl_n g11, gf_n g11 0, gf_n g11 1⟩
  have rs1 := c_reset (X := mc_X0 L xs) sg1
  have ag2 : ∀ k, k ≠ 7 → k ≠ 8 → k ≠ 9 → (((G1.set 7 (sc 0 0 0 8 9)).set 8 (.inl (0, 12, fun j => if j < 12 then 0 else ks j))).set 9 (.inl (0, 17, fun j => if j < 17 then 0 else ws j)))[k]? = G1[k]? := fun k a b c => by rw [gs_ne (Ne.symm c), gs_ne (Ne.symm b), gs_ne (Ne.symm a)]
  have sg2 : sg (((G1.set 7 (sc 0 0 0 8 9)).set 8 (.inl (0, 12, fun j => if j < 12 then 0 else ks j))).set 9 (.inl (0, 17, fun j => if j < 17 then 0 else ws j))) 7 8 9 0 0 0 (fun j => if j < 12 then 0 else ks j) (fun j => if j < 17 then 0 else ws j) := by
    refine ⟨?_, ?_, ?_⟩
    · rw [gs_ne (by decide), gs_ne (by decide)]; exact gs_self sg1.1
    · rw [gs_ne (by decide)]
      have : (G1.set 7 (sc 0 0 0 8 9))[8]? = some (.inl (0, 12, ks)) := (gs_ne (by decide)).trans sg1.2.1
      exact gs_self this
    · have : ((G1.set 7 (sc 0 0 0 8 9)).set 8 (.inl (0, 12, fun j => if j < 12 then 0 else ks j)))[9]? = some (.inl (0, 17, ws)) := (gs_ne (by decide)).trans ((gs_ne (by decide)).trans sg1.2.2)
      exact gs_self this
  revert rs1 ag2 sg2
  generalize ((G1.set 7 (sc 0 0 0 8 9)).set 8 (.inl (0, 12, fun j => if j < 12 then 0 else ks j))).set 9 (.inl (0, 17, fun j => if j < 17 then 0 else ws j)) = G2
  intro rs1 ag2 sg2
  have t2 := tp_ag t1 (G' := G2) (ag2 0 (by omega) (by omega) (by omega))
  have y2 : G2[10]? = some (hc nx sz) := (ag2 10 (by omega) (by omega) (by omega)).trans ((q2 10 (by omega)).trans hhs.1)
  have fg : mc_ev (mc_X0 L xs) 9 0 [.ref 10] [] G2 = some (none, G2.set 10 (hc nx 0)) := by
    have w : mc_setf G2 10 1 2 (.int 0) = some (G2.set 10 (hc nx 0)) := hy_w2 y2 0
    simp only [e_9, w, Option.bind_some, Option.toList_some, Option.toList_none, List.cons_append, List.nil_append, List.append_nil, List.length_cons, List.length_nil, true_or, or_true, eq_self, b01_0, b01_1, b01_2, b01_3, b01_4, Nat.zero_le, Nat.reduceAdd, Nat.reduceLeDiff, ↓reduceIte, not_true_eq_false, not_false_eq_true, Bool.false_eq_true]
  have t3 : tp (G2.set 10 (hc nx 0)) tr su := tp_ag t2 (gs_ne (by decide))
  have d2 := ld_ag hld (G' := G2.set 10 (hc nx 0)) (fun k a b => (gs_ne (by omega)).trans ((ag2 k (by omega) (by omega) (by omega)).trans (q2 k (by omega))))
  have agA : ∀ k, 10 < k → k ≠ 72 → ((G2.set 10 (hc nx 0)).set 72 (lc 1 SZ HD HP lw))[k]? = G[k]? := fun k a b => by rw [gs_ne (Ne.symm b), gs_ne (by omega), ag2 k (by omega) (by omega) (by omega), q2 k (by omega)]
  have agB : ∀ k, k < 10 → ((G2.set 10 (hc nx 0)).set 72 (lc 1 SZ HD HP lw))[k]? = G2[k]? := fun k a => by rw [gs_ne (by omega), gs_ne (by omega)]
  have t4 : tp ((G2.set 10 (hc nx 0)).set 72 (lc 1 SZ HD HP lw)) tr su := tp_ag t3 (gs_ne (by decide))
  have g2x : ∀ k, k < 7 → G2[k]? = G1[k]? := fun k a => ag2 k (by omega) (by omega) (by omega)
  have plA : pl ((G2.set 10 (hc nx 0)).set 72 (lc 1 SZ HD HP lw)) R' C' rim' fi' se' lo' hi' 0 0 0 (fun j => if j < 12 then 0 else ks j) (fun j => if j < 17 then 0 else ws j) :=
    ⟨(agB 1 (by omega)).trans ((g2x 1 (by omega)).trans g11), (agB 2 (by omega)).trans ((g2x 2 (by omega)).trans q3.1), (agB 3 (by omega)).trans ((g2x 3 (by omega)).trans q3.2.1), (agB 4 (by omega)).trans ((g2x 4 (by omega)).trans q3.2.2.1), (agB 5 (by omega)).trans ((g2x 5 (by omega)).trans q3.2.2.2.1), (agB 6 (by omega)).trans ((g2x 6 (by omega)).trans q3.2.2.2.2), (agB 7 (by omega)).trans sg2.1, (agB 8 (by omega)).trans sg2.2.1, (agB 9 (by omega)).trans sg2.2.2⟩
  have hyA : hy ((G2.set 10 (hc nx 0)).set 72 (lc 1 SZ HD HP lw)) nx 0 kq hT hO hL hK hW := by
    refine ⟨?_, (agA 11 (by omega) (by omega)).trans hhs.2.1, hhs.2.2.1, fun i hi => ?_, hhs.2.2.2.2.1, by omega⟩
    · rw [gs_ne (by decide)]; exact gs_self y2
    · obtain ⟨a1, a2, a3⟩ := hhs.2.2.2.1 i hi
      exact ⟨(agA _ (by omega) (by omega)).trans a1, (agA _ (by omega) (by omega)).trans a2, (agA _ (by omega) (by omega)).trans a3⟩
  have ldA := ld_xs d2 1
  have hx : mc_ev (mc_X0 L xs) 61 0 [.ref 0, .int (nI R'), .int (nI C')] [] G = some (some (.int (nI (nJ R' C'))), (G2.set 10 (hc nx 0)).set 72 (lc 1 SZ HD HP lw)) := by
    simp only [e_61, a1, a2, b1, b2, pk_mul, e12, c12, tp_f htp, pl_f hpl, q1, tp_f t1, f11, se_f sg1, rs1, tp_f t2, hc_f y2, fg, tp_f t3, ld_x1 d2, tp_f t4, pl_f plA, Option.bind_some, Option.toList_some, Option.toList_none, List.cons_append, List.nil_append, List.append_nil, List.length_cons, List.length_nil, true_or, or_true, eq_self, b01_0, b01_1, b01_2, b01_3, b01_4, Nat.zero_le, Nat.reduceAdd, Nat.reduceLeDiff, ↓reduceIte, not_true_eq_false, not_false_eq_true, Bool.false_eq_true]
  have rA := rm_ag hrm (G' := (G2.set 10 (hc nx 0)).set 72 (lc 1 SZ HD HP lw)) (fun k a b => agA k (by omega) (by omega))
  revert hx rA plA hyA ldA t4 agA
  generalize (G2.set 10 (hc nx 0)).set 72 (lc 1 SZ HD HP lw) = GA
  intro agA t4 plA hyA ldA hx rA
  have rB := rm_set rA su tr R' C U
  have rC := rm_set rB su tr R' C' U
  rw [List.set_set] at rC
  have w3 := rm_w3 rA R'
  have w4 := rm_w4 rB C'
  rw [List.set_set] at w4
  obtain ⟨G5, a, b, c, d, m1, m2, m3, m4⟩ := r_plate1 (X := mc_X0 L xs) rC (.int (nI R')) (.int (nI C'))
  obtain ⟨f, m5, m6⟩ := r_plate2 (X := mc_X0 L xs) m3 hs (.int (nI R')) (.int (nI C'))
  have hm : mc_ev (mc_X0 L xs) 133 0 [.ref 90, .int (nI R'), .int (nI C'), .null] [] GA = some (some (.int (nI (nJ R' C'))), (G5.set 95 (.inl (0, 24, f))).set 90 (rmc su tr R' C' 0)) := by
    simp only [e_133, rm_f rA, rm_t rA, r_in, a3, b3, pk_mul, e12, c12, w3, w4, m1, m5, Option.bind_some, Option.toList_some, Option.toList_none, List.cons_append, List.nil_append, List.append_nil, List.length_cons, List.length_nil, true_or, or_true, eq_self, b01_0, b01_1, b01_2, b01_3, b01_4, Nat.zero_le, Nat.reduceAdd, Nat.reduceLeDiff, ↓reduceIte, not_true_eq_false, not_false_eq_true, Bool.false_eq_true]
  have ag5 : ∀ k, k < 90 → ((G5.set 95 (.inl (0, 24, f))).set 90 (rmc su tr R' C' 0))[k]? = GA[k]? := fun k h => by rw [gs_ne (by omega), gs_ne (by omega), m2 k h, gs_ne (by omega)]
  refine ⟨nI (nJ R' C'), GA, _, hx, (rm_f rA).1, hm, ?_⟩
  have hz : 0 < 2 ^ nN R' C' := Nat.two_pow_pos _
  have hpv' : pv R' C' rim' fi' se' lo' hi' 0 0 0 (fun j => if j < 12 then 0 else ks j) (fun j => if j < 17 then 0 else ws j) := by
    refine ⟨hs, hz, hz, hz, q4, fun i hi => ⟨0, by omega, if_pos hi⟩, fun j hj => ?_, fun i hi => ?_, Nat.lt_of_lt_of_le q5.1 (pN hs), fun i hi hb => ?_⟩
    · show -1000 ≤ (if j < 17 then 0 else ws j) ∧ (if j < 17 then 0 else ws j) ≤ 1000
      rw [if_pos hj]; decide
    · have := q5.2 i hi
      rw [Nat.testBit_eq_decide_div_mod_eq] at this
      by_cases e : i / C' = 0 ∨ i / C' = R' - 1 ∨ i % C' = 0 ∨ i % C' = C' - 1
      · rw [decide_eq_true e] at this
        rw [if_pos e]; exact of_decide_eq_true this
      · rw [decide_eq_false e] at this
        rw [if_neg e]
        have h2 := of_decide_eq_false this
        have := Nat.mod_lt (rim' / 2 ^ i) (y := 2) (by decide)
        omega
    · rw [bt_0] at hb; cases hb
  refine inv_mk (pl_ag plA (fun k a b => ag5 k (by omega))) hpv' (ld_ag ldA (fun k a b => ag5 k (by omega))) (hy_ag hyA (fun k a b => ag5 k (by omega))) (sp_ag hsp (fun k a b => (ag5 k (by omega)).trans (agA k (by omega) (by omega)))) (tp_ag t4 (ag5 0 (by omega))) (pr_ag hpr (fun k a b => (ag5 k (by omega)).trans (agA k (by omega) (by omega)))) (rm_set (rm_s95 m3 f) su tr R' C' 0) ⟨fun i hi => ?_, fun j hj => ?_⟩ ⟨Or.inl rfl, hr2.2⟩ ⟨rfl, hr3.2.1, fun k hk => absurd hk (by omega)⟩ hr4
  · obtain ⟨e1, e2, e3, e4⟩ := m4 i (by omega)
    unfold gB
    rw [bt_0]
    exact ⟨e1, e2, e4, by rw [e3]; exact (if_pos (by omega)).symm⟩
  · rw [m6 j (by omega)]; exact (if_pos (by omega)).symm
end ROWS
