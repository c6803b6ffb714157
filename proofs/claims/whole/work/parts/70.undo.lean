/-! rows: undo -/
theorem mx_0 {n : Nat} (h : n < 2 ^ 31) : (if nI n < 0 then (0 : Int32) else nI n) = nI n := if_neg (nI_pos h)
section HY
variable {X : mc_X} {G : mc_H} {nx sz : Nat} {kq : Nat → Option Nat} {hT hO hL : Nat → Nat} {hK hW : Nat → Nat → Int32} {R C rim TB OB LB : Nat} {fi se lo hi ks ws : Nat → Int32}
theorem c_giveBack (h : hy G nx sz kq hT hO hL hK hW) (hp : pl G R C rim fi se lo hi TB OB LB ks ws) (h1 : 1 ≤ sz) : ∃ G', mc_ev X 8 0 [.ref 10, .ref 7] [] G = some (none, G') ∧ (∀ j, j ≠ 7 → j ≠ 8 → j ≠ 9 → j ≠ 10 → G'[j]? = G[j]?) ∧ hy G' ((nx + 19) % 20) (sz - 1) kq hT hO hL hK hW ∧ pl G' R C rim fi se lo hi (hT ((nx + 19) % 20)) (hO ((nx + 19) % 20)) (hL ((nx + 19) % 20)) (va_cpy (hK ((nx + 19) % 20)) ks 0 0 12) (va_cpy (hW ((nx + 19) % 20)) ws 0 0 17) := by
  have hnx := h.2.2.2.2.1
  have hsz := h.2.2.2.2.2
  have hm : (nx + 19) % 20 < 20 := Nat.mod_lt _ (by decide)
  have t0 : G[10]? = some (hc nx sz) := h.1
  have e1 := hy_w1 t0 ((nx + 19) % 20)
  have t1 : (G.set 10 (hc ((nx + 19) % 20) sz))[10]? = some (hc ((nx + 19) % 20) sz) := gs_self t0
  have e2 := hy_w2 t1 (sz - 1)
  rw [List.set_set] at e2
  have t2 : (G.set 10 (hc ((nx + 19) % 20) (sz - 1)))[10]? = some (hc ((nx + 19) % 20) (sz - 1)) := gs_self t0
  have hy2 : hy (G.set 10 (hc ((nx + 19) % 20) (sz - 1))) ((nx + 19) % 20) (sz - 1) kq hT hO hL hK hW := by
    refine ⟨t2, (gs_ne (by omega)).trans h.2.1, h.2.2.1, fun i hin => ?_, hm, by omega⟩
    obtain ⟨a1, a2, a3⟩ := h.2.2.2.1 i hin
    exact ⟨(gs_ne (by omega)).trans a1, (gs_ne (by omega)).trans a2, (gs_ne (by omega)).trans a3⟩
  have p2 := pl_ag hp (G' := G.set 10 (hc ((nx + 19) % 20) (sz - 1))) (fun k a b => gs_ne (by omega))
  obtain ⟨G1, q1, q2, q3⟩ := c_takeOver (X := X) (pl_se p2) (hy_se hy2 hm) (by omega) (by omega) (by omega) (by omega) (by omega) (by omega) (by omega) (by omega)
  have s1 : nI (nx + 20) - 1 = nI (nx + 19) := nI_pred (nx + 19)
  have s2 : nI sz - 1 = nI (sz - 1) := nI_m1 h1
  have s3 : nI nx + 20 = nI (nx + 20) := nI_add nx 20
  refine ⟨G1, ?_, ?_, ?_, ?_⟩
  · simp only [e_8, hc_f t0, s3, s1, k20, rem20 (n := nx + 19) (by omega), e1, hc_f t1, s2, mx_0 (n := sz - 1) (by omega), e2, hc_f t2, hy_q hy2 hm, se_f (pl_se p2), q1, Option.bind_some, Option.toList_some, Option.toList_none, List.cons_append, List.nil_append, List.append_nil, List.length_cons, List.length_nil, true_or, or_true, eq_self, b01_0, b01_1, b01_2, b01_3, b01_4, Nat.zero_le, Nat.reduceAdd, Nat.reduceLeDiff, ↓reduceIte, not_true_eq_false, not_false_eq_true, Bool.false_eq_true]
  · intro j j1 j2 j3 j4
    rw [q2 j j1 j2 j3, gs_ne (Ne.symm j4)]
  · exact hy_ag hy2 (fun k a b => q2 k (by omega) (by omega) (by omega))
  · obtain ⟨h1, h2, h3, h4, h5, h6, h7, h8, h9⟩ := p2
    exact ⟨(q2 1 (by decide) (by decide) (by decide)).trans h1, (q2 2 (by decide) (by decide) (by decide)).trans h2, (q2 3 (by decide) (by decide) (by decide)).trans h3, (q2 4 (by decide) (by decide) (by decide)).trans h4, (q2 5 (by decide) (by decide) (by decide)).trans h5, (q2 6 (by decide) (by decide) (by decide)).trans h6, q3.1, q3.2.1, q3.2.2⟩
end HY
section REF
variable {X : mc_X} {G : mc_H} {su : Int32} {tr : Int64} {R C U : Nat} {tu tl ki go wa ol hs so sr rs ce cp fa pa : Nat → Int32}
set_option maxHeartbeats 1000000 in
theorem r_undo1 (h : rm G su tr R C U tu tl ki go wa ol hs so sr rs ce cp fa pa) {V : Nat} (hV : V ≤ 19) : ∃ (G' : mc_H) (a b c d : Nat → Int32), mc_ev X 142 35 [.ref 90, .int (nI (72 * V)), .int 0] [] G = mc_ev X 142 128 [.ref 90, .int (nI (72 * V)), .int 0] [] G' ∧ (∀ k, k < 90 → G'[k]? = G[k]?) ∧ rm G' su tr R C U a b c d wa ol hs so sr rs ce cp fa pa ∧ ∀ i, i < 12 → a i = ol (72 * V + 4 * i) ∧ b i = ol (72 * V + 4 * i + 1) ∧ c i = ol (72 * V + 4 * i + 2) ∧ d i = if ol (72 * V + 4 * i + 3) = 1 then 1 else 0 := by
  obtain ⟨ls, G', ⟨hls, hag, a, b, c, d, hr, hf⟩, hev⟩ := ev_inv (X := X) (k := 142) (pc := 35) (fun n ls G' => ls = [.ref 90, .int (nI (72 * V)), .int (nI n)] ∧ (∀ k, k < 90 → G'[k]? = G[k]?) ∧ ∃ (a b c d : Nat → Int32), rm G' su tr R C U a b c d wa ol hs so sr rs ce cp fa pa ∧ ∀ i, i < n → a i = ol (72 * V + 4 * i) ∧ b i = ol (72 * V + 4 * i + 1) ∧ c i = ol (72 * V + 4 * i + 2) ∧ d i = if ol (72 * V + 4 * i + 3) = 1 then 1 else 0) 12 (by
    intro n hn ls G' ⟨hls, hag, a, b, c, d, hr, hf⟩
    subst hls
    have k1 : nI n < 12 := nI_lt (b := 12) hn (by decide)
    have r1 := rm_s91 hr (upd a n (ol (72 * V + 4 * n)))
    have r2 := rm_s92 r1 (upd b n (ol (72 * V + 4 * n + 1)))
    have r3 := rm_s93 r2 (upd c n (ol (72 * V + 4 * n + 2)))
    have r4 := rm_s94 r3 (upd d n (if ol (72 * V + 4 * n + 3) = 1 then 1 else 0))
    have a1 := (rm_a (X := X) hr).2.2.2.2.2.1 (72 * V + 4 * n) (by omega)
    have a2 := (rm_a (X := X) r1).2.2.2.2.2.1 (72 * V + 4 * n + 1) (by omega)
    have a3 := (rm_a (X := X) r2).2.2.2.2.2.1 (72 * V + 4 * n + 2) (by omega)
    have a4 := (rm_a (X := X) r3).2.2.2.2.2.1 (72 * V + 4 * n + 3) (by omega)
    refine ⟨[.ref 90, .int (nI (72 * V)), .int (nI (n + 1))], _, ⟨rfl, fun k hk => ?_, _, _, _, _, r4, ?_⟩, ?_⟩
    · rw [gs_ne (by omega), gs_ne (by omega), gs_ne (by omega), gs_ne (by omega)]; exact hag k hk
    · intro i hin
      by_cases cc : i = n
      · subst cc
        rw [pk_us, pk_us, pk_us, pk_us]
        exact ⟨rfl, rfl, rfl, rfl⟩
      · rw [pk_un cc, pk_un cc, pk_un cc, pk_un cc]
        exact hf i (by omega)
    · rw [h_142_35]
      simp only [e_142, k1, rm_f hr, cc4, nI_add, nI_1, cp2, cp3, a1, rm_w91a hr hn, rm_f r1, a2, rm_w92a r1 hn, rm_f r2, a3, rm_w93a r2 hn, rm_f r3, a4, Option.bind_some, Option.toList_some, Option.toList_none, List.cons_append, List.nil_append, List.append_nil, List.length_cons, List.length_nil, true_or, or_true, eq_self, b01_0, b01_1, b01_2, b01_3, b01_4, Nat.zero_le, Nat.reduceAdd, Nat.reduceLeDiff, ↓reduceIte, not_true_eq_false, not_false_eq_true, Bool.false_eq_true]
      by_cases cc : ol (72 * V + 4 * n + 3) = 1 <;> simp only [cc, e_142, vn0, vn1, rm_w94a r3 hn, nI_1, Option.bind_some, Option.toList_some, Option.toList_none, List.cons_append, List.nil_append, List.append_nil, List.length_cons, List.length_nil, true_or, or_true, eq_self, b01_0, b01_1, b01_2, b01_3, b01_4, Nat.zero_le, Nat.reduceAdd, Nat.reduceLeDiff, ↓reduceIte, not_true_eq_false, not_false_eq_true, Bool.false_eq_true]) [.ref 90, .int (nI (72 * V)), .int 0] G ⟨rfl, fun k _ => rfl, tu, tl, ki, go, h, fun i hin => absurd hin (by omega)⟩
  subst hls
  refine ⟨G', a, b, c, d, ?_, hag, hr, hf⟩
  have k2 : ¬ nI 12 < 12 := by decide
  rw [hev, h_142_35]
  simp only [e_142, k2, Option.bind_some, Option.toList_some, Option.toList_none, List.cons_append, List.nil_append, List.append_nil, List.length_cons, List.length_nil, true_or, or_true, eq_self, b01_0, b01_1, b01_2, b01_3, b01_4, Nat.zero_le, Nat.reduceAdd, Nat.reduceLeDiff, ↓reduceIte, not_true_eq_false, not_false_eq_true, Bool.false_eq_true]
theorem r_undo2 (h : rm G su tr R C U tu tl ki go wa ol hs so sr rs ce cp fa pa) {V : Nat} (hV : V ≤ 19) : ∃ (f : Nat → Int32), mc_ev X 142 128 [.ref 90, .int (nI (72 * V)), .int 0] [] G = some (some (.int (nI U)), G.set 95 (.inl (0, 24, f))) ∧ ∀ i, i < 24 → f i = ol (72 * V + 48 + i) := by
  obtain ⟨ls, G', ⟨hls, f, hG', hf⟩, hev⟩ := ev_inv (X := X) (k := 142) (pc := 128) (fun n ls G' => ls = [.ref 90, .int (nI (72 * V)), .int (nI n)] ∧ ∃ f : Nat → Int32, G' = G.set 95 (.inl (0, 24, f)) ∧ ∀ i, i < n → f i = ol (72 * V + 48 + i)) 24 (by
    intro n hn ls G' ⟨hls, f, hG', hf⟩
    subst hls
    subst hG'
    have k1 : nI n < 24 := nI_lt (b := 24) hn (by decide)
    have r1 := rm_s95 h f
    have a1 := (rm_a (X := X) r1).2.2.2.2.2.1 (72 * V + 48 + n) (by omega)
    refine ⟨[.ref 90, .int (nI (72 * V)), .int (nI (n + 1))], G.set 95 (.inl (0, 24, upd f n (ol (72 * V + 48 + n)))), ⟨rfl, _, rfl, ?_⟩, ?_⟩
    · intro i hin
      by_cases cc : i = n
      · subst cc; rw [pk_us]
      · rw [pk_un cc]; exact hf i (by omega)
    · rw [h_142_128]
      simp only [e_142, k1, rm_f r1, cp48, nI_add, nI_1, a1, rm_w95s h f hn, Option.bind_some, Option.toList_some, Option.toList_none, List.cons_append, List.nil_append, List.append_nil, List.length_cons, List.length_nil, true_or, or_true, eq_self, b01_0, b01_1, b01_2, b01_3, b01_4, Nat.zero_le, Nat.reduceAdd, Nat.reduceLeDiff, ↓reduceIte, not_true_eq_false, not_false_eq_true, Bool.false_eq_true]) [.ref 90, .int (nI (72 * V)), .int 0] G ⟨rfl, wa, (set_same h.2.2.2.2.2.1).symm, fun i hin => absurd hin (by omega)⟩
  subst hls
  subst hG'
  refine ⟨f, ?_, hf⟩
  have k2 : ¬ nI 24 < 24 := by decide
  rw [hev, h_142_128]
  simp only [e_142, k2, rm_f (rm_s95 h f), Option.bind_some, Option.toList_some, Option.toList_none, List.cons_append, List.nil_append, List.append_nil, List.length_cons, List.length_nil, true_or, or_true, eq_self, b01_0, b01_1, b01_2, b01_3, b01_4, Nat.zero_le, Nat.reduceAdd, Nat.reduceLeDiff, ↓reduceIte, not_true_eq_false, not_false_eq_true, Bool.false_eq_true]
end REF
section ROWS
variable {L : Nat} {xs : Nat → Int32}
set_option maxHeartbeats 1000000 in
theorem R9 : lw_R9 L xs Inv := by
  intro G hG
  refine inv_elim hG ?_
  intro R C rim fi se lo hi TB OB LB ks ws stale lw SZ HD HP sts nx sz kq hT hO hL hK hW sq sv rv le nu di ch tr su U tu tl ki go wa ol hs so sr rs ce cp fa pa hpl hpv hld hhs hsp htp hpr hrm hr1 hr2 hr3 hr4
  have hb1 := sh_b hpv.1
  have hnx := hhs.2.2.2.2.1
  have hsz := hhs.2.2.2.2.2
  obtain ⟨hU, hv, hk⟩ := hr3
  have hr3 : rel3 R C nx sz U hT hO hL hK hW ol := ⟨hU, hv, hk⟩
  by_cases c0 : sz = 0
  · have z1 : (nI sz = 0) = True := eq_true (by rw [c0]; rfl)
    have z2 : (nI U = 0) = True := eq_true (by rw [hU, c0]; rfl)
    refine rd hG (v := -2) ?_ ?_
    · simp only [e_70, tp_f htp, hy_f hhs, z1, Option.bind_some, Option.toList_some, Option.toList_none, List.cons_append, List.nil_append, List.append_nil, List.length_cons, List.length_nil, true_or, or_true, eq_self, b01_0, b01_1, b01_2, b01_3, b01_4, Nat.zero_le, Nat.reduceAdd, Nat.reduceLeDiff, ↓reduceIte, not_true_eq_false, not_false_eq_true, Bool.false_eq_true]
    · simp only [e_142, rm_f hrm, rm_t hrm, z2, Option.bind_some, Option.toList_some, Option.toList_none, List.cons_append, List.nil_append, List.append_nil, List.length_cons, List.length_nil, true_or, or_true, eq_self, b01_0, b01_1, b01_2, b01_3, b01_4, Nat.zero_le, Nat.reduceAdd, Nat.reduceLeDiff, ↓reduceIte, not_true_eq_false, not_false_eq_true, Bool.false_eq_true]
  have z1 : (nI sz = 0) = False := eq_false (nI_ne0 (by omega) (by omega))
  have z2 : (nI U = 0) = False := eq_false (by rw [hU]; exact nI_ne0 (by omega) (by omega))
  obtain ⟨G1, q1, q2, q3, q4⟩ := c_giveBack (X := mc_X0 L xs) hhs hpl (by omega)
  have t1 := tp_ag htp (q2 0 (by omega) (by omega) (by omega) (by omega))
  have l1 := ld_ag hld (G' := G1) (fun k a b => q2 k (by omega) (by omega) (by omega) (by omega))
  have t2 : tp (G1.set 72 (lc 1 SZ HD HP lw)) tr su := tp_ag t1 (gs_ne (by decide))
  have hy2 := hy_ag q3 (G' := G1.set 72 (lc 1 SZ HD HP lw)) (fun k a b => gs_ne (by omega))
  have pl2 := pl_ag q4 (G' := G1.set 72 (lc 1 SZ HD HP lw)) (fun k a b => gs_ne (by omega))
  have hrm2 := rm_ag hrm (G' := G1.set 72 (lc 1 SZ HD HP lw)) (fun k a b => (gs_ne (by omega)).trans (q2 k (by omega) (by omega) (by omega) (by omega)))
  have u1 := rm_set hrm2 su tr R C (sz - 1)
  have s2 : nI U - 1 = nI (sz - 1) := by rw [hU]; exact nI_m1 (by omega)
  obtain ⟨G3, a, b, c, d, k1, k2, k3, k4⟩ := r_undo1 (X := mc_X0 L xs) u1 (V := sz - 1) (by omega)
  obtain ⟨f, k5, k6⟩ := r_undo2 (X := mc_X0 L xs) k3 (V := sz - 1) (by omega)
  have hm : (nx + 19) % 20 < 20 := Nat.mod_lt _ (by decide)
  have kc : ∀ i, i < 12 → va_cpy (hK ((nx + 19) % 20)) ks 0 0 12 i = hK ((nx + 19) % 20) i := fun i hin => by rw [pk_cpy_in (by omega) (by omega)]; congr 1; omega
  have wc : ∀ i, i < 17 → va_cpy (hW ((nx + 19) % 20)) ws 0 0 17 i = hW ((nx + 19) % 20) i := fun i hin => by rw [pk_cpy_in (by omega) (by omega)]; congr 1; omega
  have ek : (nx + 20 - sz + (sz - 1)) % 20 = (nx + 19) % 20 := by omega
  have hs3 : sl3 R C (hT ((nx + 19) % 20)) (hO ((nx + 19) % 20)) (hL ((nx + 19) % 20)) (hK ((nx + 19) % 20)) (hW ((nx + 19) % 20)) ol (72 * (sz - 1)) := by
    have := hk (sz - 1) (by omega)
    rw [ek] at this
    exact this
  obtain ⟨y1, y2, y3, y4, y5, y6, y7, y8, y9, y10⟩ := hpv
  obtain ⟨x1, x2, x3, x4, x5, x6⟩ := hs3
  have hpv2 : pv R C rim fi se lo hi (hT ((nx + 19) % 20)) (hO ((nx + 19) % 20)) (hL ((nx + 19) % 20)) (va_cpy (hK ((nx + 19) % 20)) ks 0 0 12) (va_cpy (hW ((nx + 19) % 20)) ws 0 0 17) := by
    refine ⟨y1, x1, x2, x3, y5, fun i hin => ?_, fun j hj => ?_, y8, y9, fun i hin hb => ?_⟩
    · rw [kc i hin]; exact (hv _ hm).1 i hin
    · rw [wc j hj]; exact (hv _ hm).2 j hj
    · rw [kc i (by omega)]; exact x4 i hin hb
  refine ⟨nI (sz - 1), G1.set 72 (lc 1 SZ HD HP lw), G3.set 95 (.inl (0, 24, f)), ?_, (rm_f hrm2).1, ?_, ?_⟩
  · simp only [e_70, tp_f htp, hy_f hhs, z1, pl_f hpl, q1, tp_f t1, ld_x1 l1, tp_f t2, hy_f hy2, Option.bind_some, Option.toList_some, Option.toList_none, List.cons_append, List.nil_append, List.append_nil, List.length_cons, List.length_nil, true_or, or_true, eq_self, b01_0, b01_1, b01_2, b01_3, b01_4, Nat.zero_le, Nat.reduceAdd, Nat.reduceLeDiff, ↓reduceIte, not_true_eq_false, not_false_eq_true, Bool.false_eq_true]
  · simp only [e_142, rm_f hrm2, rm_t hrm2, z2, s2, rm_w11 hrm2, rm_f u1, cc72, k1, k5, Option.bind_some, Option.toList_some, Option.toList_none, List.cons_append, List.nil_append, List.append_nil, List.length_cons, List.length_nil, true_or, or_true, eq_self, b01_0, b01_1, b01_2, b01_3, b01_4, Nat.zero_le, Nat.reduceAdd, Nat.reduceLeDiff, ↓reduceIte, not_true_eq_false, not_false_eq_true, Bool.false_eq_true]
  · have ag : ∀ k, k < 90 → k ≠ 7 → k ≠ 8 → k ≠ 9 → k ≠ 10 → k ≠ 72 → (G3.set 95 (.inl (0, 24, f)))[k]? = G[k]? := by
      intro k a1 a2 a3 a4 a5 a6
      rw [gs_ne (by omega), k2 k a1, gs_ne (by omega), gs_ne (by omega)]
      exact q2 k a2 a3 a4 a5
    have ag2 : ∀ k, k < 90 → (G3.set 95 (.inl (0, 24, f)))[k]? = (G1.set 72 (lc 1 SZ HD HP lw))[k]? := by
      intro k a1
      rw [gs_ne (by omega), k2 k a1, gs_ne (by omega)]
    refine inv_mk (pl_ag pl2 (fun k a b => ag2 k (by omega))) hpv2 (ld_ag (ld_xs l1 1) (fun k a b => ag2 k (by omega))) (hy_ag hy2 (fun k a b => ag2 k (by omega))) (sp_ag hsp (fun k a b => ag k (by omega) (by omega) (by omega) (by omega) (by omega) (by omega))) (tp_ag htp (ag 0 (by omega) (by omega) (by omega) (by omega) (by omega) (by omega))) (pr_ag hpr (fun k a b => ag k (by omega) (by omega) (by omega) (by omega) (by omega) (by omega))) (rm_s95 k3 f) ⟨fun i hin => ?_, fun j hj => ?_⟩ ⟨Or.inl rfl, hr2.2⟩ ⟨rfl, hv, fun k hk2 => ?_⟩ hr4
    · obtain ⟨g1, g2, g3, g4⟩ := k4 i (by omega)
      obtain ⟨w1, w2, w3, w4⟩ := x5 i hin
      refine ⟨g1.trans w1, g2.trans w2, ?_, ?_⟩
      · rw [g4, w4]
        unfold gB
        rcases bt_b (nN R C) (hL ((nx + 19) % 20)) i with q | q <;> rw [q] <;> rfl
      · rw [g3, w3, kc i (by omega)]
    · rw [k6 j (by omega), x6 j hj, wc j (by omega)]
    · have := hk k (by omega)
      have e : ((nx + 19) % 20 + 20 - (sz - 1) + k) % 20 = (nx + 20 - sz + k) % 20 := by omega
      rw [e]
      exact this
end ROWS
