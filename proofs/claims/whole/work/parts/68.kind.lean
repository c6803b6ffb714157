/-! rows: kind; a needle turned over -/
section PL
variable {X : mc_X} {L : Nat} {xs : Nat → Int32} {G : mc_H} {R C rim TB OB LB : Nat} {fi se lo hi ks ws : Nat → Int32}
theorem c_isOnRim (h : pl G R C rim fi se lo hi TB OB LB ks ws) (hp : pv R C rim fi se lo hi TB OB LB ks ws) {i : Nat} (hin : i < nN R C) : mc_ev X 5 0 [.ref 2, .int (nI i)] [] G = some (some (.int (if i / C = 0 ∨ i / C = R - 1 ∨ i % C = 0 ∨ i % C = C - 1 then 1 else 0)), G) := by
  have hb1 := sh_b hp.1
  have hr := hp.2.2.2.2.2.2.2.1 i hin
  have hr2 := hp.2.2.2.2.2.2.2.2.1
  have e1 := bit_n (A := rim) (d := i) (by omega) (by omega)
  rw [hr] at e1
  simp only [e_5, pl_f h, e1, Option.bind_some, Option.toList_some, Option.toList_none, List.cons_append, List.nil_append, List.append_nil, List.length_cons, List.length_nil, true_or, or_true, eq_self, b01_0, b01_1, b01_2, b01_3, b01_4, Nat.zero_le, Nat.reduceAdd, Nat.reduceLeDiff, ↓reduceIte, not_true_eq_false, not_false_eq_true, Bool.false_eq_true]
  by_cases c : i / C = 0 ∨ i / C = R - 1 ∨ i % C = 0 ∨ i % C = C - 1
  · simp only [c, show nI 1 = (1 : Int32) from rfl, Option.bind_some, Option.toList_some, Option.toList_none, List.cons_append, List.nil_append, List.append_nil, List.length_cons, List.length_nil, true_or, or_true, eq_self, b01_0, b01_1, b01_2, b01_3, b01_4, Nat.zero_le, Nat.reduceAdd, Nat.reduceLeDiff, ↓reduceIte, not_true_eq_false, not_false_eq_true, Bool.false_eq_true]
  · simp only [c, show (nI 0 = (1 : Int32)) = False from eq_false (by decide), Option.bind_some, Option.toList_some, Option.toList_none, List.cons_append, List.nil_append, List.append_nil, List.length_cons, List.length_nil, true_or, or_true, eq_self, b01_0, b01_1, b01_2, b01_3, b01_4, Nat.zero_le, Nat.reduceAdd, Nat.reduceLeDiff, ↓reduceIte, not_true_eq_false, not_false_eq_true, Bool.false_eq_true]
/-- needle i turned over -/
def fl (N B i : Nat) : Nat := B ^^^ 2 ^ (N - 1 - i)
theorem fl_lt {N B i : Nat} (hin : i < N) (hB : B < 2 ^ N) : fl N B i < 2 ^ N := Nat.xor_lt_two_pow hB (Nat.pow_lt_pow_right (by decide) (by omega))
theorem fl_bt {N B i k : Nat} (hin : i < N) (hk : k < N) : bt N (fl N B i) k = if k = i then 1 - bt N B i else bt N B k := by
  rw [bt_tb, bt_tb, bt_tb]
  unfold fl
  rw [Nat.testBit_xor, Nat.testBit_two_pow]
  by_cases c : k = i
  · subst c
    rw [if_pos rfl, decide_eq_true rfl]
    cases B.testBit (N - 1 - k) <;> rfl
  · rw [if_neg c, decide_eq_false (by omega), Bool.xor_false]
theorem c_turnOver (h : pl G R C rim fi se lo hi TB OB LB ks ws) (hs : sh R C) {i : Nat} (hin : i < nN R C) : mc_ev (mc_X0 L xs) 42 0 [.ref 1, .int (nI i)] [] G = some (none, G.set 7 (sc (fl (nN R C) TB i) OB LB 8 9)) := by
  have w := pl_wT h (fl (nN R C) TB i)
  unfold fl at w
  simp only [e_42, pl_f h, c_bitOf h hs hin, nx_xor, w, Option.bind_some, Option.toList_some, Option.toList_none, List.cons_append, List.nil_append, List.append_nil, List.length_cons, List.length_nil, true_or, or_true, eq_self, b01_0, b01_1, b01_2, b01_3, b01_4, Nat.zero_le, Nat.reduceAdd, Nat.reduceLeDiff, ↓reduceIte, not_true_eq_false, not_false_eq_true, Bool.false_eq_true]
  rfl
end PL
theorem sum_ad (f g : Nat → Int32) : ∀ n, bx_sum (fun j => f j + g j) n = bx_sum f n + bx_sum g n
  | 0 => rfl
  | n + 1 => by
    show bx_sum (fun j => f j + g j) n + (f n + g n) = (bx_sum f n + f n) + (bx_sum g n + g n)
    rw [sum_ad f g n]
    grind
theorem tm_dl1 (c : Int32) : tm c False = tm c True + (if c < 0 then -(am c) else am c) := by
  unfold tm am
  by_cases h1 : c < 0
  · have h2 : ¬ 0 < c := fun q => absurd (Int32.lt_trans h1 q) (Int32.lt_irrefl)
    have h3 : ¬ 0 ≤ c := Int32.not_le.mpr h1
    simp only [h1, h2, h3, Option.bind_some, Option.toList_some, Option.toList_none, List.cons_append, List.nil_append, List.append_nil, List.length_cons, List.length_nil, true_or, or_true, eq_self, b01_0, b01_1, b01_2, b01_3, b01_4, Nat.zero_le, Nat.reduceAdd, Nat.reduceLeDiff, ↓reduceIte, not_true_eq_false, not_false_eq_true, Bool.false_eq_true, and_true, and_false, false_and, true_and]
    grind
  · by_cases h2 : 0 < c
    · have h3 : 0 ≤ c := Int32.le_of_lt h2
      simp only [h1, h2, h3, Option.bind_some, Option.toList_some, Option.toList_none, List.cons_append, List.nil_append, List.append_nil, List.length_cons, List.length_nil, true_or, or_true, eq_self, b01_0, b01_1, b01_2, b01_3, b01_4, Nat.zero_le, Nat.reduceAdd, Nat.reduceLeDiff, ↓reduceIte, not_true_eq_false, not_false_eq_true, Bool.false_eq_true, and_true, and_false, false_and, true_and]
      grind
    · have h3 : c = 0 := Int32.le_antisymm (Int32.not_lt.mp h2) (Int32.not_lt.mp h1)
      subst h3
      decide
theorem tm_dl2 (c : Int32) : tm c True = tm c False + (if 0 < c then -(am c) else am c) := by
  unfold tm am
  by_cases h1 : c < 0
  · have h2 : ¬ 0 < c := fun q => absurd (Int32.lt_trans h1 q) (Int32.lt_irrefl)
    have h3 : ¬ 0 ≤ c := Int32.not_le.mpr h1
    simp only [h1, h2, h3, Option.bind_some, Option.toList_some, Option.toList_none, List.cons_append, List.nil_append, List.append_nil, List.length_cons, List.length_nil, true_or, or_true, eq_self, b01_0, b01_1, b01_2, b01_3, b01_4, Nat.zero_le, Nat.reduceAdd, Nat.reduceLeDiff, ↓reduceIte, not_true_eq_false, not_false_eq_true, Bool.false_eq_true, and_true, and_false, false_and, true_and]
    grind
  · by_cases h2 : 0 < c
    · have h3 : 0 ≤ c := Int32.le_of_lt h2
      simp only [h1, h2, h3, Option.bind_some, Option.toList_some, Option.toList_none, List.cons_append, List.nil_append, List.append_nil, List.length_cons, List.length_nil, true_or, or_true, eq_self, b01_0, b01_1, b01_2, b01_3, b01_4, Nat.zero_le, Nat.reduceAdd, Nat.reduceLeDiff, ↓reduceIte, not_true_eq_false, not_false_eq_true, Bool.false_eq_true, and_true, and_false, false_and, true_and]
      grind
    · have h3 : c = 0 := Int32.le_antisymm (Int32.not_lt.mp h2) (Int32.not_lt.mp h1)
      subst h3
      decide
theorem tm_cg (c : Int32) {p q : Prop} [Decidable p] [Decidable q] (h : p ↔ q) : tm c p = tm c q := by
  unfold tm
  by_cases hp : p
  · have hq := h.mp hp
    simp [hp, hq]
  · have hq : ¬ q := fun x => hp (h.mpr x)
    simp [hp, hq]
theorem flip1 {x y z : Nat} (hx : x < 2) (hy : y < 2) (hz : z = y ↔ ¬ x = y) (c : Int32) : tm c (z = y) = tm c (x = y) + (if (if x = y then decide (c < 0) else decide (0 < c)) = true then -(am c) else am c) := by
  by_cases e : x = y
  · rw [tm_cg (p := (z = y)) (q := False) _ ⟨fun h => (hz.mp h) e, False.elim⟩, tm_cg (p := (x = y)) (q := True) _ ⟨fun _ => trivial, fun _ => e⟩, if_pos e, tm_dl1]
    simp only [decide_eq_true_eq]
  · rw [tm_cg (p := (z = y)) (q := True) _ ⟨fun _ => trivial, fun _ => hz.mpr e⟩, tm_cg (p := (x = y)) (q := False) _ ⟨fun h => e h, False.elim⟩, if_neg e, tm_dl2]
    simp only [decide_eq_true_eq]
theorem st_turn {R C A A' n : Nat} {ws ks : Nat → Int32} (hs : sh R C) (hA : ∀ k, k < nN R C → bt (nN R C) A' k = if k = n then 1 - bt (nN R C) A n else bt (nN R C) A k) : stA R C ws ks A' = stA R C ws ks A + bx_sum (dl R C ws ks A n) (nJ R C) := by
  unfold stA
  rw [← sum_ad]
  apply sum_cg
  intro j hj
  have hf := fs_b hs hj
  have b1 := bt_lt (nN R C) A (fs R C j)
  have b2 := bt_lt (nN R C) A (sn R C j)
  have a1 := hA (fs R C j) (by omega)
  have a2 := hA (sn R C j) (by omega)
  show tm (ct R C ws ks j) (bt (nN R C) A' (fs R C j) = bt (nN R C) A' (sn R C j)) = tm (ct R C ws ks j) (bt (nN R C) A (fs R C j) = bt (nN R C) A (sn R C j)) + dl R C ws ks A n j
  unfold dl toB unB
  by_cases t1 : fs R C j = n
  · have t2 : ¬ sn R C j = n := by omega
    rw [if_pos t1] at a1
    rw [if_neg t2] at a2
    rw [← t1] at a1
    rw [if_pos (decide_eq_true (Or.inl t1)), a1, a2]
    exact flip1 b1 b2 (by omega) _
  · rw [if_neg t1] at a1
    by_cases t2 : sn R C j = n
    · rw [if_pos t2] at a2
      rw [← t2] at a2
      rw [if_pos (decide_eq_true (Or.inr t2)), a1, a2, tm_cg (p := (bt (nN R C) A (fs R C j) = 1 - bt (nN R C) A (sn R C j))) (q := (1 - bt (nN R C) A (fs R C j) = bt (nN R C) A (sn R C j))) _ (by omega)]
      exact flip1 b1 b2 (by omega) _
    · rw [if_neg t2] at a2
      rw [if_neg (by simp [t1, t2]), a1, a2, Int32.add_zero]
section RS
variable {R C TB OB LB rim : Nat} {ks ws tu tl ki go wa fi se lo hi : Nat → Int32}
theorem turn_more (hp : pv R C rim fi se lo hi TB OB LB ks ws) {n : Nat} (hn : n < nN R C) : stA R C ws ks (pN1 R C (fl (nN R C) TB n) OB LB ks) = stA R C ws ks (pN1 R C TB OB LB ks) + mrI R C TB OB LB ks ws n := by
  have hb1 := sh_b hp.1
  have bH := hH_bt (LB := LB) (ks := ks) hp.1 hn
  unfold mrI
  cases hh : hb ks (gB (nN R C) LB) n with
  | true =>
    rw [hh] at bH
    have e : pN1 R C (fl (nN R C) TB n) OB LB ks = pN1 R C TB OB LB ks := by
      apply bits_ext (mx_lt (fl_lt hn hp.2.1) hp.2.2.1) (mx_lt hp.2.1 hp.2.2.1)
      intro k hk
      try unfold pN1
      rw [mx_bt hb1.2.1 hk, mx_bt hb1.2.1 hk]
      by_cases c : k = n
      · subst c
        rw [bH]; rfl
      · rw [fl_bt hn hk, if_neg c]
    rw [e, if_pos rfl, Int32.add_zero]
  | false =>
    rw [hh] at bH
    rw [if_neg (by decide)]
    apply st_turn hp.1
    intro k hk
    unfold pN1
    rw [mx_bt hb1.2.1 hk, mx_bt hb1.2.1 hk, mx_bt hb1.2.1 hn, fl_bt hn hk]
    by_cases c : k = n
    · subst c
      rw [if_pos rfl, if_pos rfl, bH, if_neg (by decide), if_neg (by decide)]
    · rw [if_neg c, if_neg c]
end RS
section ROWS
variable {L : Nat} {xs : Nat → Int32}
set_option maxHeartbeats 1000000 in
theorem R1 : lw_R1 L xs Inv := by
  intro a v G hG
  refine inv_elim hG ?_
  intro R C rim fi se lo hi TB OB LB ks ws stale lw SZ HD HP sts nx sz kq hT hO hL hK hW sq sv rv le nu di ch tr su U tu tl ki go wa ol hs so sr rs ce cp fa pa hpl hpv hld hhs hsp htp hpr hrm hr1 hr2 hr3 hr4
  have hb1 := sh_b hpv.1
  have hU : U ≤ 20 := by rw [hr3.1]; exact hhs.2.2.2.2.2
  rcases ix_of a (N := nN R C) (by omega) with hb | ⟨i, hin, rfl⟩
  · refine rd hG (v := -1) ?_ ?_
    · simp only [e_62, tp_f htp, c_isNoNeedle htp hpl, no_no hb, Option.bind_some, Option.toList_some, Option.toList_none, List.cons_append, List.nil_append, List.append_nil, List.length_cons, List.length_nil, true_or, or_true, eq_self, b01_0, b01_1, b01_2, b01_3, b01_4, Nat.zero_le, Nat.reduceAdd, Nat.reduceLeDiff, ↓reduceIte, not_true_eq_false, not_false_eq_true, Bool.false_eq_true]
    · simp only [e_134, rm_f hrm, rm_t hrm, r_isNeedle hrm, ix_no hb1.1 (by omega) hb, Option.bind_some, Option.toList_some, Option.toList_none, List.cons_append, List.nil_append, List.append_nil, List.length_cons, List.length_nil, true_or, or_true, eq_self, b01_0, b01_1, b01_2, b01_3, b01_4, Nat.zero_le, Nat.reduceAdd, Nat.reduceLeDiff, ↓reduceIte, not_true_eq_false, not_false_eq_true, Bool.false_eq_true]
  have h12 : i < 12 := by omega
  have hno := no_yes hin (N := nN R C) (by omega)
  have hyes := ix_yes hin (N := nN R C) (by omega)
  rcases ix_of v (N := 5) (by decide) with hv | ⟨m, hm, rfl⟩
  · refine rd hG (v := -1) ?_ ?_
    · rcases hv with hv | hv
      · simp only [e_62, tp_f htp, c_isNoNeedle htp hpl, hno, hv, Option.bind_some, Option.toList_some, Option.toList_none, List.cons_append, List.nil_append, List.append_nil, List.length_cons, List.length_nil, true_or, or_true, eq_self, b01_0, b01_1, b01_2, b01_3, b01_4, Nat.zero_le, Nat.reduceAdd, Nat.reduceLeDiff, ↓reduceIte, not_true_eq_false, not_false_eq_true, Bool.false_eq_true]
      · have v0 : ¬ v < 0 := fun q => absurd (Int32.lt_of_le_of_lt hv q) (by decide)
        have v1 : ¬ v < 5 := Int32.not_lt.mpr hv
        simp only [e_62, tp_f htp, c_isNoNeedle htp hpl, hno, v0, v1, Option.bind_some, Option.toList_some, Option.toList_none, List.cons_append, List.nil_append, List.append_nil, List.length_cons, List.length_nil, true_or, or_true, eq_self, b01_0, b01_1, b01_2, b01_3, b01_4, Nat.zero_le, Nat.reduceAdd, Nat.reduceLeDiff, ↓reduceIte, not_true_eq_false, not_false_eq_true, Bool.false_eq_true]
    · have hx : (0 ≤ v ∧ v ≤ 4) = False := ix_no (N := 5) (by decide) (by decide) hv
      simp only [e_134, rm_f hrm, rm_t hrm, r_isNeedle hrm, hyes, r_in, hx, Option.bind_some, Option.toList_some, Option.toList_none, List.cons_append, List.nil_append, List.append_nil, List.length_cons, List.length_nil, true_or, or_true, eq_self, b01_0, b01_1, b01_2, b01_3, b01_4, Nat.zero_le, Nat.reduceAdd, Nat.reduceLeDiff, ↓reduceIte, not_true_eq_false, not_false_eq_true, Bool.false_eq_true]
  have v0 : ¬ nI m < 0 := nI_pos (by omega)
  have v1 : nI m < 5 := nI_lt (b := 5) hm (by decide)
  have v4 : (nI m = 4) = (m = 4) := propext (nI_eq (b := 4) (by omega) (by decide))
  have vi : (0 ≤ nI m ∧ nI m ≤ 4) = True := ix_yes (N := 5) hm (by decide)
  have hC1 := hpv.1.2.2.1
  have hC6 := hpv.1.2.2.2.1
  have hR1 := hpv.1.1
  have hR6 := hpv.1.2.1
  have hC0 : ¬ nI C = 0 := nI_ne0 (by omega) (by omega)
  have d1 : nI i / nI C = nI (i / C) := pk_div (by omega) (by omega) (by omega)
  have d2 : nI i - nI (i / C) * nI C = nI (i % C) := by rw [← d1]; exact pk_rem (by omega) (by omega) (by omega)
  have b1 : i / C < R := Nat.div_lt_of_lt_mul (by rw [Nat.mul_comm]; exact hin)
  have b2 : i % C < C := Nat.mod_lt _ (by omega)
  have z1 : (0 < nI (i / C)) = (0 < i / C) := propext (nI_ltI (a := 0) (by decide) (by omega))
  have z2 : (nI (i / C) < nI (R - 1)) = (i / C < R - 1) := propext (nI_ltI (by omega) (by omega))
  have z3 : (0 < nI (i % C)) = (0 < i % C) := propext (nI_ltI (a := 0) (by decide) (by omega))
  have z4 : (nI (i % C) < nI (C - 1)) = (i % C < C - 1) := propext (nI_ltI (by omega) (by omega))
  have hA : ∀ {G : mc_H}, rm G su tr R C U tu tl ki go wa ol hs so sr rs ce cp fa pa → mc_ev (mc_X0 L xs) 134 0 [.ref 90, .int (nI i), .int (nI m), .null, .null, .null] [] G = if m = 4 ∧ ¬ (i / C = 0 ∨ i / C = R - 1 ∨ i % C = 0 ∨ i % C = C - 1) then some (some (.int (-1)), G) else mc_ev (mc_X0 L xs) 134 76 [.ref 90, .int (nI i), .int (nI m), .int (nI (i / C)), .int (nI (i % C)), .null] [] G := by
    intro G hrm
    simp only [e_134, rm_f hrm, rm_t hrm, r_isNeedle hrm, hyes, r_in, vi, hC0, d1, d2, v4, nI_m1 hR1, nI_m1 hC1, z1, z2, z3, z4, Option.bind_some, Option.toList_some, Option.toList_none, List.cons_append, List.nil_append, List.append_nil, List.length_cons, List.length_nil, true_or, or_true, eq_self, b01_0, b01_1, b01_2, b01_3, b01_4, Nat.zero_le, Nat.reduceAdd, Nat.reduceLeDiff, ↓reduceIte, not_true_eq_false, not_false_eq_true, Bool.false_eq_true]
    by_cases c0 : m = 4
    · by_cases c1 : 0 < i / C
      · by_cases c2 : i / C < R - 1
        · by_cases c3 : 0 < i % C
          · by_cases c4 : i % C < C - 1
            · rw [if_pos c0, if_pos c1, if_pos c2, if_pos c3, if_pos c4, if_pos ⟨c0, by omega⟩]
            · rw [if_pos c0, if_pos c1, if_pos c2, if_pos c3, if_neg c4, if_neg (by omega)]
          · rw [if_pos c0, if_pos c1, if_pos c2, if_neg c3, if_neg (by omega)]
        · rw [if_pos c0, if_pos c1, if_neg c2, if_neg (by omega)]
      · rw [if_pos c0, if_neg c1, if_neg (fun q => q.2 (Or.inl (Nat.le_zero.mp (Nat.not_lt.mp c1))))]
    · rw [if_neg c0, if_neg (by omega)]
  have hB : mc_ev (mc_X0 L xs) 62 0 [.ref 0, .int (nI i), .int (nI m), .null] [] G = if m = 4 ∧ ¬ (i / C = 0 ∨ i / C = R - 1 ∨ i % C = 0 ∨ i % C = C - 1) then some (some (.int (-1)), G) else mc_ev (mc_X0 L xs) 62 40 [.ref 0, .int (nI i), .int (nI m), .null] [] G := by
    by_cases c0 : m = 4
    · have e4 : (nI m = 4) = True := by rw [v4]; exact eq_true c0
      by_cases c1 : (i / C = 0 ∨ i / C = R - 1 ∨ i % C = 0 ∨ i % C = C - 1)
      · rw [if_neg (fun q => q.2 c1)]
        simp only [e_62, tp_f htp, c_isNoNeedle htp hpl, hno, v0, v1, e4, pl_f hpl, c_isOnRim hpl hpv hin, c1, Option.bind_some, Option.toList_some, Option.toList_none, List.cons_append, List.nil_append, List.append_nil, List.length_cons, List.length_nil, true_or, or_true, eq_self, b01_0, b01_1, b01_2, b01_3, b01_4, Nat.zero_le, Nat.reduceAdd, Nat.reduceLeDiff, ↓reduceIte, not_true_eq_false, not_false_eq_true, Bool.false_eq_true]
      · rw [if_pos ⟨c0, c1⟩]
        simp only [e_62, tp_f htp, c_isNoNeedle htp hpl, hno, v0, v1, e4, pl_f hpl, c_isOnRim hpl hpv hin, c1, Option.bind_some, Option.toList_some, Option.toList_none, List.cons_append, List.nil_append, List.append_nil, List.length_cons, List.length_nil, true_or, or_true, eq_self, b01_0, b01_1, b01_2, b01_3, b01_4, Nat.zero_le, Nat.reduceAdd, Nat.reduceLeDiff, ↓reduceIte, not_true_eq_false, not_false_eq_true, Bool.false_eq_true]
    · rw [if_neg (fun q => c0 q.1)]
      simp only [e_62, tp_f htp, c_isNoNeedle htp hpl, hno, v0, v1, v4, c0, Option.bind_some, Option.toList_some, Option.toList_none, List.cons_append, List.nil_append, List.append_nil, List.length_cons, List.length_nil, true_or, or_true, eq_self, b01_0, b01_1, b01_2, b01_3, b01_4, Nat.zero_le, Nat.reduceAdd, Nat.reduceLeDiff, ↓reduceIte, not_true_eq_false, not_false_eq_true, Bool.false_eq_true]
  by_cases bad : m = 4 ∧ ¬ (i / C = 0 ∨ i / C = R - 1 ∨ i % C = 0 ∨ i % C = C - 1)
  · refine rd hG (v := -1) ?_ ?_
    · rw [hB, if_pos bad]
    · rw [hA hrm, if_pos bad]
  obtain ⟨G1, q1, q2, q3, q4⟩ := c_keepAndReshape (X := mc_X0 L xs) htp hld hhs hpl
  have p1 := pl_ag hpl (G' := G1) (fun k a b => q2 k (by omega))
  have t1 := tp_ag htp (q2 0 (by omega))
  have p2 := pl_s8 p1 (upd ks i (nI m))
  have t2 : tp (G1.set 8 (.inl (0, 12, upd ks i (nI m)))) tr su := tp_ag t1 (gs_ne (by decide))
  have p3 := pl_s7 p2 TB OB (sb (nN R C) LB i false)
  have hrm2 := rm_ag hrm (G' := (G1.set 8 (.inl (0, 12, upd ks i (nI m)))).set 7 (sc TB OB (sb (nN R C) LB i false) 8 9)) (fun k a b => (gs_ne (by omega)).trans ((gs_ne (by omega)).trans (q2 k (by omega))))
  obtain ⟨G3, f, k1, k2, k3, k4, k5, k6⟩ := r_keeps (X := mc_X0 L xs) hrm2 hU
  have k3' := rm_s93 k3 (upd ki i (nI m))
  obtain ⟨y1, y2, y3, y4, y5, y6, y7, y8, y9, y10⟩ := hpv
  have hpv : pv R C rim fi se lo hi TB OB LB ks ws := ⟨y1, y2, y3, y4, y5, y6, y7, y8, y9, y10⟩
  have hpv2 : pv R C rim fi se lo hi TB OB (sb (nN R C) LB i false) (upd ks i (nI m)) ws := by
    refine ⟨y1, y2, y3, sb_lt hin y4, y5, fun k hk => ?_, y7, y8, y9, fun k hk hb => ?_⟩
    · by_cases c : k = i
      · subst c; rw [pk_us]; exact ⟨m, hm, rfl⟩
      · rw [pk_un c]; exact y6 k hk
    · rw [sb_bt hb1.2.1 hin hk] at hb
      by_cases c : k = i
      · subst c; rw [if_pos rfl] at hb; cases hb
      · rw [if_neg c] at hb; rw [pk_un c]; exact y10 k hk hb
  refine ⟨ks i, (G1.set 8 (.inl (0, 12, upd ks i (nI m)))).set 7 (sc TB OB (sb (nN R C) LB i false) 8 9), (G3.set 93 (.inl (0, 12, upd ki i (nI m)))).set 94 (.inl (1, 12, upd go i 0)), ?_, (rm_f hrm2).1, ?_, ?_⟩
  · rw [hB, if_neg bad]
    have w := pl_wL p2 (sb (nN R C) LB i false)
    unfold sb at w ⊢
    rw [if_neg (by decide)] at w ⊢
    simp only [e_62, tp_f htp, q1, tp_f t1, pl_f p1, pl_g p1, h12, pl_w8 p1 h12, tp_f t2, pl_f p2, c_bitOf p2 hpv.1 hin, nx_cpl, nx_and, w, Option.bind_some, Option.toList_some, Option.toList_none, List.cons_append, List.nil_append, List.append_nil, List.length_cons, List.length_nil, true_or, or_true, eq_self, b01_0, b01_1, b01_2, b01_3, b01_4, Nat.zero_le, Nat.reduceAdd, Nat.reduceLeDiff, ↓reduceIte, not_true_eq_false, not_false_eq_true, Bool.false_eq_true]
  · rw [hA hrm2, if_neg bad]
    simp only [e_134, rm_f hrm2, k1, rm_f k3, rm_a (X := mc_X0 L xs) k3, h12, rm_w93a k3 h12, rm_f k3', vn0, rm_w94a k3' h12, (hr1.1 i hin).2.2.2, Option.bind_some, Option.toList_some, Option.toList_none, List.cons_append, List.nil_append, List.append_nil, List.length_cons, List.length_nil, true_or, or_true, eq_self, b01_0, b01_1, b01_2, b01_3, b01_4, Nat.zero_le, Nat.reduceAdd, Nat.reduceLeDiff, ↓reduceIte, not_true_eq_false, not_false_eq_true, Bool.false_eq_true]
  · refine inv_kr p3 hpv2 q3 q4 hsp htp hpr q2 (fun j a b c => (gs_ne (by omega)).trans (gs_ne (by omega))) (rm_s94 k3' _) (fun k a => (gs_ne (by omega)).trans ((gs_ne (by omega)).trans (k2 k (by omega) (by omega)))) ⟨fun k hk => ?_, hr1.2⟩ ⟨Or.inl rfl, hr2.2⟩ (rel3_keep hpv hr1 hr3 hhs.2.2.2.2.1 hhs.2.2.2.2.2 k4 k5 k6) hr4
    obtain ⟨e1, e2, e3, e4⟩ := hr1.1 k hk
    unfold gB at e3 ⊢
    rw [sb_bt hb1.2.1 hin hk]
    by_cases c : k = i
    · subst c
      rw [pk_us, pk_us, pk_us, if_pos rfl]
      exact ⟨e1, e2, rfl, rfl⟩
    · rw [pk_un c, pk_un c, pk_un c, if_neg c]; exact ⟨e1, e2, e3, e4⟩
end ROWS
