/-! rows: about -/
theorem nsum_sh (f : Nat → Nat) : ∀ n, nsum f (n + 1) = f 0 + nsum (fun i => f (i + 1)) n
  | 0 => by show 0 + f 0 = f 0 + 0; omega
  | n + 1 => by
    show nsum f (n + 1) + f (n + 1) = f 0 + (nsum (fun i => f (i + 1)) n + f (n + 1))
    rw [nsum_sh f n]; omega
theorem nsum_rev (f : Nat → Nat) : ∀ n, nsum f n = nsum (fun i => f (n - 1 - i)) n
  | 0 => rfl
  | n + 1 => by
    rw [nsum_sh (fun i => f (n + 1 - 1 - i)) n]
    show nsum f n + f n = _
    rw [nsum_rev f n, nsum_cg (f := fun i => f (n + 1 - 1 - (i + 1))) (g := fun i => f (n - 1 - i)) n (fun j hj => by rw [show n + 1 - 1 - (j + 1) = n - 1 - j by omega])]
    show _ = f (n + 1 - 1 - 0) + _
    rw [show n + 1 - 1 - 0 = n by omega]
    omega
theorem nsum_z {f : Nat → Nat} : ∀ n, (∀ j, j < n → f j = 0) → nsum f n = 0
  | 0, _ => rfl
  | n + 1, h => by
    show nsum f n + f n = 0
    rw [nsum_z n (fun j hj => h j (by omega)), h n (by omega)]
theorem nsum_tl {f : Nat → Nat} {N : Nat} (h : ∀ k, N ≤ k → f k = 0) : ∀ d, nsum f (N + d) = nsum f N
  | 0 => rfl
  | d + 1 => by
    show nsum f (N + d) + f (N + d) = nsum f N
    rw [nsum_tl h d, h _ (by omega)]; omega
theorem nsum_12 {f : Nat → Nat} {N : Nat} (hN : N ≤ 12) (h : ∀ k, N ≤ k → f k = 0) : nsum f 12 = nsum f N := by
  have := nsum_tl h (12 - N)
  rw [show N + (12 - N) = 12 by omega] at this
  exact this
theorem pop_bt {N B : Nat} (hN : N ≤ 12) (hB : B < 2 ^ N) : pop B 12 = nsum (fun i => bt N B i) N := by
  unfold pop
  rw [nsum_12 hN (fun k hk => by
    show B / 2 ^ k % 2 = 0
    rw [Nat.div_eq_of_lt (Nat.lt_of_lt_of_le hB (Nat.pow_le_pow_right (by decide) hk))]), nsum_rev]
  rfl
theorem tf_tr (R C : Nat) (ws ks : Nat → Int32) (f : Nat) : tfN R C ws ks (nJ R C) / 2 ^ f % 2 = (trB R C ws ks f).toNat := by
  have := tf_bit (R := R) (C := C) (ws := ws) (ks := ks) f (nJ R C)
  rw [Nat.testBit_eq_decide_div_mod_eq] at this
  unfold trB
  rw [← this]
  have := Nat.mod_lt (tfN R C ws ks (nJ R C) / 2 ^ f) (y := 2) (by decide)
  rcases (show tfN R C ws ks (nJ R C) / 2 ^ f % 2 = 0 ∨ tfN R C ws ks (nJ R C) / 2 ^ f % 2 = 1 by omega) with q | q <;> rw [q] <;> rfl
theorem trB_out {R C : Nat} {ws ks : Nat → Int32} (hs : sh R C) {f : Nat} (hf : nF R C ≤ f) : trB R C ws ks f = false := by
  unfold trB
  rw [nsum_z (f := trq R C ws ks f) (nJ R C) (fun j hj => by
    have hb := fs_b hs hj
    unfold trq
    rw [if_neg (show ¬ s1 R C j = f by omega), if_neg (show ¬ s2 R C j = f by omega)]
    split <;> rfl)]
  rfl
theorem hy_f {G : mc_H} {nx sz : Nat} {kq : Nat → Option Nat} {hT hO hL : Nat → Nat} {hK hW : Nat → Nat → Int32} (h : hy G nx sz kq hT hO hL hK hW) : mc_cls G 10 = some 1 ∧ mc_getf G 10 1 0 = some (.ref 11) ∧ mc_getf G 10 1 1 = some (.int (nI nx)) ∧ mc_getf G 10 1 2 = some (.int (nI sz)) := ⟨cl_n h.1, gf_n h.1 0, gf_n h.1 1, gf_n h.1 2⟩
section ROWS
variable {L : Nat} {xs : Nat → Int32}
set_option maxHeartbeats 1000000 in
theorem R32 : lw_R32 L xs Inv := by
  intro w G hG
  refine inv_elim hG ?_
  intro R C rim fi se lo hi TB OB LB ks ws stale lw SZ HD HP sts nx sz kq hT hO hL hK hW sq sv rv le nu di ch tr su U tu tl ki go wa ol hs so sr rs ce cp fa pa hpl hpv hld hhs hsp htp hpr hrm hr1 hr2 hr3 hr4
  have hb1 := sh_b hpv.1
  have rp := r_aboutP (X := mc_X0 L xs) hrm hpv.1 w
  rcases ix_of w (N := 8) (by decide) with hw | ⟨k, hk, rfl⟩
  · have ho : (w.toInt < 0 ∨ 7 < w.toInt) = True := eq_true (out_w (N := 8) (by decide) (by decide) hw)
    refine rd hG (v := -1) ?_ (rp.trans ?_)
    · simp only [e_93, ho, Option.bind_some, Option.toList_some, Option.toList_none, List.cons_append, List.nil_append, List.append_nil, List.length_cons, List.length_nil, true_or, or_true, eq_self, b01_0, b01_1, b01_2, b01_3, b01_4, Nat.zero_le, Nat.reduceAdd, Nat.reduceLeDiff, ↓reduceIte, not_true_eq_false, not_false_eq_true, Bool.false_eq_true]
    · simp only [e_172, ho, Option.bind_some, Option.toList_some, Option.toList_none, List.cons_append, List.nil_append, List.append_nil, List.length_cons, List.length_nil, true_or, or_true, eq_self, b01_0, b01_1, b01_2, b01_3, b01_4, Nat.zero_le, Nat.reduceAdd, Nat.reduceLeDiff, ↓reduceIte, not_true_eq_false, not_false_eq_true, Bool.false_eq_true]
  · rcases (show k = 0 ∨ k = 1 ∨ k = 2 ∨ k = 3 ∨ k = 4 ∨ k = 5 ∨ k = 6 ∨ k = 7 by omega) with rfl | rfl | rfl | rfl | rfl | rfl | rfl | rfl
    · refine rd hG (v := nI R) ?_ (rp.trans ?_)
      · simp only [show nI 0 = (0 : Int32) from rfl, e_93, tp_f htp, pl_f hpl, Option.bind_some, Option.toList_some, Option.toList_none, List.cons_append, List.nil_append, List.append_nil, List.length_cons, List.length_nil, true_or, or_true, eq_self, b01_0, b01_1, b01_2, b01_3, b01_4, Nat.zero_le, Nat.reduceAdd, Nat.reduceLeDiff, ↓reduceIte, not_true_eq_false, not_false_eq_true, Bool.false_eq_true]
      · simp only [show nI 0 = (0 : Int32) from rfl, e_172, rm_f hrm, Option.bind_some, Option.toList_some, Option.toList_none, List.cons_append, List.nil_append, List.append_nil, List.length_cons, List.length_nil, true_or, or_true, eq_self, b01_0, b01_1, b01_2, b01_3, b01_4, Nat.zero_le, Nat.reduceAdd, Nat.reduceLeDiff, ↓reduceIte, not_true_eq_false, not_false_eq_true, Bool.false_eq_true]
    · refine rd hG (v := nI C) ?_ (rp.trans ?_)
      · simp only [show nI 1 = (1 : Int32) from rfl, e_93, tp_f htp, pl_f hpl, Option.bind_some, Option.toList_some, Option.toList_none, List.cons_append, List.nil_append, List.append_nil, List.length_cons, List.length_nil, true_or, or_true, eq_self, b01_0, b01_1, b01_2, b01_3, b01_4, Nat.zero_le, Nat.reduceAdd, Nat.reduceLeDiff, ↓reduceIte, not_true_eq_false, not_false_eq_true, Bool.false_eq_true]
      · simp only [show nI 1 = (1 : Int32) from rfl, e_172, rm_f hrm, Option.bind_some, Option.toList_some, Option.toList_none, List.cons_append, List.nil_append, List.append_nil, List.length_cons, List.length_nil, true_or, or_true, eq_self, b01_0, b01_1, b01_2, b01_3, b01_4, Nat.zero_le, Nat.reduceAdd, Nat.reduceLeDiff, ↓reduceIte, not_true_eq_false, not_false_eq_true, Bool.false_eq_true]
    · refine rd hG (v := nI (nN R C)) ?_ (rp.trans ?_)
      · simp only [show nI 2 = (2 : Int32) from rfl, e_93, tp_f htp, pl_f hpl, Option.bind_some, Option.toList_some, Option.toList_none, List.cons_append, List.nil_append, List.append_nil, List.length_cons, List.length_nil, true_or, or_true, eq_self, b01_0, b01_1, b01_2, b01_3, b01_4, Nat.zero_le, Nat.reduceAdd, Nat.reduceLeDiff, ↓reduceIte, not_true_eq_false, not_false_eq_true, Bool.false_eq_true]
      · simp only [show nI 2 = (2 : Int32) from rfl, e_172, rm_f hrm, r_needles hrm, Option.bind_some, Option.toList_some, Option.toList_none, List.cons_append, List.nil_append, List.append_nil, List.length_cons, List.length_nil, true_or, or_true, eq_self, b01_0, b01_1, b01_2, b01_3, b01_4, Nat.zero_le, Nat.reduceAdd, Nat.reduceLeDiff, ↓reduceIte, not_true_eq_false, not_false_eq_true, Bool.false_eq_true]
    · refine rd hG (v := nI (nJ R C)) ?_ (rp.trans ?_)
      · simp only [show nI 3 = (3 : Int32) from rfl, e_93, tp_f htp, pl_f hpl, Option.bind_some, Option.toList_some, Option.toList_none, List.cons_append, List.nil_append, List.append_nil, List.length_cons, List.length_nil, true_or, or_true, eq_self, b01_0, b01_1, b01_2, b01_3, b01_4, Nat.zero_le, Nat.reduceAdd, Nat.reduceLeDiff, ↓reduceIte, not_true_eq_false, not_false_eq_true, Bool.false_eq_true]
      · simp only [show nI 3 = (3 : Int32) from rfl, e_172, rm_f hrm, r_joints hrm hpv.1, Option.bind_some, Option.toList_some, Option.toList_none, List.cons_append, List.nil_append, List.append_nil, List.length_cons, List.length_nil, true_or, or_true, eq_self, b01_0, b01_1, b01_2, b01_3, b01_4, Nat.zero_le, Nat.reduceAdd, Nat.reduceLeDiff, ↓reduceIte, not_true_eq_false, not_false_eq_true, Bool.false_eq_true]
    · refine rd hG (v := nI (nF R C)) ?_ (rp.trans ?_)
      · simp only [show nI 4 = (4 : Int32) from rfl, e_93, tp_f htp, pl_f hpl, Option.bind_some, Option.toList_some, Option.toList_none, List.cons_append, List.nil_append, List.append_nil, List.length_cons, List.length_nil, true_or, or_true, eq_self, b01_0, b01_1, b01_2, b01_3, b01_4, Nat.zero_le, Nat.reduceAdd, Nat.reduceLeDiff, ↓reduceIte, not_true_eq_false, not_false_eq_true, Bool.false_eq_true]
      · simp only [show nI 4 = (4 : Int32) from rfl, e_172, rm_f hrm, r_fields hrm hpv.1, Option.bind_some, Option.toList_some, Option.toList_none, List.cons_append, List.nil_append, List.append_nil, List.length_cons, List.length_nil, true_or, or_true, eq_self, b01_0, b01_1, b01_2, b01_3, b01_4, Nat.zero_le, Nat.reduceAdd, Nat.reduceLeDiff, ↓reduceIte, not_true_eq_false, not_false_eq_true, Bool.false_eq_true]
    · have h12 : hH R C LB ks < 4096 := Nat.lt_of_lt_of_le hH_lt (pN hpv.1)
      have e : pop (hH R C LB ks) 12 = nsum (fun i => (hb ki go i).toNat) (nN R C) := by
        rw [pop_bt hb1.2.1 hH_lt]
        apply nsum_cg
        intro i hi
        obtain ⟨q1, q2, q3, q4⟩ := hr1.1 i hi
        show bt (nN R C) (hH R C LB ks) i = _
        rw [hH_bt hpv.1 hi, hb_cg q4 q3]
      refine rd hG (v := nI (pop (hH R C LB ks) 12)) ?_ (rp.trans ?_)
      · simp only [show nI 5 = (5 : Int32) from rfl, e_93, tp_f htp, pl_f hpl, c_heldBits hpl hpv, j_bitCount, bc_ok h12, Option.bind_some, Option.toList_some, Option.toList_none, List.cons_append, List.nil_append, List.append_nil, List.length_cons, List.length_nil, true_or, or_true, eq_self, b01_0, b01_1, b01_2, b01_3, b01_4, Nat.zero_le, Nat.reduceAdd, Nat.reduceLeDiff, ↓reduceIte, not_true_eq_false, not_false_eq_true, Bool.false_eq_true]
      · rw [e]
        simp only [show nI 5 = (5 : Int32) from rfl, e_172, Option.bind_some, Option.toList_some, Option.toList_none, List.cons_append, List.nil_append, List.append_nil, List.length_cons, List.length_nil, true_or, or_true, eq_self, b01_0, b01_1, b01_2, b01_3, b01_4, Nat.zero_le, Nat.reduceAdd, Nat.reduceLeDiff, ↓reduceIte, not_true_eq_false, not_false_eq_true, Bool.false_eq_true]
    · have h7 := tf_lt (ws := ws) (ks := ks) hpv.1 (nJ R C) (Nat.le_refl _)
      have e : pop (tfN R C ws ks (nJ R C)) 12 = nsum (fun f => (trB R C wa ki f).toNat) (nF R C) := by
        unfold pop
        rw [nsum_12 (N := nF R C) (by omega) (fun k hk => by
          show tfN R C ws ks (nJ R C) / 2 ^ k % 2 = 0
          rw [tf_tr, trB_out hpv.1 hk]; rfl)]
        apply nsum_cg
        intro f _
        show tfN R C ws ks (nJ R C) / 2 ^ f % 2 = _
        rw [tf_tr, trB_cg (wa := wa) (ki := ki) (ws := ws) (ks := ks) hpv.1 (fun i hi => (hr1.1 i hi).2.2.2) hr1.2 f]
      refine rd hG (v := nI (pop (tfN R C ws ks (nJ R C)) 12)) ?_ (rp.trans ?_)
      · simp only [show nI 6 = (6 : Int32) from rfl, e_93, tp_f htp, pl_f hpl, c_troubledFields hpl hpv, j_bitCount, bc_ok (B := tfN R C ws ks (nJ R C)) (by omega), Option.bind_some, Option.toList_some, Option.toList_none, List.cons_append, List.nil_append, List.append_nil, List.length_cons, List.length_nil, true_or, or_true, eq_self, b01_0, b01_1, b01_2, b01_3, b01_4, Nat.zero_le, Nat.reduceAdd, Nat.reduceLeDiff, ↓reduceIte, not_true_eq_false, not_false_eq_true, Bool.false_eq_true]
      · rw [e]
        simp only [show nI 6 = (6 : Int32) from rfl, e_172, Option.bind_some, Option.toList_some, Option.toList_none, List.cons_append, List.nil_append, List.append_nil, List.length_cons, List.length_nil, true_or, or_true, eq_self, b01_0, b01_1, b01_2, b01_3, b01_4, Nat.zero_le, Nat.reduceAdd, Nat.reduceLeDiff, ↓reduceIte, not_true_eq_false, not_false_eq_true, Bool.false_eq_true]
    · refine rd hG (v := nI sz) ?_ (rp.trans ?_)
      · simp only [show nI 7 = (7 : Int32) from rfl, e_93, tp_f htp, hy_f hhs, Option.bind_some, Option.toList_some, Option.toList_none, List.cons_append, List.nil_append, List.append_nil, List.length_cons, List.length_nil, true_or, or_true, eq_self, b01_0, b01_1, b01_2, b01_3, b01_4, Nat.zero_le, Nat.reduceAdd, Nat.reduceLeDiff, ↓reduceIte, not_true_eq_false, not_false_eq_true, Bool.false_eq_true]
      · simp only [show nI 7 = (7 : Int32) from rfl, e_172, rm_f hrm, hr3.1, Option.bind_some, Option.toList_some, Option.toList_none, List.cons_append, List.nil_append, List.append_nil, List.length_cons, List.length_nil, true_or, or_true, eq_self, b01_0, b01_1, b01_2, b01_3, b01_4, Nat.zero_le, Nat.reduceAdd, Nat.reduceLeDiff, ↓reduceIte, not_true_eq_false, not_false_eq_true, Bool.false_eq_true]
end ROWS
