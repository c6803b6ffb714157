/-! the reference: about, up to its switch -/
section REF
variable {X : mc_X} {G : mc_H} {su : Int32} {tr : Int64} {R C U : Nat} {tu tl ki go wa ol hs so sr rs ce cp fa pa : Nat → Int32}
theorem r_aboutP (h : rm G su tr R C U tu tl ki go wa ol hs so sr rs ce cp fa pa) (hs : sh R C) (w : Int32) : mc_ev X 172 0 [.ref 90, .int w, .null, .null, .null] [] G = mc_ev X 172 76 [.ref 90, .int w, .int (nI (nsum (fun i => (hb ki go i).toNat) (nN R C))), .int (nI (nsum (fun f => (trB R C wa ki f).toNat) (nF R C))), .int (nI (nF R C))] [] G := by
  have hb1 := sh_b hs
  have h0 : mc_ev X 172 0 [.ref 90, .int w, .null, .null, .null] [] G = mc_ev X 172 9 [.ref 90, .int w, .int 0, .int 0, .null] [] G := by
    simp only [e_172, rm_t h, Option.bind_some, Option.toList_some, Option.toList_none, List.cons_append, List.nil_append, List.append_nil, List.length_cons, List.length_nil, true_or, or_true, eq_self, b01_0, b01_1, b01_2, b01_3, b01_4, Nat.zero_le, Nat.reduceAdd, Nat.reduceLeDiff, ↓reduceIte, not_true_eq_false, not_false_eq_true, Bool.false_eq_true]
  have hl := ev_loop (X := X) (k := 172) (pc := 9) (fun i => [.ref 90, .int w, .int (nI (nsum (fun i => (hb ki go i).toNat) i)), .int (nI i), .null]) (fun _ => G) (nN R C) (by
    intro i hi
    have h1 : nI i < nI (nN R C) := nI_lt hi (by omega)
    rw [h_172_9]
    simp only [e_172, rm_f h, r_needles h, h1, r_isHeld h (i := i) (by omega), nI_1, Option.bind_some, Option.toList_some, Option.toList_none, List.cons_append, List.nil_append, List.append_nil, List.length_cons, List.length_nil, true_or, or_true, eq_self, b01_0, b01_1, b01_2, b01_3, b01_4, Nat.zero_le, Nat.reduceAdd, Nat.reduceLeDiff, ↓reduceIte, not_true_eq_false, not_false_eq_true, Bool.false_eq_true]
    have e : nsum (fun i => (hb ki go i).toNat) (i + 1) = nsum (fun i => (hb ki go i).toNat) i + (hb ki go i).toNat := rfl
    rw [e]
    cases hb ki go i <;> simp only [Option.bind_some, Option.toList_some, Option.toList_none, List.cons_append, List.nil_append, List.append_nil, List.length_cons, List.length_nil, true_or, or_true, eq_self, b01_0, b01_1, b01_2, b01_3, b01_4, Nat.zero_le, Nat.reduceAdd, Nat.reduceLeDiff, ↓reduceIte, not_true_eq_false, not_false_eq_true, Bool.false_eq_true, Int32.add_zero, nI_1, Bool.toNat_true, Bool.toNat_false, Nat.add_zero])
  have h2 : ¬ nI (nN R C) < nI (nN R C) := nI_nlt (Nat.le_refl _) (by omega)
  have h3 : mc_ev X 172 9 [.ref 90, .int w, .int (nI (nsum (fun i => (hb ki go i).toNat) (nN R C))), .int (nI (nN R C)), .null] [] G = mc_ev X 172 44 [.ref 90, .int w, .int (nI (nsum (fun i => (hb ki go i).toNat) (nN R C))), .int 0, .int 0] [] G := by
    rw [h_172_9]
    simp only [e_172, rm_f h, r_needles h, h2, Option.bind_some, Option.toList_some, Option.toList_none, List.cons_append, List.nil_append, List.append_nil, List.length_cons, List.length_nil, true_or, or_true, eq_self, b01_0, b01_1, b01_2, b01_3, b01_4, Nat.zero_le, Nat.reduceAdd, Nat.reduceLeDiff, ↓reduceIte, not_true_eq_false, not_false_eq_true, Bool.false_eq_true]
  have hl2 := ev_loop (X := X) (k := 172) (pc := 44) (fun f => [.ref 90, .int w, .int (nI (nsum (fun i => (hb ki go i).toNat) (nN R C))), .int (nI (nsum (fun f => (trB R C wa ki f).toNat) f)), .int (nI f)]) (fun _ => G) (nF R C) (by
    intro f hf
    have h1 : nI f < nI (nF R C) := nI_lt hf (by omega)
    rw [h_172_44]
    simp only [e_172, rm_f h, r_fields h hs, h1, r_isTroubled h hs (f := f) (by omega), nI_1, Option.bind_some, Option.toList_some, Option.toList_none, List.cons_append, List.nil_append, List.append_nil, List.length_cons, List.length_nil, true_or, or_true, eq_self, b01_0, b01_1, b01_2, b01_3, b01_4, Nat.zero_le, Nat.reduceAdd, Nat.reduceLeDiff, ↓reduceIte, not_true_eq_false, not_false_eq_true, Bool.false_eq_true]
    have e : nsum (fun f => (trB R C wa ki f).toNat) (f + 1) = nsum (fun f => (trB R C wa ki f).toNat) f + (trB R C wa ki f).toNat := rfl
    rw [e]
    cases trB R C wa ki f <;> simp only [Option.bind_some, Option.toList_some, Option.toList_none, List.cons_append, List.nil_append, List.append_nil, List.length_cons, List.length_nil, true_or, or_true, eq_self, b01_0, b01_1, b01_2, b01_3, b01_4, Nat.zero_le, Nat.reduceAdd, Nat.reduceLeDiff, ↓reduceIte, not_true_eq_false, not_false_eq_true, Bool.false_eq_true, Int32.add_zero, nI_1, Bool.toNat_true, Bool.toNat_false, Nat.add_zero])
  have h4 : ¬ nI (nF R C) < nI (nF R C) := nI_nlt (Nat.le_refl _) (by omega)
  rw [h0]
  refine Eq.trans hl (Eq.trans h3 (Eq.trans hl2 ?_))
  rw [h_172_44]
  simp only [h4, e_172, rm_f h, r_fields h hs, Option.bind_some, Option.toList_some, Option.toList_none, List.cons_append, List.nil_append, List.append_nil, List.length_cons, List.length_nil, true_or, or_true, eq_self, b01_0, b01_1, b01_2, b01_3, b01_4, Nat.zero_le, Nat.reduceAdd, Nat.reduceLeDiff, ↓reduceIte, not_true_eq_false, not_false_eq_true, Bool.false_eq_true]
end REF
