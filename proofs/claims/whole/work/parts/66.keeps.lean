/-! the reference: what is kept -/
theorem cc72 (u : Nat) : (72 : Int32) * nI u = nI (72 * u) := pk_mul 72 u
theorem cc4 (u : Nat) : (4 : Int32) * nI u = nI (4 * u) := pk_mul 4 u
theorem cp2 (u : Nat) : nI u + 2 = nI (u + 2) := nI_add u 2
theorem cp3 (u : Nat) : nI u + 3 = nI (u + 3) := nI_add u 3
theorem cp48 (u : Nat) : nI u + 48 = nI (u + 48) := nI_add u 48
theorem cp72 (u : Nat) : nI u + 72 = nI (u + 72) := nI_add u 72
section REF
variable {X : mc_X} {G : mc_H} {su : Int32} {tr : Int64} {R C U : Nat} {tu tl ki go wa ol hs so sr rs ce cp fa pa : Nat → Int32}
theorem r_keep1 (h : rm G su tr R C U tu tl ki go wa ol hs so sr rs ce cp fa pa) (v : Value) (hU : U ≤ 19) : ∃ f : Nat → Int32, mc_ev X 119 49 [.ref 90, v, .null] [] G = mc_ev X 119 151 [.ref 90, .int (nI (72 * U)), .int 0] [] (G.set 96 (.inl (0, 1440, f))) ∧ (∀ j, j < 72 * U → f j = ol j) ∧ ∀ i, i < 12 → f (72 * U + 4 * i) = tu i ∧ f (72 * U + 4 * i + 1) = tl i ∧ f (72 * U + 4 * i + 2) = ki i ∧ f (72 * U + 4 * i + 3) = (if go i = 0 then 0 else 1) := by
  have h0 : mc_ev X 119 49 [.ref 90, v, .null] [] G = mc_ev X 119 59 [.ref 90, .int (nI (72 * U)), .int 0] [] G := by
    simp only [e_119, rm_f h, cc72, Option.bind_some, Option.toList_some, Option.toList_none, List.cons_append, List.nil_append, List.append_nil, List.length_cons, List.length_nil, true_or, or_true, eq_self, b01_0, b01_1, b01_2, b01_3, b01_4, Nat.zero_le, Nat.reduceAdd, Nat.reduceLeDiff, ↓reduceIte, not_true_eq_false, not_false_eq_true, Bool.false_eq_true]
  obtain ⟨ls, G', ⟨hls, f, hG', hf1, hf2⟩, hev⟩ := ev_inv (X := X) (k := 119) (pc := 59) (fun n ls G' => ls = [.ref 90, .int (nI (72 * U)), .int (nI n)] ∧ ∃ f : Nat → Int32, G' = G.set 96 (.inl (0, 1440, f)) ∧ (∀ j, j < 72 * U → f j = ol j) ∧ ∀ i, i < n → f (72 * U + 4 * i) = tu i ∧ f (72 * U + 4 * i + 1) = tl i ∧ f (72 * U + 4 * i + 2) = ki i ∧ f (72 * U + 4 * i + 3) = (if go i = 0 then 0 else 1)) 12 (by
    intro n hn ls G' ⟨hls, f, hG', hf1, hf2⟩
    subst hls
    subst hG'
    have k1 : nI n < 12 := nI_lt (b := 12) hn (by decide)
    have hF := fun f => rm_f (rm_s96 h f)
    have hA := fun f => rm_a (X := X) (rm_s96 h f)
    have w1 := fun f x => rm_w96s h f (j := 72 * U + 4 * n) (by omega) x
    have w2 := fun f x => rm_w96s h f (j := 72 * U + 4 * n + 1) (by omega) x
    have w3 := fun f x => rm_w96s h f (j := 72 * U + 4 * n + 2) (by omega) x
    have w4 := fun f x => rm_w96s h f (j := 72 * U + 4 * n + 3) (by omega) x
    refine ⟨[.ref 90, .int (nI (72 * U)), .int (nI (n + 1))], G.set 96 (.inl (0, 1440, upd (upd (upd (upd f (72 * U + 4 * n) (tu n)) (72 * U + 4 * n + 1) (tl n)) (72 * U + 4 * n + 2) (ki n)) (72 * U + 4 * n + 3) (if go n = 0 then 0 else 1))), ⟨rfl, _, rfl, ?_, ?_⟩, ?_⟩
    · intro j hj
      rw [pk_un (by omega), pk_un (by omega), pk_un (by omega), pk_un (by omega)]
      exact hf1 j hj
    · intro i hi
      by_cases c : i = n
      · subst c
        refine ⟨?_, ?_, ?_, ?_⟩
        · rw [pk_un (by omega), pk_un (by omega), pk_un (by omega), pk_us]
        · rw [pk_un (by omega), pk_un (by omega), pk_us]
        · rw [pk_un (by omega), pk_us]
        · rw [pk_us]
      · obtain ⟨a1, a2, a3, a4⟩ := hf2 i (by omega)
        refine ⟨?_, ?_, ?_, ?_⟩
        · rw [pk_un (by omega), pk_un (by omega), pk_un (by omega), pk_un (by omega)]; exact a1
        · rw [pk_un (by omega), pk_un (by omega), pk_un (by omega), pk_un (by omega)]; exact a2
        · rw [pk_un (by omega), pk_un (by omega), pk_un (by omega), pk_un (by omega)]; exact a3
        · rw [pk_un (by omega), pk_un (by omega), pk_un (by omega), pk_un (by omega)]; exact a4
    · rw [h_119_59]
      simp only [e_119, k1, hF, hA, hn, cc4, nI_add, nI_1, cp2, cp3, w1, w2, w3, Option.bind_some, Option.toList_some, Option.toList_none, List.cons_append, List.nil_append, List.append_nil, List.length_cons, List.length_nil, true_or, or_true, eq_self, b01_0, b01_1, b01_2, b01_3, b01_4, Nat.zero_le, Nat.reduceAdd, Nat.reduceLeDiff, ↓reduceIte, not_true_eq_false, not_false_eq_true, Bool.false_eq_true]
      by_cases c : go n = 0 <;> simp only [c, e_119, w4, nI_1, Option.bind_some, Option.toList_some, Option.toList_none, List.cons_append, List.nil_append, List.append_nil, List.length_cons, List.length_nil, true_or, or_true, eq_self, b01_0, b01_1, b01_2, b01_3, b01_4, Nat.zero_le, Nat.reduceAdd, Nat.reduceLeDiff, ↓reduceIte, not_true_eq_false, not_false_eq_true, Bool.false_eq_true]) [.ref 90, .int (nI (72 * U)), .int 0] G ⟨rfl, ol, (set_same h.2.2.2.2.2.2.1).symm, fun j _ => rfl, fun i hi => absurd hi (by omega)⟩
  subst hls
  subst hG'
  refine ⟨f, ?_, hf1, hf2⟩
  rw [h0, hev, h_119_59]
  have k2 : ¬ nI 12 < 12 := by decide
  simp only [e_119, k2, Option.bind_some, Option.toList_some, Option.toList_none, List.cons_append, List.nil_append, List.append_nil, List.length_cons, List.length_nil, true_or, or_true, eq_self, b01_0, b01_1, b01_2, b01_3, b01_4, Nat.zero_le, Nat.reduceAdd, Nat.reduceLeDiff, ↓reduceIte, not_true_eq_false, not_false_eq_true, Bool.false_eq_true]
theorem r_keep2 (h : rm G su tr R C U tu tl ki go wa ol hs so sr rs ce cp fa pa) (hU : U ≤ 19) : ∃ f : Nat → Int32, mc_ev X 119 151 [.ref 90, .int (nI (72 * U)), .int 0] [] G = some (none, (G.set 96 (.inl (0, 1440, f))).set 90 (rmc su tr R C (U + 1))) ∧ (∀ j, j < 72 * U + 48 → f j = ol j) ∧ ∀ i, i < 24 → f (72 * U + 48 + i) = wa i := by
  obtain ⟨ls, G', ⟨hls, f, hG', hf1, hf2⟩, hev⟩ := ev_inv (X := X) (k := 119) (pc := 151) (fun n ls G' => ls = [.ref 90, .int (nI (72 * U)), .int (nI n)] ∧ ∃ f : Nat → Int32, G' = G.set 96 (.inl (0, 1440, f)) ∧ (∀ j, j < 72 * U + 48 → f j = ol j) ∧ ∀ i, i < n → f (72 * U + 48 + i) = wa i) 24 (by
    intro n hn ls G' ⟨hls, f, hG', hf1, hf2⟩
    subst hls
    subst hG'
    have k1 : nI n < 24 := nI_lt (b := 24) hn (by decide)
    have hF := fun f => rm_f (rm_s96 h f)
    have hA := fun f => rm_a (X := X) (rm_s96 h f)
    have w1 := fun f x => rm_w96s h f (j := 72 * U + 48 + n) (by omega) x
    refine ⟨[.ref 90, .int (nI (72 * U)), .int (nI (n + 1))], G.set 96 (.inl (0, 1440, upd f (72 * U + 48 + n) (wa n))), ⟨rfl, _, rfl, ?_, ?_⟩, ?_⟩
    · intro j hj
      rw [pk_un (by omega)]
      exact hf1 j hj
    · intro i hi
      by_cases c : i = n
      · subst c
        rw [pk_us]
      · rw [pk_un (by omega)]; exact hf2 i (by omega)
    · rw [h_119_151]
      simp only [e_119, k1, hF, hA, hn, cp48, nI_add, nI_1, w1, Option.bind_some, Option.toList_some, Option.toList_none, List.cons_append, List.nil_append, List.append_nil, List.length_cons, List.length_nil, true_or, or_true, eq_self, b01_0, b01_1, b01_2, b01_3, b01_4, Nat.zero_le, Nat.reduceAdd, Nat.reduceLeDiff, ↓reduceIte, not_true_eq_false, not_false_eq_true, Bool.false_eq_true]) [.ref 90, .int (nI (72 * U)), .int 0] G ⟨rfl, ol, (set_same h.2.2.2.2.2.2.1).symm, fun j _ => rfl, fun i hi => absurd hi (by omega)⟩
  subst hls
  subst hG'
  refine ⟨f, ?_, hf1, hf2⟩
  have hr := rm_s96 h f
  rw [hev, h_119_151]
  have k2 : ¬ nI 24 < 24 := by decide
  simp only [e_119, k2, rm_f hr, nI_1, rm_w11 hr, Option.bind_some, Option.toList_some, Option.toList_none, List.cons_append, List.nil_append, List.append_nil, List.length_cons, List.length_nil, true_or, or_true, eq_self, b01_0, b01_1, b01_2, b01_3, b01_4, Nat.zero_le, Nat.reduceAdd, Nat.reduceLeDiff, ↓reduceIte, not_true_eq_false, not_false_eq_true, Bool.false_eq_true]
theorem r_keep0 (h : rm G su tr R C U tu tl ki go wa ol hs so sr rs ce cp fa pa) (hU : U = 20) : ∃ f : Nat → Int32, mc_ev X 119 0 [.ref 90, .null, .null] [] G = mc_ev X 119 49 [.ref 90, .int (nI 1368), .null] [] ((G.set 96 (.inl (0, 1440, f))).set 90 (rmc su tr R C 19)) ∧ (∀ j, j < 1368 → f j = ol (j + 72)) := by
  have k0 : (nI U = 20) = True := eq_true (by rw [hU]; rfl)
  have h0 : mc_ev X 119 0 [.ref 90, .null, .null] [] G = mc_ev X 119 11 [.ref 90, .int 0, .null] [] G := by
    simp only [e_119, rm_f h, k0, Option.bind_some, Option.toList_some, Option.toList_none, List.cons_append, List.nil_append, List.append_nil, List.length_cons, List.length_nil, true_or, or_true, eq_self, b01_0, b01_1, b01_2, b01_3, b01_4, Nat.zero_le, Nat.reduceAdd, Nat.reduceLeDiff, ↓reduceIte, not_true_eq_false, not_false_eq_true, Bool.false_eq_true]
  obtain ⟨ls, G', ⟨hls, f, hG', hf1, hf2⟩, hev⟩ := ev_inv (X := X) (k := 119) (pc := 11) (fun n ls G' => ls = [.ref 90, .int (nI n), .null] ∧ ∃ f : Nat → Int32, G' = G.set 96 (.inl (0, 1440, f)) ∧ (∀ j, j < n → f j = ol (j + 72)) ∧ ∀ j, n ≤ j → f j = ol j) 1368 (by
    intro n hn ls G' ⟨hls, f, hG', hf1, hf2⟩
    subst hls
    subst hG'
    have k1 : nI n < 1368 := nI_lt (b := 1368) hn (by decide)
    have hF := fun f => rm_f (rm_s96 h f)
    have hA := rm_a (X := X) (rm_s96 h f)
    have hA1 := hA.2.2.2.2.2.1 (n + 72) (by omega)
    have w1 := fun f x => rm_w96s h f (j := n) (by omega) x
    refine ⟨[.ref 90, .int (nI (n + 1)), .null], G.set 96 (.inl (0, 1440, upd f n (f (n + 72)))), ⟨rfl, _, rfl, ?_, ?_⟩, ?_⟩
    · intro j hj
      by_cases c : j = n
      · subst c
        rw [pk_us]
        exact hf2 _ (by omega)
      · rw [pk_un (by omega)]
        exact hf1 j (by omega)
    · intro j hj
      rw [pk_un (by omega)]
      exact hf2 j (by omega)
    · rw [h_119_11]
      simp only [e_119, k1, hF, cp72, hA1, nI_1, w1, Option.bind_some, Option.toList_some, Option.toList_none, List.cons_append, List.nil_append, List.append_nil, List.length_cons, List.length_nil, true_or, or_true, eq_self, b01_0, b01_1, b01_2, b01_3, b01_4, Nat.zero_le, Nat.reduceAdd, Nat.reduceLeDiff, ↓reduceIte, not_true_eq_false, not_false_eq_true, Bool.false_eq_true]) [.ref 90, .int 0, .null] G ⟨rfl, ol, (set_same h.2.2.2.2.2.2.1).symm, fun j hj => absurd hj (by omega), fun i hi => rfl⟩
  subst hls
  subst hG'
  refine ⟨f, ?_, hf1⟩
  have hr := rm_s96 h f
  have e1 : nI U - 1 = nI 19 := by rw [hU]; rfl
  rw [h0, hev, h_119_11]
  have k2 : ¬ nI 1368 < 1368 := by decide
  simp only [e_119, k2, rm_f hr, e1, rm_w11 hr, Option.bind_some, Option.toList_some, Option.toList_none, List.cons_append, List.nil_append, List.append_nil, List.length_cons, List.length_nil, true_or, or_true, eq_self, b01_0, b01_1, b01_2, b01_3, b01_4, Nat.zero_le, Nat.reduceAdd, Nat.reduceLeDiff, ↓reduceIte, not_true_eq_false, not_false_eq_true, Bool.false_eq_true]
theorem r_keeps (h : rm G su tr R C U tu tl ki go wa ol hs so sr rs ce cp fa pa) (hU : U ≤ 20) : ∃ (G' : mc_H) (f : Nat → Int32), mc_ev X 119 0 [.ref 90, .null, .null] [] G = some (none, G') ∧ (∀ k, k ≠ 90 → k ≠ 96 → G'[k]? = G[k]?) ∧ rm G' su tr R C (min (U + 1) 20) tu tl ki go wa f hs so sr rs ce cp fa pa ∧ (∀ j, j < 72 * (min (U + 1) 20 - 1) → f j = ol (j + 72 * (U + 1 - min (U + 1) 20))) ∧ (∀ i, i < 12 → f (72 * (min (U + 1) 20 - 1) + 4 * i) = tu i ∧ f (72 * (min (U + 1) 20 - 1) + 4 * i + 1) = tl i ∧ f (72 * (min (U + 1) 20 - 1) + 4 * i + 2) = ki i ∧ f (72 * (min (U + 1) 20 - 1) + 4 * i + 3) = (if go i = 0 then 0 else 1)) ∧ ∀ i, i < 24 → f (72 * (min (U + 1) 20 - 1) + 48 + i) = wa i := by
  by_cases c : U = 20
  · obtain ⟨f0, a1, a2⟩ := r_keep0 (X := X) h c
    have h1 := rm_set (rm_s96 h f0) su tr R C 19
    obtain ⟨f1, b1, b2, b3⟩ := r_keep1 (X := X) h1 (.int (nI 1368)) (by decide)
    have h2 := rm_s96 h1 f1
    obtain ⟨f2, c1, c2, c3⟩ := r_keep2 (X := X) h2 (by decide)
    have h3 := rm_set (rm_s96 h2 f2) su tr R C 20
    have e : min (U + 1) 20 = 20 := by omega
    rw [e]
    refine ⟨_, f2, (a1.trans b1).trans c1, ?_, h3, ?_, ?_, ?_⟩
    · intro k k1 k2
      rw [gs_ne (Ne.symm k1), gs_ne (Ne.symm k2), gs_ne (Ne.symm k2), gs_ne (Ne.symm k1), gs_ne (Ne.symm k2)]
    · intro j hj
      rw [c2 j (by omega), b2 j (by omega), a2 j (by omega), c]
    · intro i hi
      have := b3 i hi
      refine ⟨(c2 _ (by omega)).trans this.1, (c2 _ (by omega)).trans this.2.1, (c2 _ (by omega)).trans this.2.2.1, (c2 _ (by omega)).trans this.2.2.2⟩
    · exact c3
  · have k0 : (nI U = 20) = False := eq_false (fun q => c ((nI_eq (b := 20) (by omega) (by decide)).mp q))
    have a1 : mc_ev X 119 0 [.ref 90, .null, .null] [] G = mc_ev X 119 49 [.ref 90, .null, .null] [] G := by
      simp only [e_119, rm_f h, k0, Option.bind_some, Option.toList_some, Option.toList_none, List.cons_append, List.nil_append, List.append_nil, List.length_cons, List.length_nil, true_or, or_true, eq_self, b01_0, b01_1, b01_2, b01_3, b01_4, Nat.zero_le, Nat.reduceAdd, Nat.reduceLeDiff, ↓reduceIte, not_true_eq_false, not_false_eq_true, Bool.false_eq_true]
    obtain ⟨f1, b1, b2, b3⟩ := r_keep1 (X := X) h .null (by omega)
    have h2 := rm_s96 h f1
    obtain ⟨f2, c1, c2, c3⟩ := r_keep2 (X := X) h2 (by omega)
    have h3 := rm_set (rm_s96 h2 f2) su tr R C (U + 1)
    have e : min (U + 1) 20 = U + 1 := by omega
    rw [e, Nat.add_sub_cancel, Nat.sub_self]
    refine ⟨_, f2, (a1.trans b1).trans c1, ?_, h3, ?_, ?_, ?_⟩
    · intro k k1 k2
      rw [gs_ne (Ne.symm k1), gs_ne (Ne.symm k2), gs_ne (Ne.symm k2)]
    · intro j hj
      rw [c2 j (by omega), b2 j (by omega), Nat.mul_zero, Nat.add_zero]
    · intro i hi
      have := b3 i hi
      refine ⟨(c2 _ (by omega)).trans this.1, (c2 _ (by omega)).trans this.2.1, (c2 _ (by omega)).trans this.2.2.1, (c2 _ (by omega)).trans this.2.2.2⟩
    · exact c3
end REF
/-- one kept setting, in class and reference -/
def sl3 (R C t o l : Nat) (K W ol : Nat → Int32) (b : Nat) : Prop := t < 2 ^ nN R C ∧ o < 2 ^ nN R C ∧ l < 2 ^ nN R C ∧ (∀ i, i < nN R C → bt (nN R C) l i = 1 → K i = 4) ∧ (∀ i, i < nN R C → ol (b + 4 * i) = gB (nN R C) t i ∧ ol (b + 4 * i + 1) = gB (nN R C) o i ∧ ol (b + 4 * i + 2) = K i ∧ ol (b + 4 * i + 3) = gB (nN R C) l i) ∧ ∀ j, j < nJ R C → ol (b + 48 + j) = W j
theorem sl3_cg {R C t o l : Nat} {K W ol ol' : Nat → Int32} {b b' : Nat} (hs : sh R C) (h : sl3 R C t o l K W ol b) (ho : ∀ q, q < 72 → ol' (b' + q) = ol (b + q)) : sl3 R C t o l K W ol' b' := by
  have hb1 := sh_b hs
  obtain ⟨h1, h2, h3, h4, h5, h6⟩ := h
  refine ⟨h1, h2, h3, h4, fun i hi => ?_, fun j hj => ?_⟩
  · obtain ⟨a1, a2, a3, a4⟩ := h5 i hi
    refine ⟨(ho (4 * i) (by omega)).trans a1, ?_, ?_, ?_⟩
    · rw [Nat.add_assoc] at a2 ⊢; exact (ho (4 * i + 1) (by omega)).trans a2
    · rw [Nat.add_assoc] at a3 ⊢; exact (ho (4 * i + 2) (by omega)).trans a3
    · rw [Nat.add_assoc] at a4 ⊢; exact (ho (4 * i + 3) (by omega)).trans a4
  · have := h6 j hj
    rw [Nat.add_assoc] at this ⊢
    exact (ho (48 + j) (by omega)).trans this
section RL
variable {R C TB OB LB rim nx sz U : Nat} {ks ws tu tl ki go wa fi se lo hi ol f : Nat → Int32} {hT hO hL : Nat → Nat} {hK hW : Nat → Nat → Int32}
theorem rel3_keep (hp : pv R C rim fi se lo hi TB OB LB ks ws) (h1 : rel1 R C TB OB LB ks ws tu tl ki go wa) (h3 : rel3 R C nx sz U hT hO hL hK hW ol) (hnx : nx < 20) (hsz : sz ≤ 20) (f1 : ∀ j, j < 72 * (min (U + 1) 20 - 1) → f j = ol (j + 72 * (U + 1 - min (U + 1) 20))) (f2 : ∀ i, i < 12 → f (72 * (min (U + 1) 20 - 1) + 4 * i) = tu i ∧ f (72 * (min (U + 1) 20 - 1) + 4 * i + 1) = tl i ∧ f (72 * (min (U + 1) 20 - 1) + 4 * i + 2) = ki i ∧ f (72 * (min (U + 1) 20 - 1) + 4 * i + 3) = (if go i = 0 then 0 else 1)) (f3 : ∀ i, i < 24 → f (72 * (min (U + 1) 20 - 1) + 48 + i) = wa i) : rel3 R C ((nx + 1) % 20) (min (sz + 1) 20) (min (U + 1) 20) (va_up hT nx TB) (va_up hO nx OB) (va_up hL nx LB) (va_up hK nx (va_cpy ks (hK nx) 0 0 12)) (va_up hW nx (va_cpy ws (hW nx) 0 0 17)) f := by
  have hb1 := sh_b hp.1
  obtain ⟨hU, hv, hk⟩ := h3
  subst hU
  have kc : ∀ i, i < 12 → va_cpy ks (hK nx) 0 0 12 i = ks i := fun i hi => by rw [pk_cpy_in (by omega) (by omega)]; congr 1; omega
  have wc : ∀ i, i < 17 → va_cpy ws (hW nx) 0 0 17 i = ws i := fun i hi => by rw [pk_cpy_in (by omega) (by omega)]; congr 1; omega
  refine ⟨rfl, fun p hp20 => ?_, fun k hk2 => ?_⟩
  · by_cases c : p = nx
    · subst c
      rw [va_up_self, va_up_self]
      refine ⟨fun i hi => ?_, fun j hj => ?_⟩
      · rw [kc i hi]; exact hp.2.2.2.2.2.1 i hi
      · rw [wc j hj]; exact hp.2.2.2.2.2.2.1 j hj
    · rw [va_up_ne _ _ c, va_up_ne _ _ c]
      exact hv p hp20
  · show sl3 R C (va_up hT nx TB (((nx + 1) % 20 + 20 - min (U + 1) 20 + k) % 20)) (va_up hO nx OB (((nx + 1) % 20 + 20 - min (U + 1) 20 + k) % 20)) (va_up hL nx LB (((nx + 1) % 20 + 20 - min (U + 1) 20 + k) % 20)) (va_up hK nx (va_cpy ks (hK nx) 0 0 12) (((nx + 1) % 20 + 20 - min (U + 1) 20 + k) % 20)) (va_up hW nx (va_cpy ws (hW nx) 0 0 17) (((nx + 1) % 20 + 20 - min (U + 1) 20 + k) % 20)) f (72 * k)
    by_cases c : k = min (U + 1) 20 - 1
    · have e : ((nx + 1) % 20 + 20 - min (U + 1) 20 + k) % 20 = nx := by omega
      rw [e, va_up_self, va_up_self, va_up_self, va_up_self, va_up_self, c]
      refine ⟨hp.2.1, hp.2.2.1, hp.2.2.2.1, fun i hi hb => ?_, fun i hi => ?_, fun j hj => ?_⟩
      · rw [kc i (by omega)]; exact hp.2.2.2.2.2.2.2.2.2 i hi hb
      · obtain ⟨a1, a2, a3, a4⟩ := f2 i (by omega)
        obtain ⟨q1, q2, q3, q4⟩ := h1.1 i hi
        refine ⟨a1.trans q1, a2.trans q2, ?_, ?_⟩
        · rw [a3, q4, kc i (by omega)]
        · rw [a4, q3]
          unfold gB
          rcases bt_b (nN R C) LB i with q | q <;> rw [q] <;> rfl
      · rw [f3 j (by omega), wc j (by omega)]; exact h1.2 j hj
    · have n1 : ((nx + 1) % 20 + 20 - min (U + 1) 20 + k) % 20 ≠ nx := by omega
      rw [va_up_ne _ _ n1, va_up_ne _ _ n1, va_up_ne _ _ n1, va_up_ne _ _ n1, va_up_ne _ _ n1]
      have e : ((nx + 1) % 20 + 20 - min (U + 1) 20 + k) % 20 = (nx + 20 - U + (k + (U + 1 - min (U + 1) 20))) % 20 := by omega
      rw [e]
      have := hk (k + (U + 1 - min (U + 1) 20)) (by omega)
      refine sl3_cg (b := 72 * (k + (U + 1 - min (U + 1) 20))) hp.1 this (fun q hq => ?_)
      rw [f1 _ (by omega)]
      congr 1
      omega
end RL
