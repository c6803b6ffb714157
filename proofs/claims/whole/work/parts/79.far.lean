/-! the reference: how far fields are from one -/
theorem nsum_u {f : Nat → Nat} {b v : Nat} : ∀ n, b < n → nsum (va_up f b v) n + f b = nsum f n + v
  | 0, h => by omega
  | n + 1, h => by
    show nsum (va_up f b v) n + va_up f b v n + f b = nsum f n + f n + v
    by_cases c : b = n
    · subst c
      rw [va_up_self, nsum_cg (f := va_up f b v) (g := f) b (fun j hj => va_up_ne _ _ (by omega))]
      omega
    · have := nsum_u (f := f) (b := b) (v := v) n (by omega)
      rw [va_up_ne _ _ (show n ≠ b by omega)]
      omega
/-- how many are reached -/
def cf (e : Nat → Nat) (n : Nat) : Nat := nsum (fun g => if e g = 2147483647 then 0 else 1) n
theorem cf_le (e : Nat → Nat) (n : Nat) : cf e n ≤ n := by
  have := nsum_le (f := fun g => if e g = 2147483647 then 0 else 1) (b := 1) (fun j => by split <;> omega) n
  unfold cf
  omega
theorem cf_u {e : Nat → Nat} {b v n : Nat} (hb : b < n) (hv : v ≠ 2147483647) : cf (va_up e b v) n = if e b = 2147483647 then cf e n + 1 else cf e n := by
  have h := nsum_u (f := fun g => if e g = 2147483647 then 0 else 1) (b := b) (v := 1) n hb
  have e1 : nsum (fun g => if va_up e b v g = 2147483647 then 0 else 1) n = nsum (va_up (fun g => if e g = 2147483647 then 0 else 1) b 1) n := by
    apply nsum_cg
    intro j _
    by_cases c : j = b
    · subst c; rw [va_up_self, va_up_self, if_neg hv]
    · rw [va_up_ne _ _ c, va_up_ne _ _ c]
  unfold cf
  rw [e1]

  split at h <;> rename_i q
  · rw [if_pos q]; omega
  · rw [if_neg q]; omega
/-- what holds of the way lengths found so far from s -/
def eI (R C : Nat) (w : Nat → Nat) (s : Nat) (e : Nat → Nat) : Prop := (∀ g, g < nF R C → e g = 2147483647 ∨ e g ≤ 4000 * cf e (nF R C)) ∧ e s = 0 ∧ ∀ P, fea R C w P → ∀ g, g < nF R C → P g ≤ P s + e g
theorem eI_b {R C : Nat} {w : Nat → Nat} {s : Nat} {e : Nat → Nat} (hs : sh R C) (h : eI R C w s e) {g : Nat} (hg : g < nF R C) : e g = 2147483647 ∨ e g ≤ 28000 := by
  have hb := sh_b hs
  have := cf_le e (nF R C)
  rcases h.1 g hg with q | q
  · exact Or.inl q
  · right; omega
theorem eI_u {R C : Nat} {w : Nat → Nat} {s : Nat} {e : Nat → Nat} (hs : sh R C) (h : eI R C w s e) (hsF : s < nF R C) {a b v : Nat} (ha : a < nF R C) (hb : b < nF R C) (hv : v ≤ 4000) (h1 : e a < 2147483647) (h2 : e a + v < e b) (hP : ∀ P, fea R C w P → P b ≤ P a + v) : eI R C w s (va_up e b (e a + v)) ∧ nsum (va_up e b (e a + v)) (nF R C) < nsum e (nF R C) := by
  have hba := eI_b hs h ha
  have hbb := eI_b hs h hb
  have hva : e a ≤ 4000 * cf e (nF R C) := by rcases h.1 a ha with q | q; omega; exact q
  have hc := cf_u (e := e) (b := b) (v := e a + v) hb (by omega)
  have hn := nsum_u (f := e) (b := b) (v := e a + v) (nF R C) hb
  refine ⟨⟨fun g hg => ?_, ?_, fun P hPf g hg => ?_⟩, by omega⟩
  · by_cases c : g = b
    · subst c
      rw [va_up_self]
      right
      rw [hc]
      split
      · omega
      · rename_i q
        have := h.1 g hg
        omega
    · rw [va_up_ne _ _ c]
      rcases h.1 g hg with q | q
      · exact Or.inl q
      · right
        rw [hc]
        split <;> omega
  · rw [va_up_ne _ _ (fun q => ?_)]
    · exact h.2.1
    · subst q
      have := h.2.1
      omega
  · by_cases c : g = b
    · subst c
      rw [va_up_self]
      have e1 := h.2.2 P hPf a ha
      have e2 := hP P hPf
      omega
    · rw [va_up_ne _ _ c]; exact h.2.2 P hPf g hg
theorem nImax : nI 2147483647 = (2147483647 : Int32) := rfl
section REF
variable {X : mc_X} {H : mc_H} {e : Nat → Nat} {su : Int32} {tr : Int64} {R C U : Nat} {tu tl ki go wa ol hs so sr rs ce cp fa pa : Nat → Int32}
theorem r_rel1 (h : rm H su tr R C U tu tl ki go wa ol hs so sr rs ce cp fa pa) {a b w : Nat} (ha : a < 7) (hb : b < 7) (hfa : fa a = nI (e a)) (hfb : fa b = nI (e b)) (ba : e a = 2147483647 ∨ e a ≤ 28000) (bb : e b ≤ 2147483647) (hw : w ≤ 4000) (v1 : Value) (m j : Int32) : (¬ (e a < 2147483647 ∧ e a + w < e b) → mc_ev X 150 74 [.ref 90, v1, .int m, .int j, .int (nI a), .int (nI b), .int (nI w)] [] H = mc_ev X 150 125 [.ref 90, v1, .int m, .int j, .int (nI a), .int (nI b), .int (nI w)] [] H) ∧ (e a < 2147483647 ∧ e a + w < e b → mc_ev X 150 74 [.ref 90, v1, .int m, .int j, .int (nI a), .int (nI b), .int (nI w)] [] H = mc_ev X 150 125 [.ref 90, v1, .int 1, .int j, .int (nI a), .int (nI b), .int (nI w)] [] (H.set 103 (.inl (0, 64, upd fa b (nI (e a + w)))))) := by
  have a1 := (rm_a (X := X) h).2.2.2.2.2.2.2.2.2.2.2.2.1 a (by omega)
  have a2 := (rm_a (X := X) h).2.2.2.2.2.2.2.2.2.2.2.2.1 b (by omega)
  have z1 : (nI (e a) < 2147483647) = (e a < 2147483647) := propext (nI_ltI (b := 2147483647) (by omega) (by decide))
  rw [hfa] at a1
  rw [hfb] at a2
  constructor
  · intro c
    by_cases c1 : e a < 2147483647
    · have z2 : ¬ nI (e a + w) < nI (e b) := nI_nlt (by omega) (by omega)
      simp only [e_150, rm_f h, a1, a2, z1, eq_true c1, nI_add, z2, Option.bind_some, Option.toList_some, Option.toList_none, List.cons_append, List.nil_append, List.append_nil, List.length_cons, List.length_nil, true_or, or_true, eq_self, b01_0, b01_1, b01_2, b01_3, b01_4, Nat.zero_le, Nat.reduceAdd, Nat.reduceLeDiff, ↓reduceIte, not_true_eq_false, not_false_eq_true, Bool.false_eq_true]
    · simp only [e_150, rm_f h, a1, z1, c1, Option.bind_some, Option.toList_some, Option.toList_none, List.cons_append, List.nil_append, List.append_nil, List.length_cons, List.length_nil, true_or, or_true, eq_self, b01_0, b01_1, b01_2, b01_3, b01_4, Nat.zero_le, Nat.reduceAdd, Nat.reduceLeDiff, ↓reduceIte, not_true_eq_false, not_false_eq_true, Bool.false_eq_true]
  · rintro ⟨c1, c2⟩
    have z2 : nI (e a + w) < nI (e b) := nI_lt c2 (by omega)
    have p1 := rm_s103 h (upd fa b (nI (e a + w)))
    simp only [e_150, rm_f h, a1, a2, z1, eq_true c1, nI_add, z2, rm_w103a h (j := b) (by omega), rm_f p1, Option.bind_some, Option.toList_some, Option.toList_none, List.cons_append, List.nil_append, List.append_nil, List.length_cons, List.length_nil, true_or, or_true, eq_self, b01_0, b01_1, b01_2, b01_3, b01_4, Nat.zero_le, Nat.reduceAdd, Nat.reduceLeDiff, ↓reduceIte, not_true_eq_false, not_false_eq_true, Bool.false_eq_true]
theorem r_rel2 (h : rm H su tr R C U tu tl ki go wa ol hs so sr rs ce cp fa pa) {a b w : Nat} (ha : a < 7) (hb : b < 7) (hfa : fa b = nI (e b)) (hfb : fa a = nI (e a)) (ba : e b = 2147483647 ∨ e b ≤ 28000) (bb : e a ≤ 2147483647) (hw : w ≤ 4000) (v1 : Value) (m : Int32) (j : Nat) : (¬ (e b < 2147483647 ∧ e b + w < e a) → mc_ev X 150 125 [.ref 90, v1, .int m, .int (nI j), .int (nI a), .int (nI b), .int (nI w)] [] H = mc_ev X 150 43 [.ref 90, v1, .int m, .int (nI (j + 1)), .int (nI a), .int (nI b), .int (nI w)] [] H) ∧ (e b < 2147483647 ∧ e b + w < e a → mc_ev X 150 125 [.ref 90, v1, .int m, .int (nI j), .int (nI a), .int (nI b), .int (nI w)] [] H = mc_ev X 150 43 [.ref 90, v1, .int 1, .int (nI (j + 1)), .int (nI a), .int (nI b), .int (nI w)] [] (H.set 103 (.inl (0, 64, upd fa a (nI (e b + w)))))) := by
  have a1 := (rm_a (X := X) h).2.2.2.2.2.2.2.2.2.2.2.2.1 b (by omega)
  have a2 := (rm_a (X := X) h).2.2.2.2.2.2.2.2.2.2.2.2.1 a (by omega)
  have z1 : (nI (e b) < 2147483647) = (e b < 2147483647) := propext (nI_ltI (b := 2147483647) (by omega) (by decide))
  rw [hfa] at a1
  rw [hfb] at a2
  constructor
  · intro c
    by_cases c1 : e b < 2147483647
    · have z2 : ¬ nI (e b + w) < nI (e a) := nI_nlt (by omega) (by omega)
      simp only [e_150, rm_f h, a1, a2, z1, eq_true c1, nI_add, z2, nI_1, Option.bind_some, Option.toList_some, Option.toList_none, List.cons_append, List.nil_append, List.append_nil, List.length_cons, List.length_nil, true_or, or_true, eq_self, b01_0, b01_1, b01_2, b01_3, b01_4, Nat.zero_le, Nat.reduceAdd, Nat.reduceLeDiff, ↓reduceIte, not_true_eq_false, not_false_eq_true, Bool.false_eq_true]
    · simp only [e_150, rm_f h, a1, z1, c1, nI_1, Option.bind_some, Option.toList_some, Option.toList_none, List.cons_append, List.nil_append, List.append_nil, List.length_cons, List.length_nil, true_or, or_true, eq_self, b01_0, b01_1, b01_2, b01_3, b01_4, Nat.zero_le, Nat.reduceAdd, Nat.reduceLeDiff, ↓reduceIte, not_true_eq_false, not_false_eq_true, Bool.false_eq_true]
  · rintro ⟨c1, c2⟩
    have z2 : nI (e b + w) < nI (e a) := nI_lt c2 (by omega)
    simp only [e_150, rm_f h, a1, a2, z1, eq_true c1, nI_add, z2, rm_w103a h (j := a) (by omega), nI_1, Option.bind_some, Option.toList_some, Option.toList_none, List.cons_append, List.nil_append, List.append_nil, List.length_cons, List.length_nil, true_or, or_true, eq_self, b01_0, b01_1, b01_2, b01_3, b01_4, Nat.zero_le, Nat.reduceAdd, Nat.reduceLeDiff, ↓reduceIte, not_true_eq_false, not_false_eq_true, Bool.false_eq_true]
/-- joint j asks no more of e -/
def jOK (R C : Nat) (w e : Nat → Nat) (j : Nat) : Prop := (e (s1 R C j) < 2147483647 → e (s2 R C j) ≤ e (s1 R C j) + w j) ∧ (e (s2 R C j) < 2147483647 → e (s1 R C j) ≤ e (s2 R C j) + w j)
theorem up_rep {f : Nat → Int32} {e : Nat → Nat} {n b v : Nat} (h : ∀ g, g < n → f g = nI (e g)) : ∀ g, g < n → upd f b (nI v) g = nI (va_up e b v g) := by
  intro g hg
  by_cases c : g = b
  · subst c; rw [pk_us, va_up_self]
  · rw [pk_un c, va_up_ne _ _ c]; exact h g hg
set_option maxHeartbeats 1000000 in
theorem r_pass (h : rm H su tr R C U tu tl ki go wa ol hs so sr rs ce cp fa pa) (hs' : sh R C) {w : Nat → Nat} (hA : ∀ j, j < nJ R C → am (ct R C wa ki j) = nI (w j) ∧ w j ≤ 4000) {s : Nat} (hsF : s < nF R C) (hrep : ∀ g, g < nF R C → fa g = nI (e g)) (hE : eI R C w s e) (v4 v5 v6 : Value) : ∃ (m : Int32) (x4 x5 x6 : Value) (f' : Nat → Int32) (e' : Nat → Nat), mc_ev X 150 43 [.ref 90, .int (nI s), .int 0, .int 0, v4, v5, v6] [] H = mc_ev X 150 35 [.ref 90, .int (nI s), .int m, .int (nI (nJ R C)), x4, x5, x6] [] (H.set 103 (.inl (0, 64, f'))) ∧ (∀ g, g < nF R C → f' g = nI (e' g)) ∧ eI R C w s e' ∧ ((m = 0 ∧ e' = e ∧ ∀ j, j < nJ R C → jOK R C w e j) ∨ (m = 1 ∧ nsum e' (nF R C) < nsum e (nF R C))) := by
  have hb := sh_b hs'
  obtain ⟨ls, G', ⟨m, x4, x5, x6, f', e', hls, hG', hr, hE', hm⟩, hev⟩ := ev_inv (X := X) (k := 150) (pc := 43) (fun n ls G' => ∃ (m : Int32) (x4 x5 x6 : Value) (f' : Nat → Int32) (e' : Nat → Nat), ls = [.ref 90, .int (nI s), .int m, .int (nI n), x4, x5, x6] ∧ G' = H.set 103 (.inl (0, 64, f')) ∧ (∀ g, g < nF R C → f' g = nI (e' g)) ∧ eI R C w s e' ∧ ((m = 0 ∧ e' = e ∧ ∀ j, j < n → jOK R C w e j) ∨ (m = 1 ∧ nsum e' (nF R C) < nsum e (nF R C)))) (nJ R C) (by
    intro n hn ls G' ⟨m, x4, x5, x6, f1, e1, hls, hG', hr, hE1, hm⟩
    subst hls
    subst hG'
    have k1 : nI n < nI (nJ R C) := nI_lt hn (by omega)
    have hf := fs_b hs' hn
    obtain ⟨hA1, hA2⟩ := hA n hn
    have p1 := rm_s103 h f1
    have ra := r_amountOf (X := X) p1 hs' hn
    rw [am_n, hA1] at ra
    have st : mc_ev X 150 43 [.ref 90, .int (nI s), .int m, .int (nI n), x4, x5, x6] [] (H.set 103 (.inl (0, 64, f1))) = mc_ev X 150 74 [.ref 90, .int (nI s), .int m, .int (nI n), .int (nI (s1 R C n)), .int (nI (s2 R C n)), .int (nI (w n))] [] (H.set 103 (.inl (0, 64, f1))) := by
      rw [h_150_43]
      simp only [e_150, rm_f p1, r_joints p1 hs', k1, r_side p1 hs' hn, ra, Option.bind_some, Option.toList_some, Option.toList_none, List.cons_append, List.nil_append, List.append_nil, List.length_cons, List.length_nil, true_or, or_true, eq_self, b01_0, b01_1, b01_2, b01_3, b01_4, Nat.zero_le, Nat.reduceAdd, Nat.reduceLeDiff, ↓reduceIte, not_true_eq_false, not_false_eq_true, Bool.false_eq_true]
    have ba := eI_b hs' hE1 hf.2.2.1
    have bb := eI_b hs' hE1 hf.2.2.2
    have t1 := r_rel1 (X := X) p1 (e := e1) (a := s1 R C n) (b := s2 R C n) (w := w n) (by omega) (by omega) (hr _ hf.2.2.1) (hr _ hf.2.2.2) ba (by omega) hA2 (.int (nI s)) m (nI n)
    by_cases c1 : e1 (s1 R C n) < 2147483647 ∧ e1 (s1 R C n) + w n < e1 (s2 R C n)
    · obtain ⟨u1, u2⟩ := eI_u hs' hE1 hsF hf.2.2.1 hf.2.2.2 hA2 c1.1 c1.2 (fun P hP => (hP n hn).1)
      have hr2 := up_rep (b := s2 R C n) (v := e1 (s1 R C n) + w n) hr
      have t1' := t1.2 c1
      rw [List.set_set] at t1'
      have p2 := rm_s103 h (upd f1 (s2 R C n) (nI (e1 (s1 R C n) + w n)))
      have ba2 := eI_b hs' u1 hf.2.2.1
      have bb2 := eI_b hs' u1 hf.2.2.2
      have t2 := r_rel2 (X := X) p2 (e := va_up e1 (s2 R C n) (e1 (s1 R C n) + w n)) (a := s1 R C n) (b := s2 R C n) (w := w n) (by omega) (by omega) (hr2 _ hf.2.2.2) (hr2 _ hf.2.2.1) bb2 (by omega) hA2 (.int (nI s)) 1 n
      by_cases c2 : va_up e1 (s2 R C n) (e1 (s1 R C n) + w n) (s2 R C n) < 2147483647 ∧ va_up e1 (s2 R C n) (e1 (s1 R C n) + w n) (s2 R C n) + w n < va_up e1 (s2 R C n) (e1 (s1 R C n) + w n) (s1 R C n)
      · obtain ⟨u3, u4⟩ := eI_u hs' u1 hsF hf.2.2.2 hf.2.2.1 hA2 c2.1 c2.2 (fun P hP => (hP n hn).2)
        have t2' := t2.2 c2
        rw [List.set_set] at t2'
        refine ⟨_, _, ⟨1, _, _, _, _, _, rfl, rfl, up_rep hr2, u3, Or.inr ⟨rfl, ?_⟩⟩, (st.trans t1').trans t2'⟩
        rcases hm with ⟨-, q, -⟩ | ⟨-, q⟩
        · rw [q] at u2 u4 ⊢; omega
        · omega
      · refine ⟨_, _, ⟨1, _, _, _, _, _, rfl, rfl, hr2, u1, Or.inr ⟨rfl, ?_⟩⟩, (st.trans t1').trans (t2.1 c2)⟩
        rcases hm with ⟨-, q, -⟩ | ⟨-, q⟩
        · rw [q] at u2 ⊢; omega
        · omega
    · have t1' := t1.1 c1
      have t2 := r_rel2 (X := X) p1 (e := e1) (a := s1 R C n) (b := s2 R C n) (w := w n) (by omega) (by omega) (hr _ hf.2.2.2) (hr _ hf.2.2.1) bb (by omega) hA2 (.int (nI s)) m n
      by_cases c2 : e1 (s2 R C n) < 2147483647 ∧ e1 (s2 R C n) + w n < e1 (s1 R C n)
      · obtain ⟨u3, u4⟩ := eI_u hs' hE1 hsF hf.2.2.2 hf.2.2.1 hA2 c2.1 c2.2 (fun P hP => (hP n hn).2)
        have t2' := t2.2 c2
        rw [List.set_set] at t2'
        refine ⟨_, _, ⟨1, _, _, _, _, _, rfl, rfl, up_rep hr, u3, Or.inr ⟨rfl, ?_⟩⟩, (st.trans t1').trans t2'⟩
        rcases hm with ⟨-, q, -⟩ | ⟨-, q⟩
        · rw [q] at u4 ⊢; omega
        · omega
      · refine ⟨_, _, ⟨m, _, _, _, _, _, rfl, rfl, hr, hE1, ?_⟩, (st.trans t1').trans (t2.1 c2)⟩
        rcases hm with ⟨q0, q, q2⟩ | q
        · left
          refine ⟨q0, q, fun j hj => ?_⟩
          by_cases c3 : j = n
          · subst c3
            rw [← q]
            exact ⟨fun q => by omega, fun q => by omega⟩
          · exact q2 j (by omega)
        · exact Or.inr q) [.ref 90, .int (nI s), .int 0, .int 0, v4, v5, v6] H ⟨0, v4, v5, v6, fa, e, rfl, (set_same h.2.2.2.2.2.2.2.2.2.2.2.2.2.1).symm, hrep, hE, Or.inl ⟨rfl, rfl, fun j hj => absurd hj (by omega)⟩⟩
  subst hls
  subst hG'
  have k2 : ¬ nI (nJ R C) < nI (nJ R C) := nI_nlt (Nat.le_refl _) (by omega)
  have p1 := rm_s103 h f'
  refine ⟨m, x4, x5, x6, f', e', ?_, hr, hE', hm⟩
  rw [hev, h_150_43]
  simp only [e_150, rm_f p1, r_joints p1 hs', k2, Option.bind_some, Option.toList_some, Option.toList_none, List.cons_append, List.nil_append, List.append_nil, List.length_cons, List.length_nil, true_or, or_true, eq_self, b01_0, b01_1, b01_2, b01_3, b01_4, Nat.zero_le, Nat.reduceAdd, Nat.reduceLeDiff, ↓reduceIte, not_true_eq_false, not_false_eq_true, Bool.false_eq_true]
theorem r_rounds (hs' : sh R C) {w : Nat → Nat} (hA : ∀ j, j < nJ R C → am (ct R C wa ki j) = nI (w j) ∧ w j ≤ 4000) {s : Nat} (hsF : s < nF R C) : ∀ (k : Nat) (H : mc_H) (fa : Nat → Int32) (e : Nat → Nat) (v3 v4 v5 v6 : Value), rm H su tr R C U tu tl ki go wa ol hs so sr rs ce cp fa pa → nsum e (nF R C) = k → (∀ g, g < nF R C → fa g = nI (e g)) → eI R C w s e → ∃ (f' : Nat → Int32) (e' : Nat → Nat), mc_ev X 150 35 [.ref 90, .int (nI s), .int 1, v3, v4, v5, v6] [] H = some (none, H.set 103 (.inl (0, 64, f'))) ∧ (∀ g, g < nF R C → f' g = nI (e' g)) ∧ eI R C w s e' ∧ ∀ j, j < nJ R C → jOK R C w e' j := by
  intro k
  induction k using Nat.strongRecOn with
  | ind k ih =>
  intro H fa e v3 v4 v5 v6 h hk hrep hE
  obtain ⟨m, x4, x5, x6, f', e', h1, h2, h3, h4⟩ := r_pass (X := X) h hs' hA hsF hrep hE v4 v5 v6
  have st : mc_ev X 150 35 [.ref 90, .int (nI s), .int 1, v3, v4, v5, v6] [] H = mc_ev X 150 43 [.ref 90, .int (nI s), .int 0, .int 0, v4, v5, v6] [] H := by
    rw [h_150_35]
    simp only [e_150, Option.bind_some, Option.toList_some, Option.toList_none, List.cons_append, List.nil_append, List.append_nil, List.length_cons, List.length_nil, true_or, or_true, eq_self, b01_0, b01_1, b01_2, b01_3, b01_4, Nat.zero_le, Nat.reduceAdd, Nat.reduceLeDiff, ↓reduceIte, not_true_eq_false, not_false_eq_true, Bool.false_eq_true]
  rcases h4 with ⟨q0, q1, q2⟩ | ⟨q0, q1⟩
  · subst q0
    subst q1
    refine ⟨f', e', ?_, h2, h3, q2⟩
    rw [st, h1, h_150_35]
    simp only [e_150, Option.bind_some, Option.toList_some, Option.toList_none, List.cons_append, List.nil_append, List.append_nil, List.length_cons, List.length_nil, true_or, or_true, eq_self, b01_0, b01_1, b01_2, b01_3, b01_4, Nat.zero_le, Nat.reduceAdd, Nat.reduceLeDiff, ↓reduceIte, not_true_eq_false, not_false_eq_true, Bool.false_eq_true]
  · subst q0
    obtain ⟨f2, e2, g1, g2, g3, g4⟩ := ih _ (by omega) _ f' e' (.int (nI (nJ R C))) x4 x5 x6 (rm_s103 h f') rfl h2 h3
    rw [List.set_set] at g1
    exact ⟨f2, e2, (st.trans h1).trans g1, g2, g3, g4⟩
theorem jOK_fin (hs' : sh R C) {w : Nat → Nat} (hw : ∀ j, j < nJ R C → w j ≤ 4000) {s : Nat} (hsF : s < nF R C) (hE : eI R C w s e) (hj : ∀ j, j < nJ R C → jOK R C w e j) : ∀ f, f < nF R C → e f ≤ 28000 := by
  have hb := sh_b hs'
  have out : ∀ f, f < nF R C → e f < 2147483647 → e (nF R C - 1) < 2147483647 := by
    intro f
    induction f using Nat.strongRecOn with
    | ind f ih =>
    intro hf hfin
    by_cases c : f + 1 < nF R C
    · obtain ⟨c1, c2, c3⟩ := conn hs' c
      have hff := fs_b hs' c1
      have := (hj f c1).2
      rw [c2] at this
      have hb1 := eI_b hs' hE hf
      have hw1 := hw f c1
      have t := this hfin
      rcases c3 with c3 | c3
      · rw [show s1 R C f = nF R C - 1 by omega] at t
        omega
      · exact ih _ c3 hff.2.2.1 (by omega)
    · rw [show nF R C - 1 = f by omega]; exact hfin
  have h0 : e (nF R C - 1) < 2147483647 := out s hsF (by rw [hE.2.1]; decide)
  have inn : ∀ f, f < nF R C → e f < 2147483647 := by
    intro f
    induction f using Nat.strongRecOn with
    | ind f ih =>
    intro hf
    by_cases c : f + 1 < nF R C
    · obtain ⟨c1, c2, c3⟩ := conn hs' c
      have hff := fs_b hs' c1
      have := (hj f c1).1
      rw [c2] at this
      have hb1 := eI_b hs' hE hff.2.2.1
      have hw1 := hw f c1
      rcases c3 with c3 | c3
      · have e1 : s1 R C f = nF R C - 1 := by omega
        rw [e1] at this hb1
        have := this h0
        omega
      · have := this (ih _ c3 hff.2.2.1)
        have := ih _ c3 hff.2.2.1
        omega
    · rw [show f = nF R C - 1 by omega]; exact h0
  intro f hf
  have h1 := inn f hf
  rcases eI_b hs' hE hf with q | q
  · omega
  · exact q
theorem r_spreads (h : rm H su tr R C U tu tl ki go wa ol hs so sr rs ce cp fa pa) (hs' : sh R C) {w : Nat → Nat} (hA : ∀ j, j < nJ R C → am (ct R C wa ki j) = nI (w j) ∧ w j ≤ 4000) {d : Nat → Nat → Nat} (hd : dOK R C w d) {s : Nat} (hsF : s < nF R C) : ∃ f' : Nat → Int32, mc_ev X 150 0 [.ref 90, .int (nI s), .null, .null, .null, .null, .null] [] H = some (none, H.set 103 (.inl (0, 64, f'))) ∧ ∀ g, g < nF R C → f' g = nI (d s g) := by
  have hb := sh_b hs'
  have h0 : mc_ev X 150 0 [.ref 90, .int (nI s), .null, .null, .null, .null, .null] [] H = mc_ev X 150 2 [.ref 90, .int (nI s), .int 0, .null, .null, .null, .null] [] H := by
    simp only [e_150, Option.bind_some, Option.toList_some, Option.toList_none, List.cons_append, List.nil_append, List.append_nil, List.length_cons, List.length_nil, true_or, or_true, eq_self, b01_0, b01_1, b01_2, b01_3, b01_4, Nat.zero_le, Nat.reduceAdd, Nat.reduceLeDiff, ↓reduceIte, not_true_eq_false, not_false_eq_true, Bool.false_eq_true]
  obtain ⟨ls, G', ⟨hls, f1, hG', hr⟩, hev⟩ := ev_inv (X := X) (k := 150) (pc := 2) (fun n ls G' => ls = [.ref 90, .int (nI s), .int (nI n), .null, .null, .null, .null] ∧ ∃ f1 : Nat → Int32, G' = H.set 103 (.inl (0, 64, f1)) ∧ ∀ g, g < n → f1 g = nI (if g = s then 0 else 2147483647)) (nF R C) (by
    intro n hn ls G' ⟨hls, f1, hG', hr⟩
    subst hls
    subst hG'
    have k1 : nI n < nI (nF R C) := nI_lt hn (by omega)
    have z1 : (nI n = nI s) = (n = s) := propext (nI_eq (by omega) (by omega))
    have p1 := rm_s103 h f1
    have ww := fun z => rm_w103s h f1 (j := n) (by omega) z
    refine ⟨[.ref 90, .int (nI s), .int (nI (n + 1)), .null, .null, .null, .null], H.set 103 (.inl (0, 64, upd f1 n (nI (if n = s then 0 else 2147483647)))), ⟨rfl, _, rfl, ?_⟩, ?_⟩
    · intro g hg
      by_cases c : g = n
      · subst c; rw [pk_us]
      · rw [pk_un c]; exact hr g (by omega)
    · rw [h_150_2]
      by_cases c : n = s
      · simp only [e_150, rm_f p1, r_fields p1 hs', k1, z1, eq_true c, ww, nI_1, show nI 0 = (0 : Int32) from rfl, Option.bind_some, Option.toList_some, Option.toList_none, List.cons_append, List.nil_append, List.append_nil, List.length_cons, List.length_nil, true_or, or_true, eq_self, b01_0, b01_1, b01_2, b01_3, b01_4, Nat.zero_le, Nat.reduceAdd, Nat.reduceLeDiff, ↓reduceIte, not_true_eq_false, not_false_eq_true, Bool.false_eq_true]
      · simp only [e_150, rm_f p1, r_fields p1 hs', k1, z1, c, ww, nI_1, nImax, Option.bind_some, Option.toList_some, Option.toList_none, List.cons_append, List.nil_append, List.append_nil, List.length_cons, List.length_nil, true_or, or_true, eq_self, b01_0, b01_1, b01_2, b01_3, b01_4, Nat.zero_le, Nat.reduceAdd, Nat.reduceLeDiff, ↓reduceIte, not_true_eq_false, not_false_eq_true, Bool.false_eq_true]) [.ref 90, .int (nI s), .int 0, .null, .null, .null, .null] H ⟨rfl, fa, (set_same h.2.2.2.2.2.2.2.2.2.2.2.2.2.1).symm, fun g hg => absurd hg (by omega)⟩
  subst hls
  subst hG'
  have k2 : ¬ nI (nF R C) < nI (nF R C) := nI_nlt (Nat.le_refl _) (by omega)
  have p1 := rm_s103 h f1
  have h1 : mc_ev X 150 2 [.ref 90, .int (nI s), .int (nI (nF R C)), .null, .null, .null, .null] [] (H.set 103 (.inl (0, 64, f1))) = mc_ev X 150 35 [.ref 90, .int (nI s), .int 1, .null, .null, .null, .null] [] (H.set 103 (.inl (0, 64, f1))) := by
    rw [h_150_2]
    simp only [e_150, rm_f p1, r_fields p1 hs', k2, Option.bind_some, Option.toList_some, Option.toList_none, List.cons_append, List.nil_append, List.append_nil, List.length_cons, List.length_nil, true_or, or_true, eq_self, b01_0, b01_1, b01_2, b01_3, b01_4, Nat.zero_le, Nat.reduceAdd, Nat.reduceLeDiff, ↓reduceIte, not_true_eq_false, not_false_eq_true, Bool.false_eq_true]
  have hw : ∀ j, j < nJ R C → w j ≤ 4000 := fun j hj => (hA j hj).2
  have hE0 : eI R C w s (fun g => if g = s then 0 else 2147483647) := by
    refine ⟨fun g hg => ?_, if_pos rfl, fun P hP g hg => ?_⟩
    · dsimp only
      by_cases c : g = s
      · rw [if_pos c]; exact Or.inr (Nat.zero_le _)
      · rw [if_neg c]; exact Or.inl rfl
    · have := fea_b hs' hw hP hsF hg
      dsimp only
      by_cases c : g = s
      · subst c; omega
      · rw [if_neg c]; omega
  obtain ⟨f2, e2, g1, g2, g3, g4⟩ := r_rounds (X := X) hs' hA hsF _ _ f1 _ .null .null .null .null p1 rfl hr hE0
  rw [List.set_set] at g1
  refine ⟨f2, ((h0.trans hev).trans h1).trans g1, fun g hg => ?_⟩
  rw [g2 g hg]
  have fin := jOK_fin hs' hw hsF g3 g4
  have fe : fea R C w e2 := fun j hj => by
    have hfj := fs_b hs' hj
    have a1 := fin _ hfj.2.2.1
    have a2 := fin _ hfj.2.2.2
    exact ⟨(g4 j hj).1 (by omega), (g4 j hj).2 (by omega)⟩
  have b1 := hd.2.2 e2 fe s g hsF hg
  have b2 := g3.2.2 (d s) (hd.2.1 s hsF) g hg
  rw [g3.2.1] at b1
  rw [hd.1 s hsF] at b2
  congr 1
  omega
end REF
section ROWS
variable {L : Nat} {xs : Nat → Int32}
theorem inv_dd {G G1 G2 : mc_H} {R C rim : Nat} {fi se lo hi : Nat → Int32} {TB OB LB : Nat} {ks ws : Nat → Int32} {stale lw : Int32} {SZ HD HP : Nat} {sts : Nat → Int32} {nx sz : Nat} {kq : Nat → Option Nat} {hT hO hL : Nat → Nat} {hK hW : Nat → Nat → Int32} {sq : Nat → Option Nat} {sv rv : Nat → Int32} {le nu : Nat → Nat → Int32} {di ch : Nat → Int32} {tr : Int64} {su : Int32} {U : Nat} {tu tl ki go wa ol hs so sr rs ce cp fa pa : Nat → Int32} (hpl : pl G R C rim fi se lo hi TB OB LB ks ws) (hpv : pv R C rim fi se lo hi TB OB LB ks ws) (hld : ld G stale SZ HD HP lw sts) (hhs : hy G nx sz kq hT hO hL hK hW) (hsp : sp G sq sv rv le nu) (htp : tp G tr su) (hpr : pr G1 di ch) (hrm : rm G2 su tr R C U tu tl ki go wa ol hs so sr rs ce cp fa pa) (ag1 : ∀ k, k ≠ 75 → k ≠ 76 → G1[k]? = G[k]?) (ag2 : ∀ k, k < 90 → G2[k]? = G1[k]?) (hr1 : rel1 R C TB OB LB ks ws tu tl ki go wa) (hr2 : rel2 R C OB LB ks ws stale lw SZ HD HP sts) (hr3 : rel3 R C nx sz U hT hO hL hK hW ol) (hr4 : rel4 sv rv le nu hs so sr rs ce) : Inv G2 := by
  have ag : ∀ k, k < 90 → k ≠ 75 → k ≠ 76 → G2[k]? = G[k]? := fun k a b c => (ag2 k a).trans (ag1 k b c)
  exact inv_mk (pl_ag hpl (fun k a b => ag k (by omega) (by omega) (by omega))) hpv (ld_ag hld (fun k a b => ag k (by omega) (by omega) (by omega))) (hy_ag hhs (fun k a b => ag k (by omega) (by omega) (by omega))) (sp_ag hsp (fun k a b => ag k (by omega) (by omega) (by omega))) (tp_ag htp (ag 0 (by omega) (by omega) (by omega))) (pr_ag hpr (fun k a b => ag2 k (by omega))) hrm hr1 hr2 hr3 hr4
set_option maxHeartbeats 1000000 in
theorem R16 : lw_R16 L xs Inv := by
  intro a b G hG
  refine inv_elim hG ?_
  intro R C rim fi se lo hi TB OB LB ks ws stale lw SZ HD HP sts nx sz kq hT hO hL hK hW sq sv rv le nu di ch tr su U tu tl ki go wa ol hs so sr rs ce cp fa pa hpl hpv hld hhs hsp htp hpr hrm hr1 hr2 hr3 hr4
  have hb1 := sh_b hpv.1
  rcases ix_of a (N := nF R C) (by omega) with hb | ⟨f, hf, rfl⟩
  · refine rd hG (v := -1) ?_ ?_
    · simp only [e_77, tp_f htp, c_isNoField htp hpl, no_no hb, Option.bind_some, Option.toList_some, Option.toList_none, List.cons_append, List.nil_append, List.append_nil, List.length_cons, List.length_nil, true_or, or_true, eq_self, b01_0, b01_1, b01_2, b01_3, b01_4, Nat.zero_le, Nat.reduceAdd, Nat.reduceLeDiff, ↓reduceIte, not_true_eq_false, not_false_eq_true, Bool.false_eq_true]
    · simp only [e_151, rm_f hrm, rm_t hrm, r_fields hrm hpv.1, r_in, ix_no hb1.2.2.2.2.1 (by omega) hb, Option.bind_some, Option.toList_some, Option.toList_none, List.cons_append, List.nil_append, List.append_nil, List.length_cons, List.length_nil, true_or, or_true, eq_self, b01_0, b01_1, b01_2, b01_3, b01_4, Nat.zero_le, Nat.reduceAdd, Nat.reduceLeDiff, ↓reduceIte, not_true_eq_false, not_false_eq_true, Bool.false_eq_true]
  rcases ix_of b (N := nF R C) (by omega) with hb | ⟨g, hg, rfl⟩
  · refine rd hG (v := -1) ?_ ?_
    · simp only [e_77, tp_f htp, c_isNoField htp hpl, no_yes hf (N := nF R C) (by omega), no_no hb, Option.bind_some, Option.toList_some, Option.toList_none, List.cons_append, List.nil_append, List.append_nil, List.length_cons, List.length_nil, true_or, or_true, eq_self, b01_0, b01_1, b01_2, b01_3, b01_4, Nat.zero_le, Nat.reduceAdd, Nat.reduceLeDiff, ↓reduceIte, not_true_eq_false, not_false_eq_true, Bool.false_eq_true]
    · simp only [e_151, rm_f hrm, rm_t hrm, r_fields hrm hpv.1, r_in, ix_yes hf (N := nF R C) (by omega), ix_no hb1.2.2.2.2.1 (by omega) hb, Option.bind_some, Option.toList_some, Option.toList_none, List.cons_append, List.nil_append, List.append_nil, List.length_cons, List.length_nil, true_or, or_true, eq_self, b01_0, b01_1, b01_2, b01_3, b01_4, Nat.zero_le, Nat.reduceAdd, Nat.reduceLeDiff, ↓reduceIte, not_true_eq_false, not_false_eq_true, Bool.false_eq_true]
  obtain ⟨di', d, m1, m2, m3⟩ := c_measure (L := L) (xs := xs) hpl hpv hpr
  have p1 := pr_s5 hpr di'
  have t1 := tp_ag htp (G' := G.set 75 (.inl (0, 49, di'))) (gs_ne (by decide))
  have rA := rm_ag hrm (G' := G.set 75 (.inl (0, 49, di'))) (fun k a b => gs_ne (by omega))
  have hA : ∀ j, j < nJ R C → am (ct R C wa ki j) = nI (wN R C ws ks j) ∧ wN R C ws ks j ≤ 4000 := fun j hj => by
    rw [ct_cg (wa := wa) (ki := ki) (ws := ws) (ks := ks) hpv.1 (fun i hi => (hr1.1 i hi).2.2.2) hr1.2 hj]
    exact am_w hpv hj
  obtain ⟨f', s1, s2⟩ := r_spreads (X := mc_X0 L xs) rA hpv.1 hA m3 hf
  have rB := rm_s103 rA f'
  have ag := (rm_a (X := mc_X0 L xs) rB).2.2.2.2.2.2.2.2.2.2.2.2.1 g (by omega)
  rw [s2 g hg] at ag
  refine ⟨nI (d f g), _, _, ?_, (rm_f rA).1, ?_, inv_dd hpl hpv hld hhs hsp htp p1 rB (fun k a b => gs_ne (by omega)) (fun k a => gs_ne (by omega)) hr1 hr2 hr3 hr4⟩
  · simp only [e_77, tp_f htp, c_isNoField htp hpl, no_yes hf (N := nF R C) (by omega), no_yes hg (N := nF R C) (by omega), pr_f (X := mc_X0 L xs) hpr, m1, tp_f t1, pr_f (X := mc_X0 L xs) p1, c_between p1 m2 (f := f) (g := g) (by omega) (by omega), Option.bind_some, Option.toList_some, Option.toList_none, List.cons_append, List.nil_append, List.append_nil, List.length_cons, List.length_nil, true_or, or_true, eq_self, b01_0, b01_1, b01_2, b01_3, b01_4, Nat.zero_le, Nat.reduceAdd, Nat.reduceLeDiff, ↓reduceIte, not_true_eq_false, not_false_eq_true, Bool.false_eq_true]
  · simp only [e_151, rm_f rA, rm_t rA, r_fields rA hpv.1, r_in, ix_yes hf (N := nF R C) (by omega), ix_yes hg (N := nF R C) (by omega), s1, rm_f rB, ag, Option.bind_some, Option.toList_some, Option.toList_none, List.cons_append, List.nil_append, List.append_nil, List.length_cons, List.length_nil, true_or, or_true, eq_self, b01_0, b01_1, b01_2, b01_3, b01_4, Nat.zero_le, Nat.reduceAdd, Nat.reduceLeDiff, ↓reduceIte, not_true_eq_false, not_false_eq_true, Bool.false_eq_true]
end ROWS
