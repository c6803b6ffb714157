/-! how far fields are apart -/
def wN (R C : Nat) (ws ks : Nat → Int32) (j : Nat) : Nat := (am (ct R C ws ks j)).toInt.toNat
theorem am_w {R C TB OB LB rim : Nat} {ks ws fi se lo hi : Nat → Int32} (hp : pv R C rim fi se lo hi TB OB LB ks ws) {j : Nat} (hj : j < nJ R C) : am (ct R C ws ks j) = nI (wN R C ws ks j) ∧ wN R C ws ks j ≤ 4000 := by
  have hb := sh_b hp.1
  have hw := hp.2.2.2.2.2.2.1 j (by omega)
  have hc := ct_b (R := R) (C := C) (ws := ws) (ks := ks) (j := j) hw.1 hw.2
  have ha : 0 ≤ (am (ct R C ws ks j)).toInt ∧ (am (ct R C ws ks j)).toInt ≤ 4000 := by
    unfold am
    by_cases c : 0 ≤ ct R C ws ks j
    · rw [if_pos c]
      have : 0 ≤ (ct R C ws ks j).toInt := Int32.le_iff_toInt_le.mp c
      omega
    · rw [if_neg c]
      have h1 : (ct R C ws ks j).toInt < 0 := Int32.lt_iff_toInt_lt.mp (Int32.not_le.mp c)
      have e : (0 - ct R C ws ks j).toInt = (0 : Int32).toInt - (ct R C ws ks j).toInt := sub_sm (by rw [show (0 : Int32).toInt = 0 from rfl]; omega) (by rw [show (0 : Int32).toInt = 0 from rfl]; omega)
      rw [e, show (0 : Int32).toInt = 0 from rfl]
      omega
  unfold wN
  constructor
  · apply Int32.toInt_inj.mp
    rw [nI_toInt (by omega)]
    omega
  · omega
/-- a height of the fields that no joint breaks -/
def fea (R C : Nat) (w P : Nat → Nat) : Prop := ∀ j, j < nJ R C → P (s2 R C j) ≤ P (s1 R C j) + w j ∧ P (s1 R C j) ≤ P (s2 R C j) + w j
theorem conn {R C : Nat} (hs : sh R C) {f : Nat} (hf : f + 1 < nF R C) : f < nJ R C ∧ s2 R C f = f ∧ (s1 R C f + 1 = nF R C ∨ s1 R C f < f) := by
  have := sh_all (p := fun R C => (List.range (nF R C - 1)).all fun f => decide (f < nJ R C ∧ s2 R C f = f ∧ (s1 R C f + 1 = nF R C ∨ s1 R C f < f))) (by decide +kernel) hs
  exact of_decide_eq_true (List.all_eq_true.mp this f (List.mem_range.mpr (by omega)))
theorem fea_b1 {R C : Nat} {w P : Nat → Nat} (hs : sh R C) (hw : ∀ j, j < nJ R C → w j ≤ 4000) (h : fea R C w P) : ∀ f, f < nF R C → P f ≤ P (nF R C - 1) + 4000 * (f + 1) ∧ P (nF R C - 1) ≤ P f + 4000 * (f + 1) := by
  intro f
  induction f using Nat.strongRecOn with
  | ind f ih =>
  intro hf
  by_cases c : f + 1 < nF R C
  · obtain ⟨c1, c2, c3⟩ := conn hs c
    have hj := h f c1
    have hwj := hw f c1
    rw [c2] at hj
    rcases c3 with c3 | c3
    · rw [show s1 R C f = nF R C - 1 by omega] at hj
      omega
    · have := ih _ c3 (by omega)
      omega
  · have e : f = nF R C - 1 := by omega
    rw [← e]
    omega
theorem fea_b {R C : Nat} {w P : Nat → Nat} (hs : sh R C) (hw : ∀ j, j < nJ R C → w j ≤ 4000) (h : fea R C w P) {f g : Nat} (hf : f < nF R C) (hg : g < nF R C) : P g ≤ P f + 60000 := by
  have hb := sh_b hs
  have h1 := fea_b1 hs hw h f hf
  have h2 := fea_b1 hs hw h g hg
  omega
/-- what the table of distances holds -/
def rp (di : Nat → Int32) (d : Nat → Nat → Nat) : Prop := ∀ f g, f < 7 → g < 7 → di (f * 7 + g) = nI (d f g) ∧ d f g ≤ 10000000
def us (d : Nat → Nat → Nat) (f g v : Nat) : Nat → Nat → Nat := fun a b => if (a = f ∧ b = g) ∨ (a = g ∧ b = f) then v else d a b
theorem rp_cg {di : Nat → Int32} {d d' : Nat → Nat → Nat} (h : rp di d) (he : ∀ a b, a < 7 → b < 7 → d a b = d' a b) : rp di d' := by
  intro f g hf hg
  rw [← he f g hf hg]
  exact h f g hf hg
def dOK (R C : Nat) (w : Nat → Nat) (d : Nat → Nat → Nat) : Prop := (∀ a, a < nF R C → d a a = 0) ∧ (∀ f, f < nF R C → fea R C w (d f)) ∧ ∀ P, fea R C w P → ∀ a b, a < nF R C → b < nF R C → P b ≤ P a + d a b
theorem cc7 (u : Nat) : nI u * 7 = nI (u * 7) := pk_mul u 7
section PR
variable {X : mc_X} {G : mc_H} {di ch : Nat → Int32} {d : Nat → Nat → Nat}
theorem pr_f (h : pr G di ch) : mc_cls G 74 = some 3 ∧ mc_getf G 74 3 0 = some (.ref 75) ∧ mc_getf G 74 3 1 = some (.ref 76) ∧ (∀ j, j < 49 → mc_getA X G 0 (.ref 75) (nI j) = some (di j)) ∧ (∀ j, j < 128 → mc_getA X G 0 (.ref 76) (nI j) = some (ch j)) := ⟨cl_n h.1, gf_n h.1 0, gf_n h.1 1, ga_n h.2.1 (by decide), ga_n h.2.2 (by decide)⟩
theorem pr_s5 (h : pr G di ch) (f : Nat → Int32) : pr (G.set 75 (.inl (0, 49, f))) f ch := ⟨(gs_ne (by decide)).trans h.1, gs_self h.2.1, (gs_ne (by decide)).trans h.2.2⟩
theorem c_between (h : pr G di ch) (hd : rp di d) {f g : Nat} (hf : f < 7) (hg : g < 7) : mc_ev X 19 0 [.ref 74, .int (nI f), .int (nI g)] [] G = some (some (.int (nI (d f g))), G) := by
  have hx : f * 7 + g < 49 := by omega
  simp only [e_19, pr_f (X := X) h, cc7, nI_add, hx, (hd f g hf hg).1, Option.bind_some, Option.toList_some, Option.toList_none, List.cons_append, List.nil_append, List.append_nil, List.length_cons, List.length_nil, true_or, or_true, eq_self, b01_0, b01_1, b01_2, b01_3, b01_4, Nat.zero_le, Nat.reduceAdd, Nat.reduceLeDiff, ↓reduceIte, not_true_eq_false, not_false_eq_true, Bool.false_eq_true]
theorem c_shorten (h : pr G di ch) (hd : rp di d) {f g w : Nat} (hf : f < 7) (hg : g < 7) (hw : w ≤ 20000000) : ∃ di' : Nat → Int32, mc_ev X 22 0 [.ref 74, .int (nI f), .int (nI g), .int (nI w), .null] [] G = some (none, G.set 75 (.inl (0, 49, di'))) ∧ rp di' (us d f g (min (d f g) w)) := by
  have hb := (hd f g hf hg).2
  have mn : (if nI w < nI (d f g) then nI w else nI (d f g)) = nI (min (d f g) w) := by rw [mn_n (by omega) (by omega), Nat.min_comm]
  have w1 := sa_n h.2.1 (by decide) (f * 7 + g) (nI (min (d f g) w)) (by omega)
  have h1 := pr_s5 h (upd di (f * 7 + g) (nI (min (d f g) w)))
  have w2 := sa_n h1.2.1 (by decide) (g * 7 + f) (nI (min (d f g) w)) (by omega)
  rw [List.set_set] at w2
  refine ⟨upd (upd di (f * 7 + g) (nI (min (d f g) w))) (g * 7 + f) (nI (min (d f g) w)), ?_, ?_⟩
  · simp only [e_22, pr_f (X := X) h, c_between h hd hf hg, mn, cc7, nI_add, w1, pr_f (X := X) h1, w2, Option.bind_some, Option.toList_some, Option.toList_none, List.cons_append, List.nil_append, List.append_nil, List.length_cons, List.length_nil, true_or, or_true, eq_self, b01_0, b01_1, b01_2, b01_3, b01_4, Nat.zero_le, Nat.reduceAdd, Nat.reduceLeDiff, ↓reduceIte, not_true_eq_false, not_false_eq_true, Bool.false_eq_true]
  · intro a b ha hb2
    unfold us
    by_cases c1 : a = g ∧ b = f
    · rw [if_pos (Or.inr c1), c1.1, c1.2, pk_us]
      exact ⟨rfl, by omega⟩
    · rw [pk_un (show a * 7 + b ≠ g * 7 + f by omega)]
      by_cases c2 : a = f ∧ b = g
      · rw [if_pos (Or.inl c2), c2.1, c2.2, pk_us]
        exact ⟨rfl, by omega⟩
      · rw [pk_un (show a * 7 + b ≠ f * 7 + g by omega), if_neg (by rintro (q | q); exact c2 q; exact c1 q)]
        exact hd a b ha hb2
/-- the table in the midst of a round over field k -/
def eR (d : Nat → Nat → Nat) (k f g : Nat) : Nat → Nat → Nat := fun a b => if a ≠ b ∧ (max a b < f ∨ (max a b = f ∧ min a b < g)) then min (d a b) (d a k + d k b) else d a b
theorem eR_k {k f g a : Nat} (hk : d k k = 0) : eR d k f g a k = d a k ∧ eR d k f g k a = d k a := by
  unfold eR
  constructor
  · split
    · rw [hk]; omega
    · rfl
  · split
    · rw [hk]; omega
    · rfl
theorem c_shortenBy (h : pr G di ch) (hd : rp di d) {k n : Nat} (hn : n ≤ 7) (hk : k < n) (h0 : d k k = 0) (hs : ∀ a b, a < n → b < n → d a b = d b a) : ∃ di' : Nat → Int32, mc_ev X 21 0 [.ref 74, .int (nI k), .int (nI n), .null, .null] [] G = some (none, G.set 75 (.inl (0, 49, di'))) ∧ rp di' (eR d k n 0) := by
  have hst : mc_ev X 21 0 [.ref 74, .int (nI k), .int (nI n), .null, .null] [] G = mc_ev X 21 2 [.ref 74, .int (nI k), .int (nI n), .int 0, .null] [] G := by
    simp only [e_21, Option.bind_some, Option.toList_some, Option.toList_none, List.cons_append, List.nil_append, List.append_nil, List.length_cons, List.length_nil, true_or, or_true, eq_self, b01_0, b01_1, b01_2, b01_3, b01_4, Nat.zero_le, Nat.reduceAdd, Nat.reduceLeDiff, ↓reduceIte, not_true_eq_false, not_false_eq_true, Bool.false_eq_true]
  have inner : ∀ f, f < n → ∀ di1 : Nat → Int32, rp di1 (eR d k f 0) → ∃ di2 : Nat → Int32, mc_ev X 21 10 [.ref 74, .int (nI k), .int (nI n), .int (nI f), .int 0] [] (G.set 75 (.inl (0, 49, di1))) = mc_ev X 21 10 [.ref 74, .int (nI k), .int (nI n), .int (nI f), .int (nI f)] [] (G.set 75 (.inl (0, 49, di2))) ∧ rp di2 (eR d k f f) := by
    intro f hf di1 hd1
    obtain ⟨ls, G', ⟨hls, di2, hG', hd2⟩, hev⟩ := ev_inv (X := X) (k := 21) (pc := 10) (fun g ls G' => ls = [.ref 74, .int (nI k), .int (nI n), .int (nI f), .int (nI g)] ∧ ∃ di2 : Nat → Int32, G' = G.set 75 (.inl (0, 49, di2)) ∧ rp di2 (eR d k f g)) f (by
      intro g hg ls G' ⟨hls, di2, hG', hd2⟩
      subst hls
      subst hG'
      have k1 : nI g < nI f := nI_lt hg (by omega)
      have p2 := pr_s5 h di2
      have b1 := c_between (X := X) p2 hd2 (f := f) (g := k) (by omega) (by omega)
      have b2 := c_between (X := X) p2 hd2 (f := k) (g := g) (by omega) (by omega)
      rw [(eR_k h0).1] at b1
      rw [(eR_k h0).2] at b2
      have m1 := (hd f k (by omega) (by omega)).2
      have m2 := (hd k g (by omega) (by omega)).2
      obtain ⟨di3, s1, s2⟩ := c_shorten (X := X) p2 hd2 (f := f) (g := g) (w := d f k + d k g) (by omega) (by omega) (by omega)
      rw [List.set_set] at s1
      refine ⟨[.ref 74, .int (nI k), .int (nI n), .int (nI f), .int (nI (g + 1))], _, ⟨rfl, di3, rfl, rp_cg s2 ?_⟩, ?_⟩
      · intro a b ha hb
        have e0 : eR d k f g f g = d f g := by unfold eR; rw [if_neg (by omega)]
        unfold us
        rw [e0]
        by_cases c1 : a = f ∧ b = g
        · rw [if_pos (Or.inl c1), c1.1, c1.2]
          unfold eR
          rw [if_pos (by omega)]
        · by_cases c2 : a = g ∧ b = f
          · rw [if_pos (Or.inr c2), c2.1, c2.2]
            unfold eR
            rw [if_pos (by omega), hs g f (by omega) (by omega), hs g k (by omega) (by omega), hs k f (by omega) (by omega), Nat.add_comm (d k g)]
          · rw [if_neg (by omega)]
            unfold eR
            by_cases c3 : a ≠ b ∧ (max a b < f ∨ (max a b = f ∧ min a b < g))
            · rw [if_pos c3, if_pos (by omega)]
            · rw [if_neg c3, if_neg (by omega)]
      · rw [h_21_10]
        simp only [e_21, k1, pr_f (X := X) p2, b1, b2, nI_add, s1, nI_1, Option.bind_some, Option.toList_some, Option.toList_none, List.cons_append, List.nil_append, List.append_nil, List.length_cons, List.length_nil, true_or, or_true, eq_self, b01_0, b01_1, b01_2, b01_3, b01_4, Nat.zero_le, Nat.reduceAdd, Nat.reduceLeDiff, ↓reduceIte, not_true_eq_false, not_false_eq_true, Bool.false_eq_true]) [.ref 74, .int (nI k), .int (nI n), .int (nI f), .int 0] (G.set 75 (.inl (0, 49, di1))) ⟨rfl, di1, rfl, hd1⟩
    subst hls
    subst hG'
    exact ⟨di2, hev, hd2⟩
  obtain ⟨ls, G', ⟨⟨v, hls⟩, di2, hG', hd2⟩, hev⟩ := ev_inv (X := X) (k := 21) (pc := 2) (fun f ls G' => (∃ v, ls = [.ref 74, .int (nI k), .int (nI n), .int (nI f), v]) ∧ ∃ di2 : Nat → Int32, G' = G.set 75 (.inl (0, 49, di2)) ∧ rp di2 (eR d k f 0)) n (by
    intro f hf ls G' ⟨⟨v, hls⟩, di1, hG', hd1⟩
    subst hls
    subst hG'
    have k1 : nI f < nI n := nI_lt hf (by omega)
    have k2 : ¬ nI f < nI f := nI_nlt (Nat.le_refl _) (by omega)
    obtain ⟨di2, i1, i2⟩ := inner f hf di1 hd1
    refine ⟨[.ref 74, .int (nI k), .int (nI n), .int (nI (f + 1)), .int (nI f)], _, ⟨⟨_, rfl⟩, di2, rfl, rp_cg i2 ?_⟩, ?_⟩
    · intro a b ha hb
      unfold eR
      by_cases c3 : a ≠ b ∧ (max a b < f ∨ (max a b = f ∧ min a b < f))
      · rw [if_pos c3, if_pos (by omega)]
      · rw [if_neg c3, if_neg (by omega)]
    · rw [h_21_2]
      simp only [e_21, k1, Option.bind_some, Option.toList_some, Option.toList_none, List.cons_append, List.nil_append, List.append_nil, List.length_cons, List.length_nil, true_or, or_true, eq_self, b01_0, b01_1, b01_2, b01_3, b01_4, Nat.zero_le, Nat.reduceAdd, Nat.reduceLeDiff, ↓reduceIte, not_true_eq_false, not_false_eq_true, Bool.false_eq_true]
      rw [i1, h_21_10]
      simp only [e_21, k2, nI_1, Option.bind_some, Option.toList_some, Option.toList_none, List.cons_append, List.nil_append, List.append_nil, List.length_cons, List.length_nil, true_or, or_true, eq_self, b01_0, b01_1, b01_2, b01_3, b01_4, Nat.zero_le, Nat.reduceAdd, Nat.reduceLeDiff, ↓reduceIte, not_true_eq_false, not_false_eq_true, Bool.false_eq_true]) [.ref 74, .int (nI k), .int (nI n), .int 0, .null] G ⟨⟨_, rfl⟩, di, (set_same h.2.1).symm, rp_cg hd (fun a b ha hb => by unfold eR; rw [if_neg (by omega)])⟩
  subst hls
  subst hG'
  have k2 : ¬ nI n < nI n := nI_nlt (Nat.le_refl _) (by omega)
  refine ⟨di2, ?_, hd2⟩
  rw [hst, hev, h_21_2]
  simp only [e_21, k2, Option.bind_some, Option.toList_some, Option.toList_none, List.cons_append, List.nil_append, List.append_nil, List.length_cons, List.length_nil, true_or, or_true, eq_self, b01_0, b01_1, b01_2, b01_3, b01_4, Nat.zero_le, Nat.reduceAdd, Nat.reduceLeDiff, ↓reduceIte, not_true_eq_false, not_false_eq_true, Bool.false_eq_true]
end PR
/-- the same both ways, no height breaks it, from a field to itself 0 -/
def dQ (R C : Nat) (w : Nat → Nat) (d : Nat → Nat → Nat) : Prop := (∀ a b, a < nF R C → b < nF R C → d a b = d b a) ∧ ∀ P, fea R C w P → ∀ a b, a < nF R C → b < nF R C → P b ≤ P a + d a b
theorem dQ_us {R C : Nat} {w : Nat → Nat} {d : Nat → Nat → Nat} (h : dQ R C w d) {f g v : Nat} (hv : ∀ P, fea R C w P → P g ≤ P f + v ∧ P f ≤ P g + v) (hf : f < nF R C) (hg : g < nF R C) : dQ R C w (us d f g (min (d f g) v)) := by
  refine ⟨fun a b ha hb => ?_, fun P hP a b ha hb => ?_⟩
  · unfold us
    by_cases c : (a = f ∧ b = g) ∨ (a = g ∧ b = f)
    · rw [if_pos c, if_pos (by omega)]
    · rw [if_neg c, if_neg (by omega)]; exact h.1 a b ha hb
  · unfold us
    have hv' := hv P hP
    have h1 := h.2 P hP f g hf hg
    have h2 := h.2 P hP g f hg hf
    rw [h.1 g f hg hf] at h2
    by_cases c : (a = f ∧ b = g) ∨ (a = g ∧ b = f)
    · rw [if_pos c]
      rcases c with ⟨rfl, rfl⟩ | ⟨rfl, rfl⟩ <;> omega
    · rw [if_neg c]; exact h.2 P hP a b ha hb
theorem eR_all {d : Nat → Nat → Nat} {k n a b : Nat} (h0 : ∀ a, a < n → d a a = 0) (ha : a < n) (hb : b < n) : eR d k n 0 a b = min (d a b) (d a k + d k b) := by
  unfold eR
  by_cases c : a = b
  · subst c
    rw [if_neg (by omega), h0 a ha]
    omega
  · rw [if_pos (by omega)]
section MEAS
variable {L : Nat} {xs : Nat → Int32} {G : mc_H} {di ch : Nat → Int32} {R C rim TB OB LB : Nat} {fi se lo hi ks ws : Nat → Int32}
set_option maxHeartbeats 1000000 in
theorem c_measure (h : pl G R C rim fi se lo hi TB OB LB ks ws) (hp : pv R C rim fi se lo hi TB OB LB ks ws) (hr : pr G di ch) : ∃ (di' : Nat → Int32) (d : Nat → Nat → Nat), mc_ev (mc_X0 L xs) 20 0 [.ref 74, .ref 1, .null] [] G = some (none, G.set 75 (.inl (0, 49, di'))) ∧ rp di' d ∧ dOK R C (wN R C ws ks) d := by
  have hb := sh_b hp.1
  have hw : ∀ j, j < nJ R C → wN R C ws ks j ≤ 4000 := fun j hj => (am_w hp hj).2
  have plx : ∀ f, pl (G.set 75 (.inl (0, 49, f))) R C rim fi se lo hi TB OB LB ks ws := fun f => pl_ag h (fun k a b => gs_ne (by omega))
  have fl0 := j_fill (X := mc_X0 L xs) hr.2.1 (by decide) 10000000
  have h0 : mc_ev (mc_X0 L xs) 20 0 [.ref 74, .ref 1, .null] [] G = mc_ev (mc_X0 L xs) 20 11 [.ref 74, .ref 1, .int 0] [] (G.set 75 (.inl (0, 49, fun j => if j < 49 then 10000000 else di j))) := by
    simp only [e_20, pr_f (X := mc_X0 L xs) hr, fl0, Option.bind_some, Option.toList_some, Option.toList_none, List.cons_append, List.nil_append, List.append_nil, List.length_cons, List.length_nil, true_or, or_true, eq_self, b01_0, b01_1, b01_2, b01_3, b01_4, Nat.zero_le, Nat.reduceAdd, Nat.reduceLeDiff, ↓reduceIte, not_true_eq_false, not_false_eq_true, Bool.false_eq_true]
  have q0 : dQ R C (wN R C ws ks) (fun _ _ => 10000000) := ⟨fun _ _ _ _ => rfl, fun P hP a b ha hb => by have := fea_b hp.1 hw hP ha hb; show P b ≤ P a + 10000000; omega⟩
  obtain ⟨ls, G1, ⟨hls, di1, d1, hG1, r1, q1, z1⟩, ev1⟩ := ev_inv (X := mc_X0 L xs) (k := 20) (pc := 11) (fun n ls G' => ls = [.ref 74, .ref 1, .int (nI n)] ∧ ∃ (di' : Nat → Int32) (d : Nat → Nat → Nat), G' = G.set 75 (.inl (0, 49, di')) ∧ rp di' d ∧ dQ R C (wN R C ws ks) d ∧ ∀ a, a < n → d a a = 0) (nF R C) (by
    intro n hn ls G' ⟨hls, di1, d1, hG1, r1, q1, z1⟩
    subst hls
    subst hG1
    have k1 : nI n < nI (nF R C) := nI_lt hn (by omega)
    have p1 := pr_s5 hr di1
    obtain ⟨di2, s1, s2⟩ := c_shorten (X := mc_X0 L xs) p1 r1 (f := n) (g := n) (w := 0) (by omega) (by omega) (by omega)
    rw [List.set_set] at s1
    refine ⟨[.ref 74, .ref 1, .int (nI (n + 1))], _, ⟨rfl, di2, _, rfl, s2, dQ_us q1 (fun P _ => ⟨by omega, by omega⟩) hn hn, fun a ha => ?_⟩, ?_⟩
    · unfold us
      by_cases c : a = n
      · rw [if_pos (by omega)]; omega
      · rw [if_neg (by omega)]; exact z1 a (by omega)
    · rw [h_20_11]
      have s1' : mc_ev (mc_X0 L xs) 22 0 [.ref 74, .int (nI n), .int (nI n), .int 0, .null] [] (G.set 75 (.inl (0, 49, di1))) = _ := s1
      simp only [e_20, k1, pl_f (plx di1), pr_f (X := mc_X0 L xs) p1, s1', nI_1, Option.bind_some, Option.toList_some, Option.toList_none, List.cons_append, List.nil_append, List.append_nil, List.length_cons, List.length_nil, true_or, or_true, eq_self, b01_0, b01_1, b01_2, b01_3, b01_4, Nat.zero_le, Nat.reduceAdd, Nat.reduceLeDiff, ↓reduceIte, not_true_eq_false, not_false_eq_true, Bool.false_eq_true]) [.ref 74, .ref 1, .int 0] (G.set 75 (.inl (0, 49, fun j => if j < 49 then 10000000 else di j))) ⟨rfl, _, fun _ _ => 10000000, rfl, fun f g hf hg => ⟨if_pos (by omega), Nat.le_refl _⟩, q0, fun a ha => absurd ha (by omega)⟩
  subst hls
  subst hG1
  have k2 : ¬ nI (nF R C) < nI (nF R C) := nI_nlt (Nat.le_refl _) (by omega)
  have h1 : mc_ev (mc_X0 L xs) 20 11 [.ref 74, .ref 1, .int (nI (nF R C))] [] (G.set 75 (.inl (0, 49, di1))) = mc_ev (mc_X0 L xs) 20 37 [.ref 74, .ref 1, .int 0] [] (G.set 75 (.inl (0, 49, di1))) := by
    rw [h_20_11]
    simp only [e_20, pl_f (plx di1), k2, Option.bind_some, Option.toList_some, Option.toList_none, List.cons_append, List.nil_append, List.append_nil, List.length_cons, List.length_nil, true_or, or_true, eq_self, b01_0, b01_1, b01_2, b01_3, b01_4, Nat.zero_le, Nat.reduceAdd, Nat.reduceLeDiff, ↓reduceIte, not_true_eq_false, not_false_eq_true, Bool.false_eq_true]
  obtain ⟨ls, G2, ⟨hls, di2, d2, hG2, r2, q2, z2, y2⟩, ev2⟩ := ev_inv (X := mc_X0 L xs) (k := 20) (pc := 37) (fun n ls G' => ls = [.ref 74, .ref 1, .int (nI n)] ∧ ∃ (di' : Nat → Int32) (d : Nat → Nat → Nat), G' = G.set 75 (.inl (0, 49, di')) ∧ rp di' d ∧ dQ R C (wN R C ws ks) d ∧ (∀ a, a < nF R C → d a a = 0) ∧ ∀ j, j < n → d (s1 R C j) (s2 R C j) ≤ wN R C ws ks j) (nJ R C) (by
    intro n hn ls G' ⟨hls, di2, d2, hG2, r2, q2, z2, y2⟩
    subst hls
    subst hG2
    have k1 : nI n < nI (nJ R C) := nI_lt hn (by omega)
    have h17 : n < 17 := by omega
    have hf := fs_b hp.1 hn
    obtain ⟨-, -, hg3, hg4⟩ := hp.2.2.2.2.1 n hn
    obtain ⟨a1, a2⟩ := am_w hp hn
    have p1 := pr_s5 hr di2
    have ca := c_amountOf (L := L) (xs := xs) (plx di2) hp hn
    have ca' : mc_ev (mc_X0 L xs) 35 0 [.ref 1, .int (nI n)] [] (G.set 75 (.inl (0, 49, di2))) = some (some (.int (nI (wN R C ws ks n))), G.set 75 (.inl (0, 49, di2))) := by rw [← a1]; exact ca
    obtain ⟨di3, t1, t2⟩ := c_shorten (X := mc_X0 L xs) p1 r2 (f := min (s1 R C n) (s2 R C n)) (g := max (s1 R C n) (s2 R C n)) (w := wN R C ws ks n) (by omega) (by omega) (by omega)
    rw [List.set_set] at t1
    have hmm : (min (s1 R C n) (s2 R C n) = s1 R C n ∧ max (s1 R C n) (s2 R C n) = s2 R C n) ∨ (min (s1 R C n) (s2 R C n) = s2 R C n ∧ max (s1 R C n) (s2 R C n) = s1 R C n) := by omega
    refine ⟨[.ref 74, .ref 1, .int (nI (n + 1))], _, ⟨rfl, di3, _, rfl, t2, dQ_us q2 (fun P hP => ?_) (by omega) (by omega), fun a ha => ?_, fun j hj => ?_⟩, ?_⟩
    · have := hP n hn
      rcases hmm with ⟨e1, e2⟩ | ⟨e1, e2⟩ <;> rw [e1, e2] <;> omega
    · unfold us
      by_cases c : (a = min (s1 R C n) (s2 R C n) ∧ a = max (s1 R C n) (s2 R C n)) ∨ (a = max (s1 R C n) (s2 R C n) ∧ a = min (s1 R C n) (s2 R C n))
      · rw [if_pos c]
        have e1 : min (s1 R C n) (s2 R C n) = a := by omega
        have e2 : max (s1 R C n) (s2 R C n) = a := by omega
        rw [e1, e2, z2 a ha]
        omega
      · rw [if_neg c]; exact z2 a ha
    · unfold us
      have hfj := fs_b hp.1 (j := j) (by omega)
      by_cases c : j = n
      · subst c
        rw [if_pos (by omega)]
        omega
      · have hy := y2 j (by omega)
        by_cases c2 : (s1 R C j = min (s1 R C n) (s2 R C n) ∧ s2 R C j = max (s1 R C n) (s2 R C n)) ∨ (s1 R C j = max (s1 R C n) (s2 R C n) ∧ s2 R C j = min (s1 R C n) (s2 R C n))
        · rw [if_pos c2]
          rcases c2 with ⟨e1, e2⟩ | ⟨e1, e2⟩
          · rw [← e1, ← e2]; omega
          · rw [← e1, ← e2, q2.1 _ _ hfj.2.2.2 hfj.2.2.1]; omega
        · rw [if_neg c2]; exact hy
    · rw [h_20_37]
      simp only [e_20, k1, pl_f (plx di2), pl_g (plx di2), h17, hg3, hg4, ca', pr_f (X := mc_X0 L xs) p1, t1, nI_1, Option.bind_some, Option.toList_some, Option.toList_none, List.cons_append, List.nil_append, List.append_nil, List.length_cons, List.length_nil, true_or, or_true, eq_self, b01_0, b01_1, b01_2, b01_3, b01_4, Nat.zero_le, Nat.reduceAdd, Nat.reduceLeDiff, ↓reduceIte, not_true_eq_false, not_false_eq_true, Bool.false_eq_true]) [.ref 74, .ref 1, .int 0] (G.set 75 (.inl (0, 49, di1))) ⟨rfl, di1, d1, rfl, r1, q1, z1, fun j hj => absurd hj (by omega)⟩
  subst hls
  subst hG2
  have k3 : ¬ nI (nJ R C) < nI (nJ R C) := nI_nlt (Nat.le_refl _) (by omega)
  have h2 : mc_ev (mc_X0 L xs) 20 37 [.ref 74, .ref 1, .int (nI (nJ R C))] [] (G.set 75 (.inl (0, 49, di2))) = mc_ev (mc_X0 L xs) 20 83 [.ref 74, .ref 1, .int 0] [] (G.set 75 (.inl (0, 49, di2))) := by
    rw [h_20_37]
    simp only [e_20, pl_f (plx di2), k3, Option.bind_some, Option.toList_some, Option.toList_none, List.cons_append, List.nil_append, List.append_nil, List.length_cons, List.length_nil, true_or, or_true, eq_self, b01_0, b01_1, b01_2, b01_3, b01_4, Nat.zero_le, Nat.reduceAdd, Nat.reduceLeDiff, ↓reduceIte, not_true_eq_false, not_false_eq_true, Bool.false_eq_true]
  obtain ⟨ls, G3, ⟨hls, di3, d3, hG3, r3, q3, z3, y3, x3⟩, ev3⟩ := ev_inv (X := mc_X0 L xs) (k := 20) (pc := 83) (fun n ls G' => ls = [.ref 74, .ref 1, .int (nI n)] ∧ ∃ (di' : Nat → Int32) (d : Nat → Nat → Nat), G' = G.set 75 (.inl (0, 49, di')) ∧ rp di' d ∧ dQ R C (wN R C ws ks) d ∧ (∀ a, a < nF R C → d a a = 0) ∧ (∀ j, j < nJ R C → d (s1 R C j) (s2 R C j) ≤ wN R C ws ks j) ∧ ∀ o, o < n → ∀ a b, a < nF R C → b < nF R C → d a b ≤ d a o + d o b) (nF R C) (by
    intro n hn ls G' ⟨hls, di2, d2, hG2, r2, q2, z2, y2, x2⟩
    subst hls
    subst hG2
    have k1 : nI n < nI (nF R C) := nI_lt hn (by omega)
    have p1 := pr_s5 hr di2
    obtain ⟨di3, t1, t2⟩ := c_shortenBy (X := mc_X0 L xs) p1 r2 (k := n) (n := nF R C) (by omega) hn (z2 n hn) q2.1
    rw [List.set_set] at t1
    have ea : ∀ a b, a < nF R C → b < nF R C → eR d2 n (nF R C) 0 a b = min (d2 a b) (d2 a n + d2 n b) := fun a b ha hb => eR_all z2 ha hb
    refine ⟨[.ref 74, .ref 1, .int (nI (n + 1))], _, ⟨rfl, di3, _, rfl, t2, ⟨fun a b ha hb => ?_, fun P hP a b ha hb => ?_⟩, fun a ha => ?_, fun j hj => ?_, fun o ho a b ha hb => ?_⟩, ?_⟩
    · rw [ea a b ha hb, ea b a hb ha, q2.1 a b ha hb, q2.1 a n ha hn, q2.1 n b hn hb]; omega
    · rw [ea a b ha hb]
      have e1 := q2.2 P hP a b ha hb
      have e2 := q2.2 P hP a n ha hn
      have e3 := q2.2 P hP n b hn hb
      omega
    · rw [ea a a ha ha, z2 a ha]; omega
    · have hfj := fs_b hp.1 hj
      rw [ea _ _ hfj.2.2.1 hfj.2.2.2]
      have := y2 j hj
      omega
    · have hoF : o < nF R C := by omega
      rw [ea a b ha hb, ea a o ha hoF, ea o b hoF hb]
      by_cases c : o = n
      · subst c
        have := z2 o hoF
        omega
      · have c1 := x2 o (by omega) a b ha hb
        have c2 := x2 o (by omega) n b hn hb
        have c3 := x2 o (by omega) a n ha hn
        omega
    · rw [h_20_83]
      simp only [e_20, k1, pl_f (plx di2), pr_f (X := mc_X0 L xs) p1, t1, nI_1, Option.bind_some, Option.toList_some, Option.toList_none, List.cons_append, List.nil_append, List.append_nil, List.length_cons, List.length_nil, true_or, or_true, eq_self, b01_0, b01_1, b01_2, b01_3, b01_4, Nat.zero_le, Nat.reduceAdd, Nat.reduceLeDiff, ↓reduceIte, not_true_eq_false, not_false_eq_true, Bool.false_eq_true]) [.ref 74, .ref 1, .int 0] (G.set 75 (.inl (0, 49, di2))) ⟨rfl, di2, d2, rfl, r2, q2, z2, y2, fun o ho => absurd ho (by omega)⟩
  subst hls
  subst hG3
  refine ⟨di3, d3, ?_, r3, z3, fun f hf j hj => ?_, q3.2⟩
  · rw [h0, ev1, h1, ev2, h2, ev3, h_20_83]
    simp only [e_20, pl_f (plx di3), k2, Option.bind_some, Option.toList_some, Option.toList_none, List.cons_append, List.nil_append, List.append_nil, List.length_cons, List.length_nil, true_or, or_true, eq_self, b01_0, b01_1, b01_2, b01_3, b01_4, Nat.zero_le, Nat.reduceAdd, Nat.reduceLeDiff, ↓reduceIte, not_true_eq_false, not_false_eq_true, Bool.false_eq_true]
  · have hfj := fs_b hp.1 hj
    have e1 := y3 j hj
    have e2 := x3 _ hfj.2.2.1 f _ hf hfj.2.2.2
    have e3 := x3 _ hfj.2.2.2 f _ hf hfj.2.2.1
    rw [q3.1 _ _ hfj.2.2.2 hfj.2.2.1] at e3
    omega
end MEAS
