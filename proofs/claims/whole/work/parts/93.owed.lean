/-! what is owed -/
theorem an2 {a b : Bool} (h : (a && b) = true) : a = true ∧ b = true := by rwa [Bool.and_eq_true] at h
theorem st_pv : pv 3 3 495 (fun j => nI (fs 3 3 j)) (fun j => nI (sn 3 3 j)) (fun j => nI (min (s1 3 3 j) (s2 3 3 j))) (fun j => nI (max (s1 3 3 j) (s2 3 3 j))) 0 0 0 z32 z32 := by
  have zz : -1000 ≤ (0 : Int32) ∧ (0 : Int32) ≤ 1000 := by decide
  refine ⟨⟨by decide, by decide, by decide, by decide, by decide⟩, by decide, by decide, by decide, fun j hj => ⟨rfl, rfl, rfl, rfl⟩, fun i hi => ⟨0, by decide, rfl⟩, fun j hj => zz, ?_, by decide, fun i hi hb => ?_⟩
  · have : ∀ i, i < 9 → 495 / 2 ^ i % 2 = if i / 3 = 0 ∨ i / 3 = 3 - 1 ∨ i % 3 = 0 ∨ i % 3 = 3 - 1 then 1 else 0 := by decide
    exact this
  · rw [bt_0] at hb; cases hb
theorem st_inv {G : mc_H} (h1 : ck1 G = true) (h2 : ck2 G = true) (h3 : ck3 G = true) (h4 : ck4 G = true) : Inv G := by
  obtain ⟨a0, h1⟩ := an2 h1
  obtain ⟨a1, h1⟩ := an2 h1
  obtain ⟨a2, h1⟩ := an2 h1
  obtain ⟨a3, h1⟩ := an2 h1
  obtain ⟨a4, h1⟩ := an2 h1
  obtain ⟨a5, h1⟩ := an2 h1
  obtain ⟨a6, h1⟩ := an2 h1
  obtain ⟨a7, h1⟩ := an2 h1
  obtain ⟨a8, a9⟩ := an2 h1
  obtain ⟨b0, h2⟩ := an2 h2
  obtain ⟨b1, b2⟩ := an2 h2
  obtain ⟨c0, h3⟩ := an2 h3
  obtain ⟨c1, h3⟩ := an2 h3
  obtain ⟨c2, h3⟩ := an2 h3
  obtain ⟨c3, h3⟩ := an2 h3
  obtain ⟨c4, h3⟩ := an2 h3
  obtain ⟨c5, c6⟩ := an2 h3
  obtain ⟨d0, h4⟩ := an2 h4
  obtain ⟨d1, h4⟩ := an2 h4
  obtain ⟨d2, h4⟩ := an2 h4
  obtain ⟨d3, h4⟩ := an2 h4
  obtain ⟨d4, h4⟩ := an2 h4
  obtain ⟨d5, h4⟩ := an2 h4
  obtain ⟨d6, h4⟩ := an2 h4
  obtain ⟨d7, h4⟩ := an2 h4
  obtain ⟨d8, h4⟩ := an2 h4
  obtain ⟨d9, h4⟩ := an2 h4
  obtain ⟨d10, h4⟩ := an2 h4
  obtain ⟨d11, h4⟩ := an2 h4
  obtain ⟨d12, h4⟩ := an2 h4
  obtain ⟨d13, d14⟩ := an2 h4
  have b3 : ∀ i, i < 20 → ckO G (12 + 3 * i) 5 [.int 0, .int 0, .int 0, .ref (13 + 3 * i), .ref (14 + 3 * i)] = true ∧ ckA G (13 + 3 * i) 0 12 12 z32 = true ∧ ckA G (14 + 3 * i) 0 17 17 z32 = true := fun i hi => by
    obtain ⟨x, y⟩ := an2 (List.all_eq_true.mp b2 i (List.mem_range.mpr hi))
    exact ⟨x, an2 y⟩
  have c7 : ∀ i, i < 4 → ckO G (78 + 3 * i) 6 [.int 0, .int (-1), .ref (79 + 3 * i), .ref (80 + 3 * i)] = true ∧ ckA G (79 + 3 * i) 0 4 0 z32 = true ∧ ckA G (80 + 3 * i) 0 48 0 z32 = true := fun i hi => by
    obtain ⟨x, y⟩ := an2 (List.all_eq_true.mp c6 i (List.mem_range.mpr hi))
    exact ⟨x, an2 y⟩
  have hJ : nJ 3 3 = 12 := by decide
  have hN : nN 3 3 = 9 := by decide
  have hpv : pv 3 3 495 (arr G 3) (arr G 4) (arr G 5) (arr G 6) 0 0 0 (arr G 8) (arr G 9) := by
    obtain ⟨y1, y2, y3, y4, y5, y6, y7, y8, y9, y10⟩ := st_pv
    refine ⟨y1, y2, y3, y4, fun j hj => ?_, fun i hi => ?_, fun j hj => ?_, y8, y9, fun i hi hb => ?_⟩
    · rw [hJ] at hj
      exact ⟨(ckA_o a3).2 j hj, (ckA_o a4).2 j hj, (ckA_o a5).2 j hj, (ckA_o a6).2 j hj⟩
    · rw [(ckA_o a8).2 i hi]; exact y6 i hi
    · rw [(ckA_o a9).2 j hj]; exact y7 j hj
    · rw [bt_0] at hb; cases hb
  refine inv_mk (G := G) (R := 3) (C := 3) (rim := 495) (TB := 0) (OB := 0) (LB := 0) (stale := 1) (lw := 0) (SZ := 0) (HD := 0) (HP := 0) (nx := 0) (sz := 0) (kq := qar G 11) (hT := fun _ => 0) (hO := fun _ => 0) (hL := fun _ => 0) (hK := fun i => arr G (13 + 3 * i)) (hW := fun i => arr G (14 + 3 * i)) (sq := qar G 77) (sv := fun _ => 0) (rv := fun _ => -1) (le := fun i => arr G (79 + 3 * i)) (nu := fun i => arr G (80 + 3 * i)) (tr := 0) (su := 0) (U := 0) ⟨ckO_o a1, ckO_o a2, (ckA_o a3).1, (ckA_o a4).1, (ckA_o a5).1, (ckA_o a6).1, ckO_o a7, (ckA_o a8).1, (ckA_o a9).1⟩ hpv ⟨ckO_o c0, (ckA_o c1).1⟩ ⟨ckO_o b0, (ckQ_o b1).1, (ckQ_o b1).2, fun i hi => ⟨ckO_o (b3 i hi).1, (ckA_o (b3 i hi).2.1).1, (ckA_o (b3 i hi).2.2).1⟩, by decide, by decide⟩ ⟨(ckQ_o c5).1, (ckQ_o c5).2, fun i hi => ⟨ckO_o (c7 i hi).1, (ckA_o (c7 i hi).2.1).1, (ckA_o (c7 i hi).2.2).1⟩⟩ (ckO_o a0) ⟨ckO_o c2, (ckA_o c3).1, (ckA_o c4).1⟩ ⟨ckO_o d0, (ckA_o d1).1, (ckA_o d2).1, (ckA_o d3).1, (ckA_o d4).1, (ckA_o d5).1, (ckA_o d6).1, (ckA_o d7).1, (ckA_o d8).1, (ckA_o d9).1, (ckA_o d10).1, (ckA_o d11).1, (ckA_o d12).1, (ckA_o d13).1, (ckA_o d14).1⟩ ⟨fun i hi => ?_, fun j hj => ?_⟩ ⟨Or.inl rfl, by decide, by decide⟩ ⟨rfl, fun p hp => ⟨fun i hi => ⟨0, by decide, (ckA_o (b3 p hp).2.1).2 i hi⟩, fun j hj => ?_⟩, fun k hk => absurd hk (by omega)⟩ (fun i hi => Or.inl ⟨rfl, (ckA_o d7).2 i hi⟩)
  · rw [hN] at hi
    unfold gB
    rw [bt_0]
    refine ⟨(ckA_o d1).2 i (by omega), (ckA_o d2).2 i (by omega), (ckA_o d4).2 i (by omega), ?_⟩
    rw [(ckA_o d3).2 i (by omega), (ckA_o a8).2 i (by omega)]
  · rw [hJ] at hj
    rw [(ckA_o d5).2 j (by omega), (ckA_o a9).2 j (by omega)]
  · show -1000 ≤ arr G (14 + 3 * p) j ∧ arr G (14 + 3 * p) j ≤ 1000
    rw [(ckA_o (b3 p hp).2.2).2 j hj]
    show -1000 ≤ (0 : Int32) ∧ (0 : Int32) ≤ 1000
    decide
theorem mc_owed : mc_Owed := by
  intro L xs hL
  have h := st_S
  unfold stK at h
  cases hA : rA1 with
  | none => rw [hA] at h; cases h
  | some q =>
    obtain ⟨v, Ga⟩ := q
    cases v with
    | some w => rw [hA] at h; cases h
    | none =>
    rw [hA] at h
    obtain ⟨l1, h⟩ := an2 h
    have l1 := of_decide_eq_true l1
    cases hB : rB1 Ga with
    | none => rw [hB] at h; cases h
    | some q =>
      obtain ⟨v, Gb⟩ := q
      cases v with
      | some w => rw [hB] at h; cases h
      | none =>
      rw [hB] at h
      obtain ⟨s0, h⟩ := an2 h
      obtain ⟨h1, h⟩ := an2 h
      obtain ⟨h2, h⟩ := an2 h
      obtain ⟨h3, h4⟩ := an2 h
      obtain ⟨s1, s2⟩ := an2 s0
      have s1 := of_decide_eq_true s1
      have s2 := of_decide_eq_true s2
      have hI := st_inv h1 h2 h3 h4
      have eA : mc_ev (mc_X0 L xs) 60 0 [.ref 0, .null] [] [.inr (.inr (7, mc_df 7))] = some (none, Ga) := mc_ev_iff.mpr ⟨_, mc_run1_X _ _ _ _ _ _ _ hA⟩
      have eB : mc_ev (mc_X0 L xs) 111 0 [.ref 90] [] (Ga ++ [.inr (.inr (8, mc_df 8))]) = some (none, Gb) := mc_ev_iff.mpr ⟨_, mc_run1_X _ _ _ _ _ _ _ hB⟩
      obtain ⟨Gf, f1, f2, f3⟩ := all_rows (L0 := L) (xs := xs) (G0 := Gb) hL 512 0 Gb (by omega) (by omega) ⟨hI, rfl, rfl⟩
      refine ⟨Gf, ?_, ?_, ?_⟩
      · rw [← f1]
        unfold lw_fr
        simp only [e_180_0, eA, l1, eB, show nI 0 = (0 : Int32) from rfl, Option.bind_some, Option.toList_some, Option.toList_none, List.cons_append, List.nil_append, List.append_nil, List.length_cons, List.length_nil, true_or, or_true, eq_self, b01_0, b01_1, b01_2, b01_3, b01_4, Nat.zero_le, Nat.reduceAdd, Nat.reduceLeDiff, ↓reduceIte, not_true_eq_false, not_false_eq_true, Bool.false_eq_true]
      · rw [f3.1, s1]; decide
      · rw [f3.2]; omega
