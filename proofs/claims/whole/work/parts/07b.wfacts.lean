theorem mc_Ts_in {w : Cond} {i : Nat} (h : lw_tbl[i]? = some w) (hg : goodWord w = true) : w ∈ mc_Ts := List.mem_filter.mpr ⟨List.mem_of_getElem? h, hg⟩
theorem mc_cl : ∀ ci, ci < 9 → vwCl[ci]? = some (mc_nm ci, mc_T ci, mc_N ci) := by
  intro ci h
  rcases (show ci = 0 ∨ ci = 1 ∨ ci = 2 ∨ ci = 3 ∨ ci = 4 ∨ ci = 5 ∨ ci = 6 ∨ ci = 7 ∨ ci = 8 by omega) with rfl | rfl | rfl | rfl | rfl | rfl | rfl | rfl | rfl
  · rfl
  · rfl
  · rfl
  · rfl
  · rfl
  · rfl
  · rfl
  · rfl
  · rfl
theorem mc_in_Ts {ws : List Cond} (h1 : ∀ w ∈ ws, w ∈ lw_tbl) (h2 : ws.all goodWord = true) : ∀ w ∈ ws, w ∈ mc_Ts := fun w hw => List.mem_filter.mpr ⟨h1 w hw, List.all_eq_true.mp h2 w hw⟩
theorem mc_hin : ∀ ci, ci < 9 → ∀ w ∈ u_ws (mc_nm ci) (mc_T ci) (mc_N ci), w ∈ mc_Ts := by
  intro ci h
  rcases (show ci = 0 ∨ ci = 1 ∨ ci = 2 ∨ ci = 3 ∨ ci = 4 ∨ ci = 5 ∨ ci = 6 ∨ ci = 7 ∨ ci = 8 by omega) with rfl | rfl | rfl | rfl | rfl | rfl | rfl | rfl | rfl
  · exact mc_in_Ts iX0 (by decide +kernel)
  · exact mc_in_Ts iX1 (by decide +kernel)
  · exact mc_in_Ts iX2 (by decide +kernel)
  · exact mc_in_Ts iX3 (by decide +kernel)
  · exact mc_in_Ts iX4 (by decide +kernel)
  · exact mc_in_Ts iX5 (by decide +kernel)
  · exact mc_in_Ts iX6 (by decide +kernel)
  · exact mc_in_Ts iX7 (by decide +kernel)
  · exact mc_in_Ts iX8 (by decide +kernel)
theorem mc_hty : ∀ ci, ci < 9 → ∀ k, k < mc_N ci → parseFieldDescriptor (mc_T ci k).2.2.1 = some (mc_ty ci k) := by
  intro ci h
  rcases (show ci = 0 ∨ ci = 1 ∨ ci = 2 ∨ ci = 3 ∨ ci = 4 ∨ ci = 5 ∨ ci = 6 ∨ ci = 7 ∨ ci = 8 by omega) with rfl | rfl | rfl | rfl | rfl | rfl | rfl | rfl | rfl
  · exact tyX0_ok
  · exact tyX1_ok
  · exact tyX2_ok
  · exact tyX3_ok
  · exact tyX4_ok
  · exact tyX5_ok
  · exact tyX6_ok
  · exact tyX7_ok
  · exact tyX8_ok
theorem mc_hnm : ∀ ci, ci < 9 → ∀ a, a < mc_N ci → ∀ b, b < mc_N ci → a ≠ b → (mc_T ci a).2.1 ≠ (mc_T ci b).2.1 := by
  intro ci h
  rcases (show ci = 0 ∨ ci = 1 ∨ ci = 2 ∨ ci = 3 ∨ ci = 4 ∨ ci = 5 ∨ ci = 6 ∨ ci = 7 ∨ ci = 8 by omega) with rfl | rfl | rfl | rfl | rfl | rfl | rfl | rfl | rfl
  · exact nmX0
  · exact nmX1
  · exact nmX2
  · exact nmX3
  · exact nmX4
  · exact nmX5
  · exact nmX6
  · exact nmX7
  · exact nmX8
theorem mc_hins : ∀ ci, ci < 9 → Cond.instantiable (mc_nm ci) (mc_N ci) ∈ mc_Ts := by
  intro ci h
  rcases (show ci = 0 ∨ ci = 1 ∨ ci = 2 ∨ ci = 3 ∨ ci = 4 ∨ ci = 5 ∨ ci = 6 ∨ ci = 7 ∨ ci = 8 by omega) with rfl | rfl | rfl | rfl | rfl | rfl | rfl | rfl | rfl
  · exact mc_Ts_in (i := 72) (by decide +kernel) rfl
  · exact mc_Ts_in (i := 178) (by decide +kernel) rfl
  · exact mc_Ts_in (i := 198) (by decide +kernel) rfl
  · exact mc_Ts_in (i := 225) (by decide +kernel) rfl
  · exact mc_Ts_in (i := 66) (by decide +kernel) rfl
  · exact mc_Ts_in (i := 133) (by decide +kernel) rfl
  · exact mc_Ts_in (i := 239) (by decide +kernel) rfl
  · exact mc_Ts_in (i := 58) (by decide +kernel) rfl
  · exact mc_Ts_in (i := 748) (by decide +kernel) rfl
theorem mc_hini : ∀ ci, ci < 9 → Cond.initialized (mc_nm ci) ∈ mc_Ts := by
  intro ci h
  rcases (show ci = 0 ∨ ci = 1 ∨ ci = 2 ∨ ci = 3 ∨ ci = 4 ∨ ci = 5 ∨ ci = 6 ∨ ci = 7 ∨ ci = 8 by omega) with rfl | rfl | rfl | rfl | rfl | rfl | rfl | rfl | rfl
  · exact mc_Ts_in (i := 46) (by decide +kernel) rfl
  · exact mc_Ts_in (i := 48) (by decide +kernel) rfl
  · exact mc_Ts_in (i := 49) (by decide +kernel) rfl
  · exact mc_Ts_in (i := 50) (by decide +kernel) rfl
  · exact mc_Ts_in (i := 45) (by decide +kernel) rfl
  · exact mc_Ts_in (i := 47) (by decide +kernel) rfl
  · exact mc_Ts_in (i := 51) (by decide +kernel) rfl
  · exact mc_Ts_in (i := 44) (by decide +kernel) rfl
  · exact mc_Ts_in (i := 53) (by decide +kernel) rfl
theorem mc_dfl : ∀ ci, ci < 9 → (mc_df ci).length = mc_N ci := by
  intro ci h
  rcases (show ci = 0 ∨ ci = 1 ∨ ci = 2 ∨ ci = 3 ∨ ci = 4 ∨ ci = 5 ∨ ci = 6 ∨ ci = 7 ∨ ci = 8 by omega) with rfl | rfl | rfl | rfl | rfl | rfl | rfl | rfl | rfl
  · rfl
  · rfl
  · rfl
  · rfl
  · rfl
  · rfl
  · rfl
  · rfl
  · rfl
theorem mc_dfo0 : ∀ ci, ci < 9 → ∀ j, j < mc_N ci → defaultValue (mc_ty ci j) = vp_V (mc_df ci) j := by
  intro ci h
  rcases (show ci = 0 ∨ ci = 1 ∨ ci = 2 ∨ ci = 3 ∨ ci = 4 ∨ ci = 5 ∨ ci = 6 ∨ ci = 7 ∨ ci = 8 by omega) with rfl | rfl | rfl | rfl | rfl | rfl | rfl | rfl | rfl
  · decide +kernel
  · decide +kernel
  · decide +kernel
  · decide +kernel
  · decide +kernel
  · decide +kernel
  · decide +kernel
  · decide +kernel
  · decide +kernel
theorem mc_dfc (z : Nat) (ta : Nat → Nat) : ∀ ci, (mc_df ci).map (mc_cv z ta) = mc_df ci := by
  intro ci
  unfold mc_df
  split <;> rfl
theorem mc_dfo {z : Nat} {ta : Nat → Nat} (ci : Nat) (h : ci < 9) (j : Nat) (hj : j < mc_N ci) : defaultValue (mc_ty ci j) = vp_V ((mc_df ci).map (mc_cv z ta)) j := by
  rw [mc_dfc]; exact mc_dfo0 ci h j hj
theorem mc_acI : Cond.arrayClass (newarray.typeOf .int) ∈ mc_Ts := mc_Ts_in (i := 131) (by decide +kernel) rfl
theorem mc_acZ : Cond.arrayClass (newarray.typeOf .boolean) ∈ mc_Ts := mc_Ts_in (i := 814) (by decide +kernel) rfl
theorem mc_oi1 : Cond.instanceMethod Lib.objectInit ∈ mc_Ts := mc_Ts_in (i := 63) (by decide +kernel) rfl
theorem mc_oi2 : Cond.code Lib.objectInit ⟨#[0xb1]⟩ 1 none ∈ mc_Ts := mc_Ts_in (i := 64) (by decide +kernel) rfl
theorem mc_ac1 : Cond.native arraycopyName ∈ mc_Ts := mc_Ts_in (i := 344) (by decide +kernel) rfl
theorem mc_ac2 : Cond.static arraycopyName ∈ mc_Ts := mc_Ts_in (i := 343) (by decide +kernel) rfl
theorem mc_Mabs1 : Cond.static Lib.Math.abs.name ∈ mc_Ts := mc_Ts_in (i := 409) (by decide +kernel) rfl
theorem mc_Mabs2 : Cond.code Lib.Math.abs.name Lib.Math.abs.code 1 (some .int) ∈ mc_Ts := mc_Ts_in (i := 410) (by decide +kernel) rfl
theorem mc_Mmax1 : Cond.static Lib.Math.max.name ∈ mc_Ts := mc_Ts_in (i := 279) (by decide +kernel) rfl
theorem mc_Mmax2 : Cond.code Lib.Math.max.name Lib.Math.max.code 2 (some .int) ∈ mc_Ts := mc_Ts_in (i := 280) (by decide +kernel) rfl
theorem mc_Mmin1 : Cond.static Lib.Math.min.name ∈ mc_Ts := mc_Ts_in (i := 276) (by decide +kernel) rfl
theorem mc_Mmin2 : Cond.code Lib.Math.min.name Lib.Math.min.code 2 (some .int) ∈ mc_Ts := mc_Ts_in (i := 277) (by decide +kernel) rfl
theorem mc_Mi : Cond.initialized "java/lang/Math" ∈ mc_Ts := mc_Ts_in (i := 52) (by decide +kernel) rfl
theorem mc_ac3 : Cond.initialized "java/lang/System" ∈ mc_Ts := mc_Ts_in (i := 55) (by decide +kernel) rfl
theorem mc_new_at {z q : Nat} {ta : Nat → Nat} {cA : Nat → ClassId} {D : va_G} {G : mc_H} {e : va_E} {H1 : Heap} (hP : va_P D vwCl (mc_w z ta cA G ++ [(q, e)]) H1) (hD : va_D (fun q => z ≤ q) (mc_w z ta cA G ++ [(q, e)])) (hs : H1.size ≤ z + G.length + 1) : q = z + G.length := by
  have hi : (mc_w z ta cA G ++ [(q, e)])[G.length]? = some (q, e) := by
    rw [List.getElem?_append_right (by rw [mc_w_len]; exact Nat.le_refl _), mc_w_len]; simp
  have h1 := (hP _ _ hi).lt
  have h2 : z ≤ q := hD.2 _ _ hi
  dsimp only at h1
  rcases Nat.lt_or_ge q (z + G.length) with hlt | hge
  · have hk : q - z < G.length := by omega
    have hj : (mc_w z ta cA G ++ [(q, e)])[q - z]? = some (z + (q - z), mc_ce z ta cA G[q - z]) := by
      rw [List.getElem?_append_left (by rw [mc_w_len]; exact hk)]
      exact mc_w_at (List.getElem?_eq_getElem hk)
    have := hD.1 _ _ _ _ hi hj (by show q = z + (q - z); omega)
    omega
  · omega
theorem mc_cats0 : ∀ (vs : List Value), (vs.map fun v => v.category).sum ≤ 2 * vs.length
  | [] => by simp
  | v :: vs => by
    have := mc_cats0 vs
    have hv : v.category ≤ 2 := by cases v <;> simp [Value.category]
    simp only [List.map_cons, List.sum_cons, List.length_cons]
    omega
theorem mc_cats {z : Nat} {ta : Nat → Nat} {rest : List Value} (h : rest.length ≤ 4) : ((rest.map (mc_cv z ta)).map fun v => v.category).sum ≤ 8 := by
  have := mc_cats0 (rest.map (mc_cv z ta))
  rw [List.length_map] at this
  omega
