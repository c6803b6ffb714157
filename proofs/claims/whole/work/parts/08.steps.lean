section MCS
variable {z : Nat} {ta : Nat → Nat} {cA : Nat → ClassId} {D : va_G} {X : mc_X}
variable {p : Program} {l : Launch} {e : Env} {R : Room} {s : State} {m : MethodId} {args : Array Value} {below : List Frame} {meth : Method} {c : Code} {H : Heap} {locs : List Loc} {cells slots sl0 : Nat} {Q : State → Prop}
theorem mc_Wsz {g : JFrame} (k : H.size ≤ s.heap.size + cells → W p l e R s m args below meth c H locs cells slots Q g) : W p l e R s m args below meth c H locs cells slots Q g := fun T hT X => k (by rw [← hT]; exact X.heapSize) T hT X
/-- what holds of a frame of method mi -/
def mc_Cx (z : Nat) (ta : Nat → Nat) (cA : Nat → ClassId) (D : va_G) (X : mc_X) (p : Program) (R : Room) (s : State) (m : MethodId) (args : Array Value) (meth : Method) (c : Code) (mi : Nat) : Prop :=
  p.tables.exec = Jvm.exec ∧ c.code = mc_by mi ∧ c.maxLocals = mc_ml mi ∧ s.vm.findClass (mc_nm (mc_own mi)) = some m.cls ∧ (∀ w ∈ mc_Ts, w.before args s = true) ∧ mc_U z ta cA D X s ∧ ((mc_y mi).name = "<init>" → meth.name = "<init>") ∧ mc_rk mi ≤ R.frames ∧ 30 * mc_rk mi ≤ R.locals
theorem mc_fit_ok {ty : FieldType} {v : Value} (h : mc_fit ty v = true) : narrow ty (mc_cv z ta v) = mc_cv z ta v ∧ fits ty (mc_cv z ta v) = true := by
  unfold mc_fit at h
  split at h
  · exact ⟨rfl, rfl⟩
  · rename_i x
    simp only [Bool.or_eq_true, beq_iff_eq] at h
    rcases h with rfl | rfl <;> exact ⟨rfl, rfl⟩
  · exact ⟨rfl, rfl⟩
  · exact ⟨rfl, rfl⟩
  · exact ⟨rfl, rfl⟩
  · cases h
set_option maxHeartbeats 4000000 in
set_option maxRecDepth 100000 in
/-- ONE STEP that stays in its frame -/
theorem mc_step_sound {mi pc pc' : Nat} {E : mc_E} {ls st ls' st' : List Value} {G G' : mc_H} {la : Array Slot} (C : mc_Cx z ta cA D X p R s m args meth c mi) (hE : mc_code mi pc = some E) (h : mc_ex X mi pc E ls st G = some (.inl (pc', ls', st', G')))
    (hP : va_P D vwCl (mc_w z ta cA G) H) (hS : va_S (fun q => z ≤ q) s.heap H locs) (hl : mc_L z ta la (mc_ml mi) ls) (hc : s.heap.size + cells = z + G.length) (hs : sl0 + slots = mc_sl G) (hRc : z + G'.length ≤ s.heap.size + R.cells) (hRs : mc_sl G' ≤ sl0 + R.slots)
    (kk : ∀ (H' : Heap) (locs' : List Loc) (cells' slots' : Nat) (la' : Array Slot), va_P D vwCl (mc_w z ta cA G') H' → va_S (fun q => z ≤ q) s.heap H' locs' → mc_L z ta la' (mc_ml mi) ls' → s.heap.size + cells' = z + G'.length → sl0 + slots' = mc_sl G' → W p l e R s m args below meth c H' locs' cells' slots' Q (F0 m pc' la' (st'.map (mc_cv z ta)))) :
    W p l e R s m args below meth c H locs cells slots Q (F0 m pc la (st.map (mc_cv z ta))) := by
  obtain ⟨hx, hb, hml, hown, hts, hU, hnm, hrf, hrl⟩ := C
  obtain ⟨hd, hk, hln⟩ := mc_dec hE
  have hA : ∀ q : Nat, s.heap.size ≤ q → z ≤ q := fun q hq => Nat.le_trans hU.2.2.2.2.2.2 hq
  have hD := mc_w_D (z := z) (ta := ta) (cA := cA) (G := G)
  have hKK := hU.1
  have jmp : ∀ {off : Int}, mc_jmp pc off = true → (pc : Int) + off = ((mc_tgt pc off : Nat) : Int) := by
    intro off hj
    have hj' : (0 : Int) ≤ (pc : Int) + off := of_decide_eq_true hj
    unfold mc_tgt
    omega
  obtain ⟨ins, len, a, b, w, kc⟩ := E
  dsimp only at hd hk hln h
  unfold mc_ex at h
  dsimp only at h
  split at h
  -- iconst
  · cases h
    cases of_decide_eq_true hln
    exact lv_iconst hx hb hd rfl (kk H locs cells slots la hP hS hl hc hs)
  · cases h
    cases of_decide_eq_true hln
    exact lv_bipush hx hb hd rfl (kk H locs cells slots la hP hS hl hc hs)
  · cases h
    cases of_decide_eq_true hln
    exact lv_sipush hx hb hd rfl (kk H locs cells slots la hP hS hl hc hs)
  · cases h
    cases of_decide_eq_true hln
    exact lv_lconst hx hb hd rfl (kk H locs cells slots la hP hS hl hc hs)
  -- ldc
  · cases h
    cases of_decide_eq_true hln
    exact lv_ldc hx hb hown (hts _ (mc_Ts_in (of_decide_eq_true hk) rfl)) hd (kk H locs cells slots la hP hS hl hc hs)
  · cases h
    cases of_decide_eq_true hln
    exact lv_ldcw hx hb hown (hts _ (mc_Ts_in (of_decide_eq_true hk) rfl)) hd (kk H locs cells slots la hP hS hl hc hs)
  · cases h
    cases of_decide_eq_true hln
    exact lv_ldc2 hx hb hown (hts _ (mc_Ts_in (of_decide_eq_true hk) rfl)) hd (kk H locs cells slots la hP hS hl hc hs)
  -- iload
  · split at h
    · rename_i hv
      cases h
      cases of_decide_eq_true hln
      exact lv_iload_n hx hb hd rfl (hl.at hv (fun q => by cases q)) (kk H locs cells slots la hP hS hl hc hs)
    · cases h
  · split at h
    · rename_i hv
      cases h
      cases of_decide_eq_true hln
      exact lv_iload hx hb hd (hl.at hv (fun q => by cases q)) (kk H locs cells slots la hP hS hl hc hs)
    · cases h
  -- aload
  · split at h
    · rename_i hv
      cases h
      cases of_decide_eq_true hln
      exact lv_aload_n hx hb hd rfl (hl.at hv (fun q => by cases q)) (kk H locs cells slots la hP hS hl hc hs)
    · rename_i hv
      cases h
      cases of_decide_eq_true hln
      exact lv_aload_n hx hb hd rfl (hl.at hv (fun q => by cases q)) (kk H locs cells slots la hP hS hl hc hs)
    · cases h
  · split at h
    · rename_i hv
      cases h
      cases of_decide_eq_true hln
      exact lv_aload hx hb hd (hl.at hv (fun q => by cases q)) (kk H locs cells slots la hP hS hl hc hs)
    · rename_i hv
      cases h
      cases of_decide_eq_true hln
      exact lv_aload hx hb hd (hl.at hv (fun q => by cases q)) (kk H locs cells slots la hP hS hl hc hs)
    · cases h
  -- istore
  · split at h
    · split at h
      · rename_i hlt
        cases h
        cases of_decide_eq_true hln
        exact lv_istore_n hx hb hd rfl hl.has (by rw [← hl.1]; exact hlt) rfl (fun la' h' => kk H locs cells slots la' hP hS (hl.set rfl h') hc hs)
      · cases h
    · cases h
  · split at h
    · split at h
      · rename_i hlt
        cases h
        cases of_decide_eq_true hln
        exact lv_istore hx hb hd hl.has (by rw [← hl.1]; exact hlt) rfl (fun la' h' => kk H locs cells slots la' hP hS (hl.set rfl h') hc hs)
      · cases h
    · cases h
  -- astore
  · split at h
    · split at h
      · rename_i x _ hlt
        cases h
        cases of_decide_eq_true hln
        exact lv_astore_n hx hb hd rfl hl.has (by rw [← hl.1]; exact hlt) rfl (fun la' h' => kk H locs cells slots la' hP hS (hl.set (v := .ref _) rfl h') hc hs)
      · cases h
    · cases h
  · split at h
    · split at h
      · rename_i x _ hlt
        cases h
        cases of_decide_eq_true hln
        exact lv_astore hx hb hd hl.has (by rw [← hl.1]; exact hlt) rfl (fun la' h' => kk H locs cells slots la' hP hS (hl.set (v := .ref _) rfl h') hc hs)
      · cases h
    · cases h
  -- iinc
  · split at h
    · rename_i k n _ x hv
      cases h
      cases of_decide_eq_true hln
      have hlt : k < mc_ml mi := by rw [← hl.1]; exact (List.getElem?_eq_some_iff.mp hv).1
      obtain ⟨j, hj⟩ := List.getElem?_of_mem (mc_as_mem (z := z) (ta := ta) hv (fun q => by cases q))
      exact lv_iinc hx hb hd hl.has hj rfl hlt rfl (fun la' h' => kk H locs cells slots la' hP hS (hl.set (v := .int _) rfl h') hc hs)
    · cases h
  -- arithmetic
  · split at h
    · cases h
      cases of_decide_eq_true hln
      exact lv_iadd hx hb hd (kk H locs cells slots la hP hS hl hc hs)
    · cases h
  · split at h
    · cases h
      cases of_decide_eq_true hln
      exact lv_isub hx hb hd (kk H locs cells slots la hP hS hl hc hs)
    · cases h
  · split at h
    · cases h
      cases of_decide_eq_true hln
      exact lv_imul hx hb hd (kk H locs cells slots la hP hS hl hc hs)
    · cases h
  · split at h
    · cases h
      cases of_decide_eq_true hln
      exact lv_iand hx hb hd (kk H locs cells slots la hP hS hl hc hs)
    · cases h
  · split at h
    · cases h
      cases of_decide_eq_true hln
      exact lv_ior hx hb hd (kk H locs cells slots la hP hS hl hc hs)
    · cases h
  · split at h
    · cases h
      cases of_decide_eq_true hln
      exact lv_ixor hx hb hd (kk H locs cells slots la hP hS hl hc hs)
    · cases h
  · split at h
    · split at h
      · cases h
      · rename_i hne
        cases h
        cases of_decide_eq_true hln
        exact lv_idiv hx hb hd hne (kk H locs cells slots la hP hS hl hc hs)
    · cases h
  · split at h
    · split at h
      · cases h
      · rename_i hne
        cases h
        cases of_decide_eq_true hln
        exact lv_irem hx hb hd hne (kk H locs cells slots la hP hS hl hc hs)
    · cases h
  · split at h
    · cases h
      cases of_decide_eq_true hln
      exact lv_ineg hx hb hd (kk H locs cells slots la hP hS hl hc hs)
    · cases h
  · split at h
    · cases h
      cases of_decide_eq_true hln
      exact lv_ishl hx hb hd (kk H locs cells slots la hP hS hl hc hs)
    · cases h
  · split at h
    · cases h
      cases of_decide_eq_true hln
      exact lv_ishr hx hb hd (kk H locs cells slots la hP hS hl hc hs)
    · cases h
  · split at h
    · cases h
      cases of_decide_eq_true hln
      exact lv_iushr hx hb hd rfl (kk H locs cells slots la hP hS hl hc hs)
    · cases h
  · split at h
    · cases h
      cases of_decide_eq_true hln
      exact lv_i2l hx hb hd rfl (kk H locs cells slots la hP hS hl hc hs)
    · cases h
  · split at h
    · cases h
      cases of_decide_eq_true hln
      exact lv_i2b hx hb hd rfl (kk H locs cells slots la hP hS hl hc hs)
    · cases h
  · split at h
    · cases h
      cases of_decide_eq_true hln
      exact lv_i2s hx hb hd rfl (kk H locs cells slots la hP hS hl hc hs)
    · cases h
  · split at h
    · cases h
      cases of_decide_eq_true hln
      exact lv_ladd hx hb hd (kk H locs cells slots la hP hS hl hc hs)
    · cases h
  · split at h
    · cases h
      cases of_decide_eq_true hln
      exact W.lcmp hx hb hd (kk H locs cells slots la hP hS hl hc hs)
    · cases h
  -- dup
  · split at h
    · split at h
      · rename_i hv
        cases h
        cases of_decide_eq_true hln
        exact lv_dup hx hb hd (by rw [mc_cv_cat]; exact hv) (kk H locs cells slots la hP hS hl hc hs)
      · cases h
    · cases h
  -- ifCond
  · cases of_decide_eq_true hln
    have ht := jmp hk
    split at h
    · split at h
      · exact lv_if_eq hx hb hd ht (fun q => by rw [if_pos q] at h; cases h; exact kk H locs cells slots la hP hS hl hc hs) (fun q => by rw [if_neg q] at h; cases h; exact kk H locs cells slots la hP hS hl hc hs)
      · exact lv_if_ne hx hb hd ht (fun q => by rw [if_neg q] at h; cases h; exact kk H locs cells slots la hP hS hl hc hs) (fun q => by rw [if_pos q] at h; cases h; exact kk H locs cells slots la hP hS hl hc hs)
      · exact lv_if_lt hx hb hd ht (fun q => by rw [if_pos q] at h; cases h; exact kk H locs cells slots la hP hS hl hc hs) (fun q => by rw [if_neg q] at h; cases h; exact kk H locs cells slots la hP hS hl hc hs)
      · exact lv_if_ge hx hb hd ht (fun q => by rw [if_neg (Int32.not_lt.mpr q)] at h; cases h; exact kk H locs cells slots la hP hS hl hc hs) (fun q => by rw [if_pos (Int32.not_le.mp q)] at h; cases h; exact kk H locs cells slots la hP hS hl hc hs)
      · exact lv_if_gt hx hb hd ht (fun q => by rw [if_pos q] at h; cases h; exact kk H locs cells slots la hP hS hl hc hs) (fun q => by rw [if_neg q] at h; cases h; exact kk H locs cells slots la hP hS hl hc hs)
      · exact lv_if_le hx hb hd ht (fun q => by rw [if_neg (Int32.not_lt.mpr q)] at h; cases h; exact kk H locs cells slots la hP hS hl hc hs) (fun q => by rw [if_pos (Int32.not_le.mp q)] at h; cases h; exact kk H locs cells slots la hP hS hl hc hs)
    · cases h
  -- if_icmp
  · cases of_decide_eq_true hln
    have ht := jmp hk
    split at h
    · split at h
      · exact lv_icmp_eq hx hb hd ht (fun q => by rw [if_pos q] at h; cases h; exact kk H locs cells slots la hP hS hl hc hs) (fun q => by rw [if_neg q] at h; cases h; exact kk H locs cells slots la hP hS hl hc hs)
      · exact lv_icmp_ne hx hb hd ht (fun q => by rw [if_neg q] at h; cases h; exact kk H locs cells slots la hP hS hl hc hs) (fun q => by rw [if_pos q] at h; cases h; exact kk H locs cells slots la hP hS hl hc hs)
      · exact lv_icmp_lt hx hb hd ht (fun q => by rw [if_pos q] at h; cases h; exact kk H locs cells slots la hP hS hl hc hs) (fun q => by rw [if_neg q] at h; cases h; exact kk H locs cells slots la hP hS hl hc hs)
      · exact lv_icmp_ge hx hb hd ht (fun q => by rw [if_neg (Int32.not_lt.mpr q)] at h; cases h; exact kk H locs cells slots la hP hS hl hc hs) (fun q => by rw [if_pos (Int32.not_le.mp q)] at h; cases h; exact kk H locs cells slots la hP hS hl hc hs)
      · exact lv_icmp_gt hx hb hd ht (fun q => by rw [if_pos q] at h; cases h; exact kk H locs cells slots la hP hS hl hc hs) (fun q => by rw [if_neg q] at h; cases h; exact kk H locs cells slots la hP hS hl hc hs)
      · exact lv_icmp_le hx hb hd ht (fun q => by rw [if_neg (Int32.not_lt.mpr q)] at h; cases h; exact kk H locs cells slots la hP hS hl hc hs) (fun q => by rw [if_pos (Int32.not_le.mp q)] at h; cases h; exact kk H locs cells slots la hP hS hl hc hs)
    · cases h
  -- goto
  · cases h
    cases of_decide_eq_true hln
    exact lv_goto hx hb hd (jmp hk) (kk H locs cells slots la hP hS hl hc hs)
  -- tableswitch
  · split at h
    · split at h
      · rename_i q
        cases h
        exact lv_tableOut hx hb hd q (jmp hk) (kk H locs cells slots la hP hS hl hc hs)
      · rename_i q
        split at h
        · rename_i off hoff
          split at h
          · rename_i hj
            cases h
            exact lv_tableIn hx hb hd (fun t => q (Or.inl t)) (fun t => q (Or.inr t)) hoff (jmp (decide_eq_true hj)) (kk H locs cells slots la hP hS hl hc hs)
          · cases h
        · cases h
    · cases h
  -- lookupswitch
  · split at h
    · split at h
      · rename_i hj
        cases h
        exact lv_lookup hx hb hd hk rfl (jmp (decide_eq_true hj)) (kk H locs cells slots la hP hS hl hc hs)
      · cases h
    · cases h
  -- getfield
  · split at h
    · rename_i k _
      split at h
      · rename_i v hv
        cases h
        cases of_decide_eq_true hln
        simp only [mc_lk, Bool.and_eq_true, decide_eq_true_eq] at hk
        obtain ⟨⟨hk1, hk2⟩, hk3⟩ := hk
        unfold mc_getf at hv
        split at hv
        · rename_i cc fs hG
          split at hv
          · rename_i he
            subst he
            exact va_get hx hb hts (mc_hin cc hk2) hown hKK hP k (mc_w_at hG) (mc_cl cc hk2) b hk3 (hts _ (mc_Ts_in hk1 rfl)) (fun _ q => q) (by rw [List.getElem?_map, hv]; rfl) hd (kk H locs cells slots la hP hS hl hc hs)
          · cases hv
        · cases hv
      · cases h
    · cases h
  -- putfield
  · split at h
    · rename_i v k _
      split at h
      · rename_i G2 hv
        cases h
        cases of_decide_eq_true hln
        simp only [mc_lk, Bool.and_eq_true, Bool.or_eq_true, Bool.not_eq_true', decide_eq_true_eq] at hk
        obtain ⟨⟨⟨hk1, hk2⟩, hk3⟩, hk4⟩ := hk
        unfold mc_setf at hv
        split at hv
        · rename_i cc fs hG
          split at hv
          · rename_i he
            obtain ⟨he, hlt, hfit⟩ := he
            subst he
            cases hv
            have e1 : ∀ H1 locs1, va_P D vwCl ((mc_w z ta cA G).set k (z + k, .inr (cc, (fs.map (mc_cv z ta)).set b (mc_cv z ta v)))) H1 → va_S (fun q => z ≤ q) s.heap H1 locs1 → W p l e R s m args below meth c H1 locs1 cells slots Q (F0 m (pc + 3) la (st'.map (mc_cv z ta))) := by
              intro H1 locs1 hP1 hS1
              refine kk H1 locs1 cells slots la ?_ hS1 hl (by rw [List.length_set]; exact hc) (by rw [mc_sl_set hG (by simp [mc_sz])]; exact hs)
              rw [← mc_w_set]
              show va_P D vwCl ((mc_w z ta cA G).set k (z + k, .inr (cc, (fs.set b v).map (mc_cv z ta)))) H1
              rw [List.map_set]
              exact hP1
            rcases hk4 with hk4 | ⟨hk4, hk5⟩
            · exact va_put hx hb hts (mc_hin cc hk2) (mc_ty cc) (mc_hty cc hk2) (mc_hnm cc hk2) hown hKK hP hD hS k (mc_w_at hG) (mc_cl cc hk2) b hk3 (hts _ (mc_Ts_in hk1 rfl)) (fun _ q => q) hk4 (mc_hty cc hk2 b hk3) (mc_fit_ok hfit).1 (mc_fit_ok hfit).2 (by rw [List.length_map]; exact hlt) hd (fun H1 locs1 hP1 _ hS1 => e1 H1 locs1 hP1 hS1)
            · cases hfn : (mc_T cc b).2.2.2 with
              | false => exact va_put hx hb hts (mc_hin cc hk2) (mc_ty cc) (mc_hty cc hk2) (mc_hnm cc hk2) hown hKK hP hD hS k (mc_w_at hG) (mc_cl cc hk2) b hk3 (hts _ (mc_Ts_in hk1 rfl)) (fun _ q => q) hfn (mc_hty cc hk2 b hk3) (mc_fit_ok hfit).1 (mc_fit_ok hfit).2 (by rw [List.length_map]; exact hlt) hd (fun H1 locs1 hP1 _ hS1 => e1 H1 locs1 hP1 hS1)
              | true => exact va_putF hx hb hts (mc_hin cc hk2) (mc_ty cc) (mc_hty cc hk2) (mc_hnm cc hk2) hown hKK hP hD hS k (mc_w_at hG) (mc_cl cc hk2) b hk3 (hts _ (mc_Ts_in hk1 rfl)) (fun _ q => q) hfn (hnm hk4) hk5 (mc_hty cc hk2 b hk3) (mc_fit_ok hfit).1 (mc_fit_ok hfit).2 (by rw [List.length_map]; exact hlt) hd (fun H1 locs1 hP1 _ hS1 => e1 H1 locs1 hP1 hS1)
          · cases hv
        · cases hv
      · cases h
    · cases h
  -- getstatic
  · cases h
    cases of_decide_eq_true hln
    simp only [mc_lk, Bool.and_eq_true, decide_eq_true_eq] at hk
    obtain ⟨hk1, hk2⟩ := hk
    have hZ := hU.2.1 a hk2
    have ea : (UInt32.ofNat a).toNat = a := by
      rcases (show a = 0 ∨ a = 1 ∨ a = 2 by omega) with rfl | rfl | rfl <;> rfl
    have kk1 := kk H locs cells slots la hP hS hl hc hs
    have e2 : mc_cv z ta (.float (UInt32.ofNat a)) = .ref (ta a) := by show Value.ref (ta (UInt32.ofNat a).toNat) = _; rw [ea]
    rw [List.map_cons, e2] at kk1
    split at hk1
    · exact va_gets hx hb hZ hS hown (hts _ (mc_Ts_in (of_decide_eq_true hk1) rfl)) (fun _ q => q) hd kk1
    · exact va_getsN hx hb hZ hS hown (va_Nw.use rfl (hU.2.2.2.1 _ _ _ _ _ _ (List.mem_of_getElem? (of_decide_eq_true hk1)))) (fun _ q => q) hd kk1
  -- iaload
  · split at h
    · rename_i i r _
      split at h
      · rename_i x hv
        cases h
        cases of_decide_eq_true hln
        unfold mc_getA at hv
        split at hv
        · rename_i k
          split at hv
          · rename_i t' n f hG
            split at hv
            · rename_i he
              cases hv
              exact va_iald hx hb hKK hP k 0 (mc_w_at hG) (by rw [he.1]; rfl) he.2 hd (kk H locs cells slots la hP hS hl hc hs)
            · cases hv
          · cases hv
        · rename_i wq
          split at hv
          · rename_i he
            cases hv
            exact va_ti hx hb (hU.2.2.1 _ he.2.1) hS he.2.2 rfl hd (kk H locs cells slots la hP hS hl hc hs)
          · cases hv
        · cases hv
      · cases h
    · cases h
  -- baload
  · split at h
    · rename_i i r _
      split at h
      · rename_i x hv
        cases h
        cases of_decide_eq_true hln
        unfold mc_getA at hv
        split at hv
        · rename_i k
          split at hv
          · rename_i t' n f hG
            split at hv
            · rename_i he
              cases hv
              exact va_zald hx hb hKK hP k 1 (mc_w_at hG) (by rw [he.1]; rfl) he.2 hd (kk H locs cells slots la hP hS hl hc hs)
            · cases hv
          · cases hv
        · rename_i wq
          split at hv
          · rename_i he
            exact absurd he.1 (by decide)
          · cases hv
        · cases hv
      · cases h
    · cases h
  -- iastore
  · split at h
    · rename_i x i k _
      split at h
      · rename_i G2 hv
        cases h
        cases of_decide_eq_true hln
        unfold mc_setA at hv
        split at hv
        · rename_i t' n f hG
          split at hv
          · rename_i he
            cases hv
            refine va_iast hx hb hKK hP hD hS k 0 (mc_w_at hG) (by rw [he.1]; rfl) he.2 hd (fun H1 locs1 hP1 _ hS1 => kk H1 locs1 cells slots la ?_ hS1 hl (by rw [List.length_set]; exact hc) (hs.trans (mc_sl_set hG (by rfl)).symm))
            rw [← mc_w_set]
            exact hP1
          · cases hv
        · cases hv
      · cases h
    · cases h
  -- bastore
  · split at h
    · rename_i x i k _
      split at h
      · rename_i G2 hv
        cases h
        cases of_decide_eq_true hln
        unfold mc_setA at hv
        split at hv
        · rename_i t' n f hG
          split at hv
          · rename_i he
            cases hv
            refine va_zast hx hb hKK hP hD hS k 1 (mc_w_at hG) (by rw [he.1]; rfl) he.2 hd (fun H1 locs1 hP1 _ hS1 => kk H1 locs1 cells slots la ?_ hS1 hl (by rw [List.length_set]; exact hc) (hs.trans (mc_sl_set hG (by rfl)).symm))
            rw [← mc_w_set]
            exact hP1
          · cases hv
        · cases hv
      · cases h
    · cases h
  -- arraylength
  · split at h
    · rename_i r _
      split at h
      · rename_i n hv
        cases h
        cases of_decide_eq_true hln
        unfold mc_len at hv
        split at hv
        · rename_i k
          split at hv
          · rename_i t' n f hG
            split at hv
            · rename_i he
              cases hv
              exact va_alen hx hb hKK hP k 0 (mc_w_at hG) (by rw [he]; rfl) rfl hd (kk H locs cells slots la hP hS hl hc hs)
            · cases hv
          · cases hv
        · rename_i wq
          split at hv
          · rename_i he
            cases hv
            exact va_tlen hx hb (hU.2.2.1 _ he) hS rfl hd (kk H locs cells slots la hP hS hl hc hs)
          · cases hv
        · cases hv
      · cases h
    · cases h
  -- aaload
  · split at h
    · rename_i i k _
      split at h
      · rename_i x hv
        cases h
        cases of_decide_eq_true hln
        unfold mc_getQ at hv
        split at hv
        · rename_i t n f hG
          split at hv
          · rename_i he
            have kk1 := kk H locs cells slots la hP hS hl hc hs
            have e1 : va_rf ((fun j => (f j).map (z + ·)) i.toNatClampNeg) = mc_cv z ta (.ref x) := by
              show va_rf ((f i.toNatClampNeg).map (z + ·)) = _
              rw [hv]; rfl
            rw [List.map_cons, ← e1] at kk1
            rcases he.1 with rfl | rfl
            · exact va_aldq (C := RX5) hx hb hKK hP k 2 (mc_w_at hG) rfl he.2 hd kk1
            · exact va_aldq (C := RX6) hx hb hKK hP k 3 (mc_w_at hG) rfl he.2 hd kk1
          · cases hv
        · cases hv
      · cases h
    · cases h
  -- aastore
  · split at h
    · rename_i v i k _
      split at h
      · rename_i G2 hv
        cases h
        cases of_decide_eq_true hln
        unfold mc_setQ at hv
        split at hv
        · rename_i t n f hG
          split at hv
          · rename_i he
            cases hv
            have e1 : ∀ H1 locs1, va_P D vwCl ((mc_w z ta cA G).set k (z + k, .inl (cA t, n, .inr (.inr (.inr (.inr (va_up (fun j => (f j).map (z + ·)) i.toNatClampNeg (some (z + v))))))))) H1 → va_S (fun q => z ≤ q) s.heap H1 locs1 → W p l e R s m args below meth c H1 locs1 cells slots Q (F0 m (pc + 1) la (st'.map (mc_cv z ta))) := by
              intro H1 locs1 hP1 hS1
              refine kk H1 locs1 cells slots la ?_ hS1 hl (by rw [List.length_set]; exact hc) (hs.trans (mc_sl_set hG (by rfl)).symm)
              rw [← mc_w_set]
              have e2 : (fun j => ((va_up f i.toNatClampNeg (some v)) j).map (z + ·)) = va_up (fun j => (f j).map (z + ·)) i.toNatClampNeg (some (z + v)) := by
                funext j
                unfold va_up
                by_cases hj : j = i.toNatClampNeg <;> simp [hj]
              show va_P D vwCl ((mc_w z ta cA G).set k (z + k, .inl (cA t, n, .inr (.inr (.inr (.inr (fun j => ((va_up f i.toNatClampNeg (some v)) j).map (z + ·)))))))) H1
              rw [e2]
              exact hP1
            have e3 : ∀ ci, mc_cls G v = some ci → ∃ fs, G[v]? = some (.inr (.inr (ci, fs))) := by
              intro ci hci
              unfold mc_cls at hci
              split at hci
              · rename_i hv2
                cases hci
                exact ⟨_, hv2⟩
              · cases hci
            rcases he.1 with ⟨rfl, hcl⟩ | ⟨rfl, hcl⟩
            · obtain ⟨fs, hf⟩ := e3 5 hcl
              exact va_astq (r := (RX5, TX5, 5)) hx hb hKK hP hD hS k 2 v 5 (mc_w_at hG) rfl (mc_w_at hf) rfl he.2 hd (fun H1 locs1 hP1 _ hS1 => e1 H1 locs1 hP1 hS1)
            · obtain ⟨fs, hf⟩ := e3 6 hcl
              exact va_astq (r := (RX6, TX6, 4)) hx hb hKK hP hD hS k 3 v 6 (mc_w_at hG) rfl (mc_w_at hf) rfl he.2 hd (fun H1 locs1 hP1 _ hS1 => e1 H1 locs1 hP1 hS1)
          · cases hv
        · cases hv
      · cases h
    · cases h
  -- new
  · cases h
    cases of_decide_eq_true hln
    simp only [mc_lk, Bool.and_eq_true, decide_eq_true_eq] at hk
    obtain ⟨hk1, hk2⟩ := hk
    have hlen : (G ++ [(Sum.inr (Sum.inr (a, mc_df a)) : mc_C)]).length = G.length + 1 := by simp
    rw [hlen] at hRc
    have hdl := mc_dfl a hk2
    rw [mc_sl_app] at hRs
    have hsz : mc_sz (Sum.inr (Sum.inr (a, mc_df a)) : mc_C) = mc_N a := hdl
    rw [hsz] at hRs
    refine va_new (ci := a) hx hb hts (mc_hin a hk2) (mc_ty a) (mc_hty a hk2) hown (hts _ (mc_Ts_in hk1 rfl)) (hts _ (mc_hins a hk2)) (hts _ (mc_hini a hk2)) hKK hP hD hS hA (mc_cl a hk2) (fs := (mc_df a).map (mc_cv z ta)) (mc_dfo a hk2) (by omega) (by omega) hd (fun q H1 hP1 hD1 hS1 => ?_)
    refine mc_Wsz (fun hszH => ?_)
    have hqe := mc_new_at hP1 hD1 (by omega)
    subst hqe
    have kk1 := kk H1 locs (cells + 1) (slots + mc_N a) la (by rw [mc_w_app]; exact hP1) hS1 hl (by rw [hlen]; omega) (by rw [mc_sl_app, hsz]; omega)
    exact kk1
  -- newarray
  · split at h
    · rename_i n st1
      split at h
      · cases h
      · rename_i hn
        cases h
        cases of_decide_eq_true hln
        simp only [mc_lk, decide_eq_true_eq] at hk
        have hlen : (G ++ [(Sum.inl (a, n.toNatClampNeg, fun _ => 0) : mc_C)]).length = G.length + 1 := by simp
        rw [hlen] at hRc
        rw [mc_sl_app] at hRs
        have hsz : mc_sz (Sum.inl (a, n.toNatClampNeg, fun _ => 0) : mc_C) = n.toNatClampNeg := rfl
        rw [hsz] at hRs
        have n0 : ¬ n < 0 := fun q => hn (Or.inl q)
        have n1 : n.toNatClampNeg ≤ 65536 := Nat.not_lt.mp fun q => hn (Or.inr q)
        rcases hk with ⟨rfl, rfl⟩ | ⟨rfl, rfl⟩
        · refine va_newa (a0 := (n.toNatClampNeg, .inl fun _ => 0)) (ty := .int) hx hb (hts _ mc_acI) rfl hKK hP hD hS hA (fun _ => rfl) n0 rfl (by show _ * 4 ≤ _; omega) (by omega) (by omega) hd (fun q cA1 H1 hK1 hP1 hD1 hS1 => ?_)
          have ec : cA1 = cA 0 := by
            have g1 : va_RA s cA1 .int := (hK1.2 4 _ rfl).2
            have g0 : va_RA s (cA 0) .int := (hKK.2 0 _ rfl).2
            exact Option.some.inj ((show _ = some cA1 from g1).symm.trans g0)
          subst ec
          refine mc_Wsz (fun hszH => ?_)
          have hqe := mc_new_at hP1 hD1 (by omega)
          subst hqe
          exact kk H1 locs (cells + 1) (slots + n.toNatClampNeg) la (by rw [mc_w_app]; exact hP1) hS1 hl (by rw [hlen]; omega) (by rw [mc_sl_app, hsz]; omega)
        · refine va_newa (a0 := (n.toNatClampNeg, .inl fun _ => 0)) (ty := .boolean) hx hb (hts _ mc_acZ) rfl hKK hP hD hS hA (fun _ => rfl) n0 rfl (by show _ * 1 ≤ _; omega) (by omega) (by omega) hd (fun q cA1 H1 hK1 hP1 hD1 hS1 => ?_)
          have ec : cA1 = cA 1 := by
            have g1 : va_RA s cA1 .boolean := (hK1.2 4 _ rfl).2
            have g0 : va_RA s (cA 1) .boolean := (hKK.2 1 _ rfl).2
            exact Option.some.inj ((show _ = some cA1 from g1).symm.trans g0)
          subst ec
          refine mc_Wsz (fun hszH => ?_)
          have hqe := mc_new_at hP1 hD1 (by omega)
          subst hqe
          exact kk H1 locs (cells + 1) (slots + n.toNatClampNeg) la (by rw [mc_w_app]; exact hP1) hS1 hl (by rw [hlen]; omega) (by rw [mc_sl_app, hsz]; omega)
    · cases h
  -- anewarray
  · split at h
    · rename_i n st1
      split at h
      · cases h
      · rename_i hn
        cases h
        cases of_decide_eq_true hln
        simp only [mc_lk, Bool.and_eq_true, decide_eq_true_eq] at hk
        obtain ⟨hk1, hk2⟩ := hk
        have hlen : (G ++ [(Sum.inr (Sum.inl (a, n.toNatClampNeg, fun _ => none)) : mc_C)]).length = G.length + 1 := by simp
        rw [hlen] at hRc
        rw [mc_sl_app] at hRs
        have hsz : mc_sz (Sum.inr (Sum.inl (a, n.toNatClampNeg, fun _ => none)) : mc_C) = n.toNatClampNeg := rfl
        rw [hsz] at hRs
        have n0 : ¬ n < 0 := fun q => hn (Or.inl q)
        have n1 : n.toNatClampNeg ≤ 65536 := Nat.not_lt.mp fun q => hn (Or.inr q)
        have go : ∀ (t : Nat) (Cn : String), (t, Cn) = (2, RX5) ∨ (t, Cn) = (3, RX6) → va_AO Cn s → mc_an t = Cn → t = a → W p l e R s m args below meth c H locs cells slots Q (F0 m pc la ((.int n :: st1).map (mc_cv z ta))) := by
          intro t Cn ht hAO hCn hta
          subst hta
          refine va_newq (C := Cn) hx hb hown (hts _ (mc_Ts_in hk1 rfl |> fun q => by rw [hCn] at q; exact q)) hAO hKK hP hD hS hA n0 rfl (by omega) (by omega) (by omega) hd (fun q cA1 H1 hK1 hP1 hD1 hS1 => ?_)
          have ec : cA1 = cA t := by
            obtain ⟨_, _, _, _, _, g1⟩ : va_RA s cA1 (.object Cn) := (hK1.2 4 _ rfl).2
            rcases ht with ht | ht
            · cases ht
              obtain ⟨_, _, _, _, _, g0⟩ : va_RA s (cA 2) (.object RX5) := (hKK.2 2 _ rfl).2
              exact Option.some.inj (g1.symm.trans g0)
            · cases ht
              obtain ⟨_, _, _, _, _, g0⟩ : va_RA s (cA 3) (.object RX6) := (hKK.2 3 _ rfl).2
              exact Option.some.inj (g1.symm.trans g0)
          subst ec
          refine mc_Wsz (fun hszH => ?_)
          have hqe := mc_new_at hP1 hD1 (by omega)
          subst hqe
          exact kk H1 locs (cells + 1) (slots + n.toNatClampNeg) la (by rw [mc_w_app]; exact hP1) hS1 hl (by rw [hlen]; omega) (by rw [mc_sl_app, hsz]; omega)
        rcases hk2 with rfl | rfl
        · exact go 2 RX5 (Or.inl rfl) hU.2.2.2.2.2.1.1 rfl rfl
        · exact go 3 RX6 (Or.inr rfl) hU.2.2.2.2.2.1.2 rfl rfl
    · cases h
  -- invokespecial
  · split at h
    · rename_i ha
      subst ha
      split at h
      · rename_i k rest
        split at h
        · rename_i hr4
          cases h
          cases of_decide_eq_true hln
          simp only [mc_lk, if_true, Bool.and_eq_true, decide_eq_true_eq] at hk
          obtain ⟨hk1, hk2⟩ := hk
          exact W.objInit hx hb hown (hts _ (mc_Ts_in hk1 rfl)) (hts _ mc_oi1) (hts _ mc_oi2) rfl (by rw [hml]; exact hl.2.1) rfl hd (by omega) (by show 2 * 0 + _ + 12 ≤ _; have := mc_cats (z := z) (ta := ta) hr4; omega) (kk H locs cells slots la hP hS hl hc hs)
        · cases h
      · cases h
    · split at h
      · split at h <;> cases h
      · cases h
  -- invokevirtual
  · split at h
    · split at h <;> cases h
    · cases h
  -- invokestatic
  · split at h
    · rename_i ha
      subst ha
      split at h
      · rename_i n dp aa sp a0 rest
        split at h
        · rename_i hr4
          split at h
          · rename_i G2 hv
            cases h
            cases of_decide_eq_true hln
            simp only [mc_lk, if_true, Bool.and_eq_true, decide_eq_true_eq] at hk
            obtain ⟨hk1, hk2⟩ := hk
            unfold mc_cpy at hv
            split at hv
            · rename_i t0 n0 f t1 n1 g hG0 hG1
              split at hv
              · rename_i he
                obtain ⟨e0, e1, e2, e3, e4, e5, e6⟩ := he
                cases hv
                have h7 : nativeFrameWords "java/lang/System" "arraycopy" 5 = 7 := by decide +kernel
                have h8 := mc_cats (z := z) (ta := ta) hr4
                refine va_copyi (ty := .int) hx hb (by rw [hml]; exact hl.2.1.symm) hown (hts _ (mc_Ts_in hk1 rfl)) (hts _ mc_ac1) (hts _ mc_ac2) (hts _ mc_ac3) hKK hP hD hS a0 aa 0 0 (mc_w_at hG0) (mc_w_at hG1) (by rw [e0]; rfl) (by rw [e1]; rfl) rfl e2 e3 e4 e5 e6 (fun _ _ => rfl) (by omega) (by rw [h7]; omega) hd (fun H1 locs1 hP1 _ hS1 => kk H1 locs1 cells slots la ?_ hS1 hl (by rw [List.length_set]; exact hc) (hs.trans (mc_sl_set hG1 (by rfl)).symm))
                rw [← mc_w_set]
                exact hP1
              · cases hv
            · cases hv
          · cases h
        · cases h
      · cases h
    · split at h
      · rename_i ha
        subst ha
        split at h
        · rename_i x rest
          split at h
          · rename_i hr4
            cases h
            cases of_decide_eq_true hln
            simp only [mc_lk, Bool.and_eq_true, decide_eq_true_eq] at hk
            rw [if_neg (by decide)] at hk
            simp only [Bool.and_eq_true, decide_eq_true_eq] at hk
            obtain ⟨⟨⟨hk1, hk2⟩, hk3⟩, hk4⟩ := hk
            have hk3 : 1 < mc_rk mi := hk3
            exact va_mabs hx hb (by rw [hml]; exact hl.2.1.symm) hown (hts _ (mc_Ts_in hk1 rfl)) (hts _ mc_Mabs1) (hts _ mc_Mi) (hts _ mc_Mabs2) (by omega) (by have := mc_cats (z := z) (ta := ta) hr4; omega) (by omega) (by omega) hd (kk H locs cells slots la hP hS hl hc hs)
          · cases h
        · cases h
      · split at h
        · rename_i ha
          subst ha
          split at h
          · rename_i y x rest
            split at h
            · rename_i hr4
              cases h
              cases of_decide_eq_true hln
              simp only [mc_lk, Bool.and_eq_true, decide_eq_true_eq] at hk
              rw [if_neg (by decide)] at hk
              simp only [Bool.and_eq_true, decide_eq_true_eq] at hk
              obtain ⟨⟨⟨hk1, hk2⟩, hk3⟩, hk4⟩ := hk
              have hk3 : 1 < mc_rk mi := hk3
              exact va_mmax hx hb (by rw [hml]; exact hl.2.1.symm) hown (hts _ (mc_Ts_in hk1 rfl)) (hts _ mc_Mmax1) (hts _ mc_Mi) (hts _ mc_Mmax2) (by omega) (by have := mc_cats (z := z) (ta := ta) hr4; omega) (by omega) (by omega) hd (kk H locs cells slots la hP hS hl hc hs)
            · cases h
          · cases h
        · split at h
          · rename_i ha
            subst ha
            split at h
            · rename_i y x rest
              split at h
              · rename_i hr4
                cases h
                cases of_decide_eq_true hln
                simp only [mc_lk, Bool.and_eq_true, decide_eq_true_eq] at hk
                rw [if_neg (by decide)] at hk
                simp only [Bool.and_eq_true, decide_eq_true_eq] at hk
                obtain ⟨⟨⟨hk1, hk2⟩, hk3⟩, hk4⟩ := hk
                have hk3 : 1 < mc_rk mi := hk3
                exact va_mmin hx hb (by rw [hml]; exact hl.2.1.symm) hown (hts _ (mc_Ts_in hk1 rfl)) (hts _ mc_Mmin1) (hts _ mc_Mi) (hts _ mc_Mmin2) (by omega) (by have := mc_cats (z := z) (ta := ta) hr4; omega) (by omega) (by omega) hd (kk H locs cells slots la hP hS hl hc hs)
              · cases h
            · cases h
          · split at h <;> cases h
  -- ends
  · split at h
    · split at h <;> cases h
    · cases h
  · split at h
    · split at h <;> cases h
    · cases h
  · split at h <;> cases h
  · split at h
    · split at h <;> cases h
    · cases h
  · cases h
end MCS
